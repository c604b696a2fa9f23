/-! THE CLASS'S CASTER -/
/-- invariants along a loop -/
theorem lpI {σ : Type} (L : Nat → σ → Prop) (I : Nat → σ → Prop) (N : Nat) (hx : ∀ n s, I N s → L (n + 1) s) (hs : ∀ n k s, k < N → I k s → (∀ s', I (k + 1) s' → L n s') → L (n + 1) s) (s : σ) (h0 : I 0 s) : ∃ n, L n s := by
  have key : ∀ d k s, k + d = N → I k s → L (d + 1) s := by
    intro d
    induction d with
    | zero => intro k s hk h; exact hx 0 s (by rw [show N = k by omega]; exact h)
    | succ d ih => intro k s hk h; exact hs (d + 1) k s (by omega) h (fun s' h' => ih (k + 1) s' (by omega) h')
  exact ⟨N + 1, key N 0 s (by omega) h0⟩
theorem FrI.k {R : Nat → Prop} {M M' : Mm} (f : FrI R M M') : zk M' = zk M := f.2.1
theorem FrI.l {R : Nat → Prop} {M M' : Mm} (f : FrI R M M') : zl M' = zl M := f.2.2.1
theorem FrI.r {R : Nat → Prop} {M M' : Mm} (f : FrI R M M') : zR M' = zR M := f.2.2.2.2.1
theorem FrI.j {R : Nat → Prop} {M M' : Mm} (f : FrI R M M') : zJ M' = zJ M := f.2.2.2.1
theorem FrI.n {R : Nat → Prop} {M M' : Mm} (f : FrI R M M') : zn M' = zn M := f.1
theorem FrI.i {R : Nat → Prop} {M M' : Mm} (f : FrI R M M') {b : Nat} (h : ¬ R b) : zI M' b = zI M b := f.2.2.2.2.2 b h
theorem SeaSh.fr {R : Nat → Prop} {M M' : Mm} {sa : Nat} (h : SeaSh sa M) (f : FrI R M M') : SeaSh sa M' := by
  unfold SeaSh at h ⊢
  rw [f.k, f.l, f.r]; exact h
theorem CSea.fr {R : Nat → Prop} {M M' : Mm} {sa : Nat} {sg : Nat → Nat} (h : CSea sa sg M) (f : FrI R M M') (d : ∀ b, sa ≤ b → b ≤ sa + 20 → ¬ R b) : CSea sa sg M' := by
  have e : ∀ i, i ≤ 20 → zI M' (sa + i) = zI M (sa + i) := fun i hi => f.i (d _ (by omega) (by omega))
  have e0 : zI M' sa = zI M sa := e 0 (by omega)
  obtain ⟨h1, h2⟩ := h
  refine ⟨h1.fr f, ?_⟩
  rw [e0, e 1 (by omega), e 3 (by omega), e 4 (by omega), e 7 (by omega), e 8 (by omega), e 9 (by omega), e 10 (by omega), e 11 (by omega), e 13 (by omega), e 15 (by omega), e 16 (by omega), e 17 (by omega), e 18 (by omega), e 19 (by omega), e 20 (by omega)]
  exact h2
theorem CPl.fr {R : Nat → Prop} {M M' : Mm} {a : Nat} {sg pl : Nat → Nat} (h : CPl a sg pl M) (f : FrI R M M') (d : ∀ b, a ≤ b → b ≤ a + 6 → ¬ R b) : CPl a sg pl M' := by
  have e : ∀ i, i ≤ 6 → zI M' (a + i) = zI M (a + i) := fun i hi => f.i (d _ (by omega) (by omega))
  have e0 : zI M' a = zI M a := e 0 (by omega)
  obtain ⟨h1, h2⟩ := h
  refine ⟨h1.fr f, ?_⟩
  rw [e0, e 1 (by omega), e 2 (by omega), e 3 (by omega), e 4 (by omega), e 5 (by omega), e 6 (by omega)]
  exact h2
theorem XR.fr {R : Nat → Prop} {M M' : Mm} {x sa : Nat} (h : XR x sa M) (f : FrI R M M') : XR x sa M' := by
  unfold XR at h ⊢
  rw [f.k, f.r]; exact h
/-- the caster at y -/
def KS (y : Nat) (M : Mm) : Prop := zk M y = 1 ∧ zR M y 0 = some (y + 1) ∧ zR M y 1 = some (y + 2) ∧ zR M y 2 = some (y + 3) ∧ zk M (y + 1) = 10 ∧ zl M (y + 1) = 6 ∧ zk M (y + 2) = 10 ∧ zl M (y + 2) = 256 ∧ zk M (y + 3) = 10 ∧ zl M (y + 3) = 256
theorem KS.fr {R : Nat → Prop} {M M' : Mm} {y : Nat} (h : KS y M) (f : FrI R M M') : KS y M' := by
  unfold KS at h ⊢
  rw [f.k, f.l, f.r]; exact h
theorem zI_sI1 (M : Mm) (a i : Nat) (x : Int32) : zI (sI M a i x) a i = x := if_pos ⟨rfl, rfl⟩
theorem zI_sI2 (M : Mm) (a i : Nat) (x : Int32) {j : Nat} (h : j ≠ i) : zI (sI M a i x) a j = zI M a j := if_neg fun q => h q.2
theorem zI_sIo (M : Mm) (a i : Nat) (x : Int32) {b : Nat} (h : b ≠ a) : zI (sI M a i x) b = zI M b := by
  funext j; rw [zI_sIq, if_neg fun q => h q.1]
/-- who is next is always one of eight -/
def KP (y : Nat) (M : Mm) : Prop := ∀ S, S < 256 → ∃ p, p < 8 ∧ zI M (y + 3) S = nI p
theorem KP.e {y : Nat} {M M' : Mm} (h : KP y M) (e : zI M' (y + 3) = zI M (y + 3)) : KP y M' := fun S hS => by rw [e]; exact h S hS
theorem KP.fr {R : Nat → Prop} {y : Nat} {M M' : Mm} (h : KP y M) (f : FrI R M M') (d : ¬ R (y + 3)) : KP y M' := h.e (f.i d)
theorem KP.set {y S p : Nat} {M : Mm} (h : KP y M) (hp : p < 8) : KP y (sI M (y + 3) S (nI p)) := fun T hT => by
  by_cases e : T = S
  · subst e; exact ⟨p, hp, zI_sI1 _ _ _ _⟩
  · rw [zI_sI2 _ _ _ _ e]; exact h T hT
/-- how many bits -/
def pc (S : Nat) : Nat := fo (fun i n => if S.testBit i = true then n + 1 else n) 8 0
def bcx (x0 : Int32) : Int32 := ((((((((x0 - ((x0.toUInt32 >>> ((1 : Int32).toUInt32 &&& Int32.toUInt32 31)).toInt32 &&& (1431655765 : Int32))) &&& (858993459 : Int32)) + (((x0 - ((x0.toUInt32 >>> ((1 : Int32).toUInt32 &&& Int32.toUInt32 31)).toInt32 &&& (1431655765 : Int32))).toUInt32 >>> ((2 : Int32).toUInt32 &&& Int32.toUInt32 31)).toInt32 &&& (858993459 : Int32))) + ((((x0 - ((x0.toUInt32 >>> ((1 : Int32).toUInt32 &&& Int32.toUInt32 31)).toInt32 &&& (1431655765 : Int32))) &&& (858993459 : Int32)) + (((x0 - ((x0.toUInt32 >>> ((1 : Int32).toUInt32 &&& Int32.toUInt32 31)).toInt32 &&& (1431655765 : Int32))).toUInt32 >>> ((2 : Int32).toUInt32 &&& Int32.toUInt32 31)).toInt32 &&& (858993459 : Int32))).toUInt32 >>> ((4 : Int32).toUInt32 &&& Int32.toUInt32 31)).toInt32) &&& (252645135 : Int32)) + ((((((x0 - ((x0.toUInt32 >>> ((1 : Int32).toUInt32 &&& Int32.toUInt32 31)).toInt32 &&& (1431655765 : Int32))) &&& (858993459 : Int32)) + (((x0 - ((x0.toUInt32 >>> ((1 : Int32).toUInt32 &&& Int32.toUInt32 31)).toInt32 &&& (1431655765 : Int32))).toUInt32 >>> ((2 : Int32).toUInt32 &&& Int32.toUInt32 31)).toInt32 &&& (858993459 : Int32))) + ((((x0 - ((x0.toUInt32 >>> ((1 : Int32).toUInt32 &&& Int32.toUInt32 31)).toInt32 &&& (1431655765 : Int32))) &&& (858993459 : Int32)) + (((x0 - ((x0.toUInt32 >>> ((1 : Int32).toUInt32 &&& Int32.toUInt32 31)).toInt32 &&& (1431655765 : Int32))).toUInt32 >>> ((2 : Int32).toUInt32 &&& Int32.toUInt32 31)).toInt32 &&& (858993459 : Int32))).toUInt32 >>> ((4 : Int32).toUInt32 &&& Int32.toUInt32 31)).toInt32) &&& (252645135 : Int32)).toUInt32 >>> ((8 : Int32).toUInt32 &&& Int32.toUInt32 31)).toInt32) + (((((((x0 - ((x0.toUInt32 >>> ((1 : Int32).toUInt32 &&& Int32.toUInt32 31)).toInt32 &&& (1431655765 : Int32))) &&& (858993459 : Int32)) + (((x0 - ((x0.toUInt32 >>> ((1 : Int32).toUInt32 &&& Int32.toUInt32 31)).toInt32 &&& (1431655765 : Int32))).toUInt32 >>> ((2 : Int32).toUInt32 &&& Int32.toUInt32 31)).toInt32 &&& (858993459 : Int32))) + ((((x0 - ((x0.toUInt32 >>> ((1 : Int32).toUInt32 &&& Int32.toUInt32 31)).toInt32 &&& (1431655765 : Int32))) &&& (858993459 : Int32)) + (((x0 - ((x0.toUInt32 >>> ((1 : Int32).toUInt32 &&& Int32.toUInt32 31)).toInt32 &&& (1431655765 : Int32))).toUInt32 >>> ((2 : Int32).toUInt32 &&& Int32.toUInt32 31)).toInt32 &&& (858993459 : Int32))).toUInt32 >>> ((4 : Int32).toUInt32 &&& Int32.toUInt32 31)).toInt32) &&& (252645135 : Int32)) + ((((((x0 - ((x0.toUInt32 >>> ((1 : Int32).toUInt32 &&& Int32.toUInt32 31)).toInt32 &&& (1431655765 : Int32))) &&& (858993459 : Int32)) + (((x0 - ((x0.toUInt32 >>> ((1 : Int32).toUInt32 &&& Int32.toUInt32 31)).toInt32 &&& (1431655765 : Int32))).toUInt32 >>> ((2 : Int32).toUInt32 &&& Int32.toUInt32 31)).toInt32 &&& (858993459 : Int32))) + ((((x0 - ((x0.toUInt32 >>> ((1 : Int32).toUInt32 &&& Int32.toUInt32 31)).toInt32 &&& (1431655765 : Int32))) &&& (858993459 : Int32)) + (((x0 - ((x0.toUInt32 >>> ((1 : Int32).toUInt32 &&& Int32.toUInt32 31)).toInt32 &&& (1431655765 : Int32))).toUInt32 >>> ((2 : Int32).toUInt32 &&& Int32.toUInt32 31)).toInt32 &&& (858993459 : Int32))).toUInt32 >>> ((4 : Int32).toUInt32 &&& Int32.toUInt32 31)).toInt32) &&& (252645135 : Int32)).toUInt32 >>> ((8 : Int32).toUInt32 &&& Int32.toUInt32 31)).toInt32).toUInt32 >>> ((16 : Int32).toUInt32 &&& Int32.toUInt32 31)).toInt32) &&& (63 : Int32))
theorem bcx_all : ∀ S, S < 256 → bcx (nI S) = nI (pc S) := by decide +kernel
theorem e_bitCount {M : Mm} {S : Nat} (h : S < 256) (P : Int32 → Mm → Prop) : w_J6_bitCount_0f7a4 M (nI S) P ↔ P (nI (pc S)) M := by
  rw [← bcx_all S h]; exact Iff.rfl
theorem pc_new : ∀ S, S < 256 → ∀ p, p < 8 → S.testBit p = false → S < S ||| 2 ^ p ∧ S ||| 2 ^ p < 256 ∧ pc (S ||| 2 ^ p) = pc S + 1 := by decide +kernel
theorem pc_le : ∀ S, S < 256 → pc S ≤ 8 := by decide +kernel
theorem or_lt {S p : Nat} (h : S < 256) (hp : p < 8) : S ||| 2 ^ p < 256 := Nat.or_lt_two_pow (n := 8) h (Nat.pow_lt_pow_right (by decide) hp)
def sub (S F : Nat) : Prop := ∀ i, S.testBit i = true → F.testBit i = true
theorem sub_rm {S F : Nat} (h : S < 256) : rm S F = 0 ↔ sub S F := by
  constructor
  · intro e i t
    have := rm_tb (S := F) h i
    rw [e, Nat.zero_testBit, t] at this
    revert this; cases F.testBit i <;> intro q <;> first | rfl | exact absurd q (by decide)
  · intro s
    refine Nat.eq_of_testBit_eq fun i => ?_
    rw [rm_tb h, Nat.zero_testBit]
    cases t : S.testBit i
    · rfl
    · rw [s i t]; rfl
theorem rm_f (F S : Nat) : F &&& (S ^^^ 4294967295) = rm F S := rfl
section CA
variable {y sa : Nat} {sg : Nat → Nat} {M : Mm}
theorem s_X0_fillNextSeat (hs : SB sg) (h : CSea sa sg M) (hy : KS y M) (hd : sa + 20 < y ∨ y + 3 < sa) {w r C S : Nat} (hk : kr sg w r < 8) (hC : C < 256) (hS : S < 256)
    (hv : ∀ p, p < sg 2 → C.testBit p = true → S.testBit p = false ∧ zI M (y + 2) (S ||| 2 ^ p) = nI (dm sg w r (rm C (2 ^ p)))) (P : Mm → Prop)
    (K : ∀ M', FrI (fun b => b = y + 2 ∨ b = y + 3) M M' → (∀ j, j ≠ S → zI M' (y + 2) j = zI M (y + 2) j ∧ zI M' (y + 3) j = zI M (y + 3) j) → zI M' (y + 2) S = nI (dk sg w r C (sg 2)) → (dk sg w r C (sg 2) < 100 → zI M' (y + 3) S = nI (ak sg w r C (sg 2))) → (KP y M → KP y M') → P M') : w_X0_fillNextSeat M y sa (nI (kr sg w r)) (nI C) (nI S) P := by
  have b := hs.b
  have y0 := hy
  unfold KS at y0
  simp (disch := omega) only [w_X0_fillNextSeat, y0, l_0, l_1, l_2, l_3, l_4, l_5, l_6, l_7, l_8, l_9, l_10, l_20, l_30, l_31, l_34, l_40, l_65, l_100, l_255, l_11, l_12, l_24, l_600, l_689, l_999, l_120, l_32, nI_add, pk_mul, n_sub, n_leT, n_leF, n_ltT, n_ltF, n_eqT, n_eqF, n_cl, n_vp, fa_andq, fa_orq, fa_xorq, n_shl, n_shr, n_t1, n_t0, n_div, n_m1, not_true_eq_false, Bool.false_eq_true, false_and, Bool.not_false, Bool.not_true, Bool.and_true, Bool.and_false, Bool.false_and, Bool.true_and, true_and, and_true, true_or, or_true, not_false_eq_true, Option.some.injEq, exists_eq_left', forall_eq, ↓reduceIte, Nat.add_zero, Nat.zero_add, and_self]
  refine lpI (fun n (z : Mm × Int32) => l_X0_fillNextSeat_12 P (fun M14 => P M14) n z.1 y sa (nI (kr sg w r)) (nI C) (nI S) z.2) (fun i z => (FrI (fun b => b = y + 2 ∨ b = y + 3) M z.1 ∧ (∀ j, j ≠ S → zI z.1 (y + 2) j = zI M (y + 2) j ∧ zI z.1 (y + 3) j = zI M (y + 3) j) ∧ zI z.1 (y + 2) S = nI (dk sg w r C i) ∧ (dk sg w r C i < 100 → zI z.1 (y + 3) S = nI (ak sg w r C i)) ∧ (KP y M → KP y z.1)) ∧ z.2 = nI i) (sg 2) ?_ ?_ (sI M (y + 2) S (nI 100), nI 0) ⟨⟨FrI.sI (Or.inl rfl), fun j hj => ⟨zI_sI2 _ _ _ _ hj, by rw [zI_sIo _ _ _ _ (by omega)]⟩, zI_sI1 _ _ _ _, fun q => absurd q (by rw [dk_0]; omega), fun q => q.e (zI_sIo _ _ _ _ (by omega))⟩, rfl⟩
  · rintro n ⟨M1, a1⟩ ⟨⟨f, g, t, u, q⟩, e1⟩
    dsimp only at f g t u q e1 ⊢
    subst e1
    have h1 := h.fr f (by omega)
    simp (disch := omega) only [l_X0_fillNextSeat_12, h1.s1, h1.n, l_0, l_1, l_2, l_3, l_4, l_5, l_6, l_7, l_8, l_9, l_10, l_20, l_30, l_31, l_34, l_40, l_65, l_100, l_255, l_11, l_12, l_24, l_600, l_689, l_999, l_120, l_32, nI_add, pk_mul, n_sub, n_leT, n_leF, n_ltT, n_ltF, n_eqT, n_eqF, n_cl, n_vp, fa_andq, fa_orq, fa_xorq, n_shl, n_shr, n_t1, n_t0, n_div, n_m1, not_true_eq_false, Bool.false_eq_true, false_and, Bool.not_false, Bool.not_true, Bool.and_true, Bool.and_false, Bool.false_and, Bool.true_and, true_and, and_true, true_or, or_true, not_false_eq_true, Option.some.injEq, exists_eq_left', forall_eq, ↓reduceIte, Nat.add_zero, Nat.zero_add, and_self]
    exact K _ f g t u q
  · rintro n i ⟨M1, a1⟩ hi ⟨⟨f, g, t, u, q⟩, e1⟩ L
    dsimp only at f g t u q e1 L ⊢
    subst e1
    have h1 := h.fr f (by omega)
    have y1 := hy.fr f
    unfold KS at y1
    have d := kinds_lt hs hi
    have o := or_lt hS (p := i) (by omega)
    have db := dbo_le sg i (kr sg w r)
    have dl := dk_le sg w r C i
    have old : ¬ ((C.testBit i = true ∧ (kinds sg i).testBit (kr sg w r) = true) ∧ co sg w r C i < dk sg w r C i) → l_X0_fillNextSeat_12 P (fun M14 => P M14) n M1 y sa (nI (kr sg w r)) (nI C) (nI S) (nI (i + 1)) := fun z => by
      obtain ⟨k1, k2⟩ := ak_old z
      exact L (M1, nI (i + 1)) ⟨⟨f, g, by rw [k1]; exact t, fun e => by rw [k1] at e; rw [k2 e]; exact u e, q⟩, rfl⟩
    by_cases c1 : C.testBit i = true
    · by_cases c2 : (kinds sg i).testBit (kr sg w r) = true
      · obtain ⟨n1, v1⟩ := hv i hi c1
        have ne : S ||| 2 ^ i ≠ S := by
          have := (pc_new S hS i (by omega) n1).1
          omega
        have v2 : zI M1 (y + 2) (S ||| 2 ^ i) = nI (dm sg w r (rm C (2 ^ i))) := by rw [(g _ ne).1]; exact v1
        have vl := dm_le sg w r (rm C (2 ^ i))
        by_cases c3 : dbo sg i (kr sg w r) + dm sg w r (rm C (2 ^ i)) < dk sg w r C i
        · obtain ⟨k1, k2⟩ := ak_new (sg := sg) (w := w) (r := r) (F := C) (k := i) ⟨c1, c2⟩ c3
          simp (disch := omega) only [l_X0_fillNextSeat_12, h1.s1, h1.n, h1.p hi, y1, e_has, e_X6_doublingOn hs h1, c1, c2, bI_t, v2, t, zk_sI, zl_sI, zR_sI, l_0, l_1, l_2, l_3, l_4, l_5, l_6, l_7, l_8, l_9, l_10, l_20, l_30, l_31, l_34, l_40, l_65, l_100, l_255, l_11, l_12, l_24, l_600, l_689, l_999, l_120, l_32, nI_add, pk_mul, n_sub, n_leT, n_leF, n_ltT, n_ltF, n_eqT, n_eqF, n_cl, n_vp, fa_andq, fa_orq, fa_xorq, n_shl, n_shr, n_t1, n_t0, n_div, n_m1, not_true_eq_false, Bool.false_eq_true, false_and, Bool.not_false, Bool.not_true, Bool.and_true, Bool.and_false, Bool.false_and, Bool.true_and, true_and, and_true, true_or, or_true, not_false_eq_true, Option.some.injEq, exists_eq_left', forall_eq, ↓reduceIte, Nat.add_zero, Nat.zero_add, and_self]
          refine L (sI (sI M1 (y + 2) S (nI (dbo sg i (kr sg w r) + dm sg w r (rm C (2 ^ i))))) (y + 3) S (nI i), nI (i + 1)) ⟨⟨(f.trans (FrI.sI (Or.inl rfl))).trans (FrI.sI (Or.inr rfl)), fun j hj => ⟨?_, ?_⟩, ?_, fun _ => ?_, fun z => ?_⟩, rfl⟩
          · rw [zI_sIo _ _ _ _ (by omega)]
            exact (zI_sI2 _ _ _ _ hj).trans (g j hj).1
          · rw [zI_sI2 _ _ _ _ hj, zI_sIo _ _ _ _ (by omega)]
            exact (g j hj).2
          · rw [zI_sIo _ _ _ _ (by omega), zI_sI1, k1]; rfl
          · rw [zI_sI1, k2]
          · exact KP.set ((q z).e (zI_sIo _ _ _ _ (by omega))) (by omega)
        · simp (disch := omega) only [l_X0_fillNextSeat_12, h1.s1, h1.n, h1.p hi, y1, e_has, e_X6_doublingOn hs h1, c1, c2, bI_t, v2, t, l_0, l_1, l_2, l_3, l_4, l_5, l_6, l_7, l_8, l_9, l_10, l_20, l_30, l_31, l_34, l_40, l_65, l_100, l_255, l_11, l_12, l_24, l_600, l_689, l_999, l_120, l_32, nI_add, pk_mul, n_sub, n_leT, n_leF, n_ltT, n_ltF, n_eqT, n_eqF, n_cl, n_vp, fa_andq, fa_orq, fa_xorq, n_shl, n_shr, n_t1, n_t0, n_div, n_m1, not_true_eq_false, Bool.false_eq_true, false_and, Bool.not_false, Bool.not_true, Bool.and_true, Bool.and_false, Bool.false_and, Bool.true_and, true_and, and_true, true_or, or_true, not_false_eq_true, Option.some.injEq, exists_eq_left', forall_eq, ↓reduceIte, Nat.add_zero, Nat.zero_add, and_self]
          exact old fun z => c3 z.2
      · simp (disch := omega) only [l_X0_fillNextSeat_12, h1.s1, h1.n, h1.p hi, y1, e_has, c1, b_no c2, bI_t, bI_f, l_0, l_1, l_2, l_3, l_4, l_5, l_6, l_7, l_8, l_9, l_10, l_20, l_30, l_31, l_34, l_40, l_65, l_100, l_255, l_11, l_12, l_24, l_600, l_689, l_999, l_120, l_32, nI_add, pk_mul, n_sub, n_leT, n_leF, n_ltT, n_ltF, n_eqT, n_eqF, n_cl, n_vp, fa_andq, fa_orq, fa_xorq, n_shl, n_shr, n_t1, n_t0, n_div, n_m1, not_true_eq_false, Bool.false_eq_true, false_and, Bool.not_false, Bool.not_true, Bool.and_true, Bool.and_false, Bool.false_and, Bool.true_and, true_and, and_true, true_or, or_true, not_false_eq_true, Option.some.injEq, exists_eq_left', forall_eq, ↓reduceIte, Nat.add_zero, Nat.zero_add, and_self]
        exact old fun z => c2 z.1.2
    · simp (disch := omega) only [l_X0_fillNextSeat_12, h1.s1, h1.n, y1, e_has, b_no c1, bI_f, l_0, l_1, l_2, l_3, l_4, l_5, l_6, l_7, l_8, l_9, l_10, l_20, l_30, l_31, l_34, l_40, l_65, l_100, l_255, l_11, l_12, l_24, l_600, l_689, l_999, l_120, l_32, nI_add, pk_mul, n_sub, n_leT, n_leF, n_ltT, n_ltF, n_eqT, n_eqF, n_cl, n_vp, fa_andq, fa_orq, fa_xorq, n_shl, n_shr, n_t1, n_t0, n_div, n_m1, not_true_eq_false, Bool.false_eq_true, false_and, Bool.not_false, Bool.not_true, Bool.and_true, Bool.and_false, Bool.false_and, Bool.true_and, true_and, and_true, true_or, or_true, not_false_eq_true, Option.some.injEq, exists_eq_left', forall_eq, ↓reduceIte, Nat.add_zero, Nat.zero_add, and_self]
      exact old fun z => c1 z.1.1
end CA
