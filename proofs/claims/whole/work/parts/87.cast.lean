/-! THE CLASS'S CASTER -/
/-- invariants along a loop -/
theorem lpI {σ : Type} (L : Nat → σ → Prop) (I : Nat → σ → Prop) (N : Nat) (hx : ∀ n s, I N s → L (n + 1) s) (hs : ∀ n k s, k < N → I k s → (∀ s', I (k + 1) s' → L n s') → L (n + 1) s) (s : σ) (h0 : I 0 s) : ∃ n, L n s := by
  have key : ∀ d k s, k + d = N → I k s → L (d + 1) s := by
    intro d
    induction d with
    | zero => intro k s hk h; exact hx 0 s (by rw [show N = k by omega]; exact h)
    | succ d ih => intro k s hk h; exact hs (d + 1) k s (by omega) h (fun s' h' => ih (k + 1) s' (by omega) h')
  exact ⟨N + 1, key N 0 s (by omega) h0⟩
theorem FrI.k {R : Nat → Prop} {M M' : Mm} (f : FrI R M M') : zk M' = zk M := f.2.1
theorem FrI.l {R : Nat → Prop} {M M' : Mm} (f : FrI R M M') : zl M' = zl M := f.2.2.1
theorem FrI.r {R : Nat → Prop} {M M' : Mm} (f : FrI R M M') : zR M' = zR M := f.2.2.2.2.1
theorem FrI.j {R : Nat → Prop} {M M' : Mm} (f : FrI R M M') : zJ M' = zJ M := f.2.2.2.1
theorem FrI.n {R : Nat → Prop} {M M' : Mm} (f : FrI R M M') : zn M' = zn M := f.1
theorem FrI.i {R : Nat → Prop} {M M' : Mm} (f : FrI R M M') {b : Nat} (h : ¬ R b) : zI M' b = zI M b := f.2.2.2.2.2 b h
theorem SeaSh.fr {R : Nat → Prop} {M M' : Mm} {sa : Nat} (h : SeaSh sa M) (f : FrI R M M') : SeaSh sa M' := by
  unfold SeaSh at h ⊢
  rw [f.k, f.l, f.r]; exact h
theorem CSea.fr {R : Nat → Prop} {M M' : Mm} {sa : Nat} {sg : Nat → Nat} (h : CSea sa sg M) (f : FrI R M M') (d : ∀ b, sa ≤ b → b ≤ sa + 20 → ¬ R b) : CSea sa sg M' := by
  have e : ∀ i, i ≤ 20 → zI M' (sa + i) = zI M (sa + i) := fun i hi => f.i (d _ (by omega) (by omega))
  have e0 : zI M' sa = zI M sa := e 0 (by omega)
  obtain ⟨h1, h2⟩ := h
  refine ⟨h1.fr f, ?_⟩
  rw [e0, e 1 (by omega), e 3 (by omega), e 4 (by omega), e 7 (by omega), e 8 (by omega), e 9 (by omega), e 10 (by omega), e 11 (by omega), e 13 (by omega), e 15 (by omega), e 16 (by omega), e 17 (by omega), e 18 (by omega), e 19 (by omega), e 20 (by omega)]
  exact h2
theorem CPl.fr {R : Nat → Prop} {M M' : Mm} {a : Nat} {sg pl : Nat → Nat} (h : CPl a sg pl M) (f : FrI R M M') (d : ∀ b, a ≤ b → b ≤ a + 6 → ¬ R b) : CPl a sg pl M' := by
  have e : ∀ i, i ≤ 6 → zI M' (a + i) = zI M (a + i) := fun i hi => f.i (d _ (by omega) (by omega))
  have e0 : zI M' a = zI M a := e 0 (by omega)
  obtain ⟨h1, h2⟩ := h
  refine ⟨h1.fr f, ?_⟩
  rw [e0, e 1 (by omega), e 2 (by omega), e 3 (by omega), e 4 (by omega), e 5 (by omega), e 6 (by omega)]
  exact h2
theorem XR.fr {R : Nat → Prop} {M M' : Mm} {x sa : Nat} (h : XR x sa M) (f : FrI R M M') : XR x sa M' := by
  unfold XR at h ⊢
  rw [f.k, f.r]; exact h
/-- the caster at y -/
def KS (y : Nat) (M : Mm) : Prop := zk M y = 1 ∧ zR M y 0 = some (y + 1) ∧ zR M y 1 = some (y + 2) ∧ zk M (y + 1) = 10 ∧ zl M (y + 1) = 6 ∧ zk M (y + 2) = 10 ∧ zl M (y + 2) = 256
theorem KS.fr {R : Nat → Prop} {M M' : Mm} {y : Nat} (h : KS y M) (f : FrI R M M') : KS y M' := by
  unfold KS at h ⊢
  rw [f.k, f.l, f.r]; exact h
/-- how many bits -/
def pc (S : Nat) : Nat := fo (fun i n => if S.testBit i = true then n + 1 else n) 8 0
def bcx (x0 : Int32) : Int32 := ((((((((x0 - ((x0.toUInt32 >>> ((1 : Int32).toUInt32 &&& Int32.toUInt32 31)).toInt32 &&& (1431655765 : Int32))) &&& (858993459 : Int32)) + (((x0 - ((x0.toUInt32 >>> ((1 : Int32).toUInt32 &&& Int32.toUInt32 31)).toInt32 &&& (1431655765 : Int32))).toUInt32 >>> ((2 : Int32).toUInt32 &&& Int32.toUInt32 31)).toInt32 &&& (858993459 : Int32))) + ((((x0 - ((x0.toUInt32 >>> ((1 : Int32).toUInt32 &&& Int32.toUInt32 31)).toInt32 &&& (1431655765 : Int32))) &&& (858993459 : Int32)) + (((x0 - ((x0.toUInt32 >>> ((1 : Int32).toUInt32 &&& Int32.toUInt32 31)).toInt32 &&& (1431655765 : Int32))).toUInt32 >>> ((2 : Int32).toUInt32 &&& Int32.toUInt32 31)).toInt32 &&& (858993459 : Int32))).toUInt32 >>> ((4 : Int32).toUInt32 &&& Int32.toUInt32 31)).toInt32) &&& (252645135 : Int32)) + ((((((x0 - ((x0.toUInt32 >>> ((1 : Int32).toUInt32 &&& Int32.toUInt32 31)).toInt32 &&& (1431655765 : Int32))) &&& (858993459 : Int32)) + (((x0 - ((x0.toUInt32 >>> ((1 : Int32).toUInt32 &&& Int32.toUInt32 31)).toInt32 &&& (1431655765 : Int32))).toUInt32 >>> ((2 : Int32).toUInt32 &&& Int32.toUInt32 31)).toInt32 &&& (858993459 : Int32))) + ((((x0 - ((x0.toUInt32 >>> ((1 : Int32).toUInt32 &&& Int32.toUInt32 31)).toInt32 &&& (1431655765 : Int32))) &&& (858993459 : Int32)) + (((x0 - ((x0.toUInt32 >>> ((1 : Int32).toUInt32 &&& Int32.toUInt32 31)).toInt32 &&& (1431655765 : Int32))).toUInt32 >>> ((2 : Int32).toUInt32 &&& Int32.toUInt32 31)).toInt32 &&& (858993459 : Int32))).toUInt32 >>> ((4 : Int32).toUInt32 &&& Int32.toUInt32 31)).toInt32) &&& (252645135 : Int32)).toUInt32 >>> ((8 : Int32).toUInt32 &&& Int32.toUInt32 31)).toInt32) + (((((((x0 - ((x0.toUInt32 >>> ((1 : Int32).toUInt32 &&& Int32.toUInt32 31)).toInt32 &&& (1431655765 : Int32))) &&& (858993459 : Int32)) + (((x0 - ((x0.toUInt32 >>> ((1 : Int32).toUInt32 &&& Int32.toUInt32 31)).toInt32 &&& (1431655765 : Int32))).toUInt32 >>> ((2 : Int32).toUInt32 &&& Int32.toUInt32 31)).toInt32 &&& (858993459 : Int32))) + ((((x0 - ((x0.toUInt32 >>> ((1 : Int32).toUInt32 &&& Int32.toUInt32 31)).toInt32 &&& (1431655765 : Int32))) &&& (858993459 : Int32)) + (((x0 - ((x0.toUInt32 >>> ((1 : Int32).toUInt32 &&& Int32.toUInt32 31)).toInt32 &&& (1431655765 : Int32))).toUInt32 >>> ((2 : Int32).toUInt32 &&& Int32.toUInt32 31)).toInt32 &&& (858993459 : Int32))).toUInt32 >>> ((4 : Int32).toUInt32 &&& Int32.toUInt32 31)).toInt32) &&& (252645135 : Int32)) + ((((((x0 - ((x0.toUInt32 >>> ((1 : Int32).toUInt32 &&& Int32.toUInt32 31)).toInt32 &&& (1431655765 : Int32))) &&& (858993459 : Int32)) + (((x0 - ((x0.toUInt32 >>> ((1 : Int32).toUInt32 &&& Int32.toUInt32 31)).toInt32 &&& (1431655765 : Int32))).toUInt32 >>> ((2 : Int32).toUInt32 &&& Int32.toUInt32 31)).toInt32 &&& (858993459 : Int32))) + ((((x0 - ((x0.toUInt32 >>> ((1 : Int32).toUInt32 &&& Int32.toUInt32 31)).toInt32 &&& (1431655765 : Int32))) &&& (858993459 : Int32)) + (((x0 - ((x0.toUInt32 >>> ((1 : Int32).toUInt32 &&& Int32.toUInt32 31)).toInt32 &&& (1431655765 : Int32))).toUInt32 >>> ((2 : Int32).toUInt32 &&& Int32.toUInt32 31)).toInt32 &&& (858993459 : Int32))).toUInt32 >>> ((4 : Int32).toUInt32 &&& Int32.toUInt32 31)).toInt32) &&& (252645135 : Int32)).toUInt32 >>> ((8 : Int32).toUInt32 &&& Int32.toUInt32 31)).toInt32).toUInt32 >>> ((16 : Int32).toUInt32 &&& Int32.toUInt32 31)).toInt32) &&& (63 : Int32))
theorem bcx_all : ∀ S, S < 256 → bcx (nI S) = nI (pc S) := by decide +kernel
theorem e_bitCount {M : Mm} {S : Nat} (h : S < 256) (P : Int32 → Mm → Prop) : w_J6_bitCount_0f7a4 M (nI S) P ↔ P (nI (pc S)) M := by
  rw [← bcx_all S h]; exact Iff.rfl
theorem pc_new : ∀ S, S < 256 → ∀ p, p < 8 → S.testBit p = false → S < S ||| 2 ^ p ∧ S ||| 2 ^ p < 256 ∧ pc (S ||| 2 ^ p) = pc S + 1 := by decide +kernel
theorem pc_le : ∀ S, S < 256 → pc S ≤ 8 := by decide +kernel
theorem or_lt {S p : Nat} (h : S < 256) (hp : p < 8) : S ||| 2 ^ p < 256 := Nat.or_lt_two_pow (n := 8) h (Nat.pow_lt_pow_right (by decide) hp)
def sub (S F : Nat) : Prop := ∀ i, S.testBit i = true → F.testBit i = true
theorem sub_rm {S F : Nat} (h : S < 256) : rm S F = 0 ↔ sub S F := by
  constructor
  · intro e i t
    have := rm_tb (S := F) h i
    rw [e, Nat.zero_testBit, t] at this
    revert this; cases F.testBit i <;> intro q <;> first | rfl | exact absurd q (by decide)
  · intro s
    refine Nat.eq_of_testBit_eq fun i => ?_
    rw [rm_tb h, Nat.zero_testBit]
    cases t : S.testBit i
    · rfl
    · rw [s i t]; rfl
theorem rm_f (F S : Nat) : F &&& (S ^^^ 4294967295) = rm F S := rfl
section CA
variable {y sa : Nat} {sg : Nat → Nat} {M : Mm}
def ff (sg : Nat → Nat) (k C : Nat) (v : Nat → Nat) (n : Nat) : Nat := fo (fun p b => if C.testBit p = true ∧ (kinds sg p).testBit k = true then mi (dbo sg p k + v p) b else b) n 100
theorem ff_s (sg : Nat → Nat) (k C : Nat) (v : Nat → Nat) (n : Nat) : ff sg k C v (n + 1) = if C.testBit n = true ∧ (kinds sg n).testBit k = true then mi (dbo sg n k + v n) (ff sg k C v n) else ff sg k C v n := rfl
theorem ff_le (sg : Nat → Nat) (k C : Nat) (v : Nat → Nat) : ∀ n, ff sg k C v n ≤ 100
  | 0 => Nat.le_refl _
  | n + 1 => by
    have h := ff_le sg k C v n
    have e := mi_le (dbo sg n k + v n) (ff sg k C v n)
    rw [ff_s]; split <;> omega
theorem e_X0_fewestFrom (hs : SB sg) (h : CSea sa sg M) (hy : KS y M) {k C S : Nat} (hk : k < 8) (hC : C < 256) (hS : S < 256) (v : Nat → Nat) (hv : ∀ p, p < sg 2 → C.testBit p = true → (kinds sg p).testBit k = true → zI M (y + 2) (S ||| 2 ^ p) = nI (v p) ∧ v p ≤ 100) (P : Int32 → Mm → Prop) : w_X0_fewestFrom M y sa (nI k) (nI C) (nI S) P ↔ P (nI (ff sg k C v (sg 2))) M := by
  have b := hs.b
  unfold w_X0_fewestFrom
  unfold KS at hy
  refine lpE (fun n (z : Int32 × Int32) => l_X0_fewestFrom_7 P (fun M7 x5_7 => P x5_7 M7) n M y sa (nI k) (nI C) (nI S) z.1 z.2) (fun i => (nI (ff sg k C v i), nI i)) (sg 2) (fun _ h => h.elim) (fun _ => ?_) (fun n i hi => ?_)
  · simp (disch := omega) only [l_X0_fewestFrom_7, h.s1, h.n, l_0, l_1, l_2, l_3, l_4, l_5, l_6, l_7, l_8, l_9, l_10, l_20, l_30, l_31, l_34, l_40, l_65, l_100, l_255, l_11, l_12, l_24, l_600, l_689, l_999, l_120, l_32, nI_add, pk_mul, n_sub, n_leT, n_leF, n_ltT, n_ltF, n_eqT, n_eqF, n_cl, n_vp, fa_andq, fa_orq, fa_xorq, n_shl, n_shr, n_t1, n_t0, n_div, n_m1, not_true_eq_false, Bool.false_eq_true, false_and, Bool.not_false, Bool.not_true, Bool.and_true, Bool.and_false, Bool.false_and, Bool.true_and, true_and, and_true, true_or, or_true, not_false_eq_true, Option.some.injEq, exists_eq_left', forall_eq, ↓reduceIte, Nat.add_zero, Nat.zero_add, and_self]
  · have d := kinds_lt hs hi
    have f := ff_le sg k C v i
    have o := or_lt hS (p := i) (by omega)
    have db := dbo_le sg i k
    by_cases c1 : C.testBit i = true
    · by_cases c2 : (kinds sg i).testBit k = true
      · obtain ⟨e1, e2⟩ := hv i hi c1 c2
        by_cases c3 : dbo sg i k + v i < ff sg k C v i
        · simp (disch := omega) only [l_X0_fewestFrom_7, h.s1, h.n, h.p hi, hy, e_has, e_X6_doublingOn hs h, c1, c2, c3, bI_t, e1, ff_s, mi, and_self, l_0, l_1, l_2, l_3, l_4, l_5, l_6, l_7, l_8, l_9, l_10, l_20, l_30, l_31, l_34, l_40, l_65, l_100, l_255, l_11, l_12, l_24, l_600, l_689, l_999, l_120, l_32, nI_add, pk_mul, n_sub, n_leT, n_leF, n_ltT, n_ltF, n_eqT, n_eqF, n_cl, n_vp, fa_andq, fa_orq, fa_xorq, n_shl, n_shr, n_t1, n_t0, n_div, n_m1, not_true_eq_false, Bool.false_eq_true, false_and, Bool.not_false, Bool.not_true, Bool.and_true, Bool.and_false, Bool.false_and, Bool.true_and, true_and, and_true, true_or, or_true, not_false_eq_true, Option.some.injEq, exists_eq_left', forall_eq, ↓reduceIte, Nat.add_zero, Nat.zero_add, and_self]
        · simp (disch := omega) only [l_X0_fewestFrom_7, h.s1, h.n, h.p hi, hy, e_has, e_X6_doublingOn hs h, c1, c2, c3, bI_t, e1, ff_s, mi, and_self, l_0, l_1, l_2, l_3, l_4, l_5, l_6, l_7, l_8, l_9, l_10, l_20, l_30, l_31, l_34, l_40, l_65, l_100, l_255, l_11, l_12, l_24, l_600, l_689, l_999, l_120, l_32, nI_add, pk_mul, n_sub, n_leT, n_leF, n_ltT, n_ltF, n_eqT, n_eqF, n_cl, n_vp, fa_andq, fa_orq, fa_xorq, n_shl, n_shr, n_t1, n_t0, n_div, n_m1, not_true_eq_false, Bool.false_eq_true, false_and, Bool.not_false, Bool.not_true, Bool.and_true, Bool.and_false, Bool.false_and, Bool.true_and, true_and, and_true, true_or, or_true, not_false_eq_true, Option.some.injEq, exists_eq_left', forall_eq, ↓reduceIte, Nat.add_zero, Nat.zero_add, and_self]
      · simp (disch := omega) only [l_X0_fewestFrom_7, h.s1, h.n, h.p hi, hy, e_has, c1, b_no c2, bI_t, bI_f, ff_s, and_false, l_0, l_1, l_2, l_3, l_4, l_5, l_6, l_7, l_8, l_9, l_10, l_20, l_30, l_31, l_34, l_40, l_65, l_100, l_255, l_11, l_12, l_24, l_600, l_689, l_999, l_120, l_32, nI_add, pk_mul, n_sub, n_leT, n_leF, n_ltT, n_ltF, n_eqT, n_eqF, n_cl, n_vp, fa_andq, fa_orq, fa_xorq, n_shl, n_shr, n_t1, n_t0, n_div, n_m1, not_true_eq_false, Bool.false_eq_true, false_and, Bool.not_false, Bool.not_true, Bool.and_true, Bool.and_false, Bool.false_and, Bool.true_and, true_and, and_true, true_or, or_true, not_false_eq_true, Option.some.injEq, exists_eq_left', forall_eq, ↓reduceIte, Nat.add_zero, Nat.zero_add, and_self]
    · simp (disch := omega) only [l_X0_fewestFrom_7, h.s1, h.n, hy, e_has, b_no c1, bI_f, ff_s, l_0, l_1, l_2, l_3, l_4, l_5, l_6, l_7, l_8, l_9, l_10, l_20, l_30, l_31, l_34, l_40, l_65, l_100, l_255, l_11, l_12, l_24, l_600, l_689, l_999, l_120, l_32, nI_add, pk_mul, n_sub, n_leT, n_leF, n_ltT, n_ltF, n_eqT, n_eqF, n_cl, n_vp, fa_andq, fa_orq, fa_xorq, n_shl, n_shr, n_t1, n_t0, n_div, n_m1, not_true_eq_false, Bool.false_eq_true, false_and, Bool.not_false, Bool.not_true, Bool.and_true, Bool.and_false, Bool.false_and, Bool.true_and, true_and, and_true, true_or, or_true, not_false_eq_true, Option.some.injEq, exists_eq_left', forall_eq, ↓reduceIte, Nat.add_zero, Nat.zero_add, and_self]
theorem e_X0_firstFrom (hs : SB sg) (h : CSea sa sg M) (hy : KS y M) {k C S u : Nat} (hk : k < 8) (hC : C < 256) (hS : S < 256) (v : Nat → Nat) (hv : ∀ p, p < sg 2 → C.testBit p = true → (kinds sg p).testBit k = true → zI M (y + 2) (S ||| 2 ^ p) = nI (v p) ∧ v p ≤ 100) (hu : zI M (y + 2) S = nI u) (hu2 : u ≤ 100) (P : Int32 → Mm → Prop) : w_X0_firstFrom M y sa (nI k) (nI C) (nI S) P ↔ P (nI (if fi (fun p => decide ((C.testBit p = true ∧ (kinds sg p).testBit k = true) ∧ dbo sg p k + v p = u)) (sg 2) < sg 2 then fi (fun p => decide ((C.testBit p = true ∧ (kinds sg p).testBit k = true) ∧ dbo sg p k + v p = u)) (sg 2) else 4294967295)) M := by
  have b := hs.b
  unfold w_X0_firstFrom
  unfold KS at hy
  refine lpF (fun n (z : Int32) => l_X0_firstFrom_3 P (fun M8 x5_8 => P x5_8 M8) (fun M9 => P (-1 : Int32) M9) n M y sa (nI k) (nI C) (nI S) z) nI (sg 2) (fun p => decide ((C.testBit p = true ∧ (kinds sg p).testBit k = true) ∧ dbo sg p k + v p = u)) (Q := fun i => P (nI (if i < sg 2 then i else 4294967295)) M) (fun _ h => h.elim) (fun _ => ?_) (fun n i hi c => ?_) (fun n i hi c => ?_)
  · simp (disch := omega) only [l_X0_firstFrom_3, h.s1, h.n, Nat.lt_irrefl, l_0, l_1, l_2, l_3, l_4, l_5, l_6, l_7, l_8, l_9, l_10, l_20, l_30, l_31, l_34, l_40, l_65, l_100, l_255, l_11, l_12, l_24, l_600, l_689, l_999, l_120, l_32, nI_add, pk_mul, n_sub, n_leT, n_leF, n_ltT, n_ltF, n_eqT, n_eqF, n_cl, n_vp, fa_andq, fa_orq, fa_xorq, n_shl, n_shr, n_t1, n_t0, n_div, n_m1, not_true_eq_false, Bool.false_eq_true, false_and, Bool.not_false, Bool.not_true, Bool.and_true, Bool.and_false, Bool.false_and, Bool.true_and, true_and, and_true, true_or, or_true, not_false_eq_true, Option.some.injEq, exists_eq_left', forall_eq, ↓reduceIte, Nat.add_zero, Nat.zero_add, and_self]
  · have c := of_decide_eq_false c
    have d := kinds_lt hs hi
    have o := or_lt hS (p := i) (by omega)
    have db := dbo_le sg i k
    by_cases c1 : C.testBit i = true
    · by_cases c2 : (kinds sg i).testBit k = true
      · obtain ⟨e1, e2⟩ := hv i hi c1 c2
        have c3 : dbo sg i k + v i ≠ u := fun q => c ⟨⟨c1, c2⟩, q⟩
        simp (disch := omega) only [l_X0_firstFrom_3, h.s1, h.n, h.p hi, hy, e_has, e_X6_doublingOn hs h, c1, c2, bI_t, e1, hu, l_0, l_1, l_2, l_3, l_4, l_5, l_6, l_7, l_8, l_9, l_10, l_20, l_30, l_31, l_34, l_40, l_65, l_100, l_255, l_11, l_12, l_24, l_600, l_689, l_999, l_120, l_32, nI_add, pk_mul, n_sub, n_leT, n_leF, n_ltT, n_ltF, n_eqT, n_eqF, n_cl, n_vp, fa_andq, fa_orq, fa_xorq, n_shl, n_shr, n_t1, n_t0, n_div, n_m1, not_true_eq_false, Bool.false_eq_true, false_and, Bool.not_false, Bool.not_true, Bool.and_true, Bool.and_false, Bool.false_and, Bool.true_and, true_and, and_true, true_or, or_true, not_false_eq_true, Option.some.injEq, exists_eq_left', forall_eq, ↓reduceIte, Nat.add_zero, Nat.zero_add, and_self]
      · simp (disch := omega) only [l_X0_firstFrom_3, h.s1, h.n, h.p hi, hy, e_has, c1, b_no c2, bI_t, bI_f, l_0, l_1, l_2, l_3, l_4, l_5, l_6, l_7, l_8, l_9, l_10, l_20, l_30, l_31, l_34, l_40, l_65, l_100, l_255, l_11, l_12, l_24, l_600, l_689, l_999, l_120, l_32, nI_add, pk_mul, n_sub, n_leT, n_leF, n_ltT, n_ltF, n_eqT, n_eqF, n_cl, n_vp, fa_andq, fa_orq, fa_xorq, n_shl, n_shr, n_t1, n_t0, n_div, n_m1, not_true_eq_false, Bool.false_eq_true, false_and, Bool.not_false, Bool.not_true, Bool.and_true, Bool.and_false, Bool.false_and, Bool.true_and, true_and, and_true, true_or, or_true, not_false_eq_true, Option.some.injEq, exists_eq_left', forall_eq, ↓reduceIte, Nat.add_zero, Nat.zero_add, and_self]
    · simp (disch := omega) only [l_X0_firstFrom_3, h.s1, h.n, hy, e_has, b_no c1, bI_f, l_0, l_1, l_2, l_3, l_4, l_5, l_6, l_7, l_8, l_9, l_10, l_20, l_30, l_31, l_34, l_40, l_65, l_100, l_255, l_11, l_12, l_24, l_600, l_689, l_999, l_120, l_32, nI_add, pk_mul, n_sub, n_leT, n_leF, n_ltT, n_ltF, n_eqT, n_eqF, n_cl, n_vp, fa_andq, fa_orq, fa_xorq, n_shl, n_shr, n_t1, n_t0, n_div, n_m1, not_true_eq_false, Bool.false_eq_true, false_and, Bool.not_false, Bool.not_true, Bool.and_true, Bool.and_false, Bool.false_and, Bool.true_and, true_and, and_true, true_or, or_true, not_false_eq_true, Option.some.injEq, exists_eq_left', forall_eq, ↓reduceIte, Nat.add_zero, Nat.zero_add, and_self]
  · obtain ⟨⟨c1, c2⟩, c3⟩ := of_decide_eq_true c
    have d := kinds_lt hs hi
    have o := or_lt hS (p := i) (by omega)
    have db := dbo_le sg i k
    obtain ⟨e1, e2⟩ := hv i hi c1 c2
    simp (disch := omega) only [l_X0_firstFrom_3, h.s1, h.n, h.p hi, hy, e_has, e_X6_doublingOn hs h, c1, c2, bI_t, e1, hu, hi, l_0, l_1, l_2, l_3, l_4, l_5, l_6, l_7, l_8, l_9, l_10, l_20, l_30, l_31, l_34, l_40, l_65, l_100, l_255, l_11, l_12, l_24, l_600, l_689, l_999, l_120, l_32, nI_add, pk_mul, n_sub, n_leT, n_leF, n_ltT, n_ltF, n_eqT, n_eqF, n_cl, n_vp, fa_andq, fa_orq, fa_xorq, n_shl, n_shr, n_t1, n_t0, n_div, n_m1, not_true_eq_false, Bool.false_eq_true, false_and, Bool.not_false, Bool.not_true, Bool.and_true, Bool.and_false, Bool.false_and, Bool.true_and, true_and, and_true, true_or, or_true, not_false_eq_true, Option.some.injEq, exists_eq_left', forall_eq, ↓reduceIte, Nat.add_zero, Nat.zero_add, and_self]
end CA
