/-! THE STATE OF BOTH SIDES: season, plan, what can be undone, slots, buffer, the last error's place, names -/
def c5 (wd : List Nat) : Int64 := wd.foldl (fun c l => (c <<< ((5 : Int32).toInt64 &&& 63)) ||| ((nI l - (97 : Int32)) + (1 : Int32)).toInt64) 0
def c8 (wd : List Nat) : Int64 := wd.foldl (fun c l => (c <<< ((8 : Int32).toInt64 &&& 63)) ||| (nI l).toInt64) 0
def NameOK (wd : List Nat) : Prop := 1 ≤ wd.length ∧ wd.length ≤ 8 ∧ ∀ l, l ∈ wd → 97 ≤ l ∧ l ≤ 122
abbrev ST : Type := (Nat → Nat) × (Nat → Nat) × Nat × (Nat → Nat → Nat) × (Nat → Bool) × (Nat → Nat → Nat) × Nat × (Nat → Int32) × Nat × (Nat → List Nat)
def CBu (x bl : Nat) (bf : Nat → Int32) (ep : Nat) (M : Mm) : Prop := zI M x 7 = nI bl ∧ zI M x 8 = nI ep ∧ ∀ i, i < bl → zI M (x + 1) i = bf i
def CNm (sa : Nat) (sg : Nat → Nat) (nm : Nat → List Nat) (M : Mm) : Prop := (∀ k, k < sg 1 → zJ M (sa + 2) k = c5 (nm k)) ∧ (∀ k, k < sg 2 → zJ M (sa + 5) k = c5 (nm (8 + k))) ∧ (∀ k, k < sg 3 → zJ M (sa + 14) k = c5 (nm (16 + k))) ∧ ∀ k, k < sg 4 → zJ M (sa + 12) k = c5 (nm (24 + k))
def OKs (s : ST) : Prop := match s with
  | (sg, pl, hn, hl, sv, sl, bl, bf, ep, nm) => SB sg ∧ PG sg pl ∧ hn ≤ 10 ∧ (∀ i, i < hn → PG sg (hl i)) ∧ (∀ i, i < 2 → sv i = true → PG sg (sl i)) ∧ bl ≤ 600 ∧ (∀ i, i < bl → (bf i).toInt8.toInt32 = bf i) ∧ ep < 4294967296 ∧ (∀ k, k < sg 1 → NameOK (nm k)) ∧ (∀ k, k < sg 2 → NameOK (nm (8 + k))) ∧ (∀ k, k < sg 3 → NameOK (nm (16 + k))) ∧ ∀ k, k < sg 4 → NameOK (nm (24 + k))
def CI (x : Nat) (s : ST) (M : Mm) : Prop := match s with
  | (sg, pl, hn, hl, sv, sl, bl, bf, ep, nm) => hn ≤ 10 ∧ ∃ sa sp hp, XS x sa sp M ∧ CSea sa sg M ∧ SeaSh sp M ∧ CPl (x + 6) sg pl M ∧ PlanSh M (x + 13) ∧ CHi x hn hl hp sg M ∧ CSn x sv sl sg M ∧ CBu x bl bf ep M ∧ CNm sa sg nm M ∧ KP (x + 2) M
def MHi (m hn : Nat) (hl : Nat → Nat → Nat) (M : Mm) : Prop := zI M m 24 = nI hn ∧ ∀ i, i < hn → ∀ k, k < 689 → zI M (m + 11) (689 * i + k) = nI (hl i k)
def MSn (m : Nat) (sv : Nat → Bool) (sl : Nat → Nat → Nat) (M : Mm) : Prop := ∀ i, i < 2 → zI M (m + 13) i = bI (sv i) ∧ (sv i = true → ∀ k, k < 689 → zI M (m + 12) (689 * i + k) = nI (sl i k))
def MBu (m bl : Nat) (bf : Nat → Int32) (ep : Nat) (M : Mm) : Prop := zI M m 5 = nI bl ∧ zI M m 13 = nI ep ∧ ∀ i, i < bl → zI M (m + 4) i = bf i
def MNm (m : Nat) (sg : Nat → Nat) (nm : Nat → List Nat) (M : Mm) : Prop := (∀ k, k < sg 1 → zJ M (m + 3) k = c8 (nm k)) ∧ (∀ k, k < sg 2 → zJ M (m + 3) (8 + k) = c8 (nm (8 + k))) ∧ (∀ k, k < sg 3 → zJ M (m + 3) (16 + k) = c8 (nm (16 + k))) ∧ ∀ k, k < sg 4 → zJ M (m + 3) (24 + k) = c8 (nm (24 + k))
def MI (m : Nat) (s : ST) (M : Mm) : Prop := match s with
  | (sg, pl, hn, hl, sv, sl, bl, bf, ep, nm) => MSea m sg M ∧ MN m pl M ∧ MHi m hn hl M ∧ MSn m sv sl M ∧ MBu m bl bf ep M ∧ MNm m sg nm M
/-- the rest of the world: the cell of the law's out -/
def WO (x : Nat) (M : Mm) : Prop := x + 164 ≤ zn M ∧ zk M (x + 163) = 11 ∧ zl M (x + 163) = 1
/-- old cells outside of [lo, hi) are as they were -/
def FrG (lo hi : Nat) (M M' : Mm) : Prop := zn M ≤ zn M' ∧ ∀ b, b < zn M → ¬ (lo ≤ b ∧ b < hi) → zk M' b = zk M b ∧ zl M' b = zl M b ∧ zI M' b = zI M b ∧ zJ M' b = zJ M b ∧ zR M' b = zR M b
theorem FrG.rf {lo hi : Nat} {M : Mm} : FrG lo hi M M := ⟨Nat.le_refl _, fun _ _ _ => ⟨rfl, rfl, rfl, rfl, rfl⟩⟩
theorem FrG.trans {lo hi : Nat} {M M1 M2 : Mm} (h : FrG lo hi M M1) (k : FrG lo hi M1 M2) : FrG lo hi M M2 := by
  refine ⟨Nat.le_trans h.1 k.1, fun b hb hn => ?_⟩
  obtain ⟨a1, a2, a3, a4, a5⟩ := h.2 b hb hn
  obtain ⟨b1, b2, b3, b4, b5⟩ := k.2 b (Nat.lt_of_lt_of_le hb h.1) hn
  exact ⟨b1.trans a1, b2.trans a2, b3.trans a3, b4.trans a4, b5.trans a5⟩
theorem FrI.g {R : Nat → Prop} {lo hi : Nat} {M M' : Mm} (f : FrI R M M') (d : ∀ b, R b → lo ≤ b ∧ b < hi) : FrG lo hi M M' :=
  ⟨by rw [f.n]; exact Nat.le_refl _, fun b _ hn => ⟨by rw [f.k], by rw [f.l], f.i fun q => hn (d b q), by rw [f.j], by rw [f.r]⟩⟩
theorem FrX.g {x : Nat} {R : Nat → Prop} {lo hi : Nat} {M M' : Mm} (f : FrX x R M M') (d : ∀ b, R b → lo ≤ b ∧ b < hi) (d2 : lo ≤ x + 20 ∧ x + 20 < hi) : FrG lo hi M M' :=
  ⟨by rw [f.1]; exact Nat.le_refl _, fun b _ hn => ⟨by rw [f.k], by rw [f.l], f.i fun q => hn (d b q), by rw [f.j], f.r fun e => hn (by omega)⟩⟩
theorem FrG.sZ {lo hi : Nat} {M : Mm} {n : Nat} (h : zn M ≤ n) : FrG lo hi M (sZ M n) := ⟨h, fun _ _ _ => ⟨rfl, rfl, rfl, rfl, rfl⟩⟩
theorem zk_sZ (M : Mm) (n : Nat) : zk (sZ M n) = zk M := rfl
theorem zl_sZ (M : Mm) (n : Nat) : zl (sZ M n) = zl M := rfl
theorem zI_sZ (M : Mm) (n : Nat) : zI (sZ M n) = zI M := rfl
theorem zJ_sZ (M : Mm) (n : Nat) : zJ (sZ M n) = zJ M := rfl
theorem zR_sZ (M : Mm) (n : Nat) : zR (sZ M n) = zR M := rfl
theorem CI.sZ {x : Nat} {s : ST} {M : Mm} {n : Nat} (h : CI x s M) : CI x s (sZ M n) := h
theorem WO.frg {x lo hi : Nat} {M M' : Mm} (h : WO x M) (f : FrG lo hi M M') (hh : hi ≤ x + 163) : WO x M' := by
  obtain ⟨h1, h2, h3⟩ := h
  obtain ⟨a1, a2, -⟩ := f.2 (x + 163) (by omega) (by omega)
  exact ⟨Nat.le_trans h1 f.1, by rw [a1]; exact h2, by rw [a2]; exact h3⟩
/-- the class's state lives in the cells x to x + 148 -/
theorem CI.frg {x lo hi : Nat} {s : ST} {M M' : Mm} (h : CI x s M) (f : FrG lo hi M M') (hz : x + 149 ≤ zn M) (hl2 : x + 149 ≤ lo) : CI x s M' := by
  obtain ⟨sg, pl, hn, hl, sv, sl, bl, bf, ep, nm⟩ := s
  obtain ⟨h10, sa, sp, hp, h1, h2, h3, h4, h5, h6, h7, h8, h9, hk⟩ := h
  have at_ := h1.at
  have e : ∀ b, x ≤ b → b < x + 149 → zk M' b = zk M b ∧ zl M' b = zl M b ∧ zI M' b = zI M b ∧ zJ M' b = zJ M b ∧ zR M' b = zR M b := fun b b1 b2 => f.2 b (by omega) (by omega)
  have eP : ∀ a, x ≤ a → a + 6 < x + 149 → PlanSh M a → PlanSh M' a := fun a a1 a2 q => by
    unfold PlanSh at q ⊢
    rw [(e a (by omega) (by omega)).1, (e a (by omega) (by omega)).2.2.2.2, (e (a + 1) (by omega) (by omega)).1, (e (a + 2) (by omega) (by omega)).1, (e (a + 3) (by omega) (by omega)).1, (e (a + 4) (by omega) (by omega)).1, (e (a + 5) (by omega) (by omega)).1, (e (a + 6) (by omega) (by omega)).1,
      (e (a + 1) (by omega) (by omega)).2.1, (e (a + 2) (by omega) (by omega)).2.1, (e (a + 3) (by omega) (by omega)).2.1, (e (a + 4) (by omega) (by omega)).2.1, (e (a + 5) (by omega) (by omega)).2.1, (e (a + 6) (by omega) (by omega)).2.1]
    exact q
  have eC : ∀ a sg pl, x ≤ a → a + 6 < x + 149 → CPl a sg pl M → CPl a sg pl M' := fun a sg pl a1 a2 q => by
    obtain ⟨q1, q2⟩ := q
    refine ⟨eP a a1 a2 q1, ?_⟩
    rw [(e a (by omega) (by omega)).2.2.1, (e (a + 1) (by omega) (by omega)).2.2.1, (e (a + 2) (by omega) (by omega)).2.2.1, (e (a + 3) (by omega) (by omega)).2.2.1, (e (a + 4) (by omega) (by omega)).2.2.1, (e (a + 5) (by omega) (by omega)).2.2.1, (e (a + 6) (by omega) (by omega)).2.2.1]
    exact q2
  have eS : ∀ a, x ≤ a → a + 20 < x + 149 → SeaSh a M → SeaSh a M' := fun a a1 a2 q => by
    unfold SeaSh at q ⊢
    have k : ∀ i, i ≤ 20 → zk M' (a + i) = zk M (a + i) ∧ zl M' (a + i) = zl M (a + i) ∧ zR M' (a + i) = zR M (a + i) := fun i hi => ⟨(e _ (by omega) (by omega)).1, (e _ (by omega) (by omega)).2.1, (e _ (by omega) (by omega)).2.2.2.2⟩
    have k0 : zk M' a = zk M a ∧ zR M' a = zR M a := ⟨(e _ (by omega) (by omega)).1, (e _ (by omega) (by omega)).2.2.2.2⟩
    rw [k0.1, k0.2, (k 1 (by omega)).1, (k 2 (by omega)).1, (k 3 (by omega)).1, (k 4 (by omega)).1, (k 5 (by omega)).1, (k 6 (by omega)).1, (k 7 (by omega)).1, (k 8 (by omega)).1, (k 9 (by omega)).1, (k 10 (by omega)).1, (k 11 (by omega)).1, (k 12 (by omega)).1, (k 13 (by omega)).1, (k 14 (by omega)).1, (k 15 (by omega)).1, (k 16 (by omega)).1, (k 17 (by omega)).1, (k 18 (by omega)).1, (k 19 (by omega)).1, (k 20 (by omega)).1,
      (k 2 (by omega)).2.1, (k 3 (by omega)).2.1, (k 5 (by omega)).2.1, (k 6 (by omega)).2.1, (k 7 (by omega)).2.1, (k 8 (by omega)).2.1, (k 9 (by omega)).2.1, (k 10 (by omega)).2.1, (k 12 (by omega)).2.1, (k 14 (by omega)).2.1, (k 15 (by omega)).2.1, (k 16 (by omega)).2.1, (k 17 (by omega)).2.1, (k 18 (by omega)).2.1, (k 19 (by omega)).2.1, (k 20 (by omega)).2.1,
      (k 1 (by omega)).2.2, (k 4 (by omega)).2.2, (k 11 (by omega)).2.2, (k 13 (by omega)).2.2]
    exact q
  refine ⟨h10, sa, sp, hp, ?_, ?_, eS sp (by omega) (by omega) h3, eC _ _ _ (by omega) (by omega) h4, eP _ (by omega) (by omega) h5, ?_, ?_, ?_, ?_, hk.e (e (x + 2 + 3) (by omega) (by omega)).2.2.1⟩
  · obtain ⟨q1, q2, q3⟩ := h1
    unfold KS at q2
    have x0 := e x (by omega) (by omega)
    refine ⟨?_, ?_, q3⟩
    · rw [x0.1, x0.2.2.2.2, (e (x + 1) (by omega) (by omega)).1, (e (x + 1) (by omega) (by omega)).2.1, (e (x + 20) (by omega) (by omega)).1, (e (x + 20) (by omega) (by omega)).2.1, (e (x + 21) (by omega) (by omega)).1, (e (x + 21) (by omega) (by omega)).2.1, (e (x + 22) (by omega) (by omega)).1, (e (x + 22) (by omega) (by omega)).2.1]
      exact q1
    · unfold KS
      rw [(e (x + 2) (by omega) (by omega)).1, (e (x + 2) (by omega) (by omega)).2.2.2.2, (e (x + 2 + 1) (by omega) (by omega)).1, (e (x + 2 + 1) (by omega) (by omega)).2.1, (e (x + 2 + 2) (by omega) (by omega)).1, (e (x + 2 + 2) (by omega) (by omega)).2.1, (e (x + 2 + 3) (by omega) (by omega)).1, (e (x + 2 + 3) (by omega) (by omega)).2.1]
      exact q2
  · obtain ⟨q1, q2⟩ := h2
    refine ⟨eS sa (by omega) (by omega) q1, ?_⟩
    have k : ∀ i, i ≤ 20 → zI M' (sa + i) = zI M (sa + i) := fun i hi => (e _ (by omega) (by omega)).2.2.1
    rw [show zI M' sa = zI M sa from k 0 (by omega), k 1 (by omega), k 3 (by omega), k 4 (by omega), k 7 (by omega), k 8 (by omega), k 9 (by omega), k 10 (by omega), k 11 (by omega), k 13 (by omega), k 15 (by omega), k 16 (by omega), k 17 (by omega), k 18 (by omega), k 19 (by omega), k 20 (by omega)]
    exact q2
  · obtain ⟨q1, q2, q3, q4⟩ := h6
    refine ⟨fun i hi => ?_, q2, fun i hi => ?_, by rw [(e x (by omega) (by omega)).2.2.1]; exact q4⟩
    · obtain ⟨r1, r2, j, j1, j2⟩ := q1 i hi
      exact ⟨by rw [(e (x + 20) (by omega) (by omega)).2.2.2.2]; exact r1, eP _ (by omega) (by omega) r2, j, j1, j2⟩
    · obtain ⟨-, -, j, j1, j2⟩ := q1 i (by omega)
      exact eC _ _ _ (by omega) (by omega) (q3 i hi)
  · intro i hi
    obtain ⟨r1, r2, r3, r4⟩ := h7 i hi
    exact ⟨by rw [(e (x + 21) (by omega) (by omega)).2.2.2.2]; exact r1, eP _ (by omega) (by omega) r2, by rw [(e (x + 22) (by omega) (by omega)).2.2.1]; exact r3, fun t => eC _ _ _ (by omega) (by omega) (r4 t)⟩
  · unfold CBu at h8 ⊢
    rw [(e x (by omega) (by omega)).2.2.1, (e (x + 1) (by omega) (by omega)).2.2.1]
    exact h8
  · unfold CNm at h9 ⊢
    rw [(e (sa + 2) (by omega) (by omega)).2.2.2.1, (e (sa + 5) (by omega) (by omega)).2.2.2.1, (e (sa + 14) (by omega) (by omega)).2.2.2.1, (e (sa + 12) (by omega) (by omega)).2.2.2.1]
    exact h9
/-- the model's state lives in the cells m to m + 13 -/
theorem MI.frg {m lo hi : Nat} {s : ST} {M M' : Mm} (h : MI m s M) (f : FrG lo hi M M') (hz : m + 14 ≤ zn M) (hl2 : hi ≤ m) : MI m s M' := by
  obtain ⟨sg, pl, hn, hl, sv, sl, bl, bf, ep, nm⟩ := s
  obtain ⟨h1, h2, h3, h4, h5, h6⟩ := h
  have e : ∀ i, i < 14 → zk M' (m + i) = zk M (m + i) ∧ zl M' (m + i) = zl M (m + i) ∧ zI M' (m + i) = zI M (m + i) ∧ zJ M' (m + i) = zJ M (m + i) ∧ zR M' (m + i) = zR M (m + i) := fun i hi2 => f.2 _ (by omega) (by omega)
  have e0 : zk M' m = zk M m ∧ zl M' m = zl M m ∧ zI M' m = zI M m ∧ zJ M' m = zJ M m ∧ zR M' m = zR M m := e 0 (by omega)
  have eM : MS m M' := by
    have q := h1.1
    unfold MS at q ⊢
    rw [e0.1, e0.2.2.2.2, (e 1 (by omega)).1, (e 2 (by omega)).1, (e 3 (by omega)).1, (e 4 (by omega)).1, (e 5 (by omega)).1, (e 6 (by omega)).1, (e 7 (by omega)).1, (e 8 (by omega)).1, (e 9 (by omega)).1, (e 10 (by omega)).1, (e 11 (by omega)).1, (e 12 (by omega)).1, (e 13 (by omega)).1,
      (e 1 (by omega)).2.1, (e 2 (by omega)).2.1, (e 3 (by omega)).2.1, (e 4 (by omega)).2.1, (e 5 (by omega)).2.1, (e 6 (by omega)).2.1, (e 7 (by omega)).2.1, (e 8 (by omega)).2.1, (e 9 (by omega)).2.1, (e 10 (by omega)).2.1, (e 11 (by omega)).2.1, (e 12 (by omega)).2.1, (e 13 (by omega)).2.1]
    exact q
  refine ⟨⟨eM, ?_, h1.2.2⟩, ⟨eM, ?_⟩, ?_, ?_, ?_, ?_⟩
  · rw [(e 1 (by omega)).2.2.1]; exact h1.2.1
  · rw [(e 2 (by omega)).2.2.1]; exact h2.2
  · unfold MHi at h3 ⊢
    rw [e0.2.2.1, (e 11 (by omega)).2.2.1]; exact h3
  · unfold MSn at h4 ⊢
    rw [(e 12 (by omega)).2.2.1, (e 13 (by omega)).2.2.1]; exact h4
  · unfold MBu at h5 ⊢
    rw [e0.2.2.1, (e 4 (by omega)).2.2.1]; exact h5
  · unfold MNm at h6 ⊢
    rw [(e 3 (by omega)).2.2.2.1]; exact h6
/-! copies in the model -/
section KP
variable {m hn : Nat} {sg pl : Nat → Nat} {hl : Nat → Nat → Nat} {M : Mm}
theorem s_X8_copies {a1 a2 p1 p2 l1 l2 : Nat} (k1 : zk M a1 = 10) (e1 : zl M a1 = l1) (k2 : zk M a2 = 10) (e2 : zl M a2 = l2) (b1 : p1 + 689 ≤ l1) (b2 : p2 + 689 ≤ l2) (c1 : l1 < 2147483648) (c2 : l2 < 2147483648) (d : a1 ≠ a2 ∨ p2 + 689 ≤ p1) (P : Mm → Prop)
    (K : ∀ M', FrI (fun b => b = a2) M M' → (∀ j, zI M' a2 j = if p2 ≤ j ∧ j < p2 + 689 then zI M a1 (p1 + (j - p2)) else zI M a2 j) → P M') : w_X8_copies M a1 (nI p1) a2 (nI p2) P := by
  unfold w_X8_copies
  refine lpI (fun n (z : Mm × Int32) => l_X8_copies_3 P (fun M2 => P M2) n z.1 a1 (nI p1) a2 (nI p2) z.2) (fun k z => (FrI (fun b => b = a2) M z.1 ∧ ∀ j, zI z.1 a2 j = if p2 ≤ j ∧ j < p2 + k then zI M a1 (p1 + (j - p2)) else zI M a2 j) ∧ z.2 = nI k) 689 ?_ ?_ (M, nI 0) ⟨⟨FrI.rf, fun j => (if_neg (by omega)).symm⟩, rfl⟩
  · rintro n ⟨M1, x1⟩ ⟨⟨f, g⟩, q1⟩
    dsimp only at f g q1 ⊢
    subst q1
    simp (disch := omega) only [l_X8_copies_3, l_0, l_1, l_2, l_3, l_4, l_5, l_6, l_7, l_8, l_9, l_10, l_20, l_30, l_31, l_34, l_40, l_65, l_100, l_255, l_11, l_12, l_24, l_600, l_689, l_999, l_120, l_32, nI_add, pk_mul, n_sub, n_leT, n_leF, n_ltT, n_ltF, n_eqT, n_eqF, n_cl, n_vp, fa_andq, fa_orq, fa_xorq, n_shl, n_shr, n_t1, n_t0, n_div, n_m1, not_true_eq_false, Bool.false_eq_true, false_and, Bool.not_false, Bool.not_true, Bool.and_true, Bool.and_false, Bool.false_and, Bool.true_and, true_and, and_true, true_or, or_true, not_false_eq_true, Option.some.injEq, exists_eq_left', forall_eq, ↓reduceIte, Nat.add_zero, Nat.zero_add, and_self]
    exact K M1 f g
  · rintro n k ⟨M1, x1⟩ hk ⟨⟨f, g⟩, q1⟩ L
    dsimp only at f g q1 L ⊢
    subst q1
    have v : zI M1 a1 (p1 + k) = zI M a1 (p1 + k) := by
      by_cases e : a1 = a2
      · subst e; rw [g, if_neg (by omega)]
      · rw [f.i e]
    simp (disch := omega) only [l_X8_copies_3, f.k, f.l, k1, k2, e1, e2, v, l_0, l_1, l_2, l_3, l_4, l_5, l_6, l_7, l_8, l_9, l_10, l_20, l_30, l_31, l_34, l_40, l_65, l_100, l_255, l_11, l_12, l_24, l_600, l_689, l_999, l_120, l_32, nI_add, pk_mul, n_sub, n_leT, n_leF, n_ltT, n_ltF, n_eqT, n_eqF, n_cl, n_vp, fa_andq, fa_orq, fa_xorq, n_shl, n_shr, n_t1, n_t0, n_div, n_m1, not_true_eq_false, Bool.false_eq_true, false_and, Bool.not_false, Bool.not_true, Bool.and_true, Bool.and_false, Bool.false_and, Bool.true_and, true_and, and_true, true_or, or_true, not_false_eq_true, Option.some.injEq, exists_eq_left', forall_eq, ↓reduceIte, Nat.add_zero, Nat.zero_add, and_self]
    refine L (_, _) ⟨⟨f.trans (FrI.sI rfl), fun j => ?_⟩, rfl⟩
    by_cases e : j = p2 + k
    · subst e
      refine (zI_sI1 _ _ _ _).trans ?_
      rw [if_pos (by omega), show p2 + k - p2 = k by omega]
    · refine (zI_sI2 _ _ _ _ e).trans ((g j).trans ?_)
      by_cases e3 : p2 ≤ j ∧ j < p2 + k
      · rw [if_pos e3, if_pos (by omega)]
      · rw [if_neg e3, if_neg (by omega)]
theorem s_X8_puts {a1 a2 : Nat} (k1 : zk M a1 = 10) (e1 : zl M a1 = 689) (k2 : zk M a2 = 10) (e2 : zl M a2 = 689) (d : a1 ≠ a2) (P : Mm → Prop)
    (K : ∀ M', FrI (fun b => b = a2) M M' → (∀ j, j < 689 → zI M' a2 j = zI M a1 j) → P M') : w_X8_puts M m a1 a2 P := by
  unfold w_X8_puts
  refine lpI (fun n (z : Mm × Int32) => l_X8_puts_2 P (fun M2 => P M2) n z.1 a1 a2 z.2) (fun k z => (FrI (fun b => b = a2) M z.1 ∧ ∀ j, j < k → zI z.1 a2 j = zI M a1 j) ∧ z.2 = nI k) 689 ?_ ?_ (M, nI 0) ⟨⟨FrI.rf, fun j hj => absurd hj (Nat.not_lt_zero j)⟩, rfl⟩
  · rintro n ⟨M1, x1⟩ ⟨⟨f, g⟩, q1⟩
    dsimp only at f g q1 ⊢
    subst q1
    simp (disch := omega) only [l_X8_puts_2, l_0, l_1, l_2, l_3, l_4, l_5, l_6, l_7, l_8, l_9, l_10, l_20, l_30, l_31, l_34, l_40, l_65, l_100, l_255, l_11, l_12, l_24, l_600, l_689, l_999, l_120, l_32, nI_add, pk_mul, n_sub, n_leT, n_leF, n_ltT, n_ltF, n_eqT, n_eqF, n_cl, n_vp, fa_andq, fa_orq, fa_xorq, n_shl, n_shr, n_t1, n_t0, n_div, n_m1, not_true_eq_false, Bool.false_eq_true, false_and, Bool.not_false, Bool.not_true, Bool.and_true, Bool.and_false, Bool.false_and, Bool.true_and, true_and, and_true, true_or, or_true, not_false_eq_true, Option.some.injEq, exists_eq_left', forall_eq, ↓reduceIte, Nat.add_zero, Nat.zero_add, and_self]
    exact K M1 f g
  · rintro n k ⟨M1, x1⟩ hk ⟨⟨f, g⟩, q1⟩ L
    dsimp only at f g q1 L ⊢
    subst q1
    have v : zI M1 a1 k = zI M a1 k := by rw [f.i d]
    simp (disch := omega) only [l_X8_puts_2, f.k, f.l, k1, k2, e1, e2, v, l_0, l_1, l_2, l_3, l_4, l_5, l_6, l_7, l_8, l_9, l_10, l_20, l_30, l_31, l_34, l_40, l_65, l_100, l_255, l_11, l_12, l_24, l_600, l_689, l_999, l_120, l_32, nI_add, pk_mul, n_sub, n_leT, n_leF, n_ltT, n_ltF, n_eqT, n_eqF, n_cl, n_vp, fa_andq, fa_orq, fa_xorq, n_shl, n_shr, n_t1, n_t0, n_div, n_m1, not_true_eq_false, Bool.false_eq_true, false_and, Bool.not_false, Bool.not_true, Bool.and_true, Bool.and_false, Bool.false_and, Bool.true_and, true_and, and_true, true_or, or_true, not_false_eq_true, Option.some.injEq, exists_eq_left', forall_eq, ↓reduceIte, Nat.add_zero, Nat.zero_add, and_self]
    refine L (_, _) ⟨⟨f.trans (FrI.sI rfl), fun j hj => ?_⟩, rfl⟩
    by_cases e : j = k
    · subst e; exact zI_sI1 _ _ _ _
    · exact (zI_sI2 _ _ _ _ e).trans (g j (by omega))
theorem MS.o {m : Nat} {M : Mm} (h : MS m M) : (zk M m = 8 ∧ zR M m 1 = some (m + 1) ∧ zR M m 2 = some (m + 2) ∧ zR M m 22 = some (m + 10) ∧ zR M m 25 = some (m + 11) ∧ zR M m 26 = some (m + 12) ∧ zR M m 27 = some (m + 13)) ∧ (zk M (m + 1) = 10 ∧ zk M (m + 2) = 10 ∧ zk M (m + 10) = 10 ∧ zk M (m + 11) = 10 ∧ zk M (m + 12) = 10 ∧ zk M (m + 13) = 12) ∧ zl M (m + 1) = 120 ∧ zl M (m + 2) = 689 ∧ zl M (m + 10) = 689 ∧ zl M (m + 11) = 6890 ∧ zl M (m + 12) = 1378 ∧ zl M (m + 13) = 2 := by
  obtain ⟨⟨a0, a1, a2, -, -, -, -, -, -, -, a22, a25, a26, a27⟩, ⟨b1, b2, -, -, -, -, -, -, -, b10, b11, b12, b13⟩, c1, c2, -, -, -, -, -, -, -, c10, c11, c12, c13⟩ := h
  exact ⟨⟨a0, a1, a2, a22, a25, a26, a27⟩, ⟨b1, b2, b10, b11, b12, b13⟩, c1, c2, c10, c11, c12, c13⟩
/-- keeping a plan: the copy and the count -/
theorem s_keep (h : MS m M) (g : ∀ i, i < 689 → zI M (m + 2) i = nI (pl i)) (hh : MHi m hn hl M) (h10 : hn < 10) (P : Mm → Prop)
    (K : ∀ M', FrI (fun b => b = m ∨ b = m + 11) M M' → (∀ i, i ≠ 24 → zI M' m i = zI M m i) → MHi m (hn + 1) (fun i => if i = hn then pl else hl i) M' → P M') :
    w_X8_copies M (m + 2) (nI 0) (m + 11) (nI (689 * hn)) (fun M3 => zk M3 m = 8 ∧ zk M3 m = 8 ∧ P (sI M3 m 24 ((zI M3 m 24) + nI 1))) := by
  obtain ⟨q1, q2⟩ := hh
  have o := h.o
  refine s_X8_copies (l1 := 689) (l2 := 6890) o.2.1.2.1 o.2.2.2.1 o.2.1.2.2.2.1 o.2.2.2.2.2.1 (by omega) (by omega) (by omega) (by omega) (Or.inl (by omega)) _ fun M1 f1 g1 => ?_
  have z8 : zk M1 m = 8 := by rw [f1.k]; exact o.1.1
  have z24 : zI M1 m 24 = nI hn := by rw [f1.i (by omega)]; exact q1
  simp (disch := omega) only [z8, z24, l_0, l_1, l_2, l_3, l_4, l_5, l_6, l_7, l_8, l_9, l_10, l_20, l_30, l_31, l_34, l_40, l_65, l_100, l_255, l_11, l_12, l_24, l_600, l_689, l_999, l_120, l_32, nI_add, pk_mul, n_sub, n_leT, n_leF, n_ltT, n_ltF, n_eqT, n_eqF, n_cl, n_vp, fa_andq, fa_orq, fa_xorq, n_shl, n_shr, n_t1, n_t0, n_div, n_m1, not_true_eq_false, Bool.false_eq_true, false_and, Bool.not_false, Bool.not_true, Bool.and_true, Bool.and_false, Bool.false_and, Bool.true_and, true_and, and_true, true_or, or_true, not_false_eq_true, Option.some.injEq, exists_eq_left', forall_eq, ↓reduceIte, Nat.add_zero, Nat.zero_add, and_self]
  refine K _ ((f1.mono fun b hb => Or.inr hb).trans (FrI.sI (Or.inl rfl))) (fun i hi => ?_) ⟨zI_sI1 _ _ _ _, fun i hi k hk => ?_⟩
  · rw [zI_sI2 _ _ _ _ hi, f1.i (by omega)]
  · rw [zI_sIo _ _ _ _ (by omega), g1]
    try dsimp only
    by_cases c : i = hn
    · subst c
      rw [if_pos (by omega), if_pos rfl, show 0 + (689 * i + k - 689 * i) = k by omega]
      exact g k hk
    · rw [if_neg (by omega), if_neg c]
      exact q2 i (by omega) k hk
theorem s_X8_keeps (h : MS m M) (g : ∀ i, i < 689 → zI M (m + 2) i = nI (pl i)) (hh : MHi m hn hl M) (h10 : hn ≤ 10) (P : Mm → Prop)
    (K : ∀ M', FrI (fun b => b = m ∨ b = m + 11) M M' → (∀ i, i ≠ 24 → zI M' m i = zI M m i) → MHi m (pushn hn) (push hn hl pl) M' → P M') : w_X8_keeps M m P := by
  have o := h.o
  have q1 := hh.1
  by_cases c : hn = 10
  · subst c
    have q2 := hh.2
    have f0 : FrI (fun b => b = m ∨ b = m + 11) M (sI M m 24 (nI 9)) := FrI.sI (Or.inl rfl)
    simp (disch := omega) only [w_X8_keeps, o, q1, zk_sI, zR_sI, l_0, l_1, l_2, l_3, l_4, l_5, l_6, l_7, l_8, l_9, l_10, l_20, l_30, l_31, l_34, l_40, l_65, l_100, l_255, l_11, l_12, l_24, l_600, l_689, l_999, l_120, l_32, nI_add, pk_mul, n_sub, n_leT, n_leF, n_ltT, n_ltF, n_eqT, n_eqF, n_cl, n_vp, fa_andq, fa_orq, fa_xorq, n_shl, n_shr, n_t1, n_t0, n_div, n_m1, not_true_eq_false, Bool.false_eq_true, false_and, Bool.not_false, Bool.not_true, Bool.and_true, Bool.and_false, Bool.false_and, Bool.true_and, true_and, and_true, true_or, or_true, not_false_eq_true, Option.some.injEq, exists_eq_left', forall_eq, ↓reduceIte, Nat.add_zero, Nat.zero_add, and_self]
    refine lpI (fun n (z : Mm × Int32) => l_X8_keeps_21 P _ n z.1 m z.2) (fun k z => (FrI (fun b => b = m ∨ b = m + 11) M z.1 ∧ (∀ i, zI z.1 m i = zI (sI M m 24 (nI 9)) m i) ∧ ∀ i, i < 10 → ∀ j, j < 689 → zI z.1 (m + 11) (689 * i + j) = nI (if i < k then hl (i + 1) j else hl i j)) ∧ z.2 = nI k) 9 ?_ ?_ (sI M m 24 (nI 9), nI 0) ⟨⟨f0, fun _ => rfl, fun i hi j hj => ?_⟩, rfl⟩
    · rintro n ⟨M1, x1⟩ ⟨⟨f, g1, g2⟩, e1⟩
      dsimp only at f g1 g2 e1 ⊢
      subst e1
      have h1 := h.fr f
      have o1 := h1.o
      have z24 : zI M1 m 24 = nI 9 := by rw [g1]; exact zI_sI1 _ _ _ _
      simp (disch := omega) only [l_X8_keeps_21, o1, z24, l_0, l_1, l_2, l_3, l_4, l_5, l_6, l_7, l_8, l_9, l_10, l_20, l_30, l_31, l_34, l_40, l_65, l_100, l_255, l_11, l_12, l_24, l_600, l_689, l_999, l_120, l_32, nI_add, pk_mul, n_sub, n_leT, n_leF, n_ltT, n_ltF, n_eqT, n_eqF, n_cl, n_vp, fa_andq, fa_orq, fa_xorq, n_shl, n_shr, n_t1, n_t0, n_div, n_m1, not_true_eq_false, Bool.false_eq_true, false_and, Bool.not_false, Bool.not_true, Bool.and_true, Bool.and_false, Bool.false_and, Bool.true_and, true_and, and_true, true_or, or_true, not_false_eq_true, Option.some.injEq, exists_eq_left', forall_eq, ↓reduceIte, Nat.add_zero, Nat.zero_add, and_self]
      have k9 := s_keep (hn := 9) (hl := fun i => hl (i + 1)) (pl := pl) h1 (fun i hi => by rw [f.i (by omega)]; exact g i hi) ⟨z24, fun i hi k hk => by rw [g2 i (by omega) k hk, if_pos (by omega)]⟩ (by omega) P fun M2 f2 g3 k2 => ?_
      · exact k9
      · refine K M2 (f.trans f2) (fun i hi => by rw [g3 i hi, g1]; exact zI_sI2 _ _ _ _ hi) ?_
        unfold push pushn
        simp only [if_true]
        exact k2
    · rintro n k ⟨M1, x1⟩ hk ⟨⟨f, g1, g2⟩, e1⟩ L
      dsimp only at f g1 g2 e1 L ⊢
      subst e1
      have h1 := h.fr f
      have o1 := h1.o
      have z24 : zI M1 m 24 = nI 9 := by rw [g1]; exact zI_sI1 _ _ _ _
      simp (disch := omega) only [l_X8_keeps_21, o1, z24, l_0, l_1, l_2, l_3, l_4, l_5, l_6, l_7, l_8, l_9, l_10, l_20, l_30, l_31, l_34, l_40, l_65, l_100, l_255, l_11, l_12, l_24, l_600, l_689, l_999, l_120, l_32, nI_add, pk_mul, n_sub, n_leT, n_leF, n_ltT, n_ltF, n_eqT, n_eqF, n_cl, n_vp, fa_andq, fa_orq, fa_xorq, n_shl, n_shr, n_t1, n_t0, n_div, n_m1, not_true_eq_false, Bool.false_eq_true, false_and, Bool.not_false, Bool.not_true, Bool.and_true, Bool.and_false, Bool.false_and, Bool.true_and, true_and, and_true, true_or, or_true, not_false_eq_true, Option.some.injEq, exists_eq_left', forall_eq, ↓reduceIte, Nat.add_zero, Nat.zero_add, and_self]
      refine s_X8_copies (l1 := 6890) (l2 := 6890) o1.2.1.2.2.2.1 o1.2.2.2.2.2.1 o1.2.1.2.2.2.1 o1.2.2.2.2.2.1 (by omega) (by omega) (by omega) (by omega) (Or.inr (by omega)) _ fun M2 f2 g3 => ?_
      refine L (M2, _) ⟨⟨f.trans (f2.mono fun b hb => Or.inr hb), fun i => by rw [f2.i (by omega)]; exact g1 i, fun i hi j hj => ?_⟩, rfl⟩
      rw [g3]
      by_cases c : i = k
      · subst c
        rw [if_pos (by omega), if_pos (by omega), show 689 * (i + 1) + (689 * i + j - 689 * i) = 689 * (i + 1) + j by omega, g2 (i + 1) (by omega) j hj, if_neg (by omega)]
      · rw [if_neg (by omega), g2 i hi j hj]
        by_cases c2 : i < k
        · rw [if_pos c2, if_pos (by omega)]
        · rw [if_neg c2, if_neg (by omega)]
    · rw [zI_sIo _ _ _ _ (by omega), if_neg (by omega)]
      exact q2 i hi j hj
  · simp (disch := omega) only [w_X8_keeps, o, q1, l_0, l_1, l_2, l_3, l_4, l_5, l_6, l_7, l_8, l_9, l_10, l_20, l_30, l_31, l_34, l_40, l_65, l_100, l_255, l_11, l_12, l_24, l_600, l_689, l_999, l_120, l_32, nI_add, pk_mul, n_sub, n_leT, n_leF, n_ltT, n_ltF, n_eqT, n_eqF, n_cl, n_vp, fa_andq, fa_orq, fa_xorq, n_shl, n_shr, n_t1, n_t0, n_div, n_m1, not_true_eq_false, Bool.false_eq_true, false_and, Bool.not_false, Bool.not_true, Bool.and_true, Bool.and_false, Bool.false_and, Bool.true_and, true_and, and_true, true_or, or_true, not_false_eq_true, Option.some.injEq, exists_eq_left', forall_eq, ↓reduceIte, Nat.add_zero, Nat.zero_add, and_self]
    refine s_keep h g hh (by omega) P fun M2 f2 g3 k2 => ?_
    refine K M2 f2 g3 ?_
    unfold push pushn
    simp only [if_neg c]
    exact k2
end KP
