/-! PARSE, the steps that all lines share, in the model -/
/-- the model while it parses, the token at p read -/
def PMx (m L : Nat) (bf : Nat → Int32) (p : Nat) (M : Mm) : Prop := MS m M ∧ TX m L bf M ∧ MT m L bf p M ∧ zI M m 12 = nI 0
def MFl (m c q : Nat) (M : Mm) : Prop := zI M m 12 = nI c ∧ zI M m 13 = nI q
theorem PMx.fr {m L : Nat} {bf : Nat → Int32} {p : Nat} {M M' : Mm} {R : Nat → Prop} (h : PMx m L bf p M) (f : FQ R M M') (h1 : ¬ R m) (h2 : ¬ R (m + 4)) : PMx m L bf p M' := by
  obtain ⟨a, b, c, d⟩ := h
  refine ⟨?_, ?_, ?_, by rw [f.i h1]; exact d⟩
  · unfold MS at a ⊢; rw [f.k, f.l, f.r]; exact a
  · unfold TX at b ⊢; rw [f.k, f.l, f.r, f.i h1, f.i h2]; exact b
  · unfold MT at c ⊢; rw [f.i h1, f.j h1]; exact c
/-- the fields of m that a step leaves -/
def KF (m : Nat) (M M' : Mm) : Prop := ∀ j, j ≠ 7 → j ≠ 8 → j ≠ 9 → j ≠ 10 → j ≠ 14 → zI M' m j = zI M m j
def AF (m : Nat) (M M' : Mm) : Prop := ∀ j, j ≠ 7 → j ≠ 8 → j ≠ 9 → j ≠ 10 → zI M' m j = zI M m j
theorem AF.kf {m : Nat} {M M' : Mm} (h : AF m M M') : KF m M M' := fun j a b c d _ => h j a b c d
theorem AF.trans {m : Nat} {M M1 M2 : Mm} (h : AF m M M1) (k : AF m M1 M2) : AF m M M2 := fun j a b c d => (k j a b c d).trans (h j a b c d)
theorem KF.rf {m : Nat} {M : Mm} : KF m M M := fun _ _ _ _ _ _ => rfl
theorem KF.trans {m : Nat} {M M1 M2 : Mm} (h : KF m M M1) (k : KF m M1 M2) : KF m M M2 := fun j a b c d e => (k j a b c d e).trans (h j a b c d e)
section PM1
variable {m L p : Nat} {bf : Nat → Int32} {M : Mm}
theorem s_M_advance (h : PMx m L bf p M) (hp : p ≤ L) (P : Mm → Prop)
    (K : ∀ M', FrJ m (fun b => b = m) M M' → AF m M M' → PMx m L bf (tN L bf p) M' → P M') : w_X8_advance M m P := by
  obtain ⟨a, b, c, d⟩ := h
  refine s_X8_advance b (tN_le L bf hp) c.1 P fun M1 f1 g1 b1 c1 => ?_
  refine K M1 f1 (fun j a b c d => g1 j a b c d) ⟨?_, b1, c1, by rw [g1 12 (by omega) (by omega) (by omega) (by omega)]; exact d⟩
  unfold MS at a ⊢; rw [f1.2.1, f1.2.2.1, f1.2.2.2.1]; exact a
theorem s_X8_fails (h : PMx m L bf p M) {c : Nat} (P : Int32 → Mm → Prop)
    (K : ∀ M', FrI (fun b => b = m) M M' → (∀ j, j ≠ 12 → j ≠ 13 → zI M' m j = zI M m j) → MFl m c (tS L bf p) M' → P (nI 0) M') : w_X8_fails M m (nI c) P := by
  obtain ⟨a, b, t, d⟩ := h
  have e7 : ∀ v, zI (sI M m 12 v) m 7 = nI (tS L bf p) := fun v => (zI_sI2 _ _ _ _ (by omega)).trans t.2.2.1
  simp (disch := omega) only [w_X8_fails, b.1, d, zk_sI, e7, l_0, l_1, n_eqT, not_true_eq_false, Bool.false_eq_true, false_and, Bool.not_false, Bool.not_true, Bool.and_true, Bool.and_false, Bool.false_and, Bool.true_and, true_and, and_true, true_or, or_true, not_false_eq_true, Option.some.injEq, exists_eq_left', forall_eq, ↓reduceIte, Nat.add_zero, Nat.zero_add, and_self]
  exact K _ ((FrI.sI (R := fun b => b = m) rfl).trans (FrI.sI rfl)) (fun j h1 h2 => (zI_sI2 _ _ _ _ h2).trans (zI_sI2 _ _ _ _ h1)) ⟨(zI_sI2 _ _ _ _ (by omega)).trans (zI_sI1 _ _ _ _), zI_sI1 _ _ _ _⟩
theorem s_X8_starts0 (h : PMx m L bf p M) {c : Nat} (P : Int32 → Mm → Prop)
    (K : ∀ M', FrI (fun b => b = m) M M' → (∀ j, j ≠ 12 → j ≠ 13 → zI M' m j = zI M m j) → MFl m c (tS L bf p) M' → P (nI 0) M') : w_X8_starts M m (nI c) (nI 0) P := by
  have F := s_X8_fails (c := c) h (fun r2 M2 => (r2 = nI 0 ∨ r2 = nI 1) ∧ P r2 M2) fun M' a b c => ⟨Or.inl rfl, K M' a b c⟩
  simp (disch := omega) only [w_X8_starts, h.2.1.1, l_0, l_1, n_eqT, not_true_eq_false, Bool.false_eq_true, false_and, Bool.not_false, Bool.not_true, Bool.and_true, Bool.and_false, Bool.false_and, Bool.true_and, true_and, and_true, true_or, or_true, not_false_eq_true, Option.some.injEq, exists_eq_left', forall_eq, ↓reduceIte, Nat.add_zero, Nat.zero_add, and_self]
  exact F
theorem s_X8_starts1 (h : PMx m L bf p M) (hp : p ≤ L) {c : Nat} (P : Int32 → Mm → Prop)
    (K : ∀ M', FrJ m (fun b => b = m) M M' → AF m M M' → PMx m L bf (tN L bf p) M' → P (nI 1) M') : w_X8_starts M m (nI c) (nI 1) P := by
  have F := s_M_advance h hp (fun M1 => P (nI 1) M1) K
  simp (disch := omega) only [w_X8_starts, h.2.1.1, l_0, l_1, n_eqF, n_eqT, not_true_eq_false, Bool.false_eq_true, false_and, Bool.not_false, Bool.not_true, Bool.and_true, Bool.and_false, Bool.false_and, Bool.true_and, true_and, and_true, true_or, or_true, not_false_eq_true, Option.some.injEq, exists_eq_left', forall_eq, ↓reduceIte, Nat.add_zero, Nat.zero_add, and_self]
  exact F
theorem s_X8_takes (h : PMx m L bf p M) (hp : p ≤ L) {lo hi : Nat} (b1 : lo < 1000) (b2 : hi < 1000) (P : Int32 → Mm → Prop)
    (K1 : nerr L bf p lo hi = 0 → ∀ M', FrJ m (fun b => b = m) M M' → KF m M M' → PMx m L bf (tN L bf p) M' → zI M' m 14 = nI (tV L bf p) → P (nI 1) M')
    (K0 : nerr L bf p lo hi ≠ 0 → ∀ M', FrI (fun b => b = m) M M' → (∀ j, j ≠ 12 → j ≠ 13 → zI M' m j = zI M m j) → MFl m (nerr L bf p lo hi) (tS L bf p) M' → P (nI 0) M') : w_X8_takes M m (nI lo) (nI hi) P := by
  have h0 := h
  obtain ⟨a, b, t, d⟩ := h
  have kb := tK_b (L := L) (bf := bf) (p := p)
  have t9 := t.2.1
  by_cases c : tK L bf p = 2
  · have t10 := t.2.2.2.2 c
    have v := tK_2 c
    have t9b : zI M m 9 = nI 2 := by rw [t9, c]
    by_cases c1 : lo ≤ tV L bf p ∧ tV L bf p ≤ hi
    · have ne : nerr L bf p lo hi = 0 := by unfold nerr; rw [if_pos c, if_pos c1]
      have q1 : PMx m L bf p (sI M m 14 (nI (tV L bf p))) := by
        refine ⟨?_, b.fr FrJ.sI (zI_sI2 _ _ _ _ (by omega)), ?_, (zI_sI2 _ _ _ _ (by omega)).trans d⟩
        · unfold MS at a ⊢; exact a
        · exact ⟨(zI_sI2 _ _ _ _ (by omega)).trans t.1, (zI_sI2 _ _ _ _ (by omega)).trans t9, (zI_sI2 _ _ _ _ (by omega)).trans t.2.2.1, t.2.2.2.1, fun e => (zI_sI2 _ _ _ _ (by omega)).trans (t.2.2.2.2 e)⟩
      have F := s_M_advance q1 hp (fun M3 => P (nI 1) M3) fun M1 f1 g1 p1 => by
        refine K1 ne M1 (FrJ.sI.trans f1) (fun j a b c d e => (g1 j a b c d).trans (zI_sI2 _ _ _ _ e)) p1 ?_
        rw [g1 14 (by omega) (by omega) (by omega) (by omega)]
        exact zI_sI1 _ _ _ _
      simp (disch := omega) only [w_X8_takes, b.1, t9b, t10, l_0, l_1, l_2, l_3, n_eqT, n_eqF, e_within, decide_eq_true c1, bI_t, zk_sI, not_true_eq_false, Bool.false_eq_true, false_and, Bool.not_false, Bool.not_true, Bool.and_true, Bool.and_false, Bool.false_and, Bool.true_and, true_and, and_true, true_or, or_true, not_false_eq_true, Option.some.injEq, exists_eq_left', forall_eq, ↓reduceIte, Nat.add_zero, Nat.zero_add, and_self]
      exact F
    · have ne : nerr L bf p lo hi = 3 := by unfold nerr; rw [if_pos c, if_neg c1]
      have F := s_X8_fails (c := 3) h0 (fun r4 M4 => (r4 = nI 0 ∨ r4 = nI 1) ∧ P r4 M4) fun M1 f1 g1 e1 => ⟨Or.inl rfl, K0 (by omega) M1 f1 g1 (by rw [ne]; exact e1)⟩
      simp (disch := omega) only [w_X8_takes, b.1, t9b, t10, l_0, l_1, l_2, l_3, n_eqT, n_eqF, e_within, decide_eq_false c1, bI_f, not_true_eq_false, Bool.false_eq_true, false_and, Bool.not_false, Bool.not_true, Bool.and_true, Bool.and_false, Bool.false_and, Bool.true_and, true_and, and_true, true_or, or_true, not_false_eq_true, Option.some.injEq, exists_eq_left', forall_eq, ↓reduceIte, Nat.add_zero, Nat.zero_add, and_self]
      exact F
  · have ne : nerr L bf p lo hi = 1 := by unfold nerr; rw [if_neg c]
    have F := s_X8_fails (c := 1) h0 (fun r4 M4 => (r4 = nI 0 ∨ r4 = nI 1) ∧ P r4 M4) fun M1 f1 g1 e1 => ⟨Or.inl rfl, K0 (by omega) M1 f1 g1 (by rw [ne]; exact e1)⟩
    simp (disch := omega) only [w_X8_takes, b.1, t9, l_0, l_1, l_2, l_3, n_eqF, not_true_eq_false, Bool.false_eq_true, false_and, Bool.not_false, Bool.not_true, Bool.and_true, Bool.and_false, Bool.false_and, Bool.true_and, true_and, and_true, true_or, or_true, not_false_eq_true, Option.some.injEq, exists_eq_left', forall_eq, ↓reduceIte, Nat.add_zero, Nat.zero_add, and_self]
    exact F
theorem s_X8_lays (h : PMx m L bf p M) (hp : p ≤ L) {i lo hi : Nat} (b0 : i < 120) (b1 : lo < 1000) (b2 : hi < 1000) (P : Int32 → Mm → Prop)
    (K1 : nerr L bf p lo hi = 0 → ∀ M', FQ (fun b => b = m ∨ b = m + 5) M M' → KF m M M' → PMx m L bf (tN L bf p) M' → (∀ j, zI M' (m + 5) j = if j = i then nI (tV L bf p) else zI M (m + 5) j) → P (nI 1) M')
    (K0 : nerr L bf p lo hi ≠ 0 → ∀ M', FrI (fun b => b = m) M M' → (∀ j, j ≠ 12 → j ≠ 13 → zI M' m j = zI M m j) → MFl m (nerr L bf p lo hi) (tS L bf p) M' → P (nI 0) M') : w_X8_lays M m (nI i) (nI lo) (nI hi) P := by
  have k8 := h.2.1.1
  simp only [w_X8_lays, k8, l_0, l_1, not_true_eq_false, Bool.false_eq_true, false_and, Bool.not_false, Bool.not_true, Bool.and_true, Bool.and_false, Bool.false_and, Bool.true_and, true_and, and_true, true_or, or_true, not_false_eq_true, Option.some.injEq, exists_eq_left', forall_eq, ↓reduceIte, Nat.add_zero, Nat.zero_add, and_self]
  refine s_X8_takes h hp b1 b2 _ (fun ne M1 f1 g1 p1 e14 => ?_) fun ne M1 f1 g1 e1 => ?_
  · have s1 := p1.1
    unfold MS at s1
    have k81 := p1.2.1.1
    simp (disch := omega) only [s1, n_eqF, n_vp, n_cl, e14, not_true_eq_false, Bool.false_eq_true, false_and, Bool.not_false, Bool.not_true, Bool.and_true, Bool.and_false, Bool.false_and, Bool.true_and, true_and, and_true, true_or, or_true, not_false_eq_true, Option.some.injEq, exists_eq_left', forall_eq, ↓reduceIte, Nat.add_zero, Nat.zero_add, and_self]
    have f2 : FQ (fun b => b = m + 5) M1 (sI M1 (m + 5) i (nI (tV L bf p))) := fq_sI rfl
    refine K1 ne _ ((fq_J f1 (Or.inl rfl)).trans (fq_sI (Or.inr rfl))) (fun j a b c d e => ?_) (p1.fr f2 (by omega) (by omega)) fun j => ?_
    · rw [zI_sIo _ _ _ _ (by omega)]
      exact g1 j a b c d e
    · have e5 : zI M1 (m + 5) = zI M (m + 5) := f1.2.2.2.2.1 _ (by omega)
      rw [← e5]
      by_cases c : j = i
      · subst c
        rw [if_pos rfl]
        exact zI_sI1 _ _ _ _
      · rw [if_neg c]
        exact zI_sI2 _ _ _ _ c
  · simp (disch := omega) only [n_eqT, not_true_eq_false, Bool.false_eq_true, false_and, Bool.not_false, Bool.not_true, Bool.and_true, Bool.and_false, Bool.false_and, Bool.true_and, true_and, and_true, true_or, or_true, not_false_eq_true, Option.some.injEq, exists_eq_left', forall_eq, ↓reduceIte, Nat.add_zero, Nat.zero_add, and_self]
    exact K0 ne M1 f1 g1 e1
theorem s_X8_closes (h : PMx m L bf p M) (hp : p ≤ L) (P : Int32 → Mm → Prop)
    (K1 : tK L bf p = 3 → ∀ M', FrJ m (fun b => b = m) M M' → AF m M M' → PMx m L bf (tN L bf p) M' → P (nI 1) M')
    (K0 : tK L bf p ≠ 3 → ∀ M', FrI (fun b => b = m) M M' → (∀ j, j ≠ 12 → j ≠ 13 → zI M' m j = zI M m j) → MFl m 1 (tS L bf p) M' → P (nI 0) M') : w_X8_closes M m P := by
  have k8 := h.2.1.1
  have t9 := h.2.2.1.2.1
  have kb := tK_b (L := L) (bf := bf) (p := p)
  by_cases c : tK L bf p = 3
  · have t9b : zI M m 9 = nI 3 := by rw [t9, c]
    have F := s_X8_starts1 (c := 1) h hp (fun r2 M2 => (r2 = nI 0 ∨ r2 = nI 1) ∧ P r2 M2) fun M1 f1 g1 p1 => ⟨Or.inr rfl, K1 c M1 f1 g1 p1⟩
    simp (disch := omega) only [w_X8_closes, k8, t9b, l_0, l_1, l_3, n_eqT, not_true_eq_false, Bool.false_eq_true, false_and, Bool.not_false, Bool.not_true, Bool.and_true, Bool.and_false, Bool.false_and, Bool.true_and, true_and, and_true, true_or, or_true, not_false_eq_true, Option.some.injEq, exists_eq_left', forall_eq, ↓reduceIte, Nat.add_zero, Nat.zero_add, and_self]
    exact F
  · have F := s_X8_starts0 (c := 1) h (fun r2 M2 => (r2 = nI 0 ∨ r2 = nI 1) ∧ P r2 M2) fun M1 f1 g1 p1 => ⟨Or.inl rfl, K0 c M1 f1 g1 p1⟩
    simp (disch := omega) only [w_X8_closes, k8, t9, l_0, l_1, l_3, n_eqF, not_true_eq_false, Bool.false_eq_true, false_and, Bool.not_false, Bool.not_true, Bool.and_true, Bool.and_false, Bool.false_and, Bool.true_and, true_and, and_true, true_or, or_true, not_false_eq_true, Option.some.injEq, exists_eq_left', forall_eq, ↓reduceIte, Nat.add_zero, Nat.zero_add, and_self]
    exact F
end PM1
