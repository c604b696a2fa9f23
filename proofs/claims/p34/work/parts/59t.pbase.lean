/-! PARSE, the steps that all lines share -/
/-- only the cells of R -/
def FQ (R : Nat → Prop) (M M' : Mm) : Prop := zn M' = zn M ∧ zk M' = zk M ∧ zl M' = zl M ∧ zR M' = zR M ∧ (∀ b, ¬ R b → zI M' b = zI M b) ∧ ∀ b, ¬ R b → zJ M' b = zJ M b
theorem FQ.rf {R : Nat → Prop} {M : Mm} : FQ R M M := ⟨rfl, rfl, rfl, rfl, fun _ _ => rfl, fun _ _ => rfl⟩
theorem FQ.trans {R : Nat → Prop} {M M1 M2 : Mm} (h : FQ R M M1) (k : FQ R M1 M2) : FQ R M M2 :=
  ⟨k.1.trans h.1, k.2.1.trans h.2.1, k.2.2.1.trans h.2.2.1, k.2.2.2.1.trans h.2.2.2.1, fun b hb => (k.2.2.2.2.1 b hb).trans (h.2.2.2.2.1 b hb), fun b hb => (k.2.2.2.2.2 b hb).trans (h.2.2.2.2.2 b hb)⟩
theorem FQ.n {R : Nat → Prop} {M M' : Mm} (h : FQ R M M') : zn M' = zn M := h.1
theorem FQ.k {R : Nat → Prop} {M M' : Mm} (h : FQ R M M') : zk M' = zk M := h.2.1
theorem FQ.l {R : Nat → Prop} {M M' : Mm} (h : FQ R M M') : zl M' = zl M := h.2.2.1
theorem FQ.r {R : Nat → Prop} {M M' : Mm} (h : FQ R M M') : zR M' = zR M := h.2.2.2.1
theorem FQ.i {R : Nat → Prop} {M M' : Mm} (h : FQ R M M') {b : Nat} (hb : ¬ R b) : zI M' b = zI M b := h.2.2.2.2.1 b hb
theorem FQ.j {R : Nat → Prop} {M M' : Mm} (h : FQ R M M') {b : Nat} (hb : ¬ R b) : zJ M' b = zJ M b := h.2.2.2.2.2 b hb
theorem fq_I {R S : Nat → Prop} {M M' : Mm} (h : FrI S M M') (d : ∀ b, S b → R b) : FQ R M M' := ⟨h.n, h.k, h.l, h.r, fun _ hb => h.i fun q => hb (d _ q), fun b _ => by rw [h.j]⟩
theorem fq_J {R : Nat → Prop} {m : Nat} {M M' : Mm} (h : FrJ m (fun b => b = m) M M') (d : R m) : FQ R M M' := ⟨h.1, h.2.1, h.2.2.1, h.2.2.2.1, fun b hb => h.2.2.2.2.1 b fun q => hb (by rw [q]; exact d), fun b hb => h.2.2.2.2.2 b fun q => hb (by rw [q]; exact d)⟩
theorem fq_sI {R : Nat → Prop} {M : Mm} {a i : Nat} {v : Int32} (d : R a) : FQ R M (sI M a i v) := fq_I (FrI.sI (R := fun b => b = a) rfl) (fun b q => by rw [q]; exact d)
theorem fq_sJ {R : Nat → Prop} {M : Mm} {a i : Nat} {v : Int64} (d : R a) : FQ R M (sJ M a i v) := fq_J FrJ.sJ d
/-- what a number here is wrong by: 0 nothing, 1 no number, 3 out of the range -/
def nerr (L : Nat) (bf : Nat → Int32) (p lo hi : Nat) : Nat := if tK L bf p = 2 then (if lo ≤ tV L bf p ∧ tV L bf p ≤ hi then 0 else 3) else 1
theorem nerr0 {L : Nat} {bf : Nat → Int32} {p lo hi : Nat} (h : nerr L bf p lo hi = 0) : tK L bf p = 2 ∧ lo ≤ tV L bf p ∧ tV L bf p ≤ hi := by
  unfold nerr at h
  by_cases c : tK L bf p = 2
  · rw [if_pos c] at h
    by_cases d : lo ≤ tV L bf p ∧ tV L bf p ≤ hi
    · exact ⟨c, d⟩
    · rw [if_neg d] at h; omega
  · rw [if_neg c] at h; omega
/-- the class while it parses: parser z, reader y, the season sp that it fills -/
def PCx (x y z sp L : Nat) (bf : Nat → Int32) (M : Mm) : Prop := RDr5 y x L bf M ∧ (zk M z = 3 ∧ zR M z 0 = some y ∧ zR M z 1 = some sp) ∧ SeaSh sp M ∧ x + 1 < sp ∧ sp + 20 < y ∧ sp + 20 < z ∧ y ≠ z
/-- the cells that parsing writes -/
def RPa (y z sp : Nat) : Nat → Prop := fun b => b = y ∨ b = z ∨ (sp ≤ b ∧ b ≤ sp + 20)
theorem PCx.fr {x y z sp L : Nat} {bf : Nat → Int32} {M M' : Mm} (h : PCx x y z sp L bf M) (f : FQ (RPa y z sp) M M') (g : zI M' y 1 = zI M y 1) : PCx x y z sp L bf M' := by
  obtain ⟨⟨h1, h2, h3, h4, h5, h6, h7, h8⟩, ⟨k1, k2, k3⟩, hs, d1, d2, d3, d4⟩ := h
  refine ⟨⟨by rw [f.k]; exact h1, by rw [f.r]; exact h2, by rw [g]; exact h3, by rw [f.k]; exact h4, by rw [f.l]; exact h5, h6, h7, ?_⟩, ⟨by rw [f.k]; exact k1, by rw [f.r]; exact k2, by rw [f.r]; exact k3⟩, ?_, d1, d2, d3, d4⟩
  · rw [f.i (b := x + 1) (by unfold RPa; omega)]; exact h8
  · unfold SeaSh at hs ⊢
    rw [f.k, f.l, f.r]; exact hs
/-- a line went wrong: code c at q -/
def CFl (z c q : Nat) (M : Mm) : Prop := zI M z 2 = nI c ∧ zI M z 3 = nI q
section PB1
variable {x y z sp L : Nat} {bf : Nat → Int32} {M : Mm}
theorem s_X3_fail (h : PCx x y z sp L bf M) {p c : Nat} (t : RT y L bf p M) (P : Int32 → Mm → Prop)
    (K : ∀ M', FQ (RPa y z sp) M M' → zI M' y = zI M y → CFl z c (tS L bf p) M' → P (nI 0) M') : w_X3_fail M z (nI c) P := by
  obtain ⟨r, ⟨k1, k2, k3⟩, hs, d1, d2, d3, d4⟩ := h
  have e4 : ∀ v, zI (sI M z 2 v) y 4 = nI (tS L bf p) := fun v => (congrFun (zI_sIo M z 2 v d4) 4).trans t.2.2.1
  simp (disch := omega) only [w_X3_fail, k1, k2, r.1, zk_sI, zR_sI, e4, l_0, l_1, n_eqT, not_true_eq_false, Bool.false_eq_true, false_and, Bool.not_false, Bool.not_true, Bool.and_true, Bool.and_false, Bool.false_and, Bool.true_and, true_and, and_true, true_or, or_true, not_false_eq_true, Option.some.injEq, exists_eq_left', forall_eq, ↓reduceIte, Nat.add_zero, Nat.zero_add, and_self]
  refine K _ ((fq_sI (Or.inr (Or.inl rfl))).trans (fq_sI (Or.inr (Or.inl rfl)))) ?_ ⟨(zI_sI2 _ _ _ _ (by omega)).trans (zI_sI1 _ _ _ _), zI_sI1 _ _ _ _⟩
  exact (zI_sIo _ _ _ _ d4).trans (zI_sIo _ _ _ _ d4)
theorem s_P_advance (h : PCx x y z sp L bf M) {p : Nat} (hp : p ≤ L) (t : RT y L bf p M) (P : Mm → Prop)
    (K : ∀ M', FrJ y (fun b => b = y) M M' → PCx x y z sp L bf M' → RT y L bf (tN L bf p) M' → P M') : w_X5_advance M y P := by
  refine s_X5_advance h.1 (tN_le L bf hp) t.1 P fun M1 f1 r1 t1 => ?_
  refine K M1 f1 ?_ t1
  refine h.fr (fq_J f1 (Or.inl rfl)) ?_
  rw [r1.2.2.1, h.1.2.2.1]
theorem s_X3_isNumber (h : PCx x y z sp L bf M) {p lo hi : Nat} (t : RT y L bf p M) (b1 : lo < 2000) (b2 : hi < 2000) (P : Int32 → Mm → Prop)
    (K1 : nerr L bf p lo hi = 0 → zI M y 6 = nI (tV L bf p) → P (nI 1) M)
    (K0 : nerr L bf p lo hi ≠ 0 → ∀ M', FQ (RPa y z sp) M M' → CFl z (nerr L bf p lo hi) (tS L bf p) M' → P (nI 0) M') : w_X3_isNumber M z (nI lo) (nI hi) P := by
  have h0 := h
  obtain ⟨r, ⟨k1, k2, k3⟩, hs, d1, d2, d3, d4⟩ := h
  have kb := tK_b (L := L) (bf := bf) (p := p)
  have t3 := t.2.1
  by_cases c : tK L bf p = 2
  · have t6 := t.2.2.2.2 c
    have v := tK_2 c
    have t3b : zI M y 3 = nI 2 := by rw [t3, c]
    by_cases c1 : tV L bf p < lo
    · have ne : nerr L bf p lo hi = 3 := by unfold nerr; rw [if_pos c, if_neg (by omega)]
      have F := s_X3_fail (c := 3) h0 t (fun r3 M3 => (if r3 = nI 0 then P (nI 0) M3 else P (nI 1) M3)) fun M1 f1 g1 e1 => by
        rw [if_pos rfl]
        exact K0 (by omega) M1 f1 (by rw [ne]; exact e1)
      simp (disch := omega) only [w_X3_isNumber, k1, k2, r.1, t3b, t6, l_0, l_1, l_2, l_3, n_eqT, n_ltT, not_true_eq_false, Bool.false_eq_true, false_and, Bool.not_false, Bool.not_true, Bool.and_true, Bool.and_false, Bool.false_and, Bool.true_and, true_and, and_true, true_or, or_true, not_false_eq_true, Option.some.injEq, exists_eq_left', forall_eq, ↓reduceIte, Nat.add_zero, Nat.zero_add, and_self]
      exact F
    · by_cases c2 : tV L bf p ≤ hi
      · have ne : nerr L bf p lo hi = 0 := by unfold nerr; rw [if_pos c, if_pos (by omega)]
        have K := K1 ne t6
        simp (disch := omega) only [w_X3_isNumber, k1, k2, r.1, t3b, t6, l_0, l_1, l_2, l_3, n_eqT, n_ltF, n_leT, not_true_eq_false, Bool.false_eq_true, false_and, Bool.not_false, Bool.not_true, Bool.and_true, Bool.and_false, Bool.false_and, Bool.true_and, true_and, and_true, true_or, or_true, not_false_eq_true, Option.some.injEq, exists_eq_left', forall_eq, ↓reduceIte, Nat.add_zero, Nat.zero_add, and_self]
        exact K
      · have ne : nerr L bf p lo hi = 3 := by unfold nerr; rw [if_pos c, if_neg (by omega)]
        have F := s_X3_fail (c := 3) h0 t (fun r3 M3 => (if r3 = nI 0 then P (nI 0) M3 else P (nI 1) M3)) fun M1 f1 g1 e1 => by
          rw [if_pos rfl]
          exact K0 (by omega) M1 f1 (by rw [ne]; exact e1)
        simp (disch := omega) only [w_X3_isNumber, k1, k2, r.1, t3b, t6, l_0, l_1, l_2, l_3, n_eqT, n_ltF, n_leF, not_true_eq_false, Bool.false_eq_true, false_and, Bool.not_false, Bool.not_true, Bool.and_true, Bool.and_false, Bool.false_and, Bool.true_and, true_and, and_true, true_or, or_true, not_false_eq_true, Option.some.injEq, exists_eq_left', forall_eq, ↓reduceIte, Nat.add_zero, Nat.zero_add, and_self]
        exact F
  · have ne : nerr L bf p lo hi = 1 := by unfold nerr; rw [if_neg c]
    have F := s_X3_fail (c := 1) h0 t (fun r3 M3 => (r3 = nI 0 ∨ r3 = nI 1) ∧ P r3 M3) fun M1 f1 g1 e1 => ⟨Or.inl rfl, K0 (by omega) M1 f1 (by rw [ne]; exact e1)⟩
    simp (disch := omega) only [w_X3_isNumber, k1, k2, r.1, t3, l_0, l_1, l_2, l_3, n_eqF, not_true_eq_false, Bool.false_eq_true, false_and, Bool.not_false, Bool.not_true, Bool.and_true, Bool.and_false, Bool.false_and, Bool.true_and, true_and, and_true, true_or, or_true, not_false_eq_true, Option.some.injEq, exists_eq_left', forall_eq, ↓reduceIte, Nat.add_zero, Nat.zero_add, and_self]
    exact F
theorem s_X3_takeNumber (h : PCx x y z sp L bf M) {p : Nat} (hp : p ≤ L) (t : RT y L bf p M) (t6 : zI M y 6 = nI (tV L bf p)) (P : Int32 → Mm → Prop)
    (K : ∀ M', FrJ y (fun b => b = y) M M' → PCx x y z sp L bf M' → RT y L bf (tN L bf p) M' → P (nI (tV L bf p)) M') : w_X3_takeNumber M z P := by
  have h0 := h
  obtain ⟨r, ⟨k1, k2, k3⟩, hs, d1, d2, d3, d4⟩ := h
  simp (disch := omega) only [w_X3_takeNumber, k1, k2, r.1, t6, not_true_eq_false, Bool.false_eq_true, false_and, Bool.not_false, Bool.not_true, Bool.and_true, Bool.and_false, Bool.false_and, Bool.true_and, true_and, and_true, true_or, or_true, not_false_eq_true, Option.some.injEq, exists_eq_left', forall_eq, ↓reduceIte, Nat.add_zero, Nat.zero_add, and_self]
  exact s_P_advance h0 hp t _ K
theorem s_X3_readSemicolon (h : PCx x y z sp L bf M) {p : Nat} (hp : p ≤ L) (t : RT y L bf p M) (P : Int32 → Mm → Prop)
    (K1 : tK L bf p = 3 → ∀ M', FrJ y (fun b => b = y) M M' → PCx x y z sp L bf M' → RT y L bf (tN L bf p) M' → P (nI 1) M')
    (K0 : tK L bf p ≠ 3 → ∀ M', FQ (RPa y z sp) M M' → CFl z 1 (tS L bf p) M' → P (nI 0) M') : w_X3_readSemicolon M z P := by
  have h0 := h
  obtain ⟨r, ⟨k1, k2, k3⟩, hs, d1, d2, d3, d4⟩ := h
  have kb := tK_b (L := L) (bf := bf) (p := p)
  have t3 := t.2.1
  by_cases c : tK L bf p = 3
  · have t3b : zI M y 3 = nI 3 := by rw [t3, c]
    have F := s_P_advance h0 hp t (fun M3 => P (nI 1) M3) (K1 c)
    simp (disch := omega) only [w_X3_readSemicolon, k1, k2, r.1, t3b, l_0, l_1, l_3, n_eqT, not_true_eq_false, Bool.false_eq_true, false_and, Bool.not_false, Bool.not_true, Bool.and_true, Bool.and_false, Bool.false_and, Bool.true_and, true_and, and_true, true_or, or_true, not_false_eq_true, Option.some.injEq, exists_eq_left', forall_eq, ↓reduceIte, Nat.add_zero, Nat.zero_add, and_self]
    exact F
  · have F := s_X3_fail (c := 1) h0 t (fun r3 M3 => (r3 = nI 0 ∨ r3 = nI 1) ∧ P r3 M3) fun M1 f1 g1 e1 => ⟨Or.inl rfl, K0 c M1 f1 e1⟩
    simp (disch := omega) only [w_X3_readSemicolon, k1, k2, r.1, t3, l_0, l_1, l_3, n_eqF, not_true_eq_false, Bool.false_eq_true, false_and, Bool.not_false, Bool.not_true, Bool.and_true, Bool.and_false, Bool.false_and, Bool.true_and, true_and, and_true, true_or, or_true, not_false_eq_true, Option.some.injEq, exists_eq_left', forall_eq, ↓reduceIte, Nat.add_zero, Nat.zero_add, and_self]
    exact F
end PB1
