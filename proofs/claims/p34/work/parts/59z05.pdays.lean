/-! PARSE: the days, in the class -/
def daysL (L : Nat) (bf : Nat → Int32) (p : Nat) : Sum (Nat × Nat) (Nat × Nat) :=
  if isw L bf p 0 = true then
    (if nerr L bf (tN L bf p) 1 30 = 0 then
      (if tK L bf (tN L bf (tN L bf p)) = 3 then Sum.inr (tN L bf (tN L bf (tN L bf p)), tV L bf (tN L bf p)) else Sum.inl (1, tS L bf (tN L bf (tN L bf p))))
     else Sum.inl (nerr L bf (tN L bf p) 1 30, tS L bf (tN L bf p)))
  else Sum.inl (1, tS L bf p)
section PDY
variable {x y z sp L p : Nat} {bf : Nat → Int32} {M : Mm}
theorem s_X3_readDays (hc : PCx x y z sp L bf M) (hp : p ≤ L) (t : RT y L bf p M) (P : Int32 → Mm → Prop)
    (K1 : ∀ q d, daysL L bf p = Sum.inr (q, d) → ∀ M', FQ (fun b => b = y ∨ b = sp) M M' → PCx x y z sp L bf M' → RT y L bf q M' → zI M' sp 0 = nI d → (∀ j, j ≠ 0 → zI M' sp j = zI M sp j) → P (nI 1) M')
    (K0 : ∀ c q, daysL L bf p = Sum.inl (c, q) → ∀ M', FQ (RPa y z sp) M M' → CFl z c q M' → P (nI 0) M') : w_X3_readDays M z P := by
  have hz := hc.2.1
  have r := hc.1
  have d := hc.2.2.2
  have hby : ∀ i, i < L → (bf i).toInt8.toInt32 = bf i := fun i hi => (r.2.2.2.2.2.2.2 i hi).2
  have hp1 := tN_le L bf hp
  have hp2 := tN_le L bf hp1
  have t3 := t.2.1
  have kb := tK_b (L := L) (bf := bf) (p := p)
  have fl : isw L bf p 0 = false → w_X3_fail M z (nI 1) (fun r2 M2 => (r2 = nI 0 ∨ r2 = nI 1) ∧ P r2 M2) := fun e =>
    s_X3_fail (c := 1) hc t _ fun M1 f1 g1 e1 => ⟨Or.inl rfl, K0 1 _ (by simp only [daysL, e, Bool.false_eq_true, if_false]) M1 f1 e1⟩
  by_cases c1 : tK L bf p = 1
  · have t3b : zI M y 3 = nI 1 := by rw [t3, c1]
    have j5 := t.2.2.2.1 c1
    simp (disch := omega) only [w_X3_readDays, hz, r.1, t3b, l_0, l_1, n_eqT, not_true_eq_false, Bool.false_eq_true, false_and, Bool.not_false, Bool.not_true, Bool.and_true, Bool.and_false, Bool.false_and, Bool.true_and, true_and, and_true, true_or, or_true, not_false_eq_true, Option.some.injEq, exists_eq_left', forall_eq, ↓reduceIte, Nat.add_zero, Nat.zero_add, and_self]
    refine s_X7_codeOf (by omega) M _ ?_
    have eq_ : (lg_cmp (zJ M y 5) (c5 (kw 0)) = nI 0) = (isw L bf p 0 = true) := by rw [j5, lg0, isw_c5 hby c1 (show 0 < 6 by omega)]
    by_cases c2 : isw L bf p 0 = true
    · refine ifp (eq_.mpr c2) ?_
      simp only [hz, r.1, not_true_eq_false, Bool.false_eq_true, false_and, Bool.not_false, Bool.not_true, Bool.and_true, Bool.and_false, Bool.false_and, Bool.true_and, true_and, and_true, true_or, or_true, not_false_eq_true, Option.some.injEq, exists_eq_left', forall_eq, ↓reduceIte, Nat.add_zero, Nat.zero_add, and_self]
      refine s_P_advance hc hp t _ fun M1 f1 h1 t1 => ?_
      have hz1 := h1.2.1
      have F1 : FQ (RPa y z sp) M M1 := fq_J f1 (Or.inl rfl)
      simp (disch := omega) only [hz1, l_30, not_true_eq_false, Bool.false_eq_true, false_and, Bool.not_false, Bool.not_true, Bool.and_true, Bool.and_false, Bool.false_and, Bool.true_and, true_and, and_true, true_or, or_true, not_false_eq_true, Option.some.injEq, exists_eq_left', forall_eq, ↓reduceIte, Nat.add_zero, Nat.zero_add, and_self]
      refine s_X3_isNumber h1 t1 (by omega) (by omega) _ (fun e2 i6 => ?_) (fun e2 M2 f2 k2 => ?_)
      · refine ifn (by decide) ?_
        simp only [hz1, not_true_eq_false, Bool.false_eq_true, false_and, Bool.not_false, Bool.not_true, Bool.and_true, Bool.and_false, Bool.false_and, Bool.true_and, true_and, and_true, true_or, or_true, not_false_eq_true, Option.some.injEq, exists_eq_left', forall_eq, ↓reduceIte, Nat.add_zero, Nat.zero_add, and_self]
        refine s_X3_takeNumber h1 hp1 t1 i6 _ fun M2 f2 h2 t2 => ?_
        have k6 : zk M2 sp = 6 := h2.2.2.1.1.1
        have f3 : FQ (fun b => b = sp) M2 (sI M2 sp 0 (nI (tV L bf (tN L bf p)))) := fq_sI rfl
        have iy : zI (sI M2 sp 0 (nI (tV L bf (tN L bf p)))) y = zI M2 y := zI_sIo _ _ _ _ (by omega)
        have h3 : PCx x y z sp L bf (sI M2 sp 0 (nI (tV L bf (tN L bf p)))) := h2.fr ⟨f3.1, f3.2.1, f3.2.2.1, f3.2.2.2.1, fun q hq => f3.i (by unfold RPa at hq; omega), fun q hq => f3.j (by unfold RPa at hq; omega)⟩ (by rw [iy])
        have t3' : RT y L bf (tN L bf (tN L bf p)) (sI M2 sp 0 (nI (tV L bf (tN L bf p)))) := by
          unfold RT at t2 ⊢
          rw [iy]; exact t2
        have F3 : FQ (fun b => b = y ∨ b = sp) M (sI M2 sp 0 (nI (tV L bf (tN L bf p)))) := ((fq_J f1 (Or.inl rfl)).trans (fq_J f2 (Or.inl rfl))).trans (fq_sI (Or.inr rfl))
        have F3a : FQ (RPa y z sp) M (sI M2 sp 0 (nI (tV L bf (tN L bf p)))) := ⟨F3.1, F3.2.1, F3.2.2.1, F3.2.2.2.1, fun q hq => F3.i (by unfold RPa at hq; omega), fun q hq => F3.j (by unfold RPa at hq; omega)⟩
        have hz3 := h3.2.1
        simp only [k6, hz3, not_true_eq_false, Bool.false_eq_true, false_and, Bool.not_false, Bool.not_true, Bool.and_true, Bool.and_false, Bool.false_and, Bool.true_and, true_and, and_true, true_or, or_true, not_false_eq_true, Option.some.injEq, exists_eq_left', forall_eq, ↓reduceIte, Nat.add_zero, Nat.zero_add, and_self]
        refine s_X3_readSemicolon h3 hp2 t3' _ (fun e3 M4 f4 h4 t4 => ?_) (fun e3 M4 f4 k4 => ?_)
        · refine ⟨Or.inr rfl, K1 (tN L bf (tN L bf (tN L bf p))) (tV L bf (tN L bf p)) (by simp only [daysL, c2, e2, e3, if_true]) M4 (F3.trans (fq_J f4 (Or.inl rfl))) h4 t4 ?_ fun j hj => ?_⟩
          · rw [f4.2.2.2.2.1 sp (by omega)]; exact zI_sI1 _ _ _ _
          · rw [f4.2.2.2.2.1 sp (by omega), zI_sI2 _ _ _ _ hj, f2.2.2.2.2.1 sp (by omega), f1.2.2.2.2.1 sp (by omega)]
        · exact ⟨Or.inl rfl, K0 1 _ (by simp only [daysL, c2, e2, e3, if_true, if_false]) M4 (F3a.trans f4) k4⟩
      · refine ifp rfl ?_
        exact K0 _ _ (by simp only [daysL, c2, e2, if_true, if_false]) M2 (F1.trans f2) k2
    · refine ifn (fun w => c2 (eq_.mp w)) ?_
      simp only [hz, not_true_eq_false, Bool.false_eq_true, false_and, Bool.not_false, Bool.not_true, Bool.and_true, Bool.and_false, Bool.false_and, Bool.true_and, true_and, and_true, true_or, or_true, not_false_eq_true, Option.some.injEq, exists_eq_left', forall_eq, ↓reduceIte, Nat.add_zero, Nat.zero_add, and_self]
      exact fl (b_no c2)
  · have F := fl (decide_eq_false fun w => c1 w.1)
    simp (disch := omega) only [w_X3_readDays, hz, r.1, t3, l_0, l_1, n_eqF, not_true_eq_false, Bool.false_eq_true, false_and, Bool.not_false, Bool.not_true, Bool.and_true, Bool.and_false, Bool.false_and, Bool.true_and, true_and, and_true, true_or, or_true, not_false_eq_true, Option.some.injEq, exists_eq_left', forall_eq, ↓reduceIte, Nat.add_zero, Nat.zero_add, and_self]
    exact F
end PDY
