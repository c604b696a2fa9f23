/-! PARSE: the line of an absence, in the model -/
section PAM
variable {m L p : Nat} {bf : Nat → Int32} {M : Mm}
theorem s_X8_absentLine {sg ct : Nat → Nat} {nm : Nat → List Nat} {dt : Bool} (h : MPS m L bf (p, sg, nm, ct, dt) M) (ok : PSok (p, sg, nm, ct, dt) L) (P : Int32 → Mm → Prop)
    (K1 : ∀ s2, absentL L bf (p, sg, nm, ct, dt) = Sum.inr s2 → ∀ M', FQ (RPm m) M M' → MFx m M M' → MPS m L bf s2 M' → P (nI 1) M')
    (K0 : ∀ c q, absentL L bf (p, sg, nm, ct, dt) = Sum.inl (c, q) → ∀ M', FQ (RPm m) M M' → MFx m M M' → MFl m c q M' → P (nI 0) M') : w_X8_absentLine M m P := by
  obtain ⟨pm, z13, rd, rc, zd, na0, na1, na2, na3⟩ := h
  obtain ⟨hp, sb, hct2, n1, n2, n3, n4, g1, g2⟩ := ok
  have b := sb.1
  have hp1 := tN_le L bf hp
  have hp2 := tN_le L bf hp1
  have k8 := pm.2.1.1
  simp only [w_X8_absentLine, k8, not_true_eq_false, Bool.false_eq_true, false_and, Bool.not_false, Bool.not_true, Bool.and_true, Bool.and_false, Bool.false_and, Bool.true_and, true_and, and_true, true_or, or_true, not_false_eq_true, Option.some.injEq, exists_eq_left', forall_eq, ↓reduceIte, Nat.add_zero, Nat.zero_add, and_self]
  refine s_M_advance pm hp _ fun M1 f1 gg1 p1 => ?_
  have F1 : FQ (RPm m) M M1 := fq_J f1 (Or.inl rfl)
  have k81 := p1.2.1.1
  have t9 := p1.2.2.1.2.1
  have kb := tK_b (L := L) (bf := bf) (p := tN L bf p)
  have kb2 := tK_b (L := L) (bf := bf) (p := tN L bf (tN L bf p))
  have sh1 := p1.1
  unfold MS at sh1
  have i51 : zI M1 (m + 5) = zI M (m + 5) := f1.2.2.2.2.1 _ (by omega)
  have v2 : zI M1 (m + 5) 2 = nI (sg 2) := by rw [i51]; exact rd 2 (by omega)
  have na : MNA m 1 (sg 2) (fun k => nm (8 + k)) M1 := fun k hk => by rw [f1.2.2.2.2.2 (m + 7) (by omega)]; exact na1 k hk
  by_cases c1 : tK L bf (tN L bf p) = 1
  · have t9b : zI M1 m 9 = nI 1 := by rw [t9, c1]
    have okw := tK_1 (fun i hi => (p1.2.1.2.2.2.2.2.2 i hi).2) c1
    have j11 := p1.2.2.1.2.2.2.1 c1
    simp (maxSteps := 2000000) (disch := omega) only [k81, sh1, t9b, v2, j11, l_0, l_1, l_2, l_4, n_m1, n_vp, n_cl, n_eqT, e_M_named p1 na (show 1 < 4 by omega) (show sg 2 ≤ 8 by omega) okw, fst_m1 (show sg 2 < 1000 by omega), not_true_eq_false, Bool.false_eq_true, false_and, Bool.not_false, Bool.not_true, Bool.and_true, Bool.and_false, Bool.false_and, Bool.true_and, true_and, and_true, true_or, or_true, not_false_eq_true, Option.some.injEq, exists_eq_left', forall_eq, ↓reduceIte, Nat.add_zero, Nat.zero_add, and_self]
    by_cases c2 : nin (fun k => nm (8 + k)) (sg 2) (tW L bf (tN L bf p)) < sg 2
    · have c2' : ¬ ¬ fi (fun k => decide (nm (8 + k) = tW L bf (tN L bf p))) (sg 2) < sg 2 := fun q => q c2
      rw [if_neg c2', fst_lt (show fi (fun k => decide (nm (8 + k) = tW L bf (tN L bf p))) (sg 2) < sg 2 from c2)]
      obtain ⟨k, hk⟩ : ∃ k, nin (fun k => nm (8 + k)) (sg 2) (tW L bf (tN L bf p)) = k := ⟨_, rfl⟩
      have hk2 : fi (fun k => decide (nm (8 + k) = tW L bf (tN L bf p))) (sg 2) = k := hk
      rw [hk2]
      have ks : k < sg 2 := by rw [← hk]; exact c2
      refine s_X8_starts1 (c := 4) p1 hp1 _ fun M2 f2 gg2 p2 => ?_
      have F2 : FQ (RPm m) M M2 := F1.trans (fq_J f2 (Or.inl rfl))
      have Fm : FQ (fun q => q = m) M M2 := (fq_J (R := fun q => q = m) f1 rfl).trans (fq_J f2 rfl)
      have x2 : MFx m M M2 := gg1.fx.trans gg2.fx
      have k82 := p2.2.1.1
      have sh2 := p2.1
      unfold MS at sh2
      have i52 : zI M2 (m + 5) = zI M (m + 5) := Fm.i (by omega)
      have w0 : zI M2 (m + 5) 0 = nI (sg 0) := by rw [i52]; exact rd 0 (by omega)
      have wa : zI M2 (m + 5) (9 + 7 * k + 1) = nI (oP sg k 1) := by rw [i52]; exact rd _ (by omega)
      have ab : oP sg k 1 < 2 ^ 30 := sb.2.1 _
      have u9 := p2.2.2.1.2.1
      have fin : nerr L bf (tN L bf (tN L bf p)) 0 (sg 0 - 1) = 0 → ¬ (oP sg k 1).testBit (tV L bf (tN L bf (tN L bf p))) = true → ∀ M3, FrJ m (fun b => b = m) M2 M3 → KF m M2 M3 → PMx m L bf (tN L bf (tN L bf (tN L bf p))) M3 →
          P (nI 1) (sI M3 (m + 5) (9 + 7 * k + 1) (nI (oP sg k 1 ||| 2 ^ tV L bf (tN L bf (tN L bf p))))) := by
        intro e2 c3 M3 f3 g3 p3
        have f4 : FQ (fun q => q = m + 5) M3 (sI M3 (m + 5) (9 + 7 * k + 1) (nI (oP sg k 1 ||| 2 ^ tV L bf (tN L bf (tN L bf p))))) := fq_sI rfl
        have F4 : FQ (fun q => q = m ∨ q = m + 5) M (sI M3 (m + 5) (9 + 7 * k + 1) (nI (oP sg k 1 ||| 2 ^ tV L bf (tN L bf (tN L bf p))))) := ((fq_J f1 (Or.inl rfl)).trans ((fq_J f2 (Or.inl rfl)).trans (fq_J f3 (Or.inl rfl)))).trans (fq_sI (Or.inr rfl))
        have o_ : ∀ j, j ≠ 9 + 7 * k + 1 → ups sg (9 + 7 * k + 1) (oP sg k 1 ||| 2 ^ tV L bf (tN L bf (tN L bf p))) j = sg j := fun j hj => if_neg hj
        have kf : ∀ j, j = 0 ∨ j = 5 ∨ j = 24 ∨ j = 13 ∨ j = 15 → zI (sI M3 (m + 5) (9 + 7 * k + 1) (nI (oP sg k 1 ||| 2 ^ tV L bf (tN L bf (tN L bf p))))) m j = zI M m j := fun j hj => by
          rw [zI_sIo _ _ _ _ (by omega), g3 j (by omega) (by omega) (by omega) (by omega) (by omega), gg2 j (by omega) (by omega) (by omega) (by omega), gg1 j (by omega) (by omega) (by omega) (by omega)]
        refine K1 (tN L bf (tN L bf (tN L bf p)), ups sg (9 + 7 * k + 1) (oP sg k 1 ||| 2 ^ tV L bf (tN L bf (tN L bf p))), nm, ct, dt) (by simp only [absentL, c1, hk, ks, e2, c3, Bool.false_eq_true, if_true, if_false]) _ ⟨F4.1, F4.2.1, F4.2.2.1, F4.2.2.2.1, fun q hq => F4.i (by unfold RPm at hq; omega), fun q hq => F4.j (by unfold RPm at hq; omega)⟩ (fun j hj => kf j (by omega)) ⟨p3.fr f4 (by omega) (by omega), ?_, ?_, ?_, ?_, ?_, ?_, ?_, ?_⟩
        · rw [kf 13 (by omega)]; exact z13
        · intro j hj
          by_cases e : j = 9 + 7 * k + 1
          · subst e
            rw [ups_1]; exact zI_sI1 _ _ _ _
          · rw [zI_sI2 _ _ _ _ e, o_ j e, f3.2.2.2.2.1 (m + 5) (by omega), i52]; exact rd j hj
        · intro j hj
          rw [o_ 2 (by omega)] at hj
          rw [F4.i (by omega)]; exact rc j hj
        · rw [kf 15 (by omega)]; exact zd
        · intro j hj
          rw [o_ 1 (by omega)] at hj
          rw [F4.j (by omega)]; exact na0 j hj
        · intro j hj
          rw [o_ 2 (by omega)] at hj
          rw [F4.j (by omega)]; exact na1 j hj
        · intro j hj
          rw [o_ 3 (by omega)] at hj
          rw [F4.j (by omega)]; exact na2 j hj
        · intro j hj
          rw [o_ 4 (by omega)] at hj
          rw [F4.j (by omega)]; exact na3 j hj
      have bad_ : nerr L bf (tN L bf (tN L bf p)) 0 (sg 0 - 1) ≠ 0 → ∀ M3, FrI (fun b => b = m) M2 M3 → (∀ j, j ≠ 12 → j ≠ 13 → zI M3 m j = zI M2 m j) → MFl m (nerr L bf (tN L bf (tN L bf p)) 0 (sg 0 - 1)) (tS L bf (tN L bf (tN L bf p))) M3 → P (nI 0) M3 := fun e2 M3 f3 g3 k3 =>
        K0 _ _ (by simp only [absentL, c1, hk, ks, e2, if_true, if_false]) M3 (F2.trans (fq_I f3 fun b hb => Or.inl hb)) (x2.trans (fails_fx g3)) k3
      by_cases c3 : tK L bf (tN L bf (tN L bf p)) = 2
      · have u9b : zI M2 m 9 = nI 2 := by rw [u9, c3]
        have u10 := p2.2.2.1.2.2.2.2 c3
        have vb := tK_2 c3
        by_cases c4 : sg 0 ≤ tV L bf (tN L bf (tN L bf p))
        · have ne : nerr L bf (tN L bf (tN L bf p)) 0 (sg 0 - 1) ≠ 0 := fun e => by
            have := (nerr0 e).2.2
            omega
          simp (disch := omega) only [k82, sh2, u9b, u10, w0, n_eqT, n_eqF, n_vp, n_cl, n_leT, n_sub, not_true_eq_false, Bool.false_eq_true, false_and, Bool.not_false, Bool.not_true, Bool.and_true, Bool.and_false, Bool.false_and, Bool.true_and, true_and, and_true, true_or, or_true, not_false_eq_true, Option.some.injEq, exists_eq_left', forall_eq, ↓reduceIte, Nat.add_zero, Nat.zero_add, and_self]
          refine s_X8_takes p2 hp2 (by omega) (by omega) _ (fun e => absurd e ne) fun e2 M3 f3 g3 k3 => ?_
          refine ifp rfl ?_
          exact bad_ ne M3 f3 g3 k3
        · have ne : nerr L bf (tN L bf (tN L bf p)) 0 (sg 0 - 1) = 0 := by
            unfold nerr
            rw [if_pos c3, if_pos (by omega)]
          by_cases c5_ : (oP sg k 1).testBit (tV L bf (tN L bf (tN L bf p))) = true
          · simp (disch := omega) only [k82, sh2, u9b, u10, w0, wa, n_eqT, n_eqF, n_vp, n_cl, n_leF, n_sub, l_9, l_7, l_31, pk_mul, nI_add, fa_andq, n_shr, n_t1, c5_, not_true_eq_false, Bool.false_eq_true, false_and, Bool.not_false, Bool.not_true, Bool.and_true, Bool.and_false, Bool.false_and, Bool.true_and, true_and, and_true, true_or, or_true, not_false_eq_true, Option.some.injEq, exists_eq_left', forall_eq, ↓reduceIte, Nat.add_zero, Nat.zero_add, and_self]
            exact s_X8_fails (c := 2) p2 _ fun M3 f3 g3 k3 => ⟨Or.inl rfl, K0 2 _ (by simp only [absentL, c1, hk, ks, ne, c5_, if_true]) M3 (F2.trans (fq_I f3 fun b hb => Or.inl hb)) (x2.trans (fails_fx g3)) k3⟩
          · simp (disch := omega) only [k82, sh2, u9b, u10, w0, wa, n_eqT, n_eqF, n_vp, n_cl, n_leF, n_sub, l_9, l_7, l_31, pk_mul, nI_add, fa_andq, n_shr, n_t1, c5_, not_true_eq_false, Bool.false_eq_true, false_and, Bool.not_false, Bool.not_true, Bool.and_true, Bool.and_false, Bool.false_and, Bool.true_and, true_and, and_true, true_or, or_true, not_false_eq_true, Option.some.injEq, exists_eq_left', forall_eq, ↓reduceIte, Nat.add_zero, Nat.zero_add, and_self]
            refine s_X8_takes p2 hp2 (by omega) (by omega) _ (fun e2 M3 f3 g3 p3 e14 => ?_) fun e2 => absurd ne e2
            have sh3 := p3.1
            unfold MS at sh3
            have w3 : zI M3 (m + 5) (9 + 7 * k + 1) = nI (oP sg k 1) := by rw [f3.2.2.2.2.1 (m + 5) (by omega)]; exact wa
            rw [if_neg (show ¬ nI 1 = nI 0 by decide)]
            simp (disch := omega) only [sh3, n_vp, n_cl, w3, e14, fa_andq, n_shl, fa_orq, not_true_eq_false, Bool.false_eq_true, false_and, Bool.not_false, Bool.not_true, Bool.and_true, Bool.and_false, Bool.false_and, Bool.true_and, true_and, and_true, true_or, or_true, not_false_eq_true, Option.some.injEq, exists_eq_left', forall_eq, ↓reduceIte, Nat.add_zero, Nat.zero_add, and_self]
            exact fin ne c5_ M3 f3 g3 p3
      · have ne : nerr L bf (tN L bf (tN L bf p)) 0 (sg 0 - 1) ≠ 0 := fun e => c3 (nerr0 e).1
        simp (disch := omega) only [k82, sh2, u9, w0, n_eqT, n_eqF, n_vp, n_cl, n_sub, not_true_eq_false, Bool.false_eq_true, false_and, Bool.not_false, Bool.not_true, Bool.and_true, Bool.and_false, Bool.false_and, Bool.true_and, true_and, and_true, true_or, or_true, not_false_eq_true, Option.some.injEq, exists_eq_left', forall_eq, ↓reduceIte, Nat.add_zero, Nat.zero_add, and_self]
        refine s_X8_takes p2 hp2 (by omega) (by omega) _ (fun e => absurd e ne) fun e2 M3 f3 g3 k3 => ?_
        refine ifp rfl ?_
        exact bad_ ne M3 f3 g3 k3
    · rw [if_pos (show ¬ fi (fun k => decide (nm (8 + k) = tW L bf (tN L bf p))) (sg 2) < sg 2 from c2)]
      refine s_X8_starts0 (c := 4) p1 _ fun M2 f2 g2 e2 => ?_
      refine ifp rfl ?_
      exact K0 4 _ (by simp only [absentL, c1, c2, if_true, if_false]) M2 (F1.trans (fq_I f2 fun b hb => Or.inl hb)) (gg1.fx.trans (fails_fx g2)) e2
  · have F := s_X8_fails (c := 1) p1 (fun r3 M3 => (r3 = nI 0 ∨ r3 = nI 1) ∧ P r3 M3) fun M2 f2 g2 e2 => ⟨Or.inl rfl, K0 1 _ (by simp only [absentL, c1, if_false]) M2 (F1.trans (fq_I f2 fun b hb => Or.inl hb)) (gg1.fx.trans (fails_fx g2)) e2⟩
    simp (disch := omega) only [k81, t9, l_0, l_1, n_eqF, not_true_eq_false, Bool.false_eq_true, false_and, Bool.not_false, Bool.not_true, Bool.and_true, Bool.and_false, Bool.false_and, Bool.true_and, true_and, and_true, true_or, or_true, not_false_eq_true, Option.some.injEq, exists_eq_left', forall_eq, ↓reduceIte, Nat.add_zero, Nat.zero_add, and_self]
    exact F
end PAM
