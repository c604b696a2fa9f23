/-! advance: the class's reader -/
theorem tk_e {L : Nat} {bf : Nat → Int32} {p : Nat} (h : L ≤ tS L bf p) : tK L bf p = 0 ∧ tN L bf p = tS L bf p := by
  simp only [tK, tN, h, ↓reduceIte, and_self]
theorem tk_w {L : Nat} {bf : Nat → Int32} {p : Nat} (h : tS L bf p < L) (a : lt (bt L bf (tS L bf p)) = true) : (tK L bf p = if run lt L bf (tS L bf p) ≤ 8 then 1 else 4) ∧ tN L bf p = tS L bf p + run lt L bf (tS L bf p) := by
  have hn : ¬ L ≤ tS L bf p := by omega
  simp only [tK, tN, hn, a, ↓reduceIte, and_self]
theorem tk_n {L : Nat} {bf : Nat → Int32} {p : Nat} (h : tS L bf p < L) (a : lt (bt L bf (tS L bf p)) = false) (b : dgt (bt L bf (tS L bf p)) = true) : (tK L bf p = if run dgt L bf (tS L bf p) ≤ 3 then 2 else 4) ∧ tN L bf p = tS L bf p + run dgt L bf (tS L bf p) := by
  have hn : ¬ L ≤ tS L bf p := by omega
  simp only [tK, tN, hn, a, b, Bool.false_eq_true, ↓reduceIte, and_self]
theorem tk_o {L : Nat} {bf : Nat → Int32} {p : Nat} (h : tS L bf p < L) (a : lt (bt L bf (tS L bf p)) = false) (b : dgt (bt L bf (tS L bf p)) = false) : (tK L bf p = if bt L bf (tS L bf p) = 59 then 3 else 4) ∧ tN L bf p = tS L bf p + 1 := by
  have hn : ¬ L ≤ tS L bf p := by omega
  simp only [tK, tN, hn, a, b, Bool.false_eq_true, ↓reduceIte, and_self]
section RDA
variable {y x L : Nat} {bf : Nat → Int32} {M : Mm}
theorem s_X5_advance (h : RDr5 y x L bf M) {p : Nat} (hp : p ≤ L) (p2 : zI M y 2 = nI p) (P : Mm → Prop)
    (K : ∀ M', FrJ y (fun b => b = y) M M' → RDr5 y x L bf M' → RT y L bf p M' → P M') : w_X5_advance M y P := by
  have hL := h.2.2.2.2.2.1
  have hs := tS_le L bf hp
  have hn := tN_le L bf hp
  unfold w_X5_advance
  refine s_X5_blanks h hp p2 P _ fun M5 f5 g5 q5 => ?_
  have k5 : zk M5 y = 5 := by rw [f5.k]; exact h.1
  refine ⟨k5, k5, fun M6 e6 => ⟨by rw [e6]; exact k5, fun M7 e7 => ⟨by rw [e7, e6]; exact k5, fun M8 e8 => ?_⟩⟩⟩
  have q5s : zI M5 y 2 = nI (tS L bf p) := q5
  have F8 : FrJ y (fun b => b = y) M M8 := by
    rw [e8, e7, e6]
    exact ((f5.toJ.trans FrJ.sI).trans FrJ.sJ).trans FrJ.sI
  have z2 : zI M8 y 2 = nI (tS L bf p) := by
    rw [e8, zI_sI2 _ _ _ _ (by omega), e7, zI_sJ, e6, zI_sI2 _ _ _ _ (by omega)]; exact q5s
  have z4 : zI M8 y 4 = nI (tS L bf p) := by
    rw [e8, zI_sI2 _ _ _ _ (by omega), e7, zI_sJ, e6, zI_sI1]; exact q5s
  have z1 : zI M8 y 1 = zI M y 1 := by
    rw [e8, zI_sI2 _ _ _ _ (by omega), e7, zI_sJ, e6, zI_sI2 _ _ _ _ (by omega)]; exact g5 1 (by omega)
  have z6 : zI M8 y 6 = nI 0 := by rw [e8]; exact zI_sI1 _ _ _ _
  have z5 : zJ M8 y 5 = 0 := by
    rw [e8, zJ_sI, e7]; exact zJ_sJ1 _ _ _ _
  have R8 := h.fr F8 z1
  have R0 := R8
  obtain ⟨h1, h2, h3, h4, h5, h6, h7, h8⟩ := R8
  clear e6 e7 e8
  by_cases c : tS L bf p < L
  · have d := h8 _ c
    have eb := bt_lt (bf := bf) c
    by_cases cl : lt (bt L bf (tS L bf p)) = true
    · have cl2 : lt (ub (bf (tS L bf p))) = true := by rw [← eb]; exact cl
      obtain ⟨t1, t2⟩ := tk_w c cl
      simp (disch := omega) only [h1, h2, h3, h4, h5, z2, d.1, isL d.2, cl2, bI_t, l_0, l_1, l_3, l_4, l_8, n_ltT, n_eqF, n_vp, n_cl, not_true_eq_false, Bool.false_eq_true, false_and, Bool.not_false, Bool.not_true, Bool.and_true, Bool.and_false, Bool.false_and, Bool.true_and, true_and, and_true, true_or, or_true, not_false_eq_true, Option.some.injEq, exists_eq_left', forall_eq, ↓reduceIte, Nat.add_zero, Nat.zero_add, and_self]
      refine s_X5_letters R0 hs z2 z5 P _ fun M9 f9 g9 q9 w9 => ?_
      have R9 := R0.fr f9 (g9 1 (by omega))
      have z49 : zI M9 y 4 = nI (tS L bf p) := by rw [g9 4 (by omega)]; exact z4
      have rl := run_le lt L bf hs
      have e9 : nI (tS L bf p + run lt L bf (tS L bf p)) - nI (tS L bf p) = nI (run lt L bf (tS L bf p)) := by
        rw [n_sub (by omega), Nat.add_sub_cancel_left]
      by_cases c8 : run lt L bf (tS L bf p) ≤ 8
      · rw [if_pos c8] at t1
        simp (disch := omega) only [R9.1, q9, z49, e9, n_ltF, not_true_eq_false, Bool.false_eq_true, false_and, Bool.not_false, Bool.not_true, Bool.and_true, Bool.and_false, Bool.false_and, Bool.true_and, true_and, and_true, true_or, or_true, not_false_eq_true, Option.some.injEq, exists_eq_left', forall_eq, ↓reduceIte, Nat.add_zero, Nat.zero_add, and_self]
        refine K _ ((F8.trans f9).trans FrJ.sI) (R9.fr FrJ.sI (zI_sI2 _ _ _ _ (by omega))) ⟨?_, ?_, ?_, fun _ => w9 c8, fun z => absurd z (by rw [t1]; omega)⟩
        · rw [t2]; exact (zI_sI2 _ _ _ _ (by omega)).trans q9
        · rw [t1]; exact zI_sI1 _ _ _ _
        · exact (zI_sI2 _ _ _ _ (by omega)).trans z49
      · rw [if_neg c8] at t1
        simp (disch := omega) only [R9.1, q9, z49, e9, n_ltT, not_true_eq_false, Bool.false_eq_true, false_and, Bool.not_false, Bool.not_true, Bool.and_true, Bool.and_false, Bool.false_and, Bool.true_and, true_and, and_true, true_or, or_true, not_false_eq_true, Option.some.injEq, exists_eq_left', forall_eq, ↓reduceIte, Nat.add_zero, Nat.zero_add, and_self]
        refine K _ ((F8.trans f9).trans FrJ.sI) (R9.fr FrJ.sI (zI_sI2 _ _ _ _ (by omega))) ⟨?_, ?_, ?_, fun z => absurd z (by rw [t1]; omega), fun z => absurd z (by rw [t1]; omega)⟩
        · rw [t2]; exact (zI_sI2 _ _ _ _ (by omega)).trans q9
        · rw [t1]; exact zI_sI1 _ _ _ _
        · exact (zI_sI2 _ _ _ _ (by omega)).trans z49
    · have cf := b_no cl
      have cf2 : lt (ub (bf (tS L bf p))) = false := by rw [← eb]; exact cf
      by_cases cd : dgt (bt L bf (tS L bf p)) = true
      · have cd2 : wi 48 57 (ub (bf (tS L bf p))) = true := by rw [← eb]; exact cd
        obtain ⟨t1, t2⟩ := tk_n c cf cd
        simp (disch := omega) only [h1, h2, h3, h4, h5, z2, d.1, isL d.2, isD d.2, cf2, cd2, bI_t, bI_f, l_0, l_1, l_2, l_3, l_4, n_ltT, n_eqF, n_eqT, n_vp, n_cl, not_true_eq_false, Bool.false_eq_true, false_and, Bool.not_false, Bool.not_true, Bool.and_true, Bool.and_false, Bool.false_and, Bool.true_and, true_and, and_true, true_or, or_true, not_false_eq_true, Option.some.injEq, exists_eq_left', forall_eq, ↓reduceIte, Nat.add_zero, Nat.zero_add, and_self]
        refine s_X5_digits R0 hs z2 z6 P _ fun M9 f9 g9 q9 w9 => ?_
        have R9 := R0.fr f9.toJ (g9 1 (by omega) (by omega))
        have z49 : zI M9 y 4 = nI (tS L bf p) := by rw [g9 4 (by omega) (by omega)]; exact z4
        have rl := run_le dgt L bf hs
        have e9 : nI (tS L bf p + run dgt L bf (tS L bf p)) - nI (tS L bf p) = nI (run dgt L bf (tS L bf p)) := by
          rw [n_sub (by omega), Nat.add_sub_cancel_left]
        by_cases c8 : run dgt L bf (tS L bf p) ≤ 3
        · rw [if_pos c8] at t1
          simp (disch := omega) only [R9.1, q9, z49, e9, n_ltF, not_true_eq_false, Bool.false_eq_true, false_and, Bool.not_false, Bool.not_true, Bool.and_true, Bool.and_false, Bool.false_and, Bool.true_and, true_and, and_true, true_or, or_true, not_false_eq_true, Option.some.injEq, exists_eq_left', forall_eq, ↓reduceIte, Nat.add_zero, Nat.zero_add, and_self]
          refine K _ ((F8.trans f9.toJ).trans FrJ.sI) (R9.fr FrJ.sI (zI_sI2 _ _ _ _ (by omega))) ⟨?_, ?_, ?_, fun z => absurd z (by rw [t1]; omega), fun _ => (zI_sI2 _ _ _ _ (by omega)).trans w9⟩
          · rw [t2]; exact (zI_sI2 _ _ _ _ (by omega)).trans q9
          · rw [t1]; exact zI_sI1 _ _ _ _
          · exact (zI_sI2 _ _ _ _ (by omega)).trans z49
        · rw [if_neg c8] at t1
          simp (disch := omega) only [R9.1, q9, z49, e9, n_ltT, not_true_eq_false, Bool.false_eq_true, false_and, Bool.not_false, Bool.not_true, Bool.and_true, Bool.and_false, Bool.false_and, Bool.true_and, true_and, and_true, true_or, or_true, not_false_eq_true, Option.some.injEq, exists_eq_left', forall_eq, ↓reduceIte, Nat.add_zero, Nat.zero_add, and_self]
          refine K _ ((F8.trans f9.toJ).trans FrJ.sI) (R9.fr FrJ.sI (zI_sI2 _ _ _ _ (by omega))) ⟨?_, ?_, ?_, fun z => absurd z (by rw [t1]; omega), fun z => absurd z (by rw [t1]; omega)⟩
          · rw [t2]; exact (zI_sI2 _ _ _ _ (by omega)).trans q9
          · rw [t1]; exact zI_sI1 _ _ _ _
          · exact (zI_sI2 _ _ _ _ (by omega)).trans z49
      · have df := b_no cd
        have df2 : wi 48 57 (ub (bf (tS L bf p))) = false := by rw [← eb]; exact df
        obtain ⟨t1, t2⟩ := tk_o c cf df
        have iv := fun (v : Nat) (hv : v < 128) => isV d.2 hv
        have zz : ∀ v, zI (sI M8 y 3 v) y 2 = nI (tS L bf p) := fun v => (zI_sI2 _ _ _ _ (by omega)).trans z2
        by_cases c59 : ub (bf (tS L bf p)) = 59
        · rw [if_pos (by rw [eb]; exact c59)] at t1
          simp (disch := omega) only [h1, h2, h3, h4, h5, z2, d.1, isL d.2, isD d.2, cf2, df2, iv, c59, bI_f, l_0, l_1, l_3, l_4, l_59, n_ltT, n_eqT, n_vp, n_cl, zk_sI, zz, nI_add, not_true_eq_false, Bool.false_eq_true, false_and, Bool.not_false, Bool.not_true, Bool.and_true, Bool.and_false, Bool.false_and, Bool.true_and, true_and, and_true, true_or, or_true, not_false_eq_true, Option.some.injEq, exists_eq_left', forall_eq, ↓reduceIte, Nat.add_zero, Nat.zero_add, and_self]
          refine K _ ((F8.trans FrJ.sI).trans FrJ.sI) (R0.fr (FrJ.sI.trans FrJ.sI) ((zI_sI2 _ _ _ _ (by omega)).trans (zI_sI2 _ _ _ _ (by omega)))) ⟨?_, ?_, ?_, fun z => absurd z (by rw [t1]; omega), fun z => absurd z (by rw [t1]; omega)⟩
          · rw [t2]; exact zI_sI1 _ _ _ _
          · rw [t1]; exact (zI_sI2 _ _ _ _ (by omega)).trans (zI_sI1 _ _ _ _)
          · exact (zI_sI2 _ _ _ _ (by omega)).trans ((zI_sI2 _ _ _ _ (by omega)).trans z4)
        · rw [if_neg (by rw [eb]; exact c59)] at t1
          simp (disch := omega) only [h1, h2, h3, h4, h5, z2, d.1, isL d.2, isD d.2, cf2, df2, iv, c59, bI_f, l_0, l_1, l_3, l_4, l_59, n_ltT, n_eqT, n_vp, n_cl, zk_sI, zz, nI_add, not_true_eq_false, Bool.false_eq_true, false_and, Bool.not_false, Bool.not_true, Bool.and_true, Bool.and_false, Bool.false_and, Bool.true_and, true_and, and_true, true_or, or_true, not_false_eq_true, Option.some.injEq, exists_eq_left', forall_eq, ↓reduceIte, Nat.add_zero, Nat.zero_add, and_self]
          refine K _ ((F8.trans FrJ.sI).trans FrJ.sI) (R0.fr (FrJ.sI.trans FrJ.sI) ((zI_sI2 _ _ _ _ (by omega)).trans (zI_sI2 _ _ _ _ (by omega)))) ⟨?_, ?_, ?_, fun z => absurd z (by rw [t1]; omega), fun z => absurd z (by rw [t1]; omega)⟩
          · rw [t2]; exact zI_sI1 _ _ _ _
          · rw [t1]; exact (zI_sI2 _ _ _ _ (by omega)).trans (zI_sI1 _ _ _ _)
          · exact (zI_sI2 _ _ _ _ (by omega)).trans ((zI_sI2 _ _ _ _ (by omega)).trans z4)
  · obtain ⟨t1, t2⟩ := tk_e (bf := bf) (p := p) (L := L) (by omega)
    simp (disch := omega) only [h1, h3, z2, l_0, n_ltF, not_true_eq_false, Bool.false_eq_true, false_and, Bool.not_false, Bool.not_true, Bool.and_true, Bool.and_false, Bool.false_and, Bool.true_and, true_and, and_true, true_or, or_true, not_false_eq_true, Option.some.injEq, exists_eq_left', forall_eq, ↓reduceIte, Nat.add_zero, Nat.zero_add, and_self]
    refine K _ (F8.trans FrJ.sI) (R0.fr FrJ.sI (zI_sI2 _ _ _ _ (by omega))) ⟨?_, ?_, ?_, fun z => absurd z (by rw [t1]; omega), fun z => absurd z (by rw [t1]; omega)⟩
    · rw [t2]; exact (zI_sI2 _ _ _ _ (by omega)).trans z2
    · rw [t1]; exact zI_sI1 _ _ _ _
    · exact (zI_sI2 _ _ _ _ (by omega)).trans z4
end RDA
