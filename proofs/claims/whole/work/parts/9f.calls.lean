/-! whyNotMove, costsWith: the model puts its plan aside and back -/
theorem n_le0 {k : Nat} (h : 0 < k) (h2 : k < 2 ^ 31) : (nI k ≤ nI 0) = False := n_leF h h2
section MO
variable {m : Nat} {sg pl : Nat → Nat} {M : Mm}
theorem MR.i23 {v : Int32} (h : MR m sg pl M) : MR m sg pl (sI M m 23 v) := h.fr (R := fun b => b = m) (FrI.sI rfl) (by omega) (by omega)
theorem s_X8_moves (h : MR m sg pl M) (hp : PG sg pl) {s t : Nat} (hsn : s < pl 0) (ht : t < 3 * sg 0) (P : Int32 → Mm → Prop)
    (K : ∀ M', FrI (RM m) M M' → (∀ i, i ≠ 21 → i ≠ 23 → zI M' m i = zI M m i) → (mvN sg pl s t = 0 → MN m (mvP sg pl s t) M' ∧ zI M' m 23 = nI (psn (off pl s) (oS pl s 1) t)) → P (nI (mvN sg pl s t)) M') : w_X8_moves M m (nI s) (nI t) P := by
  have b := h.sb.b
  have n := hp.1.n
  have d := hp.1.s h.sb hsn
  have g := PGoff h.sb hp hsn
  have go : ∀ c, c < 2 → c = oS pl s 2 → ∀ M4, FrI (fun b => b = m + 2) M M4 → MN m (off pl s) M4 → w_X8_why M4 m (nI (oS pl s 1)) (nI t) (nI (oS pl s 3)) (nI c) (fun r9 M9 => if r9 ≤ nI 0 then zk M9 m = 8 ∧ w_X8_comes M9 m (nI (oS pl s 1)) (nI t) (nI (oS pl s 3)) (nI c) (fun r10 M10 => zk M10 m = 8 ∧ zk (sI M10 m 23 r10) m = 8 ∧ w_X8_isRehearsed (sI M10 m 23 r10) m (fun r12 M12 => if r12 = nI 0 then P (nI 6) M12 else P (nI 0) M12)) else P r9 M9) := by
    intro c hc hce M4 f4 g4
    have q4 := h.q.fr f4 (by omega)
    have r4 := MR.mk q4 g4 g.1
    refine s_X8_why r4 (by omega) (by omega) (by omega) hc _ fun M5 f5 => ?_
    have r5 := r4.fc f5
    have F5 : FrI (RM m) M M5 := (f4.mono fun b hb => by unfold RM; omega).trans (f5.1.mono fun b hb => by unfold RC at hb; unfold RM; omega)
    have i5 : ∀ i, i ≠ 21 → i ≠ 23 → zI M5 m i = zI M m i := fun i h1 h2 => by rw [f5.2 i h1, f4.i (by omega)]
    have K5 := K M5 F5 i5
    have wl := whyN_lt sg (off pl s) (oS pl s 1) t (oS pl s 3) (oS pl s 2)
    unfold mvN at K K5
    subst hce
    by_cases w : whyN sg (off pl s) (oS pl s 1) t (oS pl s 3) (oS pl s 2) = 0
    · obtain ⟨w1, w2, w3⟩ := why0 w g.1
      rw [if_pos w] at K
      simp (disch := omega) only [w, r5.sh, l_0, l_1, l_2, l_3, l_4, l_5, l_6, l_7, l_8, l_9, l_10, l_20, l_30, l_31, l_34, l_40, l_65, l_100, l_255, l_11, l_12, l_24, l_600, l_689, l_999, l_120, l_32, nI_add, pk_mul, n_sub, n_leT, n_leF, n_ltT, n_ltF, n_eqT, n_eqF, n_cl, n_vp, fa_andq, fa_orq, fa_xorq, n_shl, n_shr, n_t1, n_t0, n_div, n_m1, not_true_eq_false, Bool.false_eq_true, false_and, Bool.not_false, Bool.not_true, Bool.and_true, Bool.and_false, Bool.false_and, Bool.true_and, true_and, and_true, true_or, or_true, not_false_eq_true, Option.some.injEq, exists_eq_left', forall_eq, ↓reduceIte, Nat.add_zero, Nat.zero_add, and_self]
      refine s_X8_comes r5 (by omega) (by omega) (by omega) w1 _ fun M6 f6 q6 g6 => ?_
      have pm : PG sg (mvP sg pl s t) := PGmv h.sb hp hsn ht w
      have r6 : MR m sg (mvP sg pl s t) M6 := MR.mk q6 g6 pm.1
      have r7 := r6.i23 (v := nI (psn (off pl s) (oS pl s 1) t))
      have K7 := K (sI M6 m 23 (nI (psn (off pl s) (oS pl s 1) t))) ((F5.trans f6.1).trans (FrI.sI (Or.inl rfl))) (fun i h1 h2 => by rw [zI_sI2 _ _ _ _ h2, f6.2 i h1, i5 i h1 h2]) (fun _ => ⟨r7.mn, zI_sI1 _ _ _ _⟩)
      simp (disch := omega) only [r6.sh, zk_sI, e_X8_isRehearsed r7, l_0, l_1, l_2, l_3, l_4, l_5, l_6, l_7, l_8, l_9, l_10, l_20, l_30, l_31, l_34, l_40, l_65, l_100, l_255, l_11, l_12, l_24, l_600, l_689, l_999, l_120, l_32, nI_add, pk_mul, n_sub, n_leT, n_leF, n_ltT, n_ltF, n_eqT, n_eqF, n_cl, n_vp, fa_andq, fa_orq, fa_xorq, n_shl, n_shr, n_t1, n_t0, n_div, n_m1, not_true_eq_false, Bool.false_eq_true, false_and, Bool.not_false, Bool.not_true, Bool.and_true, Bool.and_false, Bool.false_and, Bool.true_and, true_and, and_true, true_or, or_true, not_false_eq_true, Option.some.injEq, exists_eq_left', forall_eq, ↓reduceIte, Nat.add_zero, Nat.zero_add, and_self]
      by_cases z : rehd sg (mvP sg pl s t) = true
      · rw [if_pos z] at K7
        simp (disch := omega) only [z, bI_t, l_0, l_1, l_2, l_3, l_4, l_5, l_6, l_7, l_8, l_9, l_10, l_20, l_30, l_31, l_34, l_40, l_65, l_100, l_255, l_11, l_12, l_24, l_600, l_689, l_999, l_120, l_32, nI_add, pk_mul, n_sub, n_leT, n_leF, n_ltT, n_ltF, n_eqT, n_eqF, n_cl, n_vp, fa_andq, fa_orq, fa_xorq, n_shl, n_shr, n_t1, n_t0, n_div, n_m1, not_true_eq_false, Bool.false_eq_true, false_and, Bool.not_false, Bool.not_true, Bool.and_true, Bool.and_false, Bool.false_and, Bool.true_and, true_and, and_true, true_or, or_true, not_false_eq_true, Option.some.injEq, exists_eq_left', forall_eq, ↓reduceIte, Nat.add_zero, Nat.zero_add, and_self]
        exact K7
      · rw [if_neg z] at K7
        simp (disch := omega) only [b_no z, bI_f, l_0, l_1, l_2, l_3, l_4, l_5, l_6, l_7, l_8, l_9, l_10, l_20, l_30, l_31, l_34, l_40, l_65, l_100, l_255, l_11, l_12, l_24, l_600, l_689, l_999, l_120, l_32, nI_add, pk_mul, n_sub, n_leT, n_leF, n_ltT, n_ltF, n_eqT, n_eqF, n_cl, n_vp, fa_andq, fa_orq, fa_xorq, n_shl, n_shr, n_t1, n_t0, n_div, n_m1, not_true_eq_false, Bool.false_eq_true, false_and, Bool.not_false, Bool.not_true, Bool.and_true, Bool.and_false, Bool.false_and, Bool.true_and, true_and, and_true, true_or, or_true, not_false_eq_true, Option.some.injEq, exists_eq_left', forall_eq, ↓reduceIte, Nat.add_zero, Nat.zero_add, and_self]
        exact K7
    · rw [if_neg w] at K5
      simp (disch := omega) only [n_le0, not_true_eq_false, Bool.false_eq_true, false_and, Bool.not_false, Bool.not_true, Bool.and_true, Bool.and_false, Bool.false_and, Bool.true_and, true_and, and_true, true_or, or_true, not_false_eq_true, Option.some.injEq, exists_eq_left', forall_eq, ↓reduceIte, Nat.add_zero, Nat.zero_add, and_self]
      exact K5 (fun z => absurd z w)
  rcases (show oS pl s 2 = 0 ∨ oS pl s 2 = 1 by omega) with e | e
  · simp (disch := omega) only [w_X8_moves, h.sh, e_X8_of h, e, l_0, l_1, l_2, l_3, l_4, l_5, l_6, l_7, l_8, l_9, l_10, l_20, l_30, l_31, l_34, l_40, l_65, l_100, l_255, l_11, l_12, l_24, l_600, l_689, l_999, l_120, l_32, nI_add, pk_mul, n_sub, n_leT, n_leF, n_ltT, n_ltF, n_eqT, n_eqF, n_cl, n_vp, fa_andq, fa_orq, fa_xorq, n_shl, n_shr, n_t1, n_t0, n_div, n_m1, not_true_eq_false, Bool.false_eq_true, false_and, Bool.not_false, Bool.not_true, Bool.and_true, Bool.and_false, Bool.false_and, Bool.true_and, true_and, and_true, true_or, or_true, not_false_eq_true, Option.some.injEq, exists_eq_left', forall_eq, ↓reduceIte, Nat.add_zero, Nat.zero_add, and_self]
    refine s_X8_takesOff h.mn hsn n _ fun M4 f4 g4 => ?_
    have z4 : zk M4 m = 8 := by rw [f4.k]; exact h.sh.1.1
    simp (disch := omega) only [z4, l_0, l_1, l_2, l_3, l_4, l_5, l_6, l_7, l_8, l_9, l_10, l_20, l_30, l_31, l_34, l_40, l_65, l_100, l_255, l_11, l_12, l_24, l_600, l_689, l_999, l_120, l_32, nI_add, pk_mul, n_sub, n_leT, n_leF, n_ltT, n_ltF, n_eqT, n_eqF, n_cl, n_vp, fa_andq, fa_orq, fa_xorq, n_shl, n_shr, n_t1, n_t0, n_div, n_m1, not_true_eq_false, Bool.false_eq_true, false_and, Bool.not_false, Bool.not_true, Bool.and_true, Bool.and_false, Bool.false_and, Bool.true_and, true_and, and_true, true_or, or_true, not_false_eq_true, Option.some.injEq, exists_eq_left', forall_eq, ↓reduceIte, Nat.add_zero, Nat.zero_add, and_self]
    exact go 0 (by omega) e.symm M4 f4 g4
  · simp (disch := omega) only [w_X8_moves, h.sh, e_X8_of h, e, l_0, l_1, l_2, l_3, l_4, l_5, l_6, l_7, l_8, l_9, l_10, l_20, l_30, l_31, l_34, l_40, l_65, l_100, l_255, l_11, l_12, l_24, l_600, l_689, l_999, l_120, l_32, nI_add, pk_mul, n_sub, n_leT, n_leF, n_ltT, n_ltF, n_eqT, n_eqF, n_cl, n_vp, fa_andq, fa_orq, fa_xorq, n_shl, n_shr, n_t1, n_t0, n_div, n_m1, not_true_eq_false, Bool.false_eq_true, false_and, Bool.not_false, Bool.not_true, Bool.and_true, Bool.and_false, Bool.false_and, Bool.true_and, true_and, and_true, true_or, or_true, not_false_eq_true, Option.some.injEq, exists_eq_left', forall_eq, ↓reduceIte, Nat.add_zero, Nat.zero_add, and_self]
    refine s_X8_takesOff h.mn hsn n _ fun M4 f4 g4 => ?_
    have z4 : zk M4 m = 8 := by rw [f4.k]; exact h.sh.1.1
    simp (disch := omega) only [z4, l_0, l_1, l_2, l_3, l_4, l_5, l_6, l_7, l_8, l_9, l_10, l_20, l_30, l_31, l_34, l_40, l_65, l_100, l_255, l_11, l_12, l_24, l_600, l_689, l_999, l_120, l_32, nI_add, pk_mul, n_sub, n_leT, n_leF, n_ltT, n_ltF, n_eqT, n_eqF, n_cl, n_vp, fa_andq, fa_orq, fa_xorq, n_shl, n_shr, n_t1, n_t0, n_div, n_m1, not_true_eq_false, Bool.false_eq_true, false_and, Bool.not_false, Bool.not_true, Bool.and_true, Bool.and_false, Bool.false_and, Bool.true_and, true_and, and_true, true_or, or_true, not_false_eq_true, Option.some.injEq, exists_eq_left', forall_eq, ↓reduceIte, Nat.add_zero, Nat.zero_add, and_self]
    exact go 1 (by omega) e.symm M4 f4 g4
/-- the plan was put aside, something was done to the model's plan, it is put back -/
theorem MI.back {s : ST} {M M1 M2 M3 : Mm} (h : MI m s M) (f1 : FrI (fun b => b = m + 10) M M1) (g1 : ∀ j, j < 689 → zI M1 (m + 10) j = zI M (m + 2) j) (f2 : FrI (RM m) M1 M2) (g2 : ∀ i, i ≠ 21 → i ≠ 23 → zI M2 m i = zI M1 m i) (f3 : FrI (fun b => b = m + 2) M2 M3) (g3 : ∀ j, j < 689 → zI M3 (m + 2) j = zI M2 (m + 10) j) :
    MI m s M3 ∧ FrI (fun b => m ≤ b ∧ b ≤ m + 13) M M3 ∧ ∀ i, i ≠ 21 → i ≠ 23 → zI M3 m i = zI M m i := by
  obtain ⟨sg, pl, hn, hl, sv, sl, bl, bf, ep, nm⟩ := s
  obtain ⟨mq, mn, mh, ms, mb, mnm⟩ := h
  have F : FrI (fun b => b = m + 10 ∨ RM m b) M M3 := ((f1.mono fun b hb => Or.inl hb).trans (f2.mono fun b hb => Or.inr hb)).trans (f3.mono fun b hb => Or.inr (by unfold RM; omega))
  have I : ∀ i, i ≠ 21 → i ≠ 23 → zI M3 m i = zI M m i := fun i h1 h2 => by rw [f3.i (by omega), g2 i h1 h2, f1.i (by omega)]
  refine ⟨⟨mq.fr F (by unfold RM; omega), ⟨mn.1.fr F, fun i hi => ?_⟩, ?_, ?_, ?_, ?_⟩, F.mono fun b hb => by unfold RM at hb; omega, I⟩
  · rw [g3 i hi, f2.i (by unfold RM; omega), g1 i hi]; exact mn.2 i hi
  · unfold MHi at mh ⊢; rw [I 24 (by omega) (by omega), F.i (by unfold RM; omega)]; exact mh
  · unfold MSn at ms ⊢; rw [F.i (b := m + 13) (by unfold RM; omega), F.i (b := m + 12) (by unfold RM; omega)]; exact ms
  · unfold MBu at mb ⊢; rw [I 5 (by omega) (by omega), I 13 (by omega) (by omega), F.i (by unfold RM; omega)]; exact mb
  · unfold MNm at mnm ⊢; rw [F.j]; exact mnm
theorem MR.ms {sg pl : Nat → Nat} {M : Mm} (h : MR m sg pl M) : MS m M := h.1
/-- putting aside, on a state that goes on -/
theorem MR.aside {M1 : Mm} (h : MR m sg pl M) (f1 : FrI (fun b => b = m + 10) M M1) : MR m sg pl M1 := h.fr f1 (by omega) (by omega)
end MO
theorem call_whyNotMove {x : Nat} {s : ST} (ok : OKs s) (a a2 : Int32) : CALL1 x s clB1 (fun M P X => w_X7_whyNotMove M x a a2 P X) (fun M P => w_X8_whyNotMove M (x + 149) a a2 P) := by
  obtain ⟨sg, pl, hn, hl, sv, sl, bl, bf, ep, nm⟩ := s
  have ok2 := ok
  obtain ⟨hs, hp, h10, hhl, hsl, hbl, hby, hep, nm1, nm2, nm3, nm4⟩ := ok
  have b := hs.b
  have n := hp.1.n
  have e3 : 3 * sg 0 = sg 0 * 3 := Nat.mul_comm _ _
  rcases ix a (n := pl 0) (by omega) with h | ⟨p, hp2, rfl⟩
  · refine CALL1.no 1 (by decide) ok2 (fun M P X c w K => ?_) (fun M P c K => ?_)
    · have c2 := c
      obtain ⟨c10, sa, sp, hps, hx, hS, hS2, hP, hD, hH, hN, hB, hNm, hKP⟩ := c
      simp (disch := omega) only [w_X7_whyNotMove, w_X7_requireService, hx.s, hP.sh, hP.n, e_req_no h, l_0, l_1, l_2, l_3, l_4, l_5, l_6, l_7, l_8, l_9, l_10, l_20, l_30, l_31, l_34, l_40, l_65, l_100, l_255, l_11, l_12, l_24, l_600, l_689, l_999, l_120, l_32, nI_add, pk_mul, n_sub, n_leT, n_leF, n_ltT, n_ltF, n_eqT, n_eqF, n_cl, n_vp, fa_andq, fa_orq, fa_xorq, n_shl, n_shr, n_t1, n_t0, n_div, n_m1, not_true_eq_false, Bool.false_eq_true, false_and, Bool.not_false, Bool.not_true, Bool.and_true, Bool.and_false, Bool.false_and, Bool.true_and, true_and, and_true, true_or, or_true, not_false_eq_true, Option.some.injEq, exists_eq_left', forall_eq, ↓reduceIte, Nat.add_zero, Nat.zero_add, and_self]
      exact fun n1 hn1 => K _ c2.sZ (FrG.sZ hn1)
    · refine ⟨c.k8, thr0 c fun M1 c1 f1 t1 => ?_⟩
      have r := c1.mr hp.1
      simp (disch := omega) only [r.sh, r.v2, e_no_no r.sh.1.1 t1 h, l_0, l_1, l_2, l_3, l_4, l_5, l_6, l_7, l_8, l_9, l_10, l_20, l_30, l_31, l_34, l_40, l_65, l_100, l_255, l_11, l_12, l_24, l_600, l_689, l_999, l_120, l_32, nI_add, pk_mul, n_sub, n_leT, n_leF, n_ltT, n_ltF, n_eqT, n_eqF, n_cl, n_vp, fa_andq, fa_orq, fa_xorq, n_shl, n_shr, n_t1, n_t0, n_div, n_m1, not_true_eq_false, Bool.false_eq_true, false_and, Bool.not_false, Bool.not_true, Bool.and_true, Bool.and_false, Bool.false_and, Bool.true_and, true_and, and_true, true_or, or_true, not_false_eq_true, Option.some.injEq, exists_eq_left', forall_eq, ↓reduceIte, Nat.add_zero, Nat.zero_add, and_self]
      exact K _ _ (c1.mf MF.th) (f1.trans MF.th).o (zI_sI1 _ _ _ _)
  · rcases ix a2 (n := sg 0 * 3) (by omega) with h | ⟨t, ht, rfl⟩
    · refine CALL1.no 1 (by decide) ok2 (fun M P X c w K => ?_) (fun M P c K => ?_)
      · have c2 := c
        obtain ⟨c10, sa, sp, hps, hx, hS, hS2, hP, hD, hH, hN, hB, hNm, hKP⟩ := c
        simp (disch := omega) only [w_X7_whyNotMove, w_X7_requireService, w_X7_requireSlot, hx.s, hS.s1, hP.sh, hP.n, e_req_ok hp2, e_X6_slotCount hS, e_req_no h, l_0, l_1, l_2, l_3, l_4, l_5, l_6, l_7, l_8, l_9, l_10, l_20, l_30, l_31, l_34, l_40, l_65, l_100, l_255, l_11, l_12, l_24, l_600, l_689, l_999, l_120, l_32, nI_add, pk_mul, n_sub, n_leT, n_leF, n_ltT, n_ltF, n_eqT, n_eqF, n_cl, n_vp, fa_andq, fa_orq, fa_xorq, n_shl, n_shr, n_t1, n_t0, n_div, n_m1, not_true_eq_false, Bool.false_eq_true, false_and, Bool.not_false, Bool.not_true, Bool.and_true, Bool.and_false, Bool.false_and, Bool.true_and, true_and, and_true, true_or, or_true, not_false_eq_true, Option.some.injEq, exists_eq_left', forall_eq, ↓reduceIte, Nat.add_zero, Nat.zero_add, and_self]
        exact fun n1 hn1 => K _ c2.sZ (FrG.sZ hn1)
      · refine ⟨c.k8, thr0 c fun M1 c1 f1 t1 => ?_⟩
        have r := c1.mr hp.1
        simp (disch := omega) only [r.sh, r.v2, e_no_ok r.sh.1.1 t1 hp2, e_X8_slotMany r, e3, e_no_no r.sh.1.1 t1 h, l_0, l_1, l_2, l_3, l_4, l_5, l_6, l_7, l_8, l_9, l_10, l_20, l_30, l_31, l_34, l_40, l_65, l_100, l_255, l_11, l_12, l_24, l_600, l_689, l_999, l_120, l_32, nI_add, pk_mul, n_sub, n_leT, n_leF, n_ltT, n_ltF, n_eqT, n_eqF, n_cl, n_vp, fa_andq, fa_orq, fa_xorq, n_shl, n_shr, n_t1, n_t0, n_div, n_m1, not_true_eq_false, Bool.false_eq_true, false_and, Bool.not_false, Bool.not_true, Bool.and_true, Bool.and_false, Bool.false_and, Bool.true_and, true_and, and_true, true_or, or_true, not_false_eq_true, Option.some.injEq, exists_eq_left', forall_eq, ↓reduceIte, Nat.add_zero, Nat.zero_add, and_self]
        exact K _ _ (c1.mf MF.th) (f1.trans MF.th).o (zI_sI1 _ _ _ _)
    · refine CALL1.ok _ (nI (mvN sg pl p t)) ok2 (fun M P X c w K => ?_) (fun M P c K => ?_)
      · have c2 := c
        obtain ⟨c10, sa, sp, hps, hx, hS, hS2, hP, hD, hH, hN, hB, hNm, hKP⟩ := c
        simp (disch := omega) only [w_X7_whyNotMove, w_X7_requireService, w_X7_requireSlot, hx.s, hS.s1, hP.sh, hP.n, e_req_ok hp2, e_X6_slotCount hS, e_req_ok ht, l_0, l_1, l_2, l_3, l_4, l_5, l_6, l_7, l_8, l_9, l_10, l_20, l_30, l_31, l_34, l_40, l_65, l_100, l_255, l_11, l_12, l_24, l_600, l_689, l_999, l_120, l_32, nI_add, pk_mul, n_sub, n_leT, n_leF, n_ltT, n_ltF, n_eqT, n_eqF, n_cl, n_vp, fa_andq, fa_orq, fa_xorq, n_shl, n_shr, n_t1, n_t0, n_div, n_m1, not_true_eq_false, Bool.false_eq_true, false_and, Bool.not_false, Bool.not_true, Bool.and_true, Bool.and_false, Bool.false_and, Bool.true_and, true_and, and_true, true_or, or_true, not_false_eq_true, Option.some.injEq, exists_eq_left', forall_eq, ↓reduceIte, Nat.add_zero, Nat.zero_add, and_self]
        refine s_X7_draftMove hs hx hKP hS hp hP hD hp2 (by omega) _ fun M2 f2 g2 => K M2 (c2.dr f2) (RDr.g f2)
      · refine ⟨c.k8, thr0 c fun M1 c1 f1 t1 => ?_⟩
        have r := c1.mr hp.1
        have o := r.ms.o
        simp (disch := omega) only [r.sh, r.v2, e_no_ok r.sh.1.1 t1 hp2, e_X8_slotMany r, e3, e_no_ok r.sh.1.1 t1 ht, o, l_0, l_1, l_2, l_3, l_4, l_5, l_6, l_7, l_8, l_9, l_10, l_20, l_30, l_31, l_34, l_40, l_65, l_100, l_255, l_11, l_12, l_24, l_600, l_689, l_999, l_120, l_32, nI_add, pk_mul, n_sub, n_leT, n_leF, n_ltT, n_ltF, n_eqT, n_eqF, n_cl, n_vp, fa_andq, fa_orq, fa_xorq, n_shl, n_shr, n_t1, n_t0, n_div, n_m1, not_true_eq_false, Bool.false_eq_true, false_and, Bool.not_false, Bool.not_true, Bool.and_true, Bool.and_false, Bool.false_and, Bool.true_and, true_and, and_true, true_or, or_true, not_false_eq_true, Option.some.injEq, exists_eq_left', forall_eq, ↓reduceIte, Nat.add_zero, Nat.zero_add, and_self]
        refine s_X8_puts o.2.1.2.1 o.2.2.2.1 o.2.1.2.2.1 o.2.2.2.2.1 (by omega) _ fun M2 f2 g2 => ?_
        have r2 := r.aside f2
        simp (disch := omega) only [r2.sh, not_true_eq_false, Bool.false_eq_true, false_and, Bool.not_false, Bool.not_true, Bool.and_true, Bool.and_false, Bool.false_and, Bool.true_and, true_and, and_true, true_or, or_true, not_false_eq_true, Option.some.injEq, exists_eq_left', forall_eq, ↓reduceIte, Nat.add_zero, Nat.zero_add, and_self]
        refine s_X8_moves r2 hp hp2 (by omega) _ fun M3 f3 g3 k3 => ?_
        have o3 := (r2.ms.fr f3).o
        simp (disch := omega) only [o3, not_true_eq_false, Bool.false_eq_true, false_and, Bool.not_false, Bool.not_true, Bool.and_true, Bool.and_false, Bool.false_and, Bool.true_and, true_and, and_true, true_or, or_true, not_false_eq_true, Option.some.injEq, exists_eq_left', forall_eq, ↓reduceIte, Nat.add_zero, Nat.zero_add, and_self]
        refine s_X8_puts o3.2.1.2.2.1 o3.2.2.2.2.1 o3.2.1.2.1 o3.2.2.2.1 (by omega) _ fun M4 f4 g4 => ?_
        obtain ⟨b1, b2, b3⟩ := c1.back f2 g2 f3 g3 f4 g4
        exact K M4 b1 (f1.o.trans (b2.mono fun b hb => by unfold RMo; omega)) (by rw [b3 0 (by omega) (by omega)]; exact t1)
theorem call_costsWith {x : Nat} {s : ST} (ok : OKs s) (a a2 a3 : Int32) {c : Nat} (hc : c < 2) : CALL1 x s clB (fun M P X => w_X7_costsWith M x a a2 a3 (nI c) P X) (fun M P => w_X8_costsWith M (x + 149) a a2 a3 (nI c) P) := by
  obtain ⟨sg, pl, hn, hl, sv, sl, bl, bf, ep, nm⟩ := s
  have ok2 := ok
  obtain ⟨hs, hp, h10, hhl, hsl, hbl, hby, hep, nm1, nm2, nm3, nm4⟩ := ok
  have b := hs.b
  rcases plc hs a a2 with h | ⟨ha, t, h1, h2, rfl, rfl⟩
  · refine CALL1.no 1 (by decide) ok2 (fun M P X c w K => ?_) (fun M P c K => ?_)
    · have c2 := c
      obtain ⟨c10, sa, sp, hps, hx, hS, hS2, hP, hD, hH, hN, hB, hNm, hKP⟩ := c
      simp (disch := omega) only [w_X7_costsWith, hx.s, e_rpw_p hs hx hS h, not_true_eq_false, Bool.false_eq_true, false_and, Bool.not_false, Bool.not_true, Bool.and_true, Bool.and_false, Bool.false_and, Bool.true_and, true_and, and_true, true_or, or_true, not_false_eq_true, Option.some.injEq, exists_eq_left', forall_eq, ↓reduceIte, Nat.add_zero, Nat.zero_add, and_self]
      exact fun n1 hn1 => K _ c2.sZ (FrG.sZ hn1)
    · refine ⟨c.k8, s_noPlace_no c hp.1 h _ fun M1 c1 f1 t1 => ?_⟩
      simp (disch := omega) only [l_0, l_1, l_2, l_3, l_4, l_5, l_6, l_7, l_8, l_9, l_10, l_20, l_30, l_31, l_34, l_40, l_65, l_100, l_255, l_11, l_12, l_24, l_600, l_689, l_999, l_120, l_32, nI_add, pk_mul, n_sub, n_leT, n_leF, n_ltT, n_ltF, n_eqT, n_eqF, n_cl, n_vp, fa_andq, fa_orq, fa_xorq, n_shl, n_shr, n_t1, n_t0, n_div, n_m1, not_true_eq_false, Bool.false_eq_true, false_and, Bool.not_false, Bool.not_true, Bool.and_true, Bool.and_false, Bool.false_and, Bool.true_and, true_and, and_true, true_or, or_true, not_false_eq_true, Option.some.injEq, exists_eq_left', forall_eq, ↓reduceIte, Nat.add_zero, Nat.zero_add, and_self]
      exact K _ _ c1 f1.o t1
  · rcases setc (sg 3) c a3 with h | ⟨n, g, rfl⟩
    · refine CALL1.no 2 (by decide) ok2 (fun M P X c w K => ?_) (fun M P c K => ?_)
      · have c2 := c
        obtain ⟨c10, sa, sp, hps, hx, hS, hS2, hP, hD, hH, hN, hB, hNm, hKP⟩ := c
        simp (disch := omega) only [w_X7_costsWith, hx.s, e_rpw_s hs hx hS h1 h2 hc h, not_true_eq_false, Bool.false_eq_true, false_and, Bool.not_false, Bool.not_true, Bool.and_true, Bool.and_false, Bool.false_and, Bool.true_and, true_and, and_true, true_or, or_true, not_false_eq_true, Option.some.injEq, exists_eq_left', forall_eq, ↓reduceIte, Nat.add_zero, Nat.zero_add, and_self]
        exact fun n1 hn1 => K _ c2.sZ (FrG.sZ hn1)
      · refine ⟨c.k8, s_noPlace_ok c hp.1 h1 h2 _ fun M1 c1 f1 t1 => ?_⟩
        have r := c1.mr hp.1
        simp (disch := omega) only [r.sh, e_noSet_no r t1 hc h, l_0, l_1, l_2, l_3, l_4, l_5, l_6, l_7, l_8, l_9, l_10, l_20, l_30, l_31, l_34, l_40, l_65, l_100, l_255, l_11, l_12, l_24, l_600, l_689, l_999, l_120, l_32, nI_add, pk_mul, n_sub, n_leT, n_leF, n_ltT, n_ltF, n_eqT, n_eqF, n_cl, n_vp, fa_andq, fa_orq, fa_xorq, n_shl, n_shr, n_t1, n_t0, n_div, n_m1, not_true_eq_false, Bool.false_eq_true, false_and, Bool.not_false, Bool.not_true, Bool.and_true, Bool.and_false, Bool.false_and, Bool.true_and, true_and, and_true, true_or, or_true, not_false_eq_true, Option.some.injEq, exists_eq_left', forall_eq, ↓reduceIte, Nat.add_zero, Nat.zero_add, and_self]
        exact K _ _ (c1.mf MF.th) (f1.trans MF.th).o (zI_sI1 _ _ _ _)
    · have pw := p2le (sg 3) (by omega)
      have n32 : n < 32 := by have := g.1; omega
      have wl := whyN_lt sg pl ha t n c
      by_cases w0 : whyN sg pl ha t n c = 0
      · obtain ⟨w1, w2, w3⟩ := why0 w0 hp.1
        have pc2 : PG sg (cm sg pl (psn pl ha t) t ha n c (free sg pl t)) := PGcm hs hp w1 (by omega) h1 (by omega) g.1 w2 w3
        refine CALL1.ok _ (costI sg (cm sg pl (psn pl ha t) t ha n c (free sg pl t)) 3) ok2 (fun M P X ci w K => ?_) (fun M P ci K => ?_)
        · have c2 := ci
          obtain ⟨c10, sa, sp, hps, hx, hS, hS2, hP, hD, hH, hN, hB, hNm, hKP⟩ := ci
          have at_ := hx.at
          simp (disch := omega) only [w_X7_costsWith, hx.s, e_rpw_ok hs hx hS h1 h2 hc g, not_true_eq_false, Bool.false_eq_true, false_and, Bool.not_false, Bool.not_true, Bool.and_true, Bool.and_false, Bool.false_and, Bool.true_and, true_and, and_true, true_or, or_true, not_false_eq_true, Option.some.injEq, exists_eq_left', forall_eq, ↓reduceIte, Nat.add_zero, Nat.zero_add, and_self]
          refine s_X7_reasonAgainst hs hp.1 hx hKP hS hP h1 (by omega) n32 hc _ fun M2 f2 => ?_
          have x2 := hx.fr f2.1
          have S2 := hS.fr f2.1 (by unfold RK; omega)
          have P2 := hP.fr f2.1 (by unfold RK; omega)
          have D2 := hD.fr f2.1
          simp (disch := omega) only [w0, x2.s, D2.u, l_0, l_1, l_2, l_3, l_4, l_5, l_6, l_7, l_8, l_9, l_10, l_20, l_30, l_31, l_34, l_40, l_65, l_100, l_255, l_11, l_12, l_24, l_600, l_689, l_999, l_120, l_32, nI_add, pk_mul, n_sub, n_leT, n_leF, n_ltT, n_ltF, n_eqT, n_eqF, n_cl, n_vp, fa_andq, fa_orq, fa_xorq, n_shl, n_shr, n_t1, n_t0, n_div, n_m1, not_true_eq_false, Bool.false_eq_true, false_and, Bool.not_false, Bool.not_true, Bool.and_true, Bool.and_false, Bool.false_and, Bool.true_and, true_and, and_true, true_or, or_true, not_false_eq_true, Option.some.injEq, exists_eq_left', forall_eq, ↓reduceIte, Nat.add_zero, Nat.zero_add, and_self]
          refine s_X4_copyFrom D2 P2.raw (by omega) hp.1.n (by omega) _ fun M3 f3 g3 => ?_
          have x3 := x2.fr f3
          have S3 := S2.fr f3 (by unfold RP; omega)
          simp (disch := omega) only [x3.s, not_true_eq_false, Bool.false_eq_true, false_and, Bool.not_false, Bool.not_true, Bool.and_true, Bool.and_false, Bool.false_and, Bool.true_and, true_and, and_true, true_or, or_true, not_false_eq_true, Option.some.injEq, exists_eq_left', forall_eq, ↓reduceIte, Nat.add_zero, Nat.zero_add, and_self]
          refine s_X7_addToDraft hs x3 ((f2.2 hKP).fr f3 (by unfold RP; omega)) S3 hp.1 g3.cpl w1 (by omega) (by omega) hc n32 _ fun M4 f4 g4 => ?_
          have x4 := x3.fr f4.1
          have S4 := S3.fr f4.1 (by unfold RDr; omega)
          have F : FK x (RDr x) M M4 := ((RK.g f2).trans ((FK.of f3 (by unfold RP; omega)).mono fun q hq => by unfold RP at hq; unfold RDr; omega)).trans f4
          simp (disch := omega) only [x4.s, l_0, l_1, l_2, l_3, l_4, l_5, l_6, l_7, l_8, l_9, l_10, l_20, l_30, l_31, l_34, l_40, l_65, l_100, l_255, l_11, l_12, l_24, l_600, l_689, l_999, l_120, l_32, e_X1_costsOf hs pc2.1 S4 g4, not_true_eq_false, Bool.false_eq_true, false_and, Bool.not_false, Bool.not_true, Bool.and_true, Bool.and_false, Bool.false_and, Bool.true_and, true_and, and_true, true_or, or_true, not_false_eq_true, Option.some.injEq, exists_eq_left', forall_eq, ↓reduceIte, Nat.add_zero, Nat.zero_add, and_self]
          exact K M4 (c2.dr F) (RDr.g F)
        · refine ⟨ci.k8, s_noPlace_ok ci hp.1 h1 h2 _ fun M1 c1 f1 t1 => ?_⟩
          have r := c1.mr hp.1
          simp (disch := omega) only [r.sh, e_noSet_ok r t1 hc g, l_0, l_1, l_2, l_3, l_4, l_5, l_6, l_7, l_8, l_9, l_10, l_20, l_30, l_31, l_34, l_40, l_65, l_100, l_255, l_11, l_12, l_24, l_600, l_689, l_999, l_120, l_32, nI_add, pk_mul, n_sub, n_leT, n_leF, n_ltT, n_ltF, n_eqT, n_eqF, n_cl, n_vp, fa_andq, fa_orq, fa_xorq, n_shl, n_shr, n_t1, n_t0, n_div, n_m1, not_true_eq_false, Bool.false_eq_true, false_and, Bool.not_false, Bool.not_true, Bool.and_true, Bool.and_false, Bool.false_and, Bool.true_and, true_and, and_true, true_or, or_true, not_false_eq_true, Option.some.injEq, exists_eq_left', forall_eq, ↓reduceIte, Nat.add_zero, Nat.zero_add, and_self]
          refine s_X8_why r h1 (by omega) n32 hc _ fun M2 f2 => ?_
          have c2 := c1.mf f2.mf
          have r2 := r.fc f2
          have o := r2.ms.o
          have t2 : zI M2 (x + 149) 0 = nI 0 := by rw [f2.2 0 (by omega)]; exact t1
          simp (disch := omega) only [w0, o, l_0, l_1, l_2, l_3, l_4, l_5, l_6, l_7, l_8, l_9, l_10, l_20, l_30, l_31, l_34, l_40, l_65, l_100, l_255, l_11, l_12, l_24, l_600, l_689, l_999, l_120, l_32, nI_add, pk_mul, n_sub, n_leT, n_leF, n_ltT, n_ltF, n_eqT, n_eqF, n_cl, n_vp, fa_andq, fa_orq, fa_xorq, n_shl, n_shr, n_t1, n_t0, n_div, n_m1, not_true_eq_false, Bool.false_eq_true, false_and, Bool.not_false, Bool.not_true, Bool.and_true, Bool.and_false, Bool.false_and, Bool.true_and, true_and, and_true, true_or, or_true, not_false_eq_true, Option.some.injEq, exists_eq_left', forall_eq, ↓reduceIte, Nat.add_zero, Nat.zero_add, and_self]
          refine s_X8_puts o.2.1.2.1 o.2.2.2.1 o.2.1.2.2.1 o.2.2.2.2.1 (by omega) _ fun M3 f3 g3 => ?_
          have r3 := r2.aside f3
          have fin : w_X8_comes M3 (x + 149) (nI ha) (nI t) (nI n) (nI c) (fun r7 M7 => zk M7 (x + 149) = 8 ∧ w_X8_costOf M7 (x + 149) (nI 3) (fun r8 M8 => (zk M8 (x + 149) = 8 ∧ ∃ a9, zR M8 (x + 149) 22 = some a9 ∧ (zk M8 (x + 149) = 8 ∧ ∃ a10, zR M8 (x + 149) 2 = some a10 ∧ zk M8 (x + 149) = 8 ∧ w_X8_puts M8 (x + 149) a9 a10 (fun M11 => P r8 M11))))) := by
            refine s_X8_comes r3 (by omega) (by omega) n32 w1 _ fun M4 f4 q4 g4 => ?_
            have r4 := MR.mk q4 g4 pc2.1
            have o4 := r4.ms.o
            simp (disch := omega) only [r4.sh, e_X8_costOf r4, o4, not_true_eq_false, Bool.false_eq_true, false_and, Bool.not_false, Bool.not_true, Bool.and_true, Bool.and_false, Bool.false_and, Bool.true_and, true_and, and_true, true_or, or_true, not_false_eq_true, Option.some.injEq, exists_eq_left', forall_eq, ↓reduceIte, Nat.add_zero, Nat.zero_add, and_self]
            refine s_X8_puts o4.2.1.2.2.1 o4.2.2.2.2.1 o4.2.1.2.1 o4.2.2.2.1 (by omega) _ fun M5 f5 g5 => ?_
            obtain ⟨b1, b2, b3⟩ := c2.back f3 g3 f4.1 (fun i h1 _ => f4.2 i h1) f5 g5
            exact K M5 b1 ((f1.trans f2.mf).o.trans (b2.mono fun b hb => by unfold RMo; omega)) (by rw [b3 0 (by omega) (by omega)]; exact t2)
          rcases (show c = 0 ∨ c = 1 by omega) with rfl | rfl
          · simp (disch := omega) only [r3.sh, l_0, l_1, l_2, l_3, l_4, l_5, l_6, l_7, l_8, l_9, l_10, l_20, l_30, l_31, l_34, l_40, l_65, l_100, l_255, l_11, l_12, l_24, l_600, l_689, l_999, l_120, l_32, nI_add, pk_mul, n_sub, n_leT, n_leF, n_ltT, n_ltF, n_eqT, n_eqF, n_cl, n_vp, fa_andq, fa_orq, fa_xorq, n_shl, n_shr, n_t1, n_t0, n_div, n_m1, not_true_eq_false, Bool.false_eq_true, false_and, Bool.not_false, Bool.not_true, Bool.and_true, Bool.and_false, Bool.false_and, Bool.true_and, true_and, and_true, true_or, or_true, not_false_eq_true, Option.some.injEq, exists_eq_left', forall_eq, ↓reduceIte, Nat.add_zero, Nat.zero_add, and_self]
            exact fin
          · simp (disch := omega) only [r3.sh, l_0, l_1, l_2, l_3, l_4, l_5, l_6, l_7, l_8, l_9, l_10, l_20, l_30, l_31, l_34, l_40, l_65, l_100, l_255, l_11, l_12, l_24, l_600, l_689, l_999, l_120, l_32, nI_add, pk_mul, n_sub, n_leT, n_leF, n_ltT, n_ltF, n_eqT, n_eqF, n_cl, n_vp, fa_andq, fa_orq, fa_xorq, n_shl, n_shr, n_t1, n_t0, n_div, n_m1, not_true_eq_false, Bool.false_eq_true, false_and, Bool.not_false, Bool.not_true, Bool.and_true, Bool.and_false, Bool.false_and, Bool.true_and, true_and, and_true, true_or, or_true, not_false_eq_true, Option.some.injEq, exists_eq_left', forall_eq, ↓reduceIte, Nat.add_zero, Nat.zero_add, and_self]
            exact fin
      · refine CALL1.ok _ (nI 4294967295) ok2 (fun M P X ci w K => ?_) (fun M P ci K => ?_)
        · have c2 := ci
          obtain ⟨c10, sa, sp, hps, hx, hS, hS2, hP, hD, hH, hN, hB, hNm, hKP⟩ := ci
          simp (disch := omega) only [w_X7_costsWith, hx.s, e_rpw_ok hs hx hS h1 h2 hc g, not_true_eq_false, Bool.false_eq_true, false_and, Bool.not_false, Bool.not_true, Bool.and_true, Bool.and_false, Bool.false_and, Bool.true_and, true_and, and_true, true_or, or_true, not_false_eq_true, Option.some.injEq, exists_eq_left', forall_eq, ↓reduceIte, Nat.add_zero, Nat.zero_add, and_self]
          refine s_X7_reasonAgainst hs hp.1 hx hKP hS hP h1 (by omega) n32 hc _ fun M2 f2 => ?_
          simp (disch := omega) only [l_0, l_1, l_2, l_3, l_4, l_5, l_6, l_7, l_8, l_9, l_10, l_20, l_30, l_31, l_34, l_40, l_65, l_100, l_255, l_11, l_12, l_24, l_600, l_689, l_999, l_120, l_32, nI_add, pk_mul, n_sub, n_leT, n_leF, n_ltT, n_ltF, n_eqT, n_eqF, n_cl, n_vp, fa_andq, fa_orq, fa_xorq, n_shl, n_shr, n_t1, n_t0, n_div, n_m1, not_true_eq_false, Bool.false_eq_true, false_and, Bool.not_false, Bool.not_true, Bool.and_true, Bool.and_false, Bool.false_and, Bool.true_and, true_and, and_true, true_or, or_true, not_false_eq_true, Option.some.injEq, exists_eq_left', forall_eq, ↓reduceIte, Nat.add_zero, Nat.zero_add, and_self]
          exact K M2 (c2.dr (RK.g f2)) (RDr.g (RK.g f2))
        · refine ⟨ci.k8, s_noPlace_ok ci hp.1 h1 h2 _ fun M1 c1 f1 t1 => ?_⟩
          have r := c1.mr hp.1
          simp (disch := omega) only [r.sh, e_noSet_ok r t1 hc g, l_0, l_1, l_2, l_3, l_4, l_5, l_6, l_7, l_8, l_9, l_10, l_20, l_30, l_31, l_34, l_40, l_65, l_100, l_255, l_11, l_12, l_24, l_600, l_689, l_999, l_120, l_32, nI_add, pk_mul, n_sub, n_leT, n_leF, n_ltT, n_ltF, n_eqT, n_eqF, n_cl, n_vp, fa_andq, fa_orq, fa_xorq, n_shl, n_shr, n_t1, n_t0, n_div, n_m1, not_true_eq_false, Bool.false_eq_true, false_and, Bool.not_false, Bool.not_true, Bool.and_true, Bool.and_false, Bool.false_and, Bool.true_and, true_and, and_true, true_or, or_true, not_false_eq_true, Option.some.injEq, exists_eq_left', forall_eq, ↓reduceIte, Nat.add_zero, Nat.zero_add, and_self]
          refine s_X8_why r h1 (by omega) n32 hc _ fun M2 f2 => ?_
          simp (disch := omega) only [l_0, l_1, l_2, l_3, l_4, l_5, l_6, l_7, l_8, l_9, l_10, l_20, l_30, l_31, l_34, l_40, l_65, l_100, l_255, l_11, l_12, l_24, l_600, l_689, l_999, l_120, l_32, nI_add, pk_mul, n_sub, n_leT, n_leF, n_ltT, n_ltF, n_eqT, n_eqF, n_cl, n_vp, fa_andq, fa_orq, fa_xorq, n_shl, n_shr, n_t1, n_t0, n_div, n_m1, not_true_eq_false, Bool.false_eq_true, false_and, Bool.not_false, Bool.not_true, Bool.and_true, Bool.and_false, Bool.false_and, Bool.true_and, true_and, and_true, true_or, or_true, not_false_eq_true, Option.some.injEq, exists_eq_left', forall_eq, ↓reduceIte, Nat.add_zero, Nat.zero_add, and_self]
          exact K M2 (c1.mf f2.mf) (f1.trans f2.mf).o (by rw [f2.2 0 (by omega)]; exact t1)
