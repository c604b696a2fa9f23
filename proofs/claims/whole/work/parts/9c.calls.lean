/-! MORE CALLS THAT ONLY READ: player, work, service, cast, balance, the busiest -/
theorem bey_neg {a b : Nat} (ha : a < 1000) (hb : b < 1000) : (if nI 0 < -(nI a - nI b) then -(nI a - nI b) else nI 0) = (if nI 0 ≤ nI a - nI b then nI 0 else -(nI a - nI b)) := by
  by_cases c : b ≤ a
  · rw [n_sub c, if_pos (nI_le (Nat.zero_le _) (by omega)), if_neg]
    rw [lt_iff32, sb_negT (by omega)]
    have z : (nI 0).toInt = 0 := rfl
    omega
  · have e : (nI a - nI b).toInt = (a : Int) - b := pk_sub_toInt (by omega) (by omega)
    have e2 : -(nI a - nI b) = nI (b - a) := by rw [Int32.neg_sub, n_sub (by omega)]
    rw [if_neg (show ¬ nI 0 ≤ nI a - nI b by rw [le_iff32, e]; have z : (nI 0).toInt = 0 := rfl; omega), e2, if_pos (show nI 0 < nI (b - a) from nI_lt (by omega) (by omega))]
/-- the answers of player -/
def plA (sg pl : Nat → Nat) (p k : Nat) : Int32 := if k = 0 then nI (pl (1 + p)) else if k = 1 then nI (oP sg p 0) else if k = 2 then nI (oP sg p 3) else if k = 3 then nI (kinds sg p) else if k = 4 then nI (svc sg pl p) else if k = 5 then nI (dOf sg pl p) else if k = 6 then (if nI 0 ≤ bey sg pl p then nI 0 else -bey sg pl p) else otI sg pl p
theorem call_player {x : Nat} {s : ST} (ok : OKs s) (a a2 : Int32) : CALL1 x s clB (fun M P X => w_X7_player M x a a2 P X) (fun M P => w_X8_player M (x + 149) a a2 P) := by
  obtain ⟨sg, pl, hn, hl, sv, sl, bl, bf, ep, nm⟩ := s
  have ok2 := ok
  obtain ⟨hs, hp, h10, hhl, hsl, hbl, hby, hep, nm1, nm2, nm3, nm4⟩ := ok
  have b := hs.b
  have n := hp.1.n
  rcases ix a (n := sg 2) (by omega) with h | ⟨p, hp2, rfl⟩
  · refine CALL1.no 1 (by decide) ok2 (fun M P X c w K => ?_) (fun M P c K => ?_)
    · have c2 := c
      obtain ⟨c10, sa, sp, hps, hx, hS, hS2, hP, hD, hH, hN, hB, hNm, hKP⟩ := c
      simp (disch := omega) only [w_X7_player, w_X7_requirePlayer, hx.s, hS.s1, hS.n, e_req_no h, l_0, l_1, l_2, l_3, l_4, l_5, l_6, l_7, l_8, l_9, l_10, l_20, l_30, l_31, l_34, l_40, l_65, l_100, l_255, l_11, l_12, l_24, l_600, l_689, l_999, l_120, l_32, nI_add, pk_mul, n_sub, n_leT, n_leF, n_ltT, n_ltF, n_eqT, n_eqF, n_cl, n_vp, fa_andq, fa_orq, fa_xorq, n_shl, n_shr, n_t1, n_t0, n_div, n_m1, not_true_eq_false, Bool.false_eq_true, false_and, Bool.not_false, Bool.not_true, Bool.and_true, Bool.and_false, Bool.false_and, Bool.true_and, true_and, and_true, true_or, or_true, not_false_eq_true, Option.some.injEq, exists_eq_left', forall_eq, ↓reduceIte, Nat.add_zero, Nat.zero_add, and_self]
      exact fun n1 hn1 => K _ c2.sZ (FrG.sZ hn1)
    · refine thr0 c fun M1 c1 f1 t1 => ?_
      have r := c1.mr hp.1
      simp (disch := omega) only [r.sh, r.v1, e_no_no r.sh.1.1 t1 h, l_0, l_1, l_2, l_3, l_4, l_5, l_6, l_7, l_8, l_9, l_10, l_20, l_30, l_31, l_34, l_40, l_65, l_100, l_255, l_11, l_12, l_24, l_600, l_689, l_999, l_120, l_32, nI_add, pk_mul, n_sub, n_leT, n_leF, n_ltT, n_ltF, n_eqT, n_eqF, n_cl, n_vp, fa_andq, fa_orq, fa_xorq, n_shl, n_shr, n_t1, n_t0, n_div, n_m1, not_true_eq_false, Bool.false_eq_true, false_and, Bool.not_false, Bool.not_true, Bool.and_true, Bool.and_false, Bool.false_and, Bool.true_and, true_and, and_true, true_or, or_true, not_false_eq_true, Option.some.injEq, exists_eq_left', forall_eq, ↓reduceIte, Nat.add_zero, Nat.zero_add, and_self]
      exact K _ _ (c1.mf MF.th) (f1.trans MF.th).o (zI_sI1 _ _ _ _)
  · have hk := hp.1.2.1 p hp2
    have sv20 := svc_le sg pl p
    rcases ix a2 (n := 8) (by omega) with h | ⟨k, hk8, rfl⟩
    · refine CALL1.no 2 (by decide) ok2 (fun M P X c w K => ?_) (fun M P c K => ?_)
      · have c2 := c
        obtain ⟨c10, sa, sp, hps, hx, hS, hS2, hP, hD, hH, hN, hB, hNm, hKP⟩ := c
        simp (disch := omega) only [w_X7_player, w_X7_requirePlayer, hx.s, hS.s1, hS.n, e_req_ok hp2, bad_ne h, l_0, l_1, l_2, l_3, l_4, l_5, l_6, l_7, l_8, l_9, l_10, l_20, l_30, l_31, l_34, l_40, l_65, l_100, l_255, l_11, l_12, l_24, l_600, l_689, l_999, l_120, l_32, nI_add, pk_mul, n_sub, n_leT, n_leF, n_ltT, n_ltF, n_eqT, n_eqF, n_cl, n_vp, fa_andq, fa_orq, fa_xorq, n_shl, n_shr, n_t1, n_t0, n_div, n_m1, not_true_eq_false, Bool.false_eq_true, false_and, Bool.not_false, Bool.not_true, Bool.and_true, Bool.and_false, Bool.false_and, Bool.true_and, true_and, and_true, true_or, or_true, not_false_eq_true, Option.some.injEq, exists_eq_left', forall_eq, ↓reduceIte, Nat.add_zero, Nat.zero_add, and_self]
        exact fun n1 hn1 => K _ c2.sZ (FrG.sZ hn1)
      · refine thr0 c fun M1 c1 f1 t1 => ?_
        have r := c1.mr hp.1
        simp (disch := omega) only [r.sh, r.v1, e_no_ok r.sh.1.1 t1 hp2, e_noWhat_no r.sh.1.1 t1 h, l_0, l_1, l_2, l_3, l_4, l_5, l_6, l_7, l_8, l_9, l_10, l_20, l_30, l_31, l_34, l_40, l_65, l_100, l_255, l_11, l_12, l_24, l_600, l_689, l_999, l_120, l_32, nI_add, pk_mul, n_sub, n_leT, n_leF, n_ltT, n_ltF, n_eqT, n_eqF, n_cl, n_vp, fa_andq, fa_orq, fa_xorq, n_shl, n_shr, n_t1, n_t0, n_div, n_m1, not_true_eq_false, Bool.false_eq_true, false_and, Bool.not_false, Bool.not_true, Bool.and_true, Bool.and_false, Bool.false_and, Bool.true_and, true_and, and_true, true_or, or_true, not_false_eq_true, Option.some.injEq, exists_eq_left', forall_eq, ↓reduceIte, Nat.add_zero, Nat.zero_add, and_self]
        exact K _ _ (c1.mf MF.th) (f1.trans MF.th).o (zI_sI1 _ _ _ _)
    · refine CALL1.ok _ (plA sg pl p k) ok2 (fun M P X c w K => ?_) (fun M P c K => ?_)
      · have K0 := K _ c FrG.rf
        obtain ⟨c10, sa, sp, hps, hx, hS, hS2, hP, hD, hH, hN, hB, hNm, hKP⟩ := c
        have kp := hP.k hp2
        have kq := hS.p hp2
        rcases (show k = 0 ∨ k = 1 ∨ k = 2 ∨ k = 3 ∨ k = 4 ∨ k = 5 ∨ k = 6 ∨ k = 7 by omega) with rfl | rfl | rfl | rfl | rfl | rfl | rfl | rfl
        · simp (disch := omega) only [w_X7_player, w_X7_requirePlayer, hx.s, hS.s1, hS.n, e_req_ok hp2, hP.sh, kp, plA, if_pos, l_0, l_1, l_2, l_3, l_4, l_5, l_6, l_7, l_8, l_9, l_10, l_20, l_30, l_31, l_34, l_40, l_65, l_100, l_255, l_11, l_12, l_24, l_600, l_689, l_999, l_120, l_32, nI_add, pk_mul, n_sub, n_leT, n_leF, n_ltT, n_ltF, n_eqT, n_eqF, n_cl, n_vp, fa_andq, fa_orq, fa_xorq, n_shl, n_shr, n_t1, n_t0, n_div, n_m1, not_true_eq_false, Bool.false_eq_true, false_and, Bool.not_false, Bool.not_true, Bool.and_true, Bool.and_false, Bool.false_and, Bool.true_and, true_and, and_true, true_or, or_true, not_false_eq_true, Option.some.injEq, exists_eq_left', forall_eq, ↓reduceIte, Nat.add_zero, Nat.zero_add, and_self] at K0 ⊢
          exact K0
        · simp (disch := omega) only [w_X7_player, w_X7_requirePlayer, hx.s, hS.s1, hS.n, e_req_ok hp2, kq, plA, if_pos, if_neg, l_0, l_1, l_2, l_3, l_4, l_5, l_6, l_7, l_8, l_9, l_10, l_20, l_30, l_31, l_34, l_40, l_65, l_100, l_255, l_11, l_12, l_24, l_600, l_689, l_999, l_120, l_32, nI_add, pk_mul, n_sub, n_leT, n_leF, n_ltT, n_ltF, n_eqT, n_eqF, n_cl, n_vp, fa_andq, fa_orq, fa_xorq, n_shl, n_shr, n_t1, n_t0, n_div, n_m1, not_true_eq_false, Bool.false_eq_true, false_and, Bool.not_false, Bool.not_true, Bool.and_true, Bool.and_false, Bool.false_and, Bool.true_and, true_and, and_true, true_or, or_true, not_false_eq_true, Option.some.injEq, exists_eq_left', forall_eq, ↓reduceIte, Nat.add_zero, Nat.zero_add, and_self] at K0 ⊢
          exact K0
        · simp (disch := omega) only [w_X7_player, w_X7_requirePlayer, hx.s, hS.s1, hS.n, e_req_ok hp2, kq, plA, if_pos, if_neg, l_0, l_1, l_2, l_3, l_4, l_5, l_6, l_7, l_8, l_9, l_10, l_20, l_30, l_31, l_34, l_40, l_65, l_100, l_255, l_11, l_12, l_24, l_600, l_689, l_999, l_120, l_32, nI_add, pk_mul, n_sub, n_leT, n_leF, n_ltT, n_ltF, n_eqT, n_eqF, n_cl, n_vp, fa_andq, fa_orq, fa_xorq, n_shl, n_shr, n_t1, n_t0, n_div, n_m1, not_true_eq_false, Bool.false_eq_true, false_and, Bool.not_false, Bool.not_true, Bool.and_true, Bool.and_false, Bool.false_and, Bool.true_and, true_and, and_true, true_or, or_true, not_false_eq_true, Option.some.injEq, exists_eq_left', forall_eq, ↓reduceIte, Nat.add_zero, Nat.zero_add, and_self] at K0 ⊢
          exact K0
        · simp (disch := omega) only [w_X7_player, w_X7_requirePlayer, hx.s, hS.s1, hS.n, e_req_ok hp2, kq, plA, if_pos, if_neg, l_0, l_1, l_2, l_3, l_4, l_5, l_6, l_7, l_8, l_9, l_10, l_20, l_30, l_31, l_34, l_40, l_65, l_100, l_255, l_11, l_12, l_24, l_600, l_689, l_999, l_120, l_32, nI_add, pk_mul, n_sub, n_leT, n_leF, n_ltT, n_ltF, n_eqT, n_eqF, n_cl, n_vp, fa_andq, fa_orq, fa_xorq, n_shl, n_shr, n_t1, n_t0, n_div, n_m1, not_true_eq_false, Bool.false_eq_true, false_and, Bool.not_false, Bool.not_true, Bool.and_true, Bool.and_false, Bool.false_and, Bool.true_and, true_and, and_true, true_or, or_true, not_false_eq_true, Option.some.injEq, exists_eq_left', forall_eq, ↓reduceIte, Nat.add_zero, Nat.zero_add, and_self] at K0 ⊢
          exact K0
        · simp (disch := omega) only [w_X7_player, w_X7_requirePlayer, hx.s, hS.s1, hS.n, e_req_ok hp2, hP.sh, e_X4_servicesOf hs hp.1 hP, plA, if_pos, if_neg, l_0, l_1, l_2, l_3, l_4, l_5, l_6, l_7, l_8, l_9, l_10, l_20, l_30, l_31, l_34, l_40, l_65, l_100, l_255, l_11, l_12, l_24, l_600, l_689, l_999, l_120, l_32, nI_add, pk_mul, n_sub, n_leT, n_leF, n_ltT, n_ltF, n_eqT, n_eqF, n_cl, n_vp, fa_andq, fa_orq, fa_xorq, n_shl, n_shr, n_t1, n_t0, n_div, n_m1, not_true_eq_false, Bool.false_eq_true, false_and, Bool.not_false, Bool.not_true, Bool.and_true, Bool.and_false, Bool.false_and, Bool.true_and, true_and, and_true, true_or, or_true, not_false_eq_true, Option.some.injEq, exists_eq_left', forall_eq, ↓reduceIte, Nat.add_zero, Nat.zero_add, and_self] at K0 ⊢
          exact K0
        · simp (disch := omega) only [w_X7_player, w_X7_requirePlayer, hx.s, hS.s1, hS.n, e_req_ok hp2, e_X1_doublingsOf hs hp.1 hS hP, plA, if_pos, if_neg, l_0, l_1, l_2, l_3, l_4, l_5, l_6, l_7, l_8, l_9, l_10, l_20, l_30, l_31, l_34, l_40, l_65, l_100, l_255, l_11, l_12, l_24, l_600, l_689, l_999, l_120, l_32, nI_add, pk_mul, n_sub, n_leT, n_leF, n_ltT, n_ltF, n_eqT, n_eqF, n_cl, n_vp, fa_andq, fa_orq, fa_xorq, n_shl, n_shr, n_t1, n_t0, n_div, n_m1, not_true_eq_false, Bool.false_eq_true, false_and, Bool.not_false, Bool.not_true, Bool.and_true, Bool.and_false, Bool.false_and, Bool.true_and, true_and, and_true, true_or, or_true, not_false_eq_true, Option.some.injEq, exists_eq_left', forall_eq, ↓reduceIte, Nat.add_zero, Nat.zero_add, and_self] at K0 ⊢
          exact K0
        · have e6 := bey_neg (a := svc sg pl p) (b := pl (1 + p)) (by omega) (by omega)
          have e7 : plA sg pl p 6 = (if nI 0 < -(nI (svc sg pl p) - nI (pl (1 + p))) then -(nI (svc sg pl p) - nI (pl (1 + p))) else nI 0) := e6.symm
          rw [e7] at K0
          simp (disch := omega) only [w_X7_player, w_X7_requirePlayer, hx.s, hS.s1, hS.n, e_req_ok hp2, hP.sh, e_X4_beyondContract hs hp.1 hP hp2, l_0, l_1, l_2, l_3, l_4, l_5, l_6, l_7, l_8, l_9, l_10, l_20, l_30, l_31, l_34, l_40, l_65, l_100, l_255, l_11, l_12, l_24, l_600, l_689, l_999, l_120, l_32, n_eqT, n_eqF, not_true_eq_false, Bool.false_eq_true, false_and, Bool.not_false, Bool.not_true, Bool.and_true, Bool.and_false, Bool.false_and, Bool.true_and, true_and, and_true, true_or, or_true, not_false_eq_true, Option.some.injEq, exists_eq_left', forall_eq, ↓reduceIte, Nat.add_zero, Nat.zero_add, and_self]
          exact K0
        · simp (disch := omega) only [w_X7_player, w_X7_requirePlayer, hx.s, hS.s1, hS.n, e_req_ok hp2, e_X1_overtimeOf hs hp.1 hS hP hp2, plA, if_pos, if_neg, l_0, l_1, l_2, l_3, l_4, l_5, l_6, l_7, l_8, l_9, l_10, l_20, l_30, l_31, l_34, l_40, l_65, l_100, l_255, l_11, l_12, l_24, l_600, l_689, l_999, l_120, l_32, n_eqT, n_eqF, not_true_eq_false, Bool.false_eq_true, false_and, Bool.not_false, Bool.not_true, Bool.and_true, Bool.and_false, Bool.false_and, Bool.true_and, true_and, and_true, true_or, or_true, not_false_eq_true, Option.some.injEq, exists_eq_left', forall_eq, ↓reduceIte, Nat.add_zero, Nat.zero_add, and_self] at K0 ⊢
          exact K0
      · refine thr0 c fun M1 c1 f1 t1 => ?_
        have r := c1.mr hp.1
        have K0 := K _ c1 f1.o t1
        rcases (show k = 0 ∨ k = 1 ∨ k = 2 ∨ k = 3 ∨ k = 4 ∨ k = 5 ∨ k = 6 ∨ k = 7 by omega) with rfl | rfl | rfl | rfl | rfl | rfl | rfl | rfl
        · simp (disch := omega) only [r.sh, r.v1, r.v2, e_no_ok r.sh.1.1 t1 hp2, e_noWhat_ok r.sh.1.1 t1, plA, if_pos, if_neg, l_0, l_1, l_2, l_3, l_4, l_5, l_6, l_7, l_8, l_9, l_10, l_20, l_30, l_31, l_34, l_40, l_65, l_100, l_255, l_11, l_12, l_24, l_600, l_689, l_999, l_120, l_32, nI_add, pk_mul, n_sub, n_leT, n_leF, n_ltT, n_ltF, n_eqT, n_eqF, n_cl, n_vp, fa_andq, fa_orq, fa_xorq, n_shl, n_shr, n_t1, n_t0, n_div, n_m1, not_true_eq_false, Bool.false_eq_true, false_and, Bool.not_false, Bool.not_true, Bool.and_true, Bool.and_false, Bool.false_and, Bool.true_and, true_and, and_true, true_or, or_true, not_false_eq_true, Option.some.injEq, exists_eq_left', forall_eq, ↓reduceIte, Nat.add_zero, Nat.zero_add, and_self] at K0 ⊢
          exact K0
        · simp (disch := omega) only [r.sh, r.v1, e_no_ok r.sh.1.1 t1 hp2, e_noWhat_ok r.sh.1.1 t1, e_X8_ofPlayer r, plA, if_pos, if_neg, l_0, l_1, l_2, l_3, l_4, l_5, l_6, l_7, l_8, l_9, l_10, l_20, l_30, l_31, l_34, l_40, l_65, l_100, l_255, l_11, l_12, l_24, l_600, l_689, l_999, l_120, l_32, nI_add, pk_mul, n_sub, n_leT, n_leF, n_ltT, n_ltF, n_eqT, n_eqF, n_cl, n_vp, fa_andq, fa_orq, fa_xorq, n_shl, n_shr, n_t1, n_t0, n_div, n_m1, not_true_eq_false, Bool.false_eq_true, false_and, Bool.not_false, Bool.not_true, Bool.and_true, Bool.and_false, Bool.false_and, Bool.true_and, true_and, and_true, true_or, or_true, not_false_eq_true, Option.some.injEq, exists_eq_left', forall_eq, ↓reduceIte, Nat.add_zero, Nat.zero_add, and_self] at K0 ⊢
          exact K0
        · simp (disch := omega) only [r.sh, r.v1, e_no_ok r.sh.1.1 t1 hp2, e_noWhat_ok r.sh.1.1 t1, e_X8_ofPlayer r, plA, if_pos, if_neg, l_0, l_1, l_2, l_3, l_4, l_5, l_6, l_7, l_8, l_9, l_10, l_20, l_30, l_31, l_34, l_40, l_65, l_100, l_255, l_11, l_12, l_24, l_600, l_689, l_999, l_120, l_32, nI_add, pk_mul, n_sub, n_leT, n_leF, n_ltT, n_ltF, n_eqT, n_eqF, n_cl, n_vp, fa_andq, fa_orq, fa_xorq, n_shl, n_shr, n_t1, n_t0, n_div, n_m1, not_true_eq_false, Bool.false_eq_true, false_and, Bool.not_false, Bool.not_true, Bool.and_true, Bool.and_false, Bool.false_and, Bool.true_and, true_and, and_true, true_or, or_true, not_false_eq_true, Option.some.injEq, exists_eq_left', forall_eq, ↓reduceIte, Nat.add_zero, Nat.zero_add, and_self] at K0 ⊢
          exact K0
        · simp (disch := omega) only [r.sh, r.v1, e_no_ok r.sh.1.1 t1 hp2, e_noWhat_ok r.sh.1.1 t1, e_X8_kindsOf r hp2, plA, if_pos, if_neg, l_0, l_1, l_2, l_3, l_4, l_5, l_6, l_7, l_8, l_9, l_10, l_20, l_30, l_31, l_34, l_40, l_65, l_100, l_255, l_11, l_12, l_24, l_600, l_689, l_999, l_120, l_32, nI_add, pk_mul, n_sub, n_leT, n_leF, n_ltT, n_ltF, n_eqT, n_eqF, n_cl, n_vp, fa_andq, fa_orq, fa_xorq, n_shl, n_shr, n_t1, n_t0, n_div, n_m1, not_true_eq_false, Bool.false_eq_true, false_and, Bool.not_false, Bool.not_true, Bool.and_true, Bool.and_false, Bool.false_and, Bool.true_and, true_and, and_true, true_or, or_true, not_false_eq_true, Option.some.injEq, exists_eq_left', forall_eq, ↓reduceIte, Nat.add_zero, Nat.zero_add, and_self] at K0 ⊢
          exact K0
        · simp (disch := omega) only [r.sh, r.v1, e_no_ok r.sh.1.1 t1 hp2, e_noWhat_ok r.sh.1.1 t1, e_X8_servicesOf r, plA, if_pos, if_neg, l_0, l_1, l_2, l_3, l_4, l_5, l_6, l_7, l_8, l_9, l_10, l_20, l_30, l_31, l_34, l_40, l_65, l_100, l_255, l_11, l_12, l_24, l_600, l_689, l_999, l_120, l_32, nI_add, pk_mul, n_sub, n_leT, n_leF, n_ltT, n_ltF, n_eqT, n_eqF, n_cl, n_vp, fa_andq, fa_orq, fa_xorq, n_shl, n_shr, n_t1, n_t0, n_div, n_m1, not_true_eq_false, Bool.false_eq_true, false_and, Bool.not_false, Bool.not_true, Bool.and_true, Bool.and_false, Bool.false_and, Bool.true_and, true_and, and_true, true_or, or_true, not_false_eq_true, Option.some.injEq, exists_eq_left', forall_eq, ↓reduceIte, Nat.add_zero, Nat.zero_add, and_self] at K0 ⊢
          exact K0
        · simp (disch := omega) only [r.sh, r.v1, e_no_ok r.sh.1.1 t1 hp2, e_noWhat_ok r.sh.1.1 t1, e_X8_doublingsOf r, plA, if_pos, if_neg, l_0, l_1, l_2, l_3, l_4, l_5, l_6, l_7, l_8, l_9, l_10, l_20, l_30, l_31, l_34, l_40, l_65, l_100, l_255, l_11, l_12, l_24, l_600, l_689, l_999, l_120, l_32, nI_add, pk_mul, n_sub, n_leT, n_leF, n_ltT, n_ltF, n_eqT, n_eqF, n_cl, n_vp, fa_andq, fa_orq, fa_xorq, n_shl, n_shr, n_t1, n_t0, n_div, n_m1, not_true_eq_false, Bool.false_eq_true, false_and, Bool.not_false, Bool.not_true, Bool.and_true, Bool.and_false, Bool.false_and, Bool.true_and, true_and, and_true, true_or, or_true, not_false_eq_true, Option.some.injEq, exists_eq_left', forall_eq, ↓reduceIte, Nat.add_zero, Nat.zero_add, and_self] at K0 ⊢
          exact K0
        · simp (disch := omega) only [r.sh, r.v1, e_no_ok r.sh.1.1 t1 hp2, e_noWhat_ok r.sh.1.1 t1, e_X8_beyond r hp2, plA, if_pos, if_neg, l_0, l_1, l_2, l_3, l_4, l_5, l_6, l_7, l_8, l_9, l_10, l_20, l_30, l_31, l_34, l_40, l_65, l_100, l_255, l_11, l_12, l_24, l_600, l_689, l_999, l_120, l_32, n_eqT, n_eqF, n_cl, n_vp, not_true_eq_false, Bool.false_eq_true, false_and, Bool.not_false, Bool.not_true, Bool.and_true, Bool.and_false, Bool.false_and, Bool.true_and, true_and, and_true, true_or, or_true, not_false_eq_true, Option.some.injEq, exists_eq_left', forall_eq, ↓reduceIte, Nat.add_zero, Nat.zero_add, and_self] at K0 ⊢
          by_cases q : nI 0 ≤ bey sg pl p
          · rw [if_pos q] at K0 ⊢; exact K0
          · rw [if_neg q] at K0 ⊢; exact K0
        · simp (disch := omega) only [r.sh, r.v1, e_no_ok r.sh.1.1 t1 hp2, e_noWhat_ok r.sh.1.1 t1, e_X8_overtimeOf r hp2, plA, if_pos, if_neg, l_0, l_1, l_2, l_3, l_4, l_5, l_6, l_7, l_8, l_9, l_10, l_20, l_30, l_31, l_34, l_40, l_65, l_100, l_255, l_11, l_12, l_24, l_600, l_689, l_999, l_120, l_32, n_eqT, n_eqF, n_cl, n_vp, not_true_eq_false, Bool.false_eq_true, false_and, Bool.not_false, Bool.not_true, Bool.and_true, Bool.and_false, Bool.false_and, Bool.true_and, true_and, and_true, true_or, or_true, not_false_eq_true, Option.some.injEq, exists_eq_left', forall_eq, ↓reduceIte, Nat.add_zero, Nat.zero_add, and_self] at K0 ⊢
          exact K0
/-- the answers of work -/
def wkA (sg pl : Nat → Nat) (w k : Nat) : Int32 := if k < 5 then nI (oW sg w k) else if k = 5 then nI (swt pl w 0 (sg 0 * 3)) else if k = 6 then nI (swt pl w 1 (sg 0 * 3)) else rentI sg pl w
theorem call_work {x : Nat} {s : ST} (ok : OKs s) (a a2 : Int32) : CALL1 x s clB (fun M P X => w_X7_work M x a a2 P X) (fun M P => w_X8_work M (x + 149) a a2 P) := by
  obtain ⟨sg, pl, hn, hl, sv, sl, bl, bf, ep, nm⟩ := s
  have ok2 := ok
  obtain ⟨hs, hp, h10, hhl, hsl, hbl, hby, hep, nm1, nm2, nm3, nm4⟩ := ok
  have b := hs.b
  have n := hp.1.n
  rcases ix a (n := sg 3) (by omega) with h | ⟨p, hp2, rfl⟩
  · refine CALL1.no 1 (by decide) ok2 (fun M P X c w K => ?_) (fun M P c K => ?_)
    · have c2 := c
      obtain ⟨c10, sa, sp, hps, hx, hS, hS2, hP, hD, hH, hN, hB, hNm, hKP⟩ := c
      simp (disch := omega) only [w_X7_work, w_X7_requireWork, hx.s, hS.s1, hS.n, e_req_no h, l_0, l_1, l_2, l_3, l_4, l_5, l_6, l_7, l_8, l_9, l_10, l_20, l_30, l_31, l_34, l_40, l_65, l_100, l_255, l_11, l_12, l_24, l_600, l_689, l_999, l_120, l_32, nI_add, pk_mul, n_sub, n_leT, n_leF, n_ltT, n_ltF, n_eqT, n_eqF, n_cl, n_vp, fa_andq, fa_orq, fa_xorq, n_shl, n_shr, n_t1, n_t0, n_div, n_m1, not_true_eq_false, Bool.false_eq_true, false_and, Bool.not_false, Bool.not_true, Bool.and_true, Bool.and_false, Bool.false_and, Bool.true_and, true_and, and_true, true_or, or_true, not_false_eq_true, Option.some.injEq, exists_eq_left', forall_eq, ↓reduceIte, Nat.add_zero, Nat.zero_add, and_self]
      exact fun n1 hn1 => K _ c2.sZ (FrG.sZ hn1)
    · refine thr0 c fun M1 c1 f1 t1 => ?_
      have r := c1.mr hp.1
      simp (disch := omega) only [r.sh, r.v1, e_no_no r.sh.1.1 t1 h, l_0, l_1, l_2, l_3, l_4, l_5, l_6, l_7, l_8, l_9, l_10, l_20, l_30, l_31, l_34, l_40, l_65, l_100, l_255, l_11, l_12, l_24, l_600, l_689, l_999, l_120, l_32, nI_add, pk_mul, n_sub, n_leT, n_leF, n_ltT, n_ltF, n_eqT, n_eqF, n_cl, n_vp, fa_andq, fa_orq, fa_xorq, n_shl, n_shr, n_t1, n_t0, n_div, n_m1, not_true_eq_false, Bool.false_eq_true, false_and, Bool.not_false, Bool.not_true, Bool.and_true, Bool.and_false, Bool.false_and, Bool.true_and, true_and, and_true, true_or, or_true, not_false_eq_true, Option.some.injEq, exists_eq_left', forall_eq, ↓reduceIte, Nat.add_zero, Nat.zero_add, and_self]
      exact K _ _ (c1.mf MF.th) (f1.trans MF.th).o (zI_sI1 _ _ _ _)
  · rcases ix a2 (n := 8) (by omega) with h | ⟨k, hk8, rfl⟩
    · refine CALL1.no 2 (by decide) ok2 (fun M P X c w K => ?_) (fun M P c K => ?_)
      · have c2 := c
        obtain ⟨c10, sa, sp, hps, hx, hS, hS2, hP, hD, hH, hN, hB, hNm, hKP⟩ := c
        simp (disch := omega) only [w_X7_work, w_X7_requireWork, hx.s, hS.s1, hS.n, e_req_ok hp2, bad_ne h, l_0, l_1, l_2, l_3, l_4, l_5, l_6, l_7, l_8, l_9, l_10, l_20, l_30, l_31, l_34, l_40, l_65, l_100, l_255, l_11, l_12, l_24, l_600, l_689, l_999, l_120, l_32, nI_add, pk_mul, n_sub, n_leT, n_leF, n_ltT, n_ltF, n_eqT, n_eqF, n_cl, n_vp, fa_andq, fa_orq, fa_xorq, n_shl, n_shr, n_t1, n_t0, n_div, n_m1, not_true_eq_false, Bool.false_eq_true, false_and, Bool.not_false, Bool.not_true, Bool.and_true, Bool.and_false, Bool.false_and, Bool.true_and, true_and, and_true, true_or, or_true, not_false_eq_true, Option.some.injEq, exists_eq_left', forall_eq, ↓reduceIte, Nat.add_zero, Nat.zero_add, and_self]
        exact fun n1 hn1 => K _ c2.sZ (FrG.sZ hn1)
      · refine thr0 c fun M1 c1 f1 t1 => ?_
        have r := c1.mr hp.1
        simp (disch := omega) only [r.sh, r.v1, e_no_ok r.sh.1.1 t1 hp2, e_noWhat_no r.sh.1.1 t1 h, l_0, l_1, l_2, l_3, l_4, l_5, l_6, l_7, l_8, l_9, l_10, l_20, l_30, l_31, l_34, l_40, l_65, l_100, l_255, l_11, l_12, l_24, l_600, l_689, l_999, l_120, l_32, nI_add, pk_mul, n_sub, n_leT, n_leF, n_ltT, n_ltF, n_eqT, n_eqF, n_cl, n_vp, fa_andq, fa_orq, fa_xorq, n_shl, n_shr, n_t1, n_t0, n_div, n_m1, not_true_eq_false, Bool.false_eq_true, false_and, Bool.not_false, Bool.not_true, Bool.and_true, Bool.and_false, Bool.false_and, Bool.true_and, true_and, and_true, true_or, or_true, not_false_eq_true, Option.some.injEq, exists_eq_left', forall_eq, ↓reduceIte, Nat.add_zero, Nat.zero_add, and_self]
        exact K _ _ (c1.mf MF.th) (f1.trans MF.th).o (zI_sI1 _ _ _ _)
    · refine CALL1.ok _ (wkA sg pl p k) ok2 (fun M P X c w K => ?_) (fun M P c K => ?_)
      · have K0 := K _ c FrG.rf
        obtain ⟨c10, sa, sp, hps, hx, hS, hS2, hP, hD, hH, hN, hB, hNm, hKP⟩ := c
        have kq := hS.w hp2
        rcases (show k = 0 ∨ k = 1 ∨ k = 2 ∨ k = 3 ∨ k = 4 ∨ k = 5 ∨ k = 6 ∨ k = 7 by omega) with rfl | rfl | rfl | rfl | rfl | rfl | rfl | rfl <;>
          simp (disch := omega) only [w_X7_work, w_X7_requireWork, hx.s, hS.s1, hS.n, e_req_ok hp2, kq, hP.sh, e_X6_slotCount hS, e_X4_servicesWith hs hp.1 hP, e_X1_rentOf hs hp.1 hS hP hp2, wkA, if_pos, if_neg, l_0, l_1, l_2, l_3, l_4, l_5, l_6, l_7, l_8, l_9, l_10, l_20, l_30, l_31, l_34, l_40, l_65, l_100, l_255, l_11, l_12, l_24, l_600, l_689, l_999, l_120, l_32, n_eqT, n_eqF, n_cl, n_vp, not_true_eq_false, Bool.false_eq_true, false_and, Bool.not_false, Bool.not_true, Bool.and_true, Bool.and_false, Bool.false_and, Bool.true_and, true_and, and_true, true_or, or_true, not_false_eq_true, Option.some.injEq, exists_eq_left', forall_eq, ↓reduceIte, Nat.add_zero, Nat.zero_add, and_self] at K0 ⊢ <;> exact K0
      · refine thr0 c fun M1 c1 f1 t1 => ?_
        have r := c1.mr hp.1
        have K0 := K _ c1 f1.o t1
        rcases (show k = 0 ∨ k = 1 ∨ k = 2 ∨ k = 3 ∨ k = 4 ∨ k = 5 ∨ k = 6 ∨ k = 7 by omega) with rfl | rfl | rfl | rfl | rfl | rfl | rfl | rfl <;>
          simp (disch := omega) only [r.sh, r.v1, e_no_ok r.sh.1.1 t1 hp2, e_noWhat_ok r.sh.1.1 t1, e_X8_ofWork r, e_X8_rentOf r hp2, e_X8_servicesWith r, wkA, if_pos, if_neg, l_0, l_1, l_2, l_3, l_4, l_5, l_6, l_7, l_8, l_9, l_10, l_20, l_30, l_31, l_34, l_40, l_65, l_100, l_255, l_11, l_12, l_24, l_600, l_689, l_999, l_120, l_32, n_eqT, n_eqF, n_cl, n_vp, n_leT, n_leF, n_sub, Nat.sub_self, not_true_eq_false, Bool.false_eq_true, false_and, Bool.not_false, Bool.not_true, Bool.and_true, Bool.and_false, Bool.false_and, Bool.true_and, true_and, and_true, true_or, or_true, not_false_eq_true, Option.some.injEq, exists_eq_left', forall_eq, ↓reduceIte, Nat.add_zero, Nat.zero_add, and_self] at K0 ⊢ <;> exact K0
/-- the answers of service -/
def seA (sg pl : Nat → Nat) (s k : Nat) : Int32 := if k < 4 then nI (oS pl s k) else if k = 4 then nI (inS sg pl s) else nI (dIn sg pl s 255)
theorem call_service {x : Nat} {s : ST} (ok : OKs s) (a a2 : Int32) : CALL1 x s clB (fun M P X => w_X7_service M x a a2 P X) (fun M P => w_X8_service M (x + 149) a a2 P) := by
  obtain ⟨sg, pl, hn, hl, sv, sl, bl, bf, ep, nm⟩ := s
  have ok2 := ok
  obtain ⟨hs, hp, h10, hhl, hsl, hbl, hby, hep, nm1, nm2, nm3, nm4⟩ := ok
  have b := hs.b
  have n := hp.1.n
  rcases ix a (n := pl 0) (by omega) with h | ⟨p, hp2, rfl⟩
  · refine CALL1.no 1 (by decide) ok2 (fun M P X c w K => ?_) (fun M P c K => ?_)
    · have c2 := c
      obtain ⟨c10, sa, sp, hps, hx, hS, hS2, hP, hD, hH, hN, hB, hNm, hKP⟩ := c
      simp (disch := omega) only [w_X7_service, w_X7_requireService, hx.s, hP.sh, hP.n, e_req_no h, l_0, l_1, l_2, l_3, l_4, l_5, l_6, l_7, l_8, l_9, l_10, l_20, l_30, l_31, l_34, l_40, l_65, l_100, l_255, l_11, l_12, l_24, l_600, l_689, l_999, l_120, l_32, nI_add, pk_mul, n_sub, n_leT, n_leF, n_ltT, n_ltF, n_eqT, n_eqF, n_cl, n_vp, fa_andq, fa_orq, fa_xorq, n_shl, n_shr, n_t1, n_t0, n_div, n_m1, not_true_eq_false, Bool.false_eq_true, false_and, Bool.not_false, Bool.not_true, Bool.and_true, Bool.and_false, Bool.false_and, Bool.true_and, true_and, and_true, true_or, or_true, not_false_eq_true, Option.some.injEq, exists_eq_left', forall_eq, ↓reduceIte, Nat.add_zero, Nat.zero_add, and_self]
      exact fun n1 hn1 => K _ c2.sZ (FrG.sZ hn1)
    · refine ⟨c.k8, thr0 c fun M1 c1 f1 t1 => ?_⟩
      have r := c1.mr hp.1
      simp (disch := omega) only [r.sh, r.v2, e_no_no r.sh.1.1 t1 h, l_0, l_1, l_2, l_3, l_4, l_5, l_6, l_7, l_8, l_9, l_10, l_20, l_30, l_31, l_34, l_40, l_65, l_100, l_255, l_11, l_12, l_24, l_600, l_689, l_999, l_120, l_32, nI_add, pk_mul, n_sub, n_leT, n_leF, n_ltT, n_ltF, n_eqT, n_eqF, n_cl, n_vp, fa_andq, fa_orq, fa_xorq, n_shl, n_shr, n_t1, n_t0, n_div, n_m1, not_true_eq_false, Bool.false_eq_true, false_and, Bool.not_false, Bool.not_true, Bool.and_true, Bool.and_false, Bool.false_and, Bool.true_and, true_and, and_true, true_or, or_true, not_false_eq_true, Option.some.injEq, exists_eq_left', forall_eq, ↓reduceIte, Nat.add_zero, Nat.zero_add, and_self]
      exact K _ _ (c1.mf MF.th) (f1.trans MF.th).o (zI_sI1 _ _ _ _)
  · have d := hp.1.s hs hp2
    rcases ix a2 (n := 6) (by omega) with h | ⟨k, hk8, rfl⟩
    · refine CALL1.no 2 (by decide) ok2 (fun M P X c w K => ?_) (fun M P c K => ?_)
      · have c2 := c
        obtain ⟨c10, sa, sp, hps, hx, hS, hS2, hP, hD, hH, hN, hB, hNm, hKP⟩ := c
        simp (disch := omega) only [w_X7_service, w_X7_requireService, hx.s, hP.sh, hP.n, e_req_ok hp2, bad_ne h, l_0, l_1, l_2, l_3, l_4, l_5, l_6, l_7, l_8, l_9, l_10, l_20, l_30, l_31, l_34, l_40, l_65, l_100, l_255, l_11, l_12, l_24, l_600, l_689, l_999, l_120, l_32, nI_add, pk_mul, n_sub, n_leT, n_leF, n_ltT, n_ltF, n_eqT, n_eqF, n_cl, n_vp, fa_andq, fa_orq, fa_xorq, n_shl, n_shr, n_t1, n_t0, n_div, n_m1, not_true_eq_false, Bool.false_eq_true, false_and, Bool.not_false, Bool.not_true, Bool.and_true, Bool.and_false, Bool.false_and, Bool.true_and, true_and, and_true, true_or, or_true, not_false_eq_true, Option.some.injEq, exists_eq_left', forall_eq, ↓reduceIte, Nat.add_zero, Nat.zero_add, and_self]
        exact fun n1 hn1 => K _ c2.sZ (FrG.sZ hn1)
      · refine ⟨c.k8, thr0 c fun M1 c1 f1 t1 => ?_⟩
        have r := c1.mr hp.1
        simp (disch := omega) only [r.sh, r.v2, e_no_ok r.sh.1.1 t1 hp2, e_noWhat_no r.sh.1.1 t1 h, l_0, l_1, l_2, l_3, l_4, l_5, l_6, l_7, l_8, l_9, l_10, l_20, l_30, l_31, l_34, l_40, l_65, l_100, l_255, l_11, l_12, l_24, l_600, l_689, l_999, l_120, l_32, nI_add, pk_mul, n_sub, n_leT, n_leF, n_ltT, n_ltF, n_eqT, n_eqF, n_cl, n_vp, fa_andq, fa_orq, fa_xorq, n_shl, n_shr, n_t1, n_t0, n_div, n_m1, not_true_eq_false, Bool.false_eq_true, false_and, Bool.not_false, Bool.not_true, Bool.and_true, Bool.and_false, Bool.false_and, Bool.true_and, true_and, and_true, true_or, or_true, not_false_eq_true, Option.some.injEq, exists_eq_left', forall_eq, ↓reduceIte, Nat.add_zero, Nat.zero_add, and_self]
        exact K _ _ (c1.mf MF.th) (f1.trans MF.th).o (zI_sI1 _ _ _ _)
    · refine CALL1.ok _ (seA sg pl p k) ok2 (fun M P X c w K => ?_) (fun M P c K => ?_)
      · have K0 := K _ c FrG.rf
        obtain ⟨c10, sa, sp, hps, hx, hS, hS2, hP, hD, hH, hN, hB, hNm, hKP⟩ := c
        have kq := hP.s hp2
        rcases (show k = 0 ∨ k = 1 ∨ k = 2 ∨ k = 3 ∨ k = 4 ∨ k = 5 by omega) with rfl | rfl | rfl | rfl | rfl | rfl <;>
          simp (disch := omega) only [w_X7_service, w_X7_requireService, hx.s, hP.sh, hP.n, e_req_ok hp2, kq, e_X4_playersIn hs hp.1 hP hp2, e_X1_doublingsIn hs hp.1 hS hP hp2, seA, if_pos, if_neg, l_0, l_1, l_2, l_3, l_4, l_5, l_6, l_7, l_8, l_9, l_10, l_20, l_30, l_31, l_34, l_40, l_65, l_100, l_255, l_11, l_12, l_24, l_600, l_689, l_999, l_120, l_32, nI_add, pk_mul, n_sub, n_leT, n_leF, n_ltT, n_ltF, n_eqT, n_eqF, n_cl, n_vp, fa_andq, fa_orq, fa_xorq, n_shl, n_shr, n_t1, n_t0, n_div, n_m1, not_true_eq_false, Bool.false_eq_true, false_and, Bool.not_false, Bool.not_true, Bool.and_true, Bool.and_false, Bool.false_and, Bool.true_and, true_and, and_true, true_or, or_true, not_false_eq_true, Option.some.injEq, exists_eq_left', forall_eq, ↓reduceIte, Nat.add_zero, Nat.zero_add, and_self] at K0 ⊢ <;> exact K0
      · refine ⟨c.k8, thr0 c fun M1 c1 f1 t1 => ?_⟩
        have r := c1.mr hp.1
        have K0 := K _ c1 f1.o t1
        have dd := fun P => e_X8_doublingsIn r hp2 (T := 255) (v := 4294967295) (Or.inl ⟨rfl, rfl⟩) P
        rcases (show k = 0 ∨ k = 1 ∨ k = 2 ∨ k = 3 ∨ k = 4 ∨ k = 5 by omega) with rfl | rfl | rfl | rfl | rfl | rfl <;>
          simp (disch := omega) only [r.sh, r.v2, e_no_ok r.sh.1.1 t1 hp2, e_noWhat_ok r.sh.1.1 t1, e_X8_of r, e_X8_inService r hp2, dd, seA, if_pos, if_neg, l_0, l_1, l_2, l_3, l_4, l_5, l_6, l_7, l_8, l_9, l_10, l_20, l_30, l_31, l_34, l_40, l_65, l_100, l_255, l_11, l_12, l_24, l_600, l_689, l_999, l_120, l_32, nI_add, pk_mul, n_sub, n_leT, n_leF, n_ltT, n_ltF, n_eqT, n_eqF, n_cl, n_vp, fa_andq, fa_orq, fa_xorq, n_shl, n_shr, n_t1, n_t0, n_div, n_m1, not_true_eq_false, Bool.false_eq_true, false_and, Bool.not_false, Bool.not_true, Bool.and_true, Bool.and_false, Bool.false_and, Bool.true_and, true_and, and_true, true_or, or_true, not_false_eq_true, Option.some.injEq, exists_eq_left', forall_eq, ↓reduceIte, Nat.add_zero, Nat.zero_add, and_self] at K0 ⊢ <;> exact K0
theorem call_cast {x : Nat} {s : ST} (ok : OKs s) (a a2 a3 : Int32) : CALL1 x s clB1 (fun M P X => w_X7_cast M x a a2 a3 P X) (fun M P => w_X8_cast M (x + 149) a a2 a3 P) := by
  obtain ⟨sg, pl, hn, hl, sv, sl, bl, bf, ep, nm⟩ := s
  have ok2 := ok
  obtain ⟨hs, hp, h10, hhl, hsl, hbl, hby, hep, nm1, nm2, nm3, nm4⟩ := ok
  have b := hs.b
  have n := hp.1.n
  rcases ix a (n := pl 0) (by omega) with h | ⟨p, hp2, rfl⟩
  · refine CALL1.no 1 (by decide) ok2 (fun M P X c w K => ?_) (fun M P c K => ?_)
    · have c2 := c
      obtain ⟨c10, sa, sp, hps, hx, hS, hS2, hP, hD, hH, hN, hB, hNm, hKP⟩ := c
      simp (disch := omega) only [w_X7_cast, w_X7_requireService, hx.s, hP.sh, hP.n, e_req_no h, l_0, l_1, l_2, l_3, l_4, l_5, l_6, l_7, l_8, l_9, l_10, l_20, l_30, l_31, l_34, l_40, l_65, l_100, l_255, l_11, l_12, l_24, l_600, l_689, l_999, l_120, l_32, nI_add, pk_mul, n_sub, n_leT, n_leF, n_ltT, n_ltF, n_eqT, n_eqF, n_cl, n_vp, fa_andq, fa_orq, fa_xorq, n_shl, n_shr, n_t1, n_t0, n_div, n_m1, not_true_eq_false, Bool.false_eq_true, false_and, Bool.not_false, Bool.not_true, Bool.and_true, Bool.and_false, Bool.false_and, Bool.true_and, true_and, and_true, true_or, or_true, not_false_eq_true, Option.some.injEq, exists_eq_left', forall_eq, ↓reduceIte, Nat.add_zero, Nat.zero_add, and_self]
      exact fun n1 hn1 => K _ c2.sZ (FrG.sZ hn1)
    · refine ⟨c.k8, thr0 c fun M1 c1 f1 t1 => ?_⟩
      have r := c1.mr hp.1
      simp (disch := omega) only [r.sh, r.v2, e_no_no r.sh.1.1 t1 h, l_0, l_1, l_2, l_3, l_4, l_5, l_6, l_7, l_8, l_9, l_10, l_20, l_30, l_31, l_34, l_40, l_65, l_100, l_255, l_11, l_12, l_24, l_600, l_689, l_999, l_120, l_32, nI_add, pk_mul, n_sub, n_leT, n_leF, n_ltT, n_ltF, n_eqT, n_eqF, n_cl, n_vp, fa_andq, fa_orq, fa_xorq, n_shl, n_shr, n_t1, n_t0, n_div, n_m1, not_true_eq_false, Bool.false_eq_true, false_and, Bool.not_false, Bool.not_true, Bool.and_true, Bool.and_false, Bool.false_and, Bool.true_and, true_and, and_true, true_or, or_true, not_false_eq_true, Option.some.injEq, exists_eq_left', forall_eq, ↓reduceIte, Nat.add_zero, Nat.zero_add, and_self]
      exact K _ _ (c1.mf MF.th) (f1.trans MF.th).o (zI_sI1 _ _ _ _)
  · rcases ix a2 (n := sg 3) (by omega) with h | ⟨w, hw, rfl⟩
    · refine CALL1.no 1 (by decide) ok2 (fun M P X c w K => ?_) (fun M P c K => ?_)
      · have c2 := c
        obtain ⟨c10, sa, sp, hps, hx, hS, hS2, hP, hD, hH, hN, hB, hNm, hKP⟩ := c
        simp (disch := omega) only [w_X7_cast, w_X7_requireService, w_X7_requireWork, hx.s, hS.s1, hS.n, hP.sh, hP.n, e_req_ok hp2, e_req_no h, l_0, l_1, l_2, l_3, l_4, l_5, l_6, l_7, l_8, l_9, l_10, l_20, l_30, l_31, l_34, l_40, l_65, l_100, l_255, l_11, l_12, l_24, l_600, l_689, l_999, l_120, l_32, nI_add, pk_mul, n_sub, n_leT, n_leF, n_ltT, n_ltF, n_eqT, n_eqF, n_cl, n_vp, fa_andq, fa_orq, fa_xorq, n_shl, n_shr, n_t1, n_t0, n_div, n_m1, not_true_eq_false, Bool.false_eq_true, false_and, Bool.not_false, Bool.not_true, Bool.and_true, Bool.and_false, Bool.false_and, Bool.true_and, true_and, and_true, true_or, or_true, not_false_eq_true, Option.some.injEq, exists_eq_left', forall_eq, ↓reduceIte, Nat.add_zero, Nat.zero_add, and_self]
        exact fun n1 hn1 => K _ c2.sZ (FrG.sZ hn1)
      · refine ⟨c.k8, thr0 c fun M1 c1 f1 t1 => ?_⟩
        have r := c1.mr hp.1
        simp (disch := omega) only [r.sh, r.v1, r.v2, e_no_ok r.sh.1.1 t1 hp2, e_no_no r.sh.1.1 t1 h, l_0, l_1, l_2, l_3, l_4, l_5, l_6, l_7, l_8, l_9, l_10, l_20, l_30, l_31, l_34, l_40, l_65, l_100, l_255, l_11, l_12, l_24, l_600, l_689, l_999, l_120, l_32, nI_add, pk_mul, n_sub, n_leT, n_leF, n_ltT, n_ltF, n_eqT, n_eqF, n_cl, n_vp, fa_andq, fa_orq, fa_xorq, n_shl, n_shr, n_t1, n_t0, n_div, n_m1, not_true_eq_false, Bool.false_eq_true, false_and, Bool.not_false, Bool.not_true, Bool.and_true, Bool.and_false, Bool.false_and, Bool.true_and, true_and, and_true, true_or, or_true, not_false_eq_true, Option.some.injEq, exists_eq_left', forall_eq, ↓reduceIte, Nat.add_zero, Nat.zero_add, and_self]
        exact K _ _ (c1.mf MF.th) (f1.trans MF.th).o (zI_sI1 _ _ _ _)
    · have sc := hs.sc hw
      rcases ix a3 (n := oW sg w 4) (by omega) with h | ⟨j, hj, rfl⟩
      · refine CALL1.no 1 (by decide) ok2 (fun M P X c w K => ?_) (fun M P c K => ?_)
        · have c2 := c
          obtain ⟨c10, sa, sp, hps, hx, hS, hS2, hP, hD, hH, hN, hB, hNm, hKP⟩ := c
          simp (disch := omega) only [w_X7_cast, w_X7_requireService, w_X7_requireWork, w_X7_requireSeat, hx.s, hS.s1, hS.n, hS.w hw, hP.sh, hP.n, e_req_ok hp2, e_req_ok hw, e_req_no h, l_0, l_1, l_2, l_3, l_4, l_5, l_6, l_7, l_8, l_9, l_10, l_20, l_30, l_31, l_34, l_40, l_65, l_100, l_255, l_11, l_12, l_24, l_600, l_689, l_999, l_120, l_32, nI_add, pk_mul, n_sub, n_leT, n_leF, n_ltT, n_ltF, n_eqT, n_eqF, n_cl, n_vp, fa_andq, fa_orq, fa_xorq, n_shl, n_shr, n_t1, n_t0, n_div, n_m1, not_true_eq_false, Bool.false_eq_true, false_and, Bool.not_false, Bool.not_true, Bool.and_true, Bool.and_false, Bool.false_and, Bool.true_and, true_and, and_true, true_or, or_true, not_false_eq_true, Option.some.injEq, exists_eq_left', forall_eq, ↓reduceIte, Nat.add_zero, Nat.zero_add, and_self]
          exact fun n1 hn1 => K _ c2.sZ (FrG.sZ hn1)
        · refine ⟨c.k8, thr0 c fun M1 c1 f1 t1 => ?_⟩
          have r := c1.mr hp.1
          simp (disch := omega) only [r.sh, r.v1, r.v2, e_no_ok r.sh.1.1 t1 hp2, e_no_ok r.sh.1.1 t1 hw, e_X8_ofWork r, e_no_no r.sh.1.1 t1 h, l_0, l_1, l_2, l_3, l_4, l_5, l_6, l_7, l_8, l_9, l_10, l_20, l_30, l_31, l_34, l_40, l_65, l_100, l_255, l_11, l_12, l_24, l_600, l_689, l_999, l_120, l_32, nI_add, pk_mul, n_sub, n_leT, n_leF, n_ltT, n_ltF, n_eqT, n_eqF, n_cl, n_vp, fa_andq, fa_orq, fa_xorq, n_shl, n_shr, n_t1, n_t0, n_div, n_m1, not_true_eq_false, Bool.false_eq_true, false_and, Bool.not_false, Bool.not_true, Bool.and_true, Bool.and_false, Bool.false_and, Bool.true_and, true_and, and_true, true_or, or_true, not_false_eq_true, Option.some.injEq, exists_eq_left', forall_eq, ↓reduceIte, Nat.add_zero, Nat.zero_add, and_self]
          exact K _ _ (c1.mf MF.th) (f1.trans MF.th).o (zI_sI1 _ _ _ _)
      · refine CALL1.ok _ (nI (cs sg pl p (w * 6 + j))) ok2 (fun M P X c w K => ?_) (fun M P c K => ?_)
        · have K0 := K _ c FrG.rf
          obtain ⟨c10, sa, sp, hps, hx, hS, hS2, hP, hD, hH, hN, hB, hNm, hKP⟩ := c
          simp (disch := omega) only [w_X7_cast, w_X7_requireService, w_X7_requireWork, w_X7_requireSeat, hx.s, hS.s1, hS.n, hS.w hw, hP.sh, hP.n, e_req_ok hp2, e_req_ok hw, e_req_ok hj, e_X4_playerOn hp.1 hP hp2, l_0, l_1, l_2, l_3, l_4, l_5, l_6, l_7, l_8, l_9, l_10, l_20, l_30, l_31, l_34, l_40, l_65, l_100, l_255, l_11, l_12, l_24, l_600, l_689, l_999, l_120, l_32, nI_add, pk_mul, n_sub, n_leT, n_leF, n_ltT, n_ltF, n_eqT, n_eqF, n_cl, n_vp, fa_andq, fa_orq, fa_xorq, n_shl, n_shr, n_t1, n_t0, n_div, n_m1, not_true_eq_false, Bool.false_eq_true, false_and, Bool.not_false, Bool.not_true, Bool.and_true, Bool.and_false, Bool.false_and, Bool.true_and, true_and, and_true, true_or, or_true, not_false_eq_true, Option.some.injEq, exists_eq_left', forall_eq, ↓reduceIte, Nat.add_zero, Nat.zero_add, and_self]
          exact K0
        · refine ⟨c.k8, thr0 c fun M1 c1 f1 t1 => ?_⟩
          have r := c1.mr hp.1
          have K0 := K _ c1 f1.o t1
          by_cases q : (oS pl p 3).testBit w = true
          · rw [cs_in (by omega) hw q hj] at K0
            simp (disch := omega) only [r.sh, r.v1, r.v2, e_no_ok r.sh.1.1 t1 hp2, e_no_ok r.sh.1.1 t1 hw, e_X8_ofWork r, e_no_ok r.sh.1.1 t1 hj, e_X8_hasWork r hp2, q, bI_t, e_X8_castOf r, l_0, l_1, l_2, l_3, l_4, l_5, l_6, l_7, l_8, l_9, l_10, l_20, l_30, l_31, l_34, l_40, l_65, l_100, l_255, l_11, l_12, l_24, l_600, l_689, l_999, l_120, l_32, nI_add, pk_mul, n_sub, n_leT, n_leF, n_ltT, n_ltF, n_eqT, n_eqF, n_cl, n_vp, fa_andq, fa_orq, fa_xorq, n_shl, n_shr, n_t1, n_t0, n_div, n_m1, not_true_eq_false, Bool.false_eq_true, false_and, Bool.not_false, Bool.not_true, Bool.and_true, Bool.and_false, Bool.false_and, Bool.true_and, true_and, and_true, true_or, or_true, not_false_eq_true, Option.some.injEq, exists_eq_left', forall_eq, ↓reduceIte, Nat.add_zero, Nat.zero_add, and_self]
            exact K0
          · rw [cs_out (by omega) (fun z => q z.2.1)] at K0
            simp (disch := omega) only [r.sh, r.v1, r.v2, e_no_ok r.sh.1.1 t1 hp2, e_no_ok r.sh.1.1 t1 hw, e_X8_ofWork r, e_no_ok r.sh.1.1 t1 hj, e_X8_hasWork r hp2, b_no q, bI_f, l_0, l_1, l_2, l_3, l_4, l_5, l_6, l_7, l_8, l_9, l_10, l_20, l_30, l_31, l_34, l_40, l_65, l_100, l_255, l_11, l_12, l_24, l_600, l_689, l_999, l_120, l_32, nI_add, pk_mul, n_sub, n_leT, n_leF, n_ltT, n_ltF, n_eqT, n_eqF, n_cl, n_vp, fa_andq, fa_orq, fa_xorq, n_shl, n_shr, n_t1, n_t0, n_div, n_m1, not_true_eq_false, Bool.false_eq_true, false_and, Bool.not_false, Bool.not_true, Bool.and_true, Bool.and_false, Bool.false_and, Bool.true_and, true_and, and_true, true_or, or_true, not_false_eq_true, Option.some.injEq, exists_eq_left', forall_eq, ↓reduceIte, Nat.add_zero, Nat.zero_add, and_self]
            exact K0
