/-! THE CLASS'S CALLS, with good arguments: their answers, told by sg and pl (out of whole's proofs, by wip/p34/gen_cc.py) -/
theorem cc_size {x : Nat} {sg pl : Nat → Nat} {hn : Nat} {hl : Nat → Nat → Nat} {sv : Nat → Bool} {sl : Nat → Nat → Nat} {bl : Nat} {bf : Nat → Int32} {ep : Nat} {nm : Nat → List Nat} (ok : OKs (sg, pl, hn, hl, sv, sl, bl, bf, ep, nm)) {j : Nat} (hj : j < 8) (M : Mm) (P : Int32 → Mm → Prop) (X : String → Mm → Prop) (c : CI x (sg, pl, hn, hl, sv, sl, bl, bf, ep, nm) M) (K : ∀ M', CI x (sg, pl, hn, hl, sv, sl, bl, bf, ep, nm) M' → FrG x (x + 149) M M' → P (nI (if j < 5 then sg j else if j = 5 then pl 0 else if j = 6 then sg 5 else hn)) M') : w_X7_size M x (nI j) P X := by
  have ok2 := ok
  obtain ⟨hs, hp, h10, hhl, hsl, hbl, hby, hep, nm1, nm2, nm3, nm4⟩ := ok
  have b := hs.b
  have n := hp.1.n
  have K0 := K _ c FrG.rf
  obtain ⟨c10, sa, sp, hps, hx, hS, hS2, hP, hD, hH, hN, hB, hNm, hKP⟩ := c
  have h9 := hH.2.2.2
  rcases (show j = 0 ∨ j = 1 ∨ j = 2 ∨ j = 3 ∨ j = 4 ∨ j = 5 ∨ j = 6 ∨ j = 7 by omega) with rfl | rfl | rfl | rfl | rfl | rfl | rfl | rfl <;>
    simp (disch := omega) only [w_X7_size, hx.s, hS.s1, hS.n, hP.sh, hP.n, h9, if_pos, if_neg, l_0, l_1, l_2, l_3, l_4, l_5, l_6, l_7, l_8, l_9, l_10, l_20, l_30, l_31, l_34, l_40, l_65, l_100, l_255, l_11, l_12, l_24, l_600, l_689, l_999, l_120, l_32, nI_add, pk_mul, n_sub, n_leT, n_leF, n_ltT, n_ltF, n_eqT, n_eqF, n_cl, n_vp, fa_andq, fa_orq, fa_xorq, n_shl, n_shr, n_t1, n_t0, n_div, n_m1, not_true_eq_false, Bool.false_eq_true, false_and, Bool.not_false, Bool.not_true, Bool.and_true, Bool.and_false, Bool.false_and, Bool.true_and, true_and, and_true, true_or, or_true, not_false_eq_true, Option.some.injEq, exists_eq_left', forall_eq, ↓reduceIte, Nat.add_zero, Nat.zero_add, and_self] at K0 ⊢ <;> exact K0
theorem cc_costs {x : Nat} {sg pl : Nat → Nat} {hn : Nat} {hl : Nat → Nat → Nat} {sv : Nat → Bool} {sl : Nat → Nat → Nat} {bl : Nat} {bf : Nat → Int32} {ep : Nat} {nm : Nat → List Nat} (ok : OKs (sg, pl, hn, hl, sv, sl, bl, bf, ep, nm)) {j : Nat} (hj : j < 4) (M : Mm) (P : Int32 → Mm → Prop) (X : String → Mm → Prop) (c : CI x (sg, pl, hn, hl, sv, sl, bl, bf, ep, nm) M) (K : ∀ M', CI x (sg, pl, hn, hl, sv, sl, bl, bf, ep, nm) M' → FrG x (x + 149) M M' → P (costI sg pl j) M') : w_X7_costs M x (nI j) P X := by
  have ok2 := ok
  obtain ⟨hs, hp, h10, hhl, hsl, hbl, hby, hep, nm1, nm2, nm3, nm4⟩ := ok
  have b := hs.b
  have K0 := K _ c FrG.rf
  obtain ⟨c10, sa, sp, hps, hx, hS, hS2, hP, hD, hH, hN, hB, hNm, hKP⟩ := c
  simp (disch := omega) only [w_X7_costs, w_X7_requireArgument, hx.s, e_X1_costsOf hs hp.1 hS hP, l_0, l_1, l_2, l_3, l_4, l_5, l_6, l_7, l_8, l_9, l_10, l_20, l_30, l_31, l_34, l_40, l_65, l_100, l_255, l_11, l_12, l_24, l_600, l_689, l_999, l_120, l_32, nI_add, pk_mul, n_sub, n_leT, n_leF, n_ltT, n_ltF, n_eqT, n_eqF, n_cl, n_vp, fa_andq, fa_orq, fa_xorq, n_shl, n_shr, n_t1, n_t0, n_div, n_m1, not_true_eq_false, Bool.false_eq_true, false_and, Bool.not_false, Bool.not_true, Bool.and_true, Bool.and_false, Bool.false_and, Bool.true_and, true_and, and_true, true_or, or_true, not_false_eq_true, Option.some.injEq, exists_eq_left', forall_eq, ↓reduceIte, Nat.add_zero, Nat.zero_add, and_self]
  exact K0
theorem cc_serviceAt {x : Nat} {sg pl : Nat → Nat} {hn : Nat} {hl : Nat → Nat → Nat} {sv : Nat → Bool} {sl : Nat → Nat → Nat} {bl : Nat} {bf : Nat → Int32} {ep : Nat} {nm : Nat → List Nat} (ok : OKs (sg, pl, hn, hl, sv, sl, bl, bf, ep, nm)) {j t : Nat} (hj : j < sg 1) (ht : t < sg 0 * 3) (M : Mm) (P : Int32 → Mm → Prop) (X : String → Mm → Prop) (c : CI x (sg, pl, hn, hl, sv, sl, bl, bf, ep, nm) M) (K : ∀ M', CI x (sg, pl, hn, hl, sv, sl, bl, bf, ep, nm) M' → FrG x (x + 149) M M' → P (nI (nAt pl j t)) M') : w_X7_serviceAt M x (nI j) (nI t) P X := by
  have ok2 := ok
  obtain ⟨hs, hp, h10, hhl, hsl, hbl, hby, hep, nm1, nm2, nm3, nm4⟩ := ok
  have b := hs.b
  have e3 : 3 * sg 0 = sg 0 * 3 := Nat.mul_comm _ _
  have K0 := K _ c FrG.rf
  obtain ⟨c10, sa, sp, hps, hx, hS, hS2, hP, hD, hH, hN, hB, hNm, hKP⟩ := c
  simp (disch := omega) only [w_X7_serviceAt, w_X7_requireHall, w_X7_requireSlot, hx.s, hS.s1, hS.n, e_req_ok hj, e_X6_slotCount hS, e_req_ok ht, hP.sh, e_X4_numberAt hs hp.1 hP, l_0, l_1, l_2, l_3, l_4, l_5, l_6, l_7, l_8, l_9, l_10, l_20, l_30, l_31, l_34, l_40, l_65, l_100, l_255, l_11, l_12, l_24, l_600, l_689, l_999, l_120, l_32, nI_add, pk_mul, n_sub, n_leT, n_leF, n_ltT, n_ltF, n_eqT, n_eqF, n_cl, n_vp, fa_andq, fa_orq, fa_xorq, n_shl, n_shr, n_t1, n_t0, n_div, n_m1, not_true_eq_false, Bool.false_eq_true, false_and, Bool.not_false, Bool.not_true, Bool.and_true, Bool.and_false, Bool.false_and, Bool.true_and, true_and, and_true, true_or, or_true, not_false_eq_true, Option.some.injEq, exists_eq_left', forall_eq, ↓reduceIte, Nat.add_zero, Nat.zero_add, and_self]
  exact K0
theorem cc_isFree {x : Nat} {sg pl : Nat → Nat} {hn : Nat} {hl : Nat → Nat → Nat} {sv : Nat → Bool} {sl : Nat → Nat → Nat} {bl : Nat} {bf : Nat → Int32} {ep : Nat} {nm : Nat → List Nat} (ok : OKs (sg, pl, hn, hl, sv, sl, bl, bf, ep, nm)) {j t : Nat} (hj : j < sg 2) (ht : t < sg 0 * 3) (M : Mm) (P : Int32 → Mm → Prop) (X : String → Mm → Prop) (c : CI x (sg, pl, hn, hl, sv, sl, bl, bf, ep, nm) M) (K : ∀ M', CI x (sg, pl, hn, hl, sv, sl, bl, bf, ep, nm) M' → FrG x (x + 149) M M' → P (bI ((free sg pl t).testBit j)) M') : w_X7_isFree M x (nI j) (nI t) P X := by
  have ok2 := ok
  obtain ⟨hs, hp, h10, hhl, hsl, hbl, hby, hep, nm1, nm2, nm3, nm4⟩ := ok
  have b := hs.b
  have e3 : 3 * sg 0 = sg 0 * 3 := Nat.mul_comm _ _
  have fl := free_lt (pl := pl) hs t
  have K0 := K _ c FrG.rf
  obtain ⟨c10, sa, sp, hps, hx, hS, hS2, hP, hD, hH, hN, hB, hNm, hKP⟩ := c
  simp (disch := omega) only [w_X7_isFree, w_X7_requirePlayer, w_X7_requireSlot, hx.s, hS.s1, hS.n, e_req_ok hj, e_X6_slotCount hS, e_req_ok ht, e_X7_freePlayers hs hp.1 hx.xr hS hP, e_has, bI_z, l_0, l_1, l_2, l_3, l_4, l_5, l_6, l_7, l_8, l_9, l_10, l_20, l_30, l_31, l_34, l_40, l_65, l_100, l_255, l_11, l_12, l_24, l_600, l_689, l_999, l_120, l_32, nI_add, pk_mul, n_sub, n_leT, n_leF, n_ltT, n_ltF, n_eqT, n_eqF, n_cl, n_vp, fa_andq, fa_orq, fa_xorq, n_shl, n_shr, n_t1, n_t0, n_div, n_m1, not_true_eq_false, Bool.false_eq_true, false_and, Bool.not_false, Bool.not_true, Bool.and_true, Bool.and_false, Bool.false_and, Bool.true_and, true_and, and_true, true_or, or_true, not_false_eq_true, Option.some.injEq, exists_eq_left', forall_eq, ↓reduceIte, Nat.add_zero, Nat.zero_add, and_self]
  exact K0
theorem cc_player {x : Nat} {sg pl : Nat → Nat} {hn : Nat} {hl : Nat → Nat → Nat} {sv : Nat → Bool} {sl : Nat → Nat → Nat} {bl : Nat} {bf : Nat → Int32} {ep : Nat} {nm : Nat → List Nat} (ok : OKs (sg, pl, hn, hl, sv, sl, bl, bf, ep, nm)) {p k : Nat} (hp2 : p < sg 2) (hk8 : k < 8) (M : Mm) (P : Int32 → Mm → Prop) (X : String → Mm → Prop) (c : CI x (sg, pl, hn, hl, sv, sl, bl, bf, ep, nm) M) (K : ∀ M', CI x (sg, pl, hn, hl, sv, sl, bl, bf, ep, nm) M' → FrG x (x + 149) M M' → P (plA sg pl p k) M') : w_X7_player M x (nI p) (nI k) P X := by
  have ok2 := ok
  obtain ⟨hs, hp, h10, hhl, hsl, hbl, hby, hep, nm1, nm2, nm3, nm4⟩ := ok
  have b := hs.b
  have n := hp.1.n
  have hk := hp.1.2.1 p hp2
  have sv20 := svc_le sg pl p
  have K0 := K _ c FrG.rf
  obtain ⟨c10, sa, sp, hps, hx, hS, hS2, hP, hD, hH, hN, hB, hNm, hKP⟩ := c
  have kp := hP.k hp2
  have kq := hS.p hp2
  rcases (show k = 0 ∨ k = 1 ∨ k = 2 ∨ k = 3 ∨ k = 4 ∨ k = 5 ∨ k = 6 ∨ k = 7 by omega) with rfl | rfl | rfl | rfl | rfl | rfl | rfl | rfl
  · simp (disch := omega) only [w_X7_player, w_X7_requirePlayer, hx.s, hS.s1, hS.n, e_req_ok hp2, hP.sh, kp, plA, if_pos, l_0, l_1, l_2, l_3, l_4, l_5, l_6, l_7, l_8, l_9, l_10, l_20, l_30, l_31, l_34, l_40, l_65, l_100, l_255, l_11, l_12, l_24, l_600, l_689, l_999, l_120, l_32, nI_add, pk_mul, n_sub, n_leT, n_leF, n_ltT, n_ltF, n_eqT, n_eqF, n_cl, n_vp, fa_andq, fa_orq, fa_xorq, n_shl, n_shr, n_t1, n_t0, n_div, n_m1, not_true_eq_false, Bool.false_eq_true, false_and, Bool.not_false, Bool.not_true, Bool.and_true, Bool.and_false, Bool.false_and, Bool.true_and, true_and, and_true, true_or, or_true, not_false_eq_true, Option.some.injEq, exists_eq_left', forall_eq, ↓reduceIte, Nat.add_zero, Nat.zero_add, and_self] at K0 ⊢
    exact K0
  · simp (disch := omega) only [w_X7_player, w_X7_requirePlayer, hx.s, hS.s1, hS.n, e_req_ok hp2, kq, plA, if_pos, if_neg, l_0, l_1, l_2, l_3, l_4, l_5, l_6, l_7, l_8, l_9, l_10, l_20, l_30, l_31, l_34, l_40, l_65, l_100, l_255, l_11, l_12, l_24, l_600, l_689, l_999, l_120, l_32, nI_add, pk_mul, n_sub, n_leT, n_leF, n_ltT, n_ltF, n_eqT, n_eqF, n_cl, n_vp, fa_andq, fa_orq, fa_xorq, n_shl, n_shr, n_t1, n_t0, n_div, n_m1, not_true_eq_false, Bool.false_eq_true, false_and, Bool.not_false, Bool.not_true, Bool.and_true, Bool.and_false, Bool.false_and, Bool.true_and, true_and, and_true, true_or, or_true, not_false_eq_true, Option.some.injEq, exists_eq_left', forall_eq, ↓reduceIte, Nat.add_zero, Nat.zero_add, and_self] at K0 ⊢
    exact K0
  · simp (disch := omega) only [w_X7_player, w_X7_requirePlayer, hx.s, hS.s1, hS.n, e_req_ok hp2, kq, plA, if_pos, if_neg, l_0, l_1, l_2, l_3, l_4, l_5, l_6, l_7, l_8, l_9, l_10, l_20, l_30, l_31, l_34, l_40, l_65, l_100, l_255, l_11, l_12, l_24, l_600, l_689, l_999, l_120, l_32, nI_add, pk_mul, n_sub, n_leT, n_leF, n_ltT, n_ltF, n_eqT, n_eqF, n_cl, n_vp, fa_andq, fa_orq, fa_xorq, n_shl, n_shr, n_t1, n_t0, n_div, n_m1, not_true_eq_false, Bool.false_eq_true, false_and, Bool.not_false, Bool.not_true, Bool.and_true, Bool.and_false, Bool.false_and, Bool.true_and, true_and, and_true, true_or, or_true, not_false_eq_true, Option.some.injEq, exists_eq_left', forall_eq, ↓reduceIte, Nat.add_zero, Nat.zero_add, and_self] at K0 ⊢
    exact K0
  · simp (disch := omega) only [w_X7_player, w_X7_requirePlayer, hx.s, hS.s1, hS.n, e_req_ok hp2, kq, plA, if_pos, if_neg, l_0, l_1, l_2, l_3, l_4, l_5, l_6, l_7, l_8, l_9, l_10, l_20, l_30, l_31, l_34, l_40, l_65, l_100, l_255, l_11, l_12, l_24, l_600, l_689, l_999, l_120, l_32, nI_add, pk_mul, n_sub, n_leT, n_leF, n_ltT, n_ltF, n_eqT, n_eqF, n_cl, n_vp, fa_andq, fa_orq, fa_xorq, n_shl, n_shr, n_t1, n_t0, n_div, n_m1, not_true_eq_false, Bool.false_eq_true, false_and, Bool.not_false, Bool.not_true, Bool.and_true, Bool.and_false, Bool.false_and, Bool.true_and, true_and, and_true, true_or, or_true, not_false_eq_true, Option.some.injEq, exists_eq_left', forall_eq, ↓reduceIte, Nat.add_zero, Nat.zero_add, and_self] at K0 ⊢
    exact K0
  · simp (disch := omega) only [w_X7_player, w_X7_requirePlayer, hx.s, hS.s1, hS.n, e_req_ok hp2, hP.sh, e_X4_servicesOf hs hp.1 hP, plA, if_pos, if_neg, l_0, l_1, l_2, l_3, l_4, l_5, l_6, l_7, l_8, l_9, l_10, l_20, l_30, l_31, l_34, l_40, l_65, l_100, l_255, l_11, l_12, l_24, l_600, l_689, l_999, l_120, l_32, nI_add, pk_mul, n_sub, n_leT, n_leF, n_ltT, n_ltF, n_eqT, n_eqF, n_cl, n_vp, fa_andq, fa_orq, fa_xorq, n_shl, n_shr, n_t1, n_t0, n_div, n_m1, not_true_eq_false, Bool.false_eq_true, false_and, Bool.not_false, Bool.not_true, Bool.and_true, Bool.and_false, Bool.false_and, Bool.true_and, true_and, and_true, true_or, or_true, not_false_eq_true, Option.some.injEq, exists_eq_left', forall_eq, ↓reduceIte, Nat.add_zero, Nat.zero_add, and_self] at K0 ⊢
    exact K0
  · simp (disch := omega) only [w_X7_player, w_X7_requirePlayer, hx.s, hS.s1, hS.n, e_req_ok hp2, e_X1_doublingsOf hs hp.1 hS hP, plA, if_pos, if_neg, l_0, l_1, l_2, l_3, l_4, l_5, l_6, l_7, l_8, l_9, l_10, l_20, l_30, l_31, l_34, l_40, l_65, l_100, l_255, l_11, l_12, l_24, l_600, l_689, l_999, l_120, l_32, nI_add, pk_mul, n_sub, n_leT, n_leF, n_ltT, n_ltF, n_eqT, n_eqF, n_cl, n_vp, fa_andq, fa_orq, fa_xorq, n_shl, n_shr, n_t1, n_t0, n_div, n_m1, not_true_eq_false, Bool.false_eq_true, false_and, Bool.not_false, Bool.not_true, Bool.and_true, Bool.and_false, Bool.false_and, Bool.true_and, true_and, and_true, true_or, or_true, not_false_eq_true, Option.some.injEq, exists_eq_left', forall_eq, ↓reduceIte, Nat.add_zero, Nat.zero_add, and_self] at K0 ⊢
    exact K0
  · have e6 := bey_neg (a := svc sg pl p) (b := pl (1 + p)) (by omega) (by omega)
    have e7 : plA sg pl p 6 = (if nI 0 < -(nI (svc sg pl p) - nI (pl (1 + p))) then -(nI (svc sg pl p) - nI (pl (1 + p))) else nI 0) := e6.symm
    rw [e7] at K0
    simp (disch := omega) only [w_X7_player, w_X7_requirePlayer, hx.s, hS.s1, hS.n, e_req_ok hp2, hP.sh, e_X4_beyondContract hs hp.1 hP hp2, l_0, l_1, l_2, l_3, l_4, l_5, l_6, l_7, l_8, l_9, l_10, l_20, l_30, l_31, l_34, l_40, l_65, l_100, l_255, l_11, l_12, l_24, l_600, l_689, l_999, l_120, l_32, n_eqT, n_eqF, not_true_eq_false, Bool.false_eq_true, false_and, Bool.not_false, Bool.not_true, Bool.and_true, Bool.and_false, Bool.false_and, Bool.true_and, true_and, and_true, true_or, or_true, not_false_eq_true, Option.some.injEq, exists_eq_left', forall_eq, ↓reduceIte, Nat.add_zero, Nat.zero_add, and_self]
    exact K0
  · simp (disch := omega) only [w_X7_player, w_X7_requirePlayer, hx.s, hS.s1, hS.n, e_req_ok hp2, e_X1_overtimeOf hs hp.1 hS hP hp2, plA, if_pos, if_neg, l_0, l_1, l_2, l_3, l_4, l_5, l_6, l_7, l_8, l_9, l_10, l_20, l_30, l_31, l_34, l_40, l_65, l_100, l_255, l_11, l_12, l_24, l_600, l_689, l_999, l_120, l_32, n_eqT, n_eqF, not_true_eq_false, Bool.false_eq_true, false_and, Bool.not_false, Bool.not_true, Bool.and_true, Bool.and_false, Bool.false_and, Bool.true_and, true_and, and_true, true_or, or_true, not_false_eq_true, Option.some.injEq, exists_eq_left', forall_eq, ↓reduceIte, Nat.add_zero, Nat.zero_add, and_self] at K0 ⊢
    exact K0
theorem cc_work {x : Nat} {sg pl : Nat → Nat} {hn : Nat} {hl : Nat → Nat → Nat} {sv : Nat → Bool} {sl : Nat → Nat → Nat} {bl : Nat} {bf : Nat → Int32} {ep : Nat} {nm : Nat → List Nat} (ok : OKs (sg, pl, hn, hl, sv, sl, bl, bf, ep, nm)) {p k : Nat} (hp2 : p < sg 3) (hk8 : k < 8) (M : Mm) (P : Int32 → Mm → Prop) (X : String → Mm → Prop) (c : CI x (sg, pl, hn, hl, sv, sl, bl, bf, ep, nm) M) (K : ∀ M', CI x (sg, pl, hn, hl, sv, sl, bl, bf, ep, nm) M' → FrG x (x + 149) M M' → P (wkA sg pl p k) M') : w_X7_work M x (nI p) (nI k) P X := by
  have ok2 := ok
  obtain ⟨hs, hp, h10, hhl, hsl, hbl, hby, hep, nm1, nm2, nm3, nm4⟩ := ok
  have b := hs.b
  have n := hp.1.n
  have K0 := K _ c FrG.rf
  obtain ⟨c10, sa, sp, hps, hx, hS, hS2, hP, hD, hH, hN, hB, hNm, hKP⟩ := c
  have kq := hS.w hp2
  rcases (show k = 0 ∨ k = 1 ∨ k = 2 ∨ k = 3 ∨ k = 4 ∨ k = 5 ∨ k = 6 ∨ k = 7 by omega) with rfl | rfl | rfl | rfl | rfl | rfl | rfl | rfl <;>
    simp (disch := omega) only [w_X7_work, w_X7_requireWork, hx.s, hS.s1, hS.n, e_req_ok hp2, kq, hP.sh, e_X6_slotCount hS, e_X4_servicesWith hs hp.1 hP, e_X1_rentOf hs hp.1 hS hP hp2, wkA, if_pos, if_neg, l_0, l_1, l_2, l_3, l_4, l_5, l_6, l_7, l_8, l_9, l_10, l_20, l_30, l_31, l_34, l_40, l_65, l_100, l_255, l_11, l_12, l_24, l_600, l_689, l_999, l_120, l_32, n_eqT, n_eqF, n_cl, n_vp, not_true_eq_false, Bool.false_eq_true, false_and, Bool.not_false, Bool.not_true, Bool.and_true, Bool.and_false, Bool.false_and, Bool.true_and, true_and, and_true, true_or, or_true, not_false_eq_true, Option.some.injEq, exists_eq_left', forall_eq, ↓reduceIte, Nat.add_zero, Nat.zero_add, and_self] at K0 ⊢ <;> exact K0
theorem cc_service {x : Nat} {sg pl : Nat → Nat} {hn : Nat} {hl : Nat → Nat → Nat} {sv : Nat → Bool} {sl : Nat → Nat → Nat} {bl : Nat} {bf : Nat → Int32} {ep : Nat} {nm : Nat → List Nat} (ok : OKs (sg, pl, hn, hl, sv, sl, bl, bf, ep, nm)) {p k : Nat} (hp2 : p < pl 0) (hk8 : k < 6) (M : Mm) (P : Int32 → Mm → Prop) (X : String → Mm → Prop) (c : CI x (sg, pl, hn, hl, sv, sl, bl, bf, ep, nm) M) (K : ∀ M', CI x (sg, pl, hn, hl, sv, sl, bl, bf, ep, nm) M' → FrG x (x + 149) M M' → P (seA sg pl p k) M') : w_X7_service M x (nI p) (nI k) P X := by
  have ok2 := ok
  obtain ⟨hs, hp, h10, hhl, hsl, hbl, hby, hep, nm1, nm2, nm3, nm4⟩ := ok
  have b := hs.b
  have n := hp.1.n
  have d := hp.1.s hs hp2
  have K0 := K _ c FrG.rf
  obtain ⟨c10, sa, sp, hps, hx, hS, hS2, hP, hD, hH, hN, hB, hNm, hKP⟩ := c
  have kq := hP.s hp2
  rcases (show k = 0 ∨ k = 1 ∨ k = 2 ∨ k = 3 ∨ k = 4 ∨ k = 5 by omega) with rfl | rfl | rfl | rfl | rfl | rfl <;>
    simp (disch := omega) only [w_X7_service, w_X7_requireService, hx.s, hP.sh, hP.n, e_req_ok hp2, kq, e_X4_playersIn hs hp.1 hP hp2, e_X1_doublingsIn hs hp.1 hS hP hp2, seA, if_pos, if_neg, l_0, l_1, l_2, l_3, l_4, l_5, l_6, l_7, l_8, l_9, l_10, l_20, l_30, l_31, l_34, l_40, l_65, l_100, l_255, l_11, l_12, l_24, l_600, l_689, l_999, l_120, l_32, nI_add, pk_mul, n_sub, n_leT, n_leF, n_ltT, n_ltF, n_eqT, n_eqF, n_cl, n_vp, fa_andq, fa_orq, fa_xorq, n_shl, n_shr, n_t1, n_t0, n_div, n_m1, not_true_eq_false, Bool.false_eq_true, false_and, Bool.not_false, Bool.not_true, Bool.and_true, Bool.and_false, Bool.false_and, Bool.true_and, true_and, and_true, true_or, or_true, not_false_eq_true, Option.some.injEq, exists_eq_left', forall_eq, ↓reduceIte, Nat.add_zero, Nat.zero_add, and_self] at K0 ⊢ <;> exact K0
theorem cc_cast {x : Nat} {sg pl : Nat → Nat} {hn : Nat} {hl : Nat → Nat → Nat} {sv : Nat → Bool} {sl : Nat → Nat → Nat} {bl : Nat} {bf : Nat → Int32} {ep : Nat} {nm : Nat → List Nat} (ok : OKs (sg, pl, hn, hl, sv, sl, bl, bf, ep, nm)) {p w j : Nat} (hp2 : p < pl 0) (hw : w < sg 3) (hj : j < oW sg w 4) (M : Mm) (P : Int32 → Mm → Prop) (X : String → Mm → Prop) (c : CI x (sg, pl, hn, hl, sv, sl, bl, bf, ep, nm) M) (K : ∀ M', CI x (sg, pl, hn, hl, sv, sl, bl, bf, ep, nm) M' → FrG x (x + 149) M M' → P (nI (cs sg pl p (w * 6 + j))) M') : w_X7_cast M x (nI p) (nI w) (nI j) P X := by
  have ok2 := ok
  obtain ⟨hs, hp, h10, hhl, hsl, hbl, hby, hep, nm1, nm2, nm3, nm4⟩ := ok
  have b := hs.b
  have n := hp.1.n
  have sc := hs.sc hw
  have K0 := K _ c FrG.rf
  obtain ⟨c10, sa, sp, hps, hx, hS, hS2, hP, hD, hH, hN, hB, hNm, hKP⟩ := c
  simp (disch := omega) only [w_X7_cast, w_X7_requireService, w_X7_requireWork, w_X7_requireSeat, hx.s, hS.s1, hS.n, hS.w hw, hP.sh, hP.n, e_req_ok hp2, e_req_ok hw, e_req_ok hj, e_X4_playerOn hp.1 hP hp2, l_0, l_1, l_2, l_3, l_4, l_5, l_6, l_7, l_8, l_9, l_10, l_20, l_30, l_31, l_34, l_40, l_65, l_100, l_255, l_11, l_12, l_24, l_600, l_689, l_999, l_120, l_32, nI_add, pk_mul, n_sub, n_leT, n_leF, n_ltT, n_ltF, n_eqT, n_eqF, n_cl, n_vp, fa_andq, fa_orq, fa_xorq, n_shl, n_shr, n_t1, n_t0, n_div, n_m1, not_true_eq_false, Bool.false_eq_true, false_and, Bool.not_false, Bool.not_true, Bool.and_true, Bool.and_false, Bool.false_and, Bool.true_and, true_and, and_true, true_or, or_true, not_false_eq_true, Option.some.injEq, exists_eq_left', forall_eq, ↓reduceIte, Nat.add_zero, Nat.zero_add, and_self]
  exact K0
theorem cc_isBalanced {x : Nat} {sg pl : Nat → Nat} {hn : Nat} {hl : Nat → Nat → Nat} {sv : Nat → Bool} {sl : Nat → Nat → Nat} {bl : Nat} {bf : Nat → Int32} {ep : Nat} {nm : Nat → List Nat} (ok : OKs (sg, pl, hn, hl, sv, sl, bl, bf, ep, nm)) (M : Mm) (P : Int32 → Mm → Prop) (c : CI x (sg, pl, hn, hl, sv, sl, bl, bf, ep, nm) M) (K : ∀ M', CI x (sg, pl, hn, hl, sv, sl, bl, bf, ep, nm) M' → FrG x (x + 149) M M' → P (bI (balB sg pl)) M') : w_X7_isBalanced M x P := by
  have ok2 := ok
  obtain ⟨hs, hp, h10, hhl, hsl, hbl, hby, hep, nm1, nm2, nm3, nm4⟩ := ok
  have b := hs.b
  have K0 := K _ c FrG.rf
  obtain ⟨c10, sa, sp, hps, hx, hS, hS2, hP, hD, hH, hN, hB, hNm, hKP⟩ := c
  exact (e_X7_isBalanced hs hp.1 hx hS hP P).mpr K0
theorem cc_busiest {x : Nat} {sg pl : Nat → Nat} {hn : Nat} {hl : Nat → Nat → Nat} {sv : Nat → Bool} {sl : Nat → Nat → Nat} {bl : Nat} {bf : Nat → Int32} {ep : Nat} {nm : Nat → List Nat} (ok : OKs (sg, pl, hn, hl, sv, sl, bl, bf, ep, nm)) (M : Mm) (P : Int32 → Mm → Prop) (c : CI x (sg, pl, hn, hl, sv, sl, bl, bf, ep, nm) M) (K : ∀ M', CI x (sg, pl, hn, hl, sv, sl, bl, bf, ep, nm) M' → FrG x (x + 149) M M' → P (nI (bz sg pl (sg 2))) M') : w_X7_busiest M x P := by
  have ok2 := ok
  obtain ⟨hs, hp, h10, hhl, hsl, hbl, hby, hep, nm1, nm2, nm3, nm4⟩ := ok
  have b := hs.b
  have K0 := K _ c FrG.rf
  obtain ⟨c10, sa, sp, hps, hx, hS, hS2, hP, hD, hH, hN, hB, hNm, hKP⟩ := c
  exact (e_X7_busiest hs hp.1 hx hS hP P).mpr K0
theorem cc_isWithoutClash {x : Nat} {sg pl : Nat → Nat} {hn : Nat} {hl : Nat → Nat → Nat} {sv : Nat → Bool} {sl : Nat → Nat → Nat} {bl : Nat} {bf : Nat → Int32} {ep : Nat} {nm : Nat → List Nat} (ok : OKs (sg, pl, hn, hl, sv, sl, bl, bf, ep, nm)) (M : Mm) (P : Int32 → Mm → Prop) (c : CI x (sg, pl, hn, hl, sv, sl, bl, bf, ep, nm) M) (K : ∀ M', CI x (sg, pl, hn, hl, sv, sl, bl, bf, ep, nm) M' → FrG x (x + 149) M M' → P (nI 1) M') : w_X7_isWithoutClash M x P := by
  have ok2 := ok
  obtain ⟨hs, hp, h10, hhl, hsl, hbl, hby, hep, nm1, nm2, nm3, nm4⟩ := ok
  have b := hs.b
  have K0 := K _ c FrG.rf
  obtain ⟨c10, sa, sp, hps, hx, hS, hS2, hP, hD, hH, hN, hB, hNm, hKP⟩ := c
  exact (e_X7_isWithoutClash hs hp hx hP P).mpr K0
theorem cc_fewestDoublings {x : Nat} {sg pl : Nat → Nat} {hn : Nat} {hl : Nat → Nat → Nat} {sv : Nat → Bool} {sl : Nat → Nat → Nat} {bl : Nat} {bf : Nat → Int32} {ep : Nat} {nm : Nat → List Nat} (ok : OKs (sg, pl, hn, hl, sv, sl, bl, bf, ep, nm)) {w t : Nat} (hw : w < sg 3) (ht : t < sg 0 * 3) (M : Mm) (P : Int32 → Mm → Prop) (X : String → Mm → Prop) (c : CI x (sg, pl, hn, hl, sv, sl, bl, bf, ep, nm) M) (K : ∀ M', CI x (sg, pl, hn, hl, sv, sl, bl, bf, ep, nm) M' → FrG x (x + 149) M M' → P (nI (ansD sg w (free sg pl t))) M') : w_X7_fewestDoublings M x (nI w) (nI t) P X := by
  have ok2 := ok
  obtain ⟨hs, hp, h10, hhl, hsl, hbl, hby, hep, nm1, nm2, nm3, nm4⟩ := ok
  have b := hs.b
  have e3 : 3 * sg 0 = sg 0 * 3 := Nat.mul_comm _ _
  have fl := free_lt (pl := pl) hs t
  have c2 := c
  obtain ⟨c10, sa, sp, hps, hx, hS, hS2, hP, hD, hH, hN, hB, hNm, hKP⟩ := c
  have at_ := hx.at
  simp (disch := omega) only [w_X7_fewestDoublings, w_X7_requireWork, w_X7_requireSlot, hx.s, hx.ko, hS.s1, hS.n, e_req_ok hw, e_X6_slotCount hS, e_req_ok ht, e_X7_freePlayers hs hp.1 hx.xr hS hP, l_0, l_1, l_2, l_3, l_4, l_5, l_6, l_7, l_8, l_9, l_10, l_20, l_30, l_31, l_34, l_40, l_65, l_100, l_255, l_11, l_12, l_24, l_600, l_689, l_999, l_120, l_32, nI_add, pk_mul, n_sub, n_leT, n_leF, n_ltT, n_ltF, n_eqT, n_eqF, n_cl, n_vp, fa_andq, fa_orq, fa_xorq, n_shl, n_shr, n_t1, n_t0, n_div, n_m1, not_true_eq_false, Bool.false_eq_true, false_and, Bool.not_false, Bool.not_true, Bool.and_true, Bool.and_false, Bool.false_and, Bool.true_and, true_and, and_true, true_or, or_true, not_false_eq_true, Option.some.injEq, exists_eq_left', forall_eq, ↓reduceIte, Nat.add_zero, Nat.zero_add, and_self]
  refine s_X0_castWork hs hS hx.ks hKP (by omega) hw fl _ fun M2 f2 kp2 g2 => ?_
  have fk : FK x (RK x) M M2 := ⟨f2, fun _ => kp2⟩
  exact K M2 (c2.dr (RK.g fk)) (RDr.g (RK.g fk))
theorem cc_whyNot {x : Nat} {sg pl : Nat → Nat} {hn : Nat} {hl : Nat → Nat → Nat} {sv : Nat → Bool} {sl : Nat → Nat → Nat} {bl : Nat} {bf : Nat → Int32} {ep : Nat} {nm : Nat → List Nat} (ok : OKs (sg, pl, hn, hl, sv, sl, bl, bf, ep, nm)) {ha t n c : Nat} (h1 : ha < sg 1) (h2 : t < sg 0 * 3) (g : gset (sg 3) c n) (hc : c < 2) (M : Mm) (P : Int32 → Mm → Prop) (X : String → Mm → Prop) (ci : CI x (sg, pl, hn, hl, sv, sl, bl, bf, ep, nm) M) (K : ∀ M', CI x (sg, pl, hn, hl, sv, sl, bl, bf, ep, nm) M' → FrG x (x + 149) M M' → P (nI (whyN sg pl ha t n c)) M') : w_X7_whyNot M x (nI ha) (nI t) (nI n) (nI c) P X := by
  have ok2 := ok
  obtain ⟨hs, hp, h10, hhl, hsl, hbl, hby, hep, nm1, nm2, nm3, nm4⟩ := ok
  have b := hs.b
  have n32 : n < 32 := by have := g.1; have := (p2le (sg 3) (by omega)).2; omega
  have c2 := ci
  obtain ⟨c10, sa, sp, hps, hx, hS, hS2, hP, hD, hH, hN, hB, hNm, hKP⟩ := ci
  simp (disch := omega) only [w_X7_whyNot, hx.s, e_rpw_ok hs hx hS h1 h2 hc g, not_true_eq_false, Bool.false_eq_true, false_and, Bool.not_false, Bool.not_true, Bool.and_true, Bool.and_false, Bool.false_and, Bool.true_and, true_and, and_true, true_or, or_true, not_false_eq_true, Option.some.injEq, exists_eq_left', forall_eq, ↓reduceIte, Nat.add_zero, Nat.zero_add, and_self]
  refine s_X7_reasonAgainst hs hp.1 hx hKP hS hP h1 (by omega) n32 hc _ fun M2 f2 => ?_
  exact K M2 (c2.dr (RK.g f2)) (RDr.g (RK.g f2))
theorem cc_earliest {x : Nat} {sg pl : Nat → Nat} {hn : Nat} {hl : Nat → Nat → Nat} {sv : Nat → Bool} {sl : Nat → Nat → Nat} {bl : Nat} {bf : Nat → Int32} {ep : Nat} {nm : Nat → List Nat} (ok : OKs (sg, pl, hn, hl, sv, sl, bl, bf, ep, nm)) {ha t n c : Nat} (h1 : ha < sg 1) (h2 : t < sg 0 * 3) (g : gset (sg 3) c n) (hc : c < 2) (M : Mm) (P : Int32 → Mm → Prop) (X : String → Mm → Prop) (ci : CI x (sg, pl, hn, hl, sv, sl, bl, bf, ep, nm) M) (K : ∀ M', CI x (sg, pl, hn, hl, sv, sl, bl, bf, ep, nm) M' → FrG x (x + 149) M M' → P (nI (eaN sg pl ha n c t)) M') : w_X7_earliest M x (nI ha) (nI t) (nI n) (nI c) P X := by
  have ok2 := ok
  obtain ⟨hs, hp, h10, hhl, hsl, hbl, hby, hep, nm1, nm2, nm3, nm4⟩ := ok
  have b := hs.b
  have e3 : 3 * sg 0 = sg 0 * 3 := Nat.mul_comm _ _
  have n32 : n < 32 := by have := g.1; have := (p2le (sg 3) (by omega)).2; omega
  have c2 := ci
  obtain ⟨c10, sa, sp, hps, hx, hS, hS2, hP, hD, hH, hN, hB, hNm, hKP⟩ := ci
  have at_ := hx.at
  simp (disch := omega) only [w_X7_earliest, hx.s, e_rpw_ok hs hx hS h1 h2 hc g, l_0, l_1, l_2, l_3, l_4, l_5, l_6, l_7, l_8, l_9, l_10, l_20, l_30, l_31, l_34, l_40, l_65, l_100, l_255, l_11, l_12, l_24, l_600, l_689, l_999, l_120, l_32, n_m1, not_true_eq_false, Bool.false_eq_true, false_and, Bool.not_false, Bool.not_true, Bool.and_true, Bool.and_false, Bool.false_and, Bool.true_and, true_and, and_true, true_or, or_true, not_false_eq_true, Option.some.injEq, exists_eq_left', forall_eq, ↓reduceIte, Nat.add_zero, Nat.zero_add, and_self]
  refine lpI (fun n1 (z : Mm × Int32) => l_X7_earliest_12 P X (fun M6 x5_6 => P x5_6 M6) (fun M7 => P (nI 4294967295) M7) n1 z.1 x (nI ha) (nI n) (nI c) z.2) (fun k z => (FK x (RDr x) M z.1 ∧ ∀ j, j < k → whyN sg pl ha (t + j) n c ≠ 0) ∧ z.2 = nI (t + k)) (sg 0 * 3 - t) ?_ ?_ (M, nI t) ⟨⟨FK.rf, fun j hj => absurd hj (Nat.not_lt_zero j)⟩, rfl⟩
  · rintro n1 ⟨M1, a1⟩ ⟨⟨f, q⟩, e1⟩
    dsimp only at f q e1 ⊢
    subst e1
    have x1 := hx.fr f.1
    have h1' := hS.fr f.1 (by unfold RDr; omega)
    have K0 := K M1 (c2.dr f) (RDr.g f)
    rw [eaN_no q] at K0
    simp (disch := omega) only [l_X7_earliest_12, x1.s, h1'.s1, e_X6_slotCount h1', l_0, l_1, l_2, l_3, l_4, l_5, l_6, l_7, l_8, l_9, l_10, l_20, l_30, l_31, l_34, l_40, l_65, l_100, l_255, l_11, l_12, l_24, l_600, l_689, l_999, l_120, l_32, nI_add, pk_mul, n_sub, n_leT, n_leF, n_ltT, n_ltF, n_eqT, n_eqF, n_cl, n_vp, fa_andq, fa_orq, fa_xorq, n_shl, n_shr, n_t1, n_t0, n_div, n_m1, not_true_eq_false, Bool.false_eq_true, false_and, Bool.not_false, Bool.not_true, Bool.and_true, Bool.and_false, Bool.false_and, Bool.true_and, true_and, and_true, true_or, or_true, not_false_eq_true, Option.some.injEq, exists_eq_left', forall_eq, ↓reduceIte, Nat.add_zero, Nat.zero_add, and_self]
    exact K0
  · rintro n1 k ⟨M1, a1⟩ hk ⟨⟨f, q⟩, e1⟩ L
    dsimp only at f q e1 L ⊢
    subst e1
    have x1 := hx.fr f.1
    have h1' := hS.fr f.1 (by unfold RDr; omega)
    have p1 := hP.fr f.1 (by unfold RDr; omega)
    simp (disch := omega) only [l_X7_earliest_12, x1.s, h1'.s1, e_X6_slotCount h1', l_0, l_1, l_2, l_3, l_4, l_5, l_6, l_7, l_8, l_9, l_10, l_20, l_30, l_31, l_34, l_40, l_65, l_100, l_255, l_11, l_12, l_24, l_600, l_689, l_999, l_120, l_32, nI_add, pk_mul, n_sub, n_leT, n_leF, n_ltT, n_ltF, n_eqT, n_eqF, n_cl, n_vp, fa_andq, fa_orq, fa_xorq, n_shl, n_shr, n_t1, n_t0, n_div, n_m1, not_true_eq_false, Bool.false_eq_true, false_and, Bool.not_false, Bool.not_true, Bool.and_true, Bool.and_false, Bool.false_and, Bool.true_and, true_and, and_true, true_or, or_true, not_false_eq_true, Option.some.injEq, exists_eq_left', forall_eq, ↓reduceIte, Nat.add_zero, Nat.zero_add, and_self]
    refine s_X7_reasonAgainst hs hp.1 x1 (f.2 hKP) h1' p1 h1 (by omega) n32 hc _ fun M2 f2 => ?_
    have f3 := f.trans (RK.g f2)
    have wl := whyN_lt sg pl ha (t + k) n c
    by_cases z : whyN sg pl ha (t + k) n c = 0
    · have K0 := K M2 (c2.dr f3) (RDr.g f3)
      rw [eaN_at hk z q] at K0
      simp (disch := omega) only [z, l_0, l_1, l_2, l_3, l_4, l_5, l_6, l_7, l_8, l_9, l_10, l_20, l_30, l_31, l_34, l_40, l_65, l_100, l_255, l_11, l_12, l_24, l_600, l_689, l_999, l_120, l_32, nI_add, pk_mul, n_sub, n_leT, n_leF, n_ltT, n_ltF, n_eqT, n_eqF, n_cl, n_vp, fa_andq, fa_orq, fa_xorq, n_shl, n_shr, n_t1, n_t0, n_div, n_m1, not_true_eq_false, Bool.false_eq_true, false_and, Bool.not_false, Bool.not_true, Bool.and_true, Bool.and_false, Bool.false_and, Bool.true_and, true_and, and_true, true_or, or_true, not_false_eq_true, Option.some.injEq, exists_eq_left', forall_eq, ↓reduceIte, Nat.add_zero, Nat.zero_add, and_self]
      exact K0
    · simp (disch := omega) only [l_0, l_1, l_2, l_3, l_4, l_5, l_6, l_7, l_8, l_9, l_10, l_20, l_30, l_31, l_34, l_40, l_65, l_100, l_255, l_11, l_12, l_24, l_600, l_689, l_999, l_120, l_32, nI_add, pk_mul, n_sub, n_leT, n_leF, n_ltT, n_ltF, n_eqT, n_eqF, n_cl, n_vp, fa_andq, fa_orq, fa_xorq, n_shl, n_shr, n_t1, n_t0, n_div, n_m1, not_true_eq_false, Bool.false_eq_true, false_and, Bool.not_false, Bool.not_true, Bool.and_true, Bool.and_false, Bool.false_and, Bool.true_and, true_and, and_true, true_or, or_true, not_false_eq_true, Option.some.injEq, exists_eq_left', forall_eq, ↓reduceIte, Nat.add_zero, Nat.zero_add, and_self]
      refine L (M2, _) ⟨⟨f3, fun j hj => ?_⟩, rfl⟩
      by_cases e : j = k
      · subst e; exact z
      · exact q j (by omega)
theorem cc_whyNotMove {x : Nat} {sg pl : Nat → Nat} {hn : Nat} {hl : Nat → Nat → Nat} {sv : Nat → Bool} {sl : Nat → Nat → Nat} {bl : Nat} {bf : Nat → Int32} {ep : Nat} {nm : Nat → List Nat} (ok : OKs (sg, pl, hn, hl, sv, sl, bl, bf, ep, nm)) {p t : Nat} (hp2 : p < pl 0) (ht : t < sg 0 * 3) (M : Mm) (P : Int32 → Mm → Prop) (X : String → Mm → Prop) (c : CI x (sg, pl, hn, hl, sv, sl, bl, bf, ep, nm) M) (K : ∀ M', CI x (sg, pl, hn, hl, sv, sl, bl, bf, ep, nm) M' → FrG x (x + 149) M M' → P (nI (mvN sg pl p t)) M') : w_X7_whyNotMove M x (nI p) (nI t) P X := by
  have ok2 := ok
  obtain ⟨hs, hp, h10, hhl, hsl, hbl, hby, hep, nm1, nm2, nm3, nm4⟩ := ok
  have b := hs.b
  have n := hp.1.n
  have e3 : 3 * sg 0 = sg 0 * 3 := Nat.mul_comm _ _
  have c2 := c
  obtain ⟨c10, sa, sp, hps, hx, hS, hS2, hP, hD, hH, hN, hB, hNm, hKP⟩ := c
  simp (disch := omega) only [w_X7_whyNotMove, w_X7_requireService, w_X7_requireSlot, hx.s, hS.s1, hP.sh, hP.n, e_req_ok hp2, e_X6_slotCount hS, e_req_ok ht, l_0, l_1, l_2, l_3, l_4, l_5, l_6, l_7, l_8, l_9, l_10, l_20, l_30, l_31, l_34, l_40, l_65, l_100, l_255, l_11, l_12, l_24, l_600, l_689, l_999, l_120, l_32, nI_add, pk_mul, n_sub, n_leT, n_leF, n_ltT, n_ltF, n_eqT, n_eqF, n_cl, n_vp, fa_andq, fa_orq, fa_xorq, n_shl, n_shr, n_t1, n_t0, n_div, n_m1, not_true_eq_false, Bool.false_eq_true, false_and, Bool.not_false, Bool.not_true, Bool.and_true, Bool.and_false, Bool.false_and, Bool.true_and, true_and, and_true, true_or, or_true, not_false_eq_true, Option.some.injEq, exists_eq_left', forall_eq, ↓reduceIte, Nat.add_zero, Nat.zero_add, and_self]
  refine s_X7_draftMove hs hx hKP hS hp hP hD hp2 (by omega) _ fun M2 f2 g2 => K M2 (c2.dr f2) (RDr.g f2)
theorem cc_costsWith {x : Nat} {sg pl : Nat → Nat} {hn : Nat} {hl : Nat → Nat → Nat} {sv : Nat → Bool} {sl : Nat → Nat → Nat} {bl : Nat} {bf : Nat → Int32} {ep : Nat} {nm : Nat → List Nat} (ok : OKs (sg, pl, hn, hl, sv, sl, bl, bf, ep, nm)) {ha t n c : Nat} (h1 : ha < sg 1) (h2 : t < sg 0 * 3) (g : gset (sg 3) c n) (hc : c < 2) (w0 : whyN sg pl ha t n c = 0) (M : Mm) (P : Int32 → Mm → Prop) (X : String → Mm → Prop) (ci : CI x (sg, pl, hn, hl, sv, sl, bl, bf, ep, nm) M) (K : ∀ M', CI x (sg, pl, hn, hl, sv, sl, bl, bf, ep, nm) M' → FrG x (x + 149) M M' → P (costI sg (cm sg pl (psn pl ha t) t ha n c (free sg pl t)) 3) M') : w_X7_costsWith M x (nI ha) (nI t) (nI n) (nI c) P X := by
  have ok2 := ok
  obtain ⟨hs, hp, h10, hhl, hsl, hbl, hby, hep, nm1, nm2, nm3, nm4⟩ := ok
  have b := hs.b
  have n32 : n < 32 := by have := g.1; have := (p2le (sg 3) (by omega)).2; omega
  obtain ⟨w1, w2, w3⟩ := why0 w0 hp.1
  have pc2 : PG sg (cm sg pl (psn pl ha t) t ha n c (free sg pl t)) := PGcm hs hp w1 (by omega) h1 (by omega) g.1 w2 w3
  have c2 := ci
  obtain ⟨c10, sa, sp, hps, hx, hS, hS2, hP, hD, hH, hN, hB, hNm, hKP⟩ := ci
  have at_ := hx.at
  simp (disch := omega) only [w_X7_costsWith, hx.s, e_rpw_ok hs hx hS h1 h2 hc g, not_true_eq_false, Bool.false_eq_true, false_and, Bool.not_false, Bool.not_true, Bool.and_true, Bool.and_false, Bool.false_and, Bool.true_and, true_and, and_true, true_or, or_true, not_false_eq_true, Option.some.injEq, exists_eq_left', forall_eq, ↓reduceIte, Nat.add_zero, Nat.zero_add, and_self]
  refine s_X7_reasonAgainst hs hp.1 hx hKP hS hP h1 (by omega) n32 hc _ fun M2 f2 => ?_
  have x2 := hx.fr f2.1
  have S2 := hS.fr f2.1 (by unfold RK; omega)
  have P2 := hP.fr f2.1 (by unfold RK; omega)
  have D2 := hD.fr f2.1
  simp (disch := omega) only [w0, x2.s, D2.u, l_0, l_1, l_2, l_3, l_4, l_5, l_6, l_7, l_8, l_9, l_10, l_20, l_30, l_31, l_34, l_40, l_65, l_100, l_255, l_11, l_12, l_24, l_600, l_689, l_999, l_120, l_32, nI_add, pk_mul, n_sub, n_leT, n_leF, n_ltT, n_ltF, n_eqT, n_eqF, n_cl, n_vp, fa_andq, fa_orq, fa_xorq, n_shl, n_shr, n_t1, n_t0, n_div, n_m1, not_true_eq_false, Bool.false_eq_true, false_and, Bool.not_false, Bool.not_true, Bool.and_true, Bool.and_false, Bool.false_and, Bool.true_and, true_and, and_true, true_or, or_true, not_false_eq_true, Option.some.injEq, exists_eq_left', forall_eq, ↓reduceIte, Nat.add_zero, Nat.zero_add, and_self]
  refine s_X4_copyFrom D2 P2.raw (by omega) hp.1.n (by omega) _ fun M3 f3 g3 => ?_
  have x3 := x2.fr f3
  have S3 := S2.fr f3 (by unfold RP; omega)
  simp (disch := omega) only [x3.s, not_true_eq_false, Bool.false_eq_true, false_and, Bool.not_false, Bool.not_true, Bool.and_true, Bool.and_false, Bool.false_and, Bool.true_and, true_and, and_true, true_or, or_true, not_false_eq_true, Option.some.injEq, exists_eq_left', forall_eq, ↓reduceIte, Nat.add_zero, Nat.zero_add, and_self]
  refine s_X7_addToDraft hs x3 ((f2.2 hKP).fr f3 (by unfold RP; omega)) S3 hp.1 g3.cpl w1 (by omega) (by omega) hc n32 _ fun M4 f4 g4 => ?_
  have x4 := x3.fr f4.1
  have S4 := S3.fr f4.1 (by unfold RDr; omega)
  have F : FK x (RDr x) M M4 := ((RK.g f2).trans ((FK.of f3 (by unfold RP; omega)).mono fun q hq => by unfold RP at hq; unfold RDr; omega)).trans f4
  simp (disch := omega) only [x4.s, l_0, l_1, l_2, l_3, l_4, l_5, l_6, l_7, l_8, l_9, l_10, l_20, l_30, l_31, l_34, l_40, l_65, l_100, l_255, l_11, l_12, l_24, l_600, l_689, l_999, l_120, l_32, e_X1_costsOf hs pc2.1 S4 g4, not_true_eq_false, Bool.false_eq_true, false_and, Bool.not_false, Bool.not_true, Bool.and_true, Bool.and_false, Bool.false_and, Bool.true_and, true_and, and_true, true_or, or_true, not_false_eq_true, Option.some.injEq, exists_eq_left', forall_eq, ↓reduceIte, Nat.add_zero, Nat.zero_add, and_self]
  exact K M4 (c2.dr F) (RDr.g F)
theorem cc_costsWith_no {x : Nat} {sg pl : Nat → Nat} {hn : Nat} {hl : Nat → Nat → Nat} {sv : Nat → Bool} {sl : Nat → Nat → Nat} {bl : Nat} {bf : Nat → Int32} {ep : Nat} {nm : Nat → List Nat} (ok : OKs (sg, pl, hn, hl, sv, sl, bl, bf, ep, nm)) {ha t n c : Nat} (h1 : ha < sg 1) (h2 : t < sg 0 * 3) (g : gset (sg 3) c n) (hc : c < 2) (w0 : whyN sg pl ha t n c ≠ 0) (M : Mm) (P : Int32 → Mm → Prop) (X : String → Mm → Prop) (ci : CI x (sg, pl, hn, hl, sv, sl, bl, bf, ep, nm) M) (K : ∀ M', CI x (sg, pl, hn, hl, sv, sl, bl, bf, ep, nm) M' → FrG x (x + 149) M M' → P (nI 4294967295) M') : w_X7_costsWith M x (nI ha) (nI t) (nI n) (nI c) P X := by
  have ok2 := ok
  obtain ⟨hs, hp, h10, hhl, hsl, hbl, hby, hep, nm1, nm2, nm3, nm4⟩ := ok
  have b := hs.b
  have n32 : n < 32 := by have := g.1; have := (p2le (sg 3) (by omega)).2; omega
  have wlt := whyN_lt sg pl ha t n c
  have c2 := ci
  obtain ⟨c10, sa, sp, hps, hx, hS, hS2, hP, hD, hH, hN, hB, hNm, hKP⟩ := ci
  simp (disch := omega) only [w_X7_costsWith, hx.s, e_rpw_ok hs hx hS h1 h2 hc g, not_true_eq_false, Bool.false_eq_true, false_and, Bool.not_false, Bool.not_true, Bool.and_true, Bool.and_false, Bool.false_and, Bool.true_and, true_and, and_true, true_or, or_true, not_false_eq_true, Option.some.injEq, exists_eq_left', forall_eq, ↓reduceIte, Nat.add_zero, Nat.zero_add, and_self]
  refine s_X7_reasonAgainst hs hp.1 hx hKP hS hP h1 (by omega) n32 hc _ fun M2 f2 => ?_
  simp (disch := omega) only [l_0, l_1, l_2, l_3, l_4, l_5, l_6, l_7, l_8, l_9, l_10, l_20, l_30, l_31, l_34, l_40, l_65, l_100, l_255, l_11, l_12, l_24, l_600, l_689, l_999, l_120, l_32, nI_add, pk_mul, n_sub, n_leT, n_leF, n_ltT, n_ltF, n_eqT, n_eqF, n_cl, n_vp, fa_andq, fa_orq, fa_xorq, n_shl, n_shr, n_t1, n_t0, n_div, n_m1, not_true_eq_false, Bool.false_eq_true, false_and, Bool.not_false, Bool.not_true, Bool.and_true, Bool.and_false, Bool.false_and, Bool.true_and, true_and, and_true, true_or, or_true, not_false_eq_true, Option.some.injEq, exists_eq_left', forall_eq, ↓reduceIte, Nat.add_zero, Nat.zero_add, and_self]
  exact K M2 (c2.dr (RK.g f2)) (RDr.g (RK.g f2))
theorem cc_rehearse {x : Nat} {sg pl : Nat → Nat} {hn : Nat} {hl : Nat → Nat → Nat} {sv : Nat → Bool} {sl : Nat → Nat → Nat} {bl : Nat} {bf : Nat → Int32} {ep : Nat} {nm : Nat → List Nat} (ok : OKs (sg, pl, hn, hl, sv, sl, bl, bf, ep, nm)) {ha t wk : Nat} (h1 : ha < sg 1) (h2 : t < sg 0 * 3) (hw : wk < sg 3) (w0 : whyN sg pl ha t (2 ^ wk) 0 = 0) (M : Mm) (P : Int32 → Mm → Prop) (X : String → Mm → Prop) (c : CI x (sg, pl, hn, hl, sv, sl, bl, bf, ep, nm) M) (K : ∀ M', CI x (sg, cm sg pl (psn pl ha t) t ha (2 ^ wk) 0 (free sg pl t), pushn hn, push hn hl pl, sv, sl, bl, bf, ep, nm) M' → FrG x (x + 149) M M' → P (nI (psn pl ha t)) M') : w_X7_rehearse M x (nI ha) (nI t) (nI wk) P X := by
  have ok2 := ok
  obtain ⟨hs, hp, h10, hhl, hsl, hbl, hby, hep, nm1, nm2, nm3, nm4⟩ := ok
  have b := hs.b
  have pw := p2le (sg 3) (by omega)
  have pS : 2 ^ wk < 2 ^ sg 3 := Nat.pow_lt_pow_right (by decide) hw
  obtain ⟨w1, w2, w3⟩ := why0 w0 hp.1
  have pc2 : PG sg (cm sg pl (psn pl ha t) t ha (2 ^ wk) 0 (free sg pl t)) := PGcm hs hp w1 (by omega) h1 (by omega) pS w2 w3
  have c2 := c
  obtain ⟨c10, sa, sp, hps, hx, hS, hS2, hP, hD, hH, hN, hB, hNm, hKP⟩ := c
  simp (disch := omega) only [w_X7_rehearse, w_X7_requireHall, w_X7_requireSlot, w_X7_requireWork, hx.s, hS.s1, hS.n, e_req_ok h1, e_X6_slotCount hS, e_req_ok h2, e_req_ok hw, l_0, l_1, l_2, l_3, l_4, l_5, l_6, l_7, l_8, l_9, l_10, l_20, l_30, l_31, l_34, l_40, l_65, l_100, l_255, l_11, l_12, l_24, l_600, l_689, l_999, l_120, l_32, fa_andq, n_shl, not_true_eq_false, Bool.false_eq_true, false_and, Bool.not_false, Bool.not_true, Bool.and_true, Bool.and_false, Bool.false_and, Bool.true_and, true_and, and_true, true_or, or_true, not_false_eq_true, Option.some.injEq, exists_eq_left', forall_eq, ↓reduceIte, Nat.add_zero, Nat.zero_add, and_self]
  exact s_addService_ok ok2 c2 h1 h2 pS (by omega) w0 _ _ K
theorem cc_concert {x : Nat} {sg pl : Nat → Nat} {hn : Nat} {hl : Nat → Nat → Nat} {sv : Nat → Bool} {sl : Nat → Nat → Nat} {bl : Nat} {bf : Nat → Int32} {ep : Nat} {nm : Nat → List Nat} (ok : OKs (sg, pl, hn, hl, sv, sl, bl, bf, ep, nm)) {ha t n : Nat} (h1 : ha < sg 1) (h2 : t < sg 0 * 3) (g : gset (sg 3) 1 n) (w0 : whyN sg pl ha t n 1 = 0) (M : Mm) (P : Int32 → Mm → Prop) (X : String → Mm → Prop) (c : CI x (sg, pl, hn, hl, sv, sl, bl, bf, ep, nm) M) (K : ∀ M', CI x (sg, cm sg pl (psn pl ha t) t ha n 1 (free sg pl t), pushn hn, push hn hl pl, sv, sl, bl, bf, ep, nm) M' → FrG x (x + 149) M M' → P (nI (psn pl ha t)) M') : w_X7_concert M x (nI ha) (nI t) (nI n) P X := by
  have ok2 := ok
  obtain ⟨hs, hp, h10, hhl, hsl, hbl, hby, hep, nm1, nm2, nm3, nm4⟩ := ok
  have b := hs.b
  have pw := p2le (sg 3) (by omega)
  have hc : 1 < 2 := by omega
  have n32 : n < 32 := by have := g.1; have := (p2le (sg 3) (by omega)).2; omega
  obtain ⟨w1, w2, w3⟩ := why0 w0 hp.1
  have pc2 : PG sg (cm sg pl (psn pl ha t) t ha n 1 (free sg pl t)) := PGcm hs hp w1 (by omega) h1 (by omega) g.1 w2 w3
  have c2 := c
  obtain ⟨c10, sa, sp, hps, hx, hS, hS2, hP, hD, hH, hN, hB, hNm, hKP⟩ := c
  simp (disch := omega) only [w_X7_concert, hx.s, l_0, l_1, l_2, l_3, l_4, l_5, l_6, l_7, l_8, l_9, l_10, l_20, l_30, l_31, l_34, l_40, l_65, l_100, l_255, l_11, l_12, l_24, l_600, l_689, l_999, l_120, l_32, e_rpw_ok hs hx hS h1 h2 hc g, not_true_eq_false, Bool.false_eq_true, false_and, Bool.not_false, Bool.not_true, Bool.and_true, Bool.and_false, Bool.false_and, Bool.true_and, true_and, and_true, true_or, or_true, not_false_eq_true, Option.some.injEq, exists_eq_left', forall_eq, ↓reduceIte, Nat.add_zero, Nat.zero_add, and_self]
  exact s_addService_ok ok2 c2 h1 h2 g.1 (by omega) w0 _ _ K
theorem cc_cancel {x : Nat} {sg pl : Nat → Nat} {hn : Nat} {hl : Nat → Nat → Nat} {sv : Nat → Bool} {sl : Nat → Nat → Nat} {bl : Nat} {bf : Nat → Int32} {ep : Nat} {nm : Nat → List Nat} (ok : OKs (sg, pl, hn, hl, sv, sl, bl, bf, ep, nm)) {p : Nat} (hp2 : p < pl 0) (w0 : rehd sg (off pl p) = true) (M : Mm) (P : Int32 → Mm → Prop) (X : String → Mm → Prop) (c : CI x (sg, pl, hn, hl, sv, sl, bl, bf, ep, nm) M) (K : ∀ M', CI x (sg, off pl p, pushn hn, push hn hl pl, sv, sl, bl, bf, ep, nm) M' → FrG x (x + 149) M M' → P (nI (pl 0 - 1)) M') : w_X7_cancel M x (nI p) P X := by
  have ok2 := ok
  obtain ⟨hs, hp, h10, hhl, hsl, hbl, hby, hep, nm1, nm2, nm3, nm4⟩ := ok
  have b := hs.b
  have n := hp.1.n
  have g := PGoff hs hp hp2
  have cls : ∀ M, CI x (sg, pl, hn, hl, sv, sl, bl, bf, ep, nm) M → ∀ (P : Int32 → Mm → Prop) (X : String → Mm → Prop), (∀ M4, FK x (RDr x) M M4 → CI x (sg, pl, hn, hl, sv, sl, bl, bf, ep, nm) M4 → CPl (x + 13) sg (off pl p) M4 → w_X7_requireState M4 (bI (rehd sg (off pl p))) (fun M9 => zk M9 x = 7 ∧ w_X7_acceptDraft M9 x (fun M10 => (zk M10 x = 7 ∧ ∃ a11, zR M10 x 2 = some a11 ∧ zk M10 a11 = 4 ∧ P (zI M10 a11 0) M10))) X) → w_X7_cancel M x (nI p) P X := fun M c P X K => by
    have c2 := c
    obtain ⟨c10, sa, sp, hps, hx, hS, hS2, hP, hD, hH, hN, hB, hNm, hKP⟩ := c
    have at_ := hx.at
    simp (disch := omega) only [w_X7_cancel, w_X7_requireService, hx.s, hP.sh, hP.n, e_req_ok hp2, hD.u, not_true_eq_false, Bool.false_eq_true, false_and, Bool.not_false, Bool.not_true, Bool.and_true, Bool.and_false, Bool.false_and, Bool.true_and, true_and, and_true, true_or, or_true, not_false_eq_true, Option.some.injEq, exists_eq_left', forall_eq, ↓reduceIte, Nat.add_zero, Nat.zero_add, and_self]
    refine s_X4_copyFrom hD hP.raw (by omega) n (by omega) _ fun M2 f2 g2 => ?_
    have x2 := hx.fr f2
    have S2 := hS.fr f2 (by unfold RP; omega)
    simp (disch := omega) only [x2.s, g2.sh, not_true_eq_false, Bool.false_eq_true, false_and, Bool.not_false, Bool.not_true, Bool.and_true, Bool.and_false, Bool.false_and, Bool.true_and, true_and, and_true, true_or, or_true, not_false_eq_true, Option.some.injEq, exists_eq_left', forall_eq, ↓reduceIte, Nat.add_zero, Nat.zero_add, and_self]
    refine CPl.off g2.cpl hs hp2 n _ fun M3 f3 g3 => ?_
    have x3 := x2.fr f3
    have S3 := S2.fr f3 (by unfold RP; omega)
    have F : FK x (RDr x) M M3 := ((FK.of f2 (by unfold RP; omega)).mono fun q hq => by unfold RP at hq; unfold RDr; omega).trans ((FK.of f3 (by unfold RP; omega)).mono fun q hq => by unfold RP at hq; unfold RDr; omega)
    simp (disch := omega) only [x3.s, e_X7_isEveryConcertRehearsed hs g.1 x3.xr S3 g3, not_true_eq_false, Bool.false_eq_true, false_and, Bool.not_false, Bool.not_true, Bool.and_true, Bool.and_false, Bool.false_and, Bool.true_and, true_and, and_true, true_or, or_true, not_false_eq_true, Option.some.injEq, exists_eq_left', forall_eq, ↓reduceIte, Nat.add_zero, Nat.zero_add, and_self]
    exact K M3 F (c2.dr F) g3
  refine cls M c P X fun M4 F c4 g4 => ?_
  rw [w0]
  have c5 := c4
  obtain ⟨c10, sa, sp, hps, hx, hS, hS2, hP, hD, hH, hN, hB, hNm, hKP⟩ := c5
  simp (disch := omega) only [w_X7_requireState, hx.s, bI_t, l_0, l_1, l_2, l_3, l_4, l_5, l_6, l_7, l_8, l_9, l_10, l_20, l_30, l_31, l_34, l_40, l_65, l_100, l_255, l_11, l_12, l_24, l_600, l_689, l_999, l_120, l_32, nI_add, pk_mul, n_sub, n_leT, n_leF, n_ltT, n_ltF, n_eqT, n_eqF, n_cl, n_vp, fa_andq, fa_orq, fa_xorq, n_shl, n_shr, n_t1, n_t0, n_div, n_m1, not_true_eq_false, Bool.false_eq_true, false_and, Bool.not_false, Bool.not_true, Bool.and_true, Bool.and_false, Bool.false_and, Bool.true_and, true_and, and_true, true_or, or_true, not_false_eq_true, Option.some.injEq, exists_eq_left', forall_eq, ↓reduceIte, Nat.add_zero, Nat.zero_add, and_self]
  refine s_accCI ok2 c4 g4 g.1 _ fun M6 c6 g6 => ?_
  have K6 := K M6 c6 ((RDr.g F).trans g6)
  clear hx hS hS2 hP hD hH hN hB hNm
  obtain ⟨-, sa6, sp6, hps6, hx6, hS6, -, hP6, -, -, -, -, -⟩ := c6
  have hn6 : zI M6 (x + 6) 0 = nI (pl 0 - 1) := hP6.n
  simp (disch := omega) only [hx6.s, hP6.sh, hn6, not_true_eq_false, Bool.false_eq_true, false_and, Bool.not_false, Bool.not_true, Bool.and_true, Bool.and_false, Bool.false_and, Bool.true_and, true_and, and_true, true_or, or_true, not_false_eq_true, Option.some.injEq, exists_eq_left', forall_eq, ↓reduceIte, Nat.add_zero, Nat.zero_add, and_self]
  exact K6
theorem cc_move {x : Nat} {sg pl : Nat → Nat} {hn : Nat} {hl : Nat → Nat → Nat} {sv : Nat → Bool} {sl : Nat → Nat → Nat} {bl : Nat} {bf : Nat → Int32} {ep : Nat} {nm : Nat → List Nat} (ok : OKs (sg, pl, hn, hl, sv, sl, bl, bf, ep, nm)) {p t : Nat} (hp2 : p < pl 0) (ht : t < sg 0 * 3) (w0 : mvN sg pl p t = 0) (M : Mm) (P : Int32 → Mm → Prop) (X : String → Mm → Prop) (c : CI x (sg, pl, hn, hl, sv, sl, bl, bf, ep, nm) M) (K : ∀ M', CI x (sg, mvP sg pl p t, pushn hn, push hn hl pl, sv, sl, bl, bf, ep, nm) M' → FrG x (x + 149) M M' → P (nI (psn (off pl p) (oS pl p 1) t)) M') : w_X7_move M x (nI p) (nI t) P X := by
  have ok2 := ok
  obtain ⟨hs, hp, h10, hhl, hsl, hbl, hby, hep, nm1, nm2, nm3, nm4⟩ := ok
  have b := hs.b
  have n := hp.1.n
  have e3 : 3 * sg 0 = sg 0 * 3 := Nat.mul_comm _ _
  have d := hp.1.s hs hp2
  have w1 : whyN sg (off pl p) (oS pl p 1) t (oS pl p 3) (oS pl p 2) = 0 := by
    unfold mvN at w0
    by_cases q : whyN sg (off pl p) (oS pl p 1) t (oS pl p 3) (oS pl p 2) = 0
    · exact q
    · rw [if_neg q] at w0; exact absurd w0 q
  have pm : PG sg (mvP sg pl p t) := PGmv hs hp hp2 (by omega) w1
  have c2 := c
  obtain ⟨c10, sa, sp, hps, hx, hS, hS2, hP, hD, hH, hN, hB, hNm, hKP⟩ := c
  have ph := hP.s hp2
  simp (disch := omega) only [w_X7_move, w_X7_requireService, w_X7_requireSlot, hx.s, hS.s1, hP.sh, hP.n, ph, e_req_ok hp2, e_X6_slotCount hS, e_req_ok ht, n_cl, n_vp, not_true_eq_false, Bool.false_eq_true, false_and, Bool.not_false, Bool.not_true, Bool.and_true, Bool.and_false, Bool.false_and, Bool.true_and, true_and, and_true, true_or, or_true, not_false_eq_true, Option.some.injEq, exists_eq_left', forall_eq, ↓reduceIte, Nat.add_zero, Nat.zero_add, and_self]
  refine s_X7_draftMove hs hx hKP hS hp hP hD hp2 (by omega) _ fun M2 f2 g2 => ?_
  have x2 := hx.fr f2.1
  simp (disch := omega) only [w0, w_X7_requireState, x2.s, l_0, l_1, l_2, l_3, l_4, l_5, l_6, l_7, l_8, l_9, l_10, l_20, l_30, l_31, l_34, l_40, l_65, l_100, l_255, l_11, l_12, l_24, l_600, l_689, l_999, l_120, l_32, nI_add, pk_mul, n_sub, n_leT, n_leF, n_ltT, n_ltF, n_eqT, n_eqF, n_cl, n_vp, fa_andq, fa_orq, fa_xorq, n_shl, n_shr, n_t1, n_t0, n_div, n_m1, not_true_eq_false, Bool.false_eq_true, false_and, Bool.not_false, Bool.not_true, Bool.and_true, Bool.and_false, Bool.false_and, Bool.true_and, true_and, and_true, true_or, or_true, not_false_eq_true, Option.some.injEq, exists_eq_left', forall_eq, ↓reduceIte, Nat.add_zero, Nat.zero_add, and_self]
  refine s_accCI ok2 (c2.dr f2) (g2 w0) pm.1 _ fun M6 c6 g6 => ?_
  have K6 := K M6 c6 ((RDr.g f2).trans g6)
  clear hx hS hS2 hP hD hH hN hB hNm ph x2
  obtain ⟨-, sa6, sp6, hps6, hx6, hS6, -, hP6, -, -, -, -, -⟩ := c6
  have na : nAt (mvP sg pl p t) (oS pl p 1) t = psn (off pl p) (oS pl p 1) t := nAt_new
  simp (disch := omega) only [hx6.s, hP6.sh, e_X4_numberAt hs pm.1 hP6, na, not_true_eq_false, Bool.false_eq_true, false_and, Bool.not_false, Bool.not_true, Bool.and_true, Bool.and_false, Bool.false_and, Bool.true_and, true_and, and_true, true_or, or_true, not_false_eq_true, Option.some.injEq, exists_eq_left', forall_eq, ↓reduceIte, Nat.add_zero, Nat.zero_add, and_self]
  exact K6
theorem cc_recast {x : Nat} {sg pl : Nat → Nat} {hn : Nat} {hl : Nat → Nat → Nat} {sv : Nat → Bool} {sl : Nat → Nat → Nat} {bl : Nat} {bf : Nat → Int32} {ep : Nat} {nm : Nat → List Nat} (ok : OKs (sg, pl, hn, hl, sv, sl, bl, bf, ep, nm)) {p : Nat} (hp2 : p < pl 0) (M : Mm) (P : Int32 → Mm → Prop) (X : String → Mm → Prop) (c : CI x (sg, pl, hn, hl, sv, sl, bl, bf, ep, nm) M) (K : ∀ M', CI x (sg, rcP sg pl p, pushn hn, push hn hl pl, sv, sl, bl, bf, ep, nm) M' → FrG x (x + 149) M M' → P (nI (dIn sg (rcP sg pl p) p 255)) M') : w_X7_recast M x (nI p) P X := by
  have ok2 := ok
  obtain ⟨hs, hp, h10, hhl, hsl, hbl, hby, hep, nm1, nm2, nm3, nm4⟩ := ok
  have b := hs.b
  have n := hp.1.n
  have d := hp.1.s hs hp2
  have g := PGoff hs hp hp2
  have pm := PGrc hs hp hp2
  have o0 := off_n pl p
  obtain ⟨-, -, a3⟩ := again hs hp hp2
  have pn : p < rcP sg pl p 0 := by
    show p < off pl p 0 + 1
    rw [o0]; omega
  have c2 := c
  obtain ⟨c10, sa, sp, hps, hx, hS, hS2, hP, hD, hH, hN, hB, hNm, hKP⟩ := c
  have at_ := hx.at
  simp (disch := omega) only [w_X7_recast, w_X7_requireService, hx.s, hP.sh, hP.n, e_req_ok hp2, hD.u, not_true_eq_false, Bool.false_eq_true, false_and, Bool.not_false, Bool.not_true, Bool.and_true, Bool.and_false, Bool.false_and, Bool.true_and, true_and, and_true, true_or, or_true, not_false_eq_true, Option.some.injEq, exists_eq_left', forall_eq, ↓reduceIte, Nat.add_zero, Nat.zero_add, and_self]
  refine s_X4_copyFrom hD hP.raw (by omega) n (by omega) _ fun M2 f2 g2 => ?_
  have x2 := hx.fr f2
  have S2 := hS.fr f2 (by unfold RP; omega)
  simp (disch := omega) only [x2.s, g2.sh, not_true_eq_false, Bool.false_eq_true, false_and, Bool.not_false, Bool.not_true, Bool.and_true, Bool.and_false, Bool.false_and, Bool.true_and, true_and, and_true, true_or, or_true, not_false_eq_true, Option.some.injEq, exists_eq_left', forall_eq, ↓reduceIte, Nat.add_zero, Nat.zero_add, and_self]
  refine s_X4_clearCast g2 hp2 n _ fun M3 f3 g3 => ?_
  have x3 := x2.fr f3
  have S3 := S2.fr f3 (by omega)
  have g3' : RPl (x + 13) (off pl p 0 + 1) (insB (rawP sg (off pl p)) p (oS pl p 0) (oS pl p 1) (oS pl p 2) (oS pl p 3)) (fun q => off pl p (1 + q)) (sg 2) M3 := by
    rw [o0, show pl 0 - 1 + 1 = pl 0 by omega]
    exact g3.of (fun q f hq hf => blank_eq hs hp2 hq hf) fun q hq => off_k _ _ (by omega) (by omega)
  simp (disch := omega) only [x3.s, not_true_eq_false, Bool.false_eq_true, false_and, Bool.not_false, Bool.not_true, Bool.and_true, Bool.and_false, Bool.false_and, Bool.true_and, true_and, and_true, true_or, or_true, not_false_eq_true, Option.some.injEq, exists_eq_left', forall_eq, ↓reduceIte, Nat.add_zero, Nat.zero_add, and_self]
  refine s_castNew hs x3 ((hKP.fr f2 (by unfold RP; omega)).fr f3 (by omega)) S3 g.1 (by omega) (by omega) (by omega) (by omega) (by omega) (by omega) g3' _ fun M4 f4 g4 => ?_
  have x4 := x3.fr f4.1
  have F : FK x (RDr x) M M4 := (((FK.of f2 (by unfold RP; omega)).mono fun q hq => by unfold RP at hq; unfold RDr; omega).trans ((FK.of f3 (by omega)).mono fun q hq => by unfold RDr; omega)).trans f4
  simp (disch := omega) only [x4.s, not_true_eq_false, Bool.false_eq_true, false_and, Bool.not_false, Bool.not_true, Bool.and_true, Bool.and_false, Bool.false_and, Bool.true_and, true_and, and_true, true_or, or_true, not_false_eq_true, Option.some.injEq, exists_eq_left', forall_eq, ↓reduceIte, Nat.add_zero, Nat.zero_add, and_self]
  refine s_accCI ok2 (c2.dr F) (show CPl (x + 13) sg (rcP sg pl p) M4 from g4) pm.1 _ fun M6 c6 g6 => ?_
  have K6 := K M6 c6 ((RDr.g F).trans g6)
  clear hx hS hS2 hP hD hH hN hB hNm x2 x3 x4 S2 S3
  obtain ⟨-, sa6, sp6, hps6, hx6, hS6, -, hP6, -, -, -, -, -⟩ := c6
  simp (disch := omega) only [hx6.s, e_X1_doublingsIn hs pm.1 hS6 hP6 pn, not_true_eq_false, Bool.false_eq_true, false_and, Bool.not_false, Bool.not_true, Bool.and_true, Bool.and_false, Bool.false_and, Bool.true_and, true_and, and_true, true_or, or_true, not_false_eq_true, Option.some.injEq, exists_eq_left', forall_eq, ↓reduceIte, Nat.add_zero, Nat.zero_add, and_self]
  exact K6
theorem cc_setContract {x : Nat} {sg pl : Nat → Nat} {hn : Nat} {hl : Nat → Nat → Nat} {sv : Nat → Bool} {sl : Nat → Nat → Nat} {bl : Nat} {bf : Nat → Int32} {ep : Nat} {nm : Nat → List Nat} (ok : OKs (sg, pl, hn, hl, sv, sl, bl, bf, ep, nm)) {p k : Nat} (hp2 : p < sg 2) (hk : k < 41) (M : Mm) (P : Int32 → Mm → Prop) (X : String → Mm → Prop) (c : CI x (sg, pl, hn, hl, sv, sl, bl, bf, ep, nm) M) (K : ∀ M', CI x (sg, ctP pl p k, pushn hn, push hn hl pl, sv, sl, bl, bf, ep, nm) M' → FrG x (x + 149) M M' → P (nI (pl (1 + p))) M') : w_X7_setContract M x (nI p) (nI k) P X := by
  have ok2 := ok
  obtain ⟨hs, hp, h10, hhl, hsl, hbl, hby, hep, nm1, nm2, nm3, nm4⟩ := ok
  have b := hs.b
  have n := hp.1.n
  have hkp := hp.1.2.1 p hp2
  have pm : PG sg (ctP pl p k) := PGct hp (by omega) (by omega)
  have c2 := c
  obtain ⟨c10, sa, sp, hps, hx, hS, hS2, hP, hD, hH, hN, hB, hNm, hKP⟩ := c
  have at_ := hx.at
  have kp := hP.k hp2
  simp (disch := omega) only [w_X7_setContract, w_X7_requirePlayer, w_X7_requireArgument, hx.s, hS.s1, hS.n, e_req_ok hp2, hP.sh, kp, hD.u, l_0, l_1, l_2, l_3, l_4, l_5, l_6, l_7, l_8, l_9, l_10, l_20, l_30, l_31, l_34, l_40, l_65, l_100, l_255, l_11, l_12, l_24, l_600, l_689, l_999, l_120, l_32, n_ltF, n_eqF, n_cl, n_vp, not_true_eq_false, Bool.false_eq_true, false_and, Bool.not_false, Bool.not_true, Bool.and_true, Bool.and_false, Bool.false_and, Bool.true_and, true_and, and_true, true_or, or_true, not_false_eq_true, Option.some.injEq, exists_eq_left', forall_eq, ↓reduceIte, Nat.add_zero, Nat.zero_add, and_self]
  refine s_X4_copyFrom hD hP.raw (by omega) n (by omega) _ fun M2 f2 g2 => ?_
  have x2 := hx.fr f2
  have S2 := hS.fr f2 (by unfold RP; omega)
  have x2' : zk (sI M2 (x + 13 + 6) p (nI k)) x = 7 := by rw [zk_sI]; exact x2.s.1.1
  simp (disch := omega) only [x2.s, g2.sh, n_cl, n_vp, zk_sI, not_true_eq_false, Bool.false_eq_true, false_and, Bool.not_false, Bool.not_true, Bool.and_true, Bool.and_false, Bool.false_and, Bool.true_and, true_and, and_true, true_or, or_true, not_false_eq_true, Option.some.injEq, exists_eq_left', forall_eq, ↓reduceIte, Nat.add_zero, Nat.zero_add, and_self]
  have f3 : FrI (fun b => b = x + 13 + 6) M2 (sI M2 (x + 13 + 6) p (nI k)) := FrI.sI rfl
  have F : FK x (RDr x) M (sI M2 (x + 13 + 6) p (nI k)) := ((FK.of f2 (by unfold RP; omega)).mono fun q hq => by unfold RP at hq; unfold RDr; omega).trans ((FK.of f3 (by omega)).mono fun q hq => by unfold RDr; omega)
  have g3 : CPl (x + 13) sg (ctP pl p k) (sI M2 (x + 13 + 6) p (nI k)) := by
    have q := g2.cpl
    obtain ⟨q1, q2, q3, q4⟩ := q
    refine ⟨q1.fr f3, ?_, ?_, fun i hi => ?_⟩
    · rw [f3.i (by omega), ct_0]; exact q2
    · rw [f3.i (by omega), f3.i (b := x + 13 + 2) (by omega), f3.i (b := x + 13 + 3) (by omega), f3.i (b := x + 13 + 4) (by omega), f3.i (b := x + 13 + 5) (by omega)]
      unfold cs at q3 ⊢
      rw [ct_0, ct_S pl (by omega)]; exact q3
    · unfold ctP
      by_cases e : i = p
      · subst e; rw [zI_sI1, if_pos rfl]
      · rw [zI_sI2 _ _ _ _ e, if_neg (by omega)]; exact q4 i hi
  exact s_accCI ok2 (c2.dr F) g3 pm.1 _ fun M6 c6 g6 => K M6 c6 ((RDr.g F).trans g6)
