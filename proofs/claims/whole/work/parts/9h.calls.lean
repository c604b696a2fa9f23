/-! CHANGES: move, recast, setContract; undo and the slots -/
theorem nAt_new {sg pl : Nat → Nat} {ha t S c F : Nat} : nAt (cm sg pl (psn pl ha t) t ha S c F) ha t = psn pl ha t := by
  have hat : psn pl ha t ≤ pl 0 := fi_le _ _
  have lo := fun s (q : s < psn pl ha t) => psn_lo q
  generalize psn pl ha t = at_ at hat lo ⊢
  have e : fi (fun s => decide (oS (cm sg pl at_ t ha S c F) s 1 = ha ∧ oS (cm sg pl at_ t ha S c F) s 0 = t)) (pl 0 + 1) = at_ := by
    refine fi_eq (by omega) (decide_eq_true ?_) fun j hj => decide_eq_false fun z => ?_
    · rw [cm_at hat (by omega), cm_at hat (by omega)]
      exact ⟨rfl, rfl⟩
    · rw [cm_dn (by omega) (by omega) (by omega), cm_dn (by omega) (by omega) (by omega)] at z
      unfold dn at z
      rw [if_pos hj] at z
      exact lx_ne (lo j hj) ⟨z.2, z.1⟩
  unfold nAt
  rw [cm_n, e, if_pos (by omega)]
/-- a service without its cast is a new one in the plan without it -/
theorem blank_eq {sg pl : Nat → Nat} (hs : SB sg) {s q f : Nat} (hsn : s < pl 0) (hq : q < pl 0) (hf : f < 34) : insB (rawP sg (off pl s)) s (oS pl s 0) (oS pl s 1) (oS pl s 2) (oS pl s 3) q f = if q = s ∧ 4 ≤ f then 4294967295 else rawP sg pl q f := by
  unfold insB
  have raw : ∀ r, r < pl 0 - 1 → ∀ q, (∀ f, f < 34 → oS (off pl s) r f = oS pl q f) → rawP sg (off pl s) r f = rawP sg pl q f := fun r hr q h => by
    by_cases c0 : f < 4
    · rw [rawP_lo _ _ _ c0, rawP_lo _ _ _ c0, h f hf]
    · obtain ⟨i, rfl⟩ : ∃ i, f = 4 + i := ⟨f - 4, by omega⟩
      rw [rawP_hi, rawP_hi]
      exact cs_cong hs h (by omega)
  by_cases c1 : q < s
  · rw [if_pos c1, if_neg (fun z => by omega)]
    exact raw q (by omega) q fun f hf => by rw [off_S pl (by omega) hf, if_pos c1]
  · rw [if_neg c1]
    by_cases c2 : q = s
    · subst c2
      rw [if_pos rfl]
      by_cases c4 : 4 ≤ f
      · have e : blk (oS pl q 0) (oS pl q 1) (oS pl q 2) (oS pl q 3) f = 4294967295 := by
          unfold blk
          rw [if_neg (by omega), if_neg (by omega), if_neg (by omega), if_neg (by omega)]
        rw [e, if_pos ⟨rfl, c4⟩]
      · rw [if_neg (c := q = q ∧ 4 ≤ f) (fun z => c4 z.2), rawP_lo _ _ _ (by omega)]
        rcases (show f = 0 ∨ f = 1 ∨ f = 2 ∨ f = 3 by omega) with rfl | rfl | rfl | rfl <;> rfl
    · rw [if_neg c2, if_neg (fun z => c2 z.1)]
      exact raw (q - 1) (by omega) q fun f hf => by rw [off_S pl (by omega) hf, if_neg (by omega), show q - 1 + 1 = q by omega]
/-- a plan with a service cast anew -/
def rcP (sg pl : Nat → Nat) (s : Nat) : Nat → Nat := cm sg (off pl s) s (oS pl s 0) (oS pl s 1) (oS pl s 3) (oS pl s 2) (free sg (off pl s) (oS pl s 0))
theorem PGrc {sg pl : Nat → Nat} (hs : SB sg) (h : PG sg pl) {s : Nat} (hsn : s < pl 0) : PG sg (rcP sg pl s) := by
  have g := PGoff hs h hsn
  obtain ⟨a1, a2, a3⟩ := again hs h hsn
  obtain ⟨⟨b1, b2, b3, b4⟩, -⟩ := h.1.2.2 s hsn
  have n := h.1.n
  have r := PGcm hs g (by rw [off_n]; omega) b1 b2 b3 b4 a1 a2
  rw [a3] at r
  exact r
theorem call_move {x : Nat} {s : ST} (ok : OKs s) (a a2 : Int32) : CALL1 x s clC (fun M P X => w_X7_move M x a a2 P X) (fun M P => w_X8_move M (x + 149) a a2 P) := by
  obtain ⟨sg, pl, hn, hl, sv, sl, bl, bf, ep, nm⟩ := s
  have ok2 := ok
  obtain ⟨hs, hp, h10, hhl, hsl, hbl, hby, hep, nm1, nm2, nm3, nm4⟩ := ok
  have b := hs.b
  have n := hp.1.n
  have e3 : 3 * sg 0 = sg 0 * 3 := Nat.mul_comm _ _
  rcases ix a (n := pl 0) (by omega) with h | ⟨p, hp2, rfl⟩
  · refine CALL1.no 1 (by decide) ok2 (fun M P X c w K => ?_) (fun M P c K => ?_)
    · have c2 := c
      obtain ⟨c10, sa, sp, hps, hx, hS, hS2, hP, hD, hH, hN, hB, hNm, hKP⟩ := c
      simp (disch := omega) only [w_X7_move, w_X7_requireService, hx.s, hP.sh, hP.n, e_req_no h, l_0, l_1, l_2, l_3, l_4, l_5, l_6, l_7, l_8, l_9, l_10, l_20, l_30, l_31, l_34, l_40, l_65, l_100, l_255, l_11, l_12, l_24, l_600, l_689, l_999, l_120, l_32, nI_add, pk_mul, n_sub, n_leT, n_leF, n_ltT, n_ltF, n_eqT, n_eqF, n_cl, n_vp, fa_andq, fa_orq, fa_xorq, n_shl, n_shr, n_t1, n_t0, n_div, n_m1, not_true_eq_false, Bool.false_eq_true, false_and, Bool.not_false, Bool.not_true, Bool.and_true, Bool.and_false, Bool.false_and, Bool.true_and, true_and, and_true, true_or, or_true, not_false_eq_true, Option.some.injEq, exists_eq_left', forall_eq, ↓reduceIte, Nat.add_zero, Nat.zero_add, and_self]
      exact fun n1 hn1 => K _ c2.sZ (FrG.sZ hn1)
    · refine ⟨c.k8, thr0 c fun M1 c1 f1 t1 => ?_⟩
      have r := c1.mr hp.1
      simp (disch := omega) only [r.sh, r.v2, e_no_no r.sh.1.1 t1 h, l_0, l_1, l_2, l_3, l_4, l_5, l_6, l_7, l_8, l_9, l_10, l_20, l_30, l_31, l_34, l_40, l_65, l_100, l_255, l_11, l_12, l_24, l_600, l_689, l_999, l_120, l_32, nI_add, pk_mul, n_sub, n_leT, n_leF, n_ltT, n_ltF, n_eqT, n_eqF, n_cl, n_vp, fa_andq, fa_orq, fa_xorq, n_shl, n_shr, n_t1, n_t0, n_div, n_m1, not_true_eq_false, Bool.false_eq_true, false_and, Bool.not_false, Bool.not_true, Bool.and_true, Bool.and_false, Bool.false_and, Bool.true_and, true_and, and_true, true_or, or_true, not_false_eq_true, Option.some.injEq, exists_eq_left', forall_eq, ↓reduceIte, Nat.add_zero, Nat.zero_add, and_self]
      exact K _ _ (c1.mf MF.th) (f1.trans MF.th).o (zI_sI1 _ _ _ _)
  · have d := hp.1.s hs hp2
    rcases ix a2 (n := sg 0 * 3) (by omega) with h | ⟨t, ht, rfl⟩
    · refine CALL1.no 1 (by decide) ok2 (fun M P X c w K => ?_) (fun M P c K => ?_)
      · have c2 := c
        obtain ⟨c10, sa, sp, hps, hx, hS, hS2, hP, hD, hH, hN, hB, hNm, hKP⟩ := c
        simp (disch := omega) only [w_X7_move, w_X7_requireService, w_X7_requireSlot, hx.s, hS.s1, hP.sh, hP.n, e_req_ok hp2, e_X6_slotCount hS, e_req_no h, l_0, l_1, l_2, l_3, l_4, l_5, l_6, l_7, l_8, l_9, l_10, l_20, l_30, l_31, l_34, l_40, l_65, l_100, l_255, l_11, l_12, l_24, l_600, l_689, l_999, l_120, l_32, nI_add, pk_mul, n_sub, n_leT, n_leF, n_ltT, n_ltF, n_eqT, n_eqF, n_cl, n_vp, fa_andq, fa_orq, fa_xorq, n_shl, n_shr, n_t1, n_t0, n_div, n_m1, not_true_eq_false, Bool.false_eq_true, false_and, Bool.not_false, Bool.not_true, Bool.and_true, Bool.and_false, Bool.false_and, Bool.true_and, true_and, and_true, true_or, or_true, not_false_eq_true, Option.some.injEq, exists_eq_left', forall_eq, ↓reduceIte, Nat.add_zero, Nat.zero_add, and_self]
        exact fun n1 hn1 => K _ c2.sZ (FrG.sZ hn1)
      · refine ⟨c.k8, thr0 c fun M1 c1 f1 t1 => ?_⟩
        have r := c1.mr hp.1
        simp (disch := omega) only [r.sh, r.v2, e_no_ok r.sh.1.1 t1 hp2, e_X8_slotMany r, e3, e_no_no r.sh.1.1 t1 h, l_0, l_1, l_2, l_3, l_4, l_5, l_6, l_7, l_8, l_9, l_10, l_20, l_30, l_31, l_34, l_40, l_65, l_100, l_255, l_11, l_12, l_24, l_600, l_689, l_999, l_120, l_32, nI_add, pk_mul, n_sub, n_leT, n_leF, n_ltT, n_ltF, n_eqT, n_eqF, n_cl, n_vp, fa_andq, fa_orq, fa_xorq, n_shl, n_shr, n_t1, n_t0, n_div, n_m1, not_true_eq_false, Bool.false_eq_true, false_and, Bool.not_false, Bool.not_true, Bool.and_true, Bool.and_false, Bool.false_and, Bool.true_and, true_and, and_true, true_or, or_true, not_false_eq_true, Option.some.injEq, exists_eq_left', forall_eq, ↓reduceIte, Nat.add_zero, Nat.zero_add, and_self]
        exact K _ _ (c1.mf MF.th) (f1.trans MF.th).o (zI_sI1 _ _ _ _)
    · have ml : mvN sg pl p t < 7 := by
        have := whyN_lt sg (off pl p) (oS pl p 1) t (oS pl p 3) (oS pl p 2)
        unfold mvN
        split
        · split <;> omega
        · omega
      by_cases w0 : mvN sg pl p t = 0
      · have w1 : whyN sg (off pl p) (oS pl p 1) t (oS pl p 3) (oS pl p 2) = 0 := by
          have w0' := w0
          unfold mvN at w0'
          split at w0'
          · assumption
          · exact w0'
        have pm : PG sg (mvP sg pl p t) := PGmv hs hp hp2 (by omega) w1
        refine CALL1.ok _ (nI (psn (off pl p) (oS pl p 1) t)) (ok2.push pm) (fun M P X c w K => ?_) (fun M P c K => ?_)
        · have c2 := c
          obtain ⟨c10, sa, sp, hps, hx, hS, hS2, hP, hD, hH, hN, hB, hNm, hKP⟩ := c
          have ph := hP.s hp2
          simp (disch := omega) only [w_X7_move, w_X7_requireService, w_X7_requireSlot, hx.s, hS.s1, hP.sh, hP.n, ph, e_req_ok hp2, e_X6_slotCount hS, e_req_ok ht, n_cl, n_vp, not_true_eq_false, Bool.false_eq_true, false_and, Bool.not_false, Bool.not_true, Bool.and_true, Bool.and_false, Bool.false_and, Bool.true_and, true_and, and_true, true_or, or_true, not_false_eq_true, Option.some.injEq, exists_eq_left', forall_eq, ↓reduceIte, Nat.add_zero, Nat.zero_add, and_self]
          refine s_X7_draftMove hs hx hKP hS hp hP hD hp2 (by omega) _ fun M2 f2 g2 => ?_
          have x2 := hx.fr f2.1
          simp (disch := omega) only [w0, w_X7_requireState, x2.s, l_0, l_1, l_2, l_3, l_4, l_5, l_6, l_7, l_8, l_9, l_10, l_20, l_30, l_31, l_34, l_40, l_65, l_100, l_255, l_11, l_12, l_24, l_600, l_689, l_999, l_120, l_32, nI_add, pk_mul, n_sub, n_leT, n_leF, n_ltT, n_ltF, n_eqT, n_eqF, n_cl, n_vp, fa_andq, fa_orq, fa_xorq, n_shl, n_shr, n_t1, n_t0, n_div, n_m1, not_true_eq_false, Bool.false_eq_true, false_and, Bool.not_false, Bool.not_true, Bool.and_true, Bool.and_false, Bool.false_and, Bool.true_and, true_and, and_true, true_or, or_true, not_false_eq_true, Option.some.injEq, exists_eq_left', forall_eq, ↓reduceIte, Nat.add_zero, Nat.zero_add, and_self]
          refine s_accCI ok2 (c2.dr f2) (g2 w0) pm.1 _ fun M6 c6 g6 => ?_
          have K6 := K M6 c6 ((RDr.g f2).trans g6)
          clear hx hS hS2 hP hD hH hN hB hNm ph x2
          obtain ⟨-, sa6, sp6, hps6, hx6, hS6, -, hP6, -, -, -, -, -⟩ := c6
          have na : nAt (mvP sg pl p t) (oS pl p 1) t = psn (off pl p) (oS pl p 1) t := nAt_new
          simp (disch := omega) only [hx6.s, hP6.sh, e_X4_numberAt hs pm.1 hP6, na, not_true_eq_false, Bool.false_eq_true, false_and, Bool.not_false, Bool.not_true, Bool.and_true, Bool.and_false, Bool.false_and, Bool.true_and, true_and, and_true, true_or, or_true, not_false_eq_true, Option.some.injEq, exists_eq_left', forall_eq, ↓reduceIte, Nat.add_zero, Nat.zero_add, and_self]
          exact K6
        · refine ⟨c.k8, thr0 c fun M1 c1 f1 t1 => ?_⟩
          have r := c1.mr hp.1
          have o := r.ms.o
          simp (disch := omega) only [r.sh, r.v2, e_no_ok r.sh.1.1 t1 hp2, e_X8_slotMany r, e3, e_no_ok r.sh.1.1 t1 ht, o, l_0, l_1, l_2, l_3, l_4, l_5, l_6, l_7, l_8, l_9, l_10, l_20, l_30, l_31, l_34, l_40, l_65, l_100, l_255, l_11, l_12, l_24, l_600, l_689, l_999, l_120, l_32, nI_add, pk_mul, n_sub, n_leT, n_leF, n_ltT, n_ltF, n_eqT, n_eqF, n_cl, n_vp, fa_andq, fa_orq, fa_xorq, n_shl, n_shr, n_t1, n_t0, n_div, n_m1, not_true_eq_false, Bool.false_eq_true, false_and, Bool.not_false, Bool.not_true, Bool.and_true, Bool.and_false, Bool.false_and, Bool.true_and, true_and, and_true, true_or, or_true, not_false_eq_true, Option.some.injEq, exists_eq_left', forall_eq, ↓reduceIte, Nat.add_zero, Nat.zero_add, and_self]
          refine s_X8_puts o.2.1.2.1 o.2.2.2.1 o.2.1.2.2.1 o.2.2.2.2.1 (by omega) _ fun M2 f2 g2 => ?_
          have r2 := r.aside f2
          simp (disch := omega) only [r2.sh, not_true_eq_false, Bool.false_eq_true, false_and, Bool.not_false, Bool.not_true, Bool.and_true, Bool.and_false, Bool.false_and, Bool.true_and, true_and, and_true, true_or, or_true, not_false_eq_true, Option.some.injEq, exists_eq_left', forall_eq, ↓reduceIte, Nat.add_zero, Nat.zero_add, and_self]
          refine s_X8_moves r2 hp hp2 (by omega) _ fun M3 f3 g3 k3 => ?_
          have o3 := (r2.ms.fr f3).o
          simp (disch := omega) only [o3, not_true_eq_false, Bool.false_eq_true, false_and, Bool.not_false, Bool.not_true, Bool.and_true, Bool.and_false, Bool.false_and, Bool.true_and, true_and, and_true, true_or, or_true, not_false_eq_true, Option.some.injEq, exists_eq_left', forall_eq, ↓reduceIte, Nat.add_zero, Nat.zero_add, and_self]
          refine s_X8_puts o3.2.1.2.2.1 o3.2.2.2.2.1 o3.2.1.2.1 o3.2.2.2.1 (by omega) _ fun M4 f4 g4 => ?_
          obtain ⟨b1, b2, b3⟩ := c1.back f2 g2 f3 g3 f4 g4
          have t4 : zI M4 (x + 149) 0 = nI 0 := by rw [b3 0 (by omega) (by omega)]; exact t1
          simp (disch := omega) only [w0, b1.k8, e_throws0 b1.k8 t4, l_0, l_1, l_2, l_3, l_4, l_5, l_6, l_7, l_8, l_9, l_10, l_20, l_30, l_31, l_34, l_40, l_65, l_100, l_255, l_11, l_12, l_24, l_600, l_689, l_999, l_120, l_32, nI_add, pk_mul, n_sub, n_leT, n_leF, n_ltT, n_ltF, n_eqT, n_eqF, n_cl, n_vp, fa_andq, fa_orq, fa_xorq, n_shl, n_shr, n_t1, n_t0, n_div, n_m1, not_true_eq_false, Bool.false_eq_true, false_and, Bool.not_false, Bool.not_true, Bool.and_true, Bool.and_false, Bool.false_and, Bool.true_and, true_and, and_true, true_or, or_true, not_false_eq_true, Option.some.injEq, exists_eq_left', forall_eq, ↓reduceIte, Nat.add_zero, Nat.zero_add, and_self]
          refine s_keepMI b1 h10 _ fun M6 c6 f6 z6 => ?_
          have r6 := c6.mr hp.1
          simp (disch := omega) only [r6.sh, not_true_eq_false, Bool.false_eq_true, false_and, Bool.not_false, Bool.not_true, Bool.and_true, Bool.and_false, Bool.false_and, Bool.true_and, true_and, and_true, true_or, or_true, not_false_eq_true, Option.some.injEq, exists_eq_left', forall_eq, ↓reduceIte, Nat.add_zero, Nat.zero_add, and_self]
          refine s_X8_moves r6 hp hp2 (by omega) _ fun M7 f7 g7 k7 => ?_
          obtain ⟨k8, k9⟩ := k7 w0
          have z8 : zk M7 (x + 149) = 8 := by rw [f7.k]; exact c6.k8
          have K7 := K M7 (c6.plan f7 g7 k8) (((f1.o.trans (b2.mono fun b hb => by unfold RMo; omega)).trans (f6.mono fun b hb => by unfold RMo; omega)).trans (f7.mono fun b hb => by unfold RM at hb; unfold RMo; omega)) (by rw [g7 0 (by omega) (by omega), z6]; exact t4)
          simp (disch := omega) only [z8, k9, not_true_eq_false, Bool.false_eq_true, false_and, Bool.not_false, Bool.not_true, Bool.and_true, Bool.and_false, Bool.false_and, Bool.true_and, true_and, and_true, true_or, or_true, not_false_eq_true, Option.some.injEq, exists_eq_left', forall_eq, ↓reduceIte, Nat.add_zero, Nat.zero_add, and_self]
          exact K7
      · refine CALL1.no 2 (by decide) ok2 (fun M P X c w K => ?_) (fun M P c K => ?_)
        · have c2 := c
          obtain ⟨c10, sa, sp, hps, hx, hS, hS2, hP, hD, hH, hN, hB, hNm, hKP⟩ := c
          have ph := hP.s hp2
          simp (disch := omega) only [w_X7_move, w_X7_requireService, w_X7_requireSlot, hx.s, hS.s1, hP.sh, hP.n, ph, e_req_ok hp2, e_X6_slotCount hS, e_req_ok ht, n_cl, n_vp, not_true_eq_false, Bool.false_eq_true, false_and, Bool.not_false, Bool.not_true, Bool.and_true, Bool.and_false, Bool.false_and, Bool.true_and, true_and, and_true, true_or, or_true, not_false_eq_true, Option.some.injEq, exists_eq_left', forall_eq, ↓reduceIte, Nat.add_zero, Nat.zero_add, and_self]
          refine s_X7_draftMove hs hx hKP hS hp hP hD hp2 (by omega) _ fun M2 f2 g2 => ?_
          simp (disch := omega) only [w_X7_requireState, l_0, l_1, l_2, l_3, l_4, l_5, l_6, l_7, l_8, l_9, l_10, l_20, l_30, l_31, l_34, l_40, l_65, l_100, l_255, l_11, l_12, l_24, l_600, l_689, l_999, l_120, l_32, nI_add, pk_mul, n_sub, n_leT, n_leF, n_ltT, n_ltF, n_eqT, n_eqF, n_cl, n_vp, fa_andq, fa_orq, fa_xorq, n_shl, n_shr, n_t1, n_t0, n_div, n_m1, not_true_eq_false, Bool.false_eq_true, false_and, Bool.not_false, Bool.not_true, Bool.and_true, Bool.and_false, Bool.false_and, Bool.true_and, true_and, and_true, true_or, or_true, not_false_eq_true, Option.some.injEq, exists_eq_left', forall_eq, ↓reduceIte, Nat.add_zero, Nat.zero_add, and_self]
          exact fun n1 hn1 => K _ ((c2.dr f2).sZ) ((RDr.g f2).trans (FrG.sZ hn1))
        · refine ⟨c.k8, thr0 c fun M1 c1 f1 t1 => ?_⟩
          have r := c1.mr hp.1
          have o := r.ms.o
          simp (disch := omega) only [r.sh, r.v2, e_no_ok r.sh.1.1 t1 hp2, e_X8_slotMany r, e3, e_no_ok r.sh.1.1 t1 ht, o, l_0, l_1, l_2, l_3, l_4, l_5, l_6, l_7, l_8, l_9, l_10, l_20, l_30, l_31, l_34, l_40, l_65, l_100, l_255, l_11, l_12, l_24, l_600, l_689, l_999, l_120, l_32, nI_add, pk_mul, n_sub, n_leT, n_leF, n_ltT, n_ltF, n_eqT, n_eqF, n_cl, n_vp, fa_andq, fa_orq, fa_xorq, n_shl, n_shr, n_t1, n_t0, n_div, n_m1, not_true_eq_false, Bool.false_eq_true, false_and, Bool.not_false, Bool.not_true, Bool.and_true, Bool.and_false, Bool.false_and, Bool.true_and, true_and, and_true, true_or, or_true, not_false_eq_true, Option.some.injEq, exists_eq_left', forall_eq, ↓reduceIte, Nat.add_zero, Nat.zero_add, and_self]
          refine s_X8_puts o.2.1.2.1 o.2.2.2.1 o.2.1.2.2.1 o.2.2.2.2.1 (by omega) _ fun M2 f2 g2 => ?_
          have r2 := r.aside f2
          simp (disch := omega) only [r2.sh, not_true_eq_false, Bool.false_eq_true, false_and, Bool.not_false, Bool.not_true, Bool.and_true, Bool.and_false, Bool.false_and, Bool.true_and, true_and, and_true, true_or, or_true, not_false_eq_true, Option.some.injEq, exists_eq_left', forall_eq, ↓reduceIte, Nat.add_zero, Nat.zero_add, and_self]
          refine s_X8_moves r2 hp hp2 (by omega) _ fun M3 f3 g3 k3 => ?_
          have o3 := (r2.ms.fr f3).o
          simp (disch := omega) only [o3, not_true_eq_false, Bool.false_eq_true, false_and, Bool.not_false, Bool.not_true, Bool.and_true, Bool.and_false, Bool.false_and, Bool.true_and, true_and, and_true, true_or, or_true, not_false_eq_true, Option.some.injEq, exists_eq_left', forall_eq, ↓reduceIte, Nat.add_zero, Nat.zero_add, and_self]
          refine s_X8_puts o3.2.1.2.2.1 o3.2.2.2.2.1 o3.2.1.2.1 o3.2.2.2.1 (by omega) _ fun M4 f4 g4 => ?_
          obtain ⟨b1, b2, b3⟩ := c1.back f2 g2 f3 g3 f4 g4
          have t4 : zI M4 (x + 149) 0 = nI 0 := by rw [b3 0 (by omega) (by omega)]; exact t1
          simp (disch := omega) only [b1.k8, e_throws1 b1.k8 t4, l_0, l_1, l_2, l_3, l_4, l_5, l_6, l_7, l_8, l_9, l_10, l_20, l_30, l_31, l_34, l_40, l_65, l_100, l_255, l_11, l_12, l_24, l_600, l_689, l_999, l_120, l_32, nI_add, pk_mul, n_sub, n_leT, n_leF, n_ltT, n_ltF, n_eqT, n_eqF, n_cl, n_vp, fa_andq, fa_orq, fa_xorq, n_shl, n_shr, n_t1, n_t0, n_div, n_m1, not_true_eq_false, Bool.false_eq_true, false_and, Bool.not_false, Bool.not_true, Bool.and_true, Bool.and_false, Bool.false_and, Bool.true_and, true_and, and_true, true_or, or_true, not_false_eq_true, Option.some.injEq, exists_eq_left', forall_eq, ↓reduceIte, Nat.add_zero, Nat.zero_add, and_self]
          exact K _ _ (b1.mf MF.th) ((f1.o.trans (b2.mono fun b hb => by unfold RMo; omega)).trans (MF.th (v := nI 2)).o) (zI_sI1 _ _ _ _)
theorem call_recast {x : Nat} {s : ST} (ok : OKs s) (a : Int32) : CALL1 x s clC1 (fun M P X => w_X7_recast M x a P X) (fun M P => w_X8_recast M (x + 149) a P) := by
  obtain ⟨sg, pl, hn, hl, sv, sl, bl, bf, ep, nm⟩ := s
  have ok2 := ok
  obtain ⟨hs, hp, h10, hhl, hsl, hbl, hby, hep, nm1, nm2, nm3, nm4⟩ := ok
  have b := hs.b
  have n := hp.1.n
  rcases ix a (n := pl 0) (by omega) with h | ⟨p, hp2, rfl⟩
  · refine CALL1.no 1 (by decide) ok2 (fun M P X c w K => ?_) (fun M P c K => ?_)
    · have c2 := c
      obtain ⟨c10, sa, sp, hps, hx, hS, hS2, hP, hD, hH, hN, hB, hNm, hKP⟩ := c
      simp (disch := omega) only [w_X7_recast, w_X7_requireService, hx.s, hP.sh, hP.n, e_req_no h, l_0, l_1, l_2, l_3, l_4, l_5, l_6, l_7, l_8, l_9, l_10, l_20, l_30, l_31, l_34, l_40, l_65, l_100, l_255, l_11, l_12, l_24, l_600, l_689, l_999, l_120, l_32, nI_add, pk_mul, n_sub, n_leT, n_leF, n_ltT, n_ltF, n_eqT, n_eqF, n_cl, n_vp, fa_andq, fa_orq, fa_xorq, n_shl, n_shr, n_t1, n_t0, n_div, n_m1, not_true_eq_false, Bool.false_eq_true, false_and, Bool.not_false, Bool.not_true, Bool.and_true, Bool.and_false, Bool.false_and, Bool.true_and, true_and, and_true, true_or, or_true, not_false_eq_true, Option.some.injEq, exists_eq_left', forall_eq, ↓reduceIte, Nat.add_zero, Nat.zero_add, and_self]
      exact fun n1 hn1 => K _ c2.sZ (FrG.sZ hn1)
    · refine ⟨c.k8, thr0 c fun M1 c1 f1 t1 => ?_⟩
      have r := c1.mr hp.1
      simp (disch := omega) only [r.sh, r.v2, e_no_no r.sh.1.1 t1 h, l_0, l_1, l_2, l_3, l_4, l_5, l_6, l_7, l_8, l_9, l_10, l_20, l_30, l_31, l_34, l_40, l_65, l_100, l_255, l_11, l_12, l_24, l_600, l_689, l_999, l_120, l_32, nI_add, pk_mul, n_sub, n_leT, n_leF, n_ltT, n_ltF, n_eqT, n_eqF, n_cl, n_vp, fa_andq, fa_orq, fa_xorq, n_shl, n_shr, n_t1, n_t0, n_div, n_m1, not_true_eq_false, Bool.false_eq_true, false_and, Bool.not_false, Bool.not_true, Bool.and_true, Bool.and_false, Bool.false_and, Bool.true_and, true_and, and_true, true_or, or_true, not_false_eq_true, Option.some.injEq, exists_eq_left', forall_eq, ↓reduceIte, Nat.add_zero, Nat.zero_add, and_self]
      exact K _ _ (c1.mf MF.th) (f1.trans MF.th).o (zI_sI1 _ _ _ _)
  · have d := hp.1.s hs hp2
    have g := PGoff hs hp hp2
    have pm := PGrc hs hp hp2
    have o0 := off_n pl p
    obtain ⟨-, -, a3⟩ := again hs hp hp2
    have pn : p < rcP sg pl p 0 := by
      show p < off pl p 0 + 1
      rw [o0]; omega
    refine CALL1.ok _ (nI (dIn sg (rcP sg pl p) p 255)) (ok2.push pm) (fun M P X c w K => ?_) (fun M P c K => ?_)
    · have c2 := c
      obtain ⟨c10, sa, sp, hps, hx, hS, hS2, hP, hD, hH, hN, hB, hNm, hKP⟩ := c
      have at_ := hx.at
      simp (disch := omega) only [w_X7_recast, w_X7_requireService, hx.s, hP.sh, hP.n, e_req_ok hp2, hD.u, not_true_eq_false, Bool.false_eq_true, false_and, Bool.not_false, Bool.not_true, Bool.and_true, Bool.and_false, Bool.false_and, Bool.true_and, true_and, and_true, true_or, or_true, not_false_eq_true, Option.some.injEq, exists_eq_left', forall_eq, ↓reduceIte, Nat.add_zero, Nat.zero_add, and_self]
      refine s_X4_copyFrom hD hP.raw (by omega) n (by omega) _ fun M2 f2 g2 => ?_
      have x2 := hx.fr f2
      have S2 := hS.fr f2 (by unfold RP; omega)
      simp (disch := omega) only [x2.s, g2.sh, not_true_eq_false, Bool.false_eq_true, false_and, Bool.not_false, Bool.not_true, Bool.and_true, Bool.and_false, Bool.false_and, Bool.true_and, true_and, and_true, true_or, or_true, not_false_eq_true, Option.some.injEq, exists_eq_left', forall_eq, ↓reduceIte, Nat.add_zero, Nat.zero_add, and_self]
      refine s_X4_clearCast g2 hp2 n _ fun M3 f3 g3 => ?_
      have x3 := x2.fr f3
      have S3 := S2.fr f3 (by omega)
      have g3' : RPl (x + 13) (off pl p 0 + 1) (insB (rawP sg (off pl p)) p (oS pl p 0) (oS pl p 1) (oS pl p 2) (oS pl p 3)) (fun q => off pl p (1 + q)) (sg 2) M3 := by
        rw [o0, show pl 0 - 1 + 1 = pl 0 by omega]
        exact g3.of (fun q f hq hf => blank_eq hs hp2 hq hf) fun q hq => off_k _ _ (by omega) (by omega)
      simp (disch := omega) only [x3.s, not_true_eq_false, Bool.false_eq_true, false_and, Bool.not_false, Bool.not_true, Bool.and_true, Bool.and_false, Bool.false_and, Bool.true_and, true_and, and_true, true_or, or_true, not_false_eq_true, Option.some.injEq, exists_eq_left', forall_eq, ↓reduceIte, Nat.add_zero, Nat.zero_add, and_self]
      refine s_castNew hs x3 ((hKP.fr f2 (by unfold RP; omega)).fr f3 (by omega)) S3 g.1 (by omega) (by omega) (by omega) (by omega) (by omega) (by omega) g3' _ fun M4 f4 g4 => ?_
      have x4 := x3.fr f4.1
      have F : FK x (RDr x) M M4 := (((FK.of f2 (by unfold RP; omega)).mono fun q hq => by unfold RP at hq; unfold RDr; omega).trans ((FK.of f3 (by omega)).mono fun q hq => by unfold RDr; omega)).trans f4
      simp (disch := omega) only [x4.s, not_true_eq_false, Bool.false_eq_true, false_and, Bool.not_false, Bool.not_true, Bool.and_true, Bool.and_false, Bool.false_and, Bool.true_and, true_and, and_true, true_or, or_true, not_false_eq_true, Option.some.injEq, exists_eq_left', forall_eq, ↓reduceIte, Nat.add_zero, Nat.zero_add, and_self]
      refine s_accCI ok2 (c2.dr F) (show CPl (x + 13) sg (rcP sg pl p) M4 from g4) pm.1 _ fun M6 c6 g6 => ?_
      have K6 := K M6 c6 ((RDr.g F).trans g6)
      clear hx hS hS2 hP hD hH hN hB hNm x2 x3 x4 S2 S3
      obtain ⟨-, sa6, sp6, hps6, hx6, hS6, -, hP6, -, -, -, -, -⟩ := c6
      simp (disch := omega) only [hx6.s, e_X1_doublingsIn hs pm.1 hS6 hP6 pn, not_true_eq_false, Bool.false_eq_true, false_and, Bool.not_false, Bool.not_true, Bool.and_true, Bool.and_false, Bool.false_and, Bool.true_and, true_and, and_true, true_or, or_true, not_false_eq_true, Option.some.injEq, exists_eq_left', forall_eq, ↓reduceIte, Nat.add_zero, Nat.zero_add, and_self]
      exact K6
    · refine ⟨c.k8, thr0 c fun M1 c1 f1 t1 => ?_⟩
      have r := c1.mr hp.1
      simp (disch := omega) only [r.sh, r.v2, e_no_ok r.sh.1.1 t1 hp2, l_0, l_1, l_2, l_3, l_4, l_5, l_6, l_7, l_8, l_9, l_10, l_20, l_30, l_31, l_34, l_40, l_65, l_100, l_255, l_11, l_12, l_24, l_600, l_689, l_999, l_120, l_32, nI_add, pk_mul, n_sub, n_leT, n_leF, n_ltT, n_ltF, n_eqT, n_eqF, n_cl, n_vp, fa_andq, fa_orq, fa_xorq, n_shl, n_shr, n_t1, n_t0, n_div, n_m1, not_true_eq_false, Bool.false_eq_true, false_and, Bool.not_false, Bool.not_true, Bool.and_true, Bool.and_false, Bool.false_and, Bool.true_and, true_and, and_true, true_or, or_true, not_false_eq_true, Option.some.injEq, exists_eq_left', forall_eq, ↓reduceIte, Nat.add_zero, Nat.zero_add, and_self]
      refine s_keepMI c1 h10 _ fun M2 c2 f2 z2 => ?_
      have r2 := c2.mr hp.1
      simp (disch := omega) only [r2.sh, e_X8_of r2, not_true_eq_false, Bool.false_eq_true, false_and, Bool.not_false, Bool.not_true, Bool.and_true, Bool.and_false, Bool.false_and, Bool.true_and, true_and, and_true, true_or, or_true, not_false_eq_true, Option.some.injEq, exists_eq_left', forall_eq, ↓reduceIte, Nat.add_zero, Nat.zero_add, and_self]
      refine s_X8_takesOff r2.mn hp2 n _ fun M3 f3 g3 => ?_
      have r3 := MR.mk (r2.q.fr f3 (by omega)) g3 g.1
      simp (disch := omega) only [r3.sh, not_true_eq_false, Bool.false_eq_true, false_and, Bool.not_false, Bool.not_true, Bool.and_true, Bool.and_false, Bool.false_and, Bool.true_and, true_and, and_true, true_or, or_true, not_false_eq_true, Option.some.injEq, exists_eq_left', forall_eq, ↓reduceIte, Nat.add_zero, Nat.zero_add, and_self]
      refine s_X8_comes r3 (by omega) (by omega) (by omega) (by omega) _ fun M4 f4 q4 g4 => ?_
      rw [a3] at g4 ⊢
      have r4 : MR (x + 149) sg (rcP sg pl p) M4 := MR.mk q4 g4 pm.1
      have K4 := K M4 (c2.plan ((f3.mono fun b hb => by unfold RM; omega).trans f4.1) (fun i h1 _ => by rw [f4.2 i h1, f3.i (by omega)]) r4.mn) ((f1.o.trans (f2.mono fun b hb => by unfold RMo; omega)).trans ((f3.mono fun b hb => by unfold RMo; omega).trans (f4.1.mono fun b hb => by unfold RM at hb; unfold RMo; omega))) (by rw [f4.2 0 (by omega), f3.i (by omega), z2]; exact t1)
      have dd := fun P => e_X8_doublingsIn r4 pn (T := 255) (v := 4294967295) (Or.inl ⟨rfl, rfl⟩) P
      simp (disch := omega) only [r4.sh, dd, l_0, l_1, l_2, l_3, l_4, l_5, l_6, l_7, l_8, l_9, l_10, l_20, l_30, l_31, l_34, l_40, l_65, l_100, l_255, l_11, l_12, l_24, l_600, l_689, l_999, l_120, l_32, n_m1, not_true_eq_false, Bool.false_eq_true, false_and, Bool.not_false, Bool.not_true, Bool.and_true, Bool.and_false, Bool.false_and, Bool.true_and, true_and, and_true, true_or, or_true, not_false_eq_true, Option.some.injEq, exists_eq_left', forall_eq, ↓reduceIte, Nat.add_zero, Nat.zero_add, and_self]
      exact K4
/-- another contract -/
def ctP (pl : Nat → Nat) (p k : Nat) : Nat → Nat := fun i => if i = 1 + p then k else pl i
theorem ct_S (pl : Nat → Nat) {p k : Nat} (hp : p < 8) : oS (ctP pl p k) = oS pl := by
  funext s f
  unfold oS ctP
  rw [if_neg (by omega)]
theorem ct_0 (pl : Nat → Nat) (p k : Nat) : ctP pl p k 0 = pl 0 := if_neg (by omega)
theorem ct_in (sg pl : Nat → Nat) {p k : Nat} (hp : p < 8) : inS sg (ctP pl p k) = inS sg pl := by
  funext s
  unfold inS
  have e : inW sg (ctP pl p k) s = inW sg pl s := by
    funext w a
    unfold inW
    rw [ct_S pl hp]
  rw [e]
theorem PGct {sg pl : Nat → Nat} (h : PG sg pl) {p k : Nat} (hp : p < 8) (hk : k ≤ 40) : PG sg (ctP pl p k) := by
  obtain ⟨⟨h1, h2, h3⟩, h4⟩ := h
  refine ⟨⟨by rw [ct_0]; exact h1, fun q hq => ?_, ?_⟩, ?_⟩
  · unfold ctP
    by_cases c : 1 + q = 1 + p
    · rw [if_pos c]; exact hk
    · rw [if_neg c]; exact h2 q hq
  · rw [ct_0, ct_S pl hp]; exact h3
  · unfold PV at h4 ⊢
    rw [ct_0, ct_S pl hp, ct_in sg pl hp]; exact h4
theorem call_setContract {x : Nat} {s : ST} (ok : OKs s) (a a2 : Int32) : CALL1 x s clB (fun M P X => w_X7_setContract M x a a2 P X) (fun M P => w_X8_setContract M (x + 149) a a2 P) := by
  obtain ⟨sg, pl, hn, hl, sv, sl, bl, bf, ep, nm⟩ := s
  have ok2 := ok
  obtain ⟨hs, hp, h10, hhl, hsl, hbl, hby, hep, nm1, nm2, nm3, nm4⟩ := ok
  have b := hs.b
  have n := hp.1.n
  rcases ix a (n := sg 2) (by omega) with h | ⟨p, hp2, rfl⟩
  · refine CALL1.no 1 (by decide) ok2 (fun M P X c w K => ?_) (fun M P c K => ?_)
    · have c2 := c
      obtain ⟨c10, sa, sp, hps, hx, hS, hS2, hP, hD, hH, hN, hB, hNm, hKP⟩ := c
      simp (disch := omega) only [w_X7_setContract, w_X7_requirePlayer, hx.s, hS.s1, hS.n, e_req_no h, not_true_eq_false, Bool.false_eq_true, false_and, Bool.not_false, Bool.not_true, Bool.and_true, Bool.and_false, Bool.false_and, Bool.true_and, true_and, and_true, true_or, or_true, not_false_eq_true, Option.some.injEq, exists_eq_left', forall_eq, ↓reduceIte, Nat.add_zero, Nat.zero_add, and_self]
      exact fun n1 hn1 => K _ c2.sZ (FrG.sZ hn1)
    · refine thr0 c fun M1 c1 f1 t1 => ?_
      have r := c1.mr hp.1
      simp (disch := omega) only [r.sh, r.v1, e_no_no r.sh.1.1 t1 h, l_0, l_1, l_2, l_3, l_4, l_5, l_6, l_7, l_8, l_9, l_10, l_20, l_30, l_31, l_34, l_40, l_65, l_100, l_255, l_11, l_12, l_24, l_600, l_689, l_999, l_120, l_32, nI_add, pk_mul, n_sub, n_leT, n_leF, n_ltT, n_ltF, n_eqT, n_eqF, n_cl, n_vp, fa_andq, fa_orq, fa_xorq, n_shl, n_shr, n_t1, n_t0, n_div, n_m1, not_true_eq_false, Bool.false_eq_true, false_and, Bool.not_false, Bool.not_true, Bool.and_true, Bool.and_false, Bool.false_and, Bool.true_and, true_and, and_true, true_or, or_true, not_false_eq_true, Option.some.injEq, exists_eq_left', forall_eq, ↓reduceIte, Nat.add_zero, Nat.zero_add, and_self]
      exact K _ _ (c1.mf MF.th) (f1.trans MF.th).o (zI_sI1 _ _ _ _)
  · rcases ix a2 (n := 41) (by omega) with h | ⟨k, hk, rfl⟩
    · refine CALL1.no 2 (by decide) ok2 (fun M P X c w K => ?_) (fun M P c K => ?_)
      · have c2 := c
        obtain ⟨c10, sa, sp, hps, hx, hS, hS2, hP, hD, hH, hN, hB, hNm, hKP⟩ := c
        have fin := fun n1 hn1 => K _ c2.sZ (FrG.sZ (M := M) (n := n1) hn1)
        by_cases q : a2 < nI 0
        · simp (disch := omega) only [w_X7_setContract, w_X7_requirePlayer, w_X7_requireArgument, hx.s, hS.s1, hS.n, e_req_ok hp2, q, l_0, l_1, l_2, l_3, l_4, l_5, l_6, l_7, l_8, l_9, l_10, l_20, l_30, l_31, l_34, l_40, l_65, l_100, l_255, l_11, l_12, l_24, l_600, l_689, l_999, l_120, l_32, n_eqT, not_true_eq_false, Bool.false_eq_true, false_and, Bool.not_false, Bool.not_true, Bool.and_true, Bool.and_false, Bool.false_and, Bool.true_and, true_and, and_true, true_or, or_true, not_false_eq_true, Option.some.injEq, exists_eq_left', forall_eq, ↓reduceIte, Nat.add_zero, Nat.zero_add, and_self]
          exact fin
        · simp (disch := omega) only [w_X7_setContract, w_X7_requirePlayer, w_X7_requireArgument, hx.s, hS.s1, hS.n, e_req_ok hp2, q, l_0, l_1, l_2, l_3, l_4, l_5, l_6, l_7, l_8, l_9, l_10, l_20, l_30, l_31, l_34, l_40, l_65, l_100, l_255, l_11, l_12, l_24, l_600, l_689, l_999, l_120, l_32, bad_up h, n_eqT, not_true_eq_false, Bool.false_eq_true, false_and, Bool.not_false, Bool.not_true, Bool.and_true, Bool.and_false, Bool.false_and, Bool.true_and, true_and, and_true, true_or, or_true, not_false_eq_true, Option.some.injEq, exists_eq_left', forall_eq, ↓reduceIte, Nat.add_zero, Nat.zero_add, and_self]
          exact fin
      · refine thr0 c fun M1 c1 f1 t1 => ?_
        have r := c1.mr hp.1
        simp (disch := omega) only [r.sh, r.v1, e_no_ok r.sh.1.1 t1 hp2, l_0, l_1, l_2, l_3, l_4, l_5, l_6, l_7, l_8, l_9, l_10, l_20, l_30, l_31, l_34, l_40, l_65, l_100, l_255, l_11, l_12, l_24, l_600, l_689, l_999, l_120, l_32, e_within_no h, e_throws1 r.sh.1.1 t1, n_cl, n_vp, n_eqT, n_eqF, not_true_eq_false, Bool.false_eq_true, false_and, Bool.not_false, Bool.not_true, Bool.and_true, Bool.and_false, Bool.false_and, Bool.true_and, true_and, and_true, true_or, or_true, not_false_eq_true, Option.some.injEq, exists_eq_left', forall_eq, ↓reduceIte, Nat.add_zero, Nat.zero_add, and_self]
        exact K _ _ (c1.mf MF.th) (f1.trans MF.th).o (zI_sI1 _ _ _ _)
    · have pm : PG sg (ctP pl p k) := PGct hp (by omega) (by omega)
      refine CALL1.ok _ (nI (pl (1 + p))) (ok2.push pm) (fun M P X c w K => ?_) (fun M P c K => ?_)
      · have c2 := c
        obtain ⟨c10, sa, sp, hps, hx, hS, hS2, hP, hD, hH, hN, hB, hNm, hKP⟩ := c
        have at_ := hx.at
        have kp := hP.k hp2
        simp (disch := omega) only [w_X7_setContract, w_X7_requirePlayer, w_X7_requireArgument, hx.s, hS.s1, hS.n, e_req_ok hp2, hP.sh, kp, hD.u, l_0, l_1, l_2, l_3, l_4, l_5, l_6, l_7, l_8, l_9, l_10, l_20, l_30, l_31, l_34, l_40, l_65, l_100, l_255, l_11, l_12, l_24, l_600, l_689, l_999, l_120, l_32, n_ltF, n_eqF, n_cl, n_vp, not_true_eq_false, Bool.false_eq_true, false_and, Bool.not_false, Bool.not_true, Bool.and_true, Bool.and_false, Bool.false_and, Bool.true_and, true_and, and_true, true_or, or_true, not_false_eq_true, Option.some.injEq, exists_eq_left', forall_eq, ↓reduceIte, Nat.add_zero, Nat.zero_add, and_self]
        refine s_X4_copyFrom hD hP.raw (by omega) n (by omega) _ fun M2 f2 g2 => ?_
        have x2 := hx.fr f2
        have S2 := hS.fr f2 (by unfold RP; omega)
        have x2' : zk (sI M2 (x + 13 + 6) p (nI k)) x = 7 := by rw [zk_sI]; exact x2.s.1.1
        simp (disch := omega) only [x2.s, g2.sh, n_cl, n_vp, zk_sI, not_true_eq_false, Bool.false_eq_true, false_and, Bool.not_false, Bool.not_true, Bool.and_true, Bool.and_false, Bool.false_and, Bool.true_and, true_and, and_true, true_or, or_true, not_false_eq_true, Option.some.injEq, exists_eq_left', forall_eq, ↓reduceIte, Nat.add_zero, Nat.zero_add, and_self]
        have f3 : FrI (fun b => b = x + 13 + 6) M2 (sI M2 (x + 13 + 6) p (nI k)) := FrI.sI rfl
        have F : FK x (RDr x) M (sI M2 (x + 13 + 6) p (nI k)) := ((FK.of f2 (by unfold RP; omega)).mono fun q hq => by unfold RP at hq; unfold RDr; omega).trans ((FK.of f3 (by omega)).mono fun q hq => by unfold RDr; omega)
        have g3 : CPl (x + 13) sg (ctP pl p k) (sI M2 (x + 13 + 6) p (nI k)) := by
          have q := g2.cpl
          obtain ⟨q1, q2, q3, q4⟩ := q
          refine ⟨q1.fr f3, ?_, ?_, fun i hi => ?_⟩
          · rw [f3.i (by omega), ct_0]; exact q2
          · rw [f3.i (by omega), f3.i (b := x + 13 + 2) (by omega), f3.i (b := x + 13 + 3) (by omega), f3.i (b := x + 13 + 4) (by omega), f3.i (b := x + 13 + 5) (by omega)]
            unfold cs at q3 ⊢
            rw [ct_0, ct_S pl (by omega)]; exact q3
          · unfold ctP
            by_cases e : i = p
            · subst e; rw [zI_sI1, if_pos rfl]
            · rw [zI_sI2 _ _ _ _ e, if_neg (by omega)]; exact q4 i hi
        exact s_accCI ok2 (c2.dr F) g3 pm.1 _ fun M6 c6 g6 => K M6 c6 ((RDr.g F).trans g6)
      · refine thr0 c fun M1 c1 f1 t1 => ?_
        have r := c1.mr hp.1
        simp (disch := omega) only [r.sh, r.v1, e_no_ok r.sh.1.1 t1 hp2, l_0, l_1, l_2, l_3, l_4, l_5, l_6, l_7, l_8, l_9, l_10, l_20, l_30, l_31, l_34, l_40, l_65, l_100, l_255, l_11, l_12, l_24, l_600, l_689, l_999, l_120, l_32, e_within_ok, e_throws0 r.sh.1.1 t1, n_cl, n_vp, n_eqT, n_eqF, not_true_eq_false, Bool.false_eq_true, false_and, Bool.not_false, Bool.not_true, Bool.and_true, Bool.and_false, Bool.false_and, Bool.true_and, true_and, and_true, true_or, or_true, not_false_eq_true, Option.some.injEq, exists_eq_left', forall_eq, ↓reduceIte, Nat.add_zero, Nat.zero_add, and_self]
        refine s_keepMI c1 h10 _ fun M2 c2 f2 z2 => ?_
        have r2 := c2.mr hp.1
        simp (disch := omega) only [r2.sh, r2.v2, nI_add, n_cl, n_vp, not_true_eq_false, Bool.false_eq_true, false_and, Bool.not_false, Bool.not_true, Bool.and_true, Bool.and_false, Bool.false_and, Bool.true_and, true_and, and_true, true_or, or_true, not_false_eq_true, Option.some.injEq, exists_eq_left', forall_eq, ↓reduceIte, Nat.add_zero, Nat.zero_add, and_self]
        have f3 : FrI (fun b => b = x + 149 + 2) M2 (sI M2 (x + 149 + 2) (1 + p) (nI k)) := FrI.sI rfl
        refine K _ (c2.plan (f3.mono fun b hb => by unfold RM; omega) (fun i _ _ => by rw [f3.i (by omega)]) (r2.mn.set (1 + p) k)) ((f1.o.trans (f2.mono fun b hb => by unfold RMo; omega)).trans (f3.mono fun b hb => by unfold RMo; omega)) ?_
        rw [f3.i (by omega), z2]; exact t1
