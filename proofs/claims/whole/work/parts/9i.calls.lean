/-! undo and the slots -/
theorem nar1 : vp_nar .boolean (nI 1) = nI 1 := rfl
theorem nar0 : vp_nar .boolean (nI 0) = nI 0 := rfl
theorem call_undo {x : Nat} {s : ST} (ok : OKs s) : CALL0 x s (fun M P => w_X7_undo M x P) (fun M P => w_X8_undo M (x + 149) P) := by
  obtain ⟨sg, pl, hn, hl, sv, sl, bl, bf, ep, nm⟩ := s
  have ok2 := ok
  obtain ⟨hs, hp, h10, hhl, hsl, hbl, hby, hep, nm1, nm2, nm3, nm4⟩ := ok
  have b := hs.b
  by_cases h0 : hn = 0
  · subst h0
    refine ⟨nI 4294967295, _, ok2, fun M P c w K => ?_, fun M P c K => ?_⟩
    · have K0 := K _ c FrG.rf
      obtain ⟨c10, sa, sp, hps, hx, hS, hS2, hP, hD, hH, hN, hB, hNm, hKP⟩ := c
      have h9 := hH.2.2.2
      simp (disch := omega) only [w_X7_undo, hx.s, h9, l_0, l_1, l_2, l_3, l_4, l_5, l_6, l_7, l_8, l_9, l_10, l_20, l_30, l_31, l_34, l_40, l_65, l_100, l_255, l_11, l_12, l_24, l_600, l_689, l_999, l_120, l_32, nI_add, pk_mul, n_sub, n_leT, n_leF, n_ltT, n_ltF, n_eqT, n_eqF, n_cl, n_vp, fa_andq, fa_orq, fa_xorq, n_shl, n_shr, n_t1, n_t0, n_div, n_m1, not_true_eq_false, Bool.false_eq_true, false_and, Bool.not_false, Bool.not_true, Bool.and_true, Bool.and_false, Bool.false_and, Bool.true_and, true_and, and_true, true_or, or_true, not_false_eq_true, Option.some.injEq, exists_eq_left', forall_eq, ↓reduceIte, Nat.add_zero, Nat.zero_add, and_self]
      exact K0
    · refine thr0 c fun M1 c1 f1 t1 => ?_
      have h24 : zI M1 (x + 149) 24 = nI 0 := c1.2.2.1.1
      simp (disch := omega) only [c1.k8, h24, l_0, l_1, l_2, l_3, l_4, l_5, l_6, l_7, l_8, l_9, l_10, l_20, l_30, l_31, l_34, l_40, l_65, l_100, l_255, l_11, l_12, l_24, l_600, l_689, l_999, l_120, l_32, nI_add, pk_mul, n_sub, n_leT, n_leF, n_ltT, n_ltF, n_eqT, n_eqF, n_cl, n_vp, fa_andq, fa_orq, fa_xorq, n_shl, n_shr, n_t1, n_t0, n_div, n_m1, not_true_eq_false, Bool.false_eq_true, false_and, Bool.not_false, Bool.not_true, Bool.and_true, Bool.and_false, Bool.false_and, Bool.true_and, true_and, and_true, true_or, or_true, not_false_eq_true, Option.some.injEq, exists_eq_left', forall_eq, ↓reduceIte, Nat.add_zero, Nat.zero_add, and_self]
      exact K _ c1 f1.o
  · obtain ⟨q, rfl⟩ : ∃ q, hn = q + 1 := ⟨hn - 1, by omega⟩
    have gq := hhl q (by omega)
    refine ⟨nI q, (sg, hl q, q, hl, sv, sl, bl, bf, ep, nm), ⟨hs, gq, by omega, fun i hi => hhl i (by omega), hsl, hbl, hby, hep, nm1, nm2, nm3, nm4⟩, fun M P c w K => ?_, fun M P c K => ?_⟩
    · obtain ⟨c10, sa, sp, hps, hx, hS, hS2, hP, hD, hH, hN, hB, hNm, hKP⟩ := c
      have at_ := hx.at
      obtain ⟨h1, h2, h3, h9⟩ := hH
      obtain ⟨p1, p2, j, j1, j2⟩ := h1 q (by omega)
      have f1 : FrI (fun b => b = x) M (sI M x 9 (nI q)) := FrI.sI rfl
      have e9 := zI_sI1 M x 9 (nI q)
      have z0 := hP.1.u.1
      simp (disch := omega) only [w_X7_undo, hx.s, h9, zk_sI, zl_sI, zR_sI, e9, p1, z0, nI_pred, Nat.add_sub_cancel, l_0, l_1, l_2, l_3, l_4, l_5, l_6, l_7, l_8, l_9, l_10, l_20, l_30, l_31, l_34, l_40, l_65, l_100, l_255, l_11, l_12, l_24, l_600, l_689, l_999, l_120, l_32, nI_add, pk_mul, n_sub, n_leT, n_leF, n_ltT, n_ltF, n_eqT, n_eqF, n_cl, n_vp, fa_andq, fa_orq, fa_xorq, n_shl, n_shr, n_t1, n_t0, n_div, n_m1, not_true_eq_false, Bool.false_eq_true, false_and, Bool.not_false, Bool.not_true, Bool.and_true, Bool.and_false, Bool.false_and, Bool.true_and, true_and, and_true, true_or, or_true, not_false_eq_true, Option.some.injEq, exists_eq_left', forall_eq, ↓reduceIte, Nat.add_zero, Nat.zero_add, and_self]
      have cq := (h3 q (by omega)).fr f1 (by omega)
      refine s_X4_copyFrom (hP.1.fr f1) cq.raw (by omega) gq.1.n (by omega) _ fun M2 f2 g2 => ?_
      have F : FrI (fun b => b = x ∨ RP (x + 6) b) M M2 := (f1.mono fun b hb => Or.inl hb).trans (f2.mono fun b hb => Or.inr hb)
      have i9 : zI M2 x 9 = nI q := by rw [f2.i (by unfold RP; omega)]; exact e9
      have x2 := hx.fr F
      have K2 := K M2 ⟨by omega, sa, sp, hps, x2, hS.fr F (by unfold RP; omega), hS2.fr F, g2.cpl, hD.fr F, ⟨fun i hi => by rw [F.r]; exact ⟨(h1 i hi).1, (h1 i hi).2.1.fr F, (h1 i hi).2.2⟩, h2, fun i hi => by
        obtain ⟨-, -, j3, j4, j5⟩ := h1 i (by omega)
        exact (h3 i (by omega)).fr F (by unfold RP; omega), i9⟩, hN.frx F.x (by unfold RP; omega) (by unfold RP; omega), by
        unfold CBu at hB ⊢
        rw [f2.i (b := x) (by unfold RP; omega), zI_sI2 _ _ _ _ (by omega), zI_sI2 _ _ _ _ (by omega), F.i (b := x + 1) (by unfold RP; omega)]; exact hB, by
        unfold CNm at hNm ⊢
        rw [F.j]; exact hNm, hKP.fr F (by unfold RP; omega)⟩ (F.g fun b hb => by unfold RP at hb; omega)
      simp (disch := omega) only [x2.s, i9, not_true_eq_false, Bool.false_eq_true, false_and, Bool.not_false, Bool.not_true, Bool.and_true, Bool.and_false, Bool.false_and, Bool.true_and, true_and, and_true, true_or, or_true, not_false_eq_true, Option.some.injEq, exists_eq_left', forall_eq, ↓reduceIte, Nat.add_zero, Nat.zero_add, and_self]
      exact K2
    · refine thr0 c fun M1 c1 f1 t1 => ?_
      have c3 := c1
      obtain ⟨mq, mn, mh, ms, mb, mnm⟩ := c3
      have h24 : zI M1 (x + 149) 24 = nI (q + 1) := mh.1
      have o := mn.1.o
      have e24 := zI_sI1 M1 (x + 149) 24 (nI q)
      simp (disch := omega) only [o, h24, zk_sI, zl_sI, zR_sI, e24, nI_pred, Nat.add_sub_cancel, l_0, l_1, l_2, l_3, l_4, l_5, l_6, l_7, l_8, l_9, l_10, l_20, l_30, l_31, l_34, l_40, l_65, l_100, l_255, l_11, l_12, l_24, l_600, l_689, l_999, l_120, l_32, nI_add, pk_mul, n_sub, n_leT, n_leF, n_ltT, n_ltF, n_eqT, n_eqF, n_cl, n_vp, fa_andq, fa_orq, fa_xorq, n_shl, n_shr, n_t1, n_t0, n_div, n_m1, not_true_eq_false, Bool.false_eq_true, false_and, Bool.not_false, Bool.not_true, Bool.and_true, Bool.and_false, Bool.false_and, Bool.true_and, true_and, and_true, true_or, or_true, not_false_eq_true, Option.some.injEq, exists_eq_left', forall_eq, ↓reduceIte, Nat.add_zero, Nat.zero_add, and_self]
      have f2 : FrI (fun b => b = x + 149) M1 (sI M1 (x + 149) 24 (nI q)) := FrI.sI rfl
      have o2 := (mn.1.fr f2).o
      refine s_X8_copies (l1 := 6890) (l2 := 689) o2.2.1.2.2.2.1 o2.2.2.2.2.2.1 o2.2.1.2.1 o2.2.2.2.1 (by omega) (by omega) (by omega) (by omega) (Or.inl (by omega)) _ fun M2 f3 g3 => ?_
      have F : FrI (fun b => b = x + 149 ∨ b = x + 149 + 2) M1 M2 := (f2.mono fun b hb => Or.inl hb).trans (f3.mono fun b hb => Or.inr hb)
      have I : ∀ i, i ≠ 24 → zI M2 (x + 149) i = zI M1 (x + 149) i := fun i hi => by rw [f3.i (by omega), zI_sI2 _ _ _ _ hi]
      have i24 : zI M2 (x + 149) 24 = nI q := by rw [f3.i (by omega)]; exact e24
      have z8 : zk M2 (x + 149) = 8 := by rw [F.k]; exact o.1.1
      have K2 := K M2 ⟨mq.fr F (by omega), ⟨mn.1.fr F, fun i hi => by
        rw [g3, if_pos (by omega), zI_sIo _ _ _ _ (by omega), show 689 * q + (i - 0) = 689 * q + i by omega]
        exact mh.2 q (by omega) i hi⟩, ⟨i24, fun i hi k hk => by rw [F.i (by omega)]; exact mh.2 i (by omega) k hk⟩, by
        unfold MSn at ms ⊢; rw [F.i (b := x + 149 + 13) (by omega), F.i (b := x + 149 + 12) (by omega)]; exact ms, by
        unfold MBu at mb ⊢; rw [I 5 (by omega), I 13 (by omega), F.i (b := x + 149 + 4) (by omega)]; exact mb, by
        unfold MNm at mnm ⊢; rw [F.j]; exact mnm⟩ (f1.o.trans (F.mono fun b hb => by unfold RMo; omega))
      simp (disch := omega) only [z8, i24, not_true_eq_false, Bool.false_eq_true, false_and, Bool.not_false, Bool.not_true, Bool.and_true, Bool.and_false, Bool.false_and, Bool.true_and, true_and, and_true, true_or, or_true, not_false_eq_true, Option.some.injEq, exists_eq_left', forall_eq, ↓reduceIte, Nat.add_zero, Nat.zero_add, and_self]
      exact K2
theorem call_saveSnapshot {x : Nat} {s : ST} (ok : OKs s) (a : Int32) : CALL1 x s clC1 (fun M P X => w_X7_saveSnapshot M x a P X) (fun M P => w_X8_saveSnapshot M (x + 149) a P) := by
  obtain ⟨sg, pl, hn, hl, sv, sl, bl, bf, ep, nm⟩ := s
  have ok2 := ok
  obtain ⟨hs, hp, h10, hhl, hsl, hbl, hby, hep, nm1, nm2, nm3, nm4⟩ := ok
  have b := hs.b
  rcases ix a (n := 2) (by omega) with h | ⟨q, hq, rfl⟩
  · refine CALL1.no 1 (by decide) ok2 (fun M P X c w K => ?_) (fun M P c K => ?_)
    · have c2 := c
      obtain ⟨c10, sa, sp, hps, hx, hS, hS2, hP, hD, hH, hN, hB, hNm, hKP⟩ := c
      simp (disch := omega) only [w_X7_saveSnapshot, l_0, l_1, l_2, l_3, l_4, l_5, l_6, l_7, l_8, l_9, l_10, l_20, l_30, l_31, l_34, l_40, l_65, l_100, l_255, l_11, l_12, l_24, l_600, l_689, l_999, l_120, l_32, e_req_no h, not_true_eq_false, Bool.false_eq_true, false_and, Bool.not_false, Bool.not_true, Bool.and_true, Bool.and_false, Bool.false_and, Bool.true_and, true_and, and_true, true_or, or_true, not_false_eq_true, Option.some.injEq, exists_eq_left', forall_eq, ↓reduceIte, Nat.add_zero, Nat.zero_add, and_self]
      exact fun n1 hn1 => K _ c2.sZ (FrG.sZ hn1)
    · refine ⟨c.k8, thr0 c fun M1 c1 f1 t1 => ?_⟩
      simp (disch := omega) only [l_0, l_1, l_2, l_3, l_4, l_5, l_6, l_7, l_8, l_9, l_10, l_20, l_30, l_31, l_34, l_40, l_65, l_100, l_255, l_11, l_12, l_24, l_600, l_689, l_999, l_120, l_32, e_no_no c1.k8 t1 h, c1.k8, n_eqT, n_eqF, not_true_eq_false, Bool.false_eq_true, false_and, Bool.not_false, Bool.not_true, Bool.and_true, Bool.and_false, Bool.false_and, Bool.true_and, true_and, and_true, true_or, or_true, not_false_eq_true, Option.some.injEq, exists_eq_left', forall_eq, ↓reduceIte, Nat.add_zero, Nat.zero_add, and_self]
      exact K _ _ (c1.mf MF.th) (f1.trans MF.th).o (zI_sI1 _ _ _ _)
  · refine CALL1.ok (sg, pl, hn, hl, (fun i => if i = q then true else sv i), (fun i => if i = q then pl else sl i), bl, bf, ep, nm) (bI (sv q)) ⟨hs, hp, h10, hhl, fun i hi t => ?_, hbl, hby, hep, nm1, nm2, nm3, nm4⟩ (fun M P X c w K => ?_) (fun M P c K => ?_)
    · by_cases e : i = q
      · simp only [if_pos e]; exact hp
      · simp only [if_neg e] at t ⊢; exact hsl i hi t
    · obtain ⟨c10, sa, sp, hps, hx, hS, hS2, hP, hD, hH, hN, hB, hNm, hKP⟩ := c
      have at_ := hx.at
      obtain ⟨n1, n2, n3, n4⟩ := hN q hq
      simp (disch := omega) only [w_X7_saveSnapshot, l_0, l_1, l_2, l_3, l_4, l_5, l_6, l_7, l_8, l_9, l_10, l_20, l_30, l_31, l_34, l_40, l_65, l_100, l_255, l_11, l_12, l_24, l_600, l_689, l_999, l_120, l_32, e_req_ok hq, hx.s, n1, n2.u, n3, n_cl, n_vp, bI_z, nar1, not_true_eq_false, Bool.false_eq_true, false_and, Bool.not_false, Bool.not_true, Bool.and_true, Bool.and_false, Bool.false_and, Bool.true_and, true_and, and_true, true_or, or_true, not_false_eq_true, Option.some.injEq, exists_eq_left', forall_eq, ↓reduceIte, Nat.add_zero, Nat.zero_add, and_self]
      refine s_X4_copyFrom n2 hP.raw (by omega) hp.1.n (by omega) _ fun M2 f2 g2 => ?_
      have x2 := hx.fr f2
      simp (disch := omega) only [x2.s, n_cl, n_vp, not_true_eq_false, Bool.false_eq_true, false_and, Bool.not_false, Bool.not_true, Bool.and_true, Bool.and_false, Bool.false_and, Bool.true_and, true_and, and_true, true_or, or_true, not_false_eq_true, Option.some.injEq, exists_eq_left', forall_eq, ↓reduceIte, Nat.add_zero, Nat.zero_add, and_self]
      have f3 : FrI (fun b => b = x + 22) M2 (sI M2 (x + 22) q (nI 1)) := FrI.sI rfl
      have F : FrI (fun b => RP (x + 135 + 7 * q) b ∨ b = x + 22) M (sI M2 (x + 22) q (nI 1)) := (f2.mono fun b hb => Or.inl hb).trans (f3.mono fun b hb => Or.inr hb)
      refine K _ ⟨c10, sa, sp, hps, hx.fr F, hS.fr F (by unfold RP; omega), hS2.fr F, hP.fr F (by unfold RP; omega), hD.fr F, hH.fr c10 F (by unfold RP; omega) (by rw [F.i (by unfold RP; omega)]), fun i hi => ?_, ?_, ?_, hKP.fr F (by unfold RP; omega)⟩ (F.g fun b hb => by unfold RP at hb; omega)
      · obtain ⟨m1, m2, m3, m4⟩ := hN i hi
        refine ⟨by rw [F.r]; exact m1, m2.fr F, ?_, fun t => ?_⟩
        · by_cases e : i = q
          · subst e; simp only [if_true]; exact zI_sI1 _ _ _ _
          · simp only [if_neg e]
            rw [zI_sI2 _ _ _ _ e, f2.i (by unfold RP; omega)]; exact m3
        · by_cases e : i = q
          · subst e; simp only [if_true]; exact g2.cpl.fr f3 (by omega)
          · simp only [if_neg e] at t ⊢
            exact (m4 t).fr F (by unfold RP; omega)
      · unfold CBu at hB ⊢
        rw [F.i (b := x) (by unfold RP; omega), F.i (b := x + 1) (by unfold RP; omega)]; exact hB
      · unfold CNm at hNm ⊢
        rw [F.j]; exact hNm
    · refine ⟨c.k8, thr0 c fun M1 c1 f1 t1 => ?_⟩
      have c3 := c1
      obtain ⟨mq, mn, mh, ms, mb, mnm⟩ := c3
      have o := mn.1.o
      obtain ⟨m1, m2⟩ := ms q hq
      simp (disch := omega) only [l_0, l_1, l_2, l_3, l_4, l_5, l_6, l_7, l_8, l_9, l_10, l_20, l_30, l_31, l_34, l_40, l_65, l_100, l_255, l_11, l_12, l_24, l_600, l_689, l_999, l_120, l_32, e_no_ok c1.k8 t1 hq, o, m1, pk_mul, n_cl, n_vp, n_eqT, bI_z, nar1, not_true_eq_false, Bool.false_eq_true, false_and, Bool.not_false, Bool.not_true, Bool.and_true, Bool.and_false, Bool.false_and, Bool.true_and, true_and, and_true, true_or, or_true, not_false_eq_true, Option.some.injEq, exists_eq_left', forall_eq, ↓reduceIte, Nat.add_zero, Nat.zero_add, and_self]
      refine s_X8_copies (l1 := 689) (l2 := 1378) o.2.1.2.1 o.2.2.2.1 o.2.1.2.2.2.2.1 o.2.2.2.2.2.2.1 (by omega) (by omega) (by omega) (by omega) (Or.inl (by omega)) _ fun M2 f2 g2 => ?_
      have o2 := (mn.1.fr f2).o
      simp (disch := omega) only [o2, n_cl, n_vp, not_true_eq_false, Bool.false_eq_true, false_and, Bool.not_false, Bool.not_true, Bool.and_true, Bool.and_false, Bool.false_and, Bool.true_and, true_and, and_true, true_or, or_true, not_false_eq_true, Option.some.injEq, exists_eq_left', forall_eq, ↓reduceIte, Nat.add_zero, Nat.zero_add, and_self]
      have f3 : FrI (fun b => b = x + 149 + 13) M2 (sI M2 (x + 149 + 13) q (nI 1)) := FrI.sI rfl
      have F : FrI (fun b => b = x + 149 + 12 ∨ b = x + 149 + 13) M1 (sI M2 (x + 149 + 13) q (nI 1)) := (f2.mono fun b hb => Or.inl hb).trans (f3.mono fun b hb => Or.inr hb)
      refine K _ ⟨mq.fr F (by omega), ⟨mn.1.fr F, by rw [F.i (by omega)]; exact mn.2⟩, by unfold MHi at mh ⊢; rw [F.i (b := x + 149) (by omega), F.i (b := x + 149 + 11) (by omega)]; exact mh, fun i hi => ?_, by unfold MBu at mb ⊢; rw [F.i (b := x + 149) (by omega), F.i (b := x + 149 + 4) (by omega)]; exact mb, by unfold MNm at mnm ⊢; rw [F.j]; exact mnm⟩ (f1.o.trans (F.mono fun b hb => by unfold RMo; omega)) (by rw [F.i (by omega)]; exact t1)
      obtain ⟨m5, m6⟩ := ms i hi
      by_cases e : i = q
      · subst e
        simp only [if_true]
        refine ⟨zI_sI1 _ _ _ _, fun _ k hk => ?_⟩
        rw [f3.i (by omega), g2, if_pos (by omega), show 0 + (689 * i + k - 689 * i) = k by omega]
        exact mn.2 k hk
      · simp only [if_neg e]
        refine ⟨by rw [zI_sI2 _ _ _ _ e, f2.i (by omega)]; exact m5, fun t k hk => ?_⟩
        rw [f3.i (by omega), g2, if_neg (by omega)]
        exact m6 t k hk
theorem call_restoreSnapshot {x : Nat} {s : ST} (ok : OKs s) (a : Int32) : CALL1 x s clC (fun M P X => w_X7_restoreSnapshot M x a P X) (fun M P => w_X8_restoreSnapshot M (x + 149) a P) := by
  obtain ⟨sg, pl, hn, hl, sv, sl, bl, bf, ep, nm⟩ := s
  have ok2 := ok
  obtain ⟨hs, hp, h10, hhl, hsl, hbl, hby, hep, nm1, nm2, nm3, nm4⟩ := ok
  have b := hs.b
  rcases ix a (n := 2) (by omega) with h | ⟨q, hq, rfl⟩
  · refine CALL1.no 1 (by decide) ok2 (fun M P X c w K => ?_) (fun M P c K => ?_)
    · have c2 := c
      obtain ⟨c10, sa, sp, hps, hx, hS, hS2, hP, hD, hH, hN, hB, hNm, hKP⟩ := c
      simp (disch := omega) only [w_X7_restoreSnapshot, l_0, l_1, l_2, l_3, l_4, l_5, l_6, l_7, l_8, l_9, l_10, l_20, l_30, l_31, l_34, l_40, l_65, l_100, l_255, l_11, l_12, l_24, l_600, l_689, l_999, l_120, l_32, e_req_no h, not_true_eq_false, Bool.false_eq_true, false_and, Bool.not_false, Bool.not_true, Bool.and_true, Bool.and_false, Bool.false_and, Bool.true_and, true_and, and_true, true_or, or_true, not_false_eq_true, Option.some.injEq, exists_eq_left', forall_eq, ↓reduceIte, Nat.add_zero, Nat.zero_add, and_self]
      exact fun n1 hn1 => K _ c2.sZ (FrG.sZ hn1)
    · refine ⟨c.k8, thr0 c fun M1 c1 f1 t1 => ?_⟩
      simp (disch := omega) only [l_0, l_1, l_2, l_3, l_4, l_5, l_6, l_7, l_8, l_9, l_10, l_20, l_30, l_31, l_34, l_40, l_65, l_100, l_255, l_11, l_12, l_24, l_600, l_689, l_999, l_120, l_32, e_no_no c1.k8 t1 h, c1.k8, n_eqT, n_eqF, not_true_eq_false, Bool.false_eq_true, false_and, Bool.not_false, Bool.not_true, Bool.and_true, Bool.and_false, Bool.false_and, Bool.true_and, true_and, and_true, true_or, or_true, not_false_eq_true, Option.some.injEq, exists_eq_left', forall_eq, ↓reduceIte, Nat.add_zero, Nat.zero_add, and_self]
      exact K _ _ (c1.mf MF.th) (f1.trans MF.th).o (zI_sI1 _ _ _ _)
  · by_cases sq : sv q = true
    · have gq := hsl q hq sq
      refine CALL1.ok (sg, sl q, 0, hl, sv, sl, bl, bf, ep, nm) (nI (sl q 0)) ⟨hs, gq, by omega, fun i hi => absurd hi (Nat.not_lt_zero i), hsl, hbl, hby, hep, nm1, nm2, nm3, nm4⟩ (fun M P X c w K => ?_) (fun M P c K => ?_)
      · obtain ⟨c10, sa, sp, hps, hx, hS, hS2, hP, hD, hH, hN, hB, hNm, hKP⟩ := c
        have at_ := hx.at
        obtain ⟨n1, n2, n3, n4⟩ := hN q hq
        rw [sq] at n3
        simp (disch := omega) only [w_X7_restoreSnapshot, w_X7_requireState, l_0, l_1, l_2, l_3, l_4, l_5, l_6, l_7, l_8, l_9, l_10, l_20, l_30, l_31, l_34, l_40, l_65, l_100, l_255, l_11, l_12, l_24, l_600, l_689, l_999, l_120, l_32, e_req_ok hq, hx.s, n1, n2.u, n3, hP.sh, n_cl, n_vp, bI_t, n_eqF, not_true_eq_false, Bool.false_eq_true, false_and, Bool.not_false, Bool.not_true, Bool.and_true, Bool.and_false, Bool.false_and, Bool.true_and, true_and, and_true, true_or, or_true, not_false_eq_true, Option.some.injEq, exists_eq_left', forall_eq, ↓reduceIte, Nat.add_zero, Nat.zero_add, and_self]
        refine s_X4_copyFrom hP.1 (n4 sq).raw (by omega) gq.1.n (by omega) _ fun M2 f2 g2 => ?_
        have x2 := hx.fr f2
        have f3 : FrI (fun b => b = x) M2 (sI M2 x 9 (nI 0)) := FrI.sI rfl
        have F : FrI (fun b => RP (x + 6) b ∨ b = x) M (sI M2 x 9 (nI 0)) := (f2.mono fun b hb => Or.inl hb).trans (f3.mono fun b hb => Or.inr hb)
        obtain ⟨h1, h2, h3, h9⟩ := hH
        have g3 := (g2.cpl).fr f3 (by omega)
        have gn := g3.n
        have K2 := K _ ⟨by omega, sa, sp, hps, hx.fr F, hS.fr F (by unfold RP; omega), hS2.fr F, g3, hD.fr F, ⟨fun i hi => by rw [F.r]; exact ⟨(h1 i hi).1, (h1 i hi).2.1.fr F, (h1 i hi).2.2⟩, h2, fun i hi => absurd hi (Nat.not_lt_zero i), zI_sI1 _ _ _ _⟩, hN.frx F.x (by unfold RP; omega) (by unfold RP; omega), by
          unfold CBu at hB ⊢
          rw [zI_sI2 _ _ _ _ (by omega), zI_sI2 _ _ _ _ (by omega), f2.i (b := x) (by unfold RP; omega), F.i (b := x + 1) (by unfold RP; omega)]; exact hB, by
          unfold CNm at hNm ⊢
          rw [F.j]; exact hNm, hKP.fr F (by unfold RP; omega)⟩ (F.g fun b hb => by unfold RP at hb; omega)
        have z4 : zk (sI M2 x 9 (nI 0)) (x + 6) = 4 := g3.sh.1
        rw [zk_sI] at z4
        simp (disch := omega) only [x2.s, zk_sI, zR_sI, gn, z4, not_true_eq_false, Bool.false_eq_true, false_and, Bool.not_false, Bool.not_true, Bool.and_true, Bool.and_false, Bool.false_and, Bool.true_and, true_and, and_true, true_or, or_true, not_false_eq_true, Option.some.injEq, exists_eq_left', forall_eq, ↓reduceIte, Nat.add_zero, Nat.zero_add, and_self]
        exact K2
      · refine ⟨c.k8, thr0 c fun M1 c1 f1 t1 => ?_⟩
        have c3 := c1
        obtain ⟨mq, mn, mh, ms, mb, mnm⟩ := c3
        have o := mn.1.o
        obtain ⟨m1, m2⟩ := ms q hq
        rw [sq] at m1
        simp (disch := omega) only [l_0, l_1, l_2, l_3, l_4, l_5, l_6, l_7, l_8, l_9, l_10, l_20, l_30, l_31, l_34, l_40, l_65, l_100, l_255, l_11, l_12, l_24, l_600, l_689, l_999, l_120, l_32, e_no_ok c1.k8 t1 hq, e_throws0 c1.k8 t1, o, m1, bI_t, pk_mul, n_cl, n_vp, n_eqT, n_eqF, not_true_eq_false, Bool.false_eq_true, false_and, Bool.not_false, Bool.not_true, Bool.and_true, Bool.and_false, Bool.false_and, Bool.true_and, true_and, and_true, true_or, or_true, not_false_eq_true, Option.some.injEq, exists_eq_left', forall_eq, ↓reduceIte, Nat.add_zero, Nat.zero_add, and_self]
        refine s_X8_copies (l1 := 1378) (l2 := 689) o.2.1.2.2.2.2.1 o.2.2.2.2.2.2.1 o.2.1.2.1 o.2.2.2.1 (by omega) (by omega) (by omega) (by omega) (Or.inl (by omega)) _ fun M2 f2 g2 => ?_
        have o2 := (mn.1.fr f2).o
        have f3 : FrI (fun b => b = x + 149) M2 (sI M2 (x + 149) 24 (nI 0)) := FrI.sI rfl
        have F : FrI (fun b => b = x + 149 + 2 ∨ b = x + 149) M1 (sI M2 (x + 149) 24 (nI 0)) := (f2.mono fun b hb => Or.inl hb).trans (f3.mono fun b hb => Or.inr hb)
        have I : ∀ i, i ≠ 24 → zI (sI M2 (x + 149) 24 (nI 0)) (x + 149) i = zI M1 (x + 149) i := fun i hi => by rw [zI_sI2 _ _ _ _ hi, f2.i (by omega)]
        have g4 : MN (x + 149) (sl q) (sI M2 (x + 149) 24 (nI 0)) := ⟨mn.1.fr F, fun i hi => by
          rw [f3.i (by omega), g2, if_pos (by omega), show 689 * q + (i - 0) = 689 * q + i by omega]
          exact m2 sq i hi⟩
        have v0 := g4.v 0 (by omega)
        have K2 := K _ ⟨mq.fr F (by omega), g4, ⟨zI_sI1 _ _ _ _, fun i hi => absurd hi (Nat.not_lt_zero i)⟩, by unfold MSn at ms ⊢; rw [F.i (b := x + 149 + 13) (by omega), F.i (b := x + 149 + 12) (by omega)]; exact ms, by unfold MBu at mb ⊢; rw [I 5 (by omega), I 13 (by omega), F.i (b := x + 149 + 4) (by omega)]; exact mb, by unfold MNm at mnm ⊢; rw [F.j]; exact mnm⟩ (f1.o.trans (F.mono fun b hb => by unfold RMo; omega)) (by rw [I 0 (by omega)]; exact t1)
        rw [f3.i (by omega)] at v0
        have v1 : zI (sI M2 (x + 149) 24 (nI 0)) (x + 149 + 2) = zI M2 (x + 149 + 2) := f3.i (by omega)
        simp (disch := omega) only [o2, zk_sI, zl_sI, zR_sI, v1, v0, n_cl, n_vp, not_true_eq_false, Bool.false_eq_true, false_and, Bool.not_false, Bool.not_true, Bool.and_true, Bool.and_false, Bool.false_and, Bool.true_and, true_and, and_true, true_or, or_true, not_false_eq_true, Option.some.injEq, exists_eq_left', forall_eq, ↓reduceIte, Nat.add_zero, Nat.zero_add, and_self]
        exact K2
    · refine CALL1.no 2 (by decide) ok2 (fun M P X c w K => ?_) (fun M P c K => ?_)
      · have c2 := c
        obtain ⟨c10, sa, sp, hps, hx, hS, hS2, hP, hD, hH, hN, hB, hNm, hKP⟩ := c
        obtain ⟨n1, n2, n3, n4⟩ := hN q hq
        rw [b_no sq] at n3
        simp (disch := omega) only [w_X7_restoreSnapshot, w_X7_requireState, l_0, l_1, l_2, l_3, l_4, l_5, l_6, l_7, l_8, l_9, l_10, l_20, l_30, l_31, l_34, l_40, l_65, l_100, l_255, l_11, l_12, l_24, l_600, l_689, l_999, l_120, l_32, e_req_ok hq, hx.s, n1, n3, n_cl, n_vp, bI_f, n_eqT, not_true_eq_false, Bool.false_eq_true, false_and, Bool.not_false, Bool.not_true, Bool.and_true, Bool.and_false, Bool.false_and, Bool.true_and, true_and, and_true, true_or, or_true, not_false_eq_true, Option.some.injEq, exists_eq_left', forall_eq, ↓reduceIte, Nat.add_zero, Nat.zero_add, and_self]
        exact fun n1 hn1 => K _ c2.sZ (FrG.sZ hn1)
      · refine ⟨c.k8, thr0 c fun M1 c1 f1 t1 => ?_⟩
        have c3 := c1
        obtain ⟨mq, mn, mh, ms, mb, mnm⟩ := c3
        have o := mn.1.o
        obtain ⟨m1, m2⟩ := ms q hq
        rw [b_no sq] at m1
        simp (disch := omega) only [l_0, l_1, l_2, l_3, l_4, l_5, l_6, l_7, l_8, l_9, l_10, l_20, l_30, l_31, l_34, l_40, l_65, l_100, l_255, l_11, l_12, l_24, l_600, l_689, l_999, l_120, l_32, e_no_ok c1.k8 t1 hq, e_throws1 c1.k8 t1, o, m1, bI_f, n_cl, n_vp, n_eqT, n_eqF, not_true_eq_false, Bool.false_eq_true, false_and, Bool.not_false, Bool.not_true, Bool.and_true, Bool.and_false, Bool.false_and, Bool.true_and, true_and, and_true, true_or, or_true, not_false_eq_true, Option.some.injEq, exists_eq_left', forall_eq, ↓reduceIte, Nat.add_zero, Nat.zero_add, and_self]
        exact K _ _ (c1.mf MF.th) (f1.trans MF.th).o (zI_sI1 _ _ _ _)
