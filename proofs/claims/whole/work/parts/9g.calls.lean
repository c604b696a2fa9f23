/-! CHANGES: rehearse, concert, cancel, move, recast, setContract -/
section CH
variable {x : Nat} {sg pl pl2 : Nat → Nat} {hn : Nat} {hl : Nat → Nat → Nat} {sv : Nat → Bool} {sl : Nat → Nat → Nat} {bl : Nat} {bf : Nat → Int32} {ep : Nat} {nm : Nat → List Nat} {M : Mm}
theorem push_ok {G : (Nat → Nat) → Prop} (h10 : hn ≤ 10) (hp : G pl) (h : ∀ i, i < hn → G (hl i)) : ∀ i, i < pushn hn → G (push hn hl pl i) := fun i hi => by
  unfold pushn at hi
  unfold push
  by_cases c : hn = 10
  · rw [if_pos c] at hi
    simp only [if_pos c]
    by_cases d : i = 9
    · simp only [if_pos d]; exact hp
    · simp only [if_neg d]; exact h (i + 1) (by omega)
  · rw [if_neg c] at hi
    simp only [if_neg c]
    by_cases d : i = hn
    · simp only [if_pos d]; exact hp
    · simp only [if_neg d]; exact h i (by omega)
theorem pushn_le (h10 : hn ≤ 10) : pushn hn ≤ 10 := by unfold pushn; split <;> omega
theorem OKs.push (ok : OKs (sg, pl, hn, hl, sv, sl, bl, bf, ep, nm)) (h : PG sg pl2) : OKs (sg, pl2, pushn hn, push hn hl pl, sv, sl, bl, bf, ep, nm) := by
  obtain ⟨hs, hp, h10, hhl, hsl, hbl, hby, hep, nm1, nm2, nm3, nm4⟩ := ok
  exact ⟨hs, h, pushn_le h10, push_ok h10 hp hhl, hsl, hbl, hby, hep, nm1, nm2, nm3, nm4⟩
theorem s_accCI (ok : OKs (sg, pl, hn, hl, sv, sl, bl, bf, ep, nm)) (c : CI x (sg, pl, hn, hl, sv, sl, bl, bf, ep, nm) M) (hd : CPl (x + 13) sg pl2 M) (hb2 : PB sg pl2) (P : Mm → Prop)
    (K : ∀ M', CI x (sg, pl2, pushn hn, push hn hl pl, sv, sl, bl, bf, ep, nm) M' → FrG x (x + 149) M M' → P M') : w_X7_acceptDraft M x P := by
  obtain ⟨hs, hp, h10, hhl, hsl, hbl, hby, hep, nm1, nm2, nm3, nm4⟩ := ok
  obtain ⟨c10, sa, sp, hps, hx, hS, hS2, hP, hD, hH, hN, hB, hNm, hKP⟩ := c
  have at_ := hx.at
  refine s_X7_acceptDraft hs hx hP hd hp.1 hb2 hH h10 P fun M2 hp2 f g k1 k2 => ?_
  refine K M2 ⟨pushn_le h10, sa, sp, hp2, hx.frx f, hS.frx f (by omega) (by unfold RA; omega), hS2.frx f (by omega), k1, hD.frx f (by omega), k2, hN.frx f (by unfold RA; omega) (by unfold RA; omega), ?_, ?_, hKP.e (f.i (by unfold RA; omega))⟩ (f.g (fun b hb => by unfold RA at hb; omega) (by omega))
  · unfold CBu at hB ⊢
    rw [g 7 (by omega), g 8 (by omega), f.i (b := x + 1) (by unfold RA; omega)]; exact hB
  · unfold CNm at hNm ⊢
    rw [f.j]; exact hNm
theorem s_keepMI {m : Nat} (c : MI m (sg, pl, hn, hl, sv, sl, bl, bf, ep, nm) M) (h10 : hn ≤ 10) (P : Mm → Prop)
    (K : ∀ M', MI m (sg, pl, pushn hn, push hn hl pl, sv, sl, bl, bf, ep, nm) M' → FrI (fun b => b = m ∨ b = m + 11) M M' → zI M' m 0 = zI M m 0 → P M') : w_X8_keeps M m P := by
  obtain ⟨mq, mn, mh, ms, mb, mnm⟩ := c
  refine s_X8_keeps mn.1 mn.2 mh h10 P fun M2 f g k => ?_
  refine K M2 ⟨mq.fr f (by omega), ⟨mn.1.fr f, by rw [f.i (by omega)]; exact mn.2⟩, k, ?_, ?_, ?_⟩ f (g 0 (by omega))
  · unfold MSn at ms ⊢; rw [f.i (b := m + 13) (by omega), f.i (b := m + 12) (by omega)]; exact ms
  · unfold MBu at mb ⊢; rw [g 5 (by omega), g 13 (by omega), f.i (by omega)]; exact mb
  · unfold MNm at mnm ⊢; rw [f.j]; exact mnm
/-- another plan in the model -/
theorem MI.plan {m : Nat} {M M2 : Mm} (c : MI m (sg, pl, hn, hl, sv, sl, bl, bf, ep, nm) M) (f : FrI (RM m) M M2) (g : ∀ i, i ≠ 21 → i ≠ 23 → zI M2 m i = zI M m i) (k : MN m pl2 M2) : MI m (sg, pl2, hn, hl, sv, sl, bl, bf, ep, nm) M2 := by
  obtain ⟨mq, mn, mh, ms, mb, mnm⟩ := c
  refine ⟨mq.fr f (by unfold RM; omega), k, ?_, ?_, ?_, ?_⟩
  · unfold MHi at mh ⊢; rw [g 24 (by omega) (by omega), f.i (by unfold RM; omega)]; exact mh
  · unfold MSn at ms ⊢; rw [f.i (b := m + 13) (by unfold RM; omega), f.i (b := m + 12) (by unfold RM; omega)]; exact ms
  · unfold MBu at mb ⊢; rw [g 5 (by omega) (by omega), g 13 (by omega) (by omega), f.i (by unfold RM; omega)]; exact mb
  · unfold MNm at mnm ⊢; rw [f.j]; exact mnm
/-- adding a service: class -/
theorem s_addService_ok (ok : OKs (sg, pl, hn, hl, sv, sl, bl, bf, ep, nm)) (c : CI x (sg, pl, hn, hl, sv, sl, bl, bf, ep, nm) M) {ha t S k : Nat} (h1 : ha < sg 1) (h2 : t < sg 0 * 3) (hS5 : S < 2 ^ sg 3) (hk : k < 2) (w0 : whyN sg pl ha t S k = 0) (P : Int32 → Mm → Prop) (X : String → Mm → Prop)
    (K : ∀ M', CI x (sg, cm sg pl (psn pl ha t) t ha S k (free sg pl t), pushn hn, push hn hl pl, sv, sl, bl, bf, ep, nm) M' → FrG x (x + 149) M M' → P (nI (psn pl ha t)) M') : w_X7_addService M x (nI ha) (nI t) (nI S) (nI k) P X := by
  have ok2 := ok
  obtain ⟨hs, hp, h10, hhl, hsl, hbl, hby, hep, nm1, nm2, nm3, nm4⟩ := ok
  have c2 := c
  obtain ⟨c10, sa, sp, hps, hx, hS, hS2, hP, hD, hH, hN, hB, hNm, hKP⟩ := c
  have b := hs.b
  have at_ := hx.at
  have pw := p2le (sg 3) (by omega)
  obtain ⟨w1, w2, w3⟩ := why0 w0 hp.1
  have pc2 : PG sg (cm sg pl (psn pl ha t) t ha S k (free sg pl t)) := PGcm hs hp w1 (by omega) h1 (by omega) hS5 w2 w3
  simp (disch := omega) only [w_X7_addService, hx.s, not_true_eq_false, Bool.false_eq_true, false_and, Bool.not_false, Bool.not_true, Bool.and_true, Bool.and_false, Bool.false_and, Bool.true_and, true_and, and_true, true_or, or_true, not_false_eq_true, Option.some.injEq, exists_eq_left', forall_eq, ↓reduceIte, Nat.add_zero, Nat.zero_add, and_self]
  refine s_X7_reasonAgainst hs hp.1 hx hKP hS hP h1 (by omega) (by omega) hk _ fun M2 f2 => ?_
  have x2 := hx.fr f2.1
  have S2 := hS.fr f2.1 (by unfold RK; omega)
  have P2 := hP.fr f2.1 (by unfold RK; omega)
  have D2 := hD.fr f2.1
  simp (disch := omega) only [w0, w_X7_requireState, x2.s, D2.u, l_0, l_1, l_2, l_3, l_4, l_5, l_6, l_7, l_8, l_9, l_10, l_20, l_30, l_31, l_34, l_40, l_65, l_100, l_255, l_11, l_12, l_24, l_600, l_689, l_999, l_120, l_32, nI_add, pk_mul, n_sub, n_leT, n_leF, n_ltT, n_ltF, n_eqT, n_eqF, n_cl, n_vp, fa_andq, fa_orq, fa_xorq, n_shl, n_shr, n_t1, n_t0, n_div, n_m1, not_true_eq_false, Bool.false_eq_true, false_and, Bool.not_false, Bool.not_true, Bool.and_true, Bool.and_false, Bool.false_and, Bool.true_and, true_and, and_true, true_or, or_true, not_false_eq_true, Option.some.injEq, exists_eq_left', forall_eq, ↓reduceIte, Nat.add_zero, Nat.zero_add, and_self]
  refine s_X4_copyFrom D2 P2.raw (by omega) hp.1.n (by omega) _ fun M3 f3 g3 => ?_
  have x3 := x2.fr f3
  have S3 := S2.fr f3 (by unfold RP; omega)
  simp (disch := omega) only [x3.s, not_true_eq_false, Bool.false_eq_true, false_and, Bool.not_false, Bool.not_true, Bool.and_true, Bool.and_false, Bool.false_and, Bool.true_and, true_and, and_true, true_or, or_true, not_false_eq_true, Option.some.injEq, exists_eq_left', forall_eq, ↓reduceIte, Nat.add_zero, Nat.zero_add, and_self]
  refine s_X7_addToDraft hs x3 ((f2.2 hKP).fr f3 (by unfold RP; omega)) S3 hp.1 g3.cpl w1 (by omega) (by omega) hk (by omega) _ fun M4 f4 g4 => ?_
  have x4 := x3.fr f4.1
  have F : FK x (RDr x) M M4 := ((RK.g f2).trans ((FK.of f3 (by unfold RP; omega)).mono fun q hq => by unfold RP at hq; unfold RDr; omega)).trans f4
  simp (disch := omega) only [x4.s, not_true_eq_false, Bool.false_eq_true, false_and, Bool.not_false, Bool.not_true, Bool.and_true, Bool.and_false, Bool.false_and, Bool.true_and, true_and, and_true, true_or, or_true, not_false_eq_true, Option.some.injEq, exists_eq_left', forall_eq, ↓reduceIte, Nat.add_zero, Nat.zero_add, and_self]
  exact s_accCI ok2 (c2.dr F) g4 pc2.1 _ fun M5 c5 g5 => K M5 c5 ((RDr.g F).trans g5)
theorem s_addService_no (ok : OKs (sg, pl, hn, hl, sv, sl, bl, bf, ep, nm)) (c : CI x (sg, pl, hn, hl, sv, sl, bl, bf, ep, nm) M) {ha t S k : Nat} (h1 : ha < sg 1) (h2 : t < sg 0 * 3) (hS5 : S < 2 ^ sg 3) (hk : k < 2) (w0 : whyN sg pl ha t S k ≠ 0) (P : Int32 → Mm → Prop) (X : String → Mm → Prop)
    (K : ∀ M', CI x (sg, pl, hn, hl, sv, sl, bl, bf, ep, nm) M' → FrG x (x + 149) M M' → X "java/lang/IllegalStateException" M') : w_X7_addService M x (nI ha) (nI t) (nI S) (nI k) P X := by
  obtain ⟨hs, hp, h10, hhl, hsl, hbl, hby, hep, nm1, nm2, nm3, nm4⟩ := ok
  have c2 := c
  obtain ⟨c10, sa, sp, hps, hx, hS, hS2, hP, hD, hH, hN, hB, hNm, hKP⟩ := c
  have b := hs.b
  have pw := p2le (sg 3) (by omega)
  have wl := whyN_lt sg pl ha t S k
  simp (disch := omega) only [w_X7_addService, hx.s, not_true_eq_false, Bool.false_eq_true, false_and, Bool.not_false, Bool.not_true, Bool.and_true, Bool.and_false, Bool.false_and, Bool.true_and, true_and, and_true, true_or, or_true, not_false_eq_true, Option.some.injEq, exists_eq_left', forall_eq, ↓reduceIte, Nat.add_zero, Nat.zero_add, and_self]
  refine s_X7_reasonAgainst hs hp.1 hx hKP hS hP h1 (by omega) (by omega) hk _ fun M2 f2 => ?_
  simp (disch := omega) only [w_X7_requireState, l_0, l_1, l_2, l_3, l_4, l_5, l_6, l_7, l_8, l_9, l_10, l_20, l_30, l_31, l_34, l_40, l_65, l_100, l_255, l_11, l_12, l_24, l_600, l_689, l_999, l_120, l_32, nI_add, pk_mul, n_sub, n_leT, n_leF, n_ltT, n_ltF, n_eqT, n_eqF, n_cl, n_vp, fa_andq, fa_orq, fa_xorq, n_shl, n_shr, n_t1, n_t0, n_div, n_m1, not_true_eq_false, Bool.false_eq_true, false_and, Bool.not_false, Bool.not_true, Bool.and_true, Bool.and_false, Bool.false_and, Bool.true_and, true_and, and_true, true_or, or_true, not_false_eq_true, Option.some.injEq, exists_eq_left', forall_eq, ↓reduceIte, Nat.add_zero, Nat.zero_add, and_self]
  exact fun n1 hn1 => K _ ((c2.dr (RK.g f2)).sZ) ((RDr.g (RK.g f2)).trans (FrG.sZ hn1))
/-- adding a service: the model, behind its tests -/
theorem s_addM (hp : PG sg pl) (h10 : hn ≤ 10) (c : MI (x + 149) (sg, pl, hn, hl, sv, sl, bl, bf, ep, nm) M) (t0 : zI M (x + 149) 0 = nI 0) {ha t S k : Nat} (h1 : ha < sg 1) (h2 : t < sg 0 * 3) (hS5 : S < 32) (w1 : pl 0 < 20) (P : Int32 → Mm → Prop)
    (K : ∀ M', MI (x + 149) (sg, cm sg pl (psn pl ha t) t ha S k (free sg pl t), pushn hn, push hn hl pl, sv, sl, bl, bf, ep, nm) M' → FrI (RMo x) M M' → zI M' (x + 149) 0 = nI 0 → P (nI (psn pl ha t)) M') : w_X8_keeps M (x + 149) (fun M6 => zk M6 (x + 149) = 8 ∧ w_X8_comes M6 (x + 149) (nI ha) (nI t) (nI S) (nI k) (fun r7 M7 => P r7 M7)) := by
  refine s_keepMI c h10 _ fun M2 c2 f2 z2 => ?_
  have r2 := c2.mr hp.1
  have b := r2.sb.b
  refine ⟨c2.k8, s_X8_comes r2 (by omega) (by omega) hS5 w1 _ fun M3 f3 q3 g3 => ?_⟩
  refine K M3 (c2.plan f3.1 (fun i h1 _ => f3.2 i h1) g3) ((f2.mono fun b hb => by unfold RMo; omega).trans (f3.1.mono fun b hb => by unfold RM at hb; unfold RMo; omega)) ?_
  rw [f3.2 0 (by omega), z2]; exact t0
end CH
theorem call_rehearse {x : Nat} {s : ST} (ok : OKs s) (a a2 a3 : Int32) : CALL1 x s clC (fun M P X => w_X7_rehearse M x a a2 a3 P X) (fun M P => w_X8_rehearse M (x + 149) a a2 a3 P) := by
  obtain ⟨sg, pl, hn, hl, sv, sl, bl, bf, ep, nm⟩ := s
  have ok2 := ok
  obtain ⟨hs, hp, h10, hhl, hsl, hbl, hby, hep, nm1, nm2, nm3, nm4⟩ := ok
  have b := hs.b
  have pw := p2le (sg 3) (by omega)
  rcases plc hs a a2 with h | ⟨ha, t, h1, h2, rfl, rfl⟩
  · refine CALL1.no 1 (by decide) ok2 (fun M P X c w K => ?_) (fun M P c K => ?_)
    · have c2 := c
      obtain ⟨c10, sa, sp, hps, hx, hS, hS2, hP, hD, hH, hN, hB, hNm, hKP⟩ := c
      rcases h with h | ⟨ha, h1, rfl, h⟩
      · simp (disch := omega) only [w_X7_rehearse, w_X7_requireHall, hx.s, hS.s1, hS.n, e_req_no h, not_true_eq_false, Bool.false_eq_true, false_and, Bool.not_false, Bool.not_true, Bool.and_true, Bool.and_false, Bool.false_and, Bool.true_and, true_and, and_true, true_or, or_true, not_false_eq_true, Option.some.injEq, exists_eq_left', forall_eq, ↓reduceIte, Nat.add_zero, Nat.zero_add, and_self]
        exact fun n1 hn1 => K _ c2.sZ (FrG.sZ hn1)
      · simp (disch := omega) only [w_X7_rehearse, w_X7_requireHall, w_X7_requireSlot, hx.s, hS.s1, hS.n, e_req_ok h1, e_X6_slotCount hS, e_req_no h, not_true_eq_false, Bool.false_eq_true, false_and, Bool.not_false, Bool.not_true, Bool.and_true, Bool.and_false, Bool.false_and, Bool.true_and, true_and, and_true, true_or, or_true, not_false_eq_true, Option.some.injEq, exists_eq_left', forall_eq, ↓reduceIte, Nat.add_zero, Nat.zero_add, and_self]
        exact fun n1 hn1 => K _ c2.sZ (FrG.sZ hn1)
    · refine ⟨c.k8, s_noPlace_no c hp.1 h _ fun M1 c1 f1 t1 => ?_⟩
      simp (disch := omega) only [l_0, l_1, l_2, l_3, l_4, l_5, l_6, l_7, l_8, l_9, l_10, l_20, l_30, l_31, l_34, l_40, l_65, l_100, l_255, l_11, l_12, l_24, l_600, l_689, l_999, l_120, l_32, nI_add, pk_mul, n_sub, n_leT, n_leF, n_ltT, n_ltF, n_eqT, n_eqF, n_cl, n_vp, fa_andq, fa_orq, fa_xorq, n_shl, n_shr, n_t1, n_t0, n_div, n_m1, not_true_eq_false, Bool.false_eq_true, false_and, Bool.not_false, Bool.not_true, Bool.and_true, Bool.and_false, Bool.false_and, Bool.true_and, true_and, and_true, true_or, or_true, not_false_eq_true, Option.some.injEq, exists_eq_left', forall_eq, ↓reduceIte, Nat.add_zero, Nat.zero_add, and_self]
      exact K _ _ c1 f1.o t1
  · rcases ix a3 (n := sg 3) (by omega) with h | ⟨wk, hw, rfl⟩
    · refine CALL1.no 1 (by decide) ok2 (fun M P X c w K => ?_) (fun M P c K => ?_)
      · have c2 := c
        obtain ⟨c10, sa, sp, hps, hx, hS, hS2, hP, hD, hH, hN, hB, hNm, hKP⟩ := c
        simp (disch := omega) only [w_X7_rehearse, w_X7_requireHall, w_X7_requireSlot, w_X7_requireWork, hx.s, hS.s1, hS.n, e_req_ok h1, e_X6_slotCount hS, e_req_ok h2, e_req_no h, not_true_eq_false, Bool.false_eq_true, false_and, Bool.not_false, Bool.not_true, Bool.and_true, Bool.and_false, Bool.false_and, Bool.true_and, true_and, and_true, true_or, or_true, not_false_eq_true, Option.some.injEq, exists_eq_left', forall_eq, ↓reduceIte, Nat.add_zero, Nat.zero_add, and_self]
        exact fun n1 hn1 => K _ c2.sZ (FrG.sZ hn1)
      · refine ⟨c.k8, s_noPlace_ok c hp.1 h1 h2 _ fun M1 c1 f1 t1 => ?_⟩
        have r := c1.mr hp.1
        simp (disch := omega) only [r.sh, r.v1, e_no_no r.sh.1.1 t1 h, l_0, l_1, l_2, l_3, l_4, l_5, l_6, l_7, l_8, l_9, l_10, l_20, l_30, l_31, l_34, l_40, l_65, l_100, l_255, l_11, l_12, l_24, l_600, l_689, l_999, l_120, l_32, nI_add, pk_mul, n_sub, n_leT, n_leF, n_ltT, n_ltF, n_eqT, n_eqF, n_cl, n_vp, fa_andq, fa_orq, fa_xorq, n_shl, n_shr, n_t1, n_t0, n_div, n_m1, not_true_eq_false, Bool.false_eq_true, false_and, Bool.not_false, Bool.not_true, Bool.and_true, Bool.and_false, Bool.false_and, Bool.true_and, true_and, and_true, true_or, or_true, not_false_eq_true, Option.some.injEq, exists_eq_left', forall_eq, ↓reduceIte, Nat.add_zero, Nat.zero_add, and_self]
        exact K _ _ (c1.mf MF.th) (f1.trans MF.th).o (zI_sI1 _ _ _ _)
    · have pS : 2 ^ wk < 2 ^ sg 3 := Nat.pow_lt_pow_right (by decide) hw
      by_cases w0 : whyN sg pl ha t (2 ^ wk) 0 = 0
      · obtain ⟨w1, w2, w3⟩ := why0 w0 hp.1
        have pc2 : PG sg (cm sg pl (psn pl ha t) t ha (2 ^ wk) 0 (free sg pl t)) := PGcm hs hp w1 (by omega) h1 (by omega) pS w2 w3
        refine CALL1.ok _ (nI (psn pl ha t)) (ok2.push pc2) (fun M P X c w K => ?_) (fun M P c K => ?_)
        · have c2 := c
          obtain ⟨c10, sa, sp, hps, hx, hS, hS2, hP, hD, hH, hN, hB, hNm, hKP⟩ := c
          simp (disch := omega) only [w_X7_rehearse, w_X7_requireHall, w_X7_requireSlot, w_X7_requireWork, hx.s, hS.s1, hS.n, e_req_ok h1, e_X6_slotCount hS, e_req_ok h2, e_req_ok hw, l_0, l_1, l_2, l_3, l_4, l_5, l_6, l_7, l_8, l_9, l_10, l_20, l_30, l_31, l_34, l_40, l_65, l_100, l_255, l_11, l_12, l_24, l_600, l_689, l_999, l_120, l_32, fa_andq, n_shl, not_true_eq_false, Bool.false_eq_true, false_and, Bool.not_false, Bool.not_true, Bool.and_true, Bool.and_false, Bool.false_and, Bool.true_and, true_and, and_true, true_or, or_true, not_false_eq_true, Option.some.injEq, exists_eq_left', forall_eq, ↓reduceIte, Nat.add_zero, Nat.zero_add, and_self]
          exact s_addService_ok ok2 c2 h1 h2 pS (by omega) w0 _ _ K
        · refine ⟨c.k8, s_noPlace_ok c hp.1 h1 h2 _ fun M1 c1 f1 t1 => ?_⟩
          have r := c1.mr hp.1
          simp (disch := omega) only [r.sh, r.v1, e_no_ok r.sh.1.1 t1 hw, l_0, l_1, l_2, l_3, l_4, l_5, l_6, l_7, l_8, l_9, l_10, l_20, l_30, l_31, l_34, l_40, l_65, l_100, l_255, l_11, l_12, l_24, l_600, l_689, l_999, l_120, l_32, nI_add, pk_mul, n_sub, n_leT, n_leF, n_ltT, n_ltF, n_eqT, n_eqF, n_cl, n_vp, fa_andq, fa_orq, fa_xorq, n_shl, n_shr, n_t1, n_t0, n_div, n_m1, not_true_eq_false, Bool.false_eq_true, false_and, Bool.not_false, Bool.not_true, Bool.and_true, Bool.and_false, Bool.false_and, Bool.true_and, true_and, and_true, true_or, or_true, not_false_eq_true, Option.some.injEq, exists_eq_left', forall_eq, ↓reduceIte, Nat.add_zero, Nat.zero_add, and_self]
          refine s_X8_why r h1 (by omega) (by omega) (by omega) _ fun M2 f2 => ?_
          have c2 := c1.mf f2.mf
          have t2 : zI M2 (x + 149) 0 = nI 0 := by rw [f2.2 0 (by omega)]; exact t1
          simp (disch := omega) only [w0, c2.k8, e_throws0 c2.k8 t2, l_0, l_1, l_2, l_3, l_4, l_5, l_6, l_7, l_8, l_9, l_10, l_20, l_30, l_31, l_34, l_40, l_65, l_100, l_255, l_11, l_12, l_24, l_600, l_689, l_999, l_120, l_32, nI_add, pk_mul, n_sub, n_leT, n_leF, n_ltT, n_ltF, n_eqT, n_eqF, n_cl, n_vp, fa_andq, fa_orq, fa_xorq, n_shl, n_shr, n_t1, n_t0, n_div, n_m1, not_true_eq_false, Bool.false_eq_true, false_and, Bool.not_false, Bool.not_true, Bool.and_true, Bool.and_false, Bool.false_and, Bool.true_and, true_and, and_true, true_or, or_true, not_false_eq_true, Option.some.injEq, exists_eq_left', forall_eq, ↓reduceIte, Nat.add_zero, Nat.zero_add, and_self]
          exact s_addM hp h10 c2 t2 h1 h2 (by omega) w1 _ fun M3 c3 f3 t3 => K M3 c3 ((f1.trans f2.mf).o.trans f3) t3
      · have wl := whyN_lt sg pl ha t (2 ^ wk) 0
        refine CALL1.no 2 (by decide) ok2 (fun M P X c w K => ?_) (fun M P c K => ?_)
        · have c2 := c
          obtain ⟨c10, sa, sp, hps, hx, hS, hS2, hP, hD, hH, hN, hB, hNm, hKP⟩ := c
          simp (disch := omega) only [w_X7_rehearse, w_X7_requireHall, w_X7_requireSlot, w_X7_requireWork, hx.s, hS.s1, hS.n, e_req_ok h1, e_X6_slotCount hS, e_req_ok h2, e_req_ok hw, l_0, l_1, l_2, l_3, l_4, l_5, l_6, l_7, l_8, l_9, l_10, l_20, l_30, l_31, l_34, l_40, l_65, l_100, l_255, l_11, l_12, l_24, l_600, l_689, l_999, l_120, l_32, fa_andq, n_shl, not_true_eq_false, Bool.false_eq_true, false_and, Bool.not_false, Bool.not_true, Bool.and_true, Bool.and_false, Bool.false_and, Bool.true_and, true_and, and_true, true_or, or_true, not_false_eq_true, Option.some.injEq, exists_eq_left', forall_eq, ↓reduceIte, Nat.add_zero, Nat.zero_add, and_self]
          exact s_addService_no ok2 c2 h1 h2 pS (by omega) w0 _ _ K
        · refine ⟨c.k8, s_noPlace_ok c hp.1 h1 h2 _ fun M1 c1 f1 t1 => ?_⟩
          have r := c1.mr hp.1
          simp (disch := omega) only [r.sh, r.v1, e_no_ok r.sh.1.1 t1 hw, l_0, l_1, l_2, l_3, l_4, l_5, l_6, l_7, l_8, l_9, l_10, l_20, l_30, l_31, l_34, l_40, l_65, l_100, l_255, l_11, l_12, l_24, l_600, l_689, l_999, l_120, l_32, nI_add, pk_mul, n_sub, n_leT, n_leF, n_ltT, n_ltF, n_eqT, n_eqF, n_cl, n_vp, fa_andq, fa_orq, fa_xorq, n_shl, n_shr, n_t1, n_t0, n_div, n_m1, not_true_eq_false, Bool.false_eq_true, false_and, Bool.not_false, Bool.not_true, Bool.and_true, Bool.and_false, Bool.false_and, Bool.true_and, true_and, and_true, true_or, or_true, not_false_eq_true, Option.some.injEq, exists_eq_left', forall_eq, ↓reduceIte, Nat.add_zero, Nat.zero_add, and_self]
          refine s_X8_why r h1 (by omega) (by omega) (by omega) _ fun M2 f2 => ?_
          have c2 := c1.mf f2.mf
          have t2 : zI M2 (x + 149) 0 = nI 0 := by rw [f2.2 0 (by omega)]; exact t1
          simp (disch := omega) only [c2.k8, e_throws1 c2.k8 t2, l_0, l_1, l_2, l_3, l_4, l_5, l_6, l_7, l_8, l_9, l_10, l_20, l_30, l_31, l_34, l_40, l_65, l_100, l_255, l_11, l_12, l_24, l_600, l_689, l_999, l_120, l_32, nI_add, pk_mul, n_sub, n_leT, n_leF, n_ltT, n_ltF, n_eqT, n_eqF, n_cl, n_vp, fa_andq, fa_orq, fa_xorq, n_shl, n_shr, n_t1, n_t0, n_div, n_m1, not_true_eq_false, Bool.false_eq_true, false_and, Bool.not_false, Bool.not_true, Bool.and_true, Bool.and_false, Bool.false_and, Bool.true_and, true_and, and_true, true_or, or_true, not_false_eq_true, Option.some.injEq, exists_eq_left', forall_eq, ↓reduceIte, Nat.add_zero, Nat.zero_add, and_self]
          exact K _ _ (c2.mf MF.th) ((f1.trans f2.mf).trans MF.th).o (zI_sI1 _ _ _ _)
theorem call_concert {x : Nat} {s : ST} (ok : OKs s) (a a2 a3 : Int32) : CALL1 x s clB3 (fun M P X => w_X7_concert M x a a2 a3 P X) (fun M P => w_X8_concert M (x + 149) a a2 a3 P) := by
  obtain ⟨sg, pl, hn, hl, sv, sl, bl, bf, ep, nm⟩ := s
  have ok2 := ok
  obtain ⟨hs, hp, h10, hhl, hsl, hbl, hby, hep, nm1, nm2, nm3, nm4⟩ := ok
  have b := hs.b
  have pw := p2le (sg 3) (by omega)
  have hc : 1 < 2 := by omega
  rcases plc hs a a2 with h | ⟨ha, t, h1, h2, rfl, rfl⟩
  · refine CALL1.no 1 (by decide) ok2 (fun M P X c w K => ?_) (fun M P c K => ?_)
    · have c2 := c
      obtain ⟨c10, sa, sp, hps, hx, hS, hS2, hP, hD, hH, hN, hB, hNm, hKP⟩ := c
      simp (disch := omega) only [w_X7_concert, hx.s, e_rpw_p hs hx hS h, not_true_eq_false, Bool.false_eq_true, false_and, Bool.not_false, Bool.not_true, Bool.and_true, Bool.and_false, Bool.false_and, Bool.true_and, true_and, and_true, true_or, or_true, not_false_eq_true, Option.some.injEq, exists_eq_left', forall_eq, ↓reduceIte, Nat.add_zero, Nat.zero_add, and_self]
      exact fun n1 hn1 => K _ c2.sZ (FrG.sZ hn1)
    · refine ⟨c.k8, s_noPlace_no c hp.1 h _ fun M1 c1 f1 t1 => ?_⟩
      simp (disch := omega) only [l_0, l_1, l_2, l_3, l_4, l_5, l_6, l_7, l_8, l_9, l_10, l_20, l_30, l_31, l_34, l_40, l_65, l_100, l_255, l_11, l_12, l_24, l_600, l_689, l_999, l_120, l_32, nI_add, pk_mul, n_sub, n_leT, n_leF, n_ltT, n_ltF, n_eqT, n_eqF, n_cl, n_vp, fa_andq, fa_orq, fa_xorq, n_shl, n_shr, n_t1, n_t0, n_div, n_m1, not_true_eq_false, Bool.false_eq_true, false_and, Bool.not_false, Bool.not_true, Bool.and_true, Bool.and_false, Bool.false_and, Bool.true_and, true_and, and_true, true_or, or_true, not_false_eq_true, Option.some.injEq, exists_eq_left', forall_eq, ↓reduceIte, Nat.add_zero, Nat.zero_add, and_self]
      exact K _ _ c1 f1.o t1
  · rcases setc (sg 3) 1 a3 with h | ⟨n, g, rfl⟩
    · refine CALL1.no 2 (by decide) ok2 (fun M P X c w K => ?_) (fun M P c K => ?_)
      · have c2 := c
        obtain ⟨c10, sa, sp, hps, hx, hS, hS2, hP, hD, hH, hN, hB, hNm, hKP⟩ := c
        simp (disch := omega) only [w_X7_concert, hx.s, l_0, l_1, l_2, l_3, l_4, l_5, l_6, l_7, l_8, l_9, l_10, l_20, l_30, l_31, l_34, l_40, l_65, l_100, l_255, l_11, l_12, l_24, l_600, l_689, l_999, l_120, l_32, e_rpw_s hs hx hS h1 h2 hc h, not_true_eq_false, Bool.false_eq_true, false_and, Bool.not_false, Bool.not_true, Bool.and_true, Bool.and_false, Bool.false_and, Bool.true_and, true_and, and_true, true_or, or_true, not_false_eq_true, Option.some.injEq, exists_eq_left', forall_eq, ↓reduceIte, Nat.add_zero, Nat.zero_add, and_self]
        exact fun n1 hn1 => K _ c2.sZ (FrG.sZ hn1)
      · refine ⟨c.k8, s_noPlace_ok c hp.1 h1 h2 _ fun M1 c1 f1 t1 => ?_⟩
        have r := c1.mr hp.1
        simp (disch := omega) only [r.sh, l_0, l_1, l_2, l_3, l_4, l_5, l_6, l_7, l_8, l_9, l_10, l_20, l_30, l_31, l_34, l_40, l_65, l_100, l_255, l_11, l_12, l_24, l_600, l_689, l_999, l_120, l_32, e_noSet_no r t1 hc h, n_eqT, n_eqF, not_true_eq_false, Bool.false_eq_true, false_and, Bool.not_false, Bool.not_true, Bool.and_true, Bool.and_false, Bool.false_and, Bool.true_and, true_and, and_true, true_or, or_true, not_false_eq_true, Option.some.injEq, exists_eq_left', forall_eq, ↓reduceIte, Nat.add_zero, Nat.zero_add, and_self]
        exact K _ _ (c1.mf MF.th) (f1.trans MF.th).o (zI_sI1 _ _ _ _)
    · have n32 : n < 32 := by have := g.1; omega
      by_cases w0 : whyN sg pl ha t n 1 = 0
      · obtain ⟨w1, w2, w3⟩ := why0 w0 hp.1
        have pc2 : PG sg (cm sg pl (psn pl ha t) t ha n 1 (free sg pl t)) := PGcm hs hp w1 (by omega) h1 (by omega) g.1 w2 w3
        refine CALL1.ok _ (nI (psn pl ha t)) (ok2.push pc2) (fun M P X c w K => ?_) (fun M P c K => ?_)
        · have c2 := c
          obtain ⟨c10, sa, sp, hps, hx, hS, hS2, hP, hD, hH, hN, hB, hNm, hKP⟩ := c
          simp (disch := omega) only [w_X7_concert, hx.s, l_0, l_1, l_2, l_3, l_4, l_5, l_6, l_7, l_8, l_9, l_10, l_20, l_30, l_31, l_34, l_40, l_65, l_100, l_255, l_11, l_12, l_24, l_600, l_689, l_999, l_120, l_32, e_rpw_ok hs hx hS h1 h2 hc g, not_true_eq_false, Bool.false_eq_true, false_and, Bool.not_false, Bool.not_true, Bool.and_true, Bool.and_false, Bool.false_and, Bool.true_and, true_and, and_true, true_or, or_true, not_false_eq_true, Option.some.injEq, exists_eq_left', forall_eq, ↓reduceIte, Nat.add_zero, Nat.zero_add, and_self]
          exact s_addService_ok ok2 c2 h1 h2 g.1 (by omega) w0 _ _ K
        · refine ⟨c.k8, s_noPlace_ok c hp.1 h1 h2 _ fun M1 c1 f1 t1 => ?_⟩
          have r := c1.mr hp.1
          simp (disch := omega) only [r.sh, l_0, l_1, l_2, l_3, l_4, l_5, l_6, l_7, l_8, l_9, l_10, l_20, l_30, l_31, l_34, l_40, l_65, l_100, l_255, l_11, l_12, l_24, l_600, l_689, l_999, l_120, l_32, e_noSet_ok r t1 hc g, n_eqT, n_eqF, not_true_eq_false, Bool.false_eq_true, false_and, Bool.not_false, Bool.not_true, Bool.and_true, Bool.and_false, Bool.false_and, Bool.true_and, true_and, and_true, true_or, or_true, not_false_eq_true, Option.some.injEq, exists_eq_left', forall_eq, ↓reduceIte, Nat.add_zero, Nat.zero_add, and_self]
          refine s_X8_why r h1 (by omega) n32 (by omega) _ fun M2 f2 => ?_
          have c2 := c1.mf f2.mf
          have t2 : zI M2 (x + 149) 0 = nI 0 := by rw [f2.2 0 (by omega)]; exact t1
          simp (disch := omega) only [w0, c2.k8, e_throws0 c2.k8 t2, l_0, l_1, l_2, l_3, l_4, l_5, l_6, l_7, l_8, l_9, l_10, l_20, l_30, l_31, l_34, l_40, l_65, l_100, l_255, l_11, l_12, l_24, l_600, l_689, l_999, l_120, l_32, nI_add, pk_mul, n_sub, n_leT, n_leF, n_ltT, n_ltF, n_eqT, n_eqF, n_cl, n_vp, fa_andq, fa_orq, fa_xorq, n_shl, n_shr, n_t1, n_t0, n_div, n_m1, not_true_eq_false, Bool.false_eq_true, false_and, Bool.not_false, Bool.not_true, Bool.and_true, Bool.and_false, Bool.false_and, Bool.true_and, true_and, and_true, true_or, or_true, not_false_eq_true, Option.some.injEq, exists_eq_left', forall_eq, ↓reduceIte, Nat.add_zero, Nat.zero_add, and_self]
          exact s_addM hp h10 c2 t2 h1 h2 n32 w1 _ fun M3 c3 f3 t3 => K M3 c3 ((f1.trans f2.mf).o.trans f3) t3
      · have wl := whyN_lt sg pl ha t n 1
        refine CALL1.no 3 (by decide) ok2 (fun M P X c w K => ?_) (fun M P c K => ?_)
        · have c2 := c
          obtain ⟨c10, sa, sp, hps, hx, hS, hS2, hP, hD, hH, hN, hB, hNm, hKP⟩ := c
          simp (disch := omega) only [w_X7_concert, hx.s, l_0, l_1, l_2, l_3, l_4, l_5, l_6, l_7, l_8, l_9, l_10, l_20, l_30, l_31, l_34, l_40, l_65, l_100, l_255, l_11, l_12, l_24, l_600, l_689, l_999, l_120, l_32, e_rpw_ok hs hx hS h1 h2 hc g, not_true_eq_false, Bool.false_eq_true, false_and, Bool.not_false, Bool.not_true, Bool.and_true, Bool.and_false, Bool.false_and, Bool.true_and, true_and, and_true, true_or, or_true, not_false_eq_true, Option.some.injEq, exists_eq_left', forall_eq, ↓reduceIte, Nat.add_zero, Nat.zero_add, and_self]
          exact s_addService_no ok2 c2 h1 h2 g.1 (by omega) w0 _ _ K
        · refine ⟨c.k8, s_noPlace_ok c hp.1 h1 h2 _ fun M1 c1 f1 t1 => ?_⟩
          have r := c1.mr hp.1
          simp (disch := omega) only [r.sh, l_0, l_1, l_2, l_3, l_4, l_5, l_6, l_7, l_8, l_9, l_10, l_20, l_30, l_31, l_34, l_40, l_65, l_100, l_255, l_11, l_12, l_24, l_600, l_689, l_999, l_120, l_32, e_noSet_ok r t1 hc g, n_eqT, n_eqF, not_true_eq_false, Bool.false_eq_true, false_and, Bool.not_false, Bool.not_true, Bool.and_true, Bool.and_false, Bool.false_and, Bool.true_and, true_and, and_true, true_or, or_true, not_false_eq_true, Option.some.injEq, exists_eq_left', forall_eq, ↓reduceIte, Nat.add_zero, Nat.zero_add, and_self]
          refine s_X8_why r h1 (by omega) n32 (by omega) _ fun M2 f2 => ?_
          have c2 := c1.mf f2.mf
          have t2 : zI M2 (x + 149) 0 = nI 0 := by rw [f2.2 0 (by omega)]; exact t1
          simp (disch := omega) only [c2.k8, e_throws1 c2.k8 t2, l_0, l_1, l_2, l_3, l_4, l_5, l_6, l_7, l_8, l_9, l_10, l_20, l_30, l_31, l_34, l_40, l_65, l_100, l_255, l_11, l_12, l_24, l_600, l_689, l_999, l_120, l_32, nI_add, pk_mul, n_sub, n_leT, n_leF, n_ltT, n_ltF, n_eqT, n_eqF, n_cl, n_vp, fa_andq, fa_orq, fa_xorq, n_shl, n_shr, n_t1, n_t0, n_div, n_m1, not_true_eq_false, Bool.false_eq_true, false_and, Bool.not_false, Bool.not_true, Bool.and_true, Bool.and_false, Bool.false_and, Bool.true_and, true_and, and_true, true_or, or_true, not_false_eq_true, Option.some.injEq, exists_eq_left', forall_eq, ↓reduceIte, Nat.add_zero, Nat.zero_add, and_self]
          exact K _ _ (c2.mf MF.th) ((f1.trans f2.mf).trans MF.th).o (zI_sI1 _ _ _ _)
theorem call_cancel {x : Nat} {s : ST} (ok : OKs s) (a : Int32) : CALL1 x s clC (fun M P X => w_X7_cancel M x a P X) (fun M P => w_X8_cancel M (x + 149) a P) := by
  obtain ⟨sg, pl, hn, hl, sv, sl, bl, bf, ep, nm⟩ := s
  have ok2 := ok
  obtain ⟨hs, hp, h10, hhl, hsl, hbl, hby, hep, nm1, nm2, nm3, nm4⟩ := ok
  have b := hs.b
  have n := hp.1.n
  rcases ix a (n := pl 0) (by omega) with h | ⟨p, hp2, rfl⟩
  · refine CALL1.no 1 (by decide) ok2 (fun M P X c w K => ?_) (fun M P c K => ?_)
    · have c2 := c
      obtain ⟨c10, sa, sp, hps, hx, hS, hS2, hP, hD, hH, hN, hB, hNm, hKP⟩ := c
      simp (disch := omega) only [w_X7_cancel, w_X7_requireService, hx.s, hP.sh, hP.n, e_req_no h, l_0, l_1, l_2, l_3, l_4, l_5, l_6, l_7, l_8, l_9, l_10, l_20, l_30, l_31, l_34, l_40, l_65, l_100, l_255, l_11, l_12, l_24, l_600, l_689, l_999, l_120, l_32, nI_add, pk_mul, n_sub, n_leT, n_leF, n_ltT, n_ltF, n_eqT, n_eqF, n_cl, n_vp, fa_andq, fa_orq, fa_xorq, n_shl, n_shr, n_t1, n_t0, n_div, n_m1, not_true_eq_false, Bool.false_eq_true, false_and, Bool.not_false, Bool.not_true, Bool.and_true, Bool.and_false, Bool.false_and, Bool.true_and, true_and, and_true, true_or, or_true, not_false_eq_true, Option.some.injEq, exists_eq_left', forall_eq, ↓reduceIte, Nat.add_zero, Nat.zero_add, and_self]
      exact fun n1 hn1 => K _ c2.sZ (FrG.sZ hn1)
    · refine ⟨c.k8, thr0 c fun M1 c1 f1 t1 => ?_⟩
      have r := c1.mr hp.1
      simp (disch := omega) only [r.sh, r.v2, e_no_no r.sh.1.1 t1 h, l_0, l_1, l_2, l_3, l_4, l_5, l_6, l_7, l_8, l_9, l_10, l_20, l_30, l_31, l_34, l_40, l_65, l_100, l_255, l_11, l_12, l_24, l_600, l_689, l_999, l_120, l_32, nI_add, pk_mul, n_sub, n_leT, n_leF, n_ltT, n_ltF, n_eqT, n_eqF, n_cl, n_vp, fa_andq, fa_orq, fa_xorq, n_shl, n_shr, n_t1, n_t0, n_div, n_m1, not_true_eq_false, Bool.false_eq_true, false_and, Bool.not_false, Bool.not_true, Bool.and_true, Bool.and_false, Bool.false_and, Bool.true_and, true_and, and_true, true_or, or_true, not_false_eq_true, Option.some.injEq, exists_eq_left', forall_eq, ↓reduceIte, Nat.add_zero, Nat.zero_add, and_self]
      exact K _ _ (c1.mf MF.th) (f1.trans MF.th).o (zI_sI1 _ _ _ _)
  · have g := PGoff hs hp hp2
    have cls : ∀ M, CI x (sg, pl, hn, hl, sv, sl, bl, bf, ep, nm) M → ∀ (P : Int32 → Mm → Prop) (X : String → Mm → Prop), (∀ M4, FK x (RDr x) M M4 → CI x (sg, pl, hn, hl, sv, sl, bl, bf, ep, nm) M4 → CPl (x + 13) sg (off pl p) M4 → w_X7_requireState M4 (bI (rehd sg (off pl p))) (fun M9 => zk M9 x = 7 ∧ w_X7_acceptDraft M9 x (fun M10 => (zk M10 x = 7 ∧ ∃ a11, zR M10 x 2 = some a11 ∧ zk M10 a11 = 4 ∧ P (zI M10 a11 0) M10))) X) → w_X7_cancel M x (nI p) P X := fun M c P X K => by
      have c2 := c
      obtain ⟨c10, sa, sp, hps, hx, hS, hS2, hP, hD, hH, hN, hB, hNm, hKP⟩ := c
      have at_ := hx.at
      simp (disch := omega) only [w_X7_cancel, w_X7_requireService, hx.s, hP.sh, hP.n, e_req_ok hp2, hD.u, not_true_eq_false, Bool.false_eq_true, false_and, Bool.not_false, Bool.not_true, Bool.and_true, Bool.and_false, Bool.false_and, Bool.true_and, true_and, and_true, true_or, or_true, not_false_eq_true, Option.some.injEq, exists_eq_left', forall_eq, ↓reduceIte, Nat.add_zero, Nat.zero_add, and_self]
      refine s_X4_copyFrom hD hP.raw (by omega) n (by omega) _ fun M2 f2 g2 => ?_
      have x2 := hx.fr f2
      have S2 := hS.fr f2 (by unfold RP; omega)
      simp (disch := omega) only [x2.s, g2.sh, not_true_eq_false, Bool.false_eq_true, false_and, Bool.not_false, Bool.not_true, Bool.and_true, Bool.and_false, Bool.false_and, Bool.true_and, true_and, and_true, true_or, or_true, not_false_eq_true, Option.some.injEq, exists_eq_left', forall_eq, ↓reduceIte, Nat.add_zero, Nat.zero_add, and_self]
      refine CPl.off g2.cpl hs hp2 n _ fun M3 f3 g3 => ?_
      have x3 := x2.fr f3
      have S3 := S2.fr f3 (by unfold RP; omega)
      have F : FK x (RDr x) M M3 := ((FK.of f2 (by unfold RP; omega)).mono fun q hq => by unfold RP at hq; unfold RDr; omega).trans ((FK.of f3 (by unfold RP; omega)).mono fun q hq => by unfold RP at hq; unfold RDr; omega)
      simp (disch := omega) only [x3.s, e_X7_isEveryConcertRehearsed hs g.1 x3.xr S3 g3, not_true_eq_false, Bool.false_eq_true, false_and, Bool.not_false, Bool.not_true, Bool.and_true, Bool.and_false, Bool.false_and, Bool.true_and, true_and, and_true, true_or, or_true, not_false_eq_true, Option.some.injEq, exists_eq_left', forall_eq, ↓reduceIte, Nat.add_zero, Nat.zero_add, and_self]
      exact K M3 F (c2.dr F) g3
    have mdl : ∀ M, MI (x + 149) (sg, pl, hn, hl, sv, sl, bl, bf, ep, nm) M → ∀ (P : Int32 → Mm → Prop), (∀ M5, MI (x + 149) (sg, pl, hn, hl, sv, sl, bl, bf, ep, nm) M5 → FrI (RMo x) M M5 → zI M5 (x + 149) 0 = nI 0 → (if bI (rehd sg (off pl p)) = nI 0 then zk M5 (x + 149) = 8 ∧ w_X8_throwsIf M5 (x + 149) (nI 1) (nI 2) (fun r14 M14 => (if r14 = nI 0 then zk M14 (x + 149) = 8 ∧ w_X8_keeps M14 (x + 149) (fun M15 => zk M15 (x + 149) = 8 ∧ w_X8_takesOff M15 (x + 149) (nI p) (fun M16 => (zk M16 (x + 149) = 8 ∧ ∃ a17, zR M16 (x + 149) 2 = some a17 ∧ zk M16 a17 = 10 ∧ vp_in (nI 0) (zl M16 a17) ∧ P (zI M16 a17 (nI 0).toNatClampNeg) M16))) else P (nI 0) M14)) else zk M5 (x + 149) = 8 ∧ w_X8_throwsIf M5 (x + 149) (nI 0) (nI 2) (fun r10 M10 => (if r10 = nI 0 then zk M10 (x + 149) = 8 ∧ w_X8_keeps M10 (x + 149) (fun M11 => zk M11 (x + 149) = 8 ∧ w_X8_takesOff M11 (x + 149) (nI p) (fun M12 => (zk M12 (x + 149) = 8 ∧ ∃ a13, zR M12 (x + 149) 2 = some a13 ∧ zk M12 a13 = 10 ∧ vp_in (nI 0) (zl M12 a13) ∧ P (zI M12 a13 (nI 0).toNatClampNeg) M12))) else P (nI 0) M10)))) → w_X8_cancel M (x + 149) (nI p) P := fun M c P K => by
      refine ⟨c.k8, thr0 c fun M1 c1 f1 t1 => ?_⟩
      have r := c1.mr hp.1
      have o := r.ms.o
      simp (disch := omega) only [r.sh, r.v2, e_no_ok r.sh.1.1 t1 hp2, o, l_0, l_1, l_2, l_3, l_4, l_5, l_6, l_7, l_8, l_9, l_10, l_20, l_30, l_31, l_34, l_40, l_65, l_100, l_255, l_11, l_12, l_24, l_600, l_689, l_999, l_120, l_32, n_cl, n_vp, n_eqT, not_true_eq_false, Bool.false_eq_true, false_and, Bool.not_false, Bool.not_true, Bool.and_true, Bool.and_false, Bool.false_and, Bool.true_and, true_and, and_true, true_or, or_true, not_false_eq_true, Option.some.injEq, exists_eq_left', forall_eq, ↓reduceIte, Nat.add_zero, Nat.zero_add, and_self]
      refine s_X8_puts o.2.1.2.1 o.2.2.2.1 o.2.1.2.2.1 o.2.2.2.2.1 (by omega) _ fun M2 f2 g2 => ?_
      have r2 := r.aside f2
      simp (disch := omega) only [r2.sh, not_true_eq_false, Bool.false_eq_true, false_and, Bool.not_false, Bool.not_true, Bool.and_true, Bool.and_false, Bool.false_and, Bool.true_and, true_and, and_true, true_or, or_true, not_false_eq_true, Option.some.injEq, exists_eq_left', forall_eq, ↓reduceIte, Nat.add_zero, Nat.zero_add, and_self]
      refine s_X8_takesOff r2.mn hp2 n _ fun M3 f3 g3 => ?_
      have r3 := MR.mk (r2.q.fr f3 (by omega)) g3 g.1
      have o3 := r3.ms.o
      simp (disch := omega) only [r3.sh, e_X8_isRehearsed r3, o3, not_true_eq_false, Bool.false_eq_true, false_and, Bool.not_false, Bool.not_true, Bool.and_true, Bool.and_false, Bool.false_and, Bool.true_and, true_and, and_true, true_or, or_true, not_false_eq_true, Option.some.injEq, exists_eq_left', forall_eq, ↓reduceIte, Nat.add_zero, Nat.zero_add, and_self]
      refine s_X8_puts o3.2.1.2.2.1 o3.2.2.2.2.1 o3.2.1.2.1 o3.2.2.2.1 (by omega) _ fun M4 f4 g4 => ?_
      obtain ⟨b1, b2, b3⟩ := c1.back f2 g2 (f3.mono fun b hb => by unfold RM; omega) (fun i _ _ => by rw [f3.i (by omega)]) f4 g4
      exact K M4 b1 (f1.o.trans (b2.mono fun b hb => by unfold RMo; omega)) (by rw [b3 0 (by omega) (by omega)]; exact t1)
    by_cases w0 : rehd sg (off pl p) = true
    · refine CALL1.ok _ (nI (pl 0 - 1)) (ok2.push g) (fun M P X c w K => ?_) (fun M P c K => ?_)
      · refine cls M c P X fun M4 F c4 g4 => ?_
        rw [w0]
        have c5 := c4
        obtain ⟨c10, sa, sp, hps, hx, hS, hS2, hP, hD, hH, hN, hB, hNm, hKP⟩ := c5
        simp (disch := omega) only [w_X7_requireState, hx.s, bI_t, l_0, l_1, l_2, l_3, l_4, l_5, l_6, l_7, l_8, l_9, l_10, l_20, l_30, l_31, l_34, l_40, l_65, l_100, l_255, l_11, l_12, l_24, l_600, l_689, l_999, l_120, l_32, nI_add, pk_mul, n_sub, n_leT, n_leF, n_ltT, n_ltF, n_eqT, n_eqF, n_cl, n_vp, fa_andq, fa_orq, fa_xorq, n_shl, n_shr, n_t1, n_t0, n_div, n_m1, not_true_eq_false, Bool.false_eq_true, false_and, Bool.not_false, Bool.not_true, Bool.and_true, Bool.and_false, Bool.false_and, Bool.true_and, true_and, and_true, true_or, or_true, not_false_eq_true, Option.some.injEq, exists_eq_left', forall_eq, ↓reduceIte, Nat.add_zero, Nat.zero_add, and_self]
        refine s_accCI ok2 c4 g4 g.1 _ fun M6 c6 g6 => ?_
        have K6 := K M6 c6 ((RDr.g F).trans g6)
        clear hx hS hS2 hP hD hH hN hB hNm
        obtain ⟨-, sa6, sp6, hps6, hx6, hS6, -, hP6, -, -, -, -, -⟩ := c6
        have hn6 : zI M6 (x + 6) 0 = nI (pl 0 - 1) := hP6.n
        simp (disch := omega) only [hx6.s, hP6.sh, hn6, not_true_eq_false, Bool.false_eq_true, false_and, Bool.not_false, Bool.not_true, Bool.and_true, Bool.and_false, Bool.false_and, Bool.true_and, true_and, and_true, true_or, or_true, not_false_eq_true, Option.some.injEq, exists_eq_left', forall_eq, ↓reduceIte, Nat.add_zero, Nat.zero_add, and_self]
        exact K6
      · refine mdl M c P fun M5 c5 f5 t5 => ?_
        rw [w0]
        simp (disch := omega) only [bI_t, c5.k8, e_throws0 c5.k8 t5, l_0, l_1, l_2, l_3, l_4, l_5, l_6, l_7, l_8, l_9, l_10, l_20, l_30, l_31, l_34, l_40, l_65, l_100, l_255, l_11, l_12, l_24, l_600, l_689, l_999, l_120, l_32, nI_add, pk_mul, n_sub, n_leT, n_leF, n_ltT, n_ltF, n_eqT, n_eqF, n_cl, n_vp, fa_andq, fa_orq, fa_xorq, n_shl, n_shr, n_t1, n_t0, n_div, n_m1, not_true_eq_false, Bool.false_eq_true, false_and, Bool.not_false, Bool.not_true, Bool.and_true, Bool.and_false, Bool.false_and, Bool.true_and, true_and, and_true, true_or, or_true, not_false_eq_true, Option.some.injEq, exists_eq_left', forall_eq, ↓reduceIte, Nat.add_zero, Nat.zero_add, and_self]
        refine s_keepMI c5 h10 _ fun M6 c6 f6 z6 => ?_
        have r6 := c6.mr hp.1
        simp (disch := omega) only [r6.sh, not_true_eq_false, Bool.false_eq_true, false_and, Bool.not_false, Bool.not_true, Bool.and_true, Bool.and_false, Bool.false_and, Bool.true_and, true_and, and_true, true_or, or_true, not_false_eq_true, Option.some.injEq, exists_eq_left', forall_eq, ↓reduceIte, Nat.add_zero, Nat.zero_add, and_self]
        refine s_X8_takesOff r6.mn hp2 n _ fun M7 f7 g7 => ?_
        have v0 : zI M7 (x + 149 + 2) 0 = nI (pl 0 - 1) := g7.v 0 (by omega)
        have K7 := K M7 (c6.plan (f7.mono fun b hb => by unfold RM; omega) (fun i _ _ => by rw [f7.i (by omega)]) g7) ((f5.trans (f6.mono fun b hb => by unfold RMo; omega)).trans (f7.mono fun b hb => by unfold RMo; omega)) (by rw [f7.i (by omega), z6]; exact t5)
        simp (disch := omega) only [g7.sh, v0, l_0, l_1, l_2, l_3, l_4, l_5, l_6, l_7, l_8, l_9, l_10, l_20, l_30, l_31, l_34, l_40, l_65, l_100, l_255, l_11, l_12, l_24, l_600, l_689, l_999, l_120, l_32, nI_add, pk_mul, n_sub, n_leT, n_leF, n_ltT, n_ltF, n_eqT, n_eqF, n_cl, n_vp, fa_andq, fa_orq, fa_xorq, n_shl, n_shr, n_t1, n_t0, n_div, n_m1, not_true_eq_false, Bool.false_eq_true, false_and, Bool.not_false, Bool.not_true, Bool.and_true, Bool.and_false, Bool.false_and, Bool.true_and, true_and, and_true, true_or, or_true, not_false_eq_true, Option.some.injEq, exists_eq_left', forall_eq, ↓reduceIte, Nat.add_zero, Nat.zero_add, and_self]
        exact K7
    · refine CALL1.no 2 (by decide) ok2 (fun M P X c w K => ?_) (fun M P c K => ?_)
      · refine cls M c P X fun M4 F c4 g4 => ?_
        rw [b_no w0]
        simp (disch := omega) only [w_X7_requireState, bI_f, l_0, l_1, l_2, l_3, l_4, l_5, l_6, l_7, l_8, l_9, l_10, l_20, l_30, l_31, l_34, l_40, l_65, l_100, l_255, l_11, l_12, l_24, l_600, l_689, l_999, l_120, l_32, nI_add, pk_mul, n_sub, n_leT, n_leF, n_ltT, n_ltF, n_eqT, n_eqF, n_cl, n_vp, fa_andq, fa_orq, fa_xorq, n_shl, n_shr, n_t1, n_t0, n_div, n_m1, not_true_eq_false, Bool.false_eq_true, false_and, Bool.not_false, Bool.not_true, Bool.and_true, Bool.and_false, Bool.false_and, Bool.true_and, true_and, and_true, true_or, or_true, not_false_eq_true, Option.some.injEq, exists_eq_left', forall_eq, ↓reduceIte, Nat.add_zero, Nat.zero_add, and_self]
        exact fun n1 hn1 => K _ c4.sZ ((RDr.g F).trans (FrG.sZ hn1))
      · refine mdl M c P fun M5 c5 f5 t5 => ?_
        rw [b_no w0]
        simp (disch := omega) only [bI_f, c5.k8, e_throws1 c5.k8 t5, l_0, l_1, l_2, l_3, l_4, l_5, l_6, l_7, l_8, l_9, l_10, l_20, l_30, l_31, l_34, l_40, l_65, l_100, l_255, l_11, l_12, l_24, l_600, l_689, l_999, l_120, l_32, nI_add, pk_mul, n_sub, n_leT, n_leF, n_ltT, n_ltF, n_eqT, n_eqF, n_cl, n_vp, fa_andq, fa_orq, fa_xorq, n_shl, n_shr, n_t1, n_t0, n_div, n_m1, not_true_eq_false, Bool.false_eq_true, false_and, Bool.not_false, Bool.not_true, Bool.and_true, Bool.and_false, Bool.false_and, Bool.true_and, true_and, and_true, true_or, or_true, not_false_eq_true, Option.some.injEq, exists_eq_left', forall_eq, ↓reduceIte, Nat.add_zero, Nat.zero_add, and_self]
        exact K _ _ (c5.mf MF.th) (f5.trans (MF.th (v := nI 2)).o) (zI_sI1 _ _ _ _)
