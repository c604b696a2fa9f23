/-! PARSE: the line of a work, in the model -/
/-- the model within the line of work w -/
def MWI (m L : Nat) (bf : Nat → Int32) (w : Nat) (s : PS) (M : Mm) : Prop := match s with
  | (p, sg, nm, ct, dt) => PMx m L bf p M ∧ zI M m 13 = nI 4294967295 ∧ (∀ k, k < 120 → k ≠ 3 → zI M (m + 5) k = nI (sg k)) ∧ zI M (m + 5) 3 = nI w ∧ (∀ k, k < sg 2 → zI M (m + 6) k = nI (ct k)) ∧ zI M m 15 = bI dt ∧ MNA m 0 (sg 1) nm M ∧ MNA m 1 (sg 2) (fun k => nm (8 + k)) M ∧ MNA m 2 (w + 1) (fun k => nm (16 + k)) M ∧ MNA m 3 (sg 4) (fun k => nm (24 + k)) M
section PWM
variable {m L p w t : Nat} {bf : Nat → Int32} {sg ct : Nat → Nat} {nm : Nat → List Nat} {dt : Bool} {M : Mm}
theorem s_X8_seatRead (h : MWI m L bf w (p, sg, nm, ct, dt) M) (ww : Ww L w t (p, sg, nm, ct, dt)) (P : Int32 → Mm → Prop)
    (K1 : ∀ s2, seatL L bf w (p, sg, nm, ct, dt) = Sum.inr s2 → ∀ M', FQ (RPm m) M M' → MFx m M M' → MWI m L bf w s2 M' → P (nI 1) M')
    (K0 : ∀ c q, seatL L bf w (p, sg, nm, ct, dt) = Sum.inl (c, q) → ∀ M', FQ (RPm m) M M' → MFx m M M' → MFl m c q M' → P (nI 0) M') : w_X8_seatRead M m (nI (65 + 11 * w)) P := by
  obtain ⟨pm, z13, rd, r3, rc, zd, na0, na1, na2, na3⟩ := h
  obtain ⟨i1, i2, i3, i4, i5, i6, i7, i8, i9, i10, i11, i12⟩ := ww
  have sh := pm.1
  unfold MS at sh
  have t9 := pm.2.2.1.2.1
  have kb := tK_b (L := L) (bf := bf) (p := p)
  have r4 : zI M (m + 5) 4 = nI (sg 4) := rd 4 (by omega) (by omega)
  have v4 : zI M (m + 5) (65 + 11 * w + 4) = nI t := by rw [rd _ (by omega) (by omega), ← i7]; rfl
  have k8 := pm.2.1.1
  by_cases c1 : tK L bf p = 1
  · have t9b : zI M m 9 = nI 1 := by rw [t9, c1]
    have okw := tK_1 (fun i hi => (pm.2.1.2.2.2.2.2.2 i hi).2) c1
    have j11 := pm.2.2.1.2.2.2.1 c1
    have en := e_M_named pm na3 (show 3 < 4 by omega) (show sg 4 ≤ 8 by omega) okw
    obtain ⟨j, hj⟩ : ∃ j, nj L bf p sg nm = j := ⟨_, rfl⟩
    have hj2 : fi (fun k => decide (nm (24 + k) = tW L bf p)) (sg 4) = j := hj
    have q16 : zR M m 16 = some (m + 5) := by simp only [sh]
    have q18 : zR M m 18 = some (m + 7) := by simp only [sh]
    have k5 : zk M (m + 5) = 10 := by simp only [sh]
    have lz : zl M (m + 5) = 120 := by simp only [sh]
    have e2_ : (nI (65 + 11 * w) + (4 : Int32)).toNatClampNeg = 65 + 11 * w + 4 := by rw [l_4, nI_add, n_cl (by omega)]
    have vp2 : vp_in (nI (65 + 11 * w) + (4 : Int32)) (zl M (m + 5)) := by rw [lz, l_4, nI_add]; exact vpn (by omega) (by decide)
    have e4_ : zI M (m + 5) (4 : Int32).toNatClampNeg = nI (sg 4) := by rw [l_4, n_cl (by omega)]; exact r4
    have vp4 : vp_in (4 : Int32) (zl M (m + 5)) := by rw [lz]; exact vpn (n := 4) (by omega) (by decide)
    have mm : nI 4294967295 = (-1 : Int32) := by decide
    refine ⟨k8, ifp (by rw [t9b]; rfl) ⟨k8, m + 7, q18, k8, m + 5, q16, k5, vp4, k8, ?_⟩⟩
    rw [e4_, j11]
    refine (en _).mpr ?_
    by_cases c2 : j < sg 4
    · have fe : fst (fun k => decide (nm (24 + k) = tW L bf p)) (sg 4) = nI j := by
        rw [fst_lt (show fi (fun k => decide (nm (24 + k) = tW L bf p)) (sg 4) < sg 4 by rw [hj2]; exact c2), hj2]
      have jm : ¬ nI j = (-1 : Int32) := fun u => by rw [← mm, n_eqF (by omega) (by omega) (by omega)] at u; exact u
      rw [fe]
      refine ifn jm ⟨k8, m + 5, q16, k5, vp2, ?_⟩
      by_cases c3 : t = 6
      · exact ifp (by rw [e2_, v4, c3]; rfl) ⟨k8, s_X8_fails (c := 5) pm _ fun M1 f1 g1 e1 => ⟨Or.inl rfl, K0 5 _ (by simp only [seatL]; rw [if_pos c1, hj, if_pos c2, if_pos (by omega)]) M1 (fq_I f1 fun b hb => Or.inl hb) (fails_fx g1) e1⟩⟩
      · refine ifn (fun u => by rw [e2_, v4, l_6, n_eqF c3 (by omega) (by omega)] at u; exact u) ?_
        have w2 : ∀ v, zI (sI M (m + 5) (65 + 11 * w + 5 + t) v) (m + 5) (65 + 11 * w + 4) = nI t := fun v => by rw [zI_sI2 _ _ _ _ (by omega)]; exact v4
        simp (maxSteps := 2000000) (disch := omega) only [sh, v4, w2, nI_add, l_0, l_1, l_4, l_5, n_eqT, n_vp, n_cl, zk_sI, zl_sI, zR_sI, not_true_eq_false, Bool.false_eq_true, false_and, Bool.not_false, Bool.not_true, Bool.and_true, Bool.and_false, Bool.false_and, Bool.true_and, true_and, and_true, true_or, or_true, not_false_eq_true, Option.some.injEq, exists_eq_left', forall_eq, ↓reduceIte, Nat.add_zero, Nat.zero_add, and_self]
        have f3 : FQ (fun q => q = m + 5) M (sI (sI M (m + 5) (65 + 11 * w + 5 + t) (nI j)) (m + 5) (65 + 11 * w + 4) (nI (t + 1))) := FQ.trans (fq_sI (R := fun q => q = m + 5) rfl) (fq_sI rfl)
        have new1 : ∀ k, k < 120 → k ≠ 3 → zI (sI (sI M (m + 5) (65 + 11 * w + 5 + t) (nI j)) (m + 5) (65 + 11 * w + 4) (nI (t + 1))) (m + 5) k = nI (seatS sg w j k) := by
          intro k hk k2
          by_cases e1 : k = 65 + 11 * w + 4
          · subst e1
            rw [zI_sI1, show seatS sg w j (65 + 11 * w + 4) = oW sg w 4 + 1 from seatS_c w j, i7]
          · rw [zI_sI2 _ _ _ _ e1]
            by_cases e2 : k = 65 + 11 * w + 5 + t
            · subst e2
              rw [zI_sI1]
              have u := seatS_j (sg := sg) w j
              unfold oW at u i7
              rw [i7, ← Nat.add_assoc] at u
              rw [u]
            · rw [zI_sI2 _ _ _ _ e2, rd k hk k2, seatS_o w j e1 (by omega)]
        have new3 : zI (sI (sI M (m + 5) (65 + 11 * w + 5 + t) (nI j)) (m + 5) (65 + 11 * w + 4) (nI (t + 1))) (m + 5) 3 = nI w := by
          rw [zI_sI2 _ _ _ _ (by omega), zI_sI2 _ _ _ _ (by omega)]; exact r3
        refine s_M_advance (pm.fr f3 (by omega) (by omega)) i1 _ fun M5 f5 g5 p5 => ?_
        have f5q : FQ (fun q => q = m) (sI (sI M (m + 5) (65 + 11 * w + 5 + t) (nI j)) (m + 5) (65 + 11 * w + 4) (nI (t + 1))) M5 := fq_J f5 rfl
        have kf : ∀ i, i = 0 ∨ i = 5 ∨ i = 24 ∨ i = 13 ∨ i = 15 → zI M5 m i = zI M m i := fun i hi => by
          rw [g5 i (by omega) (by omega) (by omega) (by omega), f3.i (by omega)]
        have o_ : ∀ k, k < 65 → seatS sg w j k = sg k := fun k a => seatS_o w j (by omega) (by omega)
        refine K1 (tN L bf p, seatS sg w j, nm, ct, dt) (by simp only [seatL]; rw [if_pos c1, hj, if_pos c2, if_neg (by omega)]) M5 ((f3.mono fun b hb => by unfold RPm; omega).trans (f5q.mono fun b hb => by unfold RPm; omega)) (fun i hi => kf i (by omega)) ⟨p5, ?_, ?_, ?_, ?_, ?_, ?_, ?_, ?_, ?_⟩
        · rw [kf 13 (by omega)]; exact z13
        · rw [f5q.i (by omega)]; exact new1
        · rw [f5q.i (by omega)]; exact new3
        · rw [o_ 2 (by omega), f5q.i (by omega), f3.i (by omega)]; exact rc
        · rw [kf 15 (by omega)]; exact zd
        · rw [o_ 1 (by omega)]
          intro k hk
          rw [f5q.j (by omega), f3.j (by omega)]; exact na0 k hk
        · rw [o_ 2 (by omega)]
          intro k hk
          rw [f5q.j (by omega), f3.j (by omega)]; exact na1 k hk
        · intro k hk
          rw [f5q.j (by omega), f3.j (by omega)]; exact na2 k hk
        · rw [o_ 4 (by omega)]
          intro k hk
          rw [f5q.j (by omega), f3.j (by omega)]; exact na3 k hk
    · have fe : fst (fun k => decide (nm (24 + k) = tW L bf p)) (sg 4) = nI 4294967295 := by
        unfold fst
        rw [if_neg (show ¬ fi (fun k => decide (nm (24 + k) = tW L bf p)) (sg 4) < sg 4 by rw [hj2]; exact c2)]
      rw [fe]
      exact ifp mm ⟨k8, s_X8_fails (c := 4) pm _ fun M1 f1 g1 e1 => ⟨Or.inl rfl, K0 4 _ (by simp only [seatL]; rw [if_pos c1, hj, if_neg c2]) M1 (fq_I f1 fun b hb => Or.inl hb) (fails_fx g1) e1⟩⟩
  · exact ⟨k8, ifn (fun u => by rw [t9, l_1, n_eqF c1 (by omega) (by omega)] at u; exact u) ⟨k8, s_X8_fails (c := 1) pm _ fun M1 f1 g1 e1 => ⟨Or.inl rfl, K0 1 _ (by simp only [seatL]; rw [if_neg c1]) M1 (fq_I f1 fun b hb => Or.inl hb) (fails_fx g1) e1⟩⟩⟩
end PWM
section PWI
variable {m L w : Nat} {bf : Nat → Int32} {P : Int32 → Mm → Prop} {K89 : Mm → Prop} {K99 : Mm → Nat → Prop}
theorem s_M_seats : ∀ (f t : Nat) (s : PS) (M : Mm), t + f = 7 → MWI m L bf w s M → Ww L w t s →
    (∀ s2, seatsL L bf w f s = Sum.inr s2 → ∀ M', FQ (RPm m) M M' → MFx m M M' → MWI m L bf w s2 M' → K99 M' m) →
    (∀ c q, seatsL L bf w f s = Sum.inl (c, q) → ∀ M', FQ (RPm m) M M' → MFx m M M' → MFl m c q M' → K89 M') → l_X8_workLine_116 P K89 K99 f M m (nI (65 + 11 * w)) := by
  intro f
  induction f with
  | zero =>
    intro t s M e h iw
    obtain ⟨p, sg, nm, ct, dt⟩ := s
    obtain ⟨-, -, -, -, -, -, -, i8, -⟩ := iw
    omega
  | succ f ih =>
    intro t s M e h iw K1 K0
    obtain ⟨p, sg, nm, ct, dt⟩ := s
    have pm := h.1
    rw [l_X8_workLine_116]
    refine ⟨pm.2.1.1, s_X8_seatRead h iw _ (fun s2 e2 M2 f2 x2 c2 => ifn (by decide) ?_) (fun c q e2 M2 f2 x2 k2 => ifp rfl (K0 c q (by simp only [seatsL, e2]) M2 f2 x2 k2))⟩
    obtain ⟨iw2, t4⟩ := seatL_ww iw e2
    obtain ⟨p2, sg2, nm2, ct2, dt2⟩ := s2
    have t9 := c2.1.2.2.1.2.1
    have kb := tK_b (L := L) (bf := bf) (p := p2)
    refine ⟨c2.1.2.1.1, ?_⟩
    by_cases ck : tK L bf p2 = 1
    · refine ifp (by rw [t9, ck]; rfl) (ih (t + 1) (p2, sg2, nm2, ct2, dt2) M2 (by omega) c2 iw2 (fun s3 e3 M3 f3 x3 c3 => K1 s3 ?_ M3 (f2.trans f3) (x2.trans x3) c3) (fun c q e3 M3 f3 x3 k3 => K0 c q ?_ M3 (f2.trans f3) (x2.trans x3) k3))
      · simp only [seatsL, e2, ck, if_true]; exact e3
      · simp only [seatsL, e2, ck, if_true]; exact e3
    · have k := K1 _ (by simp only [seatsL, e2, ck, if_false]) M2 f2 x2 c2
      simp (disch := omega) only [t9, l_1, n_eqF, not_true_eq_false, Bool.false_eq_true, false_and, Bool.not_false, Bool.not_true, Bool.and_true, Bool.and_false, Bool.false_and, Bool.true_and, true_and, and_true, true_or, or_true, not_false_eq_true, Option.some.injEq, exists_eq_left', forall_eq, ↓reduceIte, Nat.add_zero, Nat.zero_add, and_self]
      exact k
end PWI
section PWQ
variable {m L p : Nat} {bf : Nat → Int32} {M : Mm}
theorem s_X8_workLine {sg ct : Nat → Nat} {nm : Nat → List Nat} {dt : Bool} (h : MPS m L bf (p, sg, nm, ct, dt) M) (ok : PSok (p, sg, nm, ct, dt) L) (P : Int32 → Mm → Prop)
    (K1 : ∀ s2, workL L bf (p, sg, nm, ct, dt) = Sum.inr s2 → ∀ M', FQ (RPm m) M M' → MFx m M M' → MPS m L bf s2 M' → P (nI 1) M')
    (K0 : ∀ c q, workL L bf (p, sg, nm, ct, dt) = Sum.inl (c, q) → ∀ M', FQ (RPm m) M M' → MFx m M M' → MFl m c q M' → P (nI 0) M') : w_X8_workLine M m P := by
  have ok0 := ok
  obtain ⟨pm, z13, rd, rc, zd, na0, na1, na2, na3⟩ := h
  obtain ⟨hp, sb, hct2, n1, n2, n3, n4, g1, g2⟩ := ok
  have b := sb.1
  have sh := pm.1
  unfold MS at sh
  have k8 := pm.2.1.1
  have hp1 := tN_le L bf hp
  have hp2 := tN_le L bf hp1
  have v2 : zI M (m + 5) 3 = nI (sg 3) := rd 3 (by omega)
  by_cases c0 : sg 3 = 5
  · have eE : nmErr L bf p (sg 3) 5 (fun k => nm (16 + k)) = some (5, tS L bf p) := by unfold nmErr; rw [if_pos c0]
    simp (maxSteps := 2000000) (disch := omega) only [w_X8_workLine, sh, v2, l_0, l_1, l_3, l_5, n_vp, n_cl, n_leT, n_eqT, not_true_eq_false, Bool.false_eq_true, false_and, Bool.not_false, Bool.not_true, Bool.and_true, Bool.and_false, Bool.false_and, Bool.true_and, true_and, and_true, true_or, or_true, not_false_eq_true, Option.some.injEq, exists_eq_left', forall_eq, ↓reduceIte, Nat.add_zero, Nat.zero_add, and_self]
    refine s_X8_starts0 (c := 5) pm _ fun M1 f1 g1 e1 => ifp rfl ?_
    exact K0 5 _ (by simp only [workL, eE]) M1 (fq_I f1 fun b hb => Or.inl hb) (fails_fx g1) e1
  · simp (maxSteps := 2000000) (disch := omega) only [w_X8_workLine, sh, v2, l_0, l_1, l_2, l_3, l_5, l_9, l_11, l_65, l_999, pk_mul, nI_add, n_vp, n_cl, n_leF, n_eqT, not_true_eq_false, Bool.false_eq_true, false_and, Bool.not_false, Bool.not_true, Bool.and_true, Bool.and_false, Bool.false_and, Bool.true_and, true_and, and_true, true_or, or_true, not_false_eq_true, Option.some.injEq, exists_eq_left', forall_eq, ↓reduceIte, Nat.add_zero, Nat.zero_add, and_self]
    refine s_M_new pm hp (N := 5) na2 (by omega) (by omega) (by omega) _ _ (fun e1 M1 f1 g1 p1 j1 o1 => ?_) (fun e q e1 M1 f1 g1 k1 => ifp rfl (K0 e q (by simp only [workL, e1]) M1 f1 g1 k1))
    obtain ⟨wo, hwo⟩ : ∃ v, tW L bf (tN L bf p) = v := ⟨_, rfl⟩
    rw [hwo] at o1 j1
    have eW : workL L bf (p, sg, nm, ct, dt) = workN L bf (tN L bf (tN L bf p)) sg (updN nm (16 + sg 3) wo) ct dt := by simp only [workL, e1, hwo]
    obtain ⟨q, hq⟩ : ∃ q, tN L bf (tN L bf p) = q := ⟨_, rfl⟩
    rw [hq] at p1 hp2 eW
    have hq1 := tN_le L bf hp2
    have hq2 := tN_le L bf hq1
    have hq3 := tN_le L bf hq2
    have F1 : FQ (RPm m) M M1 := f1.mono fun b hb => by unfold RPm; omega
    refine ifn (by decide) ⟨p1.2.1.1, s_X8_lays p1 hp2 (i := 65 + 11 * sg 3) (by omega) (by omega) (by omega) _ (fun m1 M2 f2 g2 p2 j2 => ifn (by decide) ?_) fun m1 M2 f2 g2 k2 => ifp rfl (K0 _ _ (by rw [eW]; unfold workN; rw [if_neg m1]) M2 (F1.trans (fq_I f2 fun b hb => Or.inl hb)) (g1.fx.trans (fails_fx g2)) k2)⟩
    have F2 : FQ (RPm m) M M2 := F1.trans (f2.mono fun b hb => by unfold RPm; omega)
    have x2 := g1.fx.trans g2.fx
    have sh2 := p2.1
    unfold MS at sh2
    have i51 : zI M1 (m + 5) = zI M (m + 5) := f1.i (by omega)
    have d2 : zI M2 (m + 5) 0 = nI (sg 0) := by rw [j2, if_neg (by omega), i51]; exact rd 0 (by omega)
    simp (disch := omega) only [sh2, d2, n_vp, n_cl, n_sub, not_true_eq_false, Bool.false_eq_true, false_and, Bool.not_false, Bool.not_true, Bool.and_true, Bool.and_false, Bool.false_and, Bool.true_and, true_and, and_true, true_or, or_true, not_false_eq_true, Option.some.injEq, exists_eq_left', forall_eq, ↓reduceIte, Nat.add_zero, Nat.zero_add, and_self]
    refine s_X8_lays p2 hq1 (i := 65 + 11 * sg 3 + 1) (lo := 0) (hi := sg 0 - 1) (by omega) (by omega) (by omega) _ (fun m2 M3 f3 g3 p3 j3 => ifn (by decide) ?_) fun m2 M3 f3 g3 k3 => ifp rfl (K0 _ _ (by rw [eW]; unfold workN; rw [if_pos m1, if_neg m2]) M3 (F2.trans (fq_I f3 fun b hb => Or.inl hb)) (x2.trans (fails_fx g3)) k3)
    have F3 : FQ (RPm m) M M3 := F2.trans (f3.mono fun b hb => by unfold RPm; omega)
    have x3 := x2.trans g3.fx
    have sh3 := p3.1
    unfold MS at sh3
    have d3 : zI M3 (m + 5) 0 = nI (sg 0) := by rw [j3, if_neg (by omega)]; exact d2
    have e3 : zI M3 (m + 5) (65 + 11 * sg 3 + 1) = nI (tV L bf (tN L bf q)) := by rw [j3, if_pos rfl]
    have vv := nerr_v m2
    simp (disch := omega) only [sh3, d3, e3, n_vp, n_cl, n_sub, not_true_eq_false, Bool.false_eq_true, false_and, Bool.not_false, Bool.not_true, Bool.and_true, Bool.and_false, Bool.false_and, Bool.true_and, true_and, and_true, true_or, or_true, not_false_eq_true, Option.some.injEq, exists_eq_left', forall_eq, ↓reduceIte, Nat.add_zero, Nat.zero_add, and_self]
    refine s_X8_lays p3 hq2 (i := 65 + 11 * sg 3 + 2) (lo := tV L bf (tN L bf q)) (hi := sg 0 - 1) (by omega) (by omega) (by omega) _ (fun m3 M4 f4 g4 p4 j4 => ifn (by decide) ?_) fun m3 M4 f4 g4 k4 => ifp rfl (K0 _ _ (by rw [eW]; unfold workN; rw [if_pos m1, if_pos m2, if_neg m3]) M4 (F3.trans (fq_I f4 fun b hb => Or.inl hb)) (x3.trans (fails_fx g4)) k4)
    have F4 : FQ (RPm m) M M4 := F3.trans (f4.mono fun b hb => by unfold RPm; omega)
    have x4 := x3.trans g4.fx
    refine ⟨p4.2.1.1, s_X8_lays p4 hq3 (i := 65 + 11 * sg 3 + 3) (lo := 0) (hi := 999) (by omega) (by omega) (by omega) _ (fun m4 M5 f5 g5 p5 j5 => ifn (by decide) ?_) fun m4 M5 f5 g5 k5 => ifp rfl (K0 _ _ (by rw [eW]; unfold workN; rw [if_pos m1, if_pos m2, if_pos m3, if_neg m4]) M5 (F4.trans (fq_I f5 fun b hb => Or.inl hb)) (x4.trans (fails_fx g5)) k5)⟩
    have F5 : FQ (RPm m) M M5 := F4.trans (f5.mono fun b hb => by unfold RPm; omega)
    have x5 := x4.trans g5.fx
    obtain ⟨a, ha⟩ : ∃ v, tV L bf q = v := ⟨_, rfl⟩
    obtain ⟨bb, hb⟩ : ∃ v, tV L bf (tN L bf q) = v := ⟨_, rfl⟩
    obtain ⟨cc, hcc⟩ : ∃ v, tV L bf (tN L bf (tN L bf q)) = v := ⟨_, rfl⟩
    obtain ⟨dd, hd⟩ : ∃ v, tV L bf (tN L bf (tN L bf (tN L bf q))) = v := ⟨_, rfl⟩
    have eL : workL L bf (p, sg, nm, ct, dt) = seatsL L bf (sg 3) 7 (tN L bf (tN L bf (tN L bf (tN L bf q))), workS sg a bb cc dd, updN nm (16 + sg 3) wo, ct, dt) := by
      rw [eW]; unfold workN; rw [if_pos m1, if_pos m2, if_pos m3, if_pos m4, ha, hb, hcc, hd]
    have w1 := nerr_v m1
    have w2 := nerr_v m2
    have w3 := nerr_v m3
    have w4 := nerr_v m4
    rw [ha] at j2 w1
    rw [hb] at j3 w2
    rw [hcc] at j4 w3
    rw [hd] at j5 w4
    have wok : Wok L (sg 3) 0 (tN L bf (tN L bf (tN L bf (tN L bf q))), workS sg a bb cc dd, updN nm (16 + sg 3) wo, ct, dt) := workS_ok ok0 (tN_le L bf hq3) (by omega) o1 (by omega) (by omega) (by omega) (by omega)
    have o_ : ∀ k, k ≠ 3 → k < 65 + 11 * sg 3 ∨ 65 + 11 * sg 3 + 3 < k → workS sg a bb cc dd k = sg k := fun k h1 h2 => workS_o sg a bb cc dd h1 h2
    have wf := workS_f sg a bb cc dd
    unfold oW at wf
    have kf : ∀ j, j = 0 ∨ j = 5 ∨ j = 24 ∨ j = 13 ∨ j = 15 → zI M5 m j = zI M m j := fun j hj => by
      rw [g5 j (by omega) (by omega) (by omega) (by omega) (by omega), g4 j (by omega) (by omega) (by omega) (by omega) (by omega), g3 j (by omega) (by omega) (by omega) (by omega) (by omega), g2 j (by omega) (by omega) (by omega) (by omega) (by omega), g1 j (by omega) (by omega) (by omega) (by omega)]
    have i5 : ∀ k, k < 120 → k ≠ 3 → zI M5 (m + 5) k = nI (workS sg a bb cc dd k) := fun k hk k3 => by
      rw [j5]
      by_cases e1 : k = 65 + 11 * sg 3 + 3
      · rw [if_pos e1, e1, wf.2.2.2]
      · rw [if_neg e1, j4]
        by_cases e2 : k = 65 + 11 * sg 3 + 2
        · rw [if_pos e2, e2, wf.2.2.1]
        · rw [if_neg e2, j3]
          by_cases e3 : k = 65 + 11 * sg 3 + 1
          · rw [if_pos e3, e3, wf.2.1]
          · rw [if_neg e3, j2]
            by_cases e4 : k = 65 + 11 * sg 3
            · rw [if_pos e4, e4]
              exact congrArg nI wf.1.symm
            · rw [if_neg e4, o_ k k3 (by omega), i51]; exact rd k hk
    have i6 : zI M5 (m + 6) = zI M (m + 6) := by
      rw [f5.i (by omega), f4.i (by omega), f3.i (by omega), f2.i (by omega), f1.i (by omega)]
    have i7 : ∀ j, zJ M5 (m + 7) j = if j = 8 * 2 + sg 3 then c8 wo else zJ M (m + 7) j := fun j => by
      rw [f5.j (by omega), f4.j (by omega), f3.j (by omega), f2.j (by omega)]
      exact j1 j
    have mwi : MWI m L bf (sg 3) (tN L bf (tN L bf (tN L bf (tN L bf q))), workS sg a bb cc dd, updN nm (16 + sg 3) wo, ct, dt) M5 := by
      refine ⟨p5, ?_, i5, ?_, ?_, ?_, fun k hk => ?_, fun k hk => ?_, fun k hk => ?_, fun k hk => ?_⟩
      · rw [kf 13 (by omega)]; exact z13
      · rw [j5, if_neg (by omega), j4, if_neg (by omega), j3, if_neg (by omega), j2, if_neg (by omega), i51]; exact v2
      · rw [o_ 2 (by omega) (by omega), i6]; exact rc
      · rw [kf 15 (by omega)]; exact zd
      · rw [o_ 1 (by omega) (by omega)] at hk
        rw [i7, if_neg (by omega), show updN nm (16 + sg 3) wo k = nm k from if_neg (by omega)]; exact na0 k hk
      · rw [o_ 2 (by omega) (by omega)] at hk
        dsimp only
        rw [i7, if_neg (by omega), show updN nm (16 + sg 3) wo (8 + k) = nm (8 + k) from if_neg (by omega)]; exact na1 k hk
      · rw [i7]
        dsimp only
        unfold updN
        by_cases e : k = sg 3
        · rw [if_pos (by omega), if_pos (by omega)]; exact ⟨rfl, o1⟩
        · rw [if_neg (by omega), if_neg (by omega)]; exact na2 k (by omega)
      · rw [o_ 4 (by omega) (by omega)] at hk
        dsimp only
        rw [i7, if_neg (by omega), show updN nm (16 + sg 3) wo (24 + k) = nm (24 + k) from if_neg (by omega)]; exact na3 k hk
    refine ⟨7, s_M_seats 7 0 _ M5 rfl mwi wok.1 (fun s2 e5 M6 f6 x6 c6 => ?_) (fun c q e5 M6 f6 x6 k6 => K0 c q (by rw [eL]; exact e5) M6 (F5.trans f6) (x5.trans x6) k6)⟩
    obtain ⟨⟨t2, ht, ok2⟩, -⟩ := seatsL_ok 7 0 _ s2 rfl wok e5
    obtain ⟨p2_, sg2, nm2, ct2, dt2⟩ := s2
    have s33 : sg2 3 = sg 3 + 1 := ok2.1.2.2.2.2.1
    obtain ⟨q1, q2, q3, q4, q5, q6, q7, q8, q9, q10⟩ := c6
    have sh6 := q1.1
    unfold MS at sh6
    have f7 : FQ (fun q => q = m + 5) M6 (sI M6 (m + 5) 3 (nI (sg 3 + 1))) := fq_sI rfl
    have mps : MPS m L bf (p2_, sg2, nm2, ct2, dt2) (sI M6 (m + 5) 3 (nI (sg 3 + 1))) := by
      refine ⟨q1.fr f7 (by omega) (by omega), ?_, fun k hk => ?_, ?_, ?_, q7, q8, ?_, q10⟩
      · rw [zI_sIo _ _ _ _ (by omega)]; exact q2
      · by_cases e : k = 3
        · rw [e, zI_sI1, s33]
        · rw [zI_sI2 _ _ _ _ e]; exact q3 k hk e
      · rw [zI_sIo _ _ _ _ (by omega)]; exact q5
      · rw [zI_sIo _ _ _ _ (by omega)]; exact q6
      · rw [s33]; exact q9
    have T := K1 (p2_, sg2, nm2, ct2, dt2) (by rw [eL]; exact e5) (sI M6 (m + 5) 3 (nI (sg 3 + 1))) (F5.trans (f6.trans (f7.mono fun b hb => by unfold RPm; omega))) ((x5.trans x6).trans fun j hj => by rw [zI_sIo _ _ _ _ (by omega)]) mps
    simp (disch := omega) only [sh6, q4, n_vp, n_cl, nI_add, not_true_eq_false, Bool.false_eq_true, false_and, Bool.not_false, Bool.not_true, Bool.and_true, Bool.and_false, Bool.false_and, Bool.true_and, true_and, and_true, true_or, or_true, not_false_eq_true, Option.some.injEq, exists_eq_left', forall_eq, ↓reduceIte, Nat.add_zero, Nat.zero_add, and_self]
    exact T
end PWQ
