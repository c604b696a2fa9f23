/-! PARSE: the call, both sides -/
section PMC
variable {m bl j : Nat} {sg pl : Nat → Nat} {hn : Nat} {hl : Nat → Nat → Nat} {sv : Nat → Bool} {sl : Nat → Nat → Nat} {bf : Nat → Int32} {ep : Nat} {nm : Nat → List Nat} {M : Mm}
theorem parse_M (ok : OKs (sg, pl, hn, hl, sv, sl, bl, bf, ep, nm)) (hj : j ≤ bl) (h : MI m (sg, pl, hn, hl, sv, sl, bl, bf, ep, nm) M) (P : Int32 → Mm → Prop)
    (K1 : ∀ s2, parseL j bf = Sum.inr s2 → ∀ M' u, MI m (stM hl sl bf s2 u) M' → FrG m (m + 14) M M' → zI M' m 0 = nI 0 → P (nI 0) M')
    (K0 : ∀ c q, parseL j bf = Sum.inl (c, q) → ∀ M', MI m (sg, pl, hn, hl, sv, sl, 0, bf, q, nm) M' → FrG m (m + 14) M M' → zI M' m 0 = nI 0 → P (nI c) M') : w_X8_parse M m (nI j) P := by
  obtain ⟨hs, hp, h10, hhl, hsl, hbl, hby, hep, nm1, nm2, nm3, nm4⟩ := ok
  refine thr0 h fun M1 h1 f1 t1 => ?_
  have k8 := h1.k8
  have h1' := h1
  obtain ⟨mq, mn, mh, ms, mb, mnm⟩ := h1'
  have b5 : zI M1 m 5 = nI bl := mb.1
  refine ⟨k8, ?_⟩
  rw [b5]
  refine (e_within (a := j) (lo := 0) (hi := bl) (by omega) (by omega) (by omega) M1 _).mpr ?_
  rw [decide_eq_true (show 0 ≤ j ∧ j ≤ bl by omega)]
  refine ifn (by decide) ⟨k8, (e_throws0 (k := 1) k8 t1 _).mpr (ifp (by decide) ⟨k8, fun M4 e4 => ⟨by rw [e4, zk_sI]; exact k8, fun M5 e5 => ⟨by rw [e5, zk_sI, e4, zk_sI]; exact k8, fun M6 e6 => ⟨by rw [e6, zk_sI, e5, zk_sI, e4, zk_sI]; exact k8, fun M7 e7 => ⟨by rw [e7, zk_sI, e6, zk_sI, e5, zk_sI, e4, zk_sI]; exact k8, fun M8 e8 => ⟨by rw [e8, zk_sI, e7, zk_sI, e6, zk_sI, e5, zk_sI, e4, zk_sI]; exact k8, Or.inl rfl, fun M9 e9 => ?_⟩⟩⟩⟩⟩⟩)⟩
  have F9 : FQ (fun b => b = m) M1 M9 := by
    rw [e9, e8, e7, e6, e5, e4]
    exact ((((FQ.trans (fq_sI (R := fun b => b = m) rfl) (fq_sI rfl)).trans (fq_sI rfl)).trans (fq_sI rfl)).trans (fq_sI rfl)).trans (fq_sI rfl)
  have i9 : zI M9 m 0 = nI 0 ∧ zI M9 m 5 = nI 0 ∧ zI M9 m 6 = nI j ∧ zI M9 m 8 = nI 0 ∧ zI M9 m 12 = nI 0 ∧ zI M9 m 13 = nI 4294967295 ∧ zI M9 m 15 = nI 0 ∧ zI M9 m 24 = zI M1 m 24 := by
    rw [e9, e8, e7, e6, e5, e4]
    simp only [zI_sIq]
    refine ⟨?_, ?_, ?_, ?_, ?_, ?_, ?_, ?_⟩
    · simp only [true_and, Nat.reduceEqDiff, if_false]; exact t1
    · simp only [true_and, Nat.reduceEqDiff, if_false, if_true]; rfl
    · simp only [true_and, Nat.reduceEqDiff, if_false, if_true]
    · simp only [true_and, Nat.reduceEqDiff, if_false, if_true]; rfl
    · simp only [true_and, Nat.reduceEqDiff, if_false, if_true]; rfl
    · simp only [true_and, Nat.reduceEqDiff, if_false, if_true]; decide
    · simp only [true_and, Nat.reduceEqDiff, if_true]; rfl
    · simp only [true_and, Nat.reduceEqDiff, if_false]
  have ms9 := F9.ms mq.1
  refine s_parse64 ms9 fun M10 f10 g10 => ?_
  have F10 : FQ (fun b => b = m + 5) M9 M10 := fq_I f10 fun b hb => hb
  have ms10 := F10.ms ms9
  have sh := ms10
  unfold MS at sh
  have i10 : zI M10 m = zI M9 m := F10.i (by omega)
  have tx : TX m j bf M10 := by
    refine ⟨by simp only [sh], by simp only [sh], by simp only [sh], by simp only [sh], by rw [i10]; exact i9.2.2.1, by omega, fun i hi => ⟨?_, hby i (by omega)⟩⟩
    rw [F10.i (by omega), F9.i (by omega)]; exact mb.2.2 i (by omega)
  refine ⟨by simp only [sh], ?_⟩
  refine s_X8_advance tx (Nat.zero_le _) (by rw [i10]; exact i9.2.2.2.1) _ fun M11 f11 g11 b11 c11 => ?_
  have F11 : FQ (fun b => b = m) M10 M11 := fq_J f11 rfl
  have pm : PMx m j bf 0 M11 := ⟨F11.ms ms10, b11, c11, by rw [g11 12 (by omega) (by omega) (by omega) (by omega), i10]; exact i9.2.2.2.2.1⟩
  have k13 : ∀ i, i ≠ 7 → i ≠ 8 → i ≠ 9 → i ≠ 10 → zI M11 m i = zI M9 m i := fun i a b c d => by rw [g11 i a b c d, i10]
  have F1b : FQ (RPm m) M1 M11 := (F9.mono fun b hb => by unfold RPm; omega).trans ((F10.mono fun b hb => by unfold RPm; omega).trans (F11.mono fun b hb => by unfold RPm; omega))
  have frM : ∀ M', FQ (fun b => m ≤ b ∧ b < m + 14) M1 M' → FrG m (m + 14) M M' := fun M' f => by
    refine FrG.trans (M1 := M1) (f1.1.g fun b hb => by unfold RF at hb; omega) (f.g fun b hb => hb)
  -- a fault
  have bad_ : ∀ c q, parseL j bf = Sum.inl (c, q) → ∀ M12, FQ (RPm m) M11 M12 → MFx m M11 M12 → MFl m c q M12 → P (zI M12 m 12) M12 := by
    intro c q eL M12 f12 x12 kf
    have F : FQ (RPm m) M1 M12 := F1b.trans f12
    rw [kf.1]
    refine K0 c q eL M12 ⟨⟨F.ms mq.1, ?_, mq.2.2⟩, ⟨F.ms mq.1, ?_⟩, ?_, ?_, ⟨?_, kf.2, fun i hi => absurd hi (Nat.not_lt_zero i)⟩, ?_⟩ (frM M12 (F.mono fun b hb => by unfold RPm at hb; omega)) ?_
    · rw [F.i (by unfold RPm; omega)]; exact mq.2.1
    · rw [F.i (by unfold RPm; omega)]; exact mn.2
    · unfold MHi at mh ⊢
      rw [x12 24 (by omega), k13 24 (by omega) (by omega) (by omega) (by omega), i9.2.2.2.2.2.2.2, F.i (b := m + 11) (by unfold RPm; omega)]; exact mh
    · unfold MSn at ms ⊢
      rw [F.i (b := m + 12) (by unfold RPm; omega), F.i (b := m + 13) (by unfold RPm; omega)]; exact ms
    · rw [x12 5 (by omega), k13 5 (by omega) (by omega) (by omega) (by omega)]; exact i9.2.1
    · unfold MNm at mnm ⊢
      rw [F.j (by unfold RPm; omega)]; exact mnm
    · rw [x12 0 (by omega), k13 0 (by omega) (by omega) (by omega) (by omega)]; exact i9.1
  refine ⟨b11.1, s_M_days pm (Nat.zero_le _) _ _ (fun q d e M12 f12 g12 p12 j12 => ?_) fun c q e M12 f12 x12 kf => ?_⟩
  · have z5 : ∀ k, k < 120 → zI M11 (m + 5) k = nI 0 := fun k hk => by rw [F11.i (by omega)]; exact g10 k hk
    have z1 := sgi_o d (k := 1) (by omega)
    have z2 := sgi_o d (k := 2) (by omega)
    have z3 := sgi_o d (k := 3) (by omega)
    have z4 := sgi_o d (k := 4) (by omega)
    have mps : MPS m j bf (q, sgi d, fun _ => [], fun _ => 0, false) M12 := by
      refine ⟨p12, ?_, fun k hk => ?_, fun k hk => by omega, ?_, fun k hk => by omega, fun k hk => by omega, fun k hk => by omega, fun k hk => by omega⟩
      · rw [g12 13 (by omega) (by omega) (by omega) (by omega) (by omega), k13 13 (by omega) (by omega) (by omega) (by omega)]; exact i9.2.2.2.2.2.1
      · rw [j12]
        by_cases c : k = 0
        · rw [if_pos c, c, sgi_0]
        · rw [if_neg c, sgi_o d c]; exact z5 k hk
      · rw [g12 15 (by omega) (by omega) (by omega) (by omega) (by omega), k13 15 (by omega) (by omega) (by omega) (by omega)]; exact i9.2.2.2.2.2.2.1
    have F12 : FQ (RPm m) M11 M12 := f12.mono fun b hb => by unfold RPm; omega
    refine ⟨j + 2, s_M_stmts (j + 1) _ M12 mps (sgi_ok e) (by dsimp only; omega) (fun s2 e2 M13 f13 x13 c13 => ?_) (fun c q2 e2 M13 f13 x13 kf => ifp rfl ⟨by rw [(F12.trans f13).k]; exact b11.1, bad_ c q2 (by unfold parseL; rw [e]; exact e2) M13 (F12.trans f13) (g12.fx.trans x13) kf⟩)⟩
    have eL : parseL j bf = Sum.inr s2 := by unfold parseL; rw [e]; exact e2
    have okp := parseL_ok (fun i hi => hby i (by omega)) eL
    obtain ⟨p2, sg2, nm2, ct2, dt2⟩ := s2
    have bb := okp.2.1.1
    obtain ⟨pm3, z13, rd, rc, zd, na0, na1, na2, na3⟩ := c13
    refine ifn (by decide) ⟨pm3.2.1.1, s_X8_takesRead pm3.1 fun M14 f14 g14 a24 a1 a2 a3 a13 => ?_⟩
    have F13 : FQ (RPm m) M1 M13 := (F1b.trans F12).trans f13
    have kf : ∀ i, i = 0 ∨ i = 5 → zI M13 m i = zI M9 m i := fun i hi => by
      rw [x13 i (by omega), g12 i (by omega) (by omega) (by omega) (by omega) (by omega), k13 i (by omega) (by omega) (by omega) (by omega)]
    refine K1 (p2, sg2, nm2, ct2, dt2) eL M14 (fun k => (zI M13 (m + 6) k).toBitVec.toNat) ⟨⟨f14.ms pm3.1, fun k hk => ?_, okp.2.1⟩, ⟨f14.ms pm3.1, fun i hi => ?_⟩, ⟨a24, fun i hi => absurd hi (Nat.not_lt_zero i)⟩, fun i hi => ⟨a13 i hi, fun e => by cases e⟩, ⟨?_, ?_, fun i hi => absurd hi (Nat.not_lt_zero i)⟩, ⟨fun k (hk : k < sg2 1) => ?_, fun k (hk : k < sg2 2) => ?_, fun k (hk : k < sg2 3) => ?_, fun k (hk : k < sg2 4) => ?_⟩⟩ (frM M14 ((F13.mono fun b hb => by unfold RPm at hb; omega).trans (f14.mono fun b hb => by omega))) ?_
    · rw [a1 k hk]; exact rd k hk
    · rw [a2 i hi]
      show _ = nI (plM (sg2 2) ct2 (fun k => (zI M13 (m + 6) k).toBitVec.toNat) i)
      unfold plM
      by_cases c : 1 ≤ i ∧ i ≤ 8
      · rw [if_pos c, if_pos c]
        by_cases c2 : i - 1 < sg2 2
        · rw [if_pos c2]; exact rc _ c2
        · rw [if_neg c2]; exact (nI_x _).symm
      · rw [if_neg c, if_neg c]
    · rw [g14 5 (by omega), kf 5 (by omega)]; exact i9.2.1
    · rw [g14 13 (by omega)]; exact z13
    · have u := (na0 k hk).1
      rw [a3 k (by omega)]
      rw [show 8 * 0 + k = k by omega] at u
      exact u
    · rw [a3 (8 + k) (by omega)]; exact (na1 k hk).1
    · rw [a3 (16 + k) (by omega)]; exact (na2 k hk).1
    · rw [a3 (24 + k) (by omega)]; exact (na3 k hk).1
    · rw [g14 0 (by omega), kf 0 (by omega)]; exact i9.1
  · refine ⟨1, ?_⟩
    rw [l_X8_parse_125]
    exact ifp rfl (ifp rfl ⟨by rw [f12.k]; exact b11.1, bad_ c q (by unfold parseL; rw [e]) M12 f12 x12 kf⟩)
end PMC
/-- as CALL1, but what the model's state is afterwards depends on what it was -/
def CALLP (x : Nat) (s : ST) (cl : Nat × (Nat → String)) (wC : Mm → (Int32 → Mm → Prop) → (String → Mm → Prop) → Prop) (wM : Mm → (Int32 → Mm → Prop) → Prop) : Prop :=
  ∃ k v s1, k ≤ cl.1 ∧ (∀ M P X, CI x s M → WO x M → (∀ M', CI x s1 M' → FrG x (x + 149) M M' → if k = 0 then P v M' else X (cl.2 k) M') → wC M P X) ∧
    ∀ M P, MI (x + 149) s M → (∀ M' u s2, OKs s2 → (∀ M3, CI x s1 M3 → CI x s2 M3) → MI (x + 149) s2 M' → FrG (x + 149) (x + 163) M M' → zI M' (x + 149) 0 = nI k → (k = 0 → u = v) → P u M') → wM M P
theorem CALL1.p {x : Nat} {s : ST} {cl : Nat × (Nat → String)} {wC : Mm → (Int32 → Mm → Prop) → (String → Mm → Prop) → Prop} {wM : Mm → (Int32 → Mm → Prop) → Prop} (h : CALL1 x s cl wC wM) : CALLP x s cl wC wM := by
  obtain ⟨k, v, s1, ok, h4, hC, hM⟩ := h
  exact ⟨k, v, s1, h4, hC, fun M P hi K => hM M P hi fun M' u a b c d => K M' u s1 ok (fun _ q => q) a b c d⟩
theorem plM_ok {sg ct u : Nat → Nat} (h : ∀ k, k < sg 2 → ct k ≤ 40) (h8 : sg 2 ≤ 8) : PG sg (plM (sg 2) ct u) := by
  have z0 : plM (sg 2) ct u 0 = 0 := if_neg (by omega)
  refine ⟨⟨by rw [z0]; omega, fun p hp => ?_, fun s hs => ?_⟩, fun s q h1 h2 => ?_, fun s hs => ?_, fun s q h1 h2 => ?_⟩
  · unfold plM
    rw [if_pos (by omega), show 1 + p - 1 = p by omega, if_pos hp]; exact h p hp
  · rw [z0] at hs; exact absurd hs (Nat.not_lt_zero _)
  · rw [z0] at h2; exact absurd h2 (Nat.not_lt_zero _)
  · rw [z0] at hs; exact absurd hs (Nat.not_lt_zero _)
  · rw [z0] at h1; exact absurd h1 (Nat.not_lt_zero _)
theorem call_parse {x : Nat} {s : ST} (ok : OKs s) (a : Int32) : CALLP x s clA (fun M P X => w_X7_parse M x a P X) (fun M P => w_X8_parse M (x + 149) a P) := by
  obtain ⟨sg, pl, hn, hl, sv, sl, bl, bf, ep, nm⟩ := s
  have ok2 := ok
  obtain ⟨hs, hp, h10, hhl, hsl, hbl, hby, hep, nm1, nm2, nm3, nm4⟩ := ok
  rcases ix a (n := bl + 1) (by omega) with h | ⟨j, hj, rfl⟩
  · refine CALL1.p (CALL1.no 1 (by decide) ok2 (fun M P X c w K => ?_) (fun M P c K => ?_))
    · have c2 := c
      have fin := fun n1 hn1 => K _ c2.sZ (FrG.sZ (M := M) (n := n1) hn1)
      obtain ⟨c10, sa, sp, hps, hx, hS, hS2, hP, hD, hH, hN, hB, hNm, hKP⟩ := c
      unfold w_X7_parse
      by_cases q : a < nI 0
      · exact ifp q (ifp rfl fin)
      · exact ifn q ⟨hx.1.1.1, ifp (by rw [hB.1]; exact bad_lt h (by omega) q) (ifp rfl fin)⟩
    · refine thr0 c fun M1 c1 f1 t1 => ?_
      have b5 : zI M1 (x + 149) 5 = nI bl := by
        have q := c1
        obtain ⟨mq, mn, mh, ms, mb, mnm⟩ := q
        exact mb.1
      refine ⟨c1.k8, ?_⟩
      rw [b5]
      refine (e_within_no h (by omega) _).mpr (ifp (by decide) ⟨c1.k8, (e_throws1 (k := 1) c1.k8 t1 (by omega) (by omega) _).mpr (ifn (by decide) ?_)⟩)
      exact K _ _ (c1.mf MF.th) (f1.trans MF.th).o (zI_sI1 _ _ _ _)
  · obtain ⟨r, hr⟩ : ∃ r, parseL j bf = r := ⟨_, rfl⟩
    match r, hr with
    | Sum.inl (c, q), hr =>
      have hb := parseL_e (fun i hi => hby i (by omega)) c q hr
      refine CALL1.p (CALL1.okG (sg, pl, hn, hl, sv, sl, 0, bf, q, nm) (nI c) ⟨hs, hp, h10, hhl, hsl, by omega, fun i hi => absurd hi (Nat.not_lt_zero i), by omega, nm1, nm2, nm3, nm4⟩ (fun M P X c1 w K => ?_) fun M P c1 K => ?_)
      · refine parse_C ok2 (by omega) c1 w P X (fun s2 e => by rw [hr] at e; cases e) fun c2 q2 e M' h1 f1 => ?_
        rw [hr] at e
        cases e
        exact K M' h1 f1
      · refine parse_M ok2 (by omega) c1 P (fun s2 e => by rw [hr] at e; cases e) fun c2 q2 e M' h1 f1 t1 => ?_
        rw [hr] at e
        cases e
        exact K M' h1 f1 t1
    | Sum.inr s2, hr =>
      have okp := parseL_ok (fun i hi => hby i (by omega)) hr
      refine ⟨0, nI 0, stO hl sl bf s2, Nat.zero_le _, fun M P X c1 w K => ?_, fun M P c1 K => ?_⟩
      · refine parse_C ok2 (by omega) c1 w P X (fun s3 e M' h1 f1 => ?_) fun c2 q2 e => by rw [hr] at e; cases e
        rw [hr] at e
        cases e
        exact K M' h1 f1
      · refine parse_M ok2 (by omega) c1 P (fun s3 e M' u h1 f1 t1 => ?_) fun c2 q2 e => by rw [hr] at e; cases e
        rw [hr] at e
        cases e
        obtain ⟨p2, sg2, nm2_, ct2, dt2⟩ := s2
        obtain ⟨o1, o2, o3, o4, o5, o6, o7, o8, o9⟩ := okp
        have b8 := o2.1
        have okS : OKs (sg2, plM (sg2 2) ct2 u, 0, hl, fun _ => false, sl, 0, bf, 4294967295, nm2_) := ⟨o2, plM_ok o3 (by omega), by omega, fun i hi => absurd hi (Nat.not_lt_zero i), fun i hi e => (by cases e), by omega, fun i hi => absurd hi (Nat.not_lt_zero i), by omega, o4, o5, o6, o7⟩
        refine K M' _ (stM hl sl bf (p2, sg2, nm2_, ct2, dt2) u) okS (fun M3 h3 => ?_) h1 f1 t1 fun _ => rfl
        obtain ⟨c10, sa, sp, hps, hx, hS, hS2, hP, hD, hH, hN, hB, hNm, hKP⟩ := h3
        refine ⟨c10, sa, sp, hps, hx, hS, hS2, ⟨hP.1, ?_, fun s hs => ?_, fun p (hp : p < sg2 2) => ?_⟩, hD, hH, hN, hB, hNm, hKP⟩
        · rw [hP.2.1]; rfl
        · exact absurd hs (Nat.not_lt_zero s)
        · rw [hP.2.2.2 p hp]
          show nI (plC ct2 (1 + p)) = nI (plM (sg2 2) ct2 u (1 + p))
          unfold plC plM
          rw [if_pos (by omega), if_pos (by omega), if_pos (by omega)]
