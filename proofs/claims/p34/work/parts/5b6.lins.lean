/-! THE LAW'S SERVICES: one comes in, one comes back -/
theorem psn_split {sg q : Nat → Nat} (hp : PV sg q) {ha t : Nat} (hne : ∀ s, s < q 0 → ¬ (oS q s 0 = t ∧ oS q s 1 = ha)) : (∀ k, k < psn q ha t → lx (oS q k 0) (oS q k 1) t ha) ∧ ∀ k, psn q ha t ≤ k → k < q 0 → lx t ha (oS q k 0) (oS q k 1) := by
  refine ⟨fun k hk => psn_lo hk, fun k h1 h2 => ?_⟩
  have a := psn_hi (pl := q) (ha := ha) (t := t) (by omega)
  have b := hne (psn q ha t) (by omega)
  have c : lx t ha (oS q (psn q ha t) 0) (oS q (psn q ha t) 1) := by unfold lx at a ⊢; omega
  by_cases e : psn q ha t = k
  · rw [← e]; exact c
  · have d := hp.1 (psn q ha t) k (by omega) h2
    unfold lx at c d ⊢; omega
/-- one place takes what the place before holds -/
def ShE (e : Nat) (x6 : Int32) (R : Mm → Prop) (M : Mm) : Prop := zk M e = 8 ∧ ∃ a9, zR M e 14 = some a9 ∧ (zk M e = 8 ∧ ∃ a10, zR M e 14 = some a10 ∧ (zk M a10 = 14 ∧ vp_in (x6 - (1 : Int32)) (zl M a10) ∧ ∃ a11, zR M a10 (x6 - (1 : Int32)).toNatClampNeg = some a11 ∧ zk M a9 = 14 ∧ zk M a11 = 10 ∧ vp_in x6 (zl M a9) ∧ (∀ M12, M12 = sR M a9 x6.toNatClampNeg (some a11) → (zk M12 e = 8 ∧ ∃ a13, zR M12 e 15 = some a13 ∧ (zk M12 e = 8 ∧ ∃ a14, zR M12 e 15 = some a14 ∧ (zk M12 a14 = 15 ∧ vp_in (x6 - (1 : Int32)) (zl M12 a14) ∧ ∃ a15, zR M12 a14 (x6 - (1 : Int32)).toNatClampNeg = some a15 ∧ zk M12 a13 = 15 ∧ zk M12 a15 = 14 ∧ vp_in x6 (zl M12 a13) ∧ (∀ M16, M16 = sR M12 a13 x6.toNatClampNeg (some a15) → R M16)))))))
section LI
variable {e : Nat} {sg pl q : Nat → Nat} {M : Mm}
theorem s_shE (hs : SB sg) (h : LSt e sg M) (hd : LDy e sg q M) (hq : q 0 < 20) {k : Nat} (hk0 : 0 < k) (hkn : k ≤ q 0) {M' : Mm} (hv : Mv e (gI (q 0) k) M M') (R : Mm → Prop) (K : ∀ M2, Mv e (gI (q 0) (k - 1)) M M2 → R M2) : ShE e (nI k) R M' := by
  have h3 := h.kp hv.f.g
  obtain ⟨a, r1, r2⟩ := hd.s (show k - 1 < q 0 by omega)
  obtain ⟨c, r3, r4⟩ := hd.c (show k - 1 < q 0 by omega)
  have r2 := r2.f8 hv.f
  have r4 := r4.f8 hv.f
  have p1 : zR M' (e + 8) (k - 1) = some a := by rw [(hv.2 (k - 1)).1, gI, if_neg (by omega)]; exact r1
  have p2 : zR M' (e + 9) (k - 1) = some c := by rw [(hv.2 (k - 1)).2, gI, if_neg (by omega)]; exact r3
  have hv2 := hv.s (k := k) (k2 := k - 1) (g2 := gI (q 0) (k - 1)) (u := some a) (v := some c) (fun i => by
    unfold gI
    split <;> split <;> (try split) <;> omega) p1.symm p2.symm
  have p2b : zR (sR M' (e + 8) k (some a)) (e + 9) = zR M' (e + 9) := zR_sRo _ _ _ _ (by omega)
  have p2c : zR (sR M' (e + 8) k (some a)) e = zR M' e := zR_sRo _ _ _ _ (by omega)
  have e1 : nI k - (1 : Int32) = nI (k - 1) := by rw [l_1, n_sub (by omega)]
  unfold ShE
  rw [e1]
  refine ⟨h3.s.1.1, e + 8, h3.s.1.2.2.2.2.2.2.2.2.1, h3.s.1.1, e + 8, h3.s.1.2.2.2.2.2.2.2.2.1, h3.s.2.1.2.2.2.2.2.2.2.1, ?_, a, ?_, h3.s.2.1.2.2.2.2.2.2.2.1, r2.2.1.1, ?_, fun M7 hM7 => ?_⟩
  · rw [h3.s.2.2.2.2.2.2.2.2.2.1, n_vp (by omega) (by omega)]; exact True.intro
  · rw [n_cl (by omega)]; exact p1
  · rw [h3.s.2.2.2.2.2.2.2.2.2.1, n_vp (by omega) (by omega)]; exact True.intro
  · rw [n_cl (by omega)] at hM7
    subst hM7
    refine ⟨h3.s.1.1, e + 9, ?_, h3.s.1.1, e + 9, ?_, h3.s.2.1.2.2.2.2.2.2.2.2, ?_, c, ?_, h3.s.2.1.2.2.2.2.2.2.2.2, r4.2.1.1, ?_, fun M11 hM11 => ?_⟩
    · rw [p2c]; exact h3.s.1.2.2.2.2.2.2.2.2.2
    · rw [p2c]; exact h3.s.1.2.2.2.2.2.2.2.2.2
    · rw [zl_sR, h3.s.2.2.2.2.2.2.2.2.2.2, n_vp (by omega) (by omega)]; exact True.intro
    · rw [n_cl (by omega), p2b]; exact p2
    · rw [zl_sR, h3.s.2.2.2.2.2.2.2.2.2.2, n_vp (by omega) (by omega)]; exact True.intro
    · rw [n_cl (by omega)] at hM11
      subst hM11
      exact K _ hv2
theorem s_X8_comes_53 (hs : SB sg) (hb : PB sg q) (h : LSt e sg M) (hd : LDy e sg q M) (hq : q 0 < 20) {at_ t ha : Nat} (ht : t < 90) (hha : ha < 3) (hat : at_ ≤ q 0) (hlo : ∀ k, k < at_ → lx (oS q k 0) (oS q k 1) t ha) (hhi : ∀ k, at_ ≤ k → k < q 0 → lx t ha (oS q k 0) (oS q k 1)) {B S1 b s x5 : Nat} {x3 x4 : Int32} {P : Int32 → Mm → Prop} {K141 : Mm → Nat → Nat → Nat → Int32 → Int32 → Int32 → Int32 → Nat → Int32 → Prop}
    (K : ∀ M', Mv e (gI (q 0) at_) M M' → K141 M' b s e (nI ha) (nI t) x3 x4 x5 (nI at_)) : ∃ n, l_X8_comes_53 B S1 P K141 n M b s e (nI ha) (nI t) x3 x4 x5 (zI M e 6) := by
  rw [hd.n]
  have key : ∀ j k, at_ + j = k → k ≤ q 0 → ∀ M', Mv e (gI (q 0) k) M M' → l_X8_comes_53 B S1 P K141 (j + 1) M' b s e (nI ha) (nI t) x3 x4 x5 (nI k) := by
    intro j
    induction j with
    | zero =>
      intro k hk hkn M' hv
      have ek : k = at_ := by omega
      subst ek
      rw [l_X8_comes_53]
      by_cases k0 : k = 0
      · subst k0
        exact ifp (by decide) (K M' hv)
      · have h3 := h.kp hv.f.g
        obtain ⟨a, r1, r2⟩ := hd.s (show k - 1 < q 0 by omega)
        obtain ⟨-, ⟨r3, r4⟩, r5⟩ := r2.f8 hv.f
        have r50 : zI M' a 0 = nI (oS q (k - 1) 0) := r5 0 (by omega)
        have r51 : zI M' a 1 = nI (oS q (k - 1) 1) := r5 1 (by omega)
        have p1 : zR M' (e + 8) (k - 1) = some a := by rw [(hv.2 (k - 1)).1, gI, if_neg (by omega)]; exact r1
        have lo := hlo (k - 1) (by omega)
        have d := hb.s hs (show k - 1 < q 0 by omega)
        unfold lx at lo
        refine ifn (by rw [l_0, n_leF (by omega) (by omega)]; exact not_false) ?_
        by_cases c1 : oS q (k - 1) 0 < t
        · simp (disch := omega) only [h3.s, p1, r3, r4, r50, l_0, l_1, l_2, l_3, l_4, l_5, l_6, l_7, l_8, l_9, l_10, l_20, l_30, l_31, l_34, l_40, l_65, l_100, l_255, l_11, l_12, l_24, l_600, l_689, l_999, l_120, l_32, nI_add, pk_mul, n_sub, n_leT, n_leF, n_ltT, n_ltF, n_eqT, n_eqF, n_cl, n_vp, fa_andq, fa_orq, fa_xorq, n_shl, n_shr, n_t1, n_t0, n_div, n_m1, not_true_eq_false, Bool.false_eq_true, false_and, Bool.not_false, Bool.not_true, Bool.and_true, Bool.and_false, Bool.false_and, Bool.true_and, true_and, and_true, true_or, or_true, not_false_eq_true, Option.some.injEq, exists_eq_left', forall_eq, ↓reduceIte, Nat.add_zero, Nat.zero_add, and_self]
          exact K M' hv
        · have c2 : oS q (k - 1) 0 = t := by omega
          have c3 : oS q (k - 1) 1 < ha := by omega
          simp (disch := omega) only [h3.s, p1, r3, r4, r50, r51, c2, l_0, l_1, l_2, l_3, l_4, l_5, l_6, l_7, l_8, l_9, l_10, l_20, l_30, l_31, l_34, l_40, l_65, l_100, l_255, l_11, l_12, l_24, l_600, l_689, l_999, l_120, l_32, nI_add, pk_mul, n_sub, n_leT, n_leF, n_ltT, n_ltF, n_eqT, n_eqF, n_cl, n_vp, fa_andq, fa_orq, fa_xorq, n_shl, n_shr, n_t1, n_t0, n_div, n_m1, not_true_eq_false, Bool.false_eq_true, false_and, Bool.not_false, Bool.not_true, Bool.and_true, Bool.and_false, Bool.false_and, Bool.true_and, true_and, and_true, true_or, or_true, not_false_eq_true, Option.some.injEq, exists_eq_left', forall_eq, ↓reduceIte, Nat.add_zero, Nat.zero_add, and_self]
          exact K M' hv
    | succ j ih =>
      intro k hk hkn M' hv
      have h3 := h.kp hv.f.g
      obtain ⟨a, r1, r2⟩ := hd.s (show k - 1 < q 0 by omega)
      obtain ⟨-, ⟨r3, r4⟩, r5⟩ := r2.f8 hv.f
      have r50 : zI M' a 0 = nI (oS q (k - 1) 0) := r5 0 (by omega)
      have r51 : zI M' a 1 = nI (oS q (k - 1) 1) := r5 1 (by omega)
      have p1 : zR M' (e + 8) (k - 1) = some a := by rw [(hv.2 (k - 1)).1, gI, if_neg (by omega)]; exact r1
      have hi := hhi (k - 1) (by omega) (by omega)
      have d := hb.s hs (show k - 1 < q 0 by omega)
      unfold lx at hi
      have sh := s_shE hs h hd hq (k := k) (by omega) hkn hv (fun M2 => l_X8_comes_53 B S1 P K141 (j + 1) M2 b s e (nI ha) (nI t) x3 x4 x5 (nI k + (-1 : Int32))) fun M2 v2 => by
        rw [x_m1, n_sub (by omega)]
        exact ih (k - 1) (by omega) (by omega) M2 v2
      generalize hm : j + 1 = m2 at sh ⊢
      rw [l_X8_comes_53]
      refine ifn (by rw [l_0, n_leF (by omega) (by omega)]; exact not_false) ⟨h3.s.1.1, e + 8, h3.s.1.2.2.2.2.2.2.2.2.1, h3.s.2.1.2.2.2.2.2.2.2.1, ?_, a, ?_, r3, ?_, ?_⟩
      · rw [h3.s.2.2.2.2.2.2.2.2.2.1, l_1, n_sub (by omega), n_vp (by omega) (by omega)]; exact True.intro
      · rw [l_1, n_sub (by omega), n_cl (by omega)]; exact p1
      · rw [r4]; exact vp_in_nI (n := 0) (by omega) (by omega)
      · rw [show (0 : Int32).toNatClampNeg = 0 from rfl, r50]
        by_cases c1 : t < oS q (k - 1) 0
        · exact ifp (by rw [n_ltT c1 (by omega)]; exact True.intro) sh
        · have c2 : oS q (k - 1) 0 = t := by omega
          refine ifn (by rw [n_ltF (by omega) (by omega)]; exact not_false) ⟨h3.s.1.1, e + 8, h3.s.1.2.2.2.2.2.2.2.2.1, h3.s.2.1.2.2.2.2.2.2.2.1, ?_, a, ?_, r3, ?_, ?_⟩
          · rw [h3.s.2.2.2.2.2.2.2.2.2.1, l_1, n_sub (by omega), n_vp (by omega) (by omega)]; exact True.intro
          · rw [l_1, n_sub (by omega), n_cl (by omega)]; exact p1
          · rw [r4]; exact vp_in_nI (n := 0) (by omega) (by omega)
          · rw [r50]
            refine ifp (by rw [c2]) ⟨h3.s.1.1, e + 8, h3.s.1.2.2.2.2.2.2.2.2.1, h3.s.2.1.2.2.2.2.2.2.2.1, ?_, a, ?_, r3, ?_, ?_⟩
            · rw [h3.s.2.2.2.2.2.2.2.2.2.1, l_1, n_sub (by omega), n_vp (by omega) (by omega)]; exact True.intro
            · rw [l_1, n_sub (by omega), n_cl (by omega)]; exact p1
            · rw [r4]; exact vp_in_nI (n := 1) (by omega) (by omega)
            · rw [show (1 : Int32).toNatClampNeg = 1 from rfl, r51]
              exact ifn (by rw [n_leF (by omega) (by omega)]; exact not_false) sh
  exact ⟨_, key (q 0 - at_) (q 0) (by omega) (Nat.le_refl _) M ⟨FR8.rf, fun j => by rw [gI]; split <;> first | omega | exact ⟨rfl, rfl⟩⟩⟩
/-- the end of both: the new service's row and casts are laid, the number counts up -/
theorem ins_end (hs : SB sg) (h : SI e sg q M) {at_ a c : Nat} {Mb Mc : Mm} (hat : at_ ≤ q 0) (hq : q 0 < 20) (hv : Mv e (gI (q 0) at_) M Mb) (hk : KpC e Mb Mc) (p0 : pl 0 = q 0 + 1) (pk : ∀ p, p < sg 2 → pl (1 + p) = q (1 + p)) (po : ∀ k, k < pl 0 → k ≠ at_ → ∀ f, f < 34 → oS pl k f = oS q (dn at_ k) f) (ra : Row e a 4 (fun f => oS pl at_ f) Mc) (rc : Cv e c sg pl at_ Mc) :
    KpS e M (sI (sR (sR Mc (e + 8) at_ (some a)) (e + 9) at_ (some c)) e 6 (nI (q 0 + 1))) ∧ SI e sg pl (sI (sR (sR Mc (e + 8) at_ (some a)) (e + 9) at_ (some c)) e 6 (nI (q 0 + 1))) := by
  obtain ⟨hz, h1, hd⟩ := h
  have kb := hv.f.g
  have k1 : KpS e M Mc := kb.trans hk.1
  have zc : zn M ≤ zn Mc := k1.1.1
  have k2 : KpS e Mc (sI (sR (sR Mc (e + 8) at_ (some a)) (e + 9) at_ (some c)) e 6 (nI (q 0 + 1))) := by
    refine ⟨((frg_R (by omega)).trans (frg_R (by omega))).trans (frg_I (by omega)), ⟨rfl, fun i h1 h2 => zI_sI2 _ _ _ _ h1, fun i h => ?_⟩, fun _ _ _ => ⟨rfl, rfl⟩, fun k _ _ _ => ⟨zI_sIo _ _ _ _ (by omega), ?_⟩⟩
    · show zR (sR (sR Mc (e + 8) at_ (some a)) (e + 9) at_ (some c)) e i = _
      rw [zR_sRo _ _ _ _ (by omega), zR_sRo _ _ _ _ (by omega)]
    · show zR (sR (sR Mc (e + 8) at_ (some a)) (e + 9) at_ (some c)) (e + k) = _
      rw [zR_sRo _ _ _ _ (by omega), zR_sRo _ _ _ _ (by omega)]
  have kk := k1.trans k2
  refine ⟨kk, Nat.le_trans hz kk.1.1, h1.kp kk, ?_, fun p hp => ?_, fun s hsn => ?_⟩
  · rw [zI_sI1, p0]
  · rw [zI_sIo _ _ _ _ (by omega)]
    show zI Mc (e + 3) p = _
    rw [hk.2.2.1, hv.f.i, pk p hp]
    exact hd.k hp
  · have e8 : zR (sI (sR (sR Mc (e + 8) at_ (some a)) (e + 9) at_ (some c)) e 6 (nI (q 0 + 1))) (e + 8) s = if s = at_ then some a else zR M (e + 8) (gI (q 0) at_ s) := by
      show zR (sR (sR Mc (e + 8) at_ (some a)) (e + 9) at_ (some c)) (e + 8) s = _
      rw [zR_sRo _ _ _ _ (show e + 8 ≠ e + 9 by omega)]
      by_cases z : s = at_
      · subst z; rw [zR_sR1, if_pos rfl]
      · rw [zR_sR2 _ _ _ _ z, if_neg z, hk.2.2.2.1, (hv.2 s).1]
    have e9 : zR (sI (sR (sR Mc (e + 8) at_ (some a)) (e + 9) at_ (some c)) e 6 (nI (q 0 + 1))) (e + 9) s = if s = at_ then some c else zR M (e + 9) (gI (q 0) at_ s) := by
      show zR (sR (sR Mc (e + 8) at_ (some a)) (e + 9) at_ (some c)) (e + 9) s = _
      by_cases z : s = at_
      · subst z; rw [zR_sR1, if_pos rfl]
      · rw [zR_sR2 _ _ _ _ z, if_neg z, zR_sRo _ _ _ _ (show e + 9 ≠ e + 8 by omega), hk.2.2.2.2, (hv.2 s).2]
    rw [e8, e9]
    by_cases z : s = at_
    · subst z
      rw [if_pos rfl, if_pos rfl]
      exact ⟨⟨a, rfl, ra.fr k2.1 (Nat.le_refl _)⟩, c, rfl, rc.fr k2.1 (Nat.le_refl _)⟩
    · rw [if_neg z, if_neg z]
      have eg : gI (q 0) at_ s = dn at_ s := by unfold gI dn; split <;> split <;> omega
      rw [eg]
      have hdn : dn at_ s < q 0 := by unfold dn; split <;> omega
      obtain ⟨a2, r1, r2⟩ := hd.s hdn
      obtain ⟨c2, r3, r4⟩ := hd.c hdn
      exact ⟨⟨a2, r1, (r2.fr kk.1 (Nat.le_refl _)).ext fun f hf => (po s hsn z f (by omega)).symm⟩, c2, r3, (r4.fr kk.1 (Nat.le_refl _)).ext hs fun f hf => (po s hsn z f hf).symm⟩
/-- the end of both, as the walks have it -/
def EnE2 (e e8 a c : Nat) (x : Int32) (P : Int32 → Mm → Prop) (M : Mm) : Prop := ∀ M26, M26 = sR M e8 x.toNatClampNeg (some a) → (zk M26 e = 8 ∧ ∃ a27, zR M26 e 15 = some a27 ∧ zk M26 a27 = 15 ∧ zk M26 c = 14 ∧ vp_in x (zl M26 a27) ∧ (∀ M28, M28 = sR M26 a27 x.toNatClampNeg (some c) → zk M28 e = 8 ∧ zk M28 e = 8 ∧ (∀ M30, M30 = sI M28 e 6 ((zI M28 e 6) + (1 : Int32)) → P x M30)))
theorem s_EnE (hs : SB sg) (h : SI e sg q M) {at_ a c : Nat} {Mb Mc : Mm} (hat : at_ ≤ q 0) (hq : q 0 < 20) (hv : Mv e (gI (q 0) at_) M Mb) (hk : KpC e Mb Mc) (p0 : pl 0 = q 0 + 1) (pk : ∀ p, p < sg 2 → pl (1 + p) = q (1 + p)) (po : ∀ k, k < pl 0 → k ≠ at_ → ∀ f, f < 34 → oS pl k f = oS q (dn at_ k) f) (ra : Row e a 4 (fun f => oS pl at_ f) Mc) (rc : Cv e c sg pl at_ Mc) (P : Int32 → Mm → Prop)
    (K : ∀ M', KpS e M M' → SI e sg pl M' → P (nI at_) M') : EnE2 e (e + 8) a c (nI at_) P Mc := by
  obtain ⟨k1, k2⟩ := ins_end hs h hat hq hv hk p0 pk po ra rc
  have h3 := h.2.1.kp (hv.f.g.trans hk.1)
  have n6 : zI Mc e 6 = nI (q 0) := by rw [hk.2.1, hv.f.i]; exact h.2.2.n
  intro M26 hM
  rw [n_cl (by omega)] at hM
  subst hM
  refine ⟨h3.s.1.1, e + 9, by rw [zR_sRo _ _ _ _ (by omega)]; exact h3.s.1.2.2.2.2.2.2.2.2.2, h3.s.2.1.2.2.2.2.2.2.2.2, rc.2.1.1, ?_, fun M28 hM => ?_⟩
  · rw [zl_sR, h3.s.2.2.2.2.2.2.2.2.2.2, n_vp (by omega) (by omega)]; exact True.intro
  · rw [n_cl (by omega)] at hM
    subst hM
    refine ⟨h3.s.1.1, h3.s.1.1, fun M30 hM => ?_⟩
    have e6 : zI (sR (sR Mc (e + 8) at_ (some a)) (e + 9) at_ (some c)) e 6 + (1 : Int32) = nI (q 0 + 1) := by
      show zI Mc e 6 + (1 : Int32) = _
      rw [n6, l_1, nI_add]
    rw [e6] at hM
    subst hM
    exact K _ k1 k2
theorem s_L_back (hs : SB sg) (hb : PB sg q) (h : SI e sg q M) (hq : q 0 < 20) {at_ a c : Nat} (hat : at_ ≤ q 0) (ht : oS pl at_ 0 < 90) (hha : oS pl at_ 1 < 3) (hlo : ∀ k, k < at_ → lx (oS q k 0) (oS q k 1) (oS pl at_ 0) (oS pl at_ 1)) (hhi : ∀ k, at_ ≤ k → k < q 0 → lx (oS pl at_ 0) (oS pl at_ 1) (oS q k 0) (oS q k 1)) (p0 : pl 0 = q 0 + 1) (pk : ∀ p, p < sg 2 → pl (1 + p) = q (1 + p)) (po : ∀ k, k < pl 0 → k ≠ at_ → ∀ f, f < 34 → oS pl k f = oS q (dn at_ k) f) (ra : Row e a 4 (fun f => oS pl at_ f) M) (rc : Cv e c sg pl at_ M) (P : Int32 → Mm → Prop)
    (K : ∀ M', KpS e M M' → SI e sg pl M' → P (nI at_) M') : w_L_back M e a c P := by
  have hd := h.2.2
  have h1 := h.2.1
  refine ⟨h1.s.1.1, ?_⟩
  rw [hd.n]
  have endE : ∀ M', Mv e (gI (q 0) at_) M M' → EnE2 e (e + 8) a c (nI at_) P M' := fun M' hv => s_EnE hs h hat hq hv KpC.rf p0 pk po (ra.f8 hv.f) (rc.f8 hv.f) P K
  have endk : ∀ M', Mv e (gI (q 0) at_) M M' → (zk M' e = 8 ∧ ∃ a25, zR M' e 14 = some a25 ∧ zk M' a25 = 14 ∧ zk M' a = 10 ∧ vp_in (nI at_) (zl M' a25) ∧ EnE2 e a25 a c (nI at_) P M') := fun M' hv => by
    have h3 := h1.kp hv.f.g
    refine ⟨h3.s.1.1, e + 8, h3.s.1.2.2.2.2.2.2.2.2.1, h3.s.2.1.2.2.2.2.2.2.2.1, (ra.f8 hv.f).2.1.1, ?_, ?_⟩
    · rw [h3.s.2.2.2.2.2.2.2.2.2.1, n_vp (by omega) (by omega)]; exact True.intro
    · exact endE M' hv
  have key : ∀ j k, at_ + j = k → k ≤ q 0 → ∀ M', Mv e (gI (q 0) k) M M' → l_L_back_5 P (fun M24 x0_24 x1_24 x2_24 x3_24 => (zk M24 x0_24 = 8 ∧ ∃ a25, zR M24 x0_24 14 = some a25 ∧ zk M24 a25 = 14 ∧ zk M24 x1_24 = 10 ∧ vp_in x3_24 (zl M24 a25) ∧ EnE2 x0_24 a25 x1_24 x2_24 x3_24 P M24)) (j + 1) M' e a c (nI k) := by
    intro j
    induction j with
    | zero =>
      intro k hk hkn M' hv
      have ek : k = at_ := by omega
      subst ek
      have fin := endk M' hv
      rw [l_L_back_5]
      by_cases k0 : k = 0
      · subst k0
        exact ifp (by decide) fin
      · have h3 := h1.kp hv.f.g
        obtain ⟨a2, r1, r2⟩ := hd.s (show k - 1 < q 0 by omega)
        obtain ⟨-, ⟨r3, r4⟩, r5⟩ := r2.f8 hv.f
        obtain ⟨-, ⟨t3, t4⟩, t5⟩ := ra.f8 hv.f
        have r50 : zI M' a2 0 = nI (oS q (k - 1) 0) := r5 0 (by omega)
        have r51 : zI M' a2 1 = nI (oS q (k - 1) 1) := r5 1 (by omega)
        have t50 : zI M' a 0 = nI (oS pl k 0) := t5 0 (by omega)
        have t51 : zI M' a 1 = nI (oS pl k 1) := t5 1 (by omega)
        have p1 : zR M' (e + 8) (k - 1) = some a2 := by rw [(hv.2 (k - 1)).1, gI, if_neg (by omega)]; exact r1
        have lo := hlo (k - 1) (by omega)
        have d := hb.s hs (show k - 1 < q 0 by omega)
        unfold lx at lo
        refine ifn (by rw [l_0, n_leF (by omega) (by omega)]; exact not_false) ?_
        by_cases c1 : oS q (k - 1) 0 < oS pl k 0
        · simp (disch := omega) only [h3.s, p1, r3, r4, r50, t3, t4, t50, l_0, l_1, l_2, l_3, l_4, l_5, l_6, l_7, l_8, l_9, l_10, l_20, l_30, l_31, l_34, l_40, l_65, l_100, l_255, l_11, l_12, l_24, l_600, l_689, l_999, l_120, l_32, nI_add, pk_mul, n_sub, n_leT, n_leF, n_ltT, n_ltF, n_eqT, n_eqF, n_cl, n_vp, fa_andq, fa_orq, fa_xorq, n_shl, n_shr, n_t1, n_t0, n_div, n_m1, not_true_eq_false, Bool.false_eq_true, false_and, Bool.not_false, Bool.not_true, Bool.and_true, Bool.and_false, Bool.false_and, Bool.true_and, true_and, and_true, true_or, or_true, not_false_eq_true, Option.some.injEq, exists_eq_left', forall_eq, ↓reduceIte, Nat.add_zero, Nat.zero_add, and_self]
          exact endE M' hv
        · have c2 : oS q (k - 1) 0 = oS pl k 0 := by omega
          have c3 : oS q (k - 1) 1 < oS pl k 1 := by omega
          simp (disch := omega) only [h3.s, p1, r3, r4, r50, r51, t3, t4, t50, t51, c2, l_0, l_1, l_2, l_3, l_4, l_5, l_6, l_7, l_8, l_9, l_10, l_20, l_30, l_31, l_34, l_40, l_65, l_100, l_255, l_11, l_12, l_24, l_600, l_689, l_999, l_120, l_32, nI_add, pk_mul, n_sub, n_leT, n_leF, n_ltT, n_ltF, n_eqT, n_eqF, n_cl, n_vp, fa_andq, fa_orq, fa_xorq, n_shl, n_shr, n_t1, n_t0, n_div, n_m1, not_true_eq_false, Bool.false_eq_true, false_and, Bool.not_false, Bool.not_true, Bool.and_true, Bool.and_false, Bool.false_and, Bool.true_and, true_and, and_true, true_or, or_true, not_false_eq_true, Option.some.injEq, exists_eq_left', forall_eq, ↓reduceIte, Nat.add_zero, Nat.zero_add, and_self]
          exact endE M' hv
    | succ j ih =>
      intro k hk hkn M' hv
      have h3 := h1.kp hv.f.g
      obtain ⟨a2, r1, r2⟩ := hd.s (show k - 1 < q 0 by omega)
      obtain ⟨-, ⟨r3, r4⟩, r5⟩ := r2.f8 hv.f
      obtain ⟨-, ⟨t3, t4⟩, t5⟩ := ra.f8 hv.f
      have r50 : zI M' a2 0 = nI (oS q (k - 1) 0) := r5 0 (by omega)
      have r51 : zI M' a2 1 = nI (oS q (k - 1) 1) := r5 1 (by omega)
      have t50 : zI M' a 0 = nI (oS pl at_ 0) := t5 0 (by omega)
      have t51 : zI M' a 1 = nI (oS pl at_ 1) := t5 1 (by omega)
      have p1 : zR M' (e + 8) (k - 1) = some a2 := by rw [(hv.2 (k - 1)).1, gI, if_neg (by omega)]; exact r1
      have hi := hhi (k - 1) (by omega) (by omega)
      have d := hb.s hs (show k - 1 < q 0 by omega)
      unfold lx at hi
      have sh := s_shE hs h1 hd hq (k := k) (by omega) hkn hv (fun M2 => l_L_back_5 P (fun M24 x0_24 x1_24 x2_24 x3_24 => (zk M24 x0_24 = 8 ∧ ∃ a25, zR M24 x0_24 14 = some a25 ∧ zk M24 a25 = 14 ∧ zk M24 x1_24 = 10 ∧ vp_in x3_24 (zl M24 a25) ∧ EnE2 x0_24 a25 x1_24 x2_24 x3_24 P M24)) (j + 1) M2 e a c (nI k + (-1 : Int32))) fun M2 v2 => by
        rw [x_m1, n_sub (by omega)]
        exact ih (k - 1) (by omega) (by omega) M2 v2
      generalize hm : j + 1 = m2 at sh ⊢
      rw [l_L_back_5]
      refine ifn (by rw [l_0, n_leF (by omega) (by omega)]; exact not_false) ⟨h3.s.1.1, e + 8, h3.s.1.2.2.2.2.2.2.2.2.1, h3.s.2.1.2.2.2.2.2.2.2.1, ?_, a2, ?_, r3, ?_, t3, ?_, ?_⟩
      · rw [h3.s.2.2.2.2.2.2.2.2.2.1, l_1, n_sub (by omega), n_vp (by omega) (by omega)]; exact True.intro
      · rw [l_1, n_sub (by omega), n_cl (by omega)]; exact p1
      · rw [r4]; exact vp_in_nI (n := 0) (by omega) (by omega)
      · rw [t4]; exact vp_in_nI (n := 0) (by omega) (by omega)
      · rw [show (0 : Int32).toNatClampNeg = 0 from rfl, r50, t50]
        by_cases c1 : oS pl at_ 0 < oS q (k - 1) 0
        · exact ifp (by rw [n_ltT c1 (by omega)]; exact True.intro) sh
        · have c2 : oS q (k - 1) 0 = oS pl at_ 0 := by omega
          refine ifn (by rw [n_ltF (by omega) (by omega)]; exact not_false) ⟨h3.s.1.1, e + 8, h3.s.1.2.2.2.2.2.2.2.2.1, h3.s.2.1.2.2.2.2.2.2.2.1, ?_, a2, ?_, r3, ?_, t3, ?_, ?_⟩
          · rw [h3.s.2.2.2.2.2.2.2.2.2.1, l_1, n_sub (by omega), n_vp (by omega) (by omega)]; exact True.intro
          · rw [l_1, n_sub (by omega), n_cl (by omega)]; exact p1
          · rw [r4]; exact vp_in_nI (n := 0) (by omega) (by omega)
          · rw [t4]; exact vp_in_nI (n := 0) (by omega) (by omega)
          · rw [r50]
            refine ifp (by rw [c2]) ⟨h3.s.1.1, e + 8, h3.s.1.2.2.2.2.2.2.2.2.1, h3.s.2.1.2.2.2.2.2.2.2.1, ?_, a2, ?_, r3, ?_, t3, ?_, ?_⟩
            · rw [h3.s.2.2.2.2.2.2.2.2.2.1, l_1, n_sub (by omega), n_vp (by omega) (by omega)]; exact True.intro
            · rw [l_1, n_sub (by omega), n_cl (by omega)]; exact p1
            · rw [r4]; exact vp_in_nI (n := 1) (by omega) (by omega)
            · rw [t4]; exact vp_in_nI (n := 1) (by omega) (by omega)
            · rw [show (1 : Int32).toNatClampNeg = 1 from rfl, r51, t51]
              exact ifn (by rw [n_leF (by omega) (by omega)]; exact not_false) sh
  exact ⟨q 0 - at_ + 1, key (q 0 - at_) (q 0) (by omega) (Nat.le_refl _) M ⟨FR8.rf, fun j => by rw [gI]; split <;> first | omega | exact ⟨rfl, rfl⟩⟩⟩
end LI
