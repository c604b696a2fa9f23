/-! THE LAW'S SERVICES: a new one with its casts -/
/-- the casts of the first k works that are asked for -/
def IT (e c : Nat) (sg : Nat → Nat) (S F k : Nat) (M : Mm) : Prop := (e + 10 ≤ c ∧ c < zn M) ∧ (zk M c = 14 ∧ zl M c = 5) ∧ ∀ v, v < 5 → (v < k ∧ S.testBit v = true → ∃ a, zR M c v = some a ∧ Row e a (oW sg v 4) (bq sg v (oW sg v 4) F) M) ∧ (¬ (v < k ∧ S.testBit v = true) → zR M c v = none)
theorem IT.kp {e c S F k : Nat} {sg : Nat → Nat} {M M' : Mm} (h : IT e c sg S F k M) (f : KpC e M M') : IT e c sg S F k M' := by
  obtain ⟨⟨h1, h2⟩, h3, h4⟩ := h
  obtain ⟨a1, a2, -, -, a5⟩ := f.1.1.sm h2 (by omega)
  refine ⟨⟨h1, Nat.lt_of_lt_of_le h2 f.1.1.1⟩, by rw [a1, a2]; exact h3, fun v hv => ⟨fun q => ?_, fun q => ?_⟩⟩
  · rw [a5]
    obtain ⟨a, r1, r2⟩ := (h4 v hv).1 q
    exact ⟨a, r1, r2.fr f.1.1 (Nat.le_refl _)⟩
  · rw [a5]; exact (h4 v hv).2 q
theorem IT.w {e c S F k a : Nat} {sg : Nat → Nat} {M : Mm} (h : IT e c sg S F k M) (hS : S.testBit k = true) (r : Row e a (oW sg k 4) (bq sg k (oW sg k 4) F) M) : IT e c sg S F (k + 1) (sR M c k (some a)) := by
  obtain ⟨h1, h3, h4⟩ := h
  refine ⟨h1, h3, fun v hv => ⟨fun q => ?_, fun q => ?_⟩⟩
  · by_cases e1 : v = k
    · subst e1
      exact ⟨a, zR_sR1 _ _ _ _, r⟩
    · obtain ⟨a2, r1, r2⟩ := (h4 v hv).1 ⟨by omega, q.2⟩
      exact ⟨a2, by rw [zR_sR2 _ _ _ _ e1]; exact r1, r2⟩
  · by_cases e1 : v = k
    · subst e1
      exact absurd ⟨Nat.lt_succ_self _, hS⟩ q
    · rw [zR_sR2 _ _ _ _ e1]
      exact (h4 v hv).2 fun z => q ⟨by omega, z.2⟩
theorem IT.no {e c S F k : Nat} {sg : Nat → Nat} {M : Mm} (h : IT e c sg S F k M) (hS : ¬ S.testBit k = true) : IT e c sg S F (k + 1) M := by
  obtain ⟨h1, h3, h4⟩ := h
  refine ⟨h1, h3, fun v hv => ⟨fun q => ?_, fun q => ?_⟩⟩
  · have e1 : v ≠ k := fun z => hS (z ▸ q.2)
    exact (h4 v hv).1 ⟨by omega, q.2⟩
  · refine (h4 v hv).2 fun z => q ⟨by omega, z.2⟩
theorem kpc_wr {e c i : Nat} {M0 M : Mm} {v : Option Nat} (h : KpC e M0 M) (hz : e + 10 ≤ zn M0) (hc : zn M0 ≤ c) : KpC e M0 (sR M c i v) := by
  obtain ⟨⟨⟨f1, f2⟩, k⟩, d⟩ := h
  have g : ∀ b, b < zn M0 → zR (sR M c i v) b = zR M b := fun b hb => zR_sRo _ _ _ _ (by omega)
  refine ⟨⟨⟨f1, fun b hb hn => ?_⟩, ?_⟩, ?_⟩
  · rw [g b hb]; exact f2 b hb hn
  · unfold KpE at k ⊢
    obtain ⟨⟨k1, k2, k3⟩, k4, k5⟩ := k
    exact ⟨⟨k1, k2, fun i h1 => by rw [g e (by omega)]; exact k3 i h1⟩, k4, fun i h1 h2 h3 => by rw [g (e + i) (by omega)]; exact k5 i h1 h2 h3⟩
  · unfold KpD at d ⊢
    rw [g (e + 8) (by omega), g (e + 9) (by omega)]; exact d
theorem cW_mono (sg pl : Nat → Nat) (S t b : Nat) {m n : Nat} (h : m ≤ n) : cW sg pl S t b m ≤ cW sg pl S t b n := su_mono h
/-- what a new service costs -/
def comC (sg pl : Nat → Nat) (t S : Nat) : Nat := 2 + cW sg pl S t 4294967295 (sg 3)
section LC
variable {e : Nat} {sg pl : Nat → Nat} {M : Mm}
theorem s_X8_comes_9 (hs : SB sg) (hb : PB sg pl) (hz : e + 10 ≤ zn M) (h : LSt e sg M) (hd : LDy e sg pl M) (h5 : ∀ w, w < sg 3 → oW sg w 4 ≤ 5) {t S c : Nat} (ht : t < 90) (hS : S < 32) (hC : hasC sg S (free sg pl t) = true) (hc : zn M ≤ c) {B S1 : Nat} {x1 x4 : Int32} {P : Int32 → Mm → Prop} {K47 : Mm → Nat → Nat → Nat → Int32 → Int32 → Int32 → Int32 → Nat → Prop}
    (hB : 1 + cW sg pl S t 4294967295 (sg 3) ≤ B) (hS1 : 5 + 5 * cW sg pl S t 4294967295 (sg 3) ≤ S1) {M1 : Mm} (k1 : KpC e M M1) (i1 : IT e c sg S (free sg pl t) 0 M1)
    (K : ∀ M', KpC e M M' → IT e c sg S (free sg pl t) (sg 3) M' → K47 M' (1 + cW sg pl S t 4294967295 (sg 3)) (5 + 5 * cW sg pl S t 4294967295 (sg 3)) e x1 (nI t) (nI S) x4 c) : ∃ n, l_X8_comes_9 B S1 P K47 n M1 (0 + 1) (0 + 5) e x1 (nI t) (nI S) x4 c (0 : Int32) := by
  have b9 := hs.b
  have e0 : plb pl 4294967295 = pl := plb_no hb
  refine ⟨sg 3 + 1, ?_⟩
  have key : ∀ j w, w + j = sg 3 → ∀ M', KpC e M M' → IT e c sg S (free sg pl t) w M' → l_X8_comes_9 B S1 P K47 (j + 1) M' (1 + cW sg pl S t 4294967295 w) (5 + 5 * cW sg pl S t 4294967295 w) e x1 (nI t) (nI S) x4 c (nI w) := by
    intro j
    induction j with
    | zero =>
      intro w hj M' kp it
      have ew : w = sg 3 := by omega
      subst ew
      have h1 := h.kp kp.1
      rw [l_X8_comes_9]
      refine ⟨h1.s.1.1, ifp ?_ (K M' kp it)⟩
      rw [h1.n.2.2.2.1]; exact nI_le (Nat.le_refl _) (by omega)
    | succ j ih =>
      intro w hj M' kp it
      have h1 := h.kp kp.1
      have hd1 := hd.kp kp
      have mono := cW_mono sg pl S t 4294967295 (show w + 1 ≤ sg 3 by omega)
      by_cases c1 : S.testBit w = true
      · have cs_ := cW_s sg pl S t 4294967295 w
        rw [if_pos c1] at cs_
        have step : ∀ M2, KpC e M M2 → IT e c sg S (free sg pl t) (w + 1) M2 → l_X8_comes_9 B S1 P K47 (j + 1) M2 (1 + cW sg pl S t 4294967295 w + ncs sg pl w t 4294967295) (5 + 5 * cW sg pl S t 4294967295 w + 5 * ncs sg pl w t 4294967295) e x1 (nI t) (nI S) x4 c (nI (w + 1)) := fun M2 k2 i2 => by
          have q := ih (w + 1) (by omega) M2 k2 i2
          rw [cs_, Nat.mul_add, ← Nat.add_assoc, ← Nat.add_assoc] at q
          exact q
        generalize hm : j + 1 = m2 at step ⊢
        simp (disch := omega) only [l_X8_comes_9, h1.s, h1.n, c1, l_0, l_1, l_2, l_3, l_4, l_5, l_6, l_7, l_8, l_9, l_10, l_20, l_30, l_31, l_34, l_40, l_65, l_100, l_255, l_11, l_12, l_24, l_600, l_689, l_999, l_120, l_32, nI_add, pk_mul, n_sub, n_leT, n_leF, n_ltT, n_ltF, n_eqT, n_eqF, n_cl, n_vp, fa_andq, fa_orq, fa_xorq, n_shl, n_shr, n_t1, n_t0, n_div, n_m1, not_true_eq_false, Bool.false_eq_true, false_and, Bool.not_false, Bool.not_true, Bool.and_true, Bool.and_false, Bool.false_and, Bool.true_and, true_and, and_true, true_or, or_true, not_false_eq_true, Option.some.injEq, exists_eq_left', forall_eq, ↓reduceIte, Nat.add_zero, Nat.zero_add, and_self]
        refine ⟨ncs sg pl w t 4294967295, 5 * ncs sg pl w t 4294967295, by omega, by omega, s_X8_cast hs hb ⟨Nat.le_trans hz kp.1.1.1, h1, hd1⟩ (by omega) ht (by omega) (h5 w (by omega)) (Nat.le_refl _) (Nat.le_refl _) _ fun o M2 k2 c2 => ?_⟩
        rw [e0] at c2
        cases o with
        | none => exact absurd (hasC_of hC (show w < sg 3 by omega) c1) c2
        | some a =>
          have i2 := it.kp k2
          refine ⟨a, rfl, i2.2.1.1, c2.2.2.1.1, ?_, step _ (kpc_wr (kp.trans k2) hz hc) (i2.w c1 c2.2)⟩
          rw [i2.2.1.2]; exact vp_in_nI (by omega) (by omega)
      · have cs_ := cW_s sg pl S t 4294967295 w
        rw [if_neg c1, Nat.add_zero] at cs_
        have step := ih (w + 1) (by omega) M' kp (it.no c1)
        rw [cs_] at step
        generalize hm : j + 1 = m2 at step ⊢
        simp (disch := omega) only [l_X8_comes_9, h1.s, h1.n, c1, l_0, l_1, l_2, l_3, l_4, l_5, l_6, l_7, l_8, l_9, l_10, l_20, l_30, l_31, l_34, l_40, l_65, l_100, l_255, l_11, l_12, l_24, l_600, l_689, l_999, l_120, l_32, nI_add, pk_mul, n_sub, n_leT, n_leF, n_ltT, n_ltF, n_eqT, n_eqF, n_cl, n_vp, fa_andq, fa_orq, fa_xorq, n_shl, n_shr, n_t1, n_t0, n_div, n_m1, not_true_eq_false, Bool.false_eq_true, false_and, Bool.not_false, Bool.not_true, Bool.and_true, Bool.and_false, Bool.false_and, Bool.true_and, true_and, and_true, true_or, or_true, not_false_eq_true, Option.some.injEq, exists_eq_left', forall_eq, ↓reduceIte, Nat.add_zero, Nat.zero_add, and_self]
        exact step
  have k := key (sg 3) 0 (by omega) M1 k1 i1
  exact k
theorem rN_n {k n b j : Nat} (h : b = zn M) : zR (sN M k n) b j = none := if_pos h
theorem s_X8_comes (hs : SB sg) (hb : PG sg pl) (h : SI e sg pl M) (h5 : ∀ w, w < sg 3 → oW sg w 4 ≤ 5) {t S c ha B S1 : Nat} (ht : t < 90) (hha : ha < 3) (hS : S < 32) (hc : c < 2) (hn : pl 0 < 20) (hne : ∀ s, s < pl 0 → ¬ (oS pl s 0 = t ∧ oS pl s 1 = ha)) (hC : hasC sg S (free sg pl t) = true) (hB : comC sg pl t S ≤ B) (hS1 : 5 * comC sg pl t S ≤ S1) (P : Int32 → Mm → Prop)
    (K : ∀ M', KpS e M M' → SI e sg (cm sg pl (psn pl ha t) t ha S c (free sg pl t)) M' → P (nI (psn pl ha t)) M') : w_X8_comes M e (nI ha) (nI t) (nI S) (nI c) P B S1 := by
  have b9 := hs.b
  have h0 := h
  obtain ⟨hz, h1, hd⟩ := h
  obtain ⟨hlo, hhi⟩ := psn_split hb.2 hne
  have hat : psn pl ha t ≤ pl 0 := fi_le _ _
  unfold comC at hB hS1
  refine ⟨by omega, by omega, by decide, by decide, fun a1 M1 ha1 hM1 => ?_⟩
  have k1 : KpC e M M1 := by subst hM1; exact kpc_N hz
  have i1 : IT e a1 sg S (free sg pl t) 0 M1 := by
    subst hM1 ha1
    refine ⟨⟨hz, by rw [zn_sN]; omega⟩, ⟨kN_n rfl, lN_n rfl⟩, fun v hv => ⟨fun q => absurd q.1 (Nat.not_lt_zero _), fun _ => rN_n rfl⟩⟩
  refine s_X8_comes_9 hs hb.1 hz h1 hd h5 ht hS hC (by omega) (by omega) (by omega) k1 i1 fun M5 k5 i5 => ?_
  have h5_ := h1.kp k5.1
  have hd5 := hd.kp k5
  refine ⟨h5_.s.1.1, s_X8_comes_53 hs hb.1 h5_ hd5 hn ht hha hat hlo hhi fun M29 hv => ?_⟩
  have h29 := h5_.kp hv.f.g
  refine ⟨h29.s.1.1, e + 8, h29.s.1.2.2.2.2.2.2.2.2.1, by omega, by omega, by decide, by decide, fun a31 M31 ha31 hM31 => ?_⟩
  have si5 : SI e sg pl M5 := h0.kp k5
  have z29 : e + 10 ≤ zn M29 := by have := si5.1; rw [hv.f.n]; exact this
  have k31 : KpC e M29 M31 := by subst hM31; exact kpc_N z29
  have r0 : zk M31 a31 = 10 ∧ zl M31 a31 = 4 ∧ a31 < zn M31 ∧ zn M29 ≤ a31 := by
    subst hM31 ha31
    exact ⟨kN_n rfl, lN_n rfl, by rw [zn_sN]; omega, Nat.le_refl _⟩
  obtain ⟨r1, r2, r3, r4⟩ := r0

  have nw : ∀ M35, (∃ vc : Int32, vc = nI c ∧ M35 = sI (sI (sI (sI M31 a31 0 (nI t)) a31 1 (nI ha)) a31 2 vc) a31 3 (nI S)) → EnE2 e (e + 8) a31 a1 (nI (psn pl ha t)) P M35 := by
    rintro M35 ⟨vc, hvc, hM⟩
    have k35 : KpC e M29 M35 := by
      subst hM
      exact kpc_w (kpc_w (kpc_w (kpc_w k31 z29 r4) z29 r4) z29 r4) z29 r4
    have row : Row e a31 4 (fun f => oS (cm sg pl (psn pl ha t) t ha S c (free sg pl t)) (psn pl ha t) f) M35 := by
      subst hM hvc
      refine ⟨⟨by omega, r3⟩, ⟨r1, r2⟩, fun f hf => ?_⟩
      refine Eq.trans ?_ (congrArg nI (cm_at hat (show f < 34 by omega)).symm)
      have e4 : f = 0 ∨ f = 1 ∨ f = 2 ∨ f = 3 := by omega
      rcases e4 with q | q | q | q <;> subst q
      · rw [zI_sI2 _ _ _ _ (by decide), zI_sI2 _ _ _ _ (by decide), zI_sI2 _ _ _ _ (by decide), zI_sI1]; rfl
      · rw [zI_sI2 _ _ _ _ (by decide), zI_sI2 _ _ _ _ (by decide), zI_sI1]; rfl
      · rw [zI_sI2 _ _ _ _ (by decide), zI_sI1]; rfl
      · rw [zI_sI1]; rfl
    have cv : Cv e a1 sg (cm sg pl (psn pl ha t) t ha S c (free sg pl t)) (psn pl ha t) M35 := by
      have i6 : IT e a1 sg S (free sg pl t) (sg 3) M29 := by
        obtain ⟨⟨g1, g2⟩, g3, g4⟩ := i5
        refine ⟨⟨g1, by rw [hv.f.n]; exact g2⟩, by rw [hv.f.k, hv.f.l]; exact g3, fun v hv5 => ⟨fun z => ?_, fun z => ?_⟩⟩
        · rw [hv.f.r (by omega) (by omega)]
          obtain ⟨a, y1, y2⟩ := (g4 v hv5).1 z
          exact ⟨a, y1, y2.f8 hv.f⟩
        · rw [hv.f.r (by omega) (by omega)]; exact (g4 v hv5).2 z
      obtain ⟨g1, g3, g4⟩ := i6.kp k35
      have e3 : oS (cm sg pl (psn pl ha t) t ha S c (free sg pl t)) (psn pl ha t) 3 = S := cm_at hat (by omega)
      refine ⟨g1, g3, fun w hw => ?_⟩
      rw [e3]
      refine ⟨fun z => ?_, fun z => (g4 w hw).2 z⟩
      obtain ⟨a, y1, y2⟩ := (g4 w hw).1 z
      have sc := hs.sc z.1
      refine ⟨a, y1, y2.ext fun j hj => ?_⟩
      rw [cm_at hat (by omega), nb_at z.1 (by omega), nv_ok hC z.1 z.2 hj]
    refine s_EnE hs si5 hat hn hv k35 rfl (fun p hp => cm_k _ _ _ _ _ _ _ _ (by omega) (by omega)) (fun k hk hne2 f hf => cm_dn hk hne2 hf) row cv P fun M' kf si => K M' (k5.1.trans kf) si
  have v4 : ∀ i, i < 4 → vp_in (nI i) 4 := fun i hi => vp_in_nI hi (by omega)
  refine ⟨r1, by rw [r2]; exact v4 0 (by omega), fun M32 hM32 => ?_⟩
  subst hM32
  refine ⟨r1, by rw [zl_sI, r2]; exact v4 1 (by omega), fun M33 hM33 => ?_⟩
  subst hM33
  have c8 : zk M31 (e + 8) = 14 ∧ zl M31 (e + 8) = 20 := by
    have g := h29.kp k31.1
    exact ⟨g.s.2.1.2.2.2.2.2.2.2.1, g.s.2.2.2.2.2.2.2.2.2.1⟩
  by_cases q : c = 0
  · subst q
    refine ifp rfl ⟨r1, by rw [zl_sI, zl_sI, r2]; exact v4 2 (by omega), fun M34 hM34 => ?_⟩
    subst hM34
    refine ⟨r1, by rw [zl_sI, zl_sI, zl_sI, r2]; exact v4 3 (by omega), fun M35 hM35 => ⟨?_, ?_, ?_, ?_⟩⟩
    · subst hM35; exact c8.1
    · subst hM35; exact r1
    · subst hM35
      show vp_in _ (zl M31 (e + 8))
      rw [c8.2]; exact vp_in_nI (by omega) (by omega)
    · exact nw M35 ⟨_, rfl, hM35⟩
  · have q1 : c = 1 := by omega
    subst q1
    refine ifn (by decide) ⟨r1, by rw [zl_sI, zl_sI, r2]; exact v4 2 (by omega), fun M34 hM34 => ?_⟩
    subst hM34
    refine ⟨r1, by rw [zl_sI, zl_sI, zl_sI, r2]; exact v4 3 (by omega), fun M35 hM35 => ⟨?_, ?_, ?_, ?_⟩⟩
    · subst hM35; exact c8.1
    · subst hM35; exact r1
    · subst hM35
      show vp_in _ (zl M31 (e + 8))
      rw [c8.2]; exact vp_in_nI (by omega) (by omega)
    · exact nw M35 ⟨_, rfl, hM35⟩
end LC
