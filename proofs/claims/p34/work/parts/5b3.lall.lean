/-! THE LAW'S SEARCH over the store -/
theorem x_m1 (a : Int32) : a + (-1 : Int32) = a - nI 1 := (Int32.sub_eq_add_neg a (nI 1)).symm
theorem dbl_le (sg : Nat → Nat) (w : Nat) (f : Nat → Nat) : ∀ n, dbl sg w f n ≤ n
  | 0 => Nat.le_refl 0
  | n + 1 => by
    have := dbl_le sg w f n
    have := dbo_le sg (f n) (oW sg w (5 + n))
    rw [dbl_s]; omega
theorem e_X8_all_105 {T : Mm → Nat → Int32 → Int32 → Int32 → Nat → Int32 → (Mm → Prop) → Nat → Nat → Prop} {B S : Nat} {P : Mm → Prop} {K : Mm → Nat → Nat → Nat → Int32 → Int32 → Int32 → Nat → Int32 → Int32 → Int32 → Prop} {M : Mm} {b s x0 c i N p : Nat} {x1 x2 x3 : Int32} {f : Nat → Nat} (can : Bool) (kc : zk M c = 10) (lc : zl M c = N) (hi : i ≤ N) (hN : N < 100) (hp : p < 100) (vc : ∀ j, j < i → zI M c j = nI (f j)) (hf : ∀ j, j < i → f j < 100) :
    (∃ n, l_X8_all_105 T B S P K n M b s x0 x1 x2 x3 c (nI i) (nI p) (bI can) (0 : Int32)) ↔ K M b s x0 x1 x2 x3 c (nI i) (nI p) (bI (can && al (fun k => !decide (f k = p)) i)) := by
  rw [l_0, show bI can = bI (can && al (fun k => !decide (f k = p)) 0) by rw [show al (fun k => !decide (f k = p)) 0 = true from rfl, Bool.and_true]]
  refine lpE (fun n (z : Int32 × Int32) => l_X8_all_105 T B S P K n M b s x0 x1 x2 x3 c (nI i) (nI p) z.1 z.2) (fun k => (bI (can && al (fun k => !decide (f k = p)) k), nI k)) i (fun _ h => h.elim) (fun _ => ?_) (fun n k hk => ?_)
  · simp (disch := omega) only [l_X8_all_105, l_0, l_1, l_2, l_3, l_4, l_5, l_6, l_7, l_8, l_9, l_10, l_20, l_30, l_31, l_34, l_40, l_65, l_100, l_255, l_11, l_12, l_24, l_600, l_689, l_999, l_120, l_32, nI_add, pk_mul, n_sub, n_leT, n_leF, n_ltT, n_ltF, n_eqT, n_eqF, n_cl, n_vp, fa_andq, fa_orq, fa_xorq, n_shl, n_shr, n_t1, n_t0, n_div, n_m1, not_true_eq_false, Bool.false_eq_true, false_and, Bool.not_false, Bool.not_true, Bool.and_true, Bool.and_false, Bool.false_and, Bool.true_and, true_and, and_true, true_or, or_true, not_false_eq_true, Option.some.injEq, exists_eq_left', forall_eq, ↓reduceIte, Nat.add_zero, Nat.zero_add, and_self]
  · have fk := hf k hk
    by_cases q : (can && al (fun k => !decide (f k = p)) k) = true
    · by_cases e : f k = p
      · simp (disch := omega) only [l_X8_all_105, al_s, q, e, kc, lc, vc k hk, bI_0, bI_f, bI_t, ← Bool.and_assoc, decide_true, l_0, l_1, l_2, l_3, l_4, l_5, l_6, l_7, l_8, l_9, l_10, l_20, l_30, l_31, l_34, l_40, l_65, l_100, l_255, l_11, l_12, l_24, l_600, l_689, l_999, l_120, l_32, nI_add, pk_mul, n_sub, n_leT, n_leF, n_ltT, n_ltF, n_eqT, n_eqF, n_cl, n_vp, fa_andq, fa_orq, fa_xorq, n_shl, n_shr, n_t1, n_t0, n_div, n_m1, not_true_eq_false, Bool.false_eq_true, false_and, Bool.not_false, Bool.not_true, Bool.and_true, Bool.and_false, Bool.false_and, Bool.true_and, true_and, and_true, true_or, or_true, not_false_eq_true, Option.some.injEq, exists_eq_left', forall_eq, ↓reduceIte, Nat.add_zero, Nat.zero_add, and_self]
      · simp (disch := omega) only [l_X8_all_105, al_s, q, e, kc, lc, vc k hk, bI_0, bI_f, bI_t, ← Bool.and_assoc, decide_false, l_0, l_1, l_2, l_3, l_4, l_5, l_6, l_7, l_8, l_9, l_10, l_20, l_30, l_31, l_34, l_40, l_65, l_100, l_255, l_11, l_12, l_24, l_600, l_689, l_999, l_120, l_32, nI_add, pk_mul, n_sub, n_leT, n_leF, n_ltT, n_ltF, n_eqT, n_eqF, n_cl, n_vp, fa_andq, fa_orq, fa_xorq, n_shl, n_shr, n_t1, n_t0, n_div, n_m1, not_true_eq_false, Bool.false_eq_true, false_and, Bool.not_false, Bool.not_true, Bool.and_true, Bool.and_false, Bool.false_and, Bool.true_and, true_and, and_true, true_or, or_true, not_false_eq_true, Option.some.injEq, exists_eq_left', forall_eq, ↓reduceIte, Nat.add_zero, Nat.zero_add, and_self]
    · have q2 := b_no q
      simp (disch := omega) only [l_X8_all_105, al_s, q2, bI_0, bI_f, bI_t, ← Bool.and_assoc, l_0, l_1, l_2, l_3, l_4, l_5, l_6, l_7, l_8, l_9, l_10, l_20, l_30, l_31, l_34, l_40, l_65, l_100, l_255, l_11, l_12, l_24, l_600, l_689, l_999, l_120, l_32, nI_add, pk_mul, n_sub, n_leT, n_leF, n_ltT, n_ltF, n_eqT, n_eqF, n_cl, n_vp, fa_andq, fa_orq, fa_xorq, n_shl, n_shr, n_t1, n_t0, n_div, n_m1, not_true_eq_false, Bool.false_eq_true, false_and, Bool.not_false, Bool.not_true, Bool.and_true, Bool.and_false, Bool.false_and, Bool.true_and, true_and, and_true, true_or, or_true, not_false_eq_true, Option.some.injEq, exists_eq_left', forall_eq, ↓reduceIte, Nat.add_zero, Nat.zero_add, and_self]
/-- the search's array and its best -/
def CA (c N : Nat) (M : Mm) : Prop := (zk M c = 10 ∧ zl M c = N) ∧ c < zn M
def RAb (e c N : Nat) (a : AS) (M : Mm) : Prop := match a.1 with
  | none => zR M e 16 = none
  | some f => ∃ b, zR M e 16 = some b ∧ Row e b N f M ∧ b ≠ c ∧ (zI M e 17 = nI a.2 ∧ a.2 ≤ 90)
theorem RAb.n {e c N : Nat} {l : Nat} {M : Mm} (h : zR M e 16 = none) : RAb e c N (none, l) M := h
/-- a seat is written -/
theorem RAb.w {e c N i : Nat} {a : AS} {M : Mm} {v : Int32} (h : RAb e c N a M) (hc : e + 10 ≤ c) : RAb e c N a (sI M c i v) := by
  obtain ⟨o, l⟩ := a
  cases o with
  | none => exact h
  | some f =>
    obtain ⟨b, h1, ⟨h2, h3, h4⟩, h5, h6⟩ := h
    refine ⟨b, h1, ⟨h2, h3, fun j hj => ?_⟩, h5, ?_⟩
    · rw [zI_sIo _ _ _ _ h5]; exact h4 j hj
    · rw [zI_sIo _ _ _ _ (by omega)]; exact h6
theorem kpc_w {e c i : Nat} {M0 M : Mm} {v : Int32} (h : KpC e M0 M) (hz : e + 10 ≤ zn M0) (hc : zn M0 ≤ c) : KpC e M0 (sI M c i v) := by
  obtain ⟨⟨⟨f1, f2⟩, k⟩, d⟩ := h
  have g : ∀ b, b < zn M0 → zI (sI M c i v) b = zI M b := fun b hb => zI_sIo _ _ _ _ (by omega)
  refine ⟨⟨⟨f1, fun b hb hn => ?_⟩, ?_⟩, ?_⟩
  · rw [g b hb]; exact f2 b hb hn
  · unfold KpE at k ⊢
    obtain ⟨⟨k1, k2, k3⟩, k4, k5⟩ := k
    exact ⟨⟨k1, fun i h1 h2 => by rw [g e (by omega)]; exact k2 i h1 h2, k3⟩, k4, fun i h1 h2 h3 => by rw [g (e + i) (by omega)]; exact k5 i h1 h2 h3⟩
  · unfold KpD at d ⊢
    rw [g e (by omega), g (e + 3) (by omega)]; exact d
/-- a cast that is kept -/
theorem st_best {e c N l : Nat} {f : Nat → Nat} {M : Mm} (hz : e + 10 ≤ c) (hc : CA c N M) (vc : ∀ j, j < N → zI M c j = nI (f j)) (hl : l ≤ 90) : KpC e M (sR (sK (sI M e 17 (nI l)) c) e 16 (some (zn M))) ∧ CA c N (sR (sK (sI M e 17 (nI l)) c) e 16 (some (zn M))) ∧ zI (sR (sK (sI M e 17 (nI l)) c) e 16 (some (zn M))) c = zI M c ∧ RAb e c N (some f, l) (sR (sK (sI M e 17 (nI l)) c) e 16 (some (zn M))) := by
  obtain ⟨⟨kc, lc⟩, c1⟩ := hc
  have n1 : zn M = M.1 := rfl
  have kO : ∀ b, b < zn M → zk (sR (sK (sI M e 17 (nI l)) c) e 16 (some (zn M))) b = zk M b := fun b hb => if_neg (show ¬ b = M.1 by omega)
  have lO : ∀ b, b < zn M → zl (sR (sK (sI M e 17 (nI l)) c) e 16 (some (zn M))) b = zl M b := fun b hb => if_neg (show ¬ b = M.1 by omega)
  have iO : ∀ b, b < zn M → zI (sR (sK (sI M e 17 (nI l)) c) e 16 (some (zn M))) b = zI (sI M e 17 (nI l)) b := fun b hb => by funext j; exact if_neg (show ¬ b = M.1 by omega)
  have jO : ∀ b, b < zn M → zJ (sR (sK (sI M e 17 (nI l)) c) e 16 (some (zn M))) b = zJ M b := fun b hb => by funext j; exact if_neg (show ¬ b = M.1 by omega)
  have rO : ∀ b j, b < zn M → zR (sR (sK (sI M e 17 (nI l)) c) e 16 (some (zn M))) b j = if b = e ∧ j = 16 then some (zn M) else zR M b j := fun b j hb => by
    rw [zR_sR]
    by_cases q : b = e ∧ j = 16
    · rw [if_pos q, if_pos q]
    · rw [if_neg q, if_neg q]; exact if_neg (show ¬ b = M.1 by omega)
  have iN : zI (sR (sK (sI M e 17 (nI l)) c) e 16 (some (zn M))) c = zI M c := by rw [iO c c1, zI_sIo _ _ _ _ (by omega)]
  have nN : zn (sR (sK (sI M e 17 (nI l)) c) e 16 (some (zn M))) = zn M + 1 := rfl
  refine ⟨⟨⟨⟨by omega, fun b hb hn => ⟨kO b hb, lO b hb, by rw [iO b hb, zI_sIo _ _ _ _ (by omega)], jO b hb, by funext j; rw [rO b j hb, if_neg (by omega)]⟩⟩, ?_⟩, ?_⟩, ⟨⟨by rw [kO c c1]; exact kc, by rw [lO c c1]; exact lc⟩, by omega⟩, iN, ?_⟩
  · refine ⟨⟨kO e (by omega), fun i h1 h2 => by rw [iO e (by omega), zI_sI2 _ _ _ _ h2], fun i h1 => by rw [rO e i (by omega), if_neg (fun q => h1 q.2)]⟩, fun k h1 h2 => ⟨kO _ (by omega), lO _ (by omega)⟩, fun k h1 h2 _ => ⟨by rw [iO _ (by omega), zI_sIo _ _ _ _ (by omega)], by funext j; rw [rO _ j (by omega), if_neg (by omega)]⟩⟩
  · refine ⟨by rw [iO e (by omega), zI_sI2 _ _ _ _ (by omega)], by rw [iO _ (by omega), zI_sIo _ _ _ _ (by omega)], by funext j; rw [rO _ j (by omega), if_neg (by omega)], by funext j; rw [rO _ j (by omega), if_neg (by omega)]⟩
  · refine ⟨zn M, by rw [rO e 16 (by omega), if_pos ⟨rfl, rfl⟩], ⟨⟨by omega, by omega⟩, ⟨?_, ?_⟩, fun j hj => ?_⟩, by omega, ?_, hl⟩
    · show (if zn M = M.1 then zk M c else zk M (zn M)) = 10
      rw [if_pos n1]; exact kc
    · show (if zn M = M.1 then zl M c else zl M (zn M)) = N
      rw [if_pos n1]; exact lc
    · show (if zn M = M.1 then zI (sI M e 17 (nI l)) c j else zI (sI M e 17 (nI l)) (zn M) j) = nI (f j)
      rw [if_pos n1, zI_sIo _ _ _ _ (by omega)]; exact vc j hj
    · rw [iO e (by omega), zI_sI1]
section LA
variable {e : Nat} {sg pl : Nat → Nat} {M0 : Mm}
theorem s_X8_all (hs : SB sg) (hb : PB sg pl) (hz : e + 10 ≤ zn M0) (h0 : LSt e sg M0) (hd0 : LDy e sg pl M0) {w t b0 c : Nat} (hw : w < sg 3) (ht : t < 90) (hb0 : b0 < 4294967296) (h5 : oW sg w 4 ≤ 5) (hc0 : zn M0 ≤ c) :
    ∀ r d, r < d → ∀ M f (a : AS) F2 (P : Mm → Prop) B S, r ≤ oW sg w 4 → FLf (free sg (plb pl b0) t) f (oW sg w 4 - r) F2 → KpC e M0 M → CA c (oW sg w 4) M → (∀ j, j < oW sg w 4 - r → zI M c j = nI (f j)) → (∀ j, j < oW sg w 4 - r → f j < sg 2) → RAb e c (oW sg w 4) a M → nc sg w r F2 ≤ B → 5 * nc sg w r F2 ≤ S →
      (∀ M', KpC e M0 M' → CA c (oW sg w 4) M' → (∀ j, j < oW sg w 4 - r → zI M' c j = nI (f j)) → RAb e c (oW sg w 4) (alP sg w (free sg (plb pl b0) t) r f a) M' → P M') → w_X8_all d M e (nI w) (nI t) (nI b0) c (nI (oW sg w 4 - r)) P B S := by
  have b := hs.b
  have sc := hs.sc hw
  intro r
  induction r with
  | zero =>
    intro d hd M f a F2 P B S hr hF hk hc vc hf ha hB hS K
    obtain ⟨d, rfl⟩ : ∃ d2, d = d2 + 1 := ⟨d - 1, by omega⟩
    rw [nc] at hB hS
    rw [Nat.sub_zero] at vc hf hF ⊢
    have h1 := h0.kp hk.1
    have e1 : zk M e = 8 := h1.s.1.1
    have dl := dbl_le sg w f (oW sg w 4)
    have ec : e + 10 ≤ c := by omega
    show wf_X8_all (w_X8_all d) M e (nI w) (nI t) (nI b0) c (nI (oW sg w 4)) P B S
    unfold wf_X8_all
    refine ⟨hc.1.1, ?_⟩
    rw [hc.1.2, if_pos rfl]
    refine ⟨e1, (e_X8_doublings hs h1 hw hc.1.1 hc.1.2 vc hf _).mpr ⟨e1, fun a17 h17 => ⟨e1, ?_⟩, fun h17 => ⟨e1, fun M22 hM => ?_⟩⟩⟩
    · obtain ⟨o, l⟩ := a
      cases o with
      | none => rw [show zR M e 16 = none from ha] at h17; cases h17
      | some g =>
        obtain ⟨b, r1, r2, r3, r4, r5⟩ := ha
        simp only at r4 r5
        rw [r4]
        by_cases q : l < dbl sg w f (oW sg w 4)
        · have ea : alP sg w (free sg (plb pl b0) t) 0 f (some g, l) = (some g, l) := by rw [alP]; exact if_pos ⟨rfl, q⟩
          rw [ea] at K
          refine ifn (by rw [n_leF (by omega) (by omega)]; exact not_false) ?_
          exact K M hk hc vc ⟨b, r1, r2, r3, r4, r5⟩
        · have ea : alP sg w (free sg (plb pl b0) t) 0 f (some g, l) = (some f, dbl sg w f (oW sg w 4)) := by rw [alP]; exact if_neg (fun z => q z.2)
          rw [ea] at K
          refine ifp (by rw [n_leT (by omega) (by omega)]; exact True.intro) ⟨e1, fun M19 hM => ?_⟩
          subst hM
          refine ⟨by omega, by omega, hc.1.1, by rw [zl_sI, hc.1.2]; exact h5, fun a20 M20 h20 hM => ?_⟩
          subst hM h20
          obtain ⟨z1, z2, z3, z4⟩ := st_best (e := e) (f := f) ec hc vc (show dbl sg w f (oW sg w 4) ≤ 90 by omega)
          refine ⟨(if_pos rfl).trans hc.1.1, z1.1.2.1.1.trans e1, fun M21 hM => ?_⟩
          subst hM
          exact K _ (hk.trans z1) z2 (fun j hj => by rw [Nat.sub_zero] at hj; exact (congrFun z3 j).trans (vc j hj)) z4
    · have ea : alP sg w (free sg (plb pl b0) t) 0 f a = (some f, dbl sg w f (oW sg w 4)) := by
        obtain ⟨o, l⟩ := a
        cases o with
        | none => rw [alP]; exact if_neg (fun z => by cases z.1)
        | some g =>
          obtain ⟨b, r1, -⟩ := ha
          rw [h17] at r1; cases r1
      rw [ea] at K
      subst hM
      refine ⟨by omega, by omega, hc.1.1, by rw [zl_sI, hc.1.2]; exact h5, fun a20 M20 h20 hM => ?_⟩
      subst hM h20
      obtain ⟨z1, z2, z3, z4⟩ := st_best (e := e) (f := f) ec hc vc (show dbl sg w f (oW sg w 4) ≤ 90 by omega)
      refine ⟨(if_pos rfl).trans hc.1.1, z1.1.2.1.1.trans e1, fun M21 hM => ?_⟩
      subst hM
      exact K _ (hk.trans z1) z2 (fun j hj => by rw [Nat.sub_zero] at hj; exact (congrFun z3 j).trans (vc j hj)) z4
  | succ r ih =>
    intro d hd M f a F2 P B S hr hF hk hc vc hf ha hB hS K
    obtain ⟨d, rfl⟩ : ∃ d2, d = d2 + 1 := ⟨d - 1, by omega⟩
    have h1 := h0.kp hk.1
    have e1 : zk M e = 8 := h1.s.1.1
    have ec : e + 10 ≤ c := by omega
    have ei : oW sg w 4 - (r + 1) + 1 = oW sg w 4 - r := by omega
    show wf_X8_all (w_X8_all d) M e (nI w) (nI t) (nI b0) c (nI (oW sg w 4 - (r + 1))) P B S
    unfold wf_X8_all
    refine ⟨hc.1.1, ?_⟩
    rw [hc.1.2]
    refine ifn (by rw [n_eqF (by omega) (by omega) (by omega)]; exact not_false) ⟨e1, sg 2 + 1, ?_⟩
    rw [h1.n.2.2.1]
    have key : ∀ n m, m = n + 1 → n ≤ sg 2 → ∀ M (a : AS) b1 s1, KpC e M0 M → CA c (oW sg w 4) M → (∀ j, j < oW sg w 4 - (r + 1) → zI M c j = nI (f j)) → RAb e c (oW sg w 4) a M → b1 + su (fun p => if F2.testBit p = true ∧ (kinds sg p).testBit (kr sg w r) = true then nc sg w r (rm F2 (2 ^ p)) else 0) n ≤ B → s1 + 5 * su (fun p => if F2.testBit p = true ∧ (kinds sg p).testBit (kr sg w r) = true then nc sg w r (rm F2 (2 ^ p)) else 0) n ≤ S →
        (∀ M', KpC e M0 M' → CA c (oW sg w 4) M' → (∀ j, j < oW sg w 4 - (r + 1) → zI M' c j = nI (f j)) → RAb e c (oW sg w 4) (fd (fun p a => if okA sg w (free sg (plb pl b0) t) f (oW sg w 4 - (r + 1)) p = true then alP sg w (free sg (plb pl b0) t) r (pfu f (oW sg w 4 - (r + 1)) p) a else a) n a) M' → P M') → l_X8_all_61 (w_X8_all d) B S P (fun M15 b15 s15 => P M15) m M b1 s1 e (nI w) (nI t) (nI b0) c (nI (oW sg w 4 - (r + 1))) (nI n - nI 1) := by
      intro n
      induction n with
      | zero =>
        intro m hm _ M a b1 s1 hk hc vc ha _ _ K
        subst hm
        exact ifp (by decide) (K M hk hc vc ha)
      | succ n ihn =>
        intro m hm hn M a b1 s1 hk hc vc ha hB hS K
        obtain ⟨m, rfl⟩ : ∃ m2, m = m2 + 1 := ⟨n + 1, hm⟩
        have hm2 : m = n + 1 := by omega
        have h1 := h0.kp hk.1
        have hd1 := hd0.kp hk
        have e1 : zk M e = 8 := h1.s.1.1
        obtain ⟨st, t1, -, ⟨t2, t3⟩, t4⟩ := (h1.w hw).2
        have st8 := hs.st hw (show oW sg w 4 - (r + 1) < oW sg w 4 by omega)
        rw [n_sub (by omega), Nat.add_sub_cancel]
        rw [su_s] at hB hS
        have el := okA_el hF n
        have hf8 : ∀ j, j < oW sg w 4 - (r + 1) → f j < 100 := fun j hj => by have := hf j hj; omega
        have rest : ∀ M' a' b1 s1, KpC e M0 M' → CA c (oW sg w 4) M' → (∀ j, j < oW sg w 4 - (r + 1) → zI M' c j = nI (f j)) → RAb e c (oW sg w 4) a' M' → a' = (if okA sg w (free sg (plb pl b0) t) f (oW sg w 4 - (r + 1)) n = true then alP sg w (free sg (plb pl b0) t) r (pfu f (oW sg w 4 - (r + 1)) n) a else a) → b1 + su (fun p => if F2.testBit p = true ∧ (kinds sg p).testBit (kr sg w r) = true then nc sg w r (rm F2 (2 ^ p)) else 0) n ≤ B → s1 + 5 * su (fun p => if F2.testBit p = true ∧ (kinds sg p).testBit (kr sg w r) = true then nc sg w r (rm F2 (2 ^ p)) else 0) n ≤ S →
          l_X8_all_61 (w_X8_all d) B S P (fun M15 b15 s15 => P M15) m M' b1 s1 e (nI w) (nI t) (nI b0) c (nI (oW sg w 4 - (r + 1))) (nI n + (-1 : Int32)) := by
          intro M' a' b1 s1 k1 k2 k3 k4 k5 k6 k7
          rw [x_m1]
          subst k5
          exact ihn m hm2 (by omega) M' _ b1 s1 k1 k2 k3 k4 k6 k7 K
        have skip : okA sg w (free sg (plb pl b0) t) f (oW sg w 4 - (r + 1)) n = false → l_X8_all_61 (w_X8_all d) B S P (fun M15 b15 s15 => P M15) m M b1 s1 e (nI w) (nI t) (nI b0) c (nI (oW sg w 4 - (r + 1))) (nI n + (-1 : Int32)) := fun q => by
          refine rest M a b1 s1 hk hc vc ha (by rw [if_neg (by rw [q]; exact Bool.false_ne_true)]) ?_ ?_ <;> omega
        simp only [l_X8_all_61]
        refine ifn (by rw [l_0, n_ltF (by omega) (by omega)]; exact not_false) ⟨e1, e + 7, h1.s.1.2.2.2.2.2.2.2.1, h1.s.2.1.2.2.2.2.2.2.1, ?_, st, ?_, t2, ?_, e1, ?_⟩
        · rw [h1.s.2.2.2.2.2.2.2.2.1, n_vp (by omega) (by omega)]; exact True.intro
        · rw [n_cl (by omega)]; exact t1
        · rw [t3, n_vp (by omega) (by omega)]; exact True.intro
        rw [n_cl (by omega), t4 _ (by omega)]
        refine (e_X8_plays hs h1 (show n < sg 2 by omega) (show oW sg w (5 + (oW sg w 4 - (r + 1))) < 1073741824 by omega) _).mpr ?_
        by_cases q1 : (kinds sg n).testBit (oW sg w (5 + (oW sg w 4 - (r + 1)))) = true
        · rw [q1]
          refine ifn (by decide) ⟨e1, (e_X8_isFree hs hb h1 hd1 (show n < sg 2 by omega) ht hb0 _).mpr ?_⟩
          have q2 : frB sg pl b0 t n = (free sg (plb pl b0) t).testBit n := frB_free hs (by omega) (by omega)
          rw [q2]
          by_cases q3 : (free sg (plb pl b0) t).testBit n = true
          · rw [q3]
            refine ifn (by decide) ((e_X8_all_105 (N := oW sg w 4) (f := f) true hc.1.1 hc.1.2 (by omega) (by omega) (by omega) vc hf8).mpr ?_)
            by_cases q4 : al (fun k => !decide (f k = n)) (oW sg w 4 - (r + 1)) = true
            · rw [q4]
              have ok : okA sg w (free sg (plb pl b0) t) f (oW sg w 4 - (r + 1)) n = true := by unfold okA; rw [q1, q3, q4]; rfl
              refine ifn (by decide) ⟨hc.1.1, ?_, fun M13 hM => ⟨nc sg w r (rm F2 (2 ^ n)), 5 * nc sg w r (rm F2 (2 ^ n)), ?_, ?_, ?_, ?_⟩⟩
              · rw [hc.1.2, n_vp (by omega) (by omega)]; exact True.intro
              · rw [if_pos (el.mp ok)] at hB; omega
              · rw [if_pos (el.mp ok)] at hS; omega
              · subst hM; exact e1
              · subst hM
                rw [n_cl (by omega), show nI (oW sg w 4 - (r + 1)) + (1 : Int32) = nI (oW sg w 4 - r) by rw [l_1, nI_add, ei]]
                have hF3 := FLf_s n hF
                rw [ei] at hF3
                refine ih d (by omega) _ (pfu f (oW sg w 4 - (r + 1)) n) a (rm F2 (2 ^ n)) _ _ _ (by omega) hF3 (kpc_w hk hz hc0) ⟨hc.1, hc.2⟩ (fun j hj => ?_) (fun j hj => ?_) (ha.w ec) (Nat.le_refl _) (Nat.le_refl _) ?_
                · by_cases ej : j = oW sg w 4 - (r + 1)
                  · rw [ej, pfu_at, zI_sI1]
                  · rw [zI_sI2 _ _ _ _ ej, pfu_lt f n (show j < oW sg w 4 - (r + 1) by omega)]; exact vc j (by omega)
                · by_cases ej : j = oW sg w 4 - (r + 1)
                  · rw [ej, pfu_at]; omega
                  · rw [pfu_lt f n (show j < oW sg w 4 - (r + 1) by omega)]; exact hf j (by omega)
                · intro M' g1 g2 g3 g4
                  rw [if_pos (el.mp ok)] at hB hS
                  refine rest M' _ _ _ g1 g2 (fun j hj => ?_) g4 (by rw [if_pos ok]) ?_ ?_
                  · rw [g3 j (by omega), pfu_lt f n hj]
                  · omega
                  · omega
            · rw [b_no q4]
              refine ifp (by decide) (skip ?_)
              unfold okA; rw [b_no q4, Bool.and_false]
          · rw [b_no q3]
            refine ifp (by decide) ((e_X8_all_105 (N := oW sg w 4) (f := f) false hc.1.1 hc.1.2 (by omega) (by omega) (by omega) vc hf8).mpr ?_)
            refine ifp (by rw [Bool.false_and]; decide) (skip ?_)
            unfold okA; rw [b_no q3, Bool.and_false, Bool.false_and]
        · rw [b_no q1]
          refine ifp (by decide) ((e_X8_all_105 (N := oW sg w 4) (f := f) false hc.1.1 hc.1.2 (by omega) (by omega) (by omega) vc hf8).mpr ?_)
          refine ifp (by rw [Bool.false_and]; decide) (skip ?_)
          unfold okA; rw [b_no q1, Bool.false_and, Bool.false_and]
    refine key (sg 2) (sg 2 + 1) rfl (Nat.le_refl _) M a 0 0 hk hc vc ha ?_ ?_ ?_
    · rw [Nat.zero_add]; exact hB
    · rw [Nat.zero_add]; exact hS
    · intro M' k1 k2 k3 k4
      refine K M' k1 k2 k3 ?_
      rw [alP]; exact k4
/-- what a search costs -/
def ncs (sg pl : Nat → Nat) (w t b : Nat) : Nat := 1 + nc sg w (oW sg w 4) (free sg (plb pl b) t)
/-- the cast that a search answers, in a new row -/
def CRw (e : Nat) (sg : Nat → Nat) (w F : Nat) (M : Mm) (o : Option Nat) : Prop := match o with
  | none => ¬ dm sg w (oW sg w 4) F < 100
  | some a => dm sg w (oW sg w 4) F < 100 ∧ Row e a (oW sg w 4) (bq sg w (oW sg w 4) F) M
theorem kpc_n {e : Nat} {M : Mm} (hz : e + 10 ≤ zn M) : KpC e M (sR M e 16 none) := by
  refine ⟨⟨frg_R (by omega), ⟨rfl, fun _ _ _ => rfl, fun i h => zR_sR2 _ _ _ _ h⟩, fun _ _ _ => ⟨rfl, rfl⟩, fun k _ _ _ => ⟨rfl, zR_sRo _ _ _ _ (by omega)⟩⟩, rfl, rfl, zR_sRo _ _ _ _ (by omega), zR_sRo _ _ _ _ (by omega)⟩
theorem kpc_N {e k n : Nat} {M : Mm} (hz : e + 10 ≤ zn M) : KpC e M (sN M k n) := by
  refine ⟨⟨frg_N, ⟨kN_o (by omega), fun _ _ _ => by rw [iN_o (by omega)], fun i _ => by rw [rN_o (by omega)]⟩, fun _ _ _ => ⟨kN_o (by omega), lN_o (by omega)⟩, fun j _ _ _ => ⟨iN_o (by omega), rN_o (by omega)⟩⟩, by rw [iN_o (by omega)], iN_o (by omega), rN_o (by omega), rN_o (by omega)⟩
theorem s_X8_cast {M : Mm} (hs : SB sg) (hb : PB sg pl) (h : SI e sg pl M) {w t b0 B S : Nat} (hw : w < sg 3) (ht : t < 90) (hb0 : b0 < 4294967296) (h5 : oW sg w 4 ≤ 5) (hB : ncs sg pl w t b0 ≤ B) (hS : 5 * ncs sg pl w t b0 ≤ S) (P : Option Nat → Mm → Prop) (K : ∀ o M', KpC e M M' → CRw e sg w (free sg (plb pl b0) t) M' o → P o M') : w_X8_cast M e (nI w) (nI t) (nI b0) P B S := by
  have b := hs.b
  have sc := hs.sc hw
  obtain ⟨hz, h1, hd⟩ := h
  unfold ncs at hB hS
  refine ⟨h1.s.1.1, fun M1 hM => ?_⟩
  have k1 : KpC e M M1 := by subst hM; exact kpc_n hz
  have h2 := h1.kp k1.1
  have r0 : zR M1 e 16 = none := by subst hM; exact zR_sR1 _ _ _ _
  have z1 : zn M1 = zn M := by subst hM; rfl
  obtain ⟨st, t1, t0, ⟨t2, t3⟩, t4⟩ := (h2.w hw).2
  refine ⟨h2.s.1.1, e + 7, h2.s.1.2.2.2.2.2.2.2.1, h2.s.2.1.2.2.2.2.2.2.1, ?_, st, ?_, t2, by omega, by omega, ?_, ?_, fun a4 M4 h4 hM4 => ⟨nc sg w (oW sg w 4) (free sg (plb pl b0) t), 5 * nc sg w (oW sg w 4) (free sg (plb pl b0) t), by omega, by omega, ?_, ?_⟩⟩
  · rw [h2.s.2.2.2.2.2.2.2.2.1, n_vp (by omega) (by omega)]; exact True.intro
  · rw [n_cl (by omega)]; exact t1
  · rw [t3, l_0, n_ltF (by omega) (by omega)]; exact not_false
  · rw [t3, n_cl (by omega)]; exact h5
  · subst hM4; rw [kN_o (by omega)]; exact h2.s.1.1
  · have k4 : KpC e M1 M4 := by subst hM4; exact kpc_N (by omega)
    have ca : CA a4 (oW sg w 4) M4 := by
      subst hM4 h4
      exact ⟨⟨kN_n rfl, (lN_n rfl).trans (by rw [t3, n_cl (by omega)])⟩, by rw [zn_sN]; omega⟩
    have hF : free sg (plb pl b0) t < 256 := and_lt256 (pres_lt hs (t / 3))
    have e0 : oW sg w 4 - oW sg w 4 = 0 := Nat.sub_self _
    have q := s_X8_all hs hb hz h1 hd (c := a4) hw ht hb0 h5 (by omega) (oW sg w 4) 6 (by omega) M4 (fun _ => 0) (none, 0) (free sg (plb pl b0) t) (fun M5 => zk M5 e = 8 ∧ (∀ a6, zR M5 e 16 = some a6 → P (some a6) M5) ∧ (zR M5 e 16 = none → P none M5)) _ _ (Nat.le_refl _) (by rw [e0]; exact FLf_0 _ hF) (k1.trans k4) ca (fun j hj => absurd hj (by omega)) (fun j hj => absurd hj (by omega)) (RAb.n (by subst hM4; rw [rN_o (by omega)]; exact r0)) (Nat.le_refl _) (Nat.le_refl _) ?_
    · rw [e0] at q
      exact q
    · intro M' g1 g2 g3 g4
      have al_ := alP_all (sg := sg) (w := w) hF (by omega) (fun _ => 0) 0
      refine ⟨(h1.kp g1.1).s.1.1, fun a6 h6 => ?_, fun h6 => ?_⟩
      · refine K _ M' g1 ?_
        by_cases q : dm sg w (oW sg w 4) (free sg (plb pl b0) t) < 100
        · obtain ⟨y1, g, y2, y3⟩ := al_.2 q
          unfold RAb at g4
          rw [y2] at g4
          obtain ⟨b6, x1, x2, -⟩ := g4
          rw [h6] at x1
          cases x1
          exact ⟨q, x2.ext y3⟩
        · have y := al_.1 (by omega)
          unfold RAb at g4
          rw [y] at g4
          rw [h6] at g4; cases g4
      · refine K _ M' g1 ?_
        intro q
        obtain ⟨y1, g, y2, y3⟩ := al_.2 q
        unfold RAb at g4
        rw [y2] at g4
        obtain ⟨b6, x1, -⟩ := g4
        rw [h6] at x1; cases x1
end LA
