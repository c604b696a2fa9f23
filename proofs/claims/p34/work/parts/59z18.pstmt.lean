/-! PARSE: a statement, and all of them -/
def stmtL (L : Nat) (bf : Nat → Int32) (s : PS) : Sum (Nat × Nat) PS :=
  if isw L bf s.1 1 = true then hallL L bf s else if isw L bf s.1 2 = true then playerL L bf s else if isw L bf s.1 3 = true then absentL L bf s else if isw L bf s.1 4 = true then workL L bf s
  else if isw L bf s.1 5 = true then doubleL L bf s else Sum.inl (1, tS L bf s.1)
def stmtsL (L : Nat) (bf : Nat → Int32) : Nat → PS → Sum (Nat × Nat) PS
  | 0, _ => Sum.inl (1, 0)
  | f + 1, s => if tK L bf s.1 = 0 then Sum.inr s else match stmtL L bf s with
    | Sum.inl e => Sum.inl e
    | Sum.inr s2 => if tK L bf s2.1 = 3 then stmtsL L bf f (tN L bf s2.1, s2.2) else Sum.inl (1, tS L bf s2.1)
section PST
variable {L p : Nat} {bf : Nat → Int32} {sg ct : Nat → Nat} {nm : Nat → List Nat} {dt : Bool}
theorem hallL_p {s2 : PS} (h : hallL L bf (p, sg, nm, ct, dt) = Sum.inr s2) : tN L bf p ≤ s2.1 := by
  simp only [hallL] at h
  obtain ⟨o, ho⟩ : ∃ o, nmErr L bf p (sg 1) 3 nm = o := ⟨_, rfl⟩
  rw [ho] at h
  match o, h with
  | some e, h => cases h
  | none, h =>
    dsimp only at h
    by_cases c1 : nerr L bf (tN L bf (tN L bf p)) 0 9 = 0
    · rw [if_pos c1] at h
      cases h
      exact Nat.le_trans (tN_ge L bf (tN L bf p)) (tN_ge L bf _)
    · rw [if_neg c1] at h; cases h
theorem absentL_p {s2 : PS} (h : absentL L bf (p, sg, nm, ct, dt) = Sum.inr s2) : tN L bf p ≤ s2.1 := by
  simp only [absentL] at h
  by_cases c1 : tK L bf (tN L bf p) = 1
  · rw [if_pos c1] at h
    by_cases c2 : nin (fun k => nm (8 + k)) (sg 2) (tW L bf (tN L bf p)) < sg 2
    · rw [if_pos c2] at h
      by_cases c3 : nerr L bf (tN L bf (tN L bf p)) 0 (sg 0 - 1) = 0
      · rw [if_pos c3] at h
        by_cases c4 : (oP sg (nin (fun k => nm (8 + k)) (sg 2) (tW L bf (tN L bf p))) 1).testBit (tV L bf (tN L bf (tN L bf p))) = true
        · rw [if_pos c4] at h; cases h
        · rw [if_neg c4] at h
          cases h
          exact Nat.le_trans (tN_ge L bf (tN L bf p)) (tN_ge L bf _)
      · rw [if_neg c3] at h; cases h
    · rw [if_neg c2] at h; cases h
  · rw [if_neg c1] at h; cases h
theorem doubleL_p {s2 : PS} (h : doubleL L bf (p, sg, nm, ct, dt) = Sum.inr s2) : tN L bf p ≤ s2.1 := by
  simp only [doubleL] at h
  by_cases c : dt = true
  · rw [if_pos c] at h; cases h
  · rw [if_neg c] at h
    by_cases c2 : nerr L bf (tN L bf p) 0 999 = 0
    · rw [if_pos c2] at h
      cases h
      exact tN_ge L bf _
    · rw [if_neg c2] at h; cases h
theorem isw_k {i : Nat} (h : isw L bf p i = true) : tK L bf p = 1 := by
  unfold isw at h
  exact (of_decide_eq_true h).1
theorem stmtL_ok (hby : ∀ i, i < L → (bf i).toInt8.toInt32 = bf i) {s s2 : PS} (ok : PSok s L) (h : stmtL L bf s = Sum.inr s2) : PSok s2 L ∧ s.1 < s2.1 := by
  obtain ⟨p, sg, nm, ct, dt⟩ := s
  unfold stmtL at h
  dsimp only at h ⊢
  by_cases c1 : isw L bf p 1 = true
  · rw [if_pos c1] at h
    have := tN_gt (L := L) (bf := bf) (p := p) (by rw [isw_k c1]; omega)
    exact ⟨hallL_ok hby ok h, Nat.lt_of_lt_of_le this (hallL_p h)⟩
  · rw [if_neg c1] at h
    by_cases c2 : isw L bf p 2 = true
    · rw [if_pos c2] at h
      have := tN_gt (L := L) (bf := bf) (p := p) (by rw [isw_k c2]; omega)
      exact ⟨(playerL_ok hby ok h).1, Nat.lt_of_lt_of_le this (playerL_ok hby ok h).2⟩
    · rw [if_neg c2] at h
      by_cases c3 : isw L bf p 3 = true
      · rw [if_pos c3] at h
        have := tN_gt (L := L) (bf := bf) (p := p) (by rw [isw_k c3]; omega)
        exact ⟨absentL_ok ok h, Nat.lt_of_lt_of_le this (absentL_p h)⟩
      · rw [if_neg c3] at h
        by_cases c4 : isw L bf p 4 = true
        · rw [if_pos c4] at h
          have := tN_gt (L := L) (bf := bf) (p := p) (by rw [isw_k c4]; omega)
          exact ⟨(workL_ok hby ok h).1, Nat.lt_of_lt_of_le this (workL_ok hby ok h).2⟩
        · rw [if_neg c4] at h
          by_cases c5 : isw L bf p 5 = true
          · rw [if_pos c5] at h
            have := tN_gt (L := L) (bf := bf) (p := p) (by rw [isw_k c5]; omega)
            exact ⟨doubleL_ok ok h, Nat.lt_of_lt_of_le this (doubleL_p h)⟩
          · rw [if_neg c5] at h; cases h
theorem PSok.adv {q : Nat} (ok : PSok (p, sg, nm, ct, dt) L) (hq : q ≤ L) : PSok (q, sg, nm, ct, dt) L := by
  obtain ⟨hp, r⟩ := ok
  exact ⟨hq, r⟩
theorem stmtsL_ok (hby : ∀ i, i < L → (bf i).toInt8.toInt32 = bf i) : ∀ (f : Nat) (s s2 : PS), PSok s L → stmtsL L bf f s = Sum.inr s2 → PSok s2 L := by
  intro f
  induction f with
  | zero => intro s s2 ok h; cases h
  | succ f ih =>
    intro s s2 ok h
    simp only [stmtsL] at h
    by_cases c0 : tK L bf s.1 = 0
    · rw [if_pos c0] at h
      cases h
      exact ok
    · rw [if_neg c0] at h
      obtain ⟨r, hr⟩ : ∃ r, stmtL L bf s = r := ⟨_, rfl⟩
      rw [hr] at h
      match r, hr, h with
      | Sum.inl e, hr, h => cases h
      | Sum.inr s3, hr, h =>
        have o3 := (stmtL_ok hby ok hr).1
        obtain ⟨p3, sg3, nm3, ct3, dt3⟩ := s3
        dsimp only at h
        by_cases c1 : tK L bf p3 = 3
        · rw [if_pos c1] at h
          exact ih _ s2 (o3.adv (tN_le L bf o3.1)) h
        · rw [if_neg c1] at h; cases h
end PST
section PSC
variable {x y z sp L : Nat} {bf : Nat → Int32} {M : Mm}
theorem CPS.adv {p q : Nat} {sg ct : Nat → Nat} {nm : Nat → List Nat} {dt : Bool} {M' : Mm} (h : CPS x y z sp L bf (p, sg, nm, ct, dt) M) (f : FrJ y (fun b => b = y) M M') (h2 : PCx x y z sp L bf M') (t : RT y L bf q M') : CPS x y z sp L bf (q, sg, nm, ct, dt) M' := by
  obtain ⟨hc, tt, z2, z3, hS, hNm, hct, hdt, hf1, hf2⟩ := h
  have d := hc.2.2.2
  have fq : FQ (fun b => b = y) M M' := fq_J f rfl
  have sea : CSea sp sg M' := by
    refine ⟨h2.2.2.1, ?_⟩
    rw [fq.i (b := sp) (by omega), fq.i (b := sp + 1) (by omega), fq.i (b := sp + 3) (by omega), fq.i (b := sp + 4) (by omega), fq.i (b := sp + 7) (by omega), fq.i (b := sp + 8) (by omega), fq.i (b := sp + 9) (by omega), fq.i (b := sp + 10) (by omega), fq.i (b := sp + 11) (by omega), fq.i (b := sp + 13) (by omega), fq.i (b := sp + 15) (by omega), fq.i (b := sp + 16) (by omega), fq.i (b := sp + 17) (by omega), fq.i (b := sp + 18) (by omega), fq.i (b := sp + 19) (by omega), fq.i (b := sp + 20) (by omega)]
    exact hS.2
  have names : CNm sp sg nm M' := by
    unfold CNm
    rw [fq.j (b := sp + 2) (by omega), fq.j (b := sp + 5) (by omega), fq.j (b := sp + 12) (by omega), fq.j (b := sp + 14) (by omega)]
    exact hNm
  refine ⟨h2, t, ?_, ?_, sea, names, ?_, ?_, ?_, ?_⟩
  · rw [fq.i (by omega)]; exact z2
  · rw [fq.i (by omega)]; exact z3
  · rw [fq.i (by omega)]; exact hct
  · rw [fq.i (by omega)]; exact hdt
  · rw [fq.i (b := sp + 9) (by omega), fq.i (b := sp + 10) (by omega)]; exact hf1
  · rw [fq.i (by omega)]; exact hf2
theorem s_X3_readStatement {s : PS} (h : CPS x y z sp L bf s M) (ok : PSok s L) (P : Int32 → Mm → Prop)
    (K1 : ∀ s2, stmtL L bf s = Sum.inr s2 → ∀ M', FQ (RPa y z sp) M M' → CPS x y z sp L bf s2 M' → P (nI 1) M')
    (K0 : ∀ c q, stmtL L bf s = Sum.inl (c, q) → ∀ M', FQ (RPa y z sp) M M' → CFl z c q M' → P (nI 0) M') : w_X3_readStatement M z P := by
  obtain ⟨p, sg, nm, ct, dt⟩ := s
  have hc := h.1
  have tt := h.2.1
  have hz := hc.2.1
  have r := hc.1
  have hby : ∀ i, i < L → (bf i).toInt8.toInt32 = bf i := fun i hi => (r.2.2.2.2.2.2.2 i hi).2
  have kb := tK_b (L := L) (bf := bf) (p := p)
  by_cases c1 : tK L bf p = 1
  · have j5 := tt.2.2.2.1 c1
    have eq_ : ∀ i, i < 6 → (lg_cmp (zJ M y 5) (c5 (kw i)) = (0 : Int32)) = (isw L bf p i = true) := fun i hi => by rw [j5, l_0, lg0, isw_c5 hby c1 hi]
    refine ⟨hz.1, y, hz.2.1, r.1, ifp (by rw [tt.2.1, c1]; rfl) ⟨hz.1, y, hz.2.1, r.1, s_X7_codeOf (by omega) M _ ?_⟩⟩
    by_cases d1 : isw L bf p 1 = true
    · have e : stmtL L bf (p, sg, nm, ct, dt) = hallL L bf (p, sg, nm, ct, dt) := by unfold stmtL; rw [if_pos d1]
      rw [e] at K1 K0
      exact ifp ((eq_ 1 (by omega)).mpr d1) ⟨hz.1, s_X3_readHall h ok _ (fun s2 e2 M' f c => ⟨Or.inr rfl, K1 s2 e2 M' f c⟩) fun c q e2 M' f k => ⟨Or.inl rfl, K0 c q e2 M' f k⟩⟩
    · refine ifn (fun w => d1 ((eq_ 1 (by omega)).mp w)) ⟨hz.1, y, hz.2.1, r.1, s_X7_codeOf (by omega) M _ ?_⟩
      by_cases d2 : isw L bf p 2 = true
      · have e : stmtL L bf (p, sg, nm, ct, dt) = playerL L bf (p, sg, nm, ct, dt) := by unfold stmtL; rw [if_neg d1, if_pos d2]
        rw [e] at K1 K0
        exact ifp ((eq_ 2 (by omega)).mpr d2) ⟨hz.1, s_X3_readPlayer h ok _ (fun s2 e2 M' f c => ⟨Or.inr rfl, K1 s2 e2 M' f c⟩) fun c q e2 M' f k => ⟨Or.inl rfl, K0 c q e2 M' f k⟩⟩
      · refine ifn (fun w => d2 ((eq_ 2 (by omega)).mp w)) ⟨hz.1, y, hz.2.1, r.1, s_X7_codeOf (by omega) M _ ?_⟩
        by_cases d3 : isw L bf p 3 = true
        · have e : stmtL L bf (p, sg, nm, ct, dt) = absentL L bf (p, sg, nm, ct, dt) := by unfold stmtL; rw [if_neg d1, if_neg d2, if_pos d3]
          rw [e] at K1 K0
          exact ifp ((eq_ 3 (by omega)).mpr d3) ⟨hz.1, s_X3_readAbsence h ok _ (fun s2 e2 M' f c => ⟨Or.inr rfl, K1 s2 e2 M' f c⟩) fun c q e2 M' f k => ⟨Or.inl rfl, K0 c q e2 M' f k⟩⟩
        · refine ifn (fun w => d3 ((eq_ 3 (by omega)).mp w)) ⟨hz.1, y, hz.2.1, r.1, s_X7_codeOf (by omega) M _ ?_⟩
          by_cases d4 : isw L bf p 4 = true
          · have e : stmtL L bf (p, sg, nm, ct, dt) = workL L bf (p, sg, nm, ct, dt) := by unfold stmtL; rw [if_neg d1, if_neg d2, if_neg d3, if_pos d4]
            rw [e] at K1 K0
            exact ifp ((eq_ 4 (by omega)).mpr d4) ⟨hz.1, s_X3_readWork h ok _ (fun s2 e2 M' f c => ⟨Or.inr rfl, K1 s2 e2 M' f c⟩) fun c q e2 M' f k => ⟨Or.inl rfl, K0 c q e2 M' f k⟩⟩
          · refine ifn (fun w => d4 ((eq_ 4 (by omega)).mp w)) ⟨hz.1, y, hz.2.1, r.1, s_X7_codeOf (by omega) M _ ?_⟩
            by_cases d5 : isw L bf p 5 = true
            · have e : stmtL L bf (p, sg, nm, ct, dt) = doubleL L bf (p, sg, nm, ct, dt) := by unfold stmtL; rw [if_neg d1, if_neg d2, if_neg d3, if_neg d4, if_pos d5]
              rw [e] at K1 K0
              exact ifp ((eq_ 5 (by omega)).mpr d5) ⟨hz.1, s_X3_readDouble h ok _ (fun s2 e2 M' f c => ⟨Or.inr rfl, K1 s2 e2 M' f c⟩) fun c q e2 M' f k => ⟨Or.inl rfl, K0 c q e2 M' f k⟩⟩
            · have e : stmtL L bf (p, sg, nm, ct, dt) = Sum.inl (1, tS L bf p) := by unfold stmtL; rw [if_neg d1, if_neg d2, if_neg d3, if_neg d4, if_neg d5]
              exact ifn (fun w => d5 ((eq_ 5 (by omega)).mp w)) ⟨hz.1, s_X3_fail (c := 1) hc tt _ fun M1 f1 g1 e1 => ⟨Or.inl rfl, K0 1 _ e M1 f1 e1⟩⟩
  · have n_ : ∀ i, ¬ isw L bf p i = true := fun i w => c1 (isw_k w)
    have e : stmtL L bf (p, sg, nm, ct, dt) = Sum.inl (1, tS L bf p) := by unfold stmtL; rw [if_neg (n_ 1), if_neg (n_ 2), if_neg (n_ 3), if_neg (n_ 4), if_neg (n_ 5)]
    exact ⟨hz.1, y, hz.2.1, r.1, ifn (fun u => by rw [tt.2.1, l_1, n_eqF c1 (by omega) (by omega)] at u; exact u) ⟨hz.1, s_X3_fail (c := 1) hc tt _ fun M1 f1 g1 e1 => ⟨Or.inl rfl, K0 1 _ e M1 f1 e1⟩⟩⟩
theorem tK_end {p : Nat} (h : L ≤ p) : tK L bf p = 0 := by
  unfold tK
  rw [if_pos (Nat.le_trans h (tS_ge L bf p))]
theorem s_C_stmts {P K68 : Mm → Prop} : ∀ (f i : Nat) (s : PS) (M : Mm), CPS x y z sp L bf s M → PSok s L → L < s.1 + f → i ≤ s.1 →
    (∀ s2, stmtsL L bf f s = Sum.inr s2 → ∀ M', FQ (RPa y z sp) M M' → CPS x y z sp L bf s2 M' → K68 M') →
    (∀ c q, stmtsL L bf f s = Sum.inl (c, q) → ∀ M', FQ (RPa y z sp) M M' → CFl z c q M' → K68 M') → l_X3_read_21 P K68 (f + 1) M z (nI 1) (nI i) := by
  intro f
  induction f with
  | zero =>
    intro i s M h ok hL
    obtain ⟨p, sg, nm, ct, dt⟩ := s
    have := ok.1
    omega
  | succ f ih =>
    intro i s M h ok hL hi K1 K0
    obtain ⟨p, sg, nm, ct, dt⟩ := s
    have hc := h.1
    have tt := h.2.1
    have hz := hc.2.1
    have r := hc.1
    have l600 : L ≤ 600 := r.2.2.2.2.2.1
    have hp := ok.1
    have kb := tK_b (L := L) (bf := bf) (p := p)
    have hby : ∀ i, i < L → (bf i).toInt8.toInt32 = bf i := fun i hi => (r.2.2.2.2.2.2.2 i hi).2
    dsimp only at hL hi
    have out : ∀ i M3, i < 601 → K68 M3 → ∀ g, l_X3_read_21 P K68 (g + 1) M3 z (nI 0) (nI i) := by
      intro i M3 hi k g
      rw [l_X3_read_21]
      by_cases c : 600 ≤ i
      · exact ifp (nI_le (a := 600) c (by omega)) k
      · exact ifn (nI_ge (b := 600) (show i < 600 by omega) (by decide)) (ifp rfl k)
    rw [l_X3_read_21, nI_1']
    by_cases c6 : 600 ≤ i
    · have k0 : tK L bf p = 0 := tK_end (by omega)
      exact ifp (nI_le (a := 600) c6 (by omega)) (K1 (p, sg, nm, ct, dt) (by simp only [stmtsL, k0, if_true]) M FQ.rf h)
    · refine ifn (nI_ge (b := 600) (show i < 600 by omega) (by decide)) (ifn (by decide) ⟨hz.1, y, hz.2.1, r.1, ?_⟩)
      by_cases c0 : tK L bf p = 0
      · exact ifp (by rw [tt.2.1, c0]; rfl) (K1 (p, sg, nm, ct, dt) (by simp only [stmtsL, c0, if_true]) M FQ.rf h)
      · refine ifn (fun u => by rw [tt.2.1, l_0, n_eqF c0 (by omega) (by omega)] at u; exact u) ⟨hz.1, s_X3_readStatement h ok _ (fun s2 e2 M2 f2 c2 => ifn (by decide) ?_) fun c q e2 M2 f2 k2 => ifp rfl (out (i + 1) M2 (by omega) (K0 c q (by simp only [stmtsL, c0, if_false, e2]) M2 f2 k2) f)⟩
        obtain ⟨ok2, lt2⟩ := stmtL_ok hby ok e2
        obtain ⟨p2, sg2, nm2, ct2, dt2⟩ := s2
        have hp2 := ok2.1
        dsimp only at lt2
        have c2' := c2
        obtain ⟨hc2, t2, -⟩ := c2
        refine ⟨hc2.2.1.1, s_X3_readSemicolon hc2 hp2 t2 _ (fun e3 M3 f3 h3 t3 => ifn (by decide) ?_) fun e3 M3 f3 k3 => ifp rfl (out (i + 1) M3 (by omega) (K0 1 _ (by simp only [stmtsL, c0, if_false, e2, e3]) M3 (f2.trans f3) k3) f)⟩
        have lg := tN_ge L bf p2
        have F3 : FQ (RPa y z sp) M M3 := f2.trans (fq_J f3 (Or.inl rfl))
        refine ih (i + 1) (tN L bf p2, sg2, nm2, ct2, dt2) M3 (c2'.adv f3 h3 t3) (ok2.adv (tN_le L bf hp2)) (by dsimp only; omega) (by dsimp only; omega) (fun s3 e4 M4 f4 c4 => K1 s3 ?_ M4 (F3.trans f4) c4) (fun c q e4 M4 f4 k4 => K0 c q ?_ M4 (F3.trans f4) k4)
        · simp only [stmtsL, c0, if_false, e2, e3, if_true]; exact e4
        · simp only [stmtsL, c0, if_false, e2, e3, if_true]; exact e4
end PSC
