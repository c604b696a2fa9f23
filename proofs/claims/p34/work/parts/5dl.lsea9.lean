/-! THE SEASON IS BUILT: the whole walk, stage by stage -/
section LM
variable {x ga a e z : Nat} {st : ST} {n : Nat → Nat} {M : Mm}
theorem stG_c (s : DS) (g : Nat) : ((s.1, s.2.1, s.2.2.1, s.2.2.2.1, g) : DS).2.2.1 = s.2.2.1 := rfl
theorem dnx_c (s : DS) : (dnx s).2.2.1 = s.2.2.1 := stG_c s (nx (dG s))
theorem dnx_G (s : DS) : dG (dnx s) = nx (dG s) := dG_mk s.1 s.2.1 s.2.2.1 s.2.2.2.1 (nx (dG s))
/-- absences and the fee -/
theorem s_sE {s3 s4 s5 : DS} {pp : Nat} (y : YL x ga a e st s3.2.2.2.1 (dG s3) M) (h : BSw e z n s3.1 s3.2.2.1 M) (e4 : dAs pp s3 = s4) (e5 : dE s4 = s5) (hN : n 2 = pp) (hN7 : pp ≤ 7) (hh : ∀ k, k ≤ pp → n 0 = (dAs k s3).1 0 ∧ (1 ≤ (dAs k s3).1 0 ∧ (dAs k s3).1 0 ≤ 7) ∧ (dAs k s3).1 1 ≤ 3 ∧ (dAs k s3).1 2 ≤ 7 ∧ Q2 (dAs k s3).1 ∧ (dAs k s3).2.2.2.1.length ≤ 500) (hn5 : n 5 = s4.1 5) {B S1 b s : Nat} {P : Option Nat → Mm → Prop} (hB : b + 52 ≤ B) (hS1 : s + 53235 ≤ S1)
    (K : ∀ M', YL x ga a e st s5.2.2.2.1 (dG s5) M' → (∃ z' n', BSw e z' n' s5.1 s5.2.2.1 M' ∧ (∀ i, i ≠ 5 → n' i = n i) ∧ n' 5 = s5.1 5) → P (some e) M') : ∃ m, l_L_season_601 B S1 P (fun M127 b127 s127 x0_127 x1_127 x2_127 => FeB B S1 P b127 s127 x0_127 x1_127 x2_127 M127) m M b s a ga e (0 : Int32) := by
  have t4 := (hh pp (Nat.le_refl _)).2.2.2.2.2
  have b7 : 7 * pp ≤ 49 := by omega
  have s7 : 7005 * pp ≤ 49035 := by omega
  refine s_abss y h hN hN7 hh (by omega) (by omega) fun M' b' s' u1 u2 y1 g1 => ?_
  show FeB B S1 P b' s' a ga e M'
  rw [e4] at y1 g1 t4
  clear hh e4 y h
  obtain ⟨sg, nm, ct, t, G⟩ := s4
  simp only [dG_mk] at y1 g1 t4 hn5
  refine s_fee y1 g1 t4 hn5 (by omega) (by omega) (fun q M2 y2 g2 => ?_) (fun q M2 y2 g2 => ?_)
  · rw [dE_y q] at e5
    subst e5
    refine K M2 ?_ ⟨_, _, g2, fun i hi => ups_o _ _ _ hi, ?_⟩
    · rw [dG_mk]; exact y2
    · rw [ups_1]
      show drw (nx G) 50 = ups sg 5 (drw (nx G) 50) 5
      rw [ups_1]
  · rw [dE_n q] at e5
    subst e5
    refine K M2 ?_ ⟨_, _, g2, fun i hi => rfl, hn5⟩
    rw [dG_mk]; exact y2
/-- works -/
theorem s_sD {s2 s3 : DS} {ww : Nat} (y : YL x ga a e st s2.2.2.2.1 (dG s2) M) (h : BSw e z n s2.1 s2.2.2.1 M) (ew : 1 + drw (dG s2) 4 = ww) (e3 : dN dW_ ww (dnx s2) = s3) (hh : ∀ k, k ≤ ww → (dN dW_ k (dnx s2)).1 3 = k ∧ (dN dW_ k (dnx s2)).2.2.2.1.length ≤ 450 ∧ (ups n 3 ww) 0 = (dN dW_ k (dnx s2)).1 0 ∧ (2 ≤ (dN dW_ k (dnx s2)).1 0 ∧ (dN dW_ k (dnx s2)).1 0 ≤ 7) ∧ (ups n 3 ww) 4 = (dN dW_ k (dnx s2)).1 4 ∧ (1 ≤ (dN dW_ k (dnx s2)).1 4 ∧ (dN dW_ k (dnx s2)).1 4 ≤ 4) ∧ (dN dW_ k (dnx s2)).1 1 ≤ 3 ∧ (dN dW_ k (dnx s2)).1 2 ≤ 7 ∧ Q2 (dN dW_ k (dnx s2)).1 ∧ (∀ w, w < k → oW (dN dW_ k (dnx s2)).1 w 4 ≤ 4) ∧ (k < ww → oW (dN dW_ k (dnx s2)).1 k 4 = 0)) {B S1 b s : Nat} {P : Option Nat → Mm → Prop} {K599 : Mm → Nat → Nat → Nat → Nat → Nat → Prop} (hB : b + 124 ≤ B) (hS1 : s + 106548 ≤ S1)
    (K : ∀ M' b' s', b' ≤ b + 124 → s' ≤ s + 106548 → YL x ga a e st s3.2.2.2.1 (dG s3) M' → (∃ z', BSw e z' (ups n 3 ww) s3.1 s3.2.2.1 M') → K599 M' b' s' a ga e) : w_L_draw M ga (4 : Int32) (fun r73 M73 => zk M73 e = 8 ∧ (∀ M74, M74 = sI M73 e 3 ((1 : Int32) + r73) → (∃ n378, l_L_season_378 B S1 P K599 n378 M74 b s a ga e (0 : Int32)))) := by
  rw [show (4 : Int32) = nI 4 from rfl]
  have d4 := drw_lt (dG s2) (show 1 ≤ 4 by omega)
  refine y.dr (by omega) (by omega) _ fun M1 y1 f1 => ?_
  have w4 : ww ≤ 4 := by omega
  have e1 : (1 : Int32) + nI (drw (dG s2) 4) = nI ww := by rw [show (1 : Int32) = nI 1 from rfl, nI_add, ew]
  rw [e1]
  rw [← dnx_G, ← dnx_t s2] at y1
  rw [← dnx_1 s2, ← dnx_c s2] at h
  clear e1 ew d4
  generalize dnx s2 = d2 at y1 h e3 hh
  have g1 := h.kb f1
  refine ⟨g1.sh.1.1, fun M2 hM => ?_⟩
  have a0 := g1.1
  have y2 := y1.I (c := e) (j := 3) (v := nI ww) (Nat.le_refl _) (g1.row9 0 (by omega))
  have g2 := g1.num (i := 3) (v := ww)
  rw [← hM] at y2 g2
  clear hM y1 g1
  have b7 : 31 * ww ≤ 124 := by omega
  have s7 : 26637 * ww ≤ 106548 := by omega
  refine s_works y2 g2 (ups_1 _ _ _) w4 hh (by omega) (by omega) fun M' b' s' u1 u2 y3 g3 => ?_
  rw [e3] at y3 g3
  exact K M' b' s' (by omega) (by omega) y3 g3
/-- players -/
theorem s_sC {s1 s2 : DS} {pp : Nat} (y : YL x ga a e st s1.2.2.2.1 (dG s1) M) (h : BSw e z n s1.1 s1.2.2.1 M) (ew : 2 + drw (dG s1) 6 = pp) (e2 : dN dP pp (dnx s1) = s2) (z2 : s1.1 2 = 0) (hn4 : n 4 = s1.1 4) (hh : ∀ k, k ≤ pp → (dN dP k (dnx s1)).1 2 = k ∧ (dN dP k (dnx s1)).2.2.2.1.length ≤ 500 ∧ (dN dP k (dnx s1)).1 4 ≤ 4 ∧ (dN dP k (dnx s1)).1 1 ≤ 3 ∧ (k < pp → oP (dN dP k (dnx s1)).1 k 1 = 0 ∧ oP (dN dP k (dnx s1)).1 k 2 = 0)) {B S1 b s : Nat} {P : Option Nat → Mm → Prop} {K365 : Mm → Nat → Nat → Nat → Nat → Nat → Prop} (hB : b + 126 ≤ B) (hS1 : s + 107919 ≤ S1)
    (K : ∀ M' b' s', b' ≤ b + 126 → s' ≤ s + 107919 → YL x ga a e st s2.2.2.2.1 (dG s2) M' → (∃ z', BSw e z' (ups (ups n 2 pp) 4 (s2.1 4)) s2.1 s2.2.2.1 M') → Q2 s2.1 → K365 M' b' s' a ga e) : w_L_draw M ga (6 : Int32) (fun r23 M23 => zk M23 e = 8 ∧ (∀ M24, M24 = sI M23 e 2 ((2 : Int32) + r23) → (∃ n124, l_L_season_124 B S1 P K365 n124 M24 b s a ga e (0 : Int32)))) := by
  rw [show (6 : Int32) = nI 6 from rfl]
  have d4 := drw_lt (dG s1) (show 1 ≤ 6 by omega)
  refine y.dr (by omega) (by omega) _ fun M1 y1 f1 => ?_
  have w7 : pp ≤ 7 := by omega
  have e1 : (2 : Int32) + nI (drw (dG s1) 6) = nI pp := by rw [show (2 : Int32) = nI 2 from rfl, nI_add, ew]
  rw [e1]
  rw [← dnx_G, ← dnx_t s1] at y1
  rw [← dnx_1 s1, ← dnx_c s1] at h
  rw [← dnx_1 s1] at z2 hn4
  clear e1 ew d4
  generalize dnx s1 = d1 at y1 h e2 hh z2 hn4
  have g1 := h.kb f1
  refine ⟨g1.sh.1.1, fun M2 hM => ?_⟩
  have a0 := g1.1
  have y2 := y1.I (c := e) (j := 2) (v := nI pp) (Nat.le_refl _) (g1.row9 0 (by omega))
  have g2 := g1.num (i := 2) (v := pp)
  rw [← hM] at y2 g2
  clear hM y1 g1
  have b7 : 18 * pp ≤ 126 := by omega
  have s7 : 15417 * pp ≤ 107919 := by omega
  refine s_plays y2 g2 (ups_1 _ _ _) ?_ w7 (fun p hp => ?_) hh (by omega) (by omega) fun M' b' s' u1 u2 y3 g3 q3 => ?_
  · rw [ups_o _ _ _ (by omega)]; exact hn4
  · rw [z2] at hp
    exact absurd hp (Nat.not_lt_zero _)
  · rw [e2] at y3 g3 q3
    exact K M' b' s' (by omega) (by omega) y3 g3 q3
/-- halls -/
theorem s_sB {s0 s1 : DS} {G hh0 : Nat} (y : YL x ga a e st s0.2.2.2.1 G M) (h : BSw e z n s0.1 s0.2.2.1 M) (ew : 1 + drw G 3 = hh0) (eG : nx G = dG s0) (e2 : dN dH hh0 s0 = s1) (hh : ∀ k, k ≤ hh0 → (dN dH k s0).1 1 = k ∧ (dN dH k s0).2.2.2.1.length ≤ 500) {B S1 b s : Nat} {P : Option Nat → Mm → Prop} {K110 : Mm → Nat → Nat → Nat → Nat → Nat → Prop} (hB : b + 21 ≤ B) (hS1 : s + 21015 ≤ S1)
    (K : ∀ M' b' s', b' ≤ b + 21 → s' ≤ s + 21015 → YL x ga a e st s1.2.2.2.1 (dG s1) M' → BSw e z (ups n 1 hh0) s1.1 s1.2.2.1 M' → K110 M' b' s' a ga e) : w_L_draw M ga (3 : Int32) (fun r9 M9 => zk M9 e = 8 ∧ (∀ M10, M10 = sI M9 e 1 ((1 : Int32) + r9) → (∃ n52, l_L_season_52 B S1 P K110 n52 M10 b s a ga e (0 : Int32)))) := by
  rw [show (3 : Int32) = nI 3 from rfl]
  have d4 := drw_lt G (show 1 ≤ 3 by omega)
  refine y.dr (by omega) (by omega) _ fun M1 y1 f1 => ?_
  have w3 : hh0 ≤ 3 := by omega
  have e1 : (1 : Int32) + nI (drw G 3) = nI hh0 := by rw [show (1 : Int32) = nI 1 from rfl, nI_add, ew]
  rw [e1]
  rw [eG] at y1
  clear e1 ew d4 eG
  have g1 := h.kb f1
  refine ⟨g1.sh.1.1, fun M2 hM => ?_⟩
  have a0 := g1.1
  have y2 := y1.I (c := e) (j := 1) (v := nI hh0) (Nat.le_refl _) (g1.row9 0 (by omega))
  have g2 := g1.num (i := 1) (v := hh0)
  rw [← hM] at y2 g2
  clear hM y1 g1
  have b7 : 7 * hh0 ≤ 21 := by omega
  have s7 : 7005 * hh0 ≤ 21015 := by omega
  refine s_halls y2 g2 (ups_1 _ _ _) w3 hh (by omega) (by omega) fun M' b' s' u1 u2 y3 g3 => ?_
  rw [e2] at y3 g3
  exact K M' b' s' (by omega) (by omega) y3 g3
end LM
