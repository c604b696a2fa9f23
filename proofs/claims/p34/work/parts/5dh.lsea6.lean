/-! THE SEASON IS BUILT: works, whole -/
section LW3
variable {x ga a e z G : Nat} {st : ST} {n sg ct : Nat → Nat} {t : List Nat} {M : Mm}
/-- a row of ints in the making, not yet hung up -/
def RwC (e r L : Nat) (l : List Nat) (M : Mm) : Prop := (e + 10 ≤ r ∧ r < zn M) ∧ (zk M r = 10 ∧ zl M r = L) ∧ ∀ j, j < l.length → zI M r j = nI (l.getD j 0)
theorem RwC.new {L : Nat} (h : e + 10 ≤ zn M) : RwC e (zn M) L [] (sN M 10 L) := ⟨⟨h, Nat.lt_succ_self _⟩, ⟨sNk _ _ _, sNl _ _ _⟩, fun j hj => absurd hj (Nat.not_lt_zero _)⟩
theorem RwC.kb {r L : Nat} {l : List Nat} {M' : Mm} (h : RwC e r L l M) (f : KBw e M M') : RwC e r L l M' := by
  obtain ⟨⟨h2, h3⟩, ⟨h4, h5⟩, h6⟩ := h
  have q := f.2 r (by omega) h3 (by rw [h4]; decide)
  exact ⟨⟨h2, Nat.lt_of_lt_of_le h3 f.1⟩, ⟨by rw [q.1]; exact h4, by rw [q.2.1]; exact h5⟩, by rw [q.2.2.1]; exact h6⟩
theorem RwC.push {r L v : Nat} {l : List Nat} (h : RwC e r L l M) : RwC e r L (l ++ [v]) (sI M r l.length (nI v)) := by
  obtain ⟨h2, h3, h6⟩ := h
  refine ⟨h2, h3, fun j hj => ?_⟩
  rw [List.length_append] at hj
  have hj : j < l.length + 1 := hj
  by_cases c : j = l.length
  · rw [c, zI_sI1, getD_r (Nat.le_refl _), Nat.sub_self]; rfl
  · rw [zI_sI2 _ _ _ _ c, getD_l (by omega)]; exact h6 j (by omega)
theorem RwC.R {r L c j : Nat} {v : Option Nat} {l : List Nat} (h : RwC e r L l M) : RwC e r L l (sR M c j v) := h
theorem RwC.N {r L k m : Nat} {l : List Nat} (h : RwC e r L l M) : RwC e r L l (sN M k m) := by
  have f : FrG (zn M) (zn M) M (sN M k m) := frg_N
  have hr := h.1
  exact h.kb ⟨f.1, fun b _ hb _ => f.2 b hb (by omega)⟩
theorem RwC.hang {r L w : Nat} {l : List Nat} (h : RwC e r L l M) : RwK e w r L l (sR M (e + 7) w (some r)) := ⟨zR_sR1 _ _ _ _, h.1, h.2.1, h.2.2⟩
theorem RwK.row {r L w : Nat} {l : List Nat} (h : RwK e w r L l M) (hl : l.length = L) : Row e r l.length (fun j => l.getD j 0) M := ⟨h.2.1, by rw [hl]; exact h.2.2.1, h.2.2.2⟩
def w4f (A B C D : Nat) : Nat → Nat := fun j => if j = 0 then A else if j = 1 then B else if j = 2 then C else D
theorem RwC.row {r A B C D : Nat} (h : RwC e r 4 [A, B, C, D] M) : Row e r 4 (w4f A B C D) M := ⟨h.1, h.2.1, fun j hj => by
  have q := h.2.2 j hj
  rw [q]
  have j4 : j = 0 ∨ j = 1 ∨ j = 2 ∨ j = 3 := by omega
  rcases j4 with rfl | rfl | rfl | rfl <;> rfl⟩
/-- the row of four is laid -/
theorem s_row4 {r A B C : Nat} (y : YL x ga a e st t G M) (h : BSw e z n sg ct M) (hr : RwC e r 4 [] M) (hz : z ≤ r) {M' : Mm} (hM : M' = sI (sI (sI M r 0 (nI A)) r 1 (nI B)) r 2 (nI C)) : YL x ga a e st t G M' ∧ BSw e z n sg ct M' ∧ RwC e r 4 [A, B, C] M' := by
  subst hM
  have h9 : zk M r ≠ 9 := by rw [hr.2.1.1]; decide
  have hl := hr.1
  exact ⟨((y.I (by omega) h9).I (by omega) h9).I (by omega) h9, ((h.I hz).I hz).I hz, ((hr.push (v := A)).push (v := B)).push (v := C)⟩
theorem s_row4b {r A B C D : Nat} (y : YL x ga a e st t G M) (h : BSw e z n sg ct M) (hr : RwC e r 4 [A, B, C] M) (hz : z ≤ r) {M' : Mm} (hM : M' = sI M r 3 (nI D)) : YL x ga a e st t G M' ∧ BSw e z n sg ct M' ∧ RwC e r 4 [A, B, C, D] M' := by
  subst hM
  have h9 : zk M r ≠ 9 := by rw [hr.2.1.1]; decide
  have hl := hr.1
  exact ⟨y.I (by omega) h9, h.I hz, hr.push (v := D)⟩
theorem workT_e (t : List Nat) (k A B C D : Nat) (l : List Nat) : ((((t ++ tc 9) ++ [97 + k]) ++ numT (w4f A B C D) 4) ++ seatsT l) ++ [59] = t ++ workT k A B C D l := by
  unfold workT
  simp only [List.append_assoc, numT, List.nil_append, List.cons_append]
  rfl
def WkB (B S : Nat) (P : Option Nat → Mm → Prop) (K599 : Mm → Nat → Nat → Nat → Nat → Nat → Prop) (n b s a ga e w : Nat) (M : Mm) : Prop := ((b + 1) + 1) + 1 ≤ B ∧ ((s + 4) + 8) + 1400 ≤ S ∧ zk M a = 16 ∧ w_J4_append_15ec4_AS M a 9 (fun r92 M92 => ∃ a92, r92 = some a92 ∧ (((b + 1) + 1) + 1) + 2 ≤ B ∧ (((s + 4) + 8) + 1400) + 5 ≤ S ∧ w_L_name M92 (nI w) (fun r93 M93 => ∃ a93, r93 = some a93 ∧ ((((b + 1) + 1) + 1) + 2) + 1 ≤ B ∧ ((((s + 4) + 8) + 1400) + 5) + 1400 ≤ S ∧ zk M93 a92 = 16 ∧ w_J4_append_15ec4_AA M93 a92 a93 (fun r94 M94 => ∃ a94, r94 = some a94 ∧ (zk M94 e = 8 ∧ ∃ a95, zR M94 e 12 = some a95 ∧ (zk M94 a95 = 14 ∧ vp_in (nI w) (zl M94 a95) ∧ ∃ a96, zR M94 a95 w = some a96 ∧ zk M94 a96 = 10 ∧ (∃ n494, l_L_season_494 B S P (fun M99 b99 s99 x0_99 x1_99 x2_99 x3_99 => (∃ n529, l_L_season_529 B S P (fun M112 b112 s112 x0_112 x1_112 x2_112 x3_112 => b112 + 1 ≤ B ∧ s112 + 1400 ≤ S ∧ zk M112 x0_112 = 16 ∧ w_J4_append_cf468 M112 x0_112 (59 : Int32) (fun r113 M113 => ∃ a113, r113 = some a113 ∧ l_L_season_378 B S P K599 n M113 (b112 + 1) (s112 + 1400) x0_112 x1_112 x2_112 (x3_112 + (1 : Int32)))) n529 M99 b99 s99 x0_99 x1_99 x2_99 x3_99 (0 : Int32))) n494 M94 (((((b + 1) + 1) + 1) + 2) + 1) (((((s + 4) + 8) + 1400) + 5) + 1400) a ga e (nI w) a96 (nI (zl M94 a96)) (0 : Int32)))))))
theorem s_WkB {w r1 r2 L m4 A B0 C D : Nat} (y : YL x ga a e st t G M) (h : BSw e z n sg ct M) (hr : RwK e w r2 L [] M) (hL : L ≤ 4) (hw : w < 4) (hz : z ≤ r2) (h6 : zR M (e + 6) w = some r1) (q6 : Row e r1 4 (w4f A B0 C D) M) (hf : ∀ k, k < 4 → w4f A B0 C D k < 1000) (hne : r1 ≠ r2) (hn4 : n 4 = m4) (h4 : 1 ≤ m4 ∧ m4 ≤ 4) (ht : t.length ≤ 450) {B S1 b s m : Nat} {P : Option Nat → Mm → Prop} {K599 : Mm → Nat → Nat → Nat → Nat → Nat → Prop} (hB : b + 31 ≤ B) (hS1 : s + 26637 ≤ S1)
    (K : ∀ M' b' s', b' ≤ b + 31 → s' ≤ s + 26637 → YL x ga a e st (t ++ workT w A B0 C D (sts G m4 L)) (nxn G L) M' → BSw e z n sg ct M' → RwK e w r2 L (sts G m4 L) M' → zR M' (e + 6) w = some r1 → Row e r1 4 (w4f A B0 C D) M' → l_L_season_378 B S1 P K599 m M' b' s' a ga e (nI (w + 1))) : WkB B S1 P K599 m b s a ga e w M := by
  unfold WkB
  refine ⟨by omega, by omega, y.k16, y.aS (by omega) (by omega) (by omega) _ fun M1 y1 f1 => ⟨a, rfl, by omega, by omega, ?_⟩⟩
  have t1 : (t ++ tc 9).length = t.length + 5 := by rw [List.length_append]; rfl
  refine y1.aN (by omega) (by omega) ?_ ?_ _ fun M2 y2 f2 => ⟨a, rfl, ?_⟩
  · omega
  · omega
  have t2 : ((t ++ tc 9) ++ [97 + w]).length = t.length + 6 := by rw [List.length_append, t1]; rfl
  have f12 := f1.trans f2
  have g2 := h.kb f12
  have s2 := g2.sh
  have r2' := hr.kb h.sh f12
  have s02 := f12.s h.sh (by have := h.1; omega)
  have u6 : zR M2 (e + 6) w = some r1 := by rw [(s02 6 (by omega)).2.2.2.2]; exact h6
  have v6 : Row e r1 4 (w4f A B0 C D) M2 := q6.sm f12.1 (f12.2 r1 (by have := q6.1; omega) q6.1.2 (by rw [q6.2.1.1]; decide))
  refine ⟨s2.1.1, e + 6, s2.1.2.2.2.2.2.2.1, s2.2.1.2.2.2.2.2.1, by rw [s2.2.2.2.2.2.2.2.1]; exact vp_in_nI (by omega) (by omega), r1, u6, v6.2.1.1, ?_⟩
  rw [v6.2.1.2]
  refine s_nums (r := r1) (f := w4f A B0 C D) hf y2 v6 (by omega) ?_ ?_ fun M3 b3 s3 c1 c2 y3 f3 => ?_
  · omega
  · omega
  have g3 := g2.kb f3
  have r3' := r2'.kb s2 f3
  have s23 := f3.s s2 (by have := g2.1; omega)
  have u63 : zR M3 (e + 6) w = some r1 := by rw [(s23 6 (by omega)).2.2.2.2]; exact u6
  have v63 : Row e r1 4 (w4f A B0 C D) M3 := v6.sm f3.1 (f3.2 r1 (by have := v6.1; omega) v6.1.2 (by rw [v6.2.1.1]; decide))
  have t3 : (((t ++ tc 9) ++ [97 + w]) ++ numT (w4f A B0 C D) 4).length ≤ t.length + 22 := by
    have := numT_l (w4f A B0 C D) hf 4 (by omega)
    rw [List.length_append, t2]
    omega
  have L4 : 4 * L ≤ 16 := by omega
  have L5 : 2805 * L ≤ 11220 := by omega
  refine s_seats (L := L) y3 g3 r3' hL hw hz u63 v63 hne hn4 h4 (by omega) ?_ ?_ fun M4 b4 s4 d1 d2 y4 g4 r4' u64 v64 => ?_
  · omega
  · omega
  have t4 : ((((t ++ tc 9) ++ [97 + w]) ++ numT (w4f A B0 C D) 4) ++ seatsT (sts G m4 L)).length ≤ t.length + 30 := by
    rw [List.length_append, seatsT_len, sts_l]
    omega
  rw [show (59 : Int32) = nI 59 from rfl]
  refine ⟨by omega, by omega, y4.k16, y4.aC (by omega) (by omega) _ fun M5 y5 f5 => ⟨a, rfl, ?_⟩⟩
  rw [workT_e] at y5
  have h4s := g4.sh
  have s45 := f5.s h4s (by have := g4.1; omega)
  rw [show (1 : Int32) = nI 1 from rfl, nI_add]
  refine K M5 _ _ (by omega) (by omega) y5 (g4.kb f5) (r4'.kb h4s f5) ?_ (v64.sm f5.1 (f5.2 r1 (by have := v64.1; omega) v64.1.2 (by rw [v64.2.1.1]; decide)))
  rw [(s45 6 (by omega)).2.2.2.2]; exact u64
/-- one work is drawn -/
theorem s_work {A Bv C D Ev W G1 G2 G3 G4 G5 : Nat} (hA : drw G 2 = A) (hG1 : nx G = G1) (hBv : drw G1 2 = Bv) (hG2 : nx G1 = G2) (hC : drw G2 3 = C) (hG3 : nx G2 = G3) (hD : drw G3 200 = D) (hG4 : nx G3 = G4) (hE : drw G4 4 = Ev) (hG5 : nx G4 = G5) (hW : (if A < sg 0 - 1 - Bv then sg 0 - 1 - Bv else A) = W) (y : YL x ga a e st t G M) (h : BSw e z n sg ct M) (hk : sg 3 < 4) (hn : sg 3 < n 3) (hn4 : n 3 ≤ 4) (hn0 : n 0 = sg 0) (h0 : 2 ≤ sg 0 ∧ sg 0 ≤ 7) (h44 : n 4 = sg 4) (h4 : 1 ≤ sg 4 ∧ sg 4 ≤ 4) (h13 : sg 1 ≤ 3) (hp7 : sg 2 ≤ 7) (hq : Q2 sg) (hw4 : ∀ w, w < sg 3 → oW sg w 4 ≤ 4) (z4 : oW sg (sg 3) 4 = 0) (ht : t.length ≤ 450) {B S1 b s m : Nat} {P : Option Nat → Mm → Prop} {K599 : Mm → Nat → Nat → Nat → Nat → Nat → Prop} (hB : b + 31 ≤ B) (hS1 : s + 26637 ≤ S1)
    (K : ∀ M' b' s', b' ≤ b + 31 → s' ≤ s + 26637 → YL x ga a e st (t ++ workT (sg 3) C A W D (sts G5 (sg 4) (1 + Ev))) (nxn G5 (1 + Ev)) M' → (∃ z', BSw e z' n (wkS sg C A W D (sts G5 (sg 4) (1 + Ev))) ct M') → l_L_season_378 B S1 P K599 m M' b' s' a ga e (nI (sg 3 + 1))) : l_L_season_378 B S1 P K599 (m + 1) M b s a ga e (nI (sg 3)) := by
  have h1 := h.sh
  have a0 := h.1
  have dA : A < 2 := by rw [← hA]; exact drw_lt _ (by omega)
  have dB : Bv < 2 := by rw [← hBv]; exact drw_lt _ (by omega)
  have dC : C < 3 := by rw [← hC]; exact drw_lt _ (by omega)
  have dD : D < 200 := by rw [← hD]; exact drw_lt _ (by omega)
  have dE : Ev < 4 := by rw [← hE]; exact drw_lt _ (by omega)
  have dW : W < 7 := by rw [← hW]; split <;> omega
  rw [l_L_season_378, h.2.1 3 (by omega)]
  refine ⟨h1.1.1, ifn (nI_ge hn (by omega)) ?_⟩
  rw [show (2 : Int32) = nI 2 from rfl]
  refine y.dr (by omega) (by omega) _ fun M1 y1 f1 => ?_
  rw [hA]
  rw [hG1] at y1
  clear hA hG1 y
  have g1 := h.kb f1
  refine ⟨g1.sh.1.1, ?_⟩
  refine y1.dr (by omega) (by omega) _ fun M2 y2 f2 => ?_
  rw [hBv, g1.2.1 0 (by omega), hn0]
  rw [hG2] at y2
  clear hBv hG2 y1
  have g2 := g1.kb f2
  have s2 := g2.sh
  clear g1 f1 f2 h h1
  refine ⟨s2.1.1, e + 6, s2.1.2.2.2.2.2.2.1, by omega, by omega, by decide, by decide, fun r1 M3 hr1 hM3 => ?_⟩
  rw [show (4 : Int32).toNatClampNeg = 4 from rfl] at hM3
  have c3 : e + 10 ≤ zn M2 := by have := g2.1; omega
  have k3 : RwC e (zn M2) 4 [] (sN M2 10 4) := RwC.new c3
  have z3 : z ≤ zn M2 := g2.1.1
  have y3 := y2.N (k := 10) (n := 4)
  have g3 := g2.N (k := 10) (l := 4)
  rw [← hr1] at k3 z3
  rw [← hM3] at k3 y3 g3
  clear hM3 hr1 y2 g2 s2 c3
  rw [show (3 : Int32) = nI 3 from rfl]
  refine y3.dr (by omega) (by omega) _ fun M4 y4 f4' => ?_
  rw [hC]
  rw [hG3] at y4
  clear hC hG3 y3
  have g4 := g3.kb f4'
  have k4 := k3.kb f4'
  clear g3 k3 f4'
  refine ⟨k4.2.1.1, by rw [k4.2.1.2]; exact vp_in_nI (n := 0) (by decide) (by decide), fun M5 hM5 => ?_⟩
  refine ⟨by rw [hM5]; exact k4.2.1.1, by rw [hM5, zl_sI, k4.2.1.2]; exact vp_in_nI (n := 1) (by decide) (by decide), fun M6 hM6 => ?_⟩
  refine ⟨by rw [hM6, hM5]; exact k4.2.1.1, by rw [hM6, hM5, zl_sI, zl_sI, k4.2.1.2]; exact vp_in_nI (n := 2) (by decide) (by decide), fun M7 hM7 => ?_⟩
  have eW : (if nI A < nI (sg 0) - (1 : Int32) - nI Bv then nI (sg 0) - (1 : Int32) - nI Bv else nI A) = nI W := by
    rw [show (1 : Int32) = nI 1 from rfl, n_sub (by omega), n_sub (by omega), ← hW]
    by_cases c : A < sg 0 - 1 - Bv
    · rw [if_pos (nI_lt c (by omega)), if_pos c]
    · rw [if_neg (nI_nlt (by omega) (by omega)), if_neg c]
  rw [eW, show (nI 2).toNatClampNeg = 2 from rfl, hM6, show (1 : Int32).toNatClampNeg = 1 from rfl, hM5, show (0 : Int32).toNatClampNeg = 0 from rfl] at hM7
  clear hM5 hM6 eW
  obtain ⟨y7, g7, k7⟩ := s_row4 y4 g4 k4 z3 hM7
  clear hM7 y4 g4 k4
  rw [show (200 : Int32) = nI 200 from rfl]
  refine y7.dr (by omega) (by omega) _ fun M8 y8 f8 => ?_
  rw [hD]
  rw [hG4] at y8
  clear hD hG4 y7
  have g8 := g7.kb f8
  have k8 := k7.kb f8
  clear g7 k7 f8
  refine ⟨k8.2.1.1, by rw [k8.2.1.2]; exact vp_in_nI (n := 3) (by decide) (by decide), fun M9 hM9 => ?_⟩
  rw [show (nI 3).toNatClampNeg = 3 from rfl] at hM9
  obtain ⟨y9, g9, k9⟩ := s_row4b y8 g8 k8 z3 hM9
  clear hM9 y8 g8 k8
  have s9 := g9.sh
  refine ⟨s9.2.1.2.2.2.2.2.1, k9.2.1.1, by rw [s9.2.2.2.2.2.2.2.1]; exact vp_in_nI (by omega) (by omega), fun M10 hM10 => ?_⟩
  rw [nI_clamp (by omega)] at hM10
  have y10 := y9.R (c := e + 6) (j := sg 3) (v := some r1) (by omega) (g9.row9 6 (by omega))
  have g10 := g9.R6 (j := sg 3) (v := some r1) (Nat.le_refl _)
  have k10 : RwC e r1 4 [C, A, W, D] (sR M9 (e + 6) (sg 3) (some r1)) := k9
  have u10 : zR (sR M9 (e + 6) (sg 3) (some r1)) (e + 6) (sg 3) = some r1 := zR_sR1 _ _ _ _
  rw [← hM10] at y10 g10 k10 u10
  clear hM10 y9 g9 k9 s9
  have s10 := g10.sh
  refine ⟨s10.1.1, e + 7, s10.1.2.2.2.2.2.2.2.1, ?_⟩
  rw [show (4 : Int32) = nI 4 from rfl]
  refine y10.dr (by omega) (by omega) _ fun M11 y11 f11 => ?_
  rw [hE]
  rw [hG5] at y11
  clear hE hG5 y10
  have g11 := g10.kb f11
  have k11 := k10.kb f11
  have u11 : zR M11 (e + 6) (sg 3) = some r1 := by rw [(f11.s s10 (by have := g10.1; omega) 6 (by omega)).2.2.2.2]; exact u10
  clear g10 k10 u10 s10 f11
  have e1 : (1 : Int32) + nI Ev = nI (1 + Ev) := by rw [show (1 : Int32) = nI 1 from rfl, nI_add]
  rw [e1]
  refine ⟨by omega, by omega, nI_nlt (b := 0) (by omega) (by omega), by rw [nI_clamp (by omega)]; omega, fun r2 M12 hr2 hM12 => ?_⟩
  rw [nI_clamp (by omega)] at hM12
  have c12 : e + 10 ≤ zn M11 := by have := g11.1; omega
  have k12 : RwC e (zn M11) (1 + Ev) [] (sN M11 10 (1 + Ev)) := RwC.new c12
  have z12 : z ≤ zn M11 := g11.1.1
  have y12 := y11.N (k := 10) (n := 1 + Ev)
  have g12 := g11.N (k := 10) (l := 1 + Ev)
  have k12b := k11.N (k := 10) (m := 1 + Ev)
  have ne12 : r1 ≠ zn M11 := by have := k11.1; omega
  have u12 : zR (sN M11 10 (1 + Ev)) (e + 6) (sg 3) = some r1 := by
    have f : FrG (zn M11) (zn M11) M11 (sN M11 10 (1 + Ev)) := frg_N
    rw [(f.sm (b := e + 6) (by omega) (by omega)).2.2.2.2]; exact u11
  rw [← hr2] at k12 z12 ne12
  rw [← hM12] at k12 y12 g12 k12b u12
  clear hM12 hr2 y11 g11 k11 u11 c12
  have s12 := g12.sh
  refine ⟨s12.2.1.2.2.2.2.2.2.1, k12.2.1.1, by rw [s12.2.2.2.2.2.2.2.2.1]; exact vp_in_nI (by omega) (by omega), fun M13 hM13 => ?_⟩
  have y13 := y12.R (c := e + 7) (j := sg 3) (v := some r2) (by omega) (g12.row9 7 (by omega))
  have g13 := g12.R7 (j := sg 3) (v := some r2) (Nat.le_refl _)
  have k13 : RwK e (sg 3) r2 (1 + Ev) [] (sR M12 (e + 7) (sg 3) (some r2)) := k12.hang
  have k13b : RwC e r1 4 [C, A, W, D] (sR M12 (e + 7) (sg 3) (some r2)) := k12b
  have u13 : zR (sR M12 (e + 7) (sg 3) (some r2)) (e + 6) (sg 3) = some r1 := by rw [zR_sRo _ _ _ _ (by omega)]; exact u12
  rw [nI_clamp (by omega)] at hM13
  rw [← hM13] at y13 g13 k13 k13b u13
  clear hM13 y12 g12 k12 k12b u12 s12
  rw [nI_clamp (by omega)]
  have lst := sts_l G5 (sg 4) (1 + Ev)
  refine s_WkB (r1 := r1) (L := 1 + Ev) y13 g13 k13 (by omega) hk z12 u13 k13b.row (fun j hj => ?_) ne12 h44 h4 ht hB hS1 fun M' b' s' u1 u2 u3 u4 u5 u6 u7 => ?_
  · have j4 : j = 0 ∨ j = 1 ∨ j = 2 ∨ j = 3 := by omega
    rcases j4 with rfl | rfl | rfl | rfl
    · show C < 1000
      omega
    · show A < 1000
      omega
    · show W < 1000
      omega
    · show D < 1000
      omega
  · refine K M' b' s' u1 u2 u3 ⟨_, u4.work (A := C) (B := A) (C := W) (D := D) (r1 := r1) (r2 := r2) hk h13 hp7 hq (by omega) hw4 z4 u6 u7 u5.1 (u5.row lst)⟩
end LW3
