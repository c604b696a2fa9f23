/-! THE SEASON IS BUILT: halls -/
section LS
variable {x ga a e z G : Nat} {st : ST} {n sg ct : Nat → Nat} {t : List Nat} {M : Mm}
theorem hallT_e (t : List Nat) (k v : Nat) : ((((t ++ tc 7) ++ [97 + k]) ++ [32]) ++ dig v) ++ [59] = t ++ hallT k v := by
  unfold hallT
  rw [List.append_assoc, List.append_assoc, List.append_assoc, List.append_assoc]
  rfl
theorem hallS_11 {v : Nat} : hallS sg v 1 = sg 1 + 1 := ups_1 _ _ _
theorem s_hall (y : YL x ga a e st t G M) (h : BSw e z n sg ct M) (hk : sg 1 < 3) (hn : sg 1 < n 1) (hn3 : n 1 ≤ 3) (ht : t.length ≤ 500) {B S1 b s m : Nat} {P : Option Nat → Mm → Prop} {K110 : Mm → Nat → Nat → Nat → Nat → Nat → Prop} (hB : b + 7 ≤ B) (hS1 : s + 7005 ≤ S1)
    (K : ∀ M', YL x ga a e st (t ++ hallT (sg 1) (drw G 3)) (nx G) M' → BSw e z n (hallS sg (drw G 3)) ct M' → l_L_season_52 B S1 P K110 m M' (b + 7) (s + 7005) a ga e (nI (sg 1 + 1))) : l_L_season_52 B S1 P K110 (m + 1) M b s a ga e (nI (sg 1)) := by
  have h1 := h.sh
  have d3 := drw_lt G (show 1 ≤ 3 by omega)
  have l3 := dig3 (v := drw G 3) (by omega)
  have a0 := h.1
  rw [l_L_season_52, show (7 : Nat) = 7 from rfl, h.2.1 1 (by omega)]
  refine ⟨h1.1.1, ifn (nI_ge hn (by omega)) ⟨h1.1.1, e + 1, h1.1.2.1, ?_⟩⟩
  rw [show (3 : Int32) = nI 3 from rfl]
  refine y.dr (by omega) (by omega) _ fun M1 y1 f1 => ?_
  have g1 := h.kb f1
  have s1 := g1.sh
  refine ⟨s1.2.1.1, by rw [s1.2.2.1]; exact vp_in_nI (by omega) (by omega), fun M2 hM => ?_⟩
  rw [nI_clamp (by omega)] at hM
  subst hM
  have y2 := y1.I (c := e + 1) (j := sg 1) (v := nI (drw G 3)) (by omega) (by rw [s1.2.1.1]; decide)
  have g2 := g1.I1 (j := sg 1) (v := nI (drw G 3)) (Nat.le_refl _)
  have g3 := g2.hall (v := drw G 3) (zI_sI1 _ _ _ _) hk
  refine ⟨by omega, by omega, y2.k16, y2.aS (by omega) (by omega) (by omega) _ fun M3 y3 f3 => ⟨a, rfl, by omega, by omega, ?_⟩⟩
  have t3 : (t ++ tc 7).length = t.length + 5 := by rw [List.length_append]; rfl
  refine y3.aN (by omega) (by omega) (by omega) (by omega) _ fun M4 y4 f4 => ⟨a, rfl, by omega, by omega, y4.k16, ?_⟩
  have t4 : ((t ++ tc 7) ++ [97 + sg 1]).length = t.length + 6 := by rw [List.length_append, t3]; rfl
  rw [show (32 : Int32) = nI 32 from rfl]
  refine y4.aC (by omega) (by omega) _ fun M5 y5 f5 => ⟨a, rfl, ?_⟩
  have t5 : (((t ++ tc 7) ++ [97 + sg 1]) ++ [32]).length = t.length + 7 := by rw [List.length_append, t4]; rfl
  have g5 := g3.kb (f3.trans (f4.trans f5))
  have s5 := g5.sh
  have v5 : zI M5 (e + 1) (sg 1) = nI (drw G 3) := by
    have q := g5.2.2.1 (sg 1) (by rw [hallS_11]; omega)
    rw [q]
    congr 1
    unfold hallS
    rw [ups_o _ _ _ (by omega), ups_1]
  refine ⟨s5.1.1, e + 1, s5.1.2.1, s5.2.1.1, by rw [s5.2.2.1]; exact vp_in_nI (by omega) (by omega), by omega, by omega, y5.k16, ?_⟩
  rw [nI_clamp (by omega), v5]
  refine y5.aI (by omega) (by omega) _ fun M6 y6 f6 => ⟨a, rfl, by omega, by omega, y6.k16, ?_⟩
  have t6 : ((((t ++ tc 7) ++ [97 + sg 1]) ++ [32]) ++ dig (drw G 3)).length ≤ t.length + 10 := by rw [List.length_append, t5]; omega
  rw [show (59 : Int32) = nI 59 from rfl]
  refine y6.aC (by omega) (by omega) _ fun M7 y7 f7 => ⟨a, rfl, ?_⟩
  rw [hallT_e] at y7
  have k := K M7 y7 (g5.kb (f6.trans f7))
  rw [show (1 : Int32) = nI 1 from rfl, nI_add]
  exact k
theorem dG_mk (a1 : Nat → Nat) (a2 : Nat → List Nat) (a3 : Nat → Nat) (a4 : List Nat) (g : Nat) : dG (a1, a2, a3, a4, g) = g := Eq.trans rfl rfl
theorem dH_eq (sg : Nat → Nat) (nm : Nat → List Nat) (ct : Nat → Nat) (t : List Nat) (G : Nat) : dH (sg, nm, ct, t, G) = (hallS sg (drw G 3), updN nm (sg 1) [97 + sg 1], ct, t ++ hallT (sg 1) (drw G 3), nx G) := rfl
theorem dN_s (f : DS → DS) (k : Nat) (s : DS) : dN f (k + 1) s = f (dN f k s) := rfl
theorem dN_0 (f : DS → DS) (s : DS) : dN f 0 s = s := rfl
theorem s_halls {d : DS} {N : Nat} (y : YL x ga a e st d.2.2.2.1 (dG d) M) (h : BSw e z n d.1 d.2.2.1 M) (hN : n 1 = N) (hN3 : N ≤ 3) (hh : ∀ k, k ≤ N → (dN dH k d).1 1 = k ∧ (dN dH k d).2.2.2.1.length ≤ 500) {B S1 b s : Nat} {P : Option Nat → Mm → Prop} {K110 : Mm → Nat → Nat → Nat → Nat → Nat → Prop} (hB : b + 7 * N ≤ B) (hS1 : s + 7005 * N ≤ S1)
    (K : ∀ M' b' s', b' ≤ b + 7 * N → s' ≤ s + 7005 * N → YL x ga a e st (dN dH N d).2.2.2.1 (dG (dN dH N d)) M' → BSw e z n (dN dH N d).1 (dN dH N d).2.2.1 M' → K110 M' b' s' a ga e) : ∃ m, l_L_season_52 B S1 P K110 m M b s a ga e (0 : Int32) := by
  refine lpI (fun m (z : Mm × Nat × Nat × Int32) => l_L_season_52 B S1 P K110 m z.1 z.2.1 z.2.2.1 a ga e z.2.2.2) (fun k q => YL x ga a e st (dN dH k d).2.2.2.1 (dG (dN dH k d)) q.1 ∧ BSw e z n (dN dH k d).1 (dN dH k d).2.2.1 q.1 ∧ q.2.1 ≤ b + 7 * k ∧ q.2.2.1 ≤ s + 7005 * k ∧ q.2.2.2 = nI k) N (fun m q hq => ?_) (fun m k q hk hq LL => ?_) (M, b, s, 0) ⟨by rw [dN_0]; exact y, by rw [dN_0]; exact h, Nat.le_refl _, Nat.le_refl _, rfl⟩
  · obtain ⟨M1, b1, s1, x3⟩ := q
    obtain ⟨y1, g1, e1, e2, e3⟩ := hq
    simp only at y1 g1 e1 e2 e3
    subst e3
    have k := K M1 b1 s1 e1 e2 y1 g1
    have h1 := g1.sh
    show l_L_season_52 B S1 P K110 (m + 1) M1 b1 s1 a ga e (nI N)
    rw [l_L_season_52, g1.2.1 1 (by omega), hN]
    exact ⟨h1.1.1, ifp (nI_le (Nat.le_refl _) (by omega)) k⟩
  · obtain ⟨M1, b1, s1, x3⟩ := q
    obtain ⟨y1, g1, e1, e2, e3⟩ := hq
    simp only at y1 g1 e1 e2 e3
    subst e3
    obtain ⟨c1, c2⟩ := hh k (by omega)
    show l_L_season_52 B S1 P K110 (m + 1) M1 b1 s1 a ga e (nI k)
    have LL : ∀ M' b' s', YL x ga a e st (dN dH (k + 1) d).2.2.2.1 (dG (dN dH (k + 1) d)) M' → BSw e z n (dN dH (k + 1) d).1 (dN dH (k + 1) d).2.2.1 M' → b' ≤ b + 7 * (k + 1) → s' ≤ s + 7005 * (k + 1) → l_L_season_52 B S1 P K110 m M' b' s' a ga e (nI (k + 1)) := fun M' b' s' u1 u2 u3 u4 => LL (M', b', s', nI (k + 1)) ⟨u1, u2, u3, u4, rfl⟩
    rw [dN_s] at LL
    generalize dN dH k d = d1 at y1 g1 c1 c2 LL
    obtain ⟨sg, nm, ct, t, G⟩ := d1
    rw [dH_eq] at LL
    simp only [dG_mk] at LL y1 g1 c1 c2
    have r := s_hall (P := P) (K110 := K110) (B := B) (S1 := S1) (b := b1) (s := s1) (m := m) y1 g1 (by omega) (by omega) (by omega) c2 (by omega) (by omega) fun M' u1 u2 => by
      rw [c1]
      exact LL M' _ _ u1 u2 (by omega) (by omega)
    rw [c1] at r
    exact r
end LS
