/-! THE SEASON IS BUILT: the loop of the works -/
section LW4
variable {x ga a e z G : Nat} {st : ST} {n sg ct : Nat → Nat} {t : List Nat} {M : Mm}
theorem sts_m (G m : Nat) : ∀ k, (List.range k).map (fun j => drw (nxn G j) m) = sts G m k := by
  intro k
  induction k with
  | zero => rfl
  | succ k ih => rw [List.range_succ, List.map_append, ih, sts_s]; rfl
theorem wSeats_e (sg : Nat → Nat) (G : Nat) : wSeats sg G = sts (nx (nx (nx (nx (nx G))))) (sg 4) (1 + drw (nx (nx (nx (nx G)))) 4) := by
  unfold wSeats
  exact sts_m _ _ _
theorem wFirst_e (G : Nat) : wFirst G = drw G 2 := rfl
theorem wLast_e (sg : Nat → Nat) (G : Nat) : wLast sg G = if drw G 2 < sg 0 - 1 - drw (nx G) 2 then sg 0 - 1 - drw (nx G) 2 else drw G 2 := rfl
theorem wG_e (G : Nat) : wG G = nxn (nx (nx (nx (nx (nx G))))) (1 + drw (nx (nx (nx (nx G)))) 4) := rfl
theorem dW_e0 (sg : Nat → Nat) (nm : Nat → List Nat) (ct : Nat → Nat) (t : List Nat) (G : Nat) : dW_ (sg, nm, ct, t, G) = (wkS sg (drw (nx (nx G)) 3) (wFirst G) (wLast sg G) (drw (nx (nx (nx G))) 200) (wSeats sg G), updN nm (16 + sg 3) [97 + sg 3], ct, t ++ workT (sg 3) (drw (nx (nx G)) 3) (wFirst G) (wLast sg G) (drw (nx (nx (nx G))) 200) (wSeats sg G), wG G) := rfl
theorem dW_eq {A Bv C D Ev W G1 G2 G3 G4 G5 : Nat} (hA : drw G 2 = A) (hG1 : nx G = G1) (hBv : drw G1 2 = Bv) (hG2 : nx G1 = G2) (hC : drw G2 3 = C) (hG3 : nx G2 = G3) (hD : drw G3 200 = D) (hG4 : nx G3 = G4) (hE : drw G4 4 = Ev) (hG5 : nx G4 = G5) (hW : (if A < sg 0 - 1 - Bv then sg 0 - 1 - Bv else A) = W) (nm : Nat → List Nat) : dW_ (sg, nm, ct, t, G) = (wkS sg C A W D (sts G5 (sg 4) (1 + Ev)), updN nm (16 + sg 3) [97 + sg 3], ct, t ++ workT (sg 3) C A W D (sts G5 (sg 4) (1 + Ev)), nxn G5 (1 + Ev)) := by
  rw [dW_e0, wSeats_e, wFirst_e, wLast_e, wG_e, hA, hG1, hG2, hG3, hG4, hG5, hBv, hC, hD, hE, hW]
theorem s_works {d : DS} {N : Nat} (y : YL x ga a e st d.2.2.2.1 (dG d) M) (h : BSw e z n d.1 d.2.2.1 M) (hN : n 3 = N) (hN4 : N ≤ 4) (hh : ∀ k, k ≤ N → (dN dW_ k d).1 3 = k ∧ (dN dW_ k d).2.2.2.1.length ≤ 450 ∧ n 0 = (dN dW_ k d).1 0 ∧ (2 ≤ (dN dW_ k d).1 0 ∧ (dN dW_ k d).1 0 ≤ 7) ∧ n 4 = (dN dW_ k d).1 4 ∧ (1 ≤ (dN dW_ k d).1 4 ∧ (dN dW_ k d).1 4 ≤ 4) ∧ (dN dW_ k d).1 1 ≤ 3 ∧ (dN dW_ k d).1 2 ≤ 7 ∧ Q2 (dN dW_ k d).1 ∧ (∀ w, w < k → oW (dN dW_ k d).1 w 4 ≤ 4) ∧ (k < N → oW (dN dW_ k d).1 k 4 = 0)) {B S1 b s : Nat} {P : Option Nat → Mm → Prop} {K599 : Mm → Nat → Nat → Nat → Nat → Nat → Prop} (hB : b + 31 * N ≤ B) (hS1 : s + 26637 * N ≤ S1)
    (K : ∀ M' b' s', b' ≤ b + 31 * N → s' ≤ s + 26637 * N → YL x ga a e st (dN dW_ N d).2.2.2.1 (dG (dN dW_ N d)) M' → (∃ z', BSw e z' n (dN dW_ N d).1 (dN dW_ N d).2.2.1 M') → K599 M' b' s' a ga e) : ∃ m, l_L_season_378 B S1 P K599 m M b s a ga e (0 : Int32) := by
  refine lpI (fun m (z : Mm × Nat × Nat × Int32) => l_L_season_378 B S1 P K599 m z.1 z.2.1 z.2.2.1 a ga e z.2.2.2) (fun k q => YL x ga a e st (dN dW_ k d).2.2.2.1 (dG (dN dW_ k d)) q.1 ∧ (∃ z', BSw e z' n (dN dW_ k d).1 (dN dW_ k d).2.2.1 q.1) ∧ q.2.1 ≤ b + 31 * k ∧ q.2.2.1 ≤ s + 26637 * k ∧ q.2.2.2 = nI k) N (fun m q hq => ?_) (fun m k q hk hq LL => ?_) (M, b, s, 0) ⟨by rw [dN_0]; exact y, ⟨z, by rw [dN_0]; exact h⟩, Nat.le_refl _, Nat.le_refl _, rfl⟩
  · obtain ⟨M1, b1, s1, x3⟩ := q
    obtain ⟨y1, ⟨z1, g1⟩, e1, e2, e3⟩ := hq
    simp only at y1 g1 e1 e2 e3
    subst e3
    have k := K M1 b1 s1 e1 e2 y1 ⟨z1, g1⟩
    have h1 := g1.sh
    show l_L_season_378 B S1 P K599 (m + 1) M1 b1 s1 a ga e (nI N)
    rw [l_L_season_378, g1.2.1 3 (by omega), hN]
    exact ⟨h1.1.1, ifp (nI_le (Nat.le_refl _) (by omega)) k⟩
  · obtain ⟨M1, b1, s1, x3⟩ := q
    obtain ⟨y1, ⟨z1, g1⟩, e1, e2, e3⟩ := hq
    simp only at y1 g1 e1 e2 e3
    subst e3
    obtain ⟨c1, c2, c3, c4, c5, c6, c7, c8, c9, c10, c11⟩ := hh k (by omega)
    have c11 := c11 hk
    show l_L_season_378 B S1 P K599 (m + 1) M1 b1 s1 a ga e (nI k)
    have LL : ∀ M' b' s', YL x ga a e st (dN dW_ (k + 1) d).2.2.2.1 (dG (dN dW_ (k + 1) d)) M' → (∃ z', BSw e z' n (dN dW_ (k + 1) d).1 (dN dW_ (k + 1) d).2.2.1 M') → b' ≤ b + 31 * (k + 1) → s' ≤ s + 26637 * (k + 1) → l_L_season_378 B S1 P K599 m M' b' s' a ga e (nI (k + 1)) := fun M' b' s' u1 u2 u4 u5 => LL (M', b', s', nI (k + 1)) ⟨u1, u2, u4, u5, rfl⟩
    rw [dN_s] at LL
    generalize dN dW_ k d = d1 at y1 g1 c1 c2 c3 c4 c5 c6 c7 c8 c9 c10 c11 LL
    obtain ⟨sg, nm, ct, t, G⟩ := d1
    simp only [dG_mk] at y1 g1 c1 c2 c3 c4 c5 c6 c7 c8 c9 c10 c11
    generalize hA : drw G 2 = A
    generalize hG1 : nx G = G1
    generalize hBv : drw G1 2 = Bv
    generalize hG2 : nx G1 = G2
    generalize hC : drw G2 3 = C
    generalize hG3 : nx G2 = G3
    generalize hD : drw G3 200 = D
    generalize hG4 : nx G3 = G4
    generalize hE : drw G4 4 = Ev
    generalize hG5 : nx G4 = G5
    generalize hW : (if A < sg 0 - 1 - Bv then sg 0 - 1 - Bv else A) = W
    rw [dW_eq hA hG1 hBv hG2 hC hG3 hD hG4 hE hG5 hW] at LL
    simp only [dG_mk] at LL
    have e7 : s1 + 26637 ≤ s + 26637 * (k + 1) := by rw [Nat.mul_succ, ← Nat.add_assoc]; exact Nat.add_le_add_right e2 _
    have e8 : s1 + 26637 ≤ S1 := Nat.le_trans e7 (Nat.le_trans (Nat.add_le_add_left (Nat.mul_le_mul_left _ hk) _) hS1)
    have e6 : b1 + 31 ≤ b + 31 * (k + 1) := by omega
    have r := s_work (P := P) (K599 := K599) (B := B) (S1 := S1) (b := b1) (s := s1) (m := m) hA hG1 hBv hG2 hC hG3 hD hG4 hE hG5 hW y1 g1 (by omega) (by omega) (by omega) c3 c4 c5 c6 c7 c8 c9 (by rw [c1]; exact c10) (by rw [c1]; exact c11) c2 (by omega) e8 fun M' b' s' u3 u4 u1 u2 => by
      rw [c1]
      exact LL M' _ _ u1 u2 (Nat.le_trans u3 e6) (Nat.le_trans u4 e7)
    rw [c1] at r
    exact r
end LW4
