/-! THE DRAWN SEASON: players, works, absences, the fee; its text is read as it was drawn -/
section DQ
variable {sg ct : Nat → Nat} {nm : Nat → List Nat} {tx : List Nat} {G : Nat}
theorem kd1_le {sg : Nat → Nat} {m : Nat} (h4 : sg 4 ≤ 4) (hm : m < 4) (h : m ≤ sg 4) : kd1 sg m ≤ 4 := by unfold kd1; split <;> omega
theorem kd1_m {sg : Nat → Nat} {m : Nat} (h : m ≤ sg 4) : m < kd1 sg m ∧ sg 4 ≤ kd1 sg m := by unfold kd1; split <;> omega
theorem dP_i (h : DI (sg, nm, ct, tx, G)) (hk : sg 2 < 7) : DI (dP (sg, nm, ct, tx, G)) ∧ (dP (sg, nm, ct, tx, G)).1 2 = sg 2 + 1 ∧ (∀ k, k < 9 → k ≠ 2 → k ≠ 4 → (dP (sg, nm, ct, tx, G)).1 k = sg k) ∧ 1 ≤ (dP (sg, nm, ct, tx, G)).1 4 := by
  have h : NMs sg nm ∧ (2 ≤ sg 0 ∧ sg 0 ≤ 7) ∧ ∀ k, k ∈ tx → k < 128 := h
  obtain ⟨⟨n1, n2, n3, n4, n5, n6, n7⟩, s0, m⟩ := h
  obtain ⟨z1, z2⟩ := n6 (sg 2) (Nat.le_refl _) (by omega)
  obtain ⟨m1, m2⟩ := pMain_lt sg G
  obtain ⟨o1, o2⟩ := pOther_lt sg G
  have dc := drw_lt G (show 1 ≤ 6 by omega)
  have df := drw_lt (nx G) (show 1 ≤ 90 by omega)
  obtain ⟨v2, v0, v1, vn, v3, v5, v4⟩ := pyS_v (f := drw (nx G) 90) (m := pMain sg G) (o := pOther sg G) (both := pBoth sg G) z1 z2
  have vo := fun k h2 h4 hk => pyS_o (f := drw (nx G) 90) (m := pMain sg G) (o := pOther sg G) (both := pBoth sg G) (k := k) h2 h4 hk z2
  have i4 : instS (playS sg (drw (nx G) 90)) (sg 2) (pMain sg G) 4 = kd1 sg (pMain sg G) := py_4b
  have k1 : kd1 sg (pMain sg G) ≤ 4 := kd1_le n5.2.2.2 m2 m1
  have k1m := kd1_m m1
  have k2 : kd1 (instS (playS sg (drw (nx G) 90)) (sg 2) (pMain sg G)) (pOther sg G) ≤ 4 := kd1_le (by rw [i4]; exact k1) o2 (by rw [i4]; exact o1)
  have k2m := kd1_m (sg := instS (playS sg (drw (nx G) 90)) (sg 2) (pMain sg G)) (m := pOther sg G) (by rw [i4]; exact o1)
  rw [i4] at k2m
  have four : pyS sg (drw (nx G) 90) (pMain sg G) (pOther sg G) (pBoth sg G) 4 ≤ 4 ∧ 1 ≤ pyS sg (drw (nx G) 90) (pMain sg G) (pOther sg G) (pBoth sg G) 4 := by
    rw [v4]; split <;> omega
  have nI_ : ∀ (sg : Nat → Nat) (nm : Nat → List Nat) m k, k < 24 → nmI sg nm m k = nm k := fun sg nm m k hk => by
    unfold nmI
    split
    · rfl
    · unfold updN; rw [if_neg (by omega)]
  have nN : ∀ k, k < 24 → k ≠ 8 + sg 2 → pyN sg nm (drw (nx G) 90) (pMain sg G) (pOther sg G) (pBoth sg G) k = nm k := fun k hk hne => by
    unfold pyN
    split
    · rw [nI_ _ _ _ _ hk, nI_ _ _ _ _ hk]; unfold updN; rw [if_neg hne]
    · rw [nI_ _ _ _ _ hk]; unfold updN; rw [if_neg hne]
  have n24 : ∀ k, k < playS sg (drw (nx G) 90) 4 → updN nm (8 + sg 2) [97 + sg 2] (24 + k) = [97 + k] := fun k hk2 => by
    rw [py_4] at hk2
    unfold updN
    rw [if_neg (by omega)]; exact n4 k hk2
  have n24b : ∀ k, k < instS (playS sg (drw (nx G) 90)) (sg 2) (pMain sg G) 4 → nmI (playS sg (drw (nx G) 90)) (updN nm (8 + sg 2) [97 + sg 2]) (pMain sg G) (24 + k) = [97 + k] := fun k hk2 => by
    have g := nmI_24 (sg := playS sg (drw (nx G) 90)) (k := k) (m := pMain sg G) n24 (by rw [py_4]; exact m1)
    rw [py_4] at g
    rw [py_4b] at hk2
    exact g hk2
  refine ⟨⟨⟨fun k hk2 => ?_, fun k hk2 => ?_, fun k hk2 => ?_, fun k hk2 => ?_, ?_, fun k h1 h2 => ?_, fun w h1 h2 => ?_⟩, ?_, ?_⟩, v2, fun k h1 h2 h4 => vo k h2 h4 (by omega), four.2⟩
  · have hk2 : k < sg 1 := by rw [← vo 1 (by omega) (by omega) (by omega)]; exact hk2
    exact (nN k (by omega) (by omega)).trans (n1 k hk2)
  · have hk2 : k < sg 2 + 1 := by rw [← v2]; exact hk2
    by_cases c : k = sg 2
    · subst c
      show pyN sg nm _ _ _ _ (8 + sg 2) = _
      unfold pyN
      split
      · rw [nI_ _ _ _ _ (by omega), nI_ _ _ _ _ (by omega)]; unfold updN; rw [if_pos rfl]
      · rw [nI_ _ _ _ _ (by omega)]; unfold updN; rw [if_pos rfl]
    · exact (nN (8 + k) (by omega) (by omega)).trans (n2 k (by omega))
  · have hk2 : k < sg 3 := by rw [← vo 3 (by omega) (by omega) (by omega)]; exact hk2
    exact (nN (16 + k) (by omega) (by omega)).trans (n3 k hk2)
  · have hk2 : k < pyS sg (drw (nx G) 90) (pMain sg G) (pOther sg G) (pBoth sg G) 4 := hk2
    show pyN sg nm _ _ _ _ (24 + k) = _
    rw [v4] at hk2
    unfold pyN
    by_cases b : pBoth sg G = true
    · rw [if_pos b] at hk2 ⊢
      exact nmI_24 (sg := instS (playS sg (drw (nx G) 90)) (sg 2) (pMain sg G)) n24b (by rw [i4]; exact o1) hk2
    · rw [if_neg b] at hk2 ⊢
      have g := nmI_24 (sg := playS sg (drw (nx G) 90)) (k := k) (m := pMain sg G) n24 (by rw [py_4]; exact m1)
      rw [py_4] at g
      exact g hk2
  · show pyS sg _ _ _ _ 1 ≤ 3 ∧ pyS sg _ _ _ _ 2 ≤ 7 ∧ pyS sg _ _ _ _ 3 ≤ 4 ∧ pyS sg _ _ _ _ 4 ≤ 4
    rw [vo 1 (by omega) (by omega) (by omega), v2, vo 3 (by omega) (by omega) (by omega)]
    omega
  · have h1 : sg 2 + 1 ≤ k := by rw [← v2]; exact h1
    have := n6 k (by omega) h2
    show pyS sg _ _ _ _ (9 + 7 * k + 1) = 0 ∧ pyS sg _ _ _ _ (9 + 7 * k + 2) = 0
    rw [vo _ (by omega) (by omega) (by omega), vo _ (by omega) (by omega) (by omega)]
    exact this
  · have h1 : sg 3 ≤ w := by rw [← vo 3 (by omega) (by omega) (by omega)]; exact h1
    have := n7 w h1 h2
    show pyS sg _ _ _ _ (65 + 11 * w + 4) = 0
    rw [vo _ (by omega) (by omega) (by omega)]
    exact this
  · show 2 ≤ pyS sg _ _ _ _ 0 ∧ pyS sg _ _ _ _ 0 ≤ 7
    rw [vo 0 (by omega) (by omega) (by omega)]; exact s0
  · refine m128_app m (m128_app (kw_128 2 (by omega)) (m128_c (by omega) (m128_c (by omega) (m128_c (by omega) (m128_app (dig_128 (by omega)) (m128_c (by omega) (m128_app (dig_128 (by omega)) (m128_c (by omega) (m128_c (by omega) ?_)))))))))
    unfold endT
    split
    · exact m128_c (by omega) (m128_c (by omega) (m128_c (by omega) m128_n))
    · exact m128_c (by omega) m128_n
/-! seats -/
theorem seatF_c (sg : Nat → Nat) (w k : Nat) (l : List Nat) : seatF sg w (k :: l) = seatF (seatS sg w k) w l := rfl
theorem seatF_4 (w : Nat) : ∀ (l : List Nat) (sg : Nat → Nat), oW (seatF sg w l) w 4 = oW sg w 4 + l.length
  | [], _ => rfl
  | k :: l, sg => by
    rw [seatF_c, seatF_4 w l, seatS_c]
    show oW sg w 4 + 1 + l.length = oW sg w 4 + (l.length + 1)
    omega
theorem seatS_oo {w j k : Nat} (h1 : k ≠ 65 + 11 * w + 4) (h2 : k ≠ 65 + 11 * w + 5 + oW sg w 4) : seatS sg w j k = sg k := by
  unfold seatS
  rw [ups_o _ _ _ h1, ups_o _ _ _ h2]
theorem seatF_o {w k : Nat} (h1 : k ≠ 65 + 11 * w + 4) : ∀ (l : List Nat) (sg : Nat → Nat), (k < 65 + 11 * w + 5 + oW sg w 4 ∨ 65 + 11 * w + 5 + oW sg w 4 + l.length ≤ k) → seatF sg w l k = sg k
  | [], _, _ => rfl
  | y :: l, sg, h => by
    have ll : (y :: l).length = l.length + 1 := rfl
    rw [seatF_c, seatF_o h1 l (seatS sg w y) (by rw [seatS_c]; omega), seatS_oo h1 (by omega)]
theorem seatF_j {w : Nat} : ∀ (l : List Nat) (sg : Nat → Nat) (j : Nat), j < l.length → seatF sg w l (65 + 11 * w + 5 + oW sg w 4 + j) = l.getD j 0
  | [], _, _, h => absurd h (Nat.not_lt_zero _)
  | y :: l, sg, 0, _ => by
    rw [seatF_c, Nat.add_zero, seatF_o (by omega) l (seatS sg w y) (by rw [seatS_c]; omega)]
    show ups (ups sg (65 + 11 * w + 5 + oW sg w 4) y) (65 + 11 * w + 4) (oW sg w 4 + 1) (65 + 11 * w + 5 + oW sg w 4) = y
    rw [ups_o _ _ _ (by omega), ups_1]
  | y :: l, sg, j + 1, h => by
    have i := seatF_j (w := w) l (seatS sg w y) j (by have : (y :: l).length = l.length + 1 := rfl; omega)
    rw [seatS_c] at i
    rw [seatF_c, show 65 + 11 * w + 5 + oW sg w 4 + (j + 1) = 65 + 11 * w + 5 + (oW sg w 4 + 1) + j by omega, i]
    rfl
theorem wkS_v {a b c d : Nat} {l : List Nat} (z : oW sg (sg 3) 4 = 0) : wkS sg a b c d l 3 = sg 3 + 1 ∧ (oW (wkS sg a b c d l) (sg 3) 0 = a ∧ oW (wkS sg a b c d l) (sg 3) 1 = b ∧ oW (wkS sg a b c d l) (sg 3) 2 = c ∧ oW (wkS sg a b c d l) (sg 3) 3 = d) ∧ oW (wkS sg a b c d l) (sg 3) 4 = l.length ∧ (∀ j, j < l.length → oW (wkS sg a b c d l) (sg 3) (5 + j) = l.getD j 0) ∧ ∀ k, k ≠ 3 → (k < 65 + 11 * sg 3 ∨ 65 + 11 * sg 3 + 5 + l.length ≤ k) → wkS sg a b c d l k = sg k := by
  have w4 : oW (workS sg a b c d) (sg 3) 4 = 0 := by
    have : oW (workS sg a b c d) (sg 3) 4 = oW sg (sg 3) 4 := by
      show workS sg a b c d (65 + 11 * sg 3 + 4) = sg (65 + 11 * sg 3 + 4)
      unfold workS
      rw [ups_o _ _ _ (by omega), ups_o _ _ _ (by omega), ups_o _ _ _ (by omega), ups_o _ _ _ (by omega), ups_o _ _ _ (by omega)]
    rw [this]; exact z
  have o := fun k (h1 : k ≠ 65 + 11 * sg 3 + 4) h => seatF_o (w := sg 3) (k := k) h1 l (workS sg a b c d) (by rw [w4]; exact h)
  unfold wkS
  refine ⟨?_, ⟨?_, ?_, ?_, ?_⟩, ?_, fun j hj => ?_, fun k h3 h => ?_⟩
  · rw [o 3 (by omega) (by omega)]
    unfold workS
    rw [ups_o _ _ _ (by omega), ups_o _ _ _ (by omega), ups_o _ _ _ (by omega), ups_o _ _ _ (by omega), ups_1]
  · refine (o (65 + 11 * sg 3 + 0) (by omega) (by omega)).trans ?_
    unfold workS
    rw [ups_o _ _ _ (by omega), ups_o _ _ _ (by omega), ups_o _ _ _ (by omega)]
    exact ups_1 _ _ _
  · refine (o (65 + 11 * sg 3 + 1) (by omega) (by omega)).trans ?_
    unfold workS
    rw [ups_o _ _ _ (by omega), ups_o _ _ _ (by omega), ups_1]
  · refine (o (65 + 11 * sg 3 + 2) (by omega) (by omega)).trans ?_
    unfold workS
    rw [ups_o _ _ _ (by omega), ups_1]
  · refine (o (65 + 11 * sg 3 + 3) (by omega) (by omega)).trans ?_
    unfold workS
    rw [ups_1]
  · rw [seatF_4, w4, Nat.zero_add]
  · have g := seatF_j (w := sg 3) l (workS sg a b c d) j hj
    rw [w4, Nat.add_zero] at g
    show seatF (workS sg a b c d) (sg 3) l (65 + 11 * sg 3 + (5 + j)) = _
    rw [← Nat.add_assoc]; exact g
  · by_cases e : k = 65 + 11 * sg 3 + 4
    · omega
    · rw [o k e (by omega)]
      unfold workS
      rw [ups_o _ _ _ (by omega), ups_o _ _ _ (by omega), ups_o _ _ _ (by omega), ups_o _ _ _ (by omega), ups_o _ _ _ h3]
theorem wSeats_len (sg : Nat → Nat) (G : Nat) : (wSeats sg G).length = 1 + drw (nx (nx (nx (nx G)))) 4 := by unfold wSeats; rw [List.length_map, List.length_range]
theorem wSeats_lt {sg : Nat → Nat} {G : Nat} (h : 1 ≤ sg 4) : ∀ k, k ∈ wSeats sg G → k < sg 4 := fun k hk => by
  obtain ⟨j, -, e⟩ := List.mem_map.mp hk
  rw [← e]; exact drw_lt _ h
theorem wLast_b {sg : Nat → Nat} {G : Nat} (h : 2 ≤ sg 0) : wFirst G ≤ wLast sg G ∧ wLast sg G < sg 0 ∧ wFirst G < 2 := by
  have d := drw_lt G (show 1 ≤ 2 by omega)
  unfold wFirst wLast
  split <;> omega
theorem seatsT_128 : ∀ l : List Nat, (∀ k, k ∈ l → k < 8) → ∀ k, k ∈ seatsT l → k < 128
  | [], _ => m128_n
  | y :: l, h => m128_c (by omega) (m128_c (by have := h y List.mem_cons_self; omega) (seatsT_128 l fun k hk => h k (List.mem_cons_of_mem _ hk)))
theorem dW_i (h : DI (sg, nm, ct, tx, G)) (hk : sg 3 < 4) (h4 : 1 ≤ sg 4) : DI (dW_ (sg, nm, ct, tx, G)) ∧ (dW_ (sg, nm, ct, tx, G)).1 3 = sg 3 + 1 ∧ (∀ k, k < 65 → k ≠ 3 → (dW_ (sg, nm, ct, tx, G)).1 k = sg k) := by
  have h : NMs sg nm ∧ (2 ≤ sg 0 ∧ sg 0 ≤ 7) ∧ ∀ k, k ∈ tx → k < 128 := h
  obtain ⟨⟨n1, n2, n3, n4, n5, n6, n7⟩, s0, m⟩ := h
  have z := n7 (sg 3) (Nat.le_refl _) (by omega)
  have da := drw_lt (nx (nx G)) (show 1 ≤ 3 by omega)
  have dd := drw_lt (nx (nx (nx G))) (show 1 ≤ 200 by omega)
  have dl := drw_lt (nx (nx (nx (nx G)))) (show 1 ≤ 4 by omega)
  have wl := wLast_b (G := G) s0.1
  have sl := wSeats_len sg G
  have st := wSeats_lt (G := G) h4
  obtain ⟨v3, -, -, -, vo⟩ := wkS_v (a := drw (nx (nx G)) 3) (b := wFirst G) (c := wLast sg G) (d := drw (nx (nx (nx G))) 200) (l := wSeats sg G) z
  refine ⟨⟨⟨fun k hk2 => ?_, fun k hk2 => ?_, fun k hk2 => ?_, fun k hk2 => ?_, ?_, fun k h1 h2 => ?_, fun w h1 h2 => ?_⟩, ?_, ?_⟩, v3, fun k h1 h2 => vo k h2 (by omega)⟩
  · have hk2 : k < sg 1 := by rw [← vo 1 (by omega) (by omega)]; exact hk2
    show updN nm (16 + sg 3) [97 + sg 3] k = _
    unfold updN
    rw [if_neg (by omega)]; exact n1 k hk2
  · have hk2 : k < sg 2 := by rw [← vo 2 (by omega) (by omega)]; exact hk2
    show updN nm (16 + sg 3) [97 + sg 3] (8 + k) = _
    unfold updN
    rw [if_neg (by omega)]; exact n2 k hk2
  · have hk2 : k < sg 3 + 1 := by rw [← v3]; exact hk2
    show updN nm (16 + sg 3) [97 + sg 3] (16 + k) = _
    unfold updN
    by_cases c : k = sg 3
    · rw [if_pos (by omega), c]
    · rw [if_neg (by omega)]; exact n3 k (by omega)
  · have hk2 : k < sg 4 := by rw [← vo 4 (by omega) (by omega)]; exact hk2
    show updN nm (16 + sg 3) [97 + sg 3] (24 + k) = _
    unfold updN
    rw [if_neg (by omega)]; exact n4 k hk2
  · show wkS sg _ _ _ _ _ 1 ≤ 3 ∧ wkS sg _ _ _ _ _ 2 ≤ 7 ∧ wkS sg _ _ _ _ _ 3 ≤ 4 ∧ wkS sg _ _ _ _ _ 4 ≤ 4
    rw [vo 1 (by omega) (by omega), vo 2 (by omega) (by omega), v3, vo 4 (by omega) (by omega)]
    omega
  · have h1 : sg 2 ≤ k := by rw [← vo 2 (by omega) (by omega)]; exact h1
    have := n6 k h1 h2
    show wkS sg _ _ _ _ _ (9 + 7 * k + 1) = 0 ∧ wkS sg _ _ _ _ _ (9 + 7 * k + 2) = 0
    rw [vo _ (by omega) (by omega), vo _ (by omega) (by omega)]
    exact this
  · have h1 : sg 3 + 1 ≤ w := by rw [← v3]; exact h1
    have := n7 w (by omega) h2
    show wkS sg _ _ _ _ _ (65 + 11 * w + 4) = 0
    rw [vo _ (by omega) (by omega)]
    exact this
  · show 2 ≤ wkS sg _ _ _ _ _ 0 ∧ wkS sg _ _ _ _ _ 0 ≤ 7
    rw [vo 0 (by omega) (by omega)]; exact s0
  · exact m128_app m (m128_app (kw_128 4 (by omega)) (m128_c (by omega) (m128_c (by omega) (m128_c (by omega) (m128_app (dig_128 (by omega)) (m128_c (by omega) (m128_app (dig_128 (by omega)) (m128_c (by omega) (m128_app (dig_128 (by omega)) (m128_c (by omega) (m128_app (dig_128 (by omega)) (m128_app (seatsT_128 _ fun k hk => by have := st k hk; omega) (m128_c (by omega) m128_n))))))))))))) 
theorem dA_y {k : Nat} (q : drw G 4 = 0) : dA k (sg, nm, ct, tx, G) = (ups sg (9 + 7 * k + 1) (2 ^ drw (nx G) (sg 0)), nm, ct, tx ++ absT k (drw (nx G) (sg 0)), nx (nx G)) := if_pos q
theorem dA_n {k : Nat} (q : ¬ drw G 4 = 0) : dA k (sg, nm, ct, tx, G) = (sg, nm, ct, tx, nx G) := if_neg q
theorem dE_y (q : drw G 2 = 0) : dE (sg, nm, ct, tx, G) = (ups sg 5 (drw (nx G) 50), nm, ct, tx ++ dblT (drw (nx G) 50), nx (nx G)) := if_pos q
theorem dE_n (q : ¬ drw G 2 = 0) : dE (sg, nm, ct, tx, G) = (sg, nm, ct, tx, nx G) := if_neg q
theorem NMs.cong {sg2 : Nat → Nat} (h : NMs sg nm) (e : sg2 1 = sg 1 ∧ sg2 2 = sg 2 ∧ sg2 3 = sg 3 ∧ sg2 4 = sg 4) (e2 : ∀ k, sg 2 ≤ k → k < 8 → oP sg2 k 1 = oP sg k 1 ∧ oP sg2 k 2 = oP sg k 2) (e3 : ∀ w, oW sg2 w 4 = oW sg w 4) : NMs sg2 nm := by
  obtain ⟨n1, n2, n3, n4, n5, n6, n7⟩ := h
  unfold NMs
  rw [e.1, e.2.1, e.2.2.1, e.2.2.2]
  exact ⟨n1, n2, n3, n4, n5, fun k h1 h2 => by rw [(e2 k h1 h2).1, (e2 k h1 h2).2]; exact n6 k h1 h2, fun w h1 h2 => by rw [e3]; exact n7 w h1 h2⟩
theorem dA_i (h : DI (sg, nm, ct, tx, G)) {k : Nat} (hk : k < sg 2) : DI (dA k (sg, nm, ct, tx, G)) ∧ ∀ i, i ≠ 9 + 7 * k + 1 → (dA k (sg, nm, ct, tx, G)).1 i = sg i := by
  have h0 := h
  have h : NMs sg nm ∧ (2 ≤ sg 0 ∧ sg 0 ≤ 7) ∧ ∀ k, k ∈ tx → k < 128 := h
  obtain ⟨n, s0, m⟩ := h
  have n5 := n.2.2.2.2.1
  by_cases q : drw G 4 = 0
  · rw [dA_y q]
    have dd := drw_lt (nx G) (show 1 ≤ sg 0 by omega)
    have u : ∀ i, i ≠ 9 + 7 * k + 1 → ups sg (9 + 7 * k + 1) (2 ^ drw (nx G) (sg 0)) i = sg i := fun i hi => ups_o sg (9 + 7 * k + 1) (2 ^ drw (nx G) (sg 0)) hi
    have dI : NMs (ups sg (9 + 7 * k + 1) (2 ^ drw (nx G) (sg 0))) nm ∧ (2 ≤ ups sg (9 + 7 * k + 1) (2 ^ drw (nx G) (sg 0)) 0 ∧ ups sg (9 + 7 * k + 1) (2 ^ drw (nx G) (sg 0)) 0 ≤ 7) ∧ ∀ y, y ∈ tx ++ absT k (drw (nx G) (sg 0)) → y < 128 := by
      refine ⟨n.cong ⟨u 1 (by omega), u 2 (by omega), u 3 (by omega), u 4 (by omega)⟩ (fun i h1 h2 => ⟨u _ (by omega), u _ (by omega)⟩) (fun w => u _ (by omega)), by rw [u 0 (by omega)]; exact s0, ?_⟩
      exact m128_app m (m128_app (kw_128 3 (by omega)) (m128_c (by omega) (m128_c (by omega) (m128_c (by omega) (m128_app (dig_128 (by omega)) (m128_c (by omega) m128_n))))))
    exact ⟨dI, u⟩
  · have e := dA_n (sg := sg) (nm := nm) (ct := ct) (tx := tx) (k := k) q
    rw [e]
    have dI : DI (sg, nm, ct, tx, nx G) := ⟨n, s0, m⟩
    exact ⟨dI, fun i _ => by rfl⟩
theorem dE_i (h : DI (sg, nm, ct, tx, G)) : DI (dE (sg, nm, ct, tx, G)) ∧ ∀ i, i ≠ 5 → (dE (sg, nm, ct, tx, G)).1 i = sg i := by
  have h : NMs sg nm ∧ (2 ≤ sg 0 ∧ sg 0 ≤ 7) ∧ ∀ k, k ∈ tx → k < 128 := h
  obtain ⟨n, s0, m⟩ := h
  by_cases q : drw G 2 = 0
  · rw [dE_y q]
    have dd := drw_lt (nx G) (show 1 ≤ 50 by omega)
    have u : ∀ i, i ≠ 5 → ups sg 5 (drw (nx G) 50) i = sg i := fun i hi => ups_o sg 5 (drw (nx G) 50) hi
    have dI : NMs (ups sg 5 (drw (nx G) 50)) nm ∧ (2 ≤ ups sg 5 (drw (nx G) 50) 0 ∧ ups sg 5 (drw (nx G) 50) 0 ≤ 7) ∧ ∀ y, y ∈ tx ++ dblT (drw (nx G) 50) → y < 128 := by
      refine ⟨n.cong ⟨u 1 (by omega), u 2 (by omega), u 3 (by omega), u 4 (by omega)⟩ (fun i h1 h2 => ⟨u _ (by omega), u _ (by omega)⟩) (fun w => u _ (by omega)), by rw [u 0 (by omega)]; exact s0, ?_⟩
      exact m128_app m (m128_app (kw_128 5 (by omega)) (m128_c (by omega) (m128_app (dig_128 (by omega)) (m128_c (by omega) m128_n))))
    exact ⟨dI, u⟩
  · have e := dE_n (sg := sg) (nm := nm) (ct := ct) (tx := tx) q
    rw [e]
    have dI : DI (sg, nm, ct, tx, nx G) := ⟨n, s0, m⟩
    exact ⟨dI, fun i _ => by rfl⟩
end DQ
