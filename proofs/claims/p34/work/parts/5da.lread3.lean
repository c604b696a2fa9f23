/-! THE WHOLE DRAWN SEASON is read -/
/-- nobody is absent yet; no work has more than four seats -/
def JX (s : DS) : Prop := (∀ k, k < 8 → oP s.1 k 1 = 0) ∧ ∀ w, w < s.1 3 → oW s.1 w 4 ≤ 4
section RU
variable {tx : List Nat} {bf : Nat → Int32} {q0 n a : Nat} {S0 : P4} {dt : Bool}
theorem dH_x {s : DS} (h : JX s) (hk : s.1 1 < 3) : JX (dH s) := by
  obtain ⟨sg, nm, ct, t, G⟩ := s
  obtain ⟨h1, h2⟩ := h
  have h1 : ∀ k, k < 8 → oP sg k 1 = 0 := h1
  have h2 : ∀ w, w < sg 3 → oW sg w 4 ≤ 4 := h2
  have hk : sg 1 < 3 := hk
  refine ⟨fun k hk2 => ?_, fun w hw => ?_⟩
  · show hallS sg _ (9 + 7 * k + 1) = 0
    rw [hallS_oo (by omega) (by omega)]; exact h1 k hk2
  · have hw : w < hallS sg (drw G 3) 3 := hw
    rw [hallS_oo (by omega) (by omega)] at hw
    show hallS sg _ (65 + 11 * w + 4) ≤ 4
    rw [hallS_oo (by omega) (by omega)]; exact h2 w hw
theorem dP_x {s : DS} (h : JX s) (hk : s.1 2 < 7) (hz : oP s.1 (s.1 2) 2 = 0) (h3 : s.1 3 = 0) : JX (dP s) := by
  obtain ⟨sg, nm, ct, t, G⟩ := s
  obtain ⟨h1, h2⟩ := h
  have h1 : ∀ k, k < 8 → oP sg k 1 = 0 := h1
  have hk : sg 2 < 7 := hk
  have hz : oP sg (sg 2) 2 = 0 := hz
  have h3 : sg 3 = 0 := h3
  obtain ⟨v2, v0, v1, -⟩ := pyS_v (f := drw (nx G) 90) (m := pMain sg G) (o := pOther sg G) (both := pBoth sg G) (h1 (sg 2) (by omega)) hz
  refine ⟨fun k hk2 => ?_, fun w hw => ?_⟩
  · by_cases e : k = sg 2
    · rw [e]; exact v1
    · have := h1 k hk2
      show pyS sg _ _ _ _ (9 + 7 * k + 1) = 0
      rw [pyS_o (by omega) (by omega) (by omega) hz]; exact this
  · have hw : w < pyS sg (drw (nx G) 90) (pMain sg G) (pOther sg G) (pBoth sg G) 3 := hw
    rw [pyS_o (by omega) (by omega) (by omega) hz] at hw
    omega
theorem dW_x {s : DS} (h : JX s) (hk : s.1 3 < 4) (hz : oW s.1 (s.1 3) 4 = 0) : JX (dW_ s) := by
  obtain ⟨sg, nm, ct, t, G⟩ := s
  obtain ⟨h1, h2⟩ := h
  have h1 : ∀ k, k < 8 → oP sg k 1 = 0 := h1
  have h2 : ∀ w, w < sg 3 → oW sg w 4 ≤ 4 := h2
  have hk : sg 3 < 4 := hk
  have hz : oW sg (sg 3) 4 = 0 := hz
  have dl := drw_lt (nx (nx (nx (nx G)))) (show 1 ≤ 4 by omega)
  have sl := wSeats_len sg G
  obtain ⟨v3, -, v4, -, vo⟩ := wkS_v (a := drw (nx (nx G)) 3) (b := wFirst G) (c := wLast sg G) (d := drw (nx (nx (nx G))) 200) (l := wSeats sg G) hz
  refine ⟨fun k hk2 => ?_, fun w hw => ?_⟩
  · have := h1 k hk2
    show wkS sg _ _ _ _ _ (9 + 7 * k + 1) = 0
    rw [vo _ (by omega) (by omega)]; exact this
  · have hw : w < wkS sg (drw (nx (nx G)) 3) (wFirst G) (wLast sg G) (drw (nx (nx (nx G))) 200) (wSeats sg G) 3 := hw
    rw [v3] at hw
    by_cases e : w = sg 3
    · rw [e]
      show oW (wkS sg _ _ _ _ _) (sg 3) 4 ≤ 4
      rw [v4]; omega
    · have := h2 w (by omega)
      show wkS sg _ _ _ _ _ (65 + 11 * w + 4) ≤ 4
      rw [vo _ (by omega) (by omega)]; exact this
theorem j_halls {s : DS} (h : JS tx bf q0 S0 s dt n a) (hx : JX s) (h0 : s.1 1 = 0) : ∀ k, k ≤ 3 → JS tx bf q0 S0 (dN dH k s) dt (n + k) (a + 11 * k) ∧ JX (dN dH k s) ∧ (dN dH k s).1 1 = k ∧ ∀ i, i = 0 ∨ (2 ≤ i ∧ i < 6) → (dN dH k s).1 i = s.1 i
  | 0, _ => ⟨h, hx, h0, fun _ _ => rfl⟩
  | k + 1, hk => by
    obtain ⟨a1, a2, a3, a4⟩ := j_halls h hx h0 k (by omega)
    have e1 : (dN dH k s).1 1 < 3 := by omega
    obtain ⟨b1, b2, b3⟩ := a1.hall e1
    refine ⟨?_, dH_x a2 e1, by show (dH (dN dH k s)).1 1 = k + 1; omega, fun i hi => ?_⟩
    · have e : a + 11 * (k + 1) = a + 11 * k + 11 := by omega
      rw [e]; exact b1
    · rw [← a4 i hi]
      rcases hi with e | e
      · subst e
        show hallS (dN dH k s).1 _ 0 = _
        exact hallS_oo (by omega) (by omega)
      · exact b3 i e.1 e.2
theorem j_plays {s : DS} (h : JS tx bf q0 S0 s dt n a) (hx : JX s) (h0 : s.1 2 = 0) (h3 : s.1 3 = 0) : ∀ k, k ≤ 7 → JS tx bf q0 S0 (dN dP k s) dt (n + k) (a + 21 * k) ∧ JX (dN dP k s) ∧ (dN dP k s).1 2 = k ∧ (∀ i, i < 9 → i ≠ 2 → i ≠ 4 → (dN dP k s).1 i = s.1 i) ∧ (1 ≤ k → 1 ≤ (dN dP k s).1 4)
  | 0, _ => ⟨h, hx, h0, fun _ _ _ _ => rfl, fun e => absurd e (by omega)⟩
  | k + 1, hk => by
    obtain ⟨a1, a2, a3, a4, a5⟩ := j_plays h hx h0 h3 k (by omega)
    have e1 : (dN dP k s).1 2 < 7 := by omega
    obtain ⟨b1, b2, b3, b4⟩ := a1.play e1
    have z := (a1.1.1.2.2.2.2.2.1 ((dN dP k s).1 2) (Nat.le_refl _) (by omega)).2
    refine ⟨?_, dP_x a2 e1 z (by rw [a4 3 (by omega) (by omega) (by omega)]; exact h3), by show (dP (dN dP k s)).1 2 = k + 1; omega, fun i h1 h2 h4 => (b3 i h1 h2 h4).trans (a4 i h1 h2 h4), fun _ => b4⟩
    have e : a + 21 * (k + 1) = a + 21 * k + 21 := by omega
    rw [e]; exact b1
theorem j_works {s : DS} (h : JS tx bf q0 S0 s dt n a) (hx : JX s) (h0 : s.1 3 = 0) (h4 : 1 ≤ s.1 4) : ∀ k, k ≤ 4 → JS tx bf q0 S0 (dN dW_ k s) dt (n + k) (a + 32 * k) ∧ JX (dN dW_ k s) ∧ (dN dW_ k s).1 3 = k ∧ ∀ i, i < 65 → i ≠ 3 → (dN dW_ k s).1 i = s.1 i
  | 0, _ => ⟨h, hx, h0, fun _ _ _ => rfl⟩
  | k + 1, hk => by
    obtain ⟨a1, a2, a3, a4⟩ := j_works h hx h0 h4 k (by omega)
    have e1 : (dN dW_ k s).1 3 < 4 := by omega
    obtain ⟨b1, b2, b3⟩ := a1.work e1 (by rw [a4 4 (by omega) (by omega)]; exact h4)
    have z := a1.1.1.2.2.2.2.2.2 ((dN dW_ k s).1 3) (Nat.le_refl _) (by omega)
    refine ⟨?_, dW_x a2 e1 z, by show (dW_ (dN dW_ k s)).1 3 = k + 1; omega, fun i h1 h3 => (b3 i h1 h3).trans (a4 i h1 h3)⟩
    have e : a + 32 * (k + 1) = a + 32 * k + 32 := by omega
    rw [e]; exact b1
theorem j_abs {s : DS} (h : JS tx bf q0 S0 s dt n a) (hx : JX s) : ∀ k, k ≤ s.1 2 → k ≤ 7 → ∃ n2, JS tx bf q0 S0 (dAs k s) dt n2 (a + 13 * k) ∧ ∀ i, (∀ j, j < k → i ≠ 9 + 7 * j + 1) → (dAs k s).1 i = s.1 i
  | 0, _, _ => ⟨n, h, fun _ _ => rfl⟩
  | k + 1, hk, h7 => by
    obtain ⟨n1, a1, a2⟩ := j_abs h hx k (by omega) (by omega)
    have e2 : (dAs k s).1 2 = s.1 2 := a2 2 fun j hj => by omega
    have ez : oP (dAs k s).1 k 1 = 0 := by
      have : oP (dAs k s).1 k 1 = oP s.1 k 1 := a2 (9 + 7 * k + 1) fun j hj => by omega
      rw [this]; exact hx.1 k (by omega)
    obtain ⟨n2, b1, b2⟩ := a1.abs (k := k) (by omega) ez
    refine ⟨n2, ?_, fun i hi => (b2 i (hi k (by omega))).trans (a2 i fun j hj => hi j (by omega))⟩
    have e : a + 13 * (k + 1) = a + 13 * k + 13 := by omega
    rw [e]; exact b1
end RU
/-- the days' statement is read -/
theorem days_ok {tx R : List Nat} {bf : Nat → Int32} (h : Bts tx bf) {d : Nat} (h1 : 1 ≤ d) (h30 : d ≤ 30) (hr : tx = daysT d ++ R) : daysL tx.length bf 0 = Sum.inr ((daysT d).length, d) := by
  have r0 : Rs tx 0 (daysT d ++ R) := by rw [← hr]; exact ⟨Nat.zero_add _, fun i _ => by rw [Nat.zero_add]⟩
  have e : daysT d ++ R = kw 0 ++ (32 :: (dig d ++ (59 :: R))) := by
    unfold daysT
    rw [List.append_assoc, List.cons_append, List.append_assoc]; rfl
  have r0b := r0
  rw [e] at r0
  obtain ⟨p1, l1, r1, a1, b1, c1⟩ := tkk h (by omega) r0
  obtain ⟨p2, l2, r2, a2, b2, c2⟩ := tk2 h (by omega) r1 (Or.inr (by rfl))
  obtain ⟨p3, l3, r3, a3, c3⟩ := tks h r2
  have e0 := nerr_ok (lo := 1) (hi := 30) a2 b2 h1 h30
  have eq_ : p3 = (daysT d).length := by
    have l1 := r3.1
    have l2 := r0b.1
    rw [List.length_append] at l2
    omega
  unfold daysL
  rw [if_pos (isw_y a1 b1), c1, e0, if_pos rfl, c2, a3, if_pos rfl, c3, b2, eq_]
theorem dD0_j (tx : List Nat) (bf : Nat → Int32) (G : Nat) : JS tx bf (daysT (2 + drw G 6)).length (sgi (2 + drw G 6), fun _ => [], fun _ => 0, false) (dD0 G) false 0 9 ∧ JX (dD0 G) := by
  have d := drw_lt G (show 1 ≤ 6 by omega)
  have s0 : ∀ k, k ≠ 0 → sgi (2 + drw G 6) k = 0 := fun k hk => sgi_o _ hk
  have e0 : sgi (2 + drw G 6) 0 = 2 + drw G 6 := rfl
  have dI : NMs (sgi (2 + drw G 6)) (fun _ => []) ∧ (2 ≤ sgi (2 + drw G 6) 0 ∧ sgi (2 + drw G 6) 0 ≤ 7) ∧ ∀ k, k ∈ daysT (2 + drw G 6) → k < 128 := by
    refine ⟨?_, by omega, m128_app (kw_128 0 (by omega)) (m128_c (by omega) (m128_app (dig_128 (by omega)) (m128_c (by omega) m128_n)))⟩
    unfold NMs
    rw [s0 1 (by omega), s0 2 (by omega), s0 3 (by omega), s0 4 (by omega)]
    exact ⟨fun k hk => absurd hk (by omega), fun k hk => absurd hk (by omega), fun k hk => absurd hk (by omega), fun k hk => absurd hk (by omega), by omega, fun k _ _ => ⟨s0 _ (by omega), s0 _ (by omega)⟩, fun w _ _ => s0 _ (by omega)⟩
  refine ⟨⟨dI, ?_, fun _ => ⟨Nat.zero_le _, fun R _ f => rfl⟩⟩, fun k _ => s0 _ (by omega), fun w hw => ?_⟩
  · show (daysT (2 + drw G 6)).length ≤ 9
    have l := dig3 (v := 2 + drw G 6) (by omega)
    unfold daysT
    rw [List.length_append, List.length_cons, List.length_append]
    show 4 + ((dig (2 + drw G 6)).length + 1 + 1) ≤ 9
    omega
  · have hw : w < sgi (2 + drw G 6) 3 := hw
    rw [s0 3 (by omega)] at hw
    exact absurd hw (Nat.not_lt_zero _)
theorem dS_j (tx : List Nat) (bf : Nat → Int32) (G : Nat) : (∃ n, JS tx bf (daysT (2 + drw G 6)).length (sgi (2 + drw G 6), fun _ => [], fun _ => 0, false) (dS1 G) false n 42 ∧ JX (dS1 G) ∧ (dS1 G).1 0 = 2 + drw G 6 ∧ (dS1 G).1 1 = 1 + drw (nx G) 3 ∧ (dS1 G).1 2 = 0 ∧ (dS1 G).1 3 = 0 ∧ (dS1 G).1 4 = 0 ∧ (dS1 G).1 5 = 0) ∧
    (∃ n, JS tx bf (daysT (2 + drw G 6)).length (sgi (2 + drw G 6), fun _ => [], fun _ => 0, false) (dS2 G) false n 189 ∧ JX (dS2 G) ∧ (dS2 G).1 0 = 2 + drw G 6 ∧ (dS2 G).1 1 = 1 + drw (nx G) 3 ∧ (dS2 G).1 2 = 2 + drw (dG (dS1 G)) 6 ∧ (dS2 G).1 3 = 0 ∧ 1 ≤ (dS2 G).1 4 ∧ (dS2 G).1 5 = 0) ∧
    (∃ n, JS tx bf (daysT (2 + drw G 6)).length (sgi (2 + drw G 6), fun _ => [], fun _ => 0, false) (dS3 G) false n 317 ∧ JX (dS3 G) ∧ (∀ i, i < 65 → i ≠ 3 → (dS3 G).1 i = (dS2 G).1 i) ∧ (dS3 G).1 3 = 1 + drw (dG (dS2 G)) 4) ∧
    (∃ n, JS tx bf (daysT (2 + drw G 6)).length (sgi (2 + drw G 6), fun _ => [], fun _ => 0, false) (dS4 G) false n 408 ∧ ∀ i, (∀ j, j < 7 → i ≠ 9 + 7 * j + 1) → (dS4 G).1 i = (dS3 G).1 i) ∧
    ∃ n dt, JS tx bf (daysT (2 + drw G 6)).length (sgi (2 + drw G 6), fun _ => [], fun _ => 0, false) (dS5 G) dt n 419 ∧ ∀ i, i ≠ 5 → (dS5 G).1 i = (dS4 G).1 i := by
  have d6 := drw_lt G (show 1 ≤ 6 by omega)
  have d3 := drw_lt (nx G) (show 1 ≤ 3 by omega)
  have p6 := drw_lt (dG (dS1 G)) (show 1 ≤ 6 by omega)
  have w4 := drw_lt (dG (dS2 G)) (show 1 ≤ 4 by omega)
  have lift : ∀ {s : DS} {dt : Bool} {n a b : Nat} {q0 : Nat} {S0 : P4}, JS tx bf q0 S0 s dt n a → a ≤ b → JS tx bf q0 S0 s dt n b := fun h hab => ⟨h.1, Nat.le_trans h.2.1 hab, h.2.2⟩
  obtain ⟨j0, x0⟩ := dD0_j tx bf G
  have s0 : ∀ k, k ≠ 0 → sgi (2 + drw G 6) k = 0 := fun k hk => sgi_o _ hk
  obtain ⟨a1, a2, a3, a4⟩ := j_halls j0 x0 (s0 1 (by omega)) (1 + drw (nx G) 3) (by omega)
  have A0 : (dS1 G).1 0 = 2 + drw G 6 := a4 0 (by omega)
  have A2 : (dS1 G).1 2 = 0 := (a4 2 (by omega)).trans (s0 2 (by omega))
  have A3 : (dS1 G).1 3 = 0 := (a4 3 (by omega)).trans (s0 3 (by omega))
  have A4 : (dS1 G).1 4 = 0 := (a4 4 (by omega)).trans (s0 4 (by omega))
  have A5 : (dS1 G).1 5 = 0 := (a4 5 (by omega)).trans (s0 5 (by omega))
  have a1 : JS tx bf _ _ (dS1 G) false _ _ := a1
  have a2 : JX (dS1 G) := a2
  have a3 : (dS1 G).1 1 = 1 + drw (nx G) 3 := a3
  obtain ⟨b1, b2, b3, b4, b5⟩ := j_plays a1.nxt (s := dnx (dS1 G)) a2 A2 A3 (2 + drw (dG (dS1 G)) 6) (by omega)
  have b1 : JS tx bf _ _ (dS2 G) false _ _ := b1
  have b2 : JX (dS2 G) := b2
  have b3 : (dS2 G).1 2 = 2 + drw (dG (dS1 G)) 6 := b3
  have b4 : ∀ i, i < 9 → i ≠ 2 → i ≠ 4 → (dS2 G).1 i = (dS1 G).1 i := b4
  have b5 : 1 ≤ (dS2 G).1 4 := b5 (by omega)
  have B3 : (dS2 G).1 3 = 0 := (b4 3 (by omega) (by omega) (by omega)).trans A3
  obtain ⟨c1, c2, c3, c4⟩ := j_works b1.nxt (s := dnx (dS2 G)) b2 B3 b5 (1 + drw (dG (dS2 G)) 4) (by omega)
  have c1 : JS tx bf _ _ (dS3 G) false _ _ := c1
  have c2 : JX (dS3 G) := c2
  have c3 : (dS3 G).1 3 = 1 + drw (dG (dS2 G)) 4 := c3
  have c4 : ∀ i, i < 65 → i ≠ 3 → (dS3 G).1 i = (dS2 G).1 i := c4
  have C2 : (dS3 G).1 2 = 2 + drw (dG (dS1 G)) 6 := (c4 2 (by omega) (by omega)).trans b3
  obtain ⟨n4, e1, e2⟩ := j_abs c1 c2 (2 + drw (dG (dS1 G)) 6) (by omega) (by omega)
  have e1 : JS tx bf _ _ (dS4 G) false _ _ := e1
  have e2 : ∀ i, (∀ j, j < 2 + drw (dG (dS1 G)) 6 → i ≠ 9 + 7 * j + 1) → (dS4 G).1 i = (dS3 G).1 i := e2
  obtain ⟨n5, dt5, f1, f2⟩ := e1.fee
  refine ⟨⟨_, lift a1 (by omega), a2, A0, a3, A2, A3, A4, A5⟩, ⟨_, lift b1 (by omega), b2, (b4 0 (by omega) (by omega) (by omega)).trans A0, (b4 1 (by omega) (by omega) (by omega)).trans a3, b3, B3, b5, (b4 5 (by omega) (by omega) (by omega)).trans A5⟩, ⟨_, lift c1 (by omega), c2, c4, c3⟩, ⟨n4, lift e1 (by omega), fun i hi => e2 i fun j hj => hi j (by omega)⟩, n5, dt5, lift f1 (by omega), f2⟩
/-- the text begins with the days -/
theorem dS_pre (G : Nat) : ∃ R, (dS5 G).2.2.2.1 = daysT (2 + drw G 6) ++ R := by
  have hH : ∀ k (s : DS), (∃ R, s.2.2.2.1 = daysT (2 + drw G 6) ++ R) → ∃ R, (dN dH k s).2.2.2.1 = daysT (2 + drw G 6) ++ R := by
    intro k
    induction k with
    | zero => exact fun s h => h
    | succ k ih =>
      intro s h
      obtain ⟨R, e⟩ := ih s h
      exact ⟨_, by show (dN dH k s).2.2.2.1 ++ _ = _; rw [e, List.append_assoc]⟩
  have hP : ∀ k (s : DS), (∃ R, s.2.2.2.1 = daysT (2 + drw G 6) ++ R) → ∃ R, (dN dP k s).2.2.2.1 = daysT (2 + drw G 6) ++ R := by
    intro k
    induction k with
    | zero => exact fun s h => h
    | succ k ih =>
      intro s h
      obtain ⟨R, e⟩ := ih s h
      exact ⟨_, by show (dN dP k s).2.2.2.1 ++ _ = _; rw [e, List.append_assoc]⟩
  have hW : ∀ k (s : DS), (∃ R, s.2.2.2.1 = daysT (2 + drw G 6) ++ R) → ∃ R, (dN dW_ k s).2.2.2.1 = daysT (2 + drw G 6) ++ R := by
    intro k
    induction k with
    | zero => exact fun s h => h
    | succ k ih =>
      intro s h
      obtain ⟨R, e⟩ := ih s h
      exact ⟨_, by show (dN dW_ k s).2.2.2.1 ++ _ = _; rw [e, List.append_assoc]⟩
  have hA : ∀ k (s : DS), (∃ R, s.2.2.2.1 = daysT (2 + drw G 6) ++ R) → ∃ R, (dAs k s).2.2.2.1 = daysT (2 + drw G 6) ++ R := by
    intro k
    induction k with
    | zero => exact fun s h => h
    | succ k ih =>
      intro s h
      obtain ⟨R, e⟩ := ih s h
      show ∃ R, (dA k (dAs k s)).2.2.2.1 = _
      generalize dAs k s = s1 at e
      obtain ⟨sg, nm, ct, t, G1⟩ := s1
      have e : t = daysT (2 + drw G 6) ++ R := e
      by_cases q : drw G1 4 = 0
      · rw [dA_y q]
        exact ⟨_, by show t ++ _ = _; rw [e, List.append_assoc]⟩
      · rw [dA_n q]
        exact ⟨R, e⟩
  have h4 := hA (2 + drw (dG (dS1 G)) 6) (dS3 G) (hW _ _ (hP _ _ (hH (1 + drw (nx G) 3) (dD0 G) ⟨[], (List.append_nil _).symm⟩)))
  have h4 : ∃ R, (dS4 G).2.2.2.1 = daysT (2 + drw G 6) ++ R := h4
  obtain ⟨R, e⟩ := h4
  show ∃ R, (dE (dS4 G)).2.2.2.1 = _
  generalize dS4 G = s1 at e
  obtain ⟨sg, nm, ct, t, G1⟩ := s1
  have e : t = daysT (2 + drw G 6) ++ R := e
  by_cases q : drw G1 2 = 0
  · rw [dE_y q]
    exact ⟨_, by show t ++ _ = _; rw [e, List.append_assoc]⟩
  · rw [dE_n q]
    exact ⟨R, e⟩
/-- the class reads the drawn season's text as it was drawn -/
theorem parse_drawn {bf : Nat → Int32} (G : Nat) (h : Bts (dS5 G).2.2.2.1 bf) : ∃ dt, parseL (dS5 G).2.2.2.1.length bf = Sum.inr ((dS5 G).2.2.2.1.length, (dS5 G).1, (dS5 G).2.1, (dS5 G).2.2.1, dt) := by
  have d6 := drw_lt G (show 1 ≤ 6 by omega)
  obtain ⟨-, -, -, -, n, dt, ⟨j1, j2, j3⟩, -⟩ := dS_j (dS5 G).2.2.2.1 bf G
  obtain ⟨r1, r2⟩ := j3 h
  have pre : ∃ R, (dS5 G).2.2.2.1 = daysT (2 + drw G 6) ++ R := dS_pre G
  obtain ⟨R, hR⟩ := pre
  have dl := days_ok h (by omega) (by omega) hR
  refine ⟨dt, ?_⟩
  unfold parseL
  rw [dl]
  have k := r2 [] (List.append_nil _).symm ((dS5 G).2.2.2.1.length + 1 - n)
  rw [show (dS5 G).2.2.2.1.length + 1 - n + n = (dS5 G).2.2.2.1.length + 1 by omega] at k
  refine k.trans ?_
  obtain ⟨f, hf⟩ : ∃ f, (dS5 G).2.2.2.1.length + 1 - n = f + 1 := ⟨(dS5 G).2.2.2.1.length - n, by omega⟩
  rw [hf]
  have te : tK (dS5 G).2.2.2.1.length bf (dS5 G).2.2.2.1.length = 0 := tok_end h ⟨rfl, fun i hi => absurd hi (Nat.not_lt_zero _)⟩
  show (if tK (dS5 G).2.2.2.1.length bf (dS5 G).2.2.2.1.length = 0 then _ else _) = _
  rw [if_pos te]
