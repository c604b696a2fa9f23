/-! THE WHOLE DRAWN SEASON is read -/
/-- nobody is absent yet; no work has more than four seats -/
def JX (s : DS) : Prop := (∀ k, k < 8 → oP s.1 k 1 = 0) ∧ ∀ w, w < s.1 3 → oW s.1 w 4 ≤ 4
section RU
variable {tx : List Nat} {bf : Nat → Int32} {q0 n a : Nat} {S0 : P4} {dt : Bool}
theorem dH_x {s : DS} (h : JX s) (hk : s.1 1 < 3) : JX (dH s) := by
  obtain ⟨sg, nm, ct, t, G⟩ := s
  obtain ⟨h1, h2⟩ := h
  have h1 : ∀ k, k < 8 → oP sg k 1 = 0 := h1
  have h2 : ∀ w, w < sg 3 → oW sg w 4 ≤ 4 := h2
  have hk : sg 1 < 3 := hk
  refine ⟨fun k hk2 => ?_, fun w hw => ?_⟩
  · show hallS sg _ (9 + 7 * k + 1) = 0
    rw [hallS_oo (by omega) (by omega)]; exact h1 k hk2
  · have hw : w < hallS sg (drw G 3) 3 := hw
    rw [hallS_oo (by omega) (by omega)] at hw
    show hallS sg _ (65 + 11 * w + 4) ≤ 4
    rw [hallS_oo (by omega) (by omega)]; exact h2 w hw
theorem dP_x {s : DS} (h : JX s) (hk : s.1 2 < 7) (hz : oP s.1 (s.1 2) 2 = 0) (h3 : s.1 3 = 0) : JX (dP s) := by
  obtain ⟨sg, nm, ct, t, G⟩ := s
  obtain ⟨h1, h2⟩ := h
  have h1 : ∀ k, k < 8 → oP sg k 1 = 0 := h1
  have hk : sg 2 < 7 := hk
  have hz : oP sg (sg 2) 2 = 0 := hz
  have h3 : sg 3 = 0 := h3
  obtain ⟨v2, v0, v1, -⟩ := pyS_v (f := drw (nx G) 90) (m := pMain sg G) (o := pOther sg G) (both := pBoth sg G) (h1 (sg 2) (by omega)) hz
  refine ⟨fun k hk2 => ?_, fun w hw => ?_⟩
  · by_cases e : k = sg 2
    · rw [e]; exact v1
    · have := h1 k hk2
      show pyS sg _ _ _ _ (9 + 7 * k + 1) = 0
      rw [pyS_o (by omega) (by omega) (by omega) hz]; exact this
  · have hw : w < pyS sg (drw (nx G) 90) (pMain sg G) (pOther sg G) (pBoth sg G) 3 := hw
    rw [pyS_o (by omega) (by omega) (by omega) hz] at hw
    omega
theorem dW_x {s : DS} (h : JX s) (hk : s.1 3 < 4) (hz : oW s.1 (s.1 3) 4 = 0) : JX (dW_ s) := by
  obtain ⟨sg, nm, ct, t, G⟩ := s
  obtain ⟨h1, h2⟩ := h
  have h1 : ∀ k, k < 8 → oP sg k 1 = 0 := h1
  have h2 : ∀ w, w < sg 3 → oW sg w 4 ≤ 4 := h2
  have hk : sg 3 < 4 := hk
  have hz : oW sg (sg 3) 4 = 0 := hz
  have dl := drw_lt (nx (nx (nx (nx G)))) (show 1 ≤ 4 by omega)
  have sl := wSeats_len sg G
  obtain ⟨v3, -, v4, -, vo⟩ := wkS_v (a := drw (nx (nx G)) 3) (b := wFirst G) (c := wLast sg G) (d := drw (nx (nx (nx G))) 200) (l := wSeats sg G) hz
  refine ⟨fun k hk2 => ?_, fun w hw => ?_⟩
  · have := h1 k hk2
    show wkS sg _ _ _ _ _ (9 + 7 * k + 1) = 0
    rw [vo _ (by omega) (by omega)]; exact this
  · have hw : w < wkS sg (drw (nx (nx G)) 3) (wFirst G) (wLast sg G) (drw (nx (nx (nx G))) 200) (wSeats sg G) 3 := hw
    rw [v3] at hw
    by_cases e : w = sg 3
    · rw [e]
      show oW (wkS sg _ _ _ _ _) (sg 3) 4 ≤ 4
      rw [v4]; omega
    · have := h2 w (by omega)
      show wkS sg _ _ _ _ _ (65 + 11 * w + 4) ≤ 4
      rw [vo _ (by omega) (by omega)]; exact this
theorem j_halls {s : DS} (h : JS tx bf q0 S0 s dt n a) (hx : JX s) (h0 : s.1 1 = 0) : ∀ k, k ≤ 3 → JS tx bf q0 S0 (dN dH k s) dt (n + k) (a + 11 * k) ∧ JX (dN dH k s) ∧ (dN dH k s).1 1 = k ∧ ∀ i, i = 0 ∨ (2 ≤ i ∧ i < 6) → (dN dH k s).1 i = s.1 i
  | 0, _ => ⟨h, hx, h0, fun _ _ => rfl⟩
  | k + 1, hk => by
    obtain ⟨a1, a2, a3, a4⟩ := j_halls h hx h0 k (by omega)
    have e1 : (dN dH k s).1 1 < 3 := by omega
    obtain ⟨b1, b2, b3⟩ := a1.hall e1
    refine ⟨?_, dH_x a2 e1, by show (dH (dN dH k s)).1 1 = k + 1; omega, fun i hi => ?_⟩
    · have e : a + 11 * (k + 1) = a + 11 * k + 11 := by omega
      rw [e]; exact b1
    · rw [← a4 i hi]
      rcases hi with e | e
      · subst e
        show hallS (dN dH k s).1 _ 0 = _
        exact hallS_oo (by omega) (by omega)
      · exact b3 i e.1 e.2
theorem j_plays {s : DS} (h : JS tx bf q0 S0 s dt n a) (hx : JX s) (h0 : s.1 2 = 0) (h3 : s.1 3 = 0) : ∀ k, k ≤ 7 → JS tx bf q0 S0 (dN dP k s) dt (n + k) (a + 21 * k) ∧ JX (dN dP k s) ∧ (dN dP k s).1 2 = k ∧ (∀ i, i < 9 → i ≠ 2 → i ≠ 4 → (dN dP k s).1 i = s.1 i) ∧ (1 ≤ k → 1 ≤ (dN dP k s).1 4)
  | 0, _ => ⟨h, hx, h0, fun _ _ _ _ => rfl, fun e => absurd e (by omega)⟩
  | k + 1, hk => by
    obtain ⟨a1, a2, a3, a4, a5⟩ := j_plays h hx h0 h3 k (by omega)
    have e1 : (dN dP k s).1 2 < 7 := by omega
    obtain ⟨b1, b2, b3, b4⟩ := a1.play e1
    have z := (a1.1.1.2.2.2.2.2.1 ((dN dP k s).1 2) (Nat.le_refl _) (by omega)).2
    refine ⟨?_, dP_x a2 e1 z (by rw [a4 3 (by omega) (by omega) (by omega)]; exact h3), by show (dP (dN dP k s)).1 2 = k + 1; omega, fun i h1 h2 h4 => (b3 i h1 h2 h4).trans (a4 i h1 h2 h4), fun _ => b4⟩
    have e : a + 21 * (k + 1) = a + 21 * k + 21 := by omega
    rw [e]; exact b1
theorem j_works {s : DS} (h : JS tx bf q0 S0 s dt n a) (hx : JX s) (h0 : s.1 3 = 0) (h4 : 1 ≤ s.1 4) : ∀ k, k ≤ 4 → JS tx bf q0 S0 (dN dW_ k s) dt (n + k) (a + 32 * k) ∧ JX (dN dW_ k s) ∧ (dN dW_ k s).1 3 = k ∧ ∀ i, i < 65 → i ≠ 3 → (dN dW_ k s).1 i = s.1 i
  | 0, _ => ⟨h, hx, h0, fun _ _ _ => rfl⟩
  | k + 1, hk => by
    obtain ⟨a1, a2, a3, a4⟩ := j_works h hx h0 h4 k (by omega)
    have e1 : (dN dW_ k s).1 3 < 4 := by omega
    obtain ⟨b1, b2, b3⟩ := a1.work e1 (by rw [a4 4 (by omega) (by omega)]; exact h4)
    have z := a1.1.1.2.2.2.2.2.2 ((dN dW_ k s).1 3) (Nat.le_refl _) (by omega)
    refine ⟨?_, dW_x a2 e1 z, by show (dW_ (dN dW_ k s)).1 3 = k + 1; omega, fun i h1 h3 => (b3 i h1 h3).trans (a4 i h1 h3)⟩
    have e : a + 32 * (k + 1) = a + 32 * k + 32 := by omega
    rw [e]; exact b1
theorem j_abs {s : DS} (h : JS tx bf q0 S0 s dt n a) (hx : JX s) : ∀ k, k ≤ s.1 2 → k ≤ 7 → ∃ n2, JS tx bf q0 S0 (dAs k s) dt n2 (a + 13 * k) ∧ ∀ i, (∀ j, j < k → i ≠ 9 + 7 * j + 1) → (dAs k s).1 i = s.1 i := by
  intro k
  induction k with
  | zero => exact fun _ _ => ⟨n, h, fun _ _ => rfl⟩
  | succ k ih =>
    intro hk h7
    obtain ⟨n1, a1, a2⟩ := ih (by omega) (by omega)
    rw [show dAs (k + 1) s = dA k (dAs k s) from rfl]
    generalize dAs k s = s1 at a1 a2 ⊢
    have e2 : s1.1 2 = s.1 2 := a2 2 fun j hj => by omega
    have ez : oP s1.1 k 1 = 0 := by
      have e3 : oP s1.1 k 1 = oP s.1 k 1 := a2 (9 + 7 * k + 1) fun j hj => by omega
      rw [e3]; exact hx.1 k (by omega)
    obtain ⟨n2, b1, b2⟩ := a1.abs (k := k) (by omega) ez
    refine ⟨n2, ?_, fun i hi => (b2 i (hi k (by omega))).trans (a2 i fun j hj => hi j (by omega))⟩
    have e : a + 13 * (k + 1) = a + 13 * k + 13 := by omega
    rw [e]; exact b1
theorem stG_1 (s : DS) (g : Nat) : ((s.1, s.2.1, s.2.2.1, s.2.2.2.1, g) : DS).1 = s.1 := rfl
theorem stG_t (s : DS) (g : Nat) : ((s.1, s.2.1, s.2.2.1, s.2.2.2.1, g) : DS).2.2.2.1 = s.2.2.2.1 := rfl
theorem dnx_1 (s : DS) : (dnx s).1 = s.1 := stG_1 s (nx (dG s))
theorem dnx_t (s : DS) : (dnx s).2.2.2.1 = s.2.2.2.1 := stG_t s (nx (dG s))
theorem JX.nxt {s : DS} (h : JX s) : JX (dnx s) := by
  unfold JX
  rw [dnx_1]
  exact h
end RU
/-- the days' statement is read -/
theorem days_ok {tx R : List Nat} {bf : Nat → Int32} (h : Bts tx bf) {d : Nat} (h1 : 1 ≤ d) (h30 : d ≤ 30) (hr : tx = daysT d ++ R) : daysL tx.length bf 0 = Sum.inr ((daysT d).length, d) := by
  have r0 : Rs tx 0 (daysT d ++ R) := by rw [← hr]; exact ⟨Nat.zero_add _, fun i _ => by rw [Nat.zero_add]⟩
  have e : daysT d ++ R = kw 0 ++ (32 :: (dig d ++ (59 :: R))) := by
    unfold daysT
    rw [List.append_assoc, List.cons_append, List.append_assoc]; rfl
  have r0b := r0
  rw [e] at r0
  obtain ⟨p1, l1, r1, a1, b1, c1⟩ := tkk h (by omega) r0
  obtain ⟨p2, l2, r2, a2, b2, c2⟩ := tk2 h (by omega) r1 (Or.inr (by rfl))
  obtain ⟨p3, l3, r3, a3, c3⟩ := tks h r2
  have e0 := nerr_ok (lo := 1) (hi := 30) a2 b2 h1 h30
  have eq_ : p3 = (daysT d).length := by
    have l1 := r3.1
    have l2 := r0b.1
    rw [List.length_append] at l2
    omega
  unfold daysL
  rw [if_pos (isw_y a1 b1), c1, e0, if_pos rfl, c2, a3, if_pos rfl, c3, b2, eq_]
theorem dD0_j (tx : List Nat) (bf : Nat → Int32) (G : Nat) : JS tx bf (daysT (2 + drw G 6)).length (sgi (2 + drw G 6), fun _ => [], fun _ => 0, false) (dD0 G) false 0 9 ∧ JX (dD0 G) := by
  have d := drw_lt G (show 1 ≤ 6 by omega)
  have s0 : ∀ k, k ≠ 0 → sgi (2 + drw G 6) k = 0 := fun k hk => sgi_o _ hk
  have e0 : sgi (2 + drw G 6) 0 = 2 + drw G 6 := rfl
  have dI : NMs (sgi (2 + drw G 6)) (fun _ => []) ∧ (2 ≤ sgi (2 + drw G 6) 0 ∧ sgi (2 + drw G 6) 0 ≤ 7) ∧ ∀ k, k ∈ daysT (2 + drw G 6) → k < 128 := by
    refine ⟨?_, by omega, m128_app (kw_128 0 (by omega)) (m128_c (by omega) (m128_app (dig_128 (by omega)) (m128_c (by omega) m128_n)))⟩
    unfold NMs
    rw [s0 1 (by omega), s0 2 (by omega), s0 3 (by omega), s0 4 (by omega)]
    exact ⟨fun k hk => absurd hk (by omega), fun k hk => absurd hk (by omega), fun k hk => absurd hk (by omega), fun k hk => absurd hk (by omega), by omega, fun k _ _ => ⟨s0 _ (by omega), s0 _ (by omega)⟩, fun w _ _ => s0 _ (by omega)⟩
  refine ⟨⟨dI, ?_, fun _ => ⟨Nat.zero_le _, fun R _ f => rfl⟩⟩, fun k _ => ?_, fun w hw => ?_⟩
  · show (daysT (2 + drw G 6)).length ≤ 9
    have l := dig3 (v := 2 + drw G 6) (by omega)
    unfold daysT
    rw [List.length_append, List.length_cons, List.length_append]
    show 4 + ((dig (2 + drw G 6)).length + 1 + 1) ≤ 9
    omega
  · show sgi (2 + drw G 6) (9 + 7 * k + 1) = 0
    exact s0 _ (by omega)
  · have hw : w < sgi (2 + drw G 6) 3 := hw
    rw [s0 3 (by omega)] at hw
    exact absurd hw (Nat.not_lt_zero _)
section RX
variable {tx : List Nat} {bf : Nat → Int32} {q0 : Nat} {S0 : P4}
theorem JS.lift {s : DS} {dt : Bool} {n a b : Nat} (h : JS tx bf q0 S0 s dt n a) (hab : a ≤ b) : JS tx bf q0 S0 s dt n b := ⟨h.1, Nat.le_trans h.2.1 hab, h.2.2⟩
/-- the drawn season's states, one after another -/
theorem dS_g {s0 s1 s2 s3 s4 s5 : DS} {dd hh pp ww : Nat} (j0 : JS tx bf q0 S0 s0 false 0 9) (x0 : JX s0) (z0 : s0.1 0 = dd) (z1 : s0.1 1 = 0) (z2 : s0.1 2 = 0) (z3 : s0.1 3 = 0) (z4 : s0.1 4 = 0) (z5 : s0.1 5 = 0) (lh : hh ≤ 3) (lp : pp ≤ 7) (lp1 : 1 ≤ pp) (lw : ww ≤ 4) (e1 : dN dH hh s0 = s1) (e2 : dN dP pp (dnx s1) = s2) (e3 : dN dW_ ww (dnx s2) = s3) (e4 : dAs pp s3 = s4) (e5 : dE s4 = s5) :
    (∃ n, JS tx bf q0 S0 s1 false n 42 ∧ JX s1 ∧ s1.1 0 = dd ∧ s1.1 1 = hh ∧ s1.1 2 = 0 ∧ s1.1 3 = 0 ∧ s1.1 4 = 0 ∧ s1.1 5 = 0) ∧
    (∃ n, JS tx bf q0 S0 s2 false n 189 ∧ JX s2 ∧ s2.1 0 = dd ∧ s2.1 1 = hh ∧ s2.1 2 = pp ∧ s2.1 3 = 0 ∧ 1 ≤ s2.1 4 ∧ s2.1 5 = 0) ∧
    (∃ n, JS tx bf q0 S0 s3 false n 317 ∧ JX s3 ∧ (∀ i, i < 65 → i ≠ 3 → s3.1 i = s2.1 i) ∧ s3.1 3 = ww) ∧
    (∃ n, JS tx bf q0 S0 s4 false n 408 ∧ ∀ i, (∀ j, j < 7 → i ≠ 9 + 7 * j + 1) → s4.1 i = s3.1 i) ∧
    ∃ n dt, JS tx bf q0 S0 s5 dt n 419 ∧ ∀ i, i ≠ 5 → s5.1 i = s4.1 i := by
  obtain ⟨a1, a2, a3, a4⟩ := j_halls j0 x0 z1 hh lh
  rw [e1] at a1 a2 a3 a4
  have A0 := (a4 0 (by omega)).trans z0
  have A2 := (a4 2 (by omega)).trans z2
  have A3 := (a4 3 (by omega)).trans z3
  have A4 := (a4 4 (by omega)).trans z4
  have A5 := (a4 5 (by omega)).trans z5
  obtain ⟨b1, b2, b3, b4, b5⟩ := j_plays a1.nxt a2.nxt (by rw [dnx_1]; exact A2) (by rw [dnx_1]; exact A3) pp lp
  rw [e2] at b1 b2 b3 b4 b5
  rw [dnx_1] at b4
  have b5 := b5 lp1
  have B3 : s2.1 3 = 0 := (b4 3 (by omega) (by omega) (by omega)).trans A3
  obtain ⟨c1, c2, c3, c4⟩ := j_works b1.nxt b2.nxt (by rw [dnx_1]; exact B3) (by rw [dnx_1]; exact b5) ww lw
  rw [e3] at c1 c2 c3 c4
  rw [dnx_1] at c4
  have C2 : s3.1 2 = pp := (c4 2 (by omega) (by omega)).trans b3
  obtain ⟨n4, g1, g2⟩ := j_abs c1 c2 pp (by omega) lp
  rw [e4] at g1 g2
  obtain ⟨n5, dt5, f1, f2⟩ := g1.fee
  rw [e5] at f1 f2
  exact ⟨⟨_, a1.lift (by omega), a2, A0, a3, A2, A3, A4, A5⟩, ⟨_, b1.lift (by omega), b2, (b4 0 (by omega) (by omega) (by omega)).trans A0, (b4 1 (by omega) (by omega) (by omega)).trans a3, b3, B3, b5, (b4 5 (by omega) (by omega) (by omega)).trans A5⟩, ⟨_, c1.lift (by omega), c2, c4, c3⟩, ⟨n4, g1.lift (by omega), fun i hi => g2 i fun j hj => hi j (by omega)⟩, n5, dt5, f1.lift (by omega), f2⟩
/-- a text with a beginning keeps it -/
def Pre (d : Nat) (s : DS) : Prop := ∃ R, s.2.2.2.1 = daysT d ++ R
theorem Pre.app {d : Nat} {sg sg2 ct ct2 : Nat → Nat} {nm nm2 : Nat → List Nat} {t t2 : List Nat} {G G2 : Nat} (h : Pre d (sg, nm, ct, t, G)) : Pre d (sg2, nm2, ct2, t ++ t2, G2) := by
  obtain ⟨R, e⟩ := h
  have e : t = daysT d ++ R := e
  exact ⟨R ++ t2, by show t ++ t2 = _; rw [e, List.append_assoc]⟩
theorem Pre.same {d : Nat} {sg sg2 ct ct2 : Nat → Nat} {nm nm2 : Nat → List Nat} {t : List Nat} {G G2 : Nat} (h : Pre d (sg, nm, ct, t, G)) : Pre d (sg2, nm2, ct2, t, G2) := h
theorem Pre.nxt {d : Nat} {s : DS} (h : Pre d s) : Pre d (dnx s) := by
  unfold Pre
  rw [dnx_t]
  exact h
theorem Pre.h {d : Nat} {s : DS} (h : Pre d s) : ∀ k, Pre d (dN dH k s) := by
  intro k
  induction k with
  | zero => exact h
  | succ k ih =>
    rw [show dN dH (k + 1) s = dH (dN dH k s) from rfl]
    generalize dN dH k s = s1 at ih ⊢
    obtain ⟨sg, nm, ct, t, G⟩ := s1
    exact ih.app
theorem Pre.p {d : Nat} {s : DS} (h : Pre d s) : ∀ k, Pre d (dN dP k s) := by
  intro k
  induction k with
  | zero => exact h
  | succ k ih =>
    rw [show dN dP (k + 1) s = dP (dN dP k s) from rfl]
    generalize dN dP k s = s1 at ih ⊢
    obtain ⟨sg, nm, ct, t, G⟩ := s1
    exact ih.app
theorem Pre.w {d : Nat} {s : DS} (h : Pre d s) : ∀ k, Pre d (dN dW_ k s) := by
  intro k
  induction k with
  | zero => exact h
  | succ k ih =>
    rw [show dN dW_ (k + 1) s = dW_ (dN dW_ k s) from rfl]
    generalize dN dW_ k s = s1 at ih ⊢
    obtain ⟨sg, nm, ct, t, G⟩ := s1
    exact ih.app
theorem Pre.a {d : Nat} {s : DS} (h : Pre d s) : ∀ k, Pre d (dAs k s) := by
  intro k
  induction k with
  | zero => exact h
  | succ k ih =>
    rw [show dAs (k + 1) s = dA k (dAs k s) from rfl]
    generalize dAs k s = s1 at ih ⊢
    obtain ⟨sg, nm, ct, t, G⟩ := s1
    by_cases q : drw G 4 = 0
    · rw [dA_y q]; exact ih.app
    · rw [dA_n q]; exact ih.same
theorem Pre.e {d : Nat} {s : DS} (ih : Pre d s) : Pre d (dE s) := by
  obtain ⟨sg, nm, ct, t, G⟩ := s
  by_cases q : drw G 2 = 0
  · rw [dE_y q]; exact ih.app
  · rw [dE_n q]; exact ih.same
end RX
/-- the class reads a drawn text as it was drawn -/
theorem parse_g {bf : Nat → Int32} {s5 : DS} {d : Nat} (d1 : 1 ≤ d) (d30 : d ≤ 30) {n : Nat} {dt : Bool} (h : Bts s5.2.2.2.1 bf) (j : JS s5.2.2.2.1 bf (daysT d).length (sgi d, fun _ => [], fun _ => 0, false) s5 dt n 419) (pre : Pre d s5) : parseL s5.2.2.2.1.length bf = Sum.inr (s5.2.2.2.1.length, s5.1, s5.2.1, s5.2.2.1, dt) := by
  obtain ⟨sg, nm, ct, t, G⟩ := s5
  obtain ⟨j1, j2, j3⟩ := j
  obtain ⟨r1, r2⟩ := j3 h
  obtain ⟨R, hR⟩ := pre
  have h : Bts t bf := h
  have r1 : n ≤ t.length := r1
  have hR : t = daysT d ++ R := hR
  have r2 : ∀ R, t = t ++ R → ∀ f, stmtsL t.length bf (f + n) ((daysT d).length, sgi d, fun _ => [], fun _ => 0, false) = stmtsL t.length bf f (t.length, sg, nm, ct, dt) := r2
  show parseL t.length bf = Sum.inr (t.length, sg, nm, ct, dt)
  have dl := days_ok h d1 d30 hR
  have k := r2 [] (List.append_nil _).symm (t.length + 1 - n)
  rw [show t.length + 1 - n + n = t.length + 1 by omega] at k
  unfold parseL
  rw [dl]
  refine Eq.trans k ?_
  obtain ⟨f, hf⟩ : ∃ f, t.length + 1 - n = f + 1 := ⟨t.length - n, by omega⟩
  rw [hf]
  have te : tK t.length bf t.length = 0 := tok_end h ⟨rfl, fun i hi => absurd hi (Nat.not_lt_zero _)⟩
  unfold stmtsL
  rw [if_pos te]
