/-! THE DRAWN SEASON'S TEXT IS READ AS IT WAS DRAWN -/
abbrev P4 : Type := (Nat → Nat) × (Nat → List Nat) × (Nat → Nat) × Bool
/-- the class has read what was drawn so far: n statements -/
def RdS (tx : List Nat) (bf : Nat → Int32) (q0 : Nat) (S0 : P4) (s : DS) (dt : Bool) (n : Nat) : Prop := n ≤ s.2.2.2.1.length ∧ ∀ R, tx = s.2.2.2.1 ++ R → ∀ f, stmtsL tx.length bf (f + n) (q0, S0) = stmtsL tx.length bf f (s.2.2.2.1.length, s.1, s.2.1, s.2.2.1, dt)
section RW
variable {tx : List Nat} {bf : Nat → Int32} {q0 n : Nat} {S0 : P4}
theorem RdS.step {sg sg2 ct ct2 : Nat → Nat} {nm nm2 : Nat → List Nat} {t st : List Nat} {G G2 : Nat} {dt dt2 : Bool} (h : RdS tx bf q0 S0 (sg, nm, ct, t, G) dt n) (hl : 1 ≤ st.length) (g : ∀ R, Rs tx t.length (st ++ R) → Go tx bf t.length (sg, nm, ct, dt) R (sg2, nm2, ct2, dt2) 1) : RdS tx bf q0 S0 (sg2, nm2, ct2, t ++ st, G2) dt2 (n + 1) := by
  obtain ⟨h1, h2⟩ := h
  have h1 : n ≤ t.length := h1
  refine ⟨by show n + 1 ≤ (t ++ st).length; rw [List.length_append]; omega, fun R hR f => ?_⟩
  have hR : tx = (t ++ st) ++ R := hR
  have e1 : tx = t ++ (st ++ R) := by rw [hR, List.append_assoc]
  have r := Rs.mk0 t (st ++ R)
  rw [← e1] at r
  obtain ⟨q, q1, q2, q3⟩ := g R r
  have eq_ : q = (t ++ st).length := by
    have l1 := q2.1
    have l2 : tx.length = (t ++ st).length + R.length := by rw [hR, List.length_append]
    omega
  have a := h2 (st ++ R) e1 (f + 1)
  rw [show f + 1 + n = f + (n + 1) by omega] at a
  rw [a]
  have b := q3 f
  rw [eq_] at b
  exact b
end RW
/-- a step's invariant: what holds, the length of the text, how much is read -/
def JS (tx : List Nat) (bf : Nat → Int32) (q0 : Nat) (S0 : P4) (s : DS) (dt : Bool) (n a : Nat) : Prop := DI s ∧ s.2.2.2.1.length ≤ a ∧ (Bts tx bf → RdS tx bf q0 S0 s dt n)
theorem dig3 {v : Nat} (h : v < 1000) : (dig v).length ≤ 3 := (dig_len h).2.1
section RV
variable {tx : List Nat} {bf : Nat → Int32} {q0 n a : Nat} {S0 : P4} {dt : Bool}
theorem RdS.g {sg ct : Nat → Nat} {nm : Nat → List Nat} {t : List Nat} {G G2 : Nat} (h : RdS tx bf q0 S0 (sg, nm, ct, t, G) dt n) : RdS tx bf q0 S0 (sg, nm, ct, t, G2) dt n := ⟨h.1, h.2⟩
theorem JS.g {sg ct : Nat → Nat} {nm : Nat → List Nat} {t : List Nat} {G G2 : Nat} (h : JS tx bf q0 S0 (sg, nm, ct, t, G) dt n a) : JS tx bf q0 S0 (sg, nm, ct, t, G2) dt n a := ⟨⟨h.1.1, h.1.2.1, h.1.2.2⟩, h.2.1, fun hb => (h.2.2 hb).g⟩
theorem JS.nxt {s : DS} (h : JS tx bf q0 S0 s dt n a) : JS tx bf q0 S0 (dnx s) dt n a := by
  obtain ⟨sg, nm, ct, t, G⟩ := s
  exact h.g
theorem JS.hall {s : DS} (h : JS tx bf q0 S0 s dt n a) (hk : s.1 1 < 3) : JS tx bf q0 S0 (dH s) dt (n + 1) (a + 11) ∧ (dH s).1 1 = s.1 1 + 1 ∧ ∀ k, 2 ≤ k → k < 6 → (dH s).1 k = s.1 k := by
  obtain ⟨sg, nm, ct, t, G⟩ := s
  obtain ⟨h1, h2, h3⟩ := h
  obtain ⟨i1, i2, i3⟩ := dH_i h1 hk
  have d := drw_lt G (show 1 ≤ 3 by omega)
  refine ⟨⟨i1, ?_, fun hb => ?_⟩, i2, i3⟩
  · show (t ++ hallT (sg 1) (drw G 3)).length ≤ a + 11
    have l := dig3 (v := drw G 3) (by omega)
    have h2 : t.length ≤ a := h2
    unfold hallT
    rw [List.length_append, List.length_append, List.length_cons, List.length_cons, List.length_cons, List.length_append]
    show t.length + (4 + ((dig (drw G 3)).length + 1 + 1 + 1 + 1)) ≤ a + 11
    omega
  · refine (h3 hb).step ?_ fun R hr => go_hall hb h1.1 (by omega) hk hr
    unfold hallT
    rw [List.length_append]
    show 1 ≤ 4 + _
    omega
theorem JS.play {s : DS} (h : JS tx bf q0 S0 s dt n a) (hk : s.1 2 < 7) : JS tx bf q0 S0 (dP s) dt (n + 1) (a + 21) ∧ (dP s).1 2 = s.1 2 + 1 ∧ (∀ k, k < 9 → k ≠ 2 → k ≠ 4 → (dP s).1 k = s.1 k) ∧ 1 ≤ (dP s).1 4 := by
  obtain ⟨sg, nm, ct, t, G⟩ := s
  obtain ⟨h1, h2, h3⟩ := h
  have hk : sg 2 < 7 := hk
  obtain ⟨i1, i2, i3, i4⟩ := dP_i h1 hk
  have dc := drw_lt G (show 1 ≤ 6 by omega)
  have df := drw_lt (nx G) (show 1 ≤ 90 by omega)
  refine ⟨⟨i1, ?_, fun hb => ?_⟩, i2, i3, i4⟩
  · show (t ++ playT (sg 2) (drw G 6) (drw (nx G) 90) (pMain sg G) (pOther sg G) (pBoth sg G)).length ≤ a + 21
    have l1 := dig3 (v := drw G 6) (by omega)
    have l2 := dig3 (v := drw (nx G) 90) (by omega)
    have h2 : t.length ≤ a := h2
    have l3 : (endT (pOther sg G) (pBoth sg G)).length ≤ 3 := by unfold endT; split <;> (show _ + 1 ≤ 3) <;> (try show 0 + 1 + 1 + 1 ≤ 3) <;> (try show 0 + 1 ≤ 3) <;> omega
    unfold playT
    rw [List.length_append, List.length_append, List.length_cons, List.length_cons, List.length_cons, List.length_append, List.length_cons, List.length_append, List.length_cons, List.length_cons]
    show t.length + (6 + ((dig (drw G 6)).length + ((dig (drw (nx G) 90)).length + ((endT (pOther sg G) (pBoth sg G)).length + 1 + 1) + 1) + 1 + 1 + 1)) ≤ a + 21
    omega
  · refine (h3 hb).step ?_ fun R hr => go_player hb h1.1 (by omega) (by omega) hk (pMain_lt sg G).1 (pMain_lt sg G).2 (pOther_lt sg G).1 (pOther_lt sg G).2 pBoth_ne hr
    unfold playT
    rw [List.length_append]
    show 1 ≤ 6 + _
    omega
theorem seatsT_len : ∀ l : List Nat, (seatsT l).length = 2 * l.length
  | [] => rfl
  | y :: l => by
    show (seatsT l).length + 1 + 1 = 2 * (l.length + 1)
    rw [seatsT_len l]; omega
theorem JS.work {s : DS} (h : JS tx bf q0 S0 s dt n a) (hk : s.1 3 < 4) (h4 : 1 ≤ s.1 4) : JS tx bf q0 S0 (dW_ s) dt (n + 1) (a + 32) ∧ (dW_ s).1 3 = s.1 3 + 1 ∧ (∀ k, k < 65 → k ≠ 3 → (dW_ s).1 k = s.1 k) := by
  obtain ⟨sg, nm, ct, t, G⟩ := s
  obtain ⟨h1, h2, h3⟩ := h
  have hk : sg 3 < 4 := hk
  have h4 : 1 ≤ sg 4 := h4
  obtain ⟨i1, i2, i3⟩ := dW_i h1 hk h4
  have s0 : 2 ≤ sg 0 ∧ sg 0 ≤ 7 := h1.2.1
  have da := drw_lt (nx (nx G)) (show 1 ≤ 3 by omega)
  have dd := drw_lt (nx (nx (nx G))) (show 1 ≤ 200 by omega)
  have dl := drw_lt (nx (nx (nx (nx G)))) (show 1 ≤ 4 by omega)
  have wl := wLast_b (G := G) s0.1
  have sl := wSeats_len sg G
  refine ⟨⟨i1, ?_, fun hb => ?_⟩, i2, i3⟩
  · show (t ++ workT (sg 3) (drw (nx (nx G)) 3) (wFirst G) (wLast sg G) (drw (nx (nx (nx G))) 200) (wSeats sg G)).length ≤ a + 32
    have l1 := dig3 (v := drw (nx (nx G)) 3) (by omega)
    have l2 := dig3 (v := wFirst G) (by omega)
    have l3 := dig3 (v := wLast sg G) (by omega)
    have l4 := dig3 (v := drw (nx (nx (nx G))) 200) (by omega)
    have l5 := seatsT_len (wSeats sg G)
    have h2 : t.length ≤ a := h2
    unfold workT
    rw [List.length_append, List.length_append, List.length_cons, List.length_cons, List.length_cons, List.length_append, List.length_cons, List.length_append, List.length_cons, List.length_append, List.length_cons, List.length_append, List.length_append]
    show t.length + (4 + ((dig (drw (nx (nx G)) 3)).length + ((dig (wFirst G)).length + ((dig (wLast sg G)).length + ((dig (drw (nx (nx (nx G))) 200)).length + ((seatsT (wSeats sg G)).length + 1) + 1) + 1) + 1) + 1 + 1 + 1)) ≤ a + 32
    omega
  · refine (h3 hb).step ?_ fun R hr => go_work hb h1.1 (by omega) wl.1 wl.2.1 (show sg 0 ≤ 30 by omega) (by omega) hk (fun e => by rw [e] at sl; exact absurd sl (by show ¬ 0 = 1 + _; omega)) (by omega) (wSeats_lt h4) hr
    unfold workT
    rw [List.length_append]
    show 1 ≤ 4 + _
    omega
theorem JS.abs {s : DS} (h : JS tx bf q0 S0 s dt n a) {k : Nat} (hk : k < s.1 2) (hz : oP s.1 k 1 = 0) : ∃ n2, JS tx bf q0 S0 (dA k s) dt n2 (a + 13) ∧ ∀ i, i ≠ 9 + 7 * k + 1 → (dA k s).1 i = s.1 i := by
  obtain ⟨sg, nm, ct, t, G⟩ := s
  obtain ⟨h1, h2, h3⟩ := h
  obtain ⟨i1, i2⟩ := dA_i h1 hk
  have s0 : 2 ≤ sg 0 ∧ sg 0 ≤ 7 := h1.2.1
  have h2 : t.length ≤ a := h2
  by_cases q : drw G 4 = 0
  · rw [dA_y q] at i1 i2 ⊢
    have dd := drw_lt (nx G) (show 1 ≤ sg 0 by omega)
    refine ⟨n + 1, ⟨i1, ?_, fun hb => ?_⟩, i2⟩
    · show (t ++ absT k (drw (nx G) (sg 0))).length ≤ a + 13
      have l := dig3 (v := drw (nx G) (sg 0)) (by omega)
      unfold absT
      rw [List.length_append, List.length_append, List.length_cons, List.length_cons, List.length_cons, List.length_append]
      show t.length + (6 + ((dig (drw (nx G) (sg 0))).length + 1 + 1 + 1 + 1)) ≤ a + 13
      omega
    · refine (h3 hb).step ?_ fun R hr => go_absent hb h1.1 hk dd (show sg 0 ≤ 30 by omega) hz hr
      unfold absT
      rw [List.length_append]
      show 1 ≤ 6 + _
      omega
  · rw [dA_n q] at i1 i2 ⊢
    exact ⟨n, ⟨i1, Nat.le_trans h2 (by omega), fun hb => (h3 hb).g⟩, i2⟩
theorem JS.fee {s : DS} (h : JS tx bf q0 S0 s false n a) : ∃ n2 dt2, JS tx bf q0 S0 (dE s) dt2 n2 (a + 11) ∧ ∀ i, i ≠ 5 → (dE s).1 i = s.1 i := by
  obtain ⟨sg, nm, ct, t, G⟩ := s
  obtain ⟨h1, h2, h3⟩ := h
  obtain ⟨i1, i2⟩ := dE_i h1
  have h2 : t.length ≤ a := h2
  by_cases q : drw G 2 = 0
  · rw [dE_y q] at i1 i2 ⊢
    have dd := drw_lt (nx G) (show 1 ≤ 50 by omega)
    refine ⟨n + 1, true, ⟨i1, ?_, fun hb => ?_⟩, i2⟩
    · show (t ++ dblT (drw (nx G) 50)).length ≤ a + 11
      have l := dig3 (v := drw (nx G) 50) (by omega)
      unfold dblT
      rw [List.length_append, List.length_append, List.length_cons, List.length_append]
      show t.length + (6 + ((dig (drw (nx G) 50)).length + 1 + 1)) ≤ a + 11
      omega
    · refine (h3 hb).step ?_ fun R hr => go_double hb (by omega) hr
      unfold dblT
      rw [List.length_append]
      show 1 ≤ 6 + _
      omega
  · rw [dE_n q] at i1 i2 ⊢
    exact ⟨n, false, ⟨i1, Nat.le_trans h2 (by omega), fun hb => (h3 hb).g⟩, i2⟩
end RV
