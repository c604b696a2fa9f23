/-! THE DRAWN SEASON, purely: what is told, its text, the drawing behind it -/
abbrev DS : Type := (Nat → Nat) × (Nat → List Nat) × (Nat → Nat) × List Nat × Nat
def nxn (G : Nat) : Nat → Nat
  | 0 => G
  | n + 1 => nx (nxn G n)
def daysT (d : Nat) : List Nat := kw 0 ++ (32 :: (dig d ++ [59]))
def dD0 (G : Nat) : DS := (sgi (2 + drw G 6), fun _ => [], fun _ => 0, daysT (2 + drw G 6), nx (nx G))
def dH : DS → DS
  | (sg, nm, ct, tx, G) => (hallS sg (drw G 3), updN nm (sg 1) [97 + sg 1], ct, tx ++ hallT (sg 1) (drw G 3), nx G)
def mi4 (k : Nat) : Nat := if k + 1 < 4 then k + 1 else 4
def kd1 (sg : Nat → Nat) (m : Nat) : Nat := if m < sg 4 then sg 4 else sg 4 + 1
def pMain (sg : Nat → Nat) (G : Nat) : Nat := drw (nx (nx G)) (mi4 (sg 4))
def pOther (sg : Nat → Nat) (G : Nat) : Nat := drw (nx (nx (nx G))) (mi4 (kd1 sg (pMain sg G)))
def pBoth (sg : Nat → Nat) (G : Nat) : Bool := decide (pOther sg G ≠ pMain sg G ∧ drw (nx (nx (nx (nx G)))) 2 = 0)
def pG (sg : Nat → Nat) (G : Nat) : Nat := if pOther sg G = pMain sg G then nx (nx (nx (nx G))) else nx (nx (nx (nx (nx G))))
def dP : DS → DS
  | (sg, nm, ct, tx, G) => (pyS sg (drw (nx G) 90) (pMain sg G) (pOther sg G) (pBoth sg G), pyN sg nm (drw (nx G) 90) (pMain sg G) (pOther sg G) (pBoth sg G), ups ct (sg 2) (drw G 6), tx ++ playT (sg 2) (drw G 6) (drw (nx G) 90) (pMain sg G) (pOther sg G) (pBoth sg G), pG sg G)
def wFirst (G : Nat) : Nat := drw G 2
def wLast (sg : Nat → Nat) (G : Nat) : Nat := if drw G 2 < sg 0 - 1 - drw (nx G) 2 then sg 0 - 1 - drw (nx G) 2 else drw G 2
def wSeats (sg : Nat → Nat) (G : Nat) : List Nat := (List.range (1 + drw (nx (nx (nx (nx G)))) 4)).map (fun j => drw (nxn (nx (nx (nx (nx (nx G))))) j) (sg 4))
def wG (G : Nat) : Nat := nxn (nx (nx (nx (nx (nx G))))) (1 + drw (nx (nx (nx (nx G)))) 4)
def dW_ : DS → DS
  | (sg, nm, ct, tx, G) => (wkS sg (drw (nx (nx G)) 3) (wFirst G) (wLast sg G) (drw (nx (nx (nx G))) 200) (wSeats sg G), updN nm (16 + sg 3) [97 + sg 3], ct, tx ++ workT (sg 3) (drw (nx (nx G)) 3) (wFirst G) (wLast sg G) (drw (nx (nx (nx G))) 200) (wSeats sg G), wG G)
def dA (k : Nat) : DS → DS
  | (sg, nm, ct, tx, G) => if drw G 4 = 0 then (ups sg (9 + 7 * k + 1) (2 ^ drw (nx G) (sg 0)), nm, ct, tx ++ absT k (drw (nx G) (sg 0)), nx (nx G)) else (sg, nm, ct, tx, nx G)
def dE : DS → DS
  | (sg, nm, ct, tx, G) => if drw G 2 = 0 then (ups sg 5 (drw (nx G) 50), nm, ct, tx ++ dblT (drw (nx G) 50), nx (nx G)) else (sg, nm, ct, tx, nx G)
def dN (f : DS → DS) : Nat → DS → DS
  | 0, s => s
  | n + 1, s => f (dN f n s)
def dAs : Nat → DS → DS
  | 0, s => s
  | n + 1, s => dA n (dAs n s)
def dG (s : DS) : Nat := s.2.2.2.2
def dnx (s : DS) : DS := (s.1, s.2.1, s.2.2.1, s.2.2.2.1, nx (dG s))
/-- the season behind halls, players, works, absences, fee -/
def dS1 (G : Nat) : DS := dN dH (1 + drw (nx G) 3) (dD0 G)
def dS2 (G : Nat) : DS := dN dP (2 + drw (dG (dS1 G)) 6) (dnx (dS1 G))
def dS3 (G : Nat) : DS := dN dW_ (1 + drw (dG (dS2 G)) 4) (dnx (dS2 G))
def dS4 (G : Nat) : DS := dAs (2 + drw (dG (dS1 G)) 6) (dS3 G)
def dS5 (G : Nat) : DS := dE (dS4 G)
/-- what holds of a drawn season under way -/
def DI (s : DS) : Prop := NMs s.1 s.2.1 ∧ (2 ≤ s.1 0 ∧ s.1 0 ≤ 7) ∧ ∀ k, k ∈ s.2.2.2.1 → k < 128
section DR
variable {sg ct : Nat → Nat} {nm : Nat → List Nat} {tx : List Nat} {G : Nat}
theorem mi4_1 (k : Nat) : 1 ≤ mi4 k ∧ mi4 k ≤ 4 ∧ mi4 k ≤ k + 1 := by unfold mi4; split <;> omega
theorem pMain_lt (sg : Nat → Nat) (G : Nat) : pMain sg G ≤ sg 4 ∧ pMain sg G < 4 := by
  have h := mi4_1 (sg 4)
  have d := drw_lt (nx (nx G)) h.1
  unfold pMain
  omega
theorem pOther_lt (sg : Nat → Nat) (G : Nat) : pOther sg G ≤ kd1 sg (pMain sg G) ∧ pOther sg G < 4 := by
  have h := mi4_1 (kd1 sg (pMain sg G))
  have d := drw_lt (nx (nx (nx G))) h.1
  unfold pOther
  omega
theorem pBoth_ne {sg : Nat → Nat} {G : Nat} (h : pBoth sg G = true) : pOther sg G ≠ pMain sg G := (of_decide_eq_true h).1
theorem hallS_oo {v k : Nat} (h1 : k ≠ 1) (h2 : k ≠ 6 + sg 1) : hallS sg v k = sg k := by
  unfold hallS
  rw [ups_o _ _ _ h1, ups_o _ _ _ h2]
theorem kw_128 : ∀ i, i < 6 → ∀ k, k ∈ kw i → k < 128 := by decide +kernel
theorem m128_app {a b : List Nat} (ha : ∀ k, k ∈ a → k < 128) (hb : ∀ k, k ∈ b → k < 128) : ∀ k, k ∈ a ++ b → k < 128 := fun k hk => by
  rcases List.mem_append.mp hk with h | h
  · exact ha k h
  · exact hb k h
theorem m128_c {x : Nat} {b : List Nat} (hx : x < 128) (hb : ∀ k, k ∈ b → k < 128) : ∀ k, k ∈ x :: b → k < 128 := fun k hk => by
  rcases List.mem_cons.mp hk with h | h
  · rw [h]; exact hx
  · exact hb k h
theorem m128_n : ∀ k, k ∈ ([] : List Nat) → k < 128 := fun k hk => by cases hk
theorem dig_128 {v : Nat} (h : v < 1000) : ∀ k, k ∈ dig v → k < 128 := (dig_len h).2.2
/-- a hall -/
theorem dH_i (h : DI (sg, nm, ct, tx, G)) (hk : sg 1 < 3) : DI (dH (sg, nm, ct, tx, G)) ∧ (dH (sg, nm, ct, tx, G)).1 1 = sg 1 + 1 ∧ ∀ k, 2 ≤ k → k < 6 → (dH (sg, nm, ct, tx, G)).1 k = sg k := by
  have h : NMs sg nm ∧ (2 ≤ sg 0 ∧ sg 0 ≤ 7) ∧ ∀ k, k ∈ tx → k < 128 := h
  obtain ⟨⟨n1, n2, n3, n4, n5, n6, n7⟩, s0, m⟩ := h
  have e1 : hallS sg (drw G 3) 1 = sg 1 + 1 := ups_1 _ _ _
  have d3 := drw_lt G (show 1 ≤ 3 by omega)
  refine ⟨⟨⟨fun k hk2 => ?_, fun k hk2 => ?_, fun k hk2 => ?_, fun k hk2 => ?_, ?_, fun k h1 h2 => ?_, fun w h1 h2 => ?_⟩, ?_, ?_⟩, e1, fun k h1 h2 => hallS_oo (by omega) (by omega)⟩
  · have hk2 : k < sg 1 + 1 := by rw [← e1]; exact hk2
    show updN nm (sg 1) [97 + sg 1] k = _
    unfold updN
    by_cases c : k = sg 1
    · rw [if_pos c, c]
    · rw [if_neg c]; exact n1 k (by omega)
  · have hk2 : k < sg 2 := by rw [← hallS_oo (v := drw G 3) (sg := sg) (k := 2) (by omega) (by omega)]; exact hk2
    show updN nm (sg 1) [97 + sg 1] (8 + k) = _
    unfold updN
    rw [if_neg (by omega)]; exact n2 k hk2
  · have hk2 : k < sg 3 := by rw [← hallS_oo (v := drw G 3) (sg := sg) (k := 3) (by omega) (by omega)]; exact hk2
    show updN nm (sg 1) [97 + sg 1] (16 + k) = _
    unfold updN
    rw [if_neg (by omega)]; exact n3 k hk2
  · have hk2 : k < sg 4 := by rw [← hallS_oo (v := drw G 3) (sg := sg) (k := 4) (by omega) (by omega)]; exact hk2
    show updN nm (sg 1) [97 + sg 1] (24 + k) = _
    unfold updN
    rw [if_neg (by omega)]; exact n4 k hk2
  · show hallS sg (drw G 3) 1 ≤ 3 ∧ hallS sg (drw G 3) 2 ≤ 7 ∧ hallS sg (drw G 3) 3 ≤ 4 ∧ hallS sg (drw G 3) 4 ≤ 4
    rw [e1, hallS_oo (by omega) (by omega), hallS_oo (by omega) (by omega), hallS_oo (by omega) (by omega)]
    omega
  · have h1 : sg 2 ≤ k := by rw [← hallS_oo (v := drw G 3) (sg := sg) (k := 2) (by omega) (by omega)]; exact h1
    have := n6 k h1 h2
    show hallS sg (drw G 3) (9 + 7 * k + 1) = 0 ∧ hallS sg (drw G 3) (9 + 7 * k + 2) = 0
    rw [hallS_oo (by omega) (by omega), hallS_oo (by omega) (by omega)]
    exact this
  · have h1 : sg 3 ≤ w := by rw [← hallS_oo (v := drw G 3) (sg := sg) (k := 3) (by omega) (by omega)]; exact h1
    have := n7 w h1 h2
    show hallS sg (drw G 3) (65 + 11 * w + 4) = 0
    rw [hallS_oo (by omega) (by omega)]
    exact this
  · show 2 ≤ hallS sg (drw G 3) 0 ∧ hallS sg (drw G 3) 0 ≤ 7
    rw [hallS_oo (by omega) (by omega)]; exact s0
  · exact m128_app m (m128_app (kw_128 1 (by omega)) (m128_c (by omega) (m128_c (by omega) (m128_c (by omega) (m128_app (dig_128 (by omega)) (m128_c (by omega) m128_n))))))
/-- what a player changes -/
theorem pyS_o {f m o k : Nat} {both : Bool} (h2 : k ≠ 2) (h4 : k ≠ 4) (hk : k < 9 + 7 * sg 2 ∨ 9 + 7 * sg 2 + 5 ≤ k) (z : oP sg (sg 2) 2 = 0) : pyS sg f m o both k = sg k := by
  have q2 : oP (playS sg f) (sg 2) 2 = 0 := by
    have : oP (playS sg f) (sg 2) 2 = oP sg (sg 2) 2 := playS_oo (by omega) (by omega)
    rw [this]; exact z
  have q2b : oP (instS (playS sg f) (sg 2) m) (sg 2) 2 = 1 := by
    show instS (playS sg f) (sg 2) m (9 + 7 * sg 2 + 2) = 1
    unfold instS
    rw [ups_1, q2]
  unfold pyS
  split
  · rw [instS_oo h4 (by omega) (by omega), instS_oo h4 (by omega) (by omega), playS_oo h2 (by omega)]
  · rw [instS_oo h4 (by omega) (by omega), playS_oo h2 (by omega)]
theorem pyS_v {f m o : Nat} {both : Bool} (z1 : oP sg (sg 2) 1 = 0) (z : oP sg (sg 2) 2 = 0) : pyS sg f m o both 2 = sg 2 + 1 ∧ oP (pyS sg f m o both) (sg 2) 0 = f ∧ oP (pyS sg f m o both) (sg 2) 1 = 0 ∧ oP (pyS sg f m o both) (sg 2) 2 = (if both = true then 2 else 1) ∧ oP (pyS sg f m o both) (sg 2) 3 = m ∧ (both = true → oP (pyS sg f m o both) (sg 2) 4 = o) ∧ pyS sg f m o both 4 = (if both = true then kd1 (instS (playS sg f) (sg 2) m) o else kd1 sg m) := by
  have q2 : oP (playS sg f) (sg 2) 2 = 0 := by
    have : oP (playS sg f) (sg 2) 2 = oP sg (sg 2) 2 := playS_oo (by omega) (by omega)
    rw [this]; exact z
  have q2b : oP (instS (playS sg f) (sg 2) m) (sg 2) 2 = 1 := by
    show instS (playS sg f) (sg 2) m (9 + 7 * sg 2 + 2) = 1
    unfold instS
    rw [ups_1, q2]
  have q3b : oP (instS (playS sg f) (sg 2) m) (sg 2) 3 = m := by
    show instS (playS sg f) (sg 2) m (9 + 7 * sg 2 + 3) = m
    unfold instS
    rw [ups_o _ _ _ (by omega), q2, Nat.add_zero, ups_1]
  have p2 : playS sg f 2 = sg 2 + 1 := by
    unfold playS
    rw [ups_o _ _ _ (by omega), ups_1]
  have p0 : oP (playS sg f) (sg 2) 0 = f := by
    exact ups_1 _ _ _
  have p1 : oP (playS sg f) (sg 2) 1 = 0 := by
    have : oP (playS sg f) (sg 2) 1 = oP sg (sg 2) 1 := playS_oo (by omega) (by omega)
    rw [this]; exact z1
  have i0 : oP (instS (playS sg f) (sg 2) m) (sg 2) 0 = f := by
    have : oP (instS (playS sg f) (sg 2) m) (sg 2) 0 = oP (playS sg f) (sg 2) 0 := instS_oo (by omega) (by omega) (by omega)
    rw [this]; exact p0
  have i1 : oP (instS (playS sg f) (sg 2) m) (sg 2) 1 = 0 := by
    have : oP (instS (playS sg f) (sg 2) m) (sg 2) 1 = oP (playS sg f) (sg 2) 1 := instS_oo (by omega) (by omega) (by omega)
    rw [this]; exact p1
  have i2 : instS (playS sg f) (sg 2) m 2 = sg 2 + 1 := by rw [instS_oo (by omega) (by omega) (by omega)]; exact p2
  unfold pyS
  cases both with
  | false =>
    refine ⟨i2, i0, i1, q2b, q3b, fun z => (by cases z), py_4b⟩
  | true =>
    refine ⟨?_, ?_, ?_, ?_, ?_, fun _ => ?_, ?_⟩
    · show instS (instS (playS sg f) (sg 2) m) (sg 2) o 2 = _
      rw [instS_oo (by omega) (by omega) (by omega)]; exact i2
    · have : oP (instS (instS (playS sg f) (sg 2) m) (sg 2) o) (sg 2) 0 = oP (instS (playS sg f) (sg 2) m) (sg 2) 0 := instS_oo (by omega) (by omega) (by omega)
      exact this.trans i0
    · have : oP (instS (instS (playS sg f) (sg 2) m) (sg 2) o) (sg 2) 1 = oP (instS (playS sg f) (sg 2) m) (sg 2) 1 := instS_oo (by omega) (by omega) (by omega)
      exact this.trans i1
    · show instS (instS (playS sg f) (sg 2) m) (sg 2) o (9 + 7 * sg 2 + 2) = 2
      unfold instS
      rw [ups_1]
      exact congrArg (· + 1) q2b
    · have : oP (instS (instS (playS sg f) (sg 2) m) (sg 2) o) (sg 2) 3 = oP (instS (playS sg f) (sg 2) m) (sg 2) 3 := instS_oo (by omega) (by omega) (by omega)
      exact this.trans q3b
    · show instS (instS (playS sg f) (sg 2) m) (sg 2) o (9 + 7 * sg 2 + 4) = o
      have e : 9 + 7 * sg 2 + 4 = 9 + 7 * sg 2 + 3 + oP (instS (playS sg f) (sg 2) m) (sg 2) 2 := by rw [q2b]
      rw [e]
      show ups (ups (ups (instS (playS sg f) (sg 2) m) 4 _) (9 + 7 * sg 2 + 3 + oP (instS (playS sg f) (sg 2) m) (sg 2) 2) o) (9 + 7 * sg 2 + 2) _ _ = o
      rw [ups_o _ _ _ (by omega), ups_1]
    · show instS (instS (playS sg f) (sg 2) m) (sg 2) o 4 = kd1 (instS (playS sg f) (sg 2) m) o
      unfold kd1
      show ups (ups (ups (instS (playS sg f) (sg 2) m) 4 (if o < instS (playS sg f) (sg 2) m 4 then instS (playS sg f) (sg 2) m 4 else instS (playS sg f) (sg 2) m 4 + 1)) _ _) _ _ 4 = _
      rw [ups_o _ _ _ (by omega), ups_o _ _ _ (by omega), ups_1]
end DR
