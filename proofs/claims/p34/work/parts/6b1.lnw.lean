/-! THE ROOM: the drawn season, as far as it counts: players one after another, works -/
section DNW
variable {tx : List Nat} {bf : Nat → Int32} {q0 n a : Nat} {S0 : P4} {dt : Bool}
def itp : Nat → PSt → PSt
  | 0, q => q
  | n + 1, q => pstp (itp n q)
theorem itp_s (n : Nat) (q : PSt) : itp (n + 1) q = pstp (itp n q) := rfl
theorem plays_R {s : DS} {q : PSt} (h : JS tx bf q0 S0 s dt n 42) (hx : JX s) (h2 : s.1 2 = 0) (h3 : s.1 3 = 0) (hq : Q2 s.1) (hr : PsR s q) : ∀ k, k ≤ 7 → PsR (dN dP k s) (itp k q) ∧ Q2 (dN dP k s).1
  | 0, _ => ⟨hr, hq⟩
  | k + 1, hk => by
    obtain ⟨i1, i2⟩ := plays_R h hx h2 h3 hq hr k (by omega)
    obtain ⟨c1, -, -, -, c5⟩ := hh_plays (N := k + 1) h hx h2 h3 hk k (by omega)
    have c5 := c5 (by omega)
    rw [dN_s, itp_s]
    generalize dN dP k s = s1 at i1 i2 c1 c5 ⊢
    generalize itp k q = q1 at i1 ⊢
    exact PsR.step i1 i2 (by rw [c1]; exact c5.1) (by rw [c1]; exact c5.2)
/-- the same players -/
theorem NP_same {sg sq : Nat → Nat} (h2 : sq 2 = sg 2) (h : ∀ p, p < sg 2 → oP sq p 2 = oP sg p 2 ∧ ∀ i, i < oP sg p 2 → oP sq p (3 + i) = oP sg p (3 + i)) (k : Nat) : NP sq k = NP sg k := by
  unfold NP
  rw [h2]
  refine su_ext fun p hp => ?_
  obtain ⟨e2, e3⟩ := h p hp
  have e : ((kinds sq p).testBit k = true) ↔ ((kinds sg p).testBit k = true) := by
    rw [kinds_tbK, kinds_tbK, e2]
    constructor
    · rintro ⟨i, h1, h2⟩
      exact ⟨i, h1, by rw [← e3 i h1]; exact h2⟩
    · rintro ⟨i, h1, h2⟩
      exact ⟨i, h1, by rw [e3 i h1]; exact h2⟩
  by_cases c : (kinds sg p).testBit k = true
  · rw [if_pos c, if_pos (e.mpr c)]
  · rw [if_neg c, if_neg fun z => c (e.mp z)]
/-- a work's draws -/
def wNd (g : Nat) : Nat := drw (nx (nx g)) 3
def wFi (g : Nat) : Nat := drw g 2
def wLa (d g : Nat) : Nat := if drw g 2 < d - 1 - drw (nx g) 2 then d - 1 - drw (nx g) 2 else drw g 2
def wLn (g : Nat) : Nat := 1 + drw (nx (nx (nx (nx g)))) 4
def wSe (kc g : Nat) : List Nat := sts (nx (nx (nx (nx (nx g))))) kc (wLn g)
def wNx (g : Nat) : Nat := nxn (nx (nx (nx (nx (nx g))))) (wLn g)
def itw : Nat → Nat → Nat
  | 0, g => g
  | n + 1, g => wNx (itw n g)
theorem itw_s (n g : Nat) : itw (n + 1) g = wNx (itw n g) := rfl
def WkR (s : DS) (d kc g n : Nat) : Prop := (s.1 0 = d ∧ s.1 3 = n ∧ s.1 4 = kc) ∧ dG s = itw n g ∧ ∀ w, w < n → (oW s.1 w 0 = wNd (itw w g) ∧ oW s.1 w 1 = wFi (itw w g) ∧ oW s.1 w 2 = wLa d (itw w g)) ∧ oW s.1 w 4 = wLn (itw w g) ∧ ∀ j, j < wLn (itw w g) → oW s.1 w (5 + j) = (wSe kc (itw w g)).getD j 0
theorem wSe_l (kc g : Nat) : (wSe kc g).length = wLn g := sts_l _ _ _
theorem wLn_le (g : Nat) : 1 ≤ wLn g ∧ wLn g ≤ 4 := by
  have d := drw_lt (nx (nx (nx (nx g)))) (show 1 ≤ 4 by omega)
  unfold wLn
  omega
theorem wG_w (G : Nat) : wG G = wNx G := rfl
theorem wF_w (G : Nat) : wFirst G = wFi G := rfl
theorem wL_w (sg : Nat → Nat) (G : Nat) : wLast sg G = wLa (sg 0) G := rfl
theorem wS_w (sg : Nat → Nat) (G : Nat) : wSeats sg G = wSe (sg 4) G := wSeats_e sg G
theorem wN_w (G : Nat) : drw (nx (nx G)) 3 = wNd G := rfl
theorem WkR.step {s : DS} {d kc g n : Nat} (h : WkR s d kc g n) (z4 : oW s.1 n 4 = 0) : WkR (dW_ s) d kc g (n + 1) ∧ ∀ i, i < 65 → i ≠ 3 → (dW_ s).1 i = s.1 i := by
  obtain ⟨sg, nm, ct, t, G⟩ := s
  obtain ⟨⟨h1, h2, h3⟩, h4, h5⟩ := h
  have h1 : sg 0 = d := h1
  have h2 : sg 3 = n := h2
  have h3 : sg 4 = kc := h3
  have h4 : G = itw n g := (dG_mk sg nm ct t G).symm.trans h4
  have z4 : oW sg (sg 3) 4 = 0 := by rw [h2]; exact z4
  rw [dW_e0, wG_w, wF_w, wL_w, wS_w, wN_w, h1, h3]
  have l := wLn_le G
  have sl := wSe_l kc G
  generalize hC : wNd G = C
  generalize hA : wFi G = A
  generalize hB : wLa d G = B
  generalize hD : drw (nx (nx (nx G))) 200 = D
  generalize hS : wSe kc G = S at sl ⊢
  obtain ⟨v3, ⟨va, vb, vc, vd⟩, v4, v5, vo⟩ := wkS_v (a := C) (b := A) (c := B) (d := D) (l := S) z4
  have one : ∀ (x y : Nat → Nat) (nm2 : Nat → List Nat) (tt : List Nat) (gg : Nat), ((x, nm2, y, tt, gg) : DS).1 = x := fun _ _ _ _ _ => rfl
  rw [one]
  generalize wkS sg C A B D S = sq at v3 va vb vc vd v4 v5 vo ⊢
  refine ⟨⟨⟨?_, ?_, ?_⟩, ?_, fun w hw => ?_⟩, fun i hi h3 => vo i h3 (by omega)⟩
  · show sq 0 = d
    rw [vo 0 (by omega) (by omega)]; exact h1
  · show sq 3 = n + 1
    rw [v3, h2]
  · show sq 4 = kc
    rw [vo 4 (by omega) (by omega)]; exact h3
  · rw [dG_mk, itw_s, h4]
  · by_cases c : w = n
    · rw [c, ← h4]
      rw [h2] at va vb vc v4 v5
      show (oW sq n 0 = wNd G ∧ oW sq n 1 = wFi G ∧ oW sq n 2 = wLa d G) ∧ oW sq n 4 = wLn G ∧ ∀ j, j < wLn G → oW sq n (5 + j) = (wSe kc G).getD j 0
      rw [hC, hA, hB, hS]
      exact ⟨⟨va, vb, vc⟩, v4.trans sl, fun j hj => v5 j (by omega)⟩
    · obtain ⟨⟨q1, q2, q3⟩, q4, q5⟩ := h5 w (by omega)
      have lw := wLn_le (itw w g)
      refine ⟨⟨?_, ?_, ?_⟩, ?_, fun j hj => ?_⟩
      · exact (vo (65 + 11 * w + 0) (by omega) (by omega)).trans q1
      · exact (vo (65 + 11 * w + 1) (by omega) (by omega)).trans q2
      · exact (vo (65 + 11 * w + 2) (by omega) (by omega)).trans q3
      · exact (vo (65 + 11 * w + 4) (by omega) (by omega)).trans q4
      · exact (vo (65 + 11 * w + (5 + j)) (by omega) (by omega)).trans (q5 j hj)
end DNW
