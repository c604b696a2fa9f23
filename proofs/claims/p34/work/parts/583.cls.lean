/-! THE CLASS'S CELLS: a Season at sa, a Plan at a, told by the same numbers -/
/-- the instruments of a player as bits -/
def kinds (sg : Nat → Nat) (p : Nat) : Nat := fo (fun k a => a ||| 2 ^ oP sg p (3 + k)) (oP sg p 2) 0
def SeaSh (sa : Nat) (M : Mm) : Prop := (zk M sa = 6 ∧ zR M sa 3 = some (sa + 1) ∧ zR M sa 4 = some (sa + 3) ∧ zR M sa 5 = some (sa + 4) ∧ zR M sa 6 = some (sa + 6) ∧ zR M sa 7 = some (sa + 7) ∧ zR M sa 8 = some (sa + 8) ∧ zR M sa 9 = some (sa + 9) ∧ zR M sa 10 = some (sa + 10) ∧ zR M sa 11 = some (sa + 11) ∧ zR M sa 12 = some (sa + 13) ∧ zR M sa 13 = some (sa + 15) ∧ zR M sa 14 = some (sa + 16) ∧ zR M sa 15 = some (sa + 17) ∧ zR M sa 16 = some (sa + 18) ∧ zR M sa 17 = some (sa + 19) ∧ zR M sa 18 = some (sa + 20)) ∧
  (zk M (sa + 1) = 2 ∧ zR M (sa + 1) 0 = some (sa + 2) ∧ zk M (sa + 4) = 2 ∧ zR M (sa + 4) 0 = some (sa + 5) ∧ zk M (sa + 11) = 2 ∧ zR M (sa + 11) 0 = some (sa + 12) ∧ zk M (sa + 13) = 2 ∧ zR M (sa + 13) 0 = some (sa + 14) ∧ zk M (sa + 2) = 11 ∧ zk M (sa + 5) = 11 ∧ zk M (sa + 12) = 11 ∧ zk M (sa + 14) = 11) ∧
  (zk M (sa + 3) = 10 ∧ zk M (sa + 6) = 10 ∧ zk M (sa + 7) = 10 ∧ zk M (sa + 8) = 10 ∧ zk M (sa + 9) = 10 ∧ zk M (sa + 10) = 10 ∧ zk M (sa + 15) = 10 ∧ zk M (sa + 16) = 10 ∧ zk M (sa + 17) = 10 ∧ zk M (sa + 18) = 10 ∧ zk M (sa + 19) = 10 ∧ zk M (sa + 20) = 10) ∧
  zl M (sa + 2) = 3 ∧ zl M (sa + 3) = 3 ∧ zl M (sa + 5) = 8 ∧ zl M (sa + 6) = 8 ∧ zl M (sa + 7) = 8 ∧ zl M (sa + 8) = 8 ∧ zl M (sa + 9) = 8 ∧ zl M (sa + 10) = 8 ∧ zl M (sa + 12) = 8 ∧ zl M (sa + 14) = 5 ∧ zl M (sa + 15) = 5 ∧ zl M (sa + 16) = 5 ∧ zl M (sa + 17) = 5 ∧ zl M (sa + 18) = 5 ∧ zl M (sa + 19) = 5 ∧ zl M (sa + 20) = 30
/-- the Season at sa tells sg -/
def CSea (sa : Nat) (sg : Nat → Nat) (M : Mm) : Prop := SeaSh sa M ∧ (zI M sa 0 = nI (sg 0) ∧ zI M sa 1 = nI (sg 5) ∧ zI M (sa + 1) 1 = nI (sg 1) ∧ zI M (sa + 4) 1 = nI (sg 2) ∧ zI M (sa + 13) 1 = nI (sg 3) ∧ zI M (sa + 11) 1 = nI (sg 4)) ∧
  (∀ h, h < sg 1 → zI M (sa + 3) h = nI (sg (6 + h))) ∧
  (∀ p, p < sg 2 → zI M (sa + 7) p = nI (oP sg p 0) ∧ zI M (sa + 8) p = nI (oP sg p 3) ∧ zI M (sa + 9) p = nI (kinds sg p) ∧ zI M (sa + 10) p = nI (oP sg p 1)) ∧
  (∀ w, w < sg 3 → zI M (sa + 15) w = nI (oW sg w 0) ∧ zI M (sa + 16) w = nI (oW sg w 1) ∧ zI M (sa + 17) w = nI (oW sg w 2) ∧ zI M (sa + 18) w = nI (oW sg w 3) ∧ zI M (sa + 19) w = nI (oW sg w 4)) ∧
  ∀ w, w < sg 3 → ∀ j, j < oW sg w 4 → zI M (sa + 20) (w * 6 + j) = nI (oW sg w (5 + j))
theorem CSea.sh {sa : Nat} {sg : Nat → Nat} {M : Mm} (h : CSea sa sg M) : SeaSh sa M := h.1
theorem CSea.s1 {sa : Nat} {sg : Nat → Nat} {M : Mm} (h : CSea sa sg M) : (zk M sa = 6 ∧ zR M sa 3 = some (sa + 1) ∧ zR M sa 4 = some (sa + 3) ∧ zR M sa 5 = some (sa + 4) ∧ zR M sa 6 = some (sa + 6) ∧ zR M sa 7 = some (sa + 7) ∧ zR M sa 8 = some (sa + 8) ∧ zR M sa 9 = some (sa + 9) ∧ zR M sa 10 = some (sa + 10) ∧ zR M sa 11 = some (sa + 11) ∧ zR M sa 12 = some (sa + 13) ∧ zR M sa 13 = some (sa + 15) ∧ zR M sa 14 = some (sa + 16) ∧ zR M sa 15 = some (sa + 17) ∧ zR M sa 16 = some (sa + 18) ∧ zR M sa 17 = some (sa + 19) ∧ zR M sa 18 = some (sa + 20)) ∧
  (zk M (sa + 1) = 2 ∧ zk M (sa + 4) = 2 ∧ zk M (sa + 11) = 2 ∧ zk M (sa + 13) = 2) ∧
  (zk M (sa + 3) = 10 ∧ zk M (sa + 7) = 10 ∧ zk M (sa + 8) = 10 ∧ zk M (sa + 9) = 10 ∧ zk M (sa + 10) = 10 ∧ zk M (sa + 15) = 10 ∧ zk M (sa + 16) = 10 ∧ zk M (sa + 17) = 10 ∧ zk M (sa + 18) = 10 ∧ zk M (sa + 19) = 10 ∧ zk M (sa + 20) = 10) ∧
  zl M (sa + 3) = 3 ∧ zl M (sa + 7) = 8 ∧ zl M (sa + 8) = 8 ∧ zl M (sa + 9) = 8 ∧ zl M (sa + 10) = 8 ∧ zl M (sa + 15) = 5 ∧ zl M (sa + 16) = 5 ∧ zl M (sa + 17) = 5 ∧ zl M (sa + 18) = 5 ∧ zl M (sa + 19) = 5 ∧ zl M (sa + 20) = 30 := by
  obtain ⟨⟨h1, ⟨a1, -, a2, -, a3, -, a4, -⟩, ⟨b1, -, b2, b3, b4, b5, b6, b7, b8, b9, b10, b11⟩, ⟨-, c1, -, -, c2, c3, c4, c5, -, -, c6, c7, c8, c9, c10, c11⟩⟩, -⟩ := h
  exact ⟨h1, ⟨a1, a2, a3, a4⟩, ⟨b1, b2, b3, b4, b5, b6, b7, b8, b9, b10, b11⟩, c1, c2, c3, c4, c5, c6, c7, c8, c9, c10, c11⟩
theorem CSea.n {sa : Nat} {sg : Nat → Nat} {M : Mm} (h : CSea sa sg M) : zI M sa 0 = nI (sg 0) ∧ zI M sa 1 = nI (sg 5) ∧ zI M (sa + 1) 1 = nI (sg 1) ∧ zI M (sa + 4) 1 = nI (sg 2) ∧ zI M (sa + 13) 1 = nI (sg 3) ∧ zI M (sa + 11) 1 = nI (sg 4) := h.2.1
theorem CSea.h {sa : Nat} {sg : Nat → Nat} {M : Mm} (h : CSea sa sg M) : ∀ k, k < sg 1 → zI M (sa + 3) k = nI (sg (6 + k)) := h.2.2.1
theorem CSea.p {sa : Nat} {sg : Nat → Nat} {M : Mm} (h : CSea sa sg M) {p : Nat} (hp : p < sg 2) : zI M (sa + 7) p = nI (oP sg p 0) ∧ zI M (sa + 8) p = nI (oP sg p 3) ∧ zI M (sa + 9) p = nI (kinds sg p) ∧ zI M (sa + 10) p = nI (oP sg p 1) := h.2.2.2.1 p hp
theorem CSea.w {sa : Nat} {sg : Nat → Nat} {M : Mm} (h : CSea sa sg M) {w : Nat} (hw : w < sg 3) : zI M (sa + 15) w = nI (oW sg w 0) ∧ zI M (sa + 16) w = nI (oW sg w 1) ∧ zI M (sa + 17) w = nI (oW sg w 2) ∧ zI M (sa + 18) w = nI (oW sg w 3) ∧ zI M (sa + 19) w = nI (oW sg w 4) := h.2.2.2.2.1 w hw
theorem CSea.st {sa : Nat} {sg : Nat → Nat} {M : Mm} (h : CSea sa sg M) {w j : Nat} (hw : w < sg 3) (hj : j < oW sg w 4) : zI M (sa + 20) (w * 6 + j) = nI (oW sg w (5 + j)) := h.2.2.2.2.2 w hw j hj
/-- the place i (of 30) of service s: a player, or none -/
def cs (sg pl : Nat → Nat) (s i : Nat) : Nat := if i / 6 < sg 3 ∧ (oS pl s 3).testBit (i / 6) = true ∧ i % 6 < oW sg (i / 6) 4 then oS pl s (4 + 6 * (i / 6) + i % 6) else 4294967295
/-- the Plan at a tells pl -/
def CPl (a : Nat) (sg pl : Nat → Nat) (M : Mm) : Prop := PlanSh M a ∧ zI M a 0 = nI (pl 0) ∧
  (∀ s, s < pl 0 → (zI M (a + 1) s = nI (oS pl s 0) ∧ zI M (a + 2) s = nI (oS pl s 1) ∧ zI M (a + 3) s = nI (oS pl s 2) ∧ zI M (a + 4) s = nI (oS pl s 3)) ∧ ∀ i, i < 30 → zI M (a + 5) (s * 30 + i) = nI (cs sg pl s i)) ∧
  ∀ p, p < sg 2 → zI M (a + 6) p = nI (pl (1 + p))
theorem CPl.sh {a : Nat} {sg pl : Nat → Nat} {M : Mm} (h : CPl a sg pl M) : zk M a = 4 ∧ (zR M a 1 = some (a + 1) ∧ zR M a 2 = some (a + 2) ∧ zR M a 3 = some (a + 3) ∧ zR M a 4 = some (a + 4) ∧ zR M a 5 = some (a + 5) ∧ zR M a 6 = some (a + 6)) ∧
  (zk M (a + 1) = 10 ∧ zk M (a + 2) = 10 ∧ zk M (a + 3) = 10 ∧ zk M (a + 4) = 10 ∧ zk M (a + 5) = 10 ∧ zk M (a + 6) = 10) ∧
  zl M (a + 1) = 20 ∧ zl M (a + 2) = 20 ∧ zl M (a + 3) = 20 ∧ zl M (a + 4) = 20 ∧ zl M (a + 5) = 600 ∧ zl M (a + 6) = 8 := h.1
theorem CPl.n {a : Nat} {sg pl : Nat → Nat} {M : Mm} (h : CPl a sg pl M) : zI M a 0 = nI (pl 0) := h.2.1
theorem CPl.s {a : Nat} {sg pl : Nat → Nat} {M : Mm} (h : CPl a sg pl M) {s : Nat} (hs : s < pl 0) : zI M (a + 1) s = nI (oS pl s 0) ∧ zI M (a + 2) s = nI (oS pl s 1) ∧ zI M (a + 3) s = nI (oS pl s 2) ∧ zI M (a + 4) s = nI (oS pl s 3) := (h.2.2.1 s hs).1
theorem CPl.c {a : Nat} {sg pl : Nat → Nat} {M : Mm} (h : CPl a sg pl M) {s i : Nat} (hs : s < pl 0) (hi : i < 30) : zI M (a + 5) (s * 30 + i) = nI (cs sg pl s i) := (h.2.2.1 s hs).2 i hi
theorem CPl.k {a : Nat} {sg pl : Nat → Nat} {M : Mm} (h : CPl a sg pl M) {p : Nat} (hp : p < sg 2) : zI M (a + 6) p = nI (pl (1 + p)) := h.2.2.2 p hp
/-! bits -/
theorem tb_fo (c : Nat → Prop) [DecidablePred c] (f : Nat → Nat) (k : Nat) (a : Nat) : ∀ n, (fo (fun i b => if c i then b ||| 2 ^ f i else b) n a).testBit k = true ↔ (a.testBit k = true ∨ ∃ i, i < n ∧ c i ∧ f i = k)
  | 0 => ⟨Or.inl, fun h => h.elim id (fun ⟨i, h, _⟩ => absurd h (Nat.not_lt_zero i))⟩
  | n + 1 => by
    rw [fo_s]
    have ih := tb_fo c f k a n
    by_cases h : c n
    · rw [if_pos h, Nat.testBit_or, Bool.or_eq_true, ih, Nat.testBit_two_pow, decide_eq_true_eq]
      constructor
      · rintro ((q | ⟨i, q1, q2⟩) | q)
        · exact Or.inl q
        · exact Or.inr ⟨i, by omega, q2⟩
        · exact Or.inr ⟨n, by omega, h, q⟩
      · rintro (q | ⟨i, q1, q2, q3⟩)
        · exact Or.inl (Or.inl q)
        · by_cases e : i = n
          · subst e; exact Or.inr q3
          · exact Or.inl (Or.inr ⟨i, by omega, q2, q3⟩)
    · rw [if_neg h, ih]
      constructor
      · rintro (q | ⟨i, q1, q2⟩)
        · exact Or.inl q
        · exact Or.inr ⟨i, by omega, q2⟩
      · rintro (q | ⟨i, q1, q2, q3⟩)
        · exact Or.inl q
        · by_cases e : i = n
          · subst e; exact absurd q2 h
          · exact Or.inr ⟨i, by omega, q2, q3⟩
theorem tb_fo1 (f : Nat → Nat) (k : Nat) (a n : Nat) : (fo (fun i b => b ||| 2 ^ f i) n a).testBit k = true ↔ (a.testBit k = true ∨ ∃ i, i < n ∧ f i = k) := by
  have h := tb_fo (fun _ => True) f k a n
  simp only [if_true, true_and] at h
  exact h
theorem tb_inS (sg pl : Nat → Nat) (s k : Nat) : (inS sg pl s).testBit k = true ↔ ∃ w, w < sg 3 ∧ (oS pl s 3).testBit w = true ∧ ∃ j, j < oW sg w 4 ∧ oS pl s (4 + 6 * w + j) = k := by
  have key : ∀ n, (fo (inW sg pl s) n 0).testBit k = true ↔ ∃ w, w < n ∧ (oS pl s 3).testBit w = true ∧ ∃ j, j < oW sg w 4 ∧ oS pl s (4 + 6 * w + j) = k := by
    intro n
    induction n with
    | zero => exact ⟨fun h => absurd h (by rw [show fo (inW sg pl s) 0 0 = 0 from rfl, Nat.zero_testBit]; decide), fun ⟨w, h, _⟩ => absurd h (Nat.not_lt_zero w)⟩
    | succ n ih =>
      rw [fo_s]
      by_cases t : (oS pl s 3).testBit n = true
      · rw [inW, if_pos t, tb_fo1, ih]
        constructor
        · rintro (⟨w, h1, h2⟩ | h)
          · exact ⟨w, by omega, h2⟩
          · exact ⟨n, by omega, t, h⟩
        · rintro ⟨w, h1, h2, h3⟩
          by_cases e : w = n
          · subst e; exact Or.inr h3
          · exact Or.inl ⟨w, by omega, h2, h3⟩
      · rw [inW, if_neg t, ih]
        constructor
        · rintro ⟨w, h1, h2⟩
          exact ⟨w, by omega, h2⟩
        · rintro ⟨w, h1, h2, h3⟩
          by_cases e : w = n
          · subst e; exact absurd h2 t
          · exact ⟨w, by omega, h2, h3⟩
  exact key _
theorem lt256 {x n : Nat} (hn : n ≤ 8) (h : ∀ k, x.testBit k = true → k < n) : x < 256 := by
  refine Nat.lt_pow_two_of_testBit (n := 8) x fun i hi => ?_
  cases t : x.testBit i
  · rfl
  · have := h i t; omega
theorem inS_lt {sg pl : Nat → Nat} (hs : SB sg) (hp : PB sg pl) {s : Nat} (h : s < pl 0) : inS sg pl s < 256 := by
  have b := hs.b
  refine lt256 (n := sg 2) (by omega) fun k t => ?_
  obtain ⟨w, h1, h2, j, h3, h4⟩ := (tb_inS sg pl s k).mp t
  rw [← h4]
  exact hp.c h h1 h2 h3
theorem cs_in {sg pl : Nat → Nat} {s w j : Nat} (hj6 : j < 6) (hw : w < sg 3) (ht : (oS pl s 3).testBit w = true) (hj : j < oW sg w 4) : cs sg pl s (w * 6 + j) = oS pl s (4 + 6 * w + j) := by
  have e1 : (w * 6 + j) / 6 = w := by omega
  have e2 : (w * 6 + j) % 6 = j := by omega
  unfold cs
  rw [e1, e2, if_pos ⟨hw, ht, hj⟩]
theorem cs_out {sg pl : Nat → Nat} {s w j : Nat} (hj6 : j < 6) (h : ¬ (w < sg 3 ∧ (oS pl s 3).testBit w = true ∧ j < oW sg w 4)) : cs sg pl s (w * 6 + j) = 4294967295 := by
  have e1 : (w * 6 + j) / 6 = w := by omega
  have e2 : (w * 6 + j) % 6 = j := by omega
  unfold cs
  rw [e1, e2, if_neg h]
theorem inS_cs {sg pl : Nat → Nat} (hs : SB sg) (hp : PB sg pl) {s : Nat} (h : s < pl 0) : fo (fun i b => if cs sg pl s i ≠ 4294967295 then b ||| 2 ^ cs sg pl s i else b) 30 0 = inS sg pl s := by
  have b := hs.b
  refine Nat.eq_of_testBit_eq fun k => ?_
  rw [Bool.eq_iff_iff, tb_fo (fun i => cs sg pl s i ≠ 4294967295), tb_inS, Nat.zero_testBit]
  constructor
  · rintro (q | ⟨i, h1, h2, h3⟩)
    · cases q
    · by_cases e : i / 6 < sg 3 ∧ (oS pl s 3).testBit (i / 6) = true ∧ i % 6 < oW sg (i / 6) 4
      · refine ⟨i / 6, e.1, e.2.1, i % 6, e.2.2, ?_⟩
        rw [← h3, cs, if_pos e]
      · exact absurd (by rw [cs, if_neg e]) h2
  · rintro ⟨w, h1, h2, j, h3, h4⟩
    have c := hs.sc h1
    have d := hp.c h h1 h2 h3
    refine Or.inr ⟨w * 6 + j, by omega, ?_, ?_⟩
    · show cs sg pl s (w * 6 + j) ≠ 4294967295
      rw [cs_in (by omega) h1 h2 h3]; omega
    · rw [cs_in (by omega) h1 h2 h3]; exact h4
