/-! THE ROOM: a season's bounds, by its casts and its days -/
section SBD
variable {sg pl K : Nat → Nat} {M : Nat → Nat → Nat}
def fP (M : Nat → Nat → Nat) (a c : Nat) : Nat := if a = c then 1 else 2 + (if a < c then M a c else M c a)
def gP (K : Nat → Nat) (a c : Nat) : Nat := if a = c then 1 + K a else (1 + K a) + (1 + K c)
theorem fo_keep {f : Nat → Nat → Nat} {n v : Nat} (h : ∀ i, i < n → f i v = v) : fo f n v = v := by
  induction n with
  | zero => rfl
  | succ n ih =>
    show f n (fo f n v) = v
    rw [ih fun i hi => h i (by omega)]
    exact h n (by omega)
/-- a work that nobody can be cast for is never rehearsed -/
theorem swt_0 (hP : PT sg pl) {x t : Nat} (hx : x < sg 3) (h : ¬ cst sg x) : swt pl x 0 t = 0 := by
  unfold swt
  refine fo_keep fun s hs => if_neg fun q => ?_
  exact h ((hP.2 s hs).2 x hx q.2.1)
theorem ready_no (hP : PT sg pl) {S x t : Nat} (hx : x < sg 3) (hS : S.testBit x = true) (h : ¬ cst sg x) (hn : 0 < oW sg x 0) : ¬ ready sg pl S t = true := fun r => by
  unfold ready at r
  rw [al_iff] at r
  have q := r x hx
  rw [Bool.not_eq_true', decide_eq_false_iff_not] at q
  exact q ⟨hS, by rw [swt_0 hP hx h]; exact hn⟩
theorem whyC_no {ha t S : Nat} (hp : pl 0 ≤ 20) (h : ¬ ready sg pl S t = true) : whyC sg pl ha t S 1 4294967295 = 0 ∧ whyN sg pl ha t S 1 ≠ 0 := by
  refine ⟨?_, fun q => ?_⟩
  · unfold whyC
    rw [plb_noK hp]
    by_cases c1 : pl 0 = 20
    · rw [if_pos c1]
    rw [if_neg c1]
    by_cases c2 : ¬ rented sg S (t / 3) = true
    · rw [if_pos c2]
    rw [if_neg c2]
    by_cases c3 : ¬ hFree pl ha t (sg (6 + ha)) = true
    · rw [if_pos c3]
    rw [if_neg c3, if_pos ⟨rfl, h⟩]
  · unfold whyN at q
    by_cases c1 : pl 0 = 20
    · rw [if_pos c1] at q; exact absurd q (by omega)
    rw [if_neg c1] at q
    by_cases c2 : ¬ rented sg S (t / 3) = true
    · rw [if_pos c2] at q; exact absurd q (by omega)
    rw [if_neg c2] at q
    by_cases c3 : ¬ hFree pl ha t (sg (6 + ha)) = true
    · rw [if_pos c3] at q; exact absurd q (by omega)
    rw [if_neg c3, if_pos ⟨rfl, h⟩] at q
    exact absurd q (by omega)
theorem ask_nr (hK : KBn sg K) (hP : PT sg pl) {ha t S w x : Nat} (hw : w < sg 3) (hx : x < sg 3) (hS : S.testBit x = true) (h0 : K x = 0) (hn : 0 < oW sg x 0) : askC sg pl ha t S 1 w ≤ 1 + K w := by
  have h : ¬ cst sg x := fun ⟨F, q⟩ => by
    have := (hK x hx).2 F
    omega
  have r := fun t => whyC_no (ha := ha) hP.1 (ready_no (t := t) hP hx hS h hn)
  have n := ncs_le (pl := pl) (t := t) (b := 4294967295) hK hw
  have e : eaC sg pl ha S 1 t = 0 := su_0 fun k _ => by
    split
    · exact (r (t + k)).1
    · rfl
  unfold askC
  rw [(r t).1, e, if_neg (r t).2]
  omega
/-- what a question costs at most -/
def qP (sg K : Nat → Nat) (M : Nat → Nat → Nat) (a c w t : Nat) : Nat := (if a ≠ c ∧ ((K a = 0 ∧ 0 < oW sg a 0) ∨ (K c = 0 ∧ 0 < oW sg c 0)) then 0 else mxC (shS (oW sg a 1) (oW sg a 2) (oW sg c 1) (oW sg c 2) t) (fP M a c) (gP K a c)) + 1 + K w
theorem mxC_mono {C f g h : Nat} (q : g ≤ h) : mxC C f g ≤ mxC C f h := by
  have m := mxC_le C f h
  unfold mxC
  split
  · split
    · exact m.2.2
    · exact Nat.le_trans (Nat.add_le_add_left q _) m.2.1
  · split
    · exact m.2.2
    · exact Nat.le_trans (by omega) m.1
theorem qP_ok (hK : KBn sg K) (hM : MBn sg M) (hP : PT sg pl) {ha t a c cc w : Nat} (ht : t < sg 0 * 3) (ha3 : a < sg 3) (hc3 : c < sg 3) (hw : w < sg 3) (hcc : a = c ∨ cc = 1) : askC sg pl ha t (2 ^ a ||| 2 ^ c) cc w ≤ qP sg K M a c w t := by
  have hS : (2 ^ a ||| 2 ^ c).testBit (sg 3) = false := tw_hi ⟨a, c, ha3, hc3, rfl⟩
  unfold qP
  by_cases r : a ≠ c ∧ ((K a = 0 ∧ 0 < oW sg a 0) ∨ (K c = 0 ∧ 0 < oW sg c 0))
  · rw [if_pos r]
    have c1 : cc = 1 := by
      rcases hcc with e | e
      · exact absurd e r.1
      · exact e
    rw [c1]
    have fin : askC sg pl ha t (2 ^ a ||| 2 ^ c) 1 w ≤ 1 + K w := by
      rcases r.2 with ⟨k0, n0⟩ | ⟨k0, n0⟩
      · exact ask_nr hK hP hw ha3 ((or_tb a c a).mpr (Or.inl rfl)) k0 n0
      · exact ask_nr hK hP hw hc3 ((or_tb a c c).mpr (Or.inr rfl)) k0 n0
    omega
  · rw [if_neg r]
    have q := askC_leC (pl := pl) (ha := ha) (c := cc) hK hP.1 hS (fb_2 hK hM ha3 hc3) hw ht (rent_C ha3 hc3)
    exact Nat.le_trans q (Nat.add_le_add_right (Nat.add_le_add_right (mxC_mono (gS_2 K a c)) 1) _)
theorem gf_ok (hK : KBn sg K) {ha t a c cc : Nat} (ha3 : a < sg 3) (hc3 : c < sg 3) : cmC sg pl ha t (2 ^ a ||| 2 ^ c) cc ≤ 2 * gP K a c + 2 := by
  have hS : (2 ^ a ||| 2 ^ c).testBit (sg 3) = false := tw_hi ⟨a, c, ha3, hc3, rfl⟩
  have q := cmC_le (pl := pl) (ha := ha) (t := t) (c := cc) hK hS
  have g := gS_2 (sg := sg) K a c
  have g : gS sg K (2 ^ a ||| 2 ^ c) ≤ gP K a c := g
  omega
theorem mv_ok (hK : KBn sg K) {g2 : Nat} (hg : ∀ a c, a < sg 3 → c < sg 3 → gP K a c ≤ g2) (hP : PT sg pl) {s t : Nat} (hs : s < pl 0) : mvC sg pl s t ≤ 2 * g2 + 2 ∧ comC sg (off pl s) (oS pl s 0) (oS pl s 3) ≤ 2 + g2 := by
  have l := (hP.2 s hs).1
  have hS := tw_hi l
  obtain ⟨a, c, ha, hc, e⟩ := l
  have g : gS sg K (oS pl s 3) ≤ gP K a c := by rw [e]; exact gS_2 K a c
  have g3 := hg a c ha hc
  have q1 := mvC_le (pl := pl) (s := s) (t := t) hK hS
  have q2 := comC_le (pl := off pl s) (t := oS pl s 0) hK hS
  omega
end SBD
