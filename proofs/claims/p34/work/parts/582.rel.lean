/-! THE MODEL'S CELLS: sg is what plan[] holds, pl what now[] holds, both as numbers -/
def oP (sg : Nat → Nat) (p f : Nat) : Nat := sg (9 + 7 * p + f)
def oW (sg : Nat → Nat) (w f : Nat) : Nat := sg (65 + 11 * w + f)
def oS (pl : Nat → Nat) (s f : Nat) : Nat := pl (9 + 34 * s + f)
/-- the model's shape -/
def MS (m : Nat) (M : Mm) : Prop := (zk M m = 8 ∧ zR M m 1 = some (m + 1) ∧ zR M m 2 = some (m + 2) ∧ zR M m 3 = some (m + 3) ∧ zR M m 4 = some (m + 4) ∧ zR M m 16 = some (m + 5) ∧ zR M m 17 = some (m + 6) ∧ zR M m 18 = some (m + 7) ∧ zR M m 19 = some (m + 8) ∧ zR M m 20 = some (m + 9) ∧ zR M m 22 = some (m + 10) ∧ zR M m 25 = some (m + 11) ∧ zR M m 26 = some (m + 12) ∧ zR M m 27 = some (m + 13)) ∧
  (zk M (m + 1) = 10 ∧ zk M (m + 2) = 10 ∧ zk M (m + 3) = 11 ∧ zk M (m + 4) = 9 ∧ zk M (m + 5) = 10 ∧ zk M (m + 6) = 10 ∧ zk M (m + 7) = 11 ∧ zk M (m + 8) = 10 ∧ zk M (m + 9) = 10 ∧ zk M (m + 10) = 10 ∧ zk M (m + 11) = 10 ∧ zk M (m + 12) = 10 ∧ zk M (m + 13) = 12) ∧
  zl M (m + 1) = 120 ∧ zl M (m + 2) = 689 ∧ zl M (m + 3) = 32 ∧ zl M (m + 4) = 600 ∧ zl M (m + 5) = 120 ∧ zl M (m + 6) = 8 ∧ zl M (m + 7) = 32 ∧ zl M (m + 8) = 6 ∧ zl M (m + 9) = 6 ∧ zl M (m + 10) = 689 ∧ zl M (m + 11) = 6890 ∧ zl M (m + 12) = 1378 ∧ zl M (m + 13) = 2
/-- bounds of what a text tells -/
def SB (sg : Nat → Nat) : Prop := (1 ≤ sg 0 ∧ sg 0 ≤ 30 ∧ sg 1 ≤ 3 ∧ sg 2 ≤ 8 ∧ sg 3 ≤ 5 ∧ sg 4 ≤ 8) ∧ (∀ k, sg k < 2 ^ 30) ∧
  (∀ w, w < sg 3 → 1 ≤ oW sg w 4 ∧ oW sg w 4 ≤ 6 ∧ ∀ j, j < oW sg w 4 → oW sg w (5 + j) < 8) ∧
  (∀ p, p < sg 2 → 1 ≤ oP sg p 2 ∧ oP sg p 2 ≤ 4 ∧ ∀ j, j < oP sg p 2 → oP sg p (3 + j) < 8)
/-- bounds of a plan -/
def PB (sg pl : Nat → Nat) : Prop := pl 0 ≤ 20 ∧ (∀ p, p < sg 2 → pl (1 + p) ≤ 40) ∧
  ∀ s, s < pl 0 → (oS pl s 0 < 3 * sg 0 ∧ oS pl s 1 < sg 1 ∧ oS pl s 2 ≤ 1 ∧ oS pl s 3 < 2 ^ sg 3) ∧ ∀ w, w < sg 3 → (oS pl s 3).testBit w = true → ∀ j, j < oW sg w 4 → oS pl s (4 + 6 * w + j) < sg 2
theorem SB.b {sg : Nat → Nat} (h : SB sg) : 1 ≤ sg 0 ∧ sg 0 ≤ 30 ∧ sg 1 ≤ 3 ∧ sg 2 ≤ 8 ∧ sg 3 ≤ 5 ∧ sg 4 ≤ 8 := h.1
theorem SB.k {sg : Nat → Nat} (h : SB sg) (k : Nat) : sg k < 2 ^ 30 := h.2.1 k
theorem SB.p {sg : Nat → Nat} (h : SB sg) (p f : Nat) : oP sg p f < 2 ^ 30 := h.2.1 _
theorem SB.w {sg : Nat → Nat} (h : SB sg) (w f : Nat) : oW sg w f < 2 ^ 30 := h.2.1 _
theorem SB.sc {sg : Nat → Nat} (h : SB sg) {w : Nat} (hw : w < sg 3) : 1 ≤ oW sg w 4 ∧ oW sg w 4 ≤ 6 := ⟨(h.2.2.1 w hw).1, (h.2.2.1 w hw).2.1⟩
theorem SB.st {sg : Nat → Nat} (h : SB sg) {w : Nat} (hw : w < sg 3) {j : Nat} (hj : j < oW sg w 4) : oW sg w (5 + j) < 8 := (h.2.2.1 w hw).2.2 j hj
theorem SB.oc {sg : Nat → Nat} (h : SB sg) {p : Nat} (hp : p < sg 2) : 1 ≤ oP sg p 2 ∧ oP sg p 2 ≤ 4 := ⟨(h.2.2.2 p hp).1, (h.2.2.2 p hp).2.1⟩
theorem SB.ow {sg : Nat → Nat} (h : SB sg) {p : Nat} (hp : p < sg 2) {j : Nat} (hj : j < oP sg p 2) : oP sg p (3 + j) < 8 := (h.2.2.2 p hp).2.2 j hj
theorem p2m {a b : Nat} (h : a ≤ b) : 2 ^ a ≤ 2 ^ b := Nat.pow_le_pow_right (by decide) h
theorem PB.n {sg pl : Nat → Nat} (h : PB sg pl) : pl 0 ≤ 20 := h.1
theorem PB.s {sg pl : Nat → Nat} (h : PB sg pl) (hs : SB sg) {s : Nat} (hn : s < pl 0) : oS pl s 0 < 90 ∧ oS pl s 1 < 3 ∧ oS pl s 2 ≤ 1 ∧ oS pl s 3 < 32 ∧ oS pl s 0 < 3 * sg 0 ∧ oS pl s 1 < sg 1 ∧ oS pl s 3 < 2 ^ sg 3 := by
  obtain ⟨⟨a, b, c, d⟩, -⟩ := h.2.2 s hn
  have e := hs.b
  have f := p2m (show sg 3 ≤ 5 by omega)
  exact ⟨by omega, by omega, c, by omega, a, b, d⟩
theorem PB.c {sg pl : Nat → Nat} (h : PB sg pl) {s w j : Nat} (hn : s < pl 0) (hw : w < sg 3) (ht : (oS pl s 3).testBit w = true) (hj : j < oW sg w 4) : oS pl s (4 + 6 * w + j) < sg 2 := (h.2.2 s hn).2 w hw ht j hj
/-! the model's methods that only read -/
section RD
variable {m : Nat} {sg pl : Nat → Nat} {M : Mm}
/-- the players in a service, as bits -/
def inW (sg pl : Nat → Nat) (s w a : Nat) : Nat := if (oS pl s 3).testBit w = true then fo (fun j b => b ||| 2 ^ oS pl s (4 + 6 * w + j)) (oW sg w 4) a else a
def inS (sg pl : Nat → Nat) (s : Nat) : Nat := fo (inW sg pl s) (sg 3) 0
end RD
