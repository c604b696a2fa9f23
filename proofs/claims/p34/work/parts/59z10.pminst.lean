/-! PARSE: an instrument of a player's line, in the model -/
def ow (sg : Nat → Nat) (n q k : Nat) : Bool := fo (fun i b => b || decide (oP sg n (3 + i) = q)) k false
theorem ow_s (sg : Nat → Nat) (n q k : Nat) : ow sg n q (k + 1) = (ow sg n q k || decide (oP sg n (3 + k) = q)) := rfl
theorem ow_iff (sg : Nat → Nat) (n q : Nat) : ∀ k, ow sg n q k = true ↔ ∃ i, i < k ∧ oP sg n (3 + i) = q
  | 0 => ⟨fun h => (by have h2 : false = true := h; cases h2), fun ⟨i, h, _⟩ => absurd h (Nat.not_lt_zero i)⟩
  | k + 1 => by
    rw [ow_s, Bool.or_eq_true, ow_iff sg n q k, decide_eq_true_eq]
    constructor
    · rintro (⟨i, a, b⟩ | a)
      · exact ⟨i, by omega, b⟩
      · exact ⟨k, by omega, a⟩
    · rintro ⟨i, a, b⟩
      by_cases e : i = k
      · subst e; exact Or.inr b
      · exact Or.inl ⟨i, by omega, b⟩
section PIM
variable {m L p n t : Nat} {bf : Nat → Int32} {sg ct : Nat → Nat} {nm : Nat → List Nat} {dt : Bool} {M : Mm}
end PIM
