/-! whyNotMove, costsWith: the model puts its plan aside and back -/
theorem n_le0 {k : Nat} (h : 0 < k) (h2 : k < 2 ^ 31) : (nI k ≤ nI 0) = False := n_leF h h2
section MO
variable {m : Nat} {sg pl : Nat → Nat} {M : Mm}
end MO