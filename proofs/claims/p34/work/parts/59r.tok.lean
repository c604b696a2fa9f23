/-! advance: the model's tokens -/
section MTA
variable {m L : Nat} {bf : Nat → Int32} {M : Mm}
theorem btv (h : TX m L bf M) (i : Nat) {v : Nat} (hv : v < 256) : (nI (bt L bf i) = nI v) = (bt L bf i = v) := by
  have b : bt L bf i < 4294967296 := by
    by_cases d : i < L
    · exact Nat.lt_trans (bt_b h d) (by omega)
    · rw [bt_ge (by omega)]; omega
  by_cases c : bt L bf i = v
  · rw [n_eqT c, eq_true c]
  · rw [n_eqF c b (by omega), eq_false c]
theorem btm (h : TX m L bf M) (i : Nat) : (nI (bt L bf i) = nI 4294967295) = (L ≤ i) := by
  by_cases d : i < L
  · have b := bt_b h d
    rw [n_eqF (by omega) (by omega) (by omega), eq_false (show ¬ L ≤ i by omega)]
  · rw [bt_ge (by omega), n_eqT rfl, eq_true (show L ≤ i by omega)]
end MTA
