/-! CALLS THAT ONLY READ -/
section WI
variable {M : Mm}
/-- the class's own tests of what, from below and from above -/
theorem bad_up {a : Int32} {n : Nat} (h : bad a (n + 1)) (hn : n + 1 < 2 ^ 31) (c : ¬ a < nI 0) : (nI n < a) = True := eq_true (bad_lt h hn c)
end WI
section SV
variable {m : Nat} {sg pl : Nat → Nat} {M : Mm}
end SV