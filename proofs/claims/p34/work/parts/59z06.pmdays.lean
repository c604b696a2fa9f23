/-! PARSE: the days, in the model -/
section PMD
variable {m L p : Nat} {bf : Nat → Int32} {M : Mm}
end PMD
