/-! PARSE: a statement, and all of them, in the model -/
section PMS
variable {m L : Nat} {bf : Nat → Int32} {M : Mm}
end PMS
