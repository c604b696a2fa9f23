/-! PARSE: the line of an absence, in the model -/
section PAM
variable {m L p : Nat} {bf : Nat → Int32} {M : Mm}
end PAM
