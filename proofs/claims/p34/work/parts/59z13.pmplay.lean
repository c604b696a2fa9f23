/-! PARSE: the line of a player, in the model -/
section PMI
variable {m L n : Nat} {bf : Nat → Int32} {P : Int32 → Mm → Prop} {K89 : Mm → Prop} {K99 : Mm → Nat → Prop}
end PMI
section PMQ
variable {m L p : Nat} {bf : Nat → Int32} {M : Mm}
end PMQ
