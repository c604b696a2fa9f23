/-! PARSE: the line of a work, in the model -/
section PWM
variable {m L p w t : Nat} {bf : Nat → Int32} {sg ct : Nat → Nat} {nm : Nat → List Nat} {dt : Bool} {M : Mm}
end PWM
section PWI
variable {m L w : Nat} {bf : Nat → Int32} {P : Int32 → Mm → Prop} {K89 : Mm → Prop} {K99 : Mm → Nat → Prop}
end PWI
section PWQ
variable {m L p : Nat} {bf : Nat → Int32} {M : Mm}
end PWQ
