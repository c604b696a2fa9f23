/-! PARSE, the steps that all lines share, in the model -/
def MFl (m c q : Nat) (M : Mm) : Prop := zI M m 12 = nI c ∧ zI M m 13 = nI q
/-- the fields of m that a step leaves -/
def KF (m : Nat) (M M' : Mm) : Prop := ∀ j, j ≠ 7 → j ≠ 8 → j ≠ 9 → j ≠ 10 → j ≠ 14 → zI M' m j = zI M m j
def AF (m : Nat) (M M' : Mm) : Prop := ∀ j, j ≠ 7 → j ≠ 8 → j ≠ 9 → j ≠ 10 → zI M' m j = zI M m j
theorem AF.kf {m : Nat} {M M' : Mm} (h : AF m M M') : KF m M M' := fun j a b c d _ => h j a b c d
theorem AF.trans {m : Nat} {M M1 M2 : Mm} (h : AF m M M1) (k : AF m M1 M2) : AF m M M2 := fun j a b c d => (k j a b c d).trans (h j a b c d)
theorem KF.rf {m : Nat} {M : Mm} : KF m M M := fun _ _ _ _ _ _ => rfl
theorem KF.trans {m : Nat} {M M1 M2 : Mm} (h : KF m M M1) (k : KF m M1 M2) : KF m M M2 := fun j a b c d e => (k j a b c d e).trans (h j a b c d e)
section PM1
variable {m L p : Nat} {bf : Nat → Int32} {M : Mm}
end PM1
