/-! PARSE: a new name, in the model -/
/-- names of sort c that the model read -/
def MNA (m c n : Nat) (nf : Nat → List Nat) (M : Mm) : Prop := ∀ k, k < n → zJ M (m + 7) (8 * c + k) = c8 (nf k) ∧ NameOK (nf k)
section PM2
variable {m L p : Nat} {bf : Nat → Int32} {M : Mm}
end PM2
/-! the abstract state of parsing -/
/-- read so far: token position, the model's read[], names, contracts, is double told -/
abbrev PS : Type := Nat × (Nat → Nat) × (Nat → List Nat) × (Nat → Nat) × Bool
/-- bounds of what is read so far -/
def PSok (s : PS) (L : Nat) : Prop := match s with
  | (p, sg, nm, ct, dt) => p ≤ L ∧ SB sg ∧ (∀ k, k < sg 2 → ct k ≤ 40) ∧ (∀ k, k < sg 1 → NameOK (nm k)) ∧ (∀ k, k < sg 2 → NameOK (nm (8 + k))) ∧ (∀ k, k < sg 3 → NameOK (nm (16 + k))) ∧ (∀ k, k < sg 4 → NameOK (nm (24 + k))) ∧
    (∀ k, sg 2 ≤ k → k < 8 → oP sg k 1 = 0 ∧ oP sg k 2 = 0) ∧ ∀ w, sg 3 ≤ w → w < 5 → oW sg w 4 = 0
/-- the class has read s -/
def CPS (x y z sp L : Nat) (bf : Nat → Int32) (s : PS) (M : Mm) : Prop := match s with
  | (p, sg, nm, ct, dt) => PCx x y z sp L bf M ∧ RT y L bf p M ∧ zI M z 2 = nI 0 ∧ zI M z 3 = nI 4294967295 ∧ CSea sp sg M ∧ CNm sp sg nm M ∧ (∀ k, k < sg 2 → zI M (sp + 6) k = nI (ct k)) ∧ zI M sp 2 = bI dt ∧
    (∀ k, sg 2 ≤ k → k < 8 → zI M (sp + 9) k = nI 0 ∧ zI M (sp + 10) k = nI 0) ∧ ∀ w, sg 3 ≤ w → w < 5 → zI M (sp + 19) w = nI 0