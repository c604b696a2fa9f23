/-! PARSE: the model's call -/
theorem FQ.g {R : Nat → Prop} {lo hi : Nat} {M M' : Mm} (f : FQ R M M') (d : ∀ b, R b → lo ≤ b ∧ b < hi) : FrG lo hi M M' :=
  ⟨by rw [f.n]; exact Nat.le_refl _, fun b _ hn => ⟨by rw [f.k], by rw [f.l], f.i fun q => hn (d b q), f.j fun q => hn (d b q), by rw [f.r]⟩⟩
/-- the model's plan after a good text: of players that are not there something that nobody reads -/
def plM (n : Nat) (ct u : Nat → Nat) : Nat → Nat := fun k => if 1 ≤ k ∧ k ≤ 8 then (if k - 1 < n then ct (k - 1) else u (k - 1)) else 0
def stM (hl : Nat → Nat → Nat) (sl : Nat → Nat → Nat) (bf : Nat → Int32) (s : PS) (u : Nat → Nat) : ST := (s.2.1, plM (s.2.1 2) s.2.2.2.1 u, 0, hl, fun _ => false, sl, 0, bf, 4294967295, s.2.2.1)
section PTR
variable {m : Nat} {M : Mm} {P : Mm → Prop} {K : Mm → Nat → Prop}
end PTR
