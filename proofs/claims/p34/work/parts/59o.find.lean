/-! find on both sides -/
theorem FrJ.g {m lo hi : Nat} {R : Nat → Prop} {M M' : Mm} (f : FrJ m R M M') (d : ∀ b, R b → lo ≤ b ∧ b < hi) (d2 : lo ≤ m ∧ m < hi) : FrG lo hi M M' :=
  ⟨by rw [f.1]; exact Nat.le_refl _, fun b _ hn => ⟨by rw [f.2.1], by rw [f.2.2.1], f.2.2.2.2.1 b fun q => hn (d b q), f.2.2.2.2.2 b fun e => hn (by omega), by rw [f.2.2.2.1]⟩⟩