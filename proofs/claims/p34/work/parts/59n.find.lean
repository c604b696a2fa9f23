/-! find of the model; find on both sides -/
theorem fr_s1 {m i : Nat} {M : Mm} {v : Int32} : FrI (fun b => b = m) M (sI M m i v) := FrI.sI rfl