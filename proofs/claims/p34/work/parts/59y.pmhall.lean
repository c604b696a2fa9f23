/-! PARSE: the line of a hall, in the model -/
/-- the cells that parsing writes in the model -/
def RPm (m : Nat) : Nat → Prop := fun b => b = m ∨ b = m + 5 ∨ b = m + 6 ∨ b = m + 7
/-- fields of the model that a line leaves -/
def MFx (m : Nat) (M M' : Mm) : Prop := ∀ j, j = 0 ∨ j = 5 ∨ j = 24 → zI M' m j = zI M m j
theorem MFx.trans {m : Nat} {M M1 M2 : Mm} (h : MFx m M M1) (k : MFx m M1 M2) : MFx m M M2 := fun j a => (k j a).trans (h j a)
theorem KF.fx {m : Nat} {M M' : Mm} (h : KF m M M') : MFx m M M' := fun j a => h j (by omega) (by omega) (by omega) (by omega) (by omega)
theorem AF.fx {m : Nat} {M M' : Mm} (h : AF m M M') : MFx m M M' := h.kf.fx
theorem fails_fx {m : Nat} {M M' : Mm} (h : ∀ j, j ≠ 12 → j ≠ 13 → zI M' m j = zI M m j) : MFx m M M' := fun j a => h j (by omega) (by omega)
section PMH
variable {m L p : Nat} {bf : Nat → Int32} {M : Mm}
theorem nmErr_new {n N : Nat} {nf : Nat → List Nat} (hn : n ≠ N) (h1 : tK L bf (tN L bf p) = 1) (h2 : ¬ nin nf n (tW L bf (tN L bf p)) < n) : nmErr L bf p n N nf = none := by
  unfold nmErr; rw [if_neg hn, if_pos h1, if_neg h2]
theorem nmErr_bad {n N e : Nat} {nf : Nat → List Nat} (hn : n ≠ N) (h : (tK L bf (tN L bf p) ≠ 1 ∧ e = 1) ∨ (tK L bf (tN L bf p) = 1 ∧ nin nf n (tW L bf (tN L bf p)) < n ∧ e = 2)) : nmErr L bf p n N nf = some (e, tS L bf (tN L bf p)) := by
  unfold nmErr
  rw [if_neg hn]
  rcases h with ⟨a, rfl⟩ | ⟨a, b, rfl⟩
  · rw [if_neg a]
  · rw [if_pos a, if_pos b]
end PMH
