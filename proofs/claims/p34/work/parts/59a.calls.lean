/-! A CALL on both sides: the same kind thrown, the same answer, states that go on alike -/
def clA : Nat × (Nat → String) := (1, fun _ => "java/lang/IllegalArgumentException")
def clb (k : Nat) : String := if k = 1 then "java/lang/IndexOutOfBoundsException" else if k = 2 then "java/lang/IllegalArgumentException" else "java/lang/IllegalStateException"
def clc (k : Nat) : String := if k = 1 then "java/lang/IndexOutOfBoundsException" else "java/lang/IllegalStateException"
/-- how many kinds a call throws, and the class of each -/
def clB : Nat × (Nat → String) := (2, clb)
def clB1 : Nat × (Nat → String) := (1, clb)
def clB3 : Nat × (Nat → String) := (3, clb)
def clC : Nat × (Nat → String) := (2, clc)
def clC1 : Nat × (Nat → String) := (1, clc)
def RMo (x : Nat) : Nat → Prop := fun b => x + 149 ≤ b ∧ b ≤ x + 162
/-- an int that is no index below n -/
def bad (a : Int32) (n : Nat) : Prop := a < 0 ∨ nI n ≤ a
theorem ix (a : Int32) {n : Nat} (hn : n < 2 ^ 31) : bad a n ∨ ∃ j, j < n ∧ a = nI j := by
  rcases pk_ix a hn with h | h | h
  · exact Or.inl (Or.inl h)
  · exact Or.inl (Or.inr h)
  · exact Or.inr h
theorem bad_ne {a : Int32} {n j : Nat} (h : bad a n) (hj : j < n) (hn : n < 2 ^ 31) : (a = nI j) = False := eq_false fun e => by
  subst e
  rcases h with h | h
  · exact nI_pos (by omega) h
  · exact nI_ge hj hn h
theorem lt_iff32 (a b : Int32) : a < b ↔ a.toInt < b.toInt := Int32.lt_iff_toInt_lt
theorem le_iff32 (a b : Int32) : a ≤ b ↔ a.toInt ≤ b.toInt := Int32.le_iff_toInt_le
theorem bad_sub {a : Int32} {n : Nat} (h : bad a n) (hn : n < 2 ^ 31) (h0 : ¬ a < nI 0) : nI n - nI 1 < a := by
  have h1 : nI n ≤ a := h.resolve_left h0
  rw [lt_iff32] at h0 ⊢
  rw [le_iff32, nI_toInt hn] at h1
  have z : (nI 0).toInt = 0 := rfl
  by_cases c : n = 0
  · subst c
    have e : (nI 0 - nI 1).toInt = -1 := rfl
    omega
  · rw [n_sub (by omega), nI_toInt (by omega)]
    omega
theorem bad_lt {a : Int32} {n : Nat} (h : bad a (n + 1)) (hn : n + 1 < 2 ^ 31) (h0 : ¬ a < nI 0) : nI n < a := by
  have := bad_sub h hn h0
  rw [n_sub (by omega), Nat.add_sub_cancel] at this
  exact this
section AR
variable {M : Mm}
theorem e_req_ok {j n : Nat} (h : j < n) (hn : n < 2 ^ 31) (P : Mm → Prop) (X : String → Mm → Prop) : w_X7_requireIndex M (nI j) (nI n) P X ↔ P M := by
  simp (disch := omega) only [w_X7_requireIndex, l_0, l_1, l_2, l_3, l_4, l_5, l_6, l_7, l_8, l_9, l_10, l_20, l_30, l_31, l_34, l_40, l_65, l_100, l_255, l_11, l_12, l_24, l_600, l_689, l_999, l_120, l_32, nI_add, pk_mul, n_sub, n_leT, n_leF, n_ltT, n_ltF, n_eqT, n_eqF, n_cl, n_vp, fa_andq, fa_orq, fa_xorq, n_shl, n_shr, n_t1, n_t0, n_div, n_m1, not_true_eq_false, Bool.false_eq_true, false_and, Bool.not_false, Bool.not_true, Bool.and_true, Bool.and_false, Bool.false_and, Bool.true_and, true_and, and_true, true_or, or_true, not_false_eq_true, Option.some.injEq, exists_eq_left', forall_eq, ↓reduceIte, Nat.add_zero, Nat.zero_add, and_self]
theorem e_req_no {a : Int32} {n : Nat} (h : bad a n) (P : Mm → Prop) (X : String → Mm → Prop) : w_X7_requireIndex M a (nI n) P X ↔ ∀ n1, zn M ≤ n1 → X "java/lang/IndexOutOfBoundsException" (sZ M n1) := by
  unfold w_X7_requireIndex
  by_cases c : a < 0
  · rw [if_pos c]
  · rw [if_neg c, if_neg (fun q => by
      have h1 := h.resolve_left c
      rw [lt_iff32] at q
      rw [le_iff32] at h1
      omega)]
end AR
/-- what leaves the model's state as it is: its thrown, what casting writes, aside -/
def RF (m : Nat) : Nat → Prop := fun b => b = m ∨ b = m + 8 ∨ b = m + 9 ∨ b = m + 10
def MF (m : Nat) (M M' : Mm) : Prop := FrI (RF m) M M' ∧ zI M' m 5 = zI M m 5 ∧ zI M' m 13 = zI M m 13 ∧ zI M' m 24 = zI M m 24
/-- the caster and the draft are nobody's state -/
theorem CI.dr {x : Nat} {s : ST} {M M' : Mm} (h : CI x s M) (g : FK x (RDr x) M M') : CI x s M' := by
  obtain ⟨sg, pl, hn, hl, sv, sl, bl, bf, ep, nm⟩ := s
  obtain ⟨c10, sa, sp, hps, hx, hS, hS2, hP, hD, hH, hN, hB, hNm, hKP⟩ := h
  have at_ := hx.at
  have f := g.1
  refine ⟨c10, sa, sp, hps, hx.fr f, hS.fr f (by unfold RDr; omega), hS2.fr f, hP.fr f (by unfold RDr; omega), hD.fr f, hH.fr c10 f (by unfold RDr; omega) (by rw [f.i (by unfold RDr; omega)]), hN.frx f.x (by unfold RDr; omega) (by unfold RDr; omega), ?_, ?_, g.2 hKP⟩
  · unfold CBu at hB ⊢
    rw [f.i (b := x) (by unfold RDr; omega), f.i (b := x + 1) (by unfold RDr; omega)]; exact hB
  · unfold CNm at hNm ⊢
    rw [f.j]; exact hNm
theorem RDr.g {x : Nat} {M M' : Mm} (f : FK x (RDr x) M M') : FrG x (x + 149) M M' := f.1.g fun b hb => by unfold RDr at hb; omega
theorem RK.g {x : Nat} {M M' : Mm} (f : FK x (RK x) M M') : FK x (RDr x) M M' := f.mono fun b hb => by unfold RK at hb; unfold RDr; omega