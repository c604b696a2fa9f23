/-! THE ROOM: one start looked at: its works by rareness, its codes of the first service -/
section CHK
variable {sg : Nat → Nat}
def isI (N : Nat → Nat) (k : Nat) : List Nat → List Nat
  | [] => [k]
  | x :: l => if N x < N k then x :: isI N k l else k :: x :: l
def isS (N : Nat → Nat) : List Nat → List Nat
  | [] => []
  | k :: l => isI N k (isS N l)
theorem isI_p (N : Nat → Nat) (k : Nat) : ∀ l, List.Perm (k :: l) (isI N k l)
  | [] => List.Perm.refl _
  | x :: l => by
    unfold isI
    by_cases c : N x < N k
    · rw [if_pos c]
      exact (List.Perm.swap x k l).trans (List.Perm.cons x (isI_p N k l))
    · rw [if_neg c]
theorem isS_p (N : Nat → Nat) : ∀ l, List.Perm l (isS N l)
  | [] => List.Perm.refl _
  | k :: l => (List.Perm.cons k (isS_p N l)).trans (isI_p N k (isS N l))
theorem SeR_LWs {Ge d P : Nat} {q : PSt} (h : SeR sg Ge d P q) (N : Nat → Nat) : LW sg (fun w => isS N (wSe q.1 (itw w (nx q.2.2)))) := fun w hw => ⟨(h.LW w hw).1, (h.LW w hw).2.trans (isS_p N _)⟩
/-- all seats of a list have players enough, though n are away -/
def sureL (N : Nat → Nat) (n : Nat) : Nat → List Nat → Bool
  | _, [] => true
  | i, k :: l => Nat.blt (Nat.add i n) (N k) && sureL N n (i + 1) l
theorem sureL_ok {N : Nat → Nat} {n : Nat} : ∀ (l : List Nat) (i : Nat), sureL N n i l = true → ∀ j, j < l.length → i + j + n < N (l.getD j 0)
  | [], _, _, j, hj => absurd hj (Nat.not_lt_zero _)
  | k :: l, i, h, j, hj => by
    have h : (Nat.blt (Nat.add i n) (N k) && sureL N n (i + 1) l) = true := h
    rw [Bool.and_eq_true] at h
    cases j with
    | zero =>
      have q : i + n < N k := Nat.le_of_ble_eq_true h.1
      show i + 0 + n < N k
      omega
    | succ j =>
      have q := sureL_ok l (i + 1) h.2 j (Nat.lt_of_succ_lt_succ hj)
      show i + (j + 1) + n < N (l.getD j 0)
      omega
/-- the code of one work: 0 surely not, 1 surely, 2 unknown; its first day, last day, need, casts, seats; na away on a day -/
def okC (A B Nd K : Nat → Nat) (L : Nat → List Nat) (N na : Nat → Nat) (t x cc : Nat) : Nat :=
  bif Nat.ble (A x) (Nat.div t 3) then (bif Nat.ble (Nat.div t 3) (B x) then (bif (bif Nat.beq cc 1 then Nat.blt 0 (Nat.mul 1 (Nd x)) else false) then 0 else (bif Nat.beq (K x) 0 then 0 else (bif sureL N (na (Nat.div t 3)) 0 (L x) then 1 else 2))) else 0) else 0
theorem blt_f {a b : Nat} (h : ¬ Nat.blt a b = true) : b ≤ a := by
  rcases Nat.lt_or_ge a b with c | c
  · exact absurd (Nat.ble_eq_true_of_le (show a + 1 ≤ b from c)) h
  · exact c
theorem okC_ok {A B Nd K : Nat → Nat} {L : Nat → List Nat} {N na : Nat → Nat} (hA : ∀ x, x < sg 3 → oW sg x 1 = A x) (hB : ∀ x, x < sg 3 → oW sg x 2 = B x) (hN : ∀ x, x < sg 3 → oW sg x 0 = Nd x) (hK : KBn sg K) (hL : LW sg L) (hNP : ∀ k, NP sg k = N k) (hna : ∀ dd, nab sg dd = na dd) (h8 : sg 2 ≤ 8) : OkS sg (okC A B Nd K L N na) := by
  intro t x cc hx hcc
  unfold okC
  by_cases c1 : A x ≤ t / 3
  · rw [show Nat.ble (A x) (Nat.div t 3) = true from Nat.ble_eq_true_of_le c1, cond_true]
    by_cases c2 : t / 3 ≤ B x
    · rw [show Nat.ble (Nat.div t 3) (B x) = true from Nat.ble_eq_true_of_le c2, cond_true]
      have dw : oW sg x 1 ≤ t / 3 ∧ t / 3 ≤ oW sg x 2 := by rw [hA x hx, hB x hx]; exact ⟨c1, c2⟩
      by_cases c3 : (bif Nat.beq cc 1 then Nat.blt 0 (Nat.mul 1 (Nd x)) else false) = true
      · rw [c3, cond_true]
        refine ⟨by omega, fun _ => Or.inr (Or.inl ?_), fun z => absurd z (by omega)⟩
        by_cases e : cc = 1
        · rw [beq_t e, cond_true] at c3
          have q : 0 < 1 * Nd x := Nat.le_of_ble_eq_true c3
          rw [hN x hx]
          exact ⟨e, by omega⟩
        · rw [beq_f e, cond_false] at c3
          exact absurd c3 (by decide)
      · rw [Bool.eq_false_iff.mpr c3, cond_false]
        have nz : cc = 1 → oW sg x 0 = 0 := fun e => by
          rw [beq_t e, cond_true] at c3
          have q := blt_f c3
          have q : 1 * Nd x ≤ 0 := q
          rw [hN x hx]; omega
        by_cases c4 : K x = 0
        · rw [beq_t c4, cond_true]
          refine ⟨by omega, fun _ => Or.inr (Or.inr fun ⟨F, q⟩ => ?_), fun z => absurd z (by omega)⟩
          have := (hK x hx).2 F
          omega
        · rw [beq_f c4, cond_false]
          by_cases c5 : sureL N (na (Nat.div t 3)) 0 (L x) = true
          · rw [c5, cond_true]
            refine ⟨by omega, fun z => absurd z (by omega), fun _ => ⟨dw, nz, fun pl h0 => cast_sure hL h8 h0 hx fun i hi => ?_⟩⟩
            have q := sureL_ok (L x) 0 c5 i hi
            rw [hna, hNP]
            have q : 0 + i + na (t / 3) < N ((L x).getD i 0) := q
            omega
          · rw [Bool.eq_false_iff.mpr c5, cond_false]
            exact ⟨by omega, fun z => absurd z (by omega), fun z => absurd z (by omega)⟩
    · rw [show Nat.ble (Nat.div t 3) (B x) = false from Bool.eq_false_iff.mpr fun z => c2 (Nat.le_of_ble_eq_true z), cond_false]
      exact ⟨by omega, fun _ => Or.inl fun z => c2 (by rw [← hB x hx]; exact z.2), fun z => absurd z (by omega)⟩
  · rw [show Nat.ble (A x) (Nat.div t 3) = false from Bool.eq_false_iff.mpr fun z => c1 (Nat.le_of_ble_eq_true z), cond_false]
    exact ⟨by omega, fun _ => Or.inl fun z => c1 (by rw [← hA x hx]; exact z.1), fun z => absurd z (by omega)⟩
end CHK
