/-! THE ROOM: whether the first service comes to be -/
section ORC
variable {sg pl : Nat → Nat}
/-- who is away on day d, counted -/
def nab (sg : Nat → Nat) (d : Nat) : Nat := su (fun p => if (oP sg p 1).testBit d = true then 1 else 0) (sg 2)
theorem free_0 {t p : Nat} (h8 : sg 2 ≤ 8) (h : pl 0 = 0) (hp : p < sg 2) (ha : ¬ (oP sg p 1).testBit (t / 3) = true) : (free sg pl t).testBit p = true := by
  unfold free atS
  rw [h]
  show (pres sg (t / 3) &&& (0 ^^^ 4294967295)).testBit p = true
  rw [Nat.testBit_and, Nat.testBit_xor, Nat.zero_testBit, show (4294967295 : Nat) = 2 ^ 32 - 1 from rfl, Nat.testBit_two_pow_sub_one, decide_eq_true (show p < 32 by omega)]
  have q : (pres sg (t / 3)).testBit p = true := by
    unfold pres
    rw [tb_fo]
    exact Or.inr ⟨p, hp, ha, rfl⟩
  rw [q]; rfl
theorem av_0 {t k : Nat} (h8 : sg 2 ≤ 8) (h : pl 0 = 0) : NP sg k ≤ av sg (free sg pl t) k + nab sg (t / 3) := by
  have q : NP sg k ≤ su (fun p => (if (free sg pl t).testBit p = true ∧ (kinds sg p).testBit k = true then 1 else 0) + (if (oP sg p 1).testBit (t / 3) = true then 1 else 0)) (sg 2) := su_le fun p hp => by
    by_cases c : (kinds sg p).testBit k = true
    · rw [if_pos c]
      by_cases d : (oP sg p 1).testBit (t / 3) = true
      · rw [if_pos d]; omega
      · rw [if_pos ⟨free_0 h8 h hp d, c⟩]; omega
    · rw [if_neg c]; exact Nat.zero_le _
  rw [su_add] at q
  exact q
/-- the first service can't be -/
theorem orc_0 {ha t S c x : Nat} (h0 : pl 0 = 0) (hx : x < sg 3) (hS : S.testBit x = true) (h : ¬ (oW sg x 1 ≤ t / 3 ∧ t / 3 ≤ oW sg x 2) ∨ (c = 1 ∧ 0 < oW sg x 0) ∨ ¬ cst sg x) : cmP sg pl ha t S c 0 = 0 := by
  unfold cmP
  by_cases q : whyN sg pl ha t S c = 0
  · exfalso
    obtain ⟨q1, q2, q3⟩ := whyN_0 q
    rcases h with h | ⟨h, n⟩ | h
    · unfold rented at q2
      rw [al_iff] at q2
      have r := q2 x hx
      rw [Bool.not_eq_true', decide_eq_false_iff_not] at r
      exact r ⟨hS, h⟩
    · have r : ¬ ready sg pl S t = true := fun r => by
        unfold ready at r
        rw [al_iff] at r
        have r := r x hx
        rw [Bool.not_eq_true', decide_eq_false_iff_not] at r
        refine r ⟨hS, ?_⟩
        have e : swt pl x 0 t = 0 := by
          unfold swt
          rw [h0]; rfl
        rw [e]; exact n
      rw [h] at q
      exact (whyC_no (ha := ha) (by omega) r).2 q
    · exact h (hasC_c q3 x hx hS)
  · rw [if_neg q]; exact h0
/-- the first service comes to be -/
theorem orc_1 {ha t S c : Nat} (h0 : pl 0 = 0) (hr : ∀ x, x < sg 3 → S.testBit x = true → oW sg x 1 ≤ t / 3 ∧ t / 3 ≤ oW sg x 2) (hn : c = 1 → ∀ x, x < sg 3 → S.testBit x = true → oW sg x 0 = 0) (hc : ∀ x, x < sg 3 → S.testBit x = true → dm sg x (oW sg x 4) (free sg pl t) < 100) : cmP sg pl ha t S c 0 ≠ 0 := by
  have q : whyN sg pl ha t S c = 0 := by
    unfold whyN
    rw [if_neg (by omega)]
    have r : rented sg S (t / 3) = true := by
      unfold rented
      rw [al_iff]
      intro x hx
      rw [Bool.not_eq_true', decide_eq_false_iff_not]
      exact fun z => z.2 (hr x hx z.1)
    have f : hFree pl ha t (sg (6 + ha)) = true := by
      unfold hFree
      rw [al_iff, h0]
      exact fun s hs => absurd hs (Nat.not_lt_zero _)
    have n : ¬ (c = 1 ∧ ¬ ready sg pl S t = true) := fun z => z.2 (by
      unfold ready
      rw [al_iff]
      intro x hx
      rw [Bool.not_eq_true', decide_eq_false_iff_not]
      intro y
      have e := hn z.1 x hx y.1
      have := y.2
      omega)
    have g : hasC sg S (free sg pl t) = true := by
      unfold hasC
      rw [al_iff]
      intro x hx
      rw [Bool.not_eq_true', decide_eq_false_iff_not]
      exact fun z => z.2 (hc x hx z.1)
    rw [if_neg fun z => z r, if_neg fun z => z f, if_neg n, if_pos g]
  unfold cmP
  rw [if_pos q, cm_n]
  omega
/-- surely a cast, though so many are away -/
theorem cast_sure {L : Nat → List Nat} (hL : LW sg L) (h8 : sg 2 ≤ 8) (h0 : pl 0 = 0) {x t : Nat} (hx : x < sg 3) (h : ∀ i, i < (L x).length → i + nab sg (t / 3) < NP sg ((L x).getD i 0)) : dm sg x (oW sg x 4) (free sg pl t) < 100 := by
  obtain ⟨l1, l2⟩ := hL x hx
  refine nc_dm sg x _ _ l1 ?_
  rw [nc_ncl, ncl_perm (by omega) l2]
  refine ncl_pos (by omega) _ _ fun i hi => ?_
  have a := av_0 (pl := pl) (t := t) (k := (L x).getD i 0) h8 h0
  have b := h i hi
  omega
end ORC
