/-! PLANS AS FUNCTIONS: a service goes, a service comes; the model's way -/
def off (pl : Nat → Nat) (s : Nat) : Nat → Nat := fun i => if i = 0 then pl 0 - 1 else if 9 + 34 * s ≤ i ∧ i < 9 + 34 * (pl 0 - 1) then pl (i + 34) else pl i
def psn (pl : Nat → Nat) (ha t : Nat) : Nat := fi (fun s => !decide (oS pl s 0 < t ∨ (oS pl s 0 = t ∧ oS pl s 1 < ha))) (pl 0)
/-- the place of a seat of the new service -/
def nv (sg : Nat → Nat) (S F w j : Nat) : Nat := if (S.testBit w = true ∧ dm sg w (oW sg w 4) F < 100) ∧ j < oW sg w 4 then bq sg w (oW sg w 4) F j else 4294967295
def nb (sg pl : Nat → Nat) (at_ t ha S c F f : Nat) : Nat := if f = 0 then t else if f = 1 then ha else if f = 2 then c else if f = 3 then S else if f < 4 + 6 * sg 3 then nv sg S F ((f - 4) / 6) ((f - 4) % 6) else pl (9 + 34 * at_ + f)
def cm (sg pl : Nat → Nat) (at_ t ha S c F : Nat) : Nat → Nat := fun i => if i = 0 then pl 0 + 1 else if i < 9 + 34 * at_ then pl i else if i < 9 + 34 * at_ + 34 then nb sg pl at_ t ha S c F (i - (9 + 34 * at_)) else if i < 9 + 34 * (pl 0 + 1) then pl (i - 34) else pl i
theorem off_n (pl : Nat → Nat) (s : Nat) : off pl s 0 = pl 0 - 1 := rfl
theorem off_k (pl : Nat → Nat) (s : Nat) {i : Nat} (h : i < 9) (h0 : i ≠ 0) : off pl s i = pl i := by
  unfold off
  rw [if_neg h0, if_neg (by omega)]
theorem off_S (pl : Nat → Nat) {s k f : Nat} (hk : k < pl 0 - 1) (hf : f < 34) : oS (off pl s) k f = if k < s then oS pl k f else oS pl (k + 1) f := by
  unfold oS off
  rw [if_neg (by omega)]
  by_cases c : k < s
  · rw [if_neg (by omega), if_pos c]
  · rw [if_pos (by omega), if_neg c]
    congr 1; omega
theorem cm_n (sg pl : Nat → Nat) (at_ t ha S c F : Nat) : cm sg pl at_ t ha S c F 0 = pl 0 + 1 := rfl
theorem cm_k (sg pl : Nat → Nat) (at_ t ha S c F : Nat) {i : Nat} (h : i < 9) (h0 : i ≠ 0) : cm sg pl at_ t ha S c F i = pl i := by
  unfold cm
  rw [if_neg h0, if_pos (by omega)]
theorem cm_S (sg pl : Nat → Nat) {at_ t ha S c F k f : Nat} (hk : k < pl 0 + 1) (hf : f < 34) : oS (cm sg pl at_ t ha S c F) k f = if k < at_ then oS pl k f else if k = at_ then nb sg pl at_ t ha S c F f else oS pl (k - 1) f := by
  unfold oS cm
  rw [if_neg (by omega)]
  by_cases c1 : k < at_
  · rw [if_pos (by omega), if_pos c1]
  · rw [if_neg (by omega), if_neg c1]
    by_cases c2 : k = at_
    · subst c2
      rw [if_pos (by omega), if_pos rfl]
      congr 1; omega
    · rw [if_neg (by omega), if_pos (by omega), if_neg c2]
      congr 1; omega
def mb (pl : Nat → Nat) (fr to : Nat) : Nat → Nat := fun i => if 9 + 34 * to ≤ i ∧ i < 9 + 34 * to + 34 then pl (i - (9 + 34 * to) + (9 + 34 * fr)) else pl i
section MV
variable {m : Nat} {sg pl : Nat → Nat} {M : Mm}
/-- what a service that comes writes in the model -/
def RM (m : Nat) : Nat → Prop := fun b => b = m ∨ b = m + 8 ∨ b = m + 9 ∨ b = m + 2
theorem nb_at {sg pl : Nat → Nat} {at_ t ha S c F w j : Nat} (hw : w < sg 3) (hj : j < 6) : nb sg pl at_ t ha S c F (4 + 6 * w + j) = nv sg S F w j := by
  unfold nb
  rw [if_neg (by omega), if_neg (by omega), if_neg (by omega), if_neg (by omega), if_pos (by omega), show (4 + 6 * w + j - 4) / 6 = w by omega, show (4 + 6 * w + j - 4) % 6 = j by omega]
end MV
