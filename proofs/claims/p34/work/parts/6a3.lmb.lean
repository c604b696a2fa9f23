/-! THE ROOM: the casts of one work while another has none; what is known of a season by its seats -/
section MB3
variable {sg : Nat → Nat}
/-- how many play k -/
def NP (sg : Nat → Nat) (k : Nat) : Nat := su (fun p => if (kinds sg p).testBit k = true then 1 else 0) (sg 2)
theorem av_le (sg : Nat → Nat) (F k : Nat) : av sg F k ≤ NP sg k := su_le fun p _ => by
  by_cases c : (kinds sg p).testBit k = true
  · rw [if_pos c]; split <;> omega
  · rw [if_neg c, if_neg fun q => c q.2]; exact Nat.le_refl _
theorem su_c (n : Nat) : su (fun _ => 1) n = n := by
  induction n with
  | zero => rfl
  | succ n ih => rw [su_s, ih]
theorem fr_le (sg : Nat → Nat) (F : Nat) : fr sg F ≤ sg 2 := by
  have q : fr sg F ≤ su (fun _ => 1) (sg 2) := su_le fun p _ => by split <;> omega
  rw [su_c] at q
  exact q
theorem fr_av (sg : Nat → Nat) (F k : Nat) : fr sg F + NP sg k ≤ sg 2 + av sg F k := by
  have q : su (fun p => (if F.testBit p = true then 1 else 0) + (if (kinds sg p).testBit k = true then 1 else 0)) (sg 2) ≤ su (fun p => 1 + (if F.testBit p = true ∧ (kinds sg p).testBit k = true then 1 else 0)) (sg 2) := su_le fun p _ => by
    by_cases c : F.testBit p = true
    · by_cases d : (kinds sg p).testBit k = true
      · rw [if_pos c, if_pos d, if_pos ⟨c, d⟩]; exact Nat.le_refl _
      · rw [if_pos c, if_neg d, if_neg fun z => d z.2]; exact Nat.le_refl _
    · have d : ¬ (F.testBit p = true ∧ (kinds sg p).testBit k = true) := fun z => c z.1
      rw [if_neg c, if_neg d]
      split <;> omega
  rw [su_add, su_add, su_c] at q
  exact q
/-- the casts of a work with these seats, while one has at most i free players for its i-th seat k -/
def Ui (La : List Nat) (N : Nat → Nat) (P k i : Nat) : Nat := if N k ≤ i then Ul La N P else Ul La (ups N k i) (P - (N k - i))
theorem ncl_Ui (h8 : sg 2 ≤ 32) {La : List Nat} {F k i : Nat} (h : av sg F k ≤ i) : ncl sg La F ≤ Ui La (NP sg) (sg 2) k i := by
  unfold Ui
  by_cases c : NP sg k ≤ i
  · rw [if_pos c]
    exact ncl_U h8 _ _ _ _ (fun k2 => av_le _ _ _) (fr_le _ _)
  · rw [if_neg c]
    refine ncl_U h8 _ _ _ _ (fun k2 => ?_) ?_
    · by_cases e : k2 = k
      · rw [e, ups_1]; exact h
      · rw [ups_o _ _ _ e]; exact av_le _ _ _
    · have q := fr_av sg F k
      omega
def Um (La Lc : List Nat) (N : Nat → Nat) (P : Nat) : Nat → Nat
  | 0 => 0
  | n + 1 => if Um La Lc N P n < Ui La N P (Lc.getD n 0) n then Ui La N P (Lc.getD n 0) n else Um La Lc N P n
theorem Um_le {La Lc : List Nat} {N : Nat → Nat} {P : Nat} : ∀ {n i}, i < n → Ui La N P (Lc.getD i 0) i ≤ Um La Lc N P n
  | 0, i, h => absurd h (Nat.not_lt_zero _)
  | n + 1, i, h => by
    unfold Um
    by_cases e : i = n
    · rw [e]; split <;> omega
    · have q := Um_le (La := La) (Lc := Lc) (N := N) (P := P) (show i < n by omega)
      split <;> omega
/-- the works' seats, in any order -/
def LW (sg : Nat → Nat) (L : Nat → List Nat) : Prop := ∀ w, w < sg 3 → oW sg w 4 ≤ 99 ∧ List.Perm (stl sg w (oW sg w 4)) (L w)
theorem LW.K {L : Nat → List Nat} (h : LW sg L) (h8 : sg 2 ≤ 32) : KBn sg (fun w => Ul (L w) (NP sg) (sg 2)) := fun w hw => ⟨(h w hw).1, fun F => by
  rw [nc_ncl, ncl_perm h8 (h w hw).2]
  exact ncl_U h8 _ _ _ _ (fun k2 => av_le _ _ _) (fr_le _ _)⟩
theorem LW.M {L : Nat → List Nat} (h : LW sg L) (h8 : sg 2 ≤ 32) : MBn sg (fun a c => Um (L a) (L c) (NP sg) (sg 2) (L c).length) := fun a c hac hc F hF => by
  have z : ncl sg (L c) F = 0 := by
    by_cases q : ncl sg (L c) F = 0
    · exact q
    · rw [← ncl_perm h8 (h c hc).2, ← nc_ncl] at q
      exact absurd (nc_dm sg c _ F (h c hc).1 q) hF
  rw [nc_ncl, ncl_perm h8 (h a (by omega)).2]
  by_cases q : ∃ i, i < (L c).length ∧ av sg F ((L c).getD i 0) ≤ i
  · obtain ⟨i, hi, h2⟩ := q
    exact Nat.le_trans (ncl_Ui h8 h2) (Um_le hi)
  · refine absurd z (ncl_pos h8 (L c) F fun i hi => ?_)
    rcases Nat.lt_or_ge i (av sg F ((L c).getD i 0)) with y | y
    · exact y
    · exact absurd ⟨i, hi, y⟩ q
end MB3
