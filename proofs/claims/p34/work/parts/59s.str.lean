/-! the words of the language: codeOf and isWord -/
def kw (i : Nat) : List Nat := [[100, 97, 121, 115], [104, 97, 108, 108], [112, 108, 97, 121, 101, 114], [97, 98, 115, 101, 110, 116], [119, 111, 114, 107], [100, 111, 117, 98, 108, 101]].getD i []
theorem kw_len : ∀ i, i < 6 → (kw i).length = zLen.getD i 0 ∧ (kw i).length ≤ 6 := by decide
theorem kw_ch : ∀ i, i < 6 → ∀ k, k < (kw i).length → zCh i (nI k) = nI ((kw i).getD k 0) := by decide +kernel
theorem kw_ok : ∀ i, i < 6 → NameOK (kw i) := by
  intro i hi
  rcases (show i = 0 ∨ i = 1 ∨ i = 2 ∨ i = 3 ∨ i = 4 ∨ i = 5 by omega) with rfl | rfl | rfl | rfl | rfl | rfl
  all_goals exact ⟨by decide, by decide, by decide⟩
theorem kw_take (i k : Nat) (h : k < (kw i).length) : (kw i).take (k + 1) = (kw i).take k ++ [(kw i).getD k 0] := by
  rw [List.take_succ, List.getD_eq_getElem?_getD, List.getElem?_eq_getElem h]; rfl
theorem s_X7_codeOf {i : Nat} (hi : i < 6) (M : Mm) (P : Int64 → Mm → Prop) (K : P (c5 (kw i)) M) : w_X7_codeOf M i P := by
  obtain ⟨l1, l2⟩ := kw_len i hi
  have hi12 : i < 12 := by omega
  have ok := kw_ok i hi
  unfold w_X7_codeOf
  refine lpI (fun n (z : Int64 × Int32) => l_X7_codeOf_4 P (fun M4 x1_4 => P x1_4 M4) n M i z.1 z.2) (fun k z => z = (c5 ((kw i).take k), nI k)) (kw i).length ?_ ?_ ((0 : Int64), (0 : Int32)) rfl
  · rintro n z rfl
    rw [List.take_length]
    simp (disch := omega) only [l_X7_codeOf_4, w_J0_length_8abf5, ← l1, hi12, n_leT, not_true_eq_false, Bool.false_eq_true, false_and, Bool.not_false, Bool.not_true, Bool.and_true, Bool.and_false, Bool.false_and, Bool.true_and, true_and, and_true, true_or, or_true, not_false_eq_true, Option.some.injEq, exists_eq_left', forall_eq, ↓reduceIte, Nat.add_zero, Nat.zero_add, and_self]
    exact K
  · rintro n k z hk rfl LL
    have L2 := LL (c5 ((kw i).take (k + 1)), nI (k + 1)) rfl
    have g : 97 ≤ (kw i).getD k 0 := by
      refine (ok.2.2 _ ?_).1
      rw [List.getD_eq_getElem?_getD, List.getElem?_eq_getElem hk]
      exact List.getElem_mem hk
    rw [kw_take i k hk, c5n g] at L2
    simp (disch := omega) only [l_X7_codeOf_4, w_J0_length_8abf5, w_J0_charAt_5068e, w_X7_withLetter, ← l1, hi12, n_leF, n_vp, kw_ch i hi k hk, l_97, l_5, l_1, n_sub, nI_add, not_true_eq_false, Bool.false_eq_true, false_and, Bool.not_false, Bool.not_true, Bool.and_true, Bool.and_false, Bool.false_and, Bool.true_and, true_and, and_true, true_or, or_true, not_false_eq_true, Option.some.injEq, exists_eq_left', forall_eq, ↓reduceIte, Nat.add_zero, Nat.zero_add, and_self]
    exact L2
theorem wd_get (bf : Nat → Int32) (p n : Nat) {k : Nat} (h : k < n) : (wd bf p n).getD k 0 = ub (bf (p + k)) := by
  unfold wd
  rw [List.getD_eq_getElem?_getD, List.getElem?_map, List.getElem?_range h]; rfl
theorem wd_len (bf : Nat → Int32) (p n : Nat) : (wd bf p n).length = n := by unfold wd; rw [List.length_map, List.length_range]
theorem list_eq {u v : List Nat} (h : u.length = v.length) (e : ∀ k, k < u.length → u.getD k 0 = v.getD k 0) : u = v := by
  refine List.ext_getElem h fun k h1 h2 => ?_
  have q := e k h1
  rw [List.getD_eq_getElem?_getD, List.getD_eq_getElem?_getD, List.getElem?_eq_getElem h1, List.getElem?_eq_getElem h2] at q
  exact q
/-- is the token at p the word i? -/
def isw (L : Nat) (bf : Nat → Int32) (p i : Nat) : Bool := decide (tK L bf p = 1 ∧ tW L bf p = kw i)
theorem isw_c5 {L : Nat} {bf : Nat → Int32} {p i : Nat} (hby : ∀ i, i < L → (bf i).toInt8.toInt32 = bf i) (h : tK L bf p = 1) (hi : i < 6) : (c5 (tW L bf p) = c5 (kw i)) = (isw L bf p i = true) := by
  rw [c5_eq (tK_1 hby h) (kw_ok i hi)]
  unfold isw
  rw [decide_eq_true_eq]
  exact propext ⟨fun e => ⟨h, e⟩, fun e => e.2⟩
theorem tK1i {L : Nat} {bf : Nat → Int32} {p : Nat} (h : tK L bf p = 1) : tS L bf p < L ∧ tN L bf p = tS L bf p + run lt L bf (tS L bf p) ∧ run lt L bf (tS L bf p) ≤ 8 := by
  by_cases c : tS L bf p < L
  · by_cases d : lt (bt L bf (tS L bf p)) = true
    · obtain ⟨t1, t2⟩ := tk_w c d
      by_cases e : run lt L bf (tS L bf p) ≤ 8
      · exact ⟨c, t2, e⟩
      · rw [if_neg e] at t1; omega
    · exfalso
      by_cases d2 : dgt (bt L bf (tS L bf p)) = true
      · have t1 := (tk_n c (b_no d) d2).1
        revert t1; split <;> omega
      · have t1 := (tk_o c (b_no d) (b_no d2)).1
        revert t1; split <;> omega
  · have := (tk_e (bf := bf) (p := p) (L := L) (by omega)).1
    omega
theorem tK_b {L : Nat} {bf : Nat → Int32} {p : Nat} : tK L bf p ≤ 4 := by
  unfold tK
  split
  · omega
  · split
    · split <;> omega
    · split
      · split <;> omega
      · split <;> omega
section IW
variable {m L : Nat} {bf : Nat → Int32} {M : Mm}
end IW
