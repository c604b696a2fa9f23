/-! TOKENS: what stands at p, for both sides -/
theorem l_48 : (48 : Int32) = nI 48 := rfl
theorem l_57 : (57 : Int32) = nI 57 := rfl
theorem l_59 : (59 : Int32) = nI 59 := rfl
theorem isV {b : Int32} (h : b.toInt8.toInt32 = b) {v : Nat} (hv : v < 128) : (b = nI v) = (ub b = v) := by
  obtain ⟨h1, h2, h3⟩ := ub_ok h
  refine propext ⟨fun e => ?_, fun e => ?_⟩
  · rcases h3 with ⟨h3, h4⟩ | ⟨h3, h4⟩
    · rw [e] at h4
      have q : (nI v = nI (ub b)) = True := eq_true (by rw [← e, ← e] at *; exact h4)
      by_cases d : v = ub b
      · exact d.symm
      · rw [n_eqF d (by omega) (by omega)] at q
        exact absurd q (by simp)
    · subst e
      rw [lt_iff32, nI_toInt (by omega)] at h4
      have z : (nI 0).toInt = 0 := rfl
      omega
  · rcases h3 with ⟨h3, h4⟩ | ⟨h3, h4⟩
    · rw [h4, e]
    · omega
theorem isD {b : Int32} (h : b.toInt8.toInt32 = b) (M : Mm) (P : Int32 → Mm → Prop) : w_X7_isDigit M b P ↔ P (bI (wi 48 57 (ub b))) M := by
  obtain ⟨h1, h2, h3⟩ := ub_ok h
  unfold wi
  rcases h3 with ⟨h3, h4⟩ | ⟨h3, h4⟩
  · generalize ub b = u at *
    subst h4
    by_cases c : u < 48
    · simp (disch := omega) only [w_X7_isDigit, l_48, n_ltT, decide_eq_false (show ¬ (48 ≤ u ∧ u ≤ 57) by omega), bI_f, l_0, l_1, l_2, l_3, l_4, l_5, l_6, l_7, l_8, l_9, l_10, l_20, l_30, l_31, l_34, l_40, l_65, l_100, l_255, l_11, l_12, l_24, l_600, l_689, l_999, l_120, l_32, nI_add, pk_mul, n_sub, n_leT, n_leF, n_ltT, n_ltF, n_eqT, n_eqF, n_cl, n_vp, fa_andq, fa_orq, fa_xorq, n_shl, n_shr, n_t1, n_t0, n_div, n_m1, not_true_eq_false, Bool.false_eq_true, false_and, Bool.not_false, Bool.not_true, Bool.and_true, Bool.and_false, Bool.false_and, Bool.true_and, true_and, and_true, true_or, or_true, not_false_eq_true, Option.some.injEq, exists_eq_left', forall_eq, ↓reduceIte, Nat.add_zero, Nat.zero_add, and_self]
    · by_cases c2 : 57 < u
      · simp (disch := omega) only [w_X7_isDigit, l_48, l_57, decide_eq_false (show ¬ (48 ≤ u ∧ u ≤ 57) by omega), bI_f, l_0, l_1, l_2, l_3, l_4, l_5, l_6, l_7, l_8, l_9, l_10, l_20, l_30, l_31, l_34, l_40, l_65, l_100, l_255, l_11, l_12, l_24, l_600, l_689, l_999, l_120, l_32, nI_add, pk_mul, n_sub, n_leT, n_leF, n_ltT, n_ltF, n_eqT, n_eqF, n_cl, n_vp, fa_andq, fa_orq, fa_xorq, n_shl, n_shr, n_t1, n_t0, n_div, n_m1, not_true_eq_false, Bool.false_eq_true, false_and, Bool.not_false, Bool.not_true, Bool.and_true, Bool.and_false, Bool.false_and, Bool.true_and, true_and, and_true, true_or, or_true, not_false_eq_true, Option.some.injEq, exists_eq_left', forall_eq, ↓reduceIte, Nat.add_zero, Nat.zero_add, and_self]
      · simp (disch := omega) only [w_X7_isDigit, l_48, l_57, decide_eq_true (show 48 ≤ u ∧ u ≤ 57 by omega), bI_t, l_0, l_1, l_2, l_3, l_4, l_5, l_6, l_7, l_8, l_9, l_10, l_20, l_30, l_31, l_34, l_40, l_65, l_100, l_255, l_11, l_12, l_24, l_600, l_689, l_999, l_120, l_32, nI_add, pk_mul, n_sub, n_leT, n_leF, n_ltT, n_ltF, n_eqT, n_eqF, n_cl, n_vp, fa_andq, fa_orq, fa_xorq, n_shl, n_shr, n_t1, n_t0, n_div, n_m1, not_true_eq_false, Bool.false_eq_true, false_and, Bool.not_false, Bool.not_true, Bool.and_true, Bool.and_false, Bool.false_and, Bool.true_and, true_and, and_true, true_or, or_true, not_false_eq_true, Option.some.injEq, exists_eq_left', forall_eq, ↓reduceIte, Nat.add_zero, Nat.zero_add, and_self]
  · have c : b < nI 48 := by
      rw [lt_iff32] at h4 ⊢
      have z : (nI 0).toInt = 0 := rfl
      have z2 : (nI 48).toInt = 48 := rfl
      omega
    simp (disch := omega) only [w_X7_isDigit, l_48, c, decide_eq_false (show ¬ (48 ≤ ub b ∧ ub b ≤ 57) by omega), bI_f, l_0, l_1, l_2, l_3, l_4, l_5, l_6, l_7, l_8, l_9, l_10, l_20, l_30, l_31, l_34, l_40, l_65, l_100, l_255, l_11, l_12, l_24, l_600, l_689, l_999, l_120, l_32, nI_add, pk_mul, n_sub, n_leT, n_leF, n_ltT, n_ltF, n_eqT, n_eqF, n_cl, n_vp, fa_andq, fa_orq, fa_xorq, n_shl, n_shr, n_t1, n_t0, n_div, n_m1, not_true_eq_false, Bool.false_eq_true, false_and, Bool.not_false, Bool.not_true, Bool.and_true, Bool.and_false, Bool.false_and, Bool.true_and, true_and, and_true, true_or, or_true, not_false_eq_true, Option.some.injEq, exists_eq_left', forall_eq, ↓reduceIte, Nat.add_zero, Nat.zero_add, and_self]
/-- a run of bytes with f from p on -/
def run (f : Nat → Bool) (L : Nat) (bf : Nat → Int32) (p : Nat) : Nat := fi (fun i => !f (bt L bf (p + i))) (L - p)
theorem run_le (f : Nat → Bool) (L : Nat) (bf : Nat → Int32) {p : Nat} (hp : p ≤ L) : p + run f L bf p ≤ L := by
  have l := fi_le (fun i => !f (bt L bf (p + i))) (L - p)
  unfold run; omega
theorem run_no (f : Nat → Bool) (hf : f 4294967295 = false) (L : Nat) (bf : Nat → Int32) (p : Nat) : f (bt L bf (p + run f L bf p)) = false := by
  have l := fi_le (fun i => !f (bt L bf (p + i))) (L - p)
  unfold run
  by_cases c : fi (fun i => !f (bt L bf (p + i))) (L - p) < L - p
  · have y := fi_yes _ _ c
    revert y
    cases f (bt L bf (p + fi (fun i => !f (bt L bf (p + i))) (L - p))) <;> intro y
    · rfl
    · cases y
  · rw [bt_ge (by omega)]; exact hf
theorem run_in (f : Nat → Bool) (L : Nat) (bf : Nat → Int32) (p : Nat) {i : Nat} (h : i < run f L bf p) : p + i < L ∧ f (ub (bf (p + i))) = true := by
  have l := fi_le (fun i => !f (bt L bf (p + i))) (L - p)
  have n := fi_no _ _ i h
  unfold run at h
  have e : p + i < L := by omega
  try dsimp only at n
  rw [bt_lt e] at n
  revert n
  cases f (ub (bf (p + i))) <;> intro n
  · cases n
  · exact ⟨e, rfl⟩
theorem run_rn (L : Nat) (bf : Nat → Int32) (p : Nat) : run lt L bf p = rn L bf p := rfl
def blnk (a : Nat) : Bool := decide (a = 32 ∨ a = 10)
def dgt (a : Nat) : Bool := wi 48 57 a
theorem blnk_m : blnk 4294967295 = false := by decide
theorem dgt_m : dgt 4294967295 = false := by decide
def dv (bf : Nat → Int32) (p : Nat) : Nat → Nat
  | 0 => 0
  | n + 1 => 10 * dv bf p n + (ub (bf (p + n)) - 48)
def tS (L : Nat) (bf : Nat → Int32) (p : Nat) : Nat := p + run blnk L bf p
/-- kind: 0 the end, 1 a word, 2 a number, 3 a semicolon, 4 nothing of these -/
def tK (L : Nat) (bf : Nat → Int32) (p : Nat) : Nat :=
  if L ≤ tS L bf p then 0 else if lt (bt L bf (tS L bf p)) then (if run lt L bf (tS L bf p) ≤ 8 then 1 else 4)
  else if dgt (bt L bf (tS L bf p)) then (if run dgt L bf (tS L bf p) ≤ 3 then 2 else 4) else if bt L bf (tS L bf p) = 59 then 3 else 4
def tN (L : Nat) (bf : Nat → Int32) (p : Nat) : Nat :=
  if L ≤ tS L bf p then tS L bf p else if lt (bt L bf (tS L bf p)) then tS L bf p + run lt L bf (tS L bf p)
  else if dgt (bt L bf (tS L bf p)) then tS L bf p + run dgt L bf (tS L bf p) else tS L bf p + 1
def tW (L : Nat) (bf : Nat → Int32) (p : Nat) : List Nat := wd bf (tS L bf p) (run lt L bf (tS L bf p))
def tV (L : Nat) (bf : Nat → Int32) (p : Nat) : Nat := dv bf (tS L bf p) (run dgt L bf (tS L bf p))
theorem tS_le (L : Nat) (bf : Nat → Int32) {p : Nat} (hp : p ≤ L) : tS L bf p ≤ L := run_le _ _ _ hp
theorem tN_le (L : Nat) (bf : Nat → Int32) {p : Nat} (hp : p ≤ L) : tN L bf p ≤ L := by
  have h := tS_le L bf hp
  have a := run_le lt L bf h
  have b := run_le dgt L bf h
  unfold tN
  split
  · exact h
  · split
    · exact a
    · split
      · exact b
      · omega
theorem dv_lt (bf : Nat → Int32) (p : Nat) : ∀ n, (∀ i, i < n → dgt (ub (bf (p + i))) = true) → dv bf p n < 10 ^ n
  | 0, _ => by
    show 0 < 10 ^ 0
    decide
  | n + 1, h => by
    have i := dv_lt bf p n fun i hi => h i (by omega)
    have d := of_decide_eq_true (h n (by omega))
    show 10 * dv bf p n + (ub (bf (p + n)) - 48) < 10 ^ (n + 1)
    rw [Nat.pow_succ]
    omega
theorem tK_1 {L : Nat} {bf : Nat → Int32} {p : Nat} (hby : ∀ i, i < L → (bf i).toInt8.toInt32 = bf i) (h : tK L bf p = 1) : NameOK (tW L bf p) := by
  unfold tK at h
  by_cases c : L ≤ tS L bf p
  · rw [if_pos c] at h; omega
  · rw [if_neg c] at h
    by_cases d : lt (bt L bf (tS L bf p)) = true
    · rw [if_pos d] at h
      by_cases e : run lt L bf (tS L bf p) ≤ 8
      · have len : (tW L bf p).length = run lt L bf (tS L bf p) := by unfold tW wd; rw [List.length_map, List.length_range]
        refine ⟨?_, by omega, fun l hl => ?_⟩
        · rw [len]
          by_cases z : run lt L bf (tS L bf p) = 0
          · have n := run_no lt lt_m1 L bf (tS L bf p)
            rw [z, Nat.add_zero, d] at n
            cases n
          · omega
        · unfold tW wd at hl
          obtain ⟨i, hi, rfl⟩ := List.mem_map.mp hl
          rw [List.mem_range] at hi
          exact of_decide_eq_true (run_in lt L bf (tS L bf p) hi).2
      · rw [if_neg e] at h; omega
    · rw [if_neg d] at h
      exfalso
      revert h
      split
      · split <;> omega
      · split <;> omega
theorem tK_2 {L : Nat} {bf : Nat → Int32} {p : Nat} (h : tK L bf p = 2) : tV L bf p < 1000 := by
  unfold tK at h
  by_cases c : L ≤ tS L bf p
  · rw [if_pos c] at h; omega
  · rw [if_neg c] at h
    by_cases d : lt (bt L bf (tS L bf p)) = true
    · rw [if_pos d] at h
      exfalso
      revert h
      split <;> omega
    · rw [if_neg d] at h
      by_cases d2 : dgt (bt L bf (tS L bf p)) = true
      · rw [if_pos d2] at h
        by_cases e : run dgt L bf (tS L bf p) ≤ 3
        · have q := dv_lt bf (tS L bf p) (run dgt L bf (tS L bf p)) fun i hi => (run_in dgt L bf (tS L bf p) hi).2
          have b : 10 ^ run dgt L bf (tS L bf p) ≤ 10 ^ 3 := Nat.pow_le_pow_right (by omega) e
          exact Nat.lt_of_lt_of_le q b
        · rw [if_neg e] at h; omega
      · rw [if_neg d2] at h
        exfalso
        revert h
        split <;> omega
/-- the class's reader at y over the text of x -/
def RDr5 (y x L : Nat) (bf : Nat → Int32) (M : Mm) : Prop := zk M y = 5 ∧ zR M y 0 = some (x + 1) ∧ zI M y 1 = nI L ∧ zk M (x + 1) = 9 ∧ zl M (x + 1) = 600 ∧ L ≤ 600 ∧ y ≠ x + 1 ∧ ∀ i, i < L → zI M (x + 1) i = bf i ∧ (bf i).toInt8.toInt32 = bf i
theorem RDr5.fr {y x L : Nat} {bf : Nat → Int32} {M M' : Mm} (h : RDr5 y x L bf M) (f : FrJ y (fun b => b = y) M M') (g : zI M' y 1 = zI M y 1) : RDr5 y x L bf M' := by
  obtain ⟨h1, h2, h3, h4, h5, h6, h7, h8⟩ := h
  refine ⟨by rw [f.2.1]; exact h1, by rw [f.2.2.2.1]; exact h2, by rw [g]; exact h3, by rw [f.2.1]; exact h4, by rw [f.2.2.1]; exact h5, h6, h7, ?_⟩
  rw [f.2.2.2.2.1 (x + 1) (fun e => h7 e.symm)]
  exact h8
def RT (y L : Nat) (bf : Nat → Int32) (p : Nat) (M : Mm) : Prop := zI M y 2 = nI (tN L bf p) ∧ zI M y 3 = nI (tK L bf p) ∧ zI M y 4 = nI (tS L bf p) ∧ (tK L bf p = 1 → zJ M y 5 = c5 (tW L bf p)) ∧ (tK L bf p = 2 → zI M y 6 = nI (tV L bf p))
def MT (m L : Nat) (bf : Nat → Int32) (p : Nat) (M : Mm) : Prop := zI M m 8 = nI (tN L bf p) ∧ zI M m 9 = nI (tK L bf p) ∧ zI M m 7 = nI (tS L bf p) ∧ (tK L bf p = 1 → zJ M m 11 = c8 (tW L bf p)) ∧ (tK L bf p = 2 → zI M m 10 = nI (tV L bf p))
section RDS
variable {y x L : Nat} {bf : Nat → Int32} {M : Mm}
theorem s_X5_blanks (h : RDr5 y x L bf M) {p : Nat} (hp : p ≤ L) (p2 : zI M y 2 = nI p) (P : Mm → Prop) (KK : Mm → Nat → Prop)
    (K : ∀ M', FrI (fun b => b = y) M M' → (∀ j, j ≠ 2 → zI M' y j = zI M y j) → zI M' y 2 = nI (p + run blnk L bf p) → KK M' y) : ∃ n, l_X5_advance_0 P KK n M y := by
  have hL := h.2.2.2.2.2.1
  have hr := run_le blnk L bf hp
  refine lpI (fun n (z : Mm) => l_X5_advance_0 P KK n z y) (fun k z => FrI (fun b => b = y) M z ∧ (∀ j, j ≠ 2 → zI z y j = zI M y j) ∧ zI z y 2 = nI (p + k)) (run blnk L bf p) ?_ ?_ _ ⟨FrI.rf, fun _ _ => rfl, p2⟩
  · rintro n M1 ⟨f, g, q2⟩
    obtain ⟨h1, h2, h3, h4, h5, h6, h7, h8⟩ := h.fr f.toJ (g 1 (by omega))
    have K1 := K M1 f g q2
    by_cases c : p + run blnk L bf p < L
    · have nb := run_no blnk blnk_m L bf p
      rw [bt_lt c] at nb
      have nb2 := of_decide_eq_false nb
      have n1 : ¬ ub (bf (p + run blnk L bf p)) = 32 := fun e => nb2 (Or.inl e)
      have n2 : ¬ ub (bf (p + run blnk L bf p)) = 10 := fun e => nb2 (Or.inr e)
      have d := h8 _ c
      have iv := fun (v : Nat) (hv : v < 128) => isV d.2 hv
      simp (disch := omega) only [l_X5_advance_0, h1, h2, h3, h4, h5, q2, d.1, iv, n1, n2, l_32, l_10, n_leF, n_vp, n_cl, not_true_eq_false, Bool.false_eq_true, false_and, Bool.not_false, Bool.not_true, Bool.and_true, Bool.and_false, Bool.false_and, Bool.true_and, true_and, and_true, true_or, or_true, not_false_eq_true, Option.some.injEq, exists_eq_left', forall_eq, ↓reduceIte, Nat.add_zero, Nat.zero_add, and_self]
      exact K1
    · simp (disch := omega) only [l_X5_advance_0, h1, h3, q2, n_leT, not_true_eq_false, Bool.false_eq_true, false_and, Bool.not_false, Bool.not_true, Bool.and_true, Bool.and_false, Bool.false_and, Bool.true_and, true_and, and_true, true_or, or_true, not_false_eq_true, Option.some.injEq, exists_eq_left', forall_eq, ↓reduceIte, Nat.add_zero, Nat.zero_add, and_self]
      exact K1
  · rintro n k M1 hk ⟨f, g, q2⟩ LL
    obtain ⟨h1, h2, h3, h4, h5, h6, h7, h8⟩ := h.fr f.toJ (g 1 (by omega))
    have r := run_in blnk L bf p hk
    have d := h8 _ r.1
    have iv := fun (v : Nat) (hv : v < 128) => isV d.2 hv
    have L2 := LL (sI M1 y 2 (nI (p + k + 1))) ⟨f.trans fr_s1, fun j hj => (zI_sI2 _ _ _ _ hj).trans (g j hj), (zI_sI1 _ _ _ _).trans (by rw [Nat.add_assoc])⟩
    rcases of_decide_eq_true r.2 with e | e
    · simp (disch := omega) only [l_X5_advance_0, h1, h2, h3, h4, h5, q2, d.1, iv, e, l_32, l_10, l_1, nI_add, n_leF, n_vp, n_cl, not_true_eq_false, Bool.false_eq_true, false_and, Bool.not_false, Bool.not_true, Bool.and_true, Bool.and_false, Bool.false_and, Bool.true_and, true_and, and_true, true_or, or_true, not_false_eq_true, Option.some.injEq, exists_eq_left', forall_eq, ↓reduceIte, Nat.add_zero, Nat.zero_add, and_self]
      exact L2
    · have e2 : ¬ (10 : Nat) = 32 := by omega
      simp (disch := omega) only [l_X5_advance_0, h1, h2, h3, h4, h5, q2, d.1, iv, e, e2, l_32, l_10, l_1, nI_add, n_leF, n_vp, n_cl, not_true_eq_false, Bool.false_eq_true, false_and, Bool.not_false, Bool.not_true, Bool.and_true, Bool.and_false, Bool.false_and, Bool.true_and, true_and, and_true, true_or, or_true, not_false_eq_true, Option.some.injEq, exists_eq_left', forall_eq, ↓reduceIte, Nat.add_zero, Nat.zero_add, and_self]
      exact L2
theorem s_X5_letters (h : RDr5 y x L bf M) {p : Nat} (hp : p ≤ L) (p2 : zI M y 2 = nI p) (p5 : zJ M y 5 = 0) (P : Mm → Prop) (KK : Mm → Nat → Prop)
    (K : ∀ M', FrJ y (fun b => b = y) M M' → (∀ j, j ≠ 2 → zI M' y j = zI M y j) → zI M' y 2 = nI (p + run lt L bf p) → (run lt L bf p ≤ 8 → zJ M' y 5 = c5 (wd bf p (run lt L bf p))) → KK M' y) : ∃ n, l_X5_advance_104 P KK n M y := by
  have hL := h.2.2.2.2.2.1
  have hr := run_le lt L bf hp
  refine lpI (fun n (z : Mm) => l_X5_advance_104 P KK n z y) (fun k z => FrJ y (fun b => b = y) M z ∧ (∀ j, j ≠ 2 → zI z y j = zI M y j) ∧ zI z y 2 = nI (p + k) ∧ zJ z y 5 = c5 (wd bf p k)) (run lt L bf p) ?_ ?_ _ ⟨FrJ.rf, fun _ _ => rfl, p2, p5⟩
  · rintro n M1 ⟨f, g, q2, q5⟩
    obtain ⟨h1, h2, h3, h4, h5, h6, h7, h8⟩ := h.fr f (g 1 (by omega))
    have K1 := K M1 f g q2 fun _ => q5
    by_cases c : p + run lt L bf p < L
    · have nb := run_no lt lt_m1 L bf p
      rw [bt_lt c] at nb
      have d := h8 _ c
      simp (disch := omega) only [l_X5_advance_104, h1, h2, h3, h4, h5, q2, d.1, isL d.2, nb, bI_f, l_0, n_eqT, n_leF, n_vp, n_cl, not_true_eq_false, Bool.false_eq_true, false_and, Bool.not_false, Bool.not_true, Bool.and_true, Bool.and_false, Bool.false_and, Bool.true_and, true_and, and_true, true_or, or_true, not_false_eq_true, Option.some.injEq, exists_eq_left', forall_eq, ↓reduceIte, Nat.add_zero, Nat.zero_add, and_self]
      exact K1
    · simp (disch := omega) only [l_X5_advance_104, h1, h3, q2, n_leT, not_true_eq_false, Bool.false_eq_true, false_and, Bool.not_false, Bool.not_true, Bool.and_true, Bool.and_false, Bool.false_and, Bool.true_and, true_and, and_true, true_or, or_true, not_false_eq_true, Option.some.injEq, exists_eq_left', forall_eq, ↓reduceIte, Nat.add_zero, Nat.zero_add, and_self]
      exact K1
  · rintro n k M1 hk ⟨f, g, q2, q5⟩ LL
    obtain ⟨h1, h2, h3, h4, h5, h6, h7, h8⟩ := h.fr f (g 1 (by omega))
    have r := run_in lt L bf p hk
    have d := h8 _ r.1
    have c2 := of_decide_eq_true r.2
    have ee : bf (p + k) = nI (ub (bf (p + k))) := by
      rcases (ub_ok d.2).2.2 with ⟨-, a⟩ | ⟨a, -⟩
      · exact a
      · omega
    have L2 := LL (sI (sJ M1 y 5 (c5 (wd bf p (k + 1)))) y 2 (nI (p + k + 1))) ⟨(f.trans FrJ.sJ).trans FrJ.sI, fun j hj => (zI_sI2 _ _ _ _ hj).trans (g j hj), (zI_sI1 _ _ _ _).trans (by rw [Nat.add_assoc]), zJ_sJ1 _ _ _ _⟩
    rw [wd_s, c5n c2.1] at L2
    simp (disch := omega) only [l_X5_advance_104, h1, h2, h3, h4, h5, q2, d.1, isL d.2, r.2, bI_t, l_0, n_eqF, n_leF, n_vp, n_cl, l_1, not_true_eq_false, Bool.false_eq_true, false_and, Bool.not_false, Bool.not_true, Bool.and_true, Bool.and_false, Bool.false_and, Bool.true_and, true_and, and_true, true_or, or_true, not_false_eq_true, Option.some.injEq, exists_eq_left', forall_eq, ↓reduceIte, Nat.add_zero, Nat.zero_add, and_self]
    rw [ee]
    simp (disch := omega) only [w_X7_withLetter, q2, q5, zk_sJ, zI_sJ, h1, l_97, l_5, l_1, n_sub, nI_add, not_true_eq_false, Bool.false_eq_true, false_and, Bool.not_false, Bool.not_true, Bool.and_true, Bool.and_false, Bool.false_and, Bool.true_and, true_and, and_true, true_or, or_true, not_false_eq_true, Option.some.injEq, exists_eq_left', forall_eq, ↓reduceIte, Nat.add_zero, Nat.zero_add, and_self]
    exact L2
theorem s_X5_digits (h : RDr5 y x L bf M) {p : Nat} (hp : p ≤ L) (p2 : zI M y 2 = nI p) (p6 : zI M y 6 = nI 0) (P : Mm → Prop) (KK : Mm → Nat → Prop)
    (K : ∀ M', FrI (fun b => b = y) M M' → (∀ j, j ≠ 2 → j ≠ 6 → zI M' y j = zI M y j) → zI M' y 2 = nI (p + run dgt L bf p) → zI M' y 6 = nI (dv bf p (run dgt L bf p)) → KK M' y) : ∃ n, l_X5_advance_204 P KK n M y := by
  have hL := h.2.2.2.2.2.1
  have hr := run_le dgt L bf hp
  refine lpI (fun n (z : Mm) => l_X5_advance_204 P KK n z y) (fun k z => FrI (fun b => b = y) M z ∧ (∀ j, j ≠ 2 → j ≠ 6 → zI z y j = zI M y j) ∧ zI z y 2 = nI (p + k) ∧ zI z y 6 = nI (dv bf p k)) (run dgt L bf p) ?_ ?_ _ ⟨FrI.rf, fun _ _ _ => rfl, p2, p6⟩
  · rintro n M1 ⟨f, g, q2, q6⟩
    obtain ⟨h1, h2, h3, h4, h5, h6, h7, h8⟩ := h.fr f.toJ (g 1 (by omega) (by omega))
    have K1 := K M1 f g q2 q6
    by_cases c : p + run dgt L bf p < L
    · have nb := run_no dgt dgt_m L bf p
      rw [bt_lt c] at nb
      have nb2 : wi 48 57 (ub (bf (p + run dgt L bf p))) = false := nb
      have d := h8 _ c
      simp (disch := omega) only [l_X5_advance_204, h1, h2, h3, h4, h5, q2, d.1, isD d.2, nb2, bI_f, l_0, n_eqT, n_leF, n_vp, n_cl, not_true_eq_false, Bool.false_eq_true, false_and, Bool.not_false, Bool.not_true, Bool.and_true, Bool.and_false, Bool.false_and, Bool.true_and, true_and, and_true, true_or, or_true, not_false_eq_true, Option.some.injEq, exists_eq_left', forall_eq, ↓reduceIte, Nat.add_zero, Nat.zero_add, and_self]
      exact K1
    · simp (disch := omega) only [l_X5_advance_204, h1, h3, q2, n_leT, not_true_eq_false, Bool.false_eq_true, false_and, Bool.not_false, Bool.not_true, Bool.and_true, Bool.and_false, Bool.false_and, Bool.true_and, true_and, and_true, true_or, or_true, not_false_eq_true, Option.some.injEq, exists_eq_left', forall_eq, ↓reduceIte, Nat.add_zero, Nat.zero_add, and_self]
      exact K1
  · rintro n k M1 hk ⟨f, g, q2, q6⟩ LL
    obtain ⟨h1, h2, h3, h4, h5, h6, h7, h8⟩ := h.fr f.toJ (g 1 (by omega) (by omega))
    have r := run_in dgt L bf p hk
    have r2 : wi 48 57 (ub (bf (p + k))) = true := r.2
    have d := h8 _ r.1
    have c2 := of_decide_eq_true r2
    have ee : bf (p + k) = nI (ub (bf (p + k))) := by
      rcases (ub_ok d.2).2.2 with ⟨-, a⟩ | ⟨a, -⟩
      · exact a
      · omega
    have e10 : nI (dv bf p k) * nI 10 + nI (ub (bf (p + k)) - 48) = nI (dv bf p (k + 1)) := by
      rw [pk_mul, nI_add]
      show nI (dv bf p k * 10 + (ub (bf (p + k)) - 48)) = nI (10 * dv bf p k + (ub (bf (p + k)) - 48))
      rw [Nat.mul_comm]
    have q2b : zI (sI M1 y 6 (nI (dv bf p (k + 1)))) y 2 = nI (p + k) := (zI_sI2 _ _ _ _ (by omega)).trans q2
    have L2 := LL (sI (sI M1 y 6 (nI (dv bf p (k + 1)))) y 2 (nI (p + k + 1))) ⟨(f.trans fr_s1).trans fr_s1, fun j hj hj6 => (zI_sI2 _ _ _ _ hj).trans ((zI_sI2 _ _ _ _ hj6).trans (g j hj hj6)), (zI_sI1 _ _ _ _).trans (by rw [Nat.add_assoc]), (zI_sI2 _ _ _ _ (by omega)).trans (zI_sI1 _ _ _ _)⟩
    simp (disch := omega) only [l_X5_advance_204, h1, h2, h3, h4, h5, q2, d.1, isD d.2, r2, bI_t, l_0, n_eqF, n_leF, n_vp, n_cl, l_1, not_true_eq_false, Bool.false_eq_true, false_and, Bool.not_false, Bool.not_true, Bool.and_true, Bool.and_false, Bool.false_and, Bool.true_and, true_and, and_true, true_or, or_true, not_false_eq_true, Option.some.injEq, exists_eq_left', forall_eq, ↓reduceIte, Nat.add_zero, Nat.zero_add, and_self]
    rw [ee]
    simp (disch := omega) only [q6, l_48, l_10, n_sub, e10, zk_sI, q2b, h1, nI_add, not_true_eq_false, Bool.false_eq_true, false_and, Bool.not_false, Bool.not_true, Bool.and_true, Bool.and_false, Bool.false_and, Bool.true_and, true_and, and_true, true_or, or_true, not_false_eq_true, Option.some.injEq, exists_eq_left', forall_eq, ↓reduceIte, Nat.add_zero, Nat.zero_add, and_self]
    exact L2
end RDS
