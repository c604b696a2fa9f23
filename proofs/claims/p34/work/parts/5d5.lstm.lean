/-! STATEMENTS of a text that is known, read by the class -/
section SM1
variable {tx R : List Nat} {bf : Nat → Int32} {p : Nat} {sg ct : Nat → Nat} {nm : Nat → List Nat} {dt : Bool}
theorem tkw (h : Bts tx bf) (sp : List Nat) (hsp : sp = [] ∨ sp = [32]) {w : List Nat} (hr : Rs tx p (sp ++ (w ++ R))) (hw : w ≠ []) (hl : w.length ≤ 8) (hA : ∀ k, k ∈ w → lt k = true) (hR : R = [] ∨ lt (R.getD 0 0) = false) : ∃ q, p < q ∧ Rs tx q R ∧ tK tx.length bf p = 1 ∧ tW tx.length bf p = w ∧ tN tx.length bf p = q := by
  obtain ⟨a, b, c, d⟩ := tok_word h sp hsp hr hw hl hA hR
  have := List.length_pos_iff.mpr hw
  exact ⟨_, by omega, d, a, b, c⟩
theorem tkn (h : Bts tx bf) (sp : List Nat) (hsp : sp = [] ∨ sp = [32]) {v : Nat} (hv : v < 1000) (hr : Rs tx p (sp ++ (dig v ++ R))) (hR : R = [] ∨ dgt (R.getD 0 0) = false) : ∃ q, p < q ∧ Rs tx q R ∧ tK tx.length bf p = 2 ∧ tV tx.length bf p = v ∧ tN tx.length bf p = q := by
  obtain ⟨a, b, c, d⟩ := tok_num h sp hsp hv hr hR
  have := (dig_len hv).1
  exact ⟨_, by omega, d, a, b, c⟩
theorem tks (h : Bts tx bf) (hr : Rs tx p (59 :: R)) : ∃ q, p < q ∧ Rs tx q R ∧ tK tx.length bf p = 3 ∧ tN tx.length bf p = q := by
  obtain ⟨a, b, c⟩ := tok_semi h hr
  exact ⟨_, by omega, c, a, b⟩
theorem lt_1 {k : Nat} (hk : k < 26) : ∀ y, y ∈ [97 + k] → lt y = true := fun y hy => by
  rw [List.mem_singleton] at hy
  exact decide_eq_true (by omega)
theorem kw_lt : ∀ i, i < 6 → kw i ≠ [] ∧ (kw i).length ≤ 8 ∧ ∀ k, k ∈ kw i → lt k = true := by decide +kernel
/-- a keyword, a space behind it -/
theorem tkk (h : Bts tx bf) {i : Nat} (hi : i < 6) (hr : Rs tx p (kw i ++ (32 :: R))) : ∃ q, p < q ∧ Rs tx q (32 :: R) ∧ tK tx.length bf p = 1 ∧ tW tx.length bf p = kw i ∧ tN tx.length bf p = q := by
  obtain ⟨a, b, c⟩ := kw_lt i hi
  exact tkw h [] (Or.inl rfl) hr a b c (Or.inr (by rfl))
/-- a name behind a space -/
theorem tk1 (h : Bts tx bf) {k : Nat} (hk : k < 26) (hr : Rs tx p (32 :: (97 + k) :: R)) (hR : R = [] ∨ lt (R.getD 0 0) = false) : ∃ q, p < q ∧ Rs tx q R ∧ tK tx.length bf p = 1 ∧ tW tx.length bf p = [97 + k] ∧ tN tx.length bf p = q :=
  tkw h [32] (Or.inr rfl) (w := [97 + k]) hr (by exact List.cons_ne_nil _ _) (by show 1 ≤ 8; omega) (lt_1 hk) hR
/-- a number behind a space -/
theorem tk2 (h : Bts tx bf) {v : Nat} (hv : v < 1000) (hr : Rs tx p (32 :: (dig v ++ R))) (hR : R = [] ∨ dgt (R.getD 0 0) = false) : ∃ q, p < q ∧ Rs tx q R ∧ tK tx.length bf p = 2 ∧ tV tx.length bf p = v ∧ tN tx.length bf p = q :=
  tkn h [32] (Or.inr rfl) hv hr hR
theorem nin_l {nf : Nat → List Nat} {n j : Nat} (h : ∀ k, k < n → nf k = [97 + k]) (hj : j ≤ n) : nin nf n [97 + j] = j := by
  unfold nin
  by_cases e : j = n
  · subst e
    have l := fi_le (fun k => decide (nf k = [97 + j])) j
    rcases Nat.lt_or_ge (fi (fun k => decide (nf k = [97 + j])) j) j with c | c
    · have y := of_decide_eq_true (fi_yes _ _ c)
      rw [h _ c] at y
      have := List.head_eq_of_cons_eq y
      omega
    · omega
  · refine fi_eq (by omega) (decide_eq_true (h j (by omega))) fun i hi => decide_eq_false fun z => ?_
    rw [h i (by omega)] at z
    have := List.head_eq_of_cons_eq z
    omega
/-- the names are letters in their order; what is not told yet is 0 -/
def NMs (sg : Nat → Nat) (nm : Nat → List Nat) : Prop := (∀ k, k < sg 1 → nm k = [97 + k]) ∧ (∀ k, k < sg 2 → nm (8 + k) = [97 + k]) ∧ (∀ k, k < sg 3 → nm (16 + k) = [97 + k]) ∧ (∀ k, k < sg 4 → nm (24 + k) = [97 + k]) ∧ (sg 1 ≤ 3 ∧ sg 2 ≤ 7 ∧ sg 3 ≤ 4 ∧ sg 4 ≤ 4) ∧ (∀ k, sg 2 ≤ k → k < 8 → oP sg k 1 = 0 ∧ oP sg k 2 = 0) ∧ ∀ w, sg 3 ≤ w → w < 5 → oW sg w 4 = 0
/-- one statement is read -/
def Go (tx : List Nat) (bf : Nat → Int32) (p : Nat) (s2 : (Nat → Nat) × (Nat → List Nat) × (Nat → Nat) × Bool) (R : List Nat) (s3 : (Nat → Nat) × (Nat → List Nat) × (Nat → Nat) × Bool) (n : Nat) : Prop := ∃ q, p + n ≤ q ∧ Rs tx q R ∧ ∀ f, stmtsL tx.length bf (f + n) (p, s2) = stmtsL tx.length bf f (q, s3)
theorem go_1 {s2 s3 : (Nat → Nat) × (Nat → List Nat) × (Nat → Nat) × Bool} {q q2 : Nat} (h1 : tK tx.length bf p = 1) (h2 : stmtL tx.length bf (p, s2) = Sum.inr (q, s3)) (h3 : tK tx.length bf q = 3) (h4 : tN tx.length bf q = q2) (h5 : p + 1 ≤ q2) (h6 : Rs tx q2 R) : Go tx bf p s2 R s3 1 := by
  refine ⟨q2, h5, h6, fun f => ?_⟩
  show (if tK tx.length bf p = 0 then Sum.inr (p, s2) else match stmtL tx.length bf (p, s2) with | Sum.inl e => Sum.inl e | Sum.inr s2 => if tK tx.length bf s2.1 = 3 then stmtsL tx.length bf f (tN tx.length bf s2.1, s2.2) else Sum.inl (1, tS tx.length bf s2.1)) = _
  rw [h1, if_neg (by decide), h2]
  show (if tK tx.length bf q = 3 then stmtsL tx.length bf f (tN tx.length bf q, s3) else _) = _
  rw [if_pos h3, h4]
theorem Go.rf {s2 : (Nat → Nat) × (Nat → List Nat) × (Nat → Nat) × Bool} (hr : Rs tx p R) : Go tx bf p s2 R s2 0 := ⟨p, Nat.le_refl _, hr, fun _ => rfl⟩
theorem isw_y {i : Nat} (h1 : tK tx.length bf p = 1) (h2 : tW tx.length bf p = kw i) : isw tx.length bf p i = true := decide_eq_true ⟨h1, h2⟩
theorem isw_n {i j : Nat} (h2 : tW tx.length bf p = kw i) (hj : ¬ kw i = kw j) : ¬ isw tx.length bf p j = true := fun z => by
  have y := (of_decide_eq_true z).2
  rw [h2] at y
  exact hj y
theorem nerr_ok {v lo hi : Nat} (h1 : tK tx.length bf p = 2) (h2 : tV tx.length bf p = v) (a : lo ≤ v) (b : v ≤ hi) : nerr tx.length bf p lo hi = 0 := by
  unfold nerr
  rw [if_pos h1, h2, if_pos ⟨a, b⟩]
def hallT (k v : Nat) : List Nat := kw 1 ++ (32 :: (97 + k) :: 32 :: (dig v ++ [59]))
theorem hallT_R (k v : Nat) (R : List Nat) : hallT k v ++ R = kw 1 ++ (32 :: (97 + k) :: 32 :: (dig v ++ (59 :: R))) := by
  unfold hallT
  rw [List.append_assoc, List.cons_append, List.cons_append, List.cons_append, List.append_assoc]; rfl
theorem go_hall (h : Bts tx bf) (hn : NMs sg nm) {v : Nat} (hv : v < 10) (hk : sg 1 < 3) (hr : Rs tx p (hallT (sg 1) v ++ R)) : Go tx bf p (sg, nm, ct, dt) R (hallS sg v, updN nm (sg 1) [97 + sg 1], ct, dt) 1 := by
  rw [hallT_R] at hr
  obtain ⟨p1, l1, r1, a1, b1, c1⟩ := tkk h (by omega) hr
  obtain ⟨p2, l2, r2, a2, b2, c2⟩ := tk1 h (by omega) r1 (Or.inr (by rfl))
  obtain ⟨p3, l3, r3, a3, b3, c3⟩ := tk2 h (by omega) r2 (Or.inr (by rfl))
  obtain ⟨p4, l4, r4, a4, c4⟩ := tks h r3
  refine go_1 a1 ?_ a4 c4 (by omega) r4
  have ne : nmErr tx.length bf p (sg 1) 3 nm = none := by
    unfold nmErr
    rw [if_neg (by omega), c1, if_pos a2, b2, nin_l hn.1 (Nat.le_refl _), if_neg (by omega)]
  unfold stmtL
  rw [if_pos (isw_y a1 b1)]
  have e0 := nerr_ok (lo := 0) (hi := 9) a3 b3 (by omega) (by omega)
  simp only [hallL, ne, c1, c2, c3, b2, b3, e0, ↓reduceIte]
def dblT (v : Nat) : List Nat := kw 5 ++ (32 :: (dig v ++ [59]))
theorem go_double (h : Bts tx bf) {v : Nat} (hv : v < 1000) (hr : Rs tx p (dblT v ++ R)) : Go tx bf p (sg, nm, ct, false) R (ups sg 5 v, nm, ct, true) 1 := by
  have e : dblT v ++ R = kw 5 ++ (32 :: (dig v ++ (59 :: R))) := by
    unfold dblT
    rw [List.append_assoc, List.cons_append, List.append_assoc]; rfl
  rw [e] at hr
  obtain ⟨p1, l1, r1, a1, b1, c1⟩ := tkk h (by omega) hr
  obtain ⟨p2, l2, r2, a2, b2, c2⟩ := tk2 h hv r1 (Or.inr (by rfl))
  obtain ⟨p3, l3, r3, a3, c3⟩ := tks h r2
  refine go_1 a1 ?_ a3 c3 (by omega) r3
  unfold stmtL
  rw [if_neg (isw_n b1 (by decide)), if_neg (isw_n b1 (by decide)), if_neg (isw_n b1 (by decide)), if_neg (isw_n b1 (by decide)), if_pos (isw_y a1 b1)]
  have e0 := nerr_ok (lo := 0) (hi := 999) a2 b2 (by omega) (by omega)
  simp only [doubleL, c1, c2, b2, e0, ↓reduceIte, Bool.false_eq_true]
def absT (k d : Nat) : List Nat := kw 3 ++ (32 :: (97 + k) :: 32 :: (dig d ++ [59]))
theorem go_absent (h : Bts tx bf) (hn : NMs sg nm) {k d : Nat} (hk : k < sg 2) (hd : d < sg 0) (hs0 : sg 0 ≤ 30) (h0 : oP sg k 1 = 0) (hr : Rs tx p (absT k d ++ R)) : Go tx bf p (sg, nm, ct, dt) R (ups sg (9 + 7 * k + 1) (2 ^ d), nm, ct, dt) 1 := by
  have e : absT k d ++ R = kw 3 ++ (32 :: (97 + k) :: 32 :: (dig d ++ (59 :: R))) := by
    unfold absT
    rw [List.append_assoc, List.cons_append, List.cons_append, List.cons_append, List.append_assoc]; rfl
  rw [e] at hr
  have n7 := hn.2.2.2.2.1
  obtain ⟨p1, l1, r1, a1, b1, c1⟩ := tkk h (by omega) hr
  obtain ⟨p2, l2, r2, a2, b2, c2⟩ := tk1 h (by omega) r1 (Or.inr (by rfl))
  obtain ⟨p3, l3, r3, a3, b3, c3⟩ := tk2 h (by omega) r2 (Or.inr (by rfl))
  obtain ⟨p4, l4, r4, a4, c4⟩ := tks h r3
  refine go_1 a1 ?_ a4 c4 (by omega) r4
  have nn : nin (fun k => nm (8 + k)) (sg 2) [97 + k] = k := nin_l hn.2.1 (by omega)
  unfold stmtL
  rw [if_neg (isw_n b1 (by decide)), if_neg (isw_n b1 (by decide)), if_pos (isw_y a1 b1)]
  have e0 := nerr_ok (lo := 0) (hi := sg 0 - 1) a3 b3 (by omega) (by omega)
  simp only [absentL, c1, c2, c3, a2, b2, b3, nn, hk, e0, h0, Nat.zero_testBit, Nat.zero_or, ↓reduceIte, Bool.false_eq_true]
end SM1
