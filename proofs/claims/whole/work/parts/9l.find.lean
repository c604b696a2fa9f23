/-! find -/
/-- the byte at i, or -1 behind the text -/
def bt (L : Nat) (bf : Nat → Int32) (i : Nat) : Nat := if i < L then ub (bf i) else 4294967295
theorem bt_lt {L : Nat} {bf : Nat → Int32} {i : Nat} (h : i < L) : bt L bf i = ub (bf i) := if_pos h
theorem bt_ge {L : Nat} {bf : Nat → Int32} {i : Nat} (h : L ≤ i) : bt L bf i = 4294967295 := if_neg (by omega)
/-- the text in the model -/
def TX (m L : Nat) (bf : Nat → Int32) (M : Mm) : Prop := zk M m = 8 ∧ zR M m 4 = some (m + 4) ∧ zk M (m + 4) = 9 ∧ zl M (m + 4) = 600 ∧ zI M m 6 = nI L ∧ L ≤ 600 ∧ ∀ i, i < L → zI M (m + 4) i = bf i ∧ (bf i).toInt8.toInt32 = bf i
/-- only cells of R, and the long cells of m -/
def FrJ (m : Nat) (R : Nat → Prop) (M M' : Mm) : Prop := zn M' = zn M ∧ zk M' = zk M ∧ zl M' = zl M ∧ zR M' = zR M ∧ (∀ b, ¬ R b → zI M' b = zI M b) ∧ ∀ b, b ≠ m → zJ M' b = zJ M b
theorem FrJ.rf {m : Nat} {R : Nat → Prop} {M : Mm} : FrJ m R M M := ⟨rfl, rfl, rfl, rfl, fun _ _ => rfl, fun _ _ => rfl⟩
theorem FrJ.trans {m : Nat} {R : Nat → Prop} {M M1 M2 : Mm} (h : FrJ m R M M1) (k : FrJ m R M1 M2) : FrJ m R M M2 :=
  ⟨k.1.trans h.1, k.2.1.trans h.2.1, k.2.2.1.trans h.2.2.1, k.2.2.2.1.trans h.2.2.2.1, fun b hb => (k.2.2.2.2.1 b hb).trans (h.2.2.2.2.1 b hb), fun b hb => (k.2.2.2.2.2 b hb).trans (h.2.2.2.2.2 b hb)⟩
theorem FrI.toJ {m : Nat} {R : Nat → Prop} {M M' : Mm} (h : FrI R M M') : FrJ m R M M' := ⟨h.n, h.k, h.l, h.r, fun _ hb => h.i hb, fun b _ => by rw [h.j]⟩
theorem FrJ.mono {m : Nat} {R S : Nat → Prop} {M M' : Mm} (h : FrJ m R M M') (d : ∀ b, R b → S b) : FrJ m S M M' := ⟨h.1, h.2.1, h.2.2.1, h.2.2.2.1, fun b hb => h.2.2.2.2.1 b fun q => hb (d b q), h.2.2.2.2.2⟩
theorem FrJ.sJ {m i : Nat} {R : Nat → Prop} {M : Mm} {v : Int64} : FrJ m R M (sJ M m i v) := ⟨rfl, rfl, rfl, rfl, fun _ _ => rfl, fun b hb => by
  funext j; exact if_neg fun q => hb q.1⟩
theorem FrJ.sI {m i : Nat} {M : Mm} {v : Int32} : FrJ m (fun b => b = m) M (sI M m i v) := (FrI.sI (R := fun b => b = m) rfl).toJ
theorem zJ_sJ1 (M : Mm) (a i : Nat) (v : Int64) : zJ (sJ M a i v) a i = v := if_pos ⟨rfl, rfl⟩
theorem TX.fr {m L : Nat} {bf : Nat → Int32} {M M' : Mm} (h : TX m L bf M) (f : FrJ m (fun b => b = m) M M') (g : zI M' m 6 = zI M m 6) : TX m L bf M' := by
  obtain ⟨h1, h2, h3, h4, h5, h6, h7⟩ := h
  refine ⟨by rw [f.2.1]; exact h1, by rw [f.2.2.2.1]; exact h2, by rw [f.2.1]; exact h3, by rw [f.2.2.1]; exact h4, by rw [g]; exact h5, h6, ?_⟩
  rw [f.2.2.2.2.1 (m + 4) (by omega)]
  exact h7
section TXS
variable {m L : Nat} {bf : Nat → Int32} {M : Mm}
theorem e_X8_byteAt (h : TX m L bf M) {i : Nat} (hi : i < 2000) (P : Int32 → Mm → Prop) : w_X8_byteAt M m (nI i) P ↔ P (nI (bt L bf i)) M := by
  obtain ⟨h1, h2, h3, h4, h5, h6, h7⟩ := h
  by_cases c : i < L
  · have q := h7 i c
    have u := (ub_ok q.2).2.1
    rw [bt_lt c]
    simp (disch := omega) only [w_X8_byteAt, h1, h2, h3, h4, h5, q.1, l_255, n_leT, n_leF, n_vp, n_cl, not_true_eq_false, Bool.false_eq_true, false_and, Bool.not_false, Bool.not_true, Bool.and_true, Bool.and_false, Bool.false_and, Bool.true_and, true_and, and_true, true_or, or_true, not_false_eq_true, Option.some.injEq, exists_eq_left', forall_eq, ↓reduceIte, Nat.add_zero, Nat.zero_add, and_self]
    have l255 : nI 255 = (255 : Int32) := rfl
    have e : bf i &&& nI 255 = nI (ub (bf i)) := u
    rw [e]
  · rw [bt_ge (by omega)]
    simp (disch := omega) only [w_X8_byteAt, h1, h5, l_0, l_1, l_2, l_3, l_4, l_5, l_6, l_7, l_8, l_9, l_10, l_20, l_30, l_31, l_34, l_40, l_65, l_100, l_255, l_11, l_12, l_24, l_600, l_689, l_999, l_120, l_32, nI_add, pk_mul, n_sub, n_leT, n_leF, n_ltT, n_ltF, n_eqT, n_eqF, n_cl, n_vp, fa_andq, fa_orq, fa_xorq, n_shl, n_shr, n_t1, n_t0, n_div, n_m1, not_true_eq_false, Bool.false_eq_true, false_and, Bool.not_false, Bool.not_true, Bool.and_true, Bool.and_false, Bool.false_and, Bool.true_and, true_and, and_true, true_or, or_true, not_false_eq_true, Option.some.injEq, exists_eq_left', forall_eq, ↓reduceIte, Nat.add_zero, Nat.zero_add, and_self]
theorem bt_b {i : Nat} (h : TX m L bf M) (hi : i < L) : bt L bf i < 256 := by
  rw [bt_lt hi]
  exact (ub_ok (h.2.2.2.2.2.2 i hi).2).1
theorem m1_lt {k : Nat} (h : k < 1000) : (nI 4294967295 < nI k) = True := by
  refine eq_true ?_
  rw [lt_iff32]
  have e : (nI 4294967295).toInt = -1 := rfl
  rw [e, nI_toInt (by omega)]
  omega
theorem lt_m1 : lt 4294967295 = false := by decide
/-- a byte between -/
def wi (lo hi a : Nat) : Bool := decide (lo ≤ a ∧ a ≤ hi)
theorem e_btw (h : TX m L bf M) {i lo hi : Nat} (a : 1 ≤ lo) (b : lo < 1000) (c : hi < 1000) (P : Int32 → Mm → Prop) : w_X8_within M (nI (bt L bf i)) (nI lo) (nI hi) P ↔ P (bI (wi lo hi (bt L bf i))) M := by
  by_cases d : i < L
  · exact e_within (Nat.lt_trans (bt_b h d) (by omega)) b c M P
  · rw [bt_ge (by omega)]
    have e : wi lo hi 4294967295 = false := decide_eq_false (by omega)
    rw [e]
    simp only [w_X8_within, m1_lt b, bI_f, l_0, l_1, l_2, l_3, l_4, l_5, l_6, l_7, l_8, l_9, l_10, l_20, l_30, l_31, l_34, l_40, l_65, l_100, l_255, l_11, l_12, l_24, l_600, l_689, l_999, l_120, l_32, not_true_eq_false, Bool.false_eq_true, false_and, Bool.not_false, Bool.not_true, Bool.and_true, Bool.and_false, Bool.false_and, Bool.true_and, true_and, and_true, true_or, or_true, not_false_eq_true, Option.some.injEq, exists_eq_left', forall_eq, ↓reduceIte, Nat.add_zero, Nat.zero_add, and_self]
/-- the letters from p on -/
def rn (L : Nat) (bf : Nat → Int32) (p : Nat) : Nat := fi (fun i => !lt (bt L bf (p + i))) (L - p)
def wd (bf : Nat → Int32) (p k : Nat) : List Nat := (List.range k).map (fun i => ub (bf (p + i)))
theorem wd_s (bf : Nat → Int32) (p k : Nat) : wd bf p (k + 1) = wd bf p k ++ [ub (bf (p + k))] := by
  unfold wd; rw [List.range_succ, List.map_append]; rfl
theorem rn_no (L : Nat) (bf : Nat → Int32) (p : Nat) : lt (bt L bf (p + rn L bf p)) = false := by
  have l := fi_le (fun i => !lt (bt L bf (p + i))) (L - p)
  unfold rn
  by_cases c : fi (fun i => !lt (bt L bf (p + i))) (L - p) < L - p
  · have y := fi_yes _ _ c
    revert y
    cases lt (bt L bf (p + fi (fun i => !lt (bt L bf (p + i))) (L - p))) <;> intro y
    · rfl
    · cases y
  · rw [bt_ge (by omega)]; rfl
theorem rn_in (L : Nat) (bf : Nat → Int32) (p : Nat) {i : Nat} (h : i < rn L bf p) : p + i < L ∧ lt (ub (bf (p + i))) = true := by
  have l := fi_le (fun i => !lt (bt L bf (p + i))) (L - p)
  have n := fi_no _ _ i h
  unfold rn at h
  have e : p + i < L := by omega
  try dsimp only at n
  rw [bt_lt e] at n
  revert n
  cases lt (ub (bf (p + i))) <;> intro n
  · cases n
  · exact ⟨e, rfl⟩
theorem lt_wi (a : Nat) : wi 97 122 a = lt a := rfl
theorem s_X8_takesLetters (h : TX m L bf M) {p : Nat} (hp : p ≤ L) (p7 : zI M m 7 = nI p) (p8 : zI M m 8 = nI p) (P : Mm → Prop)
    (K : ∀ M', FrJ m (fun b => b = m) M M' → (∀ j, j ≠ 8 → zI M' m j = zI M m j) → zI M' m 8 = nI (p + rn L bf p) → (rn L bf p ≤ 8 → zJ M' m 11 = c8 (wd bf p (rn L bf p))) → P M') : w_X8_takesLetters M m P := by
  have hL : L ≤ 600 := h.2.2.2.2.2.1
  have k8 := h.1
  simp only [w_X8_takesLetters, k8, not_true_eq_false, Bool.false_eq_true, false_and, Bool.not_false, Bool.not_true, Bool.and_true, Bool.and_false, Bool.false_and, Bool.true_and, true_and, and_true, true_or, or_true, not_false_eq_true, Option.some.injEq, exists_eq_left', forall_eq, ↓reduceIte, Nat.add_zero, Nat.zero_add, and_self]
  refine lpI (fun n (z : Mm) => l_X8_takesLetters_5 P (fun M9 => P M9) n z m) (fun k z => FrJ m (fun b => b = m) M z ∧ (∀ j, j ≠ 8 → zI z m j = zI M m j) ∧ zI z m 8 = nI (p + k) ∧ (k ≤ 8 → zJ z m 11 = c8 (wd bf p k))) (rn L bf p) ?_ ?_ _ ⟨FrJ.sJ, fun _ _ => rfl, p8, fun _ => zJ_sJ1 _ _ _ _⟩
  · rintro n M1 ⟨f, g, q8, q⟩
    have h1 := h.fr f (g 6 (by omega))
    have hr : p + rn L bf p ≤ L := by
      have l := fi_le (fun i => !lt (bt L bf (p + i))) (L - p)
      unfold rn; omega
    simp (disch := omega) only [l_X8_takesLetters_5, h1.1, q8, e_X8_byteAt h1, l_97, l_122, e_btw h1, lt_wi, rn_no, bI_f, l_0, l_1, l_2, l_3, l_4, l_5, l_6, l_7, l_8, l_9, l_10, l_20, l_30, l_31, l_34, l_40, l_65, l_100, l_255, l_11, l_12, l_24, l_600, l_689, l_999, l_120, l_32, nI_add, pk_mul, n_sub, n_leT, n_leF, n_ltT, n_ltF, n_eqT, n_eqF, n_cl, n_vp, fa_andq, fa_orq, fa_xorq, n_shl, n_shr, n_t1, n_t0, n_div, n_m1, not_true_eq_false, Bool.false_eq_true, false_and, Bool.not_false, Bool.not_true, Bool.and_true, Bool.and_false, Bool.false_and, Bool.true_and, true_and, and_true, true_or, or_true, not_false_eq_true, Option.some.injEq, exists_eq_left', forall_eq, ↓reduceIte, Nat.add_zero, Nat.zero_add, and_self]
    exact K M1 f g q8 q
  · rintro n k M1 hk ⟨f, g, q8, q⟩ LL
    have h1 := h.fr f (g 6 (by omega))
    have h18 := h1.1
    have r := rn_in L bf p hk
    have e := bt_lt (bf := bf) r.1
    have er : lt (bt L bf (p + k)) = true := by rw [e]; exact r.2
    have z7 : zI M1 m 7 = nI p := by rw [g 7 (by omega)]; exact p7
    by_cases c : 8 ≤ k
    · simp (disch := omega) only [l_X8_takesLetters_5, h18, q8, e_X8_byteAt h1, l_97, l_122, e_btw h1, lt_wi, er, bI_t, z7, zk_sJ, zI_sJ, Nat.add_sub_cancel_left, l_0, l_1, l_2, l_3, l_4, l_5, l_6, l_7, l_8, l_9, l_10, l_20, l_30, l_31, l_34, l_40, l_65, l_100, l_255, l_11, l_12, l_24, l_600, l_689, l_999, l_120, l_32, nI_add, pk_mul, n_sub, n_leT, n_leF, n_ltT, n_ltF, n_eqT, n_eqF, n_cl, n_vp, fa_andq, fa_orq, fa_xorq, n_shl, n_shr, n_t1, n_t0, n_div, n_m1, not_true_eq_false, Bool.false_eq_true, false_and, Bool.not_false, Bool.not_true, Bool.and_true, Bool.and_false, Bool.false_and, Bool.true_and, true_and, and_true, true_or, or_true, not_false_eq_true, Option.some.injEq, exists_eq_left', forall_eq, ↓reduceIte, Nat.add_zero, Nat.zero_add, and_self]
      refine LL (sI (sJ M1 m 11 _) m 8 (nI (p + k + 1))) ⟨(f.trans FrJ.sJ).trans FrJ.sI, fun j hj => (zI_sI2 _ _ _ _ hj).trans (g j hj), (zI_sI1 _ _ _ _).trans (by rw [Nat.add_assoc]), fun a => absurd a (by omega)⟩
    · have e2 := q (by omega)
      simp (disch := omega) only [l_X8_takesLetters_5, h18, q8, e_X8_byteAt h1, l_97, l_122, e_btw h1, lt_wi, er, bI_t, z7, zk_sJ, zI_sJ, Nat.add_sub_cancel_left, e2, l_0, l_1, l_2, l_3, l_4, l_5, l_6, l_7, l_8, l_9, l_10, l_20, l_30, l_31, l_34, l_40, l_65, l_100, l_255, l_11, l_12, l_24, l_600, l_689, l_999, l_120, l_32, nI_add, pk_mul, n_sub, n_leT, n_leF, n_ltT, n_ltF, n_eqT, n_eqF, n_cl, n_vp, fa_andq, fa_orq, fa_xorq, n_shl, n_shr, n_t1, n_t0, n_div, n_m1, not_true_eq_false, Bool.false_eq_true, false_and, Bool.not_false, Bool.not_true, Bool.and_true, Bool.and_false, Bool.false_and, Bool.true_and, true_and, and_true, true_or, or_true, not_false_eq_true, Option.some.injEq, exists_eq_left', forall_eq, ↓reduceIte, Nat.add_zero, Nat.zero_add, and_self]
      refine LL (sI (sJ M1 m 11 _) m 8 (nI (p + k + 1))) ⟨(f.trans FrJ.sJ).trans FrJ.sI, fun j hj => (zI_sI2 _ _ _ _ hj).trans (g j hj), (zI_sI1 _ _ _ _).trans (by rw [Nat.add_assoc]), fun a => ?_⟩
      rw [wd_s, c8_s, ← e]
      exact zJ_sJ1 _ _ _ _
/-- the spaces from p on -/
def sps (L : Nat) (bf : Nat → Int32) (p : Nat) : Nat := fi (fun i => !decide (bt L bf (p + i) = 32)) (L - p)
theorem sps_no (L : Nat) (bf : Nat → Int32) (p : Nat) : ¬ bt L bf (p + sps L bf p) = 32 := by
  have l := fi_le (fun i => !decide (bt L bf (p + i) = 32)) (L - p)
  unfold sps
  by_cases c : fi (fun i => !decide (bt L bf (p + i) = 32)) (L - p) < L - p
  · exact nd_f (fi_yes _ _ c)
  · rw [bt_ge (by omega)]; omega
theorem sps_in (L : Nat) (bf : Nat → Int32) (p : Nat) {i : Nat} (h : i < sps L bf p) : p + i < L ∧ ub (bf (p + i)) = 32 := by
  have l := fi_le (fun i => !decide (bt L bf (p + i) = 32)) (L - p)
  have n := nd_t (fi_no _ _ i h)
  unfold sps at h
  have e : p + i < L := by omega
  rw [bt_lt e] at n
  exact ⟨e, n⟩
theorem sps_le (L : Nat) (bf : Nat → Int32) (p : Nat) (hp : p ≤ L) : p + sps L bf p ≤ L := by
  have l := fi_le (fun i => !decide (bt L bf (p + i) = 32)) (L - p)
  unfold sps; omega
theorem rn_le (L : Nat) (bf : Nat → Int32) (p : Nat) (hp : p ≤ L) : p + rn L bf p ≤ L := by
  have l := fi_le (fun i => !lt (bt L bf (p + i))) (L - p)
  unfold rn; omega
theorem bt32 (h : TX m L bf M) (i : Nat) : (nI (bt L bf i) = nI 32) = (bt L bf i = 32) := by
  by_cases c : bt L bf i = 32
  · rw [n_eqT c, eq_true c]
  · have : bt L bf i < 4294967296 := by
      by_cases d : i < L
      · exact Nat.lt_trans (bt_b h d) (by omega)
      · rw [bt_ge (by omega)]; omega
    rw [n_eqF c this (by omega), eq_false c]
theorem s_find_spaces (h : TX m L bf M) {p : Nat} {a b : Int32} (hp : p ≤ L) (p8 : zI M m 8 = nI p) (P : Int32 → Mm → Prop) (KK : Mm → Nat → Int32 → Int32 → Prop)
    (K : ∀ M', FrI (fun b => b = m) M M' → (∀ j, j ≠ 8 → zI M' m j = zI M m j) → zI M' m 8 = nI (p + sps L bf p) → KK M' m a b) : ∃ n, l_X8_find_61 P KK n M m a b := by
  have hL : L ≤ 600 := h.2.2.2.2.2.1
  have k8 := h.1
  have hs := sps_le L bf p hp
  refine lpI (fun n (z : Mm) => l_X8_find_61 P KK n z m a b) (fun k z => FrI (fun b => b = m) M z ∧ (∀ j, j ≠ 8 → zI z m j = zI M m j) ∧ zI z m 8 = nI (p + k)) (sps L bf p) ?_ ?_ _ ⟨FrI.rf, fun _ _ => rfl, p8⟩
  · rintro n M1 ⟨f, g, q8⟩
    have h1 := h.fr f.toJ (g 6 (by omega))
    simp (disch := omega) only [l_X8_find_61, h1.1, q8, e_X8_byteAt h1, l_32, bt32 h1, sps_no, not_true_eq_false, Bool.false_eq_true, false_and, Bool.not_false, Bool.not_true, Bool.and_true, Bool.and_false, Bool.false_and, Bool.true_and, true_and, and_true, true_or, or_true, not_false_eq_true, Option.some.injEq, exists_eq_left', forall_eq, ↓reduceIte, Nat.add_zero, Nat.zero_add, and_self]
    exact K M1 f g q8
  · rintro n k M1 hk ⟨f, g, q8⟩ LL
    have h1 := h.fr f.toJ (g 6 (by omega))
    have h18 := h1.1
    have r := sps_in L bf p hk
    have e := bt_lt (bf := bf) r.1
    simp (disch := omega) only [l_X8_find_61, h18, q8, e_X8_byteAt h1, bt32 h1, e, r.2, l_0, l_1, l_2, l_3, l_4, l_5, l_6, l_7, l_8, l_9, l_10, l_20, l_30, l_31, l_34, l_40, l_65, l_100, l_255, l_11, l_12, l_24, l_600, l_689, l_999, l_120, l_32, nI_add, pk_mul, n_sub, n_leT, n_leF, n_ltT, n_ltF, n_eqT, n_eqF, n_cl, n_vp, fa_andq, fa_orq, fa_xorq, n_shl, n_shr, n_t1, n_t0, n_div, n_m1, not_true_eq_false, Bool.false_eq_true, false_and, Bool.not_false, Bool.not_true, Bool.and_true, Bool.and_false, Bool.false_and, Bool.true_and, true_and, and_true, true_or, or_true, not_false_eq_true, Option.some.injEq, exists_eq_left', forall_eq, ↓reduceIte, Nat.add_zero, Nat.zero_add, and_self]
    refine LL _ ⟨f.trans (FrI.sI rfl), fun j hj => (zI_sI2 _ _ _ _ hj).trans (g j hj), (zI_sI1 _ _ _ _).trans (by rw [Nat.add_assoc])⟩
end TXS
/-- the text is a word of k letters and spaces -/
def WW (L : Nat) (bf : Nat → Int32) (k : Nat) : Prop := 1 ≤ k ∧ k ≤ 8 ∧ k ≤ L ∧ (∀ i, i < k → lt (ub (bf i)) = true) ∧ ∀ i, k ≤ i → i < L → ub (bf i) = 32
theorem lt32 {a : Nat} (h : lt a = true) (e : a = 32) : False := by
  subst e; exact absurd h (by decide)
theorem WW.ok {L : Nat} {bf : Nat → Int32} {k : Nat} (h : WW L bf k) : NameOK (wd bf 0 k) := by
  obtain ⟨h1, h2, h3, h4, h5⟩ := h
  have e : (wd bf 0 k).length = k := by unfold wd; rw [List.length_map, List.length_range]
  refine ⟨by omega, by omega, fun l hl => ?_⟩
  unfold wd at hl
  obtain ⟨i, hi, rfl⟩ := List.mem_map.mp hl
  rw [List.mem_range] at hi
  have q := of_decide_eq_true (h4 i hi)
  rw [Nat.zero_add]
  exact q
theorem c5n {w : List Nat} {l : Nat} (h : 97 ≤ l) : c5 (w ++ [l]) = (c5 w <<< ((nI 5).toInt64 &&& 63)) ||| (nI (l - 97 + 1)).toInt64 := by
  rw [c5_s]
  have e : (nI l - (97 : Int32)) + (1 : Int32) = nI (l - 97 + 1) := by
    rw [l_97, l_1, n_sub h, nI_add]
  rw [e]; rfl
theorem s_trim {x bl : Nat} {bf : Nat → Int32} {M : Mm} (k0 : zk M x = 7) (r0 : zR M x 0 = some (x + 1)) (k1 : zk M (x + 1) = 9) (l1 : zl M (x + 1) = 600) (h : BS x 7 (x + 1) bl bf M) (hb : bl ≤ 600) (hby : ∀ i, i < bl → (bf i).toInt8.toInt32 = bf i) (P : Int64 → Mm → Prop) (KK : Mm → Nat → Int32 → Prop)
    (C : ∀ e, e ≤ bl → (∀ i, e ≤ i → i < bl → ub (bf i) = 32) → (e = 0 ∨ ub (bf (e - 1)) ≠ 32) → KK M x (nI e)) : ∃ n, l_X7_nameInBuffer_5 P KK n M x (nI bl) := by
  refine lpI (fun n (z : Int32) => l_X7_nameInBuffer_5 P KK n M x z) (fun k z => k ≤ bl ∧ z = nI (bl - k) ∧ ∀ i, bl - k ≤ i → i < bl → ub (bf i) = 32) bl ?_ ?_ (nI bl) ⟨Nat.zero_le _, rfl, fun i a b => absurd a (by omega)⟩
  · rintro n z ⟨-, rfl, q⟩
    rw [Nat.sub_self] at q ⊢
    have c0 := C 0 (Nat.zero_le _) q (Or.inl rfl)
    simp only [l_X7_nameInBuffer_5, l_0, n_leT (Nat.le_refl 0) (show 0 < 2 ^ 31 by omega), if_true]
    exact c0
  · rintro n k z hk ⟨hk2, rfl, q⟩ LL
    have by_ := hby (bl - k - 1) (by omega)
    have zb := h.2 (bl - k - 1) (by omega)
    by_cases c : ub (bf (bl - k - 1)) = 32
    · have L2 := LL (nI (bl - (k + 1))) ⟨by omega, rfl, fun i a b => by
        by_cases d : i = bl - k - 1
        · rw [d]; exact c
        · exact q i (by omega) b⟩
      have ea : nI (bl - k) + -nI 1 = nI (bl - (k + 1)) := by
        rw [← Int32.sub_eq_add_neg, n_sub (by omega), Nat.sub_sub]
      simp (disch := omega) only [l_X7_nameInBuffer_5, k0, r0, k1, l1, zb, ea, l_32, is32 by_, c, l_0, l_1, n_leF, n_sub, n_vp, n_cl, not_true_eq_false, Bool.false_eq_true, false_and, Bool.not_false, Bool.not_true, Bool.and_true, Bool.and_false, Bool.false_and, Bool.true_and, true_and, and_true, true_or, or_true, not_false_eq_true, Option.some.injEq, exists_eq_left', forall_eq, ↓reduceIte, Nat.add_zero, Nat.zero_add, and_self]
      exact L2
    · have c0 := C (bl - k) (by omega) q (Or.inr c)
      simp (disch := omega) only [l_X7_nameInBuffer_5, k0, r0, k1, l1, zb, l_32, is32 by_, c, l_0, l_1, n_leF, n_sub, n_vp, n_cl, not_true_eq_false, Bool.false_eq_true, false_and, Bool.not_false, Bool.not_true, Bool.and_true, Bool.and_false, Bool.false_and, Bool.true_and, true_and, and_true, true_or, or_true, not_false_eq_true, Option.some.injEq, exists_eq_left', forall_eq, ↓reduceIte, Nat.add_zero, Nat.zero_add, and_self]
      exact c0
theorem s_X7_nameInBuffer {x bl : Nat} {bf : Nat → Int32} {M : Mm} (k0 : zk M x = 7) (r0 : zR M x 0 = some (x + 1)) (k1 : zk M (x + 1) = 9) (l1 : zl M (x + 1) = 600) (h : BS x 7 (x + 1) bl bf M) (hb : bl ≤ 600) (hby : ∀ i, i < bl → (bf i).toInt8.toInt32 = bf i) (P : Int64 → Mm → Prop)
    (K : ∀ r, ((∃ k, WW bl bf k ∧ r = c5 (wd bf 0 k)) ∨ ((∀ k, ¬ WW bl bf k) ∧ r = 0)) → P r M) : w_X7_nameInBuffer M x P := by
  have z7 := h.1
  simp only [w_X7_nameInBuffer, k0, z7, not_true_eq_false, Bool.false_eq_true, false_and, Bool.not_false, Bool.not_true, Bool.and_true, Bool.and_false, Bool.false_and, Bool.true_and, true_and, and_true, true_or, or_true, not_false_eq_true, Option.some.injEq, exists_eq_left', forall_eq, ↓reduceIte, Nat.add_zero, Nat.zero_add, and_self]
  have C : ∀ e, e ≤ bl → (∀ i, e ≤ i → i < bl → ub (bf i) = 32) → (e = 0 ∨ ub (bf (e - 1)) ≠ 32) → (if nI e ≤ (8 : Int32) then (∃ n41, l_X7_nameInBuffer_41 P (fun M7 => P (0 : Int64) M7) (fun M8 x2_8 => P x2_8 M8) n41 M x (nI e) (0 : Int64) (0 : Int32)) else P (0 : Int64) M) := by
    intro e he hs ht
    have un : ∀ k, WW bl bf k → k = e := by
      intro k ⟨w1, w2, w3, w4, w5⟩
      rcases Nat.lt_trichotomy k e with c | c | c
      · exact absurd (w5 (e - 1) (by omega) (by omega)) (ht.resolve_left (by omega))
      · exact c
      · exact (lt32 (w4 (k - 1) (by omega)) (hs (k - 1) (by omega) (by omega))).elim
    by_cases e8 : e ≤ 8
    · simp (disch := omega) only [l_8, n_leT, if_true]
      refine lpI (fun n (z : Int64 × Int32) => l_X7_nameInBuffer_41 P (fun M7 => P (0 : Int64) M7) (fun M8 x2_8 => P x2_8 M8) n M x (nI e) z.1 z.2) (fun k z => z = (c5 (wd bf 0 k), nI k) ∧ ∀ i, i < k → lt (ub (bf i)) = true) e ?_ ?_ ((0 : Int64), (0 : Int32)) ⟨rfl, fun i hi => absurd hi (Nat.not_lt_zero i)⟩
      · rintro n z ⟨rfl, q⟩
        simp (disch := omega) only [l_X7_nameInBuffer_41, l_0, l_1, l_2, l_3, l_4, l_5, l_6, l_7, l_8, l_9, l_10, l_20, l_30, l_31, l_34, l_40, l_65, l_100, l_255, l_11, l_12, l_24, l_600, l_689, l_999, l_120, l_32, nI_add, pk_mul, n_sub, n_leT, n_leF, n_ltT, n_ltF, n_eqT, n_eqF, n_cl, n_vp, fa_andq, fa_orq, fa_xorq, n_shl, n_shr, n_t1, n_t0, n_div, n_m1, not_true_eq_false, Bool.false_eq_true, false_and, Bool.not_false, Bool.not_true, Bool.and_true, Bool.and_false, Bool.false_and, Bool.true_and, true_and, and_true, true_or, or_true, not_false_eq_true, Option.some.injEq, exists_eq_left', forall_eq, ↓reduceIte, Nat.add_zero, Nat.zero_add, and_self]
        refine K _ ?_
        by_cases e0 : e = 0
        · subst e0
          refine Or.inr ⟨fun k w => ?_, rfl⟩
          have := un k w
          have := w.1
          omega
        · exact Or.inl ⟨e, ⟨by omega, e8, he, q, hs⟩, rfl⟩
      · rintro n k z hk ⟨rfl, q⟩ LL
        have by_ := hby k (by omega)
        have zb := h.2 k (by omega)
        by_cases c : lt (ub (bf k)) = true
        · have c2 := of_decide_eq_true c
          have ee : bf k = nI (ub (bf k)) := by
            rcases (ub_ok by_).2.2 with ⟨-, a⟩ | ⟨a, -⟩
            · exact a
            · omega
          have ic := isL by_ M
          simp (disch := omega) only [l_X7_nameInBuffer_41, k0, r0, k1, l1, zb, ic, c, bI_t, l_0, l_1, l_2, l_3, l_4, l_5, l_6, l_7, l_8, l_9, l_10, l_20, l_30, l_31, l_34, l_40, l_65, l_100, l_255, l_11, l_12, l_24, l_600, l_689, l_999, l_120, l_32, nI_add, pk_mul, n_sub, n_leT, n_leF, n_ltT, n_ltF, n_eqT, n_eqF, n_cl, n_vp, fa_andq, fa_orq, fa_xorq, n_shl, n_shr, n_t1, n_t0, n_div, n_m1, not_true_eq_false, Bool.false_eq_true, false_and, Bool.not_false, Bool.not_true, Bool.and_true, Bool.and_false, Bool.false_and, Bool.true_and, true_and, and_true, true_or, or_true, not_false_eq_true, Option.some.injEq, exists_eq_left', forall_eq, ↓reduceIte, Nat.add_zero, Nat.zero_add, and_self]
          rw [ee]
          simp (disch := omega) only [w_X7_withLetter, l_97, l_0, l_1, l_2, l_3, l_4, l_5, l_6, l_7, l_8, l_9, l_10, l_20, l_30, l_31, l_34, l_40, l_65, l_100, l_255, l_11, l_12, l_24, l_600, l_689, l_999, l_120, l_32, nI_add, pk_mul, n_sub, n_leT, n_leF, n_ltT, n_ltF, n_eqT, n_eqF, n_cl, n_vp, fa_andq, fa_orq, fa_xorq, n_shl, n_shr, n_t1, n_t0, n_div, n_m1, not_true_eq_false, Bool.false_eq_true, false_and, Bool.not_false, Bool.not_true, Bool.and_true, Bool.and_false, Bool.false_and, Bool.true_and, true_and, and_true, true_or, or_true, not_false_eq_true, Option.some.injEq, exists_eq_left', forall_eq, ↓reduceIte, Nat.add_zero, Nat.zero_add, and_self]
          refine LL (_, _) ⟨?_, fun i hi => ?_⟩
          · rw [wd_s, Nat.zero_add, c5n c2.1]
            rfl
          · by_cases d : i = k
            · rw [d]; exact c
            · exact q i (by omega)
        · have c1 := b_no c
          have ic := isL by_ M
          simp (disch := omega) only [l_X7_nameInBuffer_41, k0, r0, k1, l1, zb, ic, c1, bI_f, l_0, l_1, l_2, l_3, l_4, l_5, l_6, l_7, l_8, l_9, l_10, l_20, l_30, l_31, l_34, l_40, l_65, l_100, l_255, l_11, l_12, l_24, l_600, l_689, l_999, l_120, l_32, nI_add, pk_mul, n_sub, n_leT, n_leF, n_ltT, n_ltF, n_eqT, n_eqF, n_cl, n_vp, fa_andq, fa_orq, fa_xorq, n_shl, n_shr, n_t1, n_t0, n_div, n_m1, not_true_eq_false, Bool.false_eq_true, false_and, Bool.not_false, Bool.not_true, Bool.and_true, Bool.and_false, Bool.false_and, Bool.true_and, true_and, and_true, true_or, or_true, not_false_eq_true, Option.some.injEq, exists_eq_left', forall_eq, ↓reduceIte, Nat.add_zero, Nat.zero_add, and_self]
          refine K 0 (Or.inr ⟨fun k2 w => ?_, rfl⟩)
          have := un k2 w
          subst this
          exact c (w.2.2.2.1 k hk)
    · simp (disch := omega) only [l_8, n_leF, if_false]
      refine K 0 (Or.inr ⟨fun k2 w => ?_, rfl⟩)
      have := un k2 w
      have := w.2.1
      omega
  exact s_trim k0 r0 k1 l1 h hb hby P _ C
