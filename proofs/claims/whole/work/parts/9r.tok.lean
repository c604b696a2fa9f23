/-! advance: the model's tokens -/
section MTA
variable {m L : Nat} {bf : Nat → Int32} {M : Mm}
theorem btv (h : TX m L bf M) (i : Nat) {v : Nat} (hv : v < 256) : (nI (bt L bf i) = nI v) = (bt L bf i = v) := by
  have b : bt L bf i < 4294967296 := by
    by_cases d : i < L
    · exact Nat.lt_trans (bt_b h d) (by omega)
    · rw [bt_ge (by omega)]; omega
  by_cases c : bt L bf i = v
  · rw [n_eqT c, eq_true c]
  · rw [n_eqF c b (by omega), eq_false c]
theorem btm (h : TX m L bf M) (i : Nat) : (nI (bt L bf i) = nI 4294967295) = (L ≤ i) := by
  by_cases d : i < L
  · have b := bt_b h d
    rw [n_eqF (by omega) (by omega) (by omega), eq_false (show ¬ L ≤ i by omega)]
  · rw [bt_ge (by omega), n_eqT rfl, eq_true (show L ≤ i by omega)]
theorem s_X8_blanks (h : TX m L bf M) {p : Nat} (hp : p ≤ L) (p8 : zI M m 8 = nI p) (P : Mm → Prop) (KK : Mm → Nat → Prop)
    (K : ∀ M', FrI (fun b => b = m) M M' → (∀ j, j ≠ 8 → zI M' m j = zI M m j) → zI M' m 8 = nI (p + run blnk L bf p) → KK M' m) : ∃ n, l_X8_advance_0 P KK n M m := by
  have hL : L ≤ 600 := h.2.2.2.2.2.1
  have hr := run_le blnk L bf hp
  refine lpI (fun n (z : Mm) => l_X8_advance_0 P KK n z m) (fun k z => FrI (fun b => b = m) M z ∧ (∀ j, j ≠ 8 → zI z m j = zI M m j) ∧ zI z m 8 = nI (p + k)) (run blnk L bf p) ?_ ?_ _ ⟨FrI.rf, fun _ _ => rfl, p8⟩
  · rintro n M1 ⟨f, g, q8⟩
    have h1 := h.fr f.toJ (g 6 (by omega))
    have K1 := K M1 f g q8
    have nb2 := of_decide_eq_false (run_no blnk blnk_m L bf p)
    have n1 : ¬ bt L bf (p + run blnk L bf p) = 32 := fun e => nb2 (Or.inl e)
    have n2 : ¬ bt L bf (p + run blnk L bf p) = 10 := fun e => nb2 (Or.inr e)
    have e1 := btv h1 (p + run blnk L bf p) (v := 32) (by omega)
    have e2 := btv h1 (p + run blnk L bf p) (v := 10) (by omega)
    simp (disch := omega) only [l_X8_advance_0, h1.1, q8, e_X8_byteAt h1, l_32, l_10, e1, e2, n1, n2, not_true_eq_false, Bool.false_eq_true, false_and, Bool.not_false, Bool.not_true, Bool.and_true, Bool.and_false, Bool.false_and, Bool.true_and, true_and, and_true, true_or, or_true, not_false_eq_true, Option.some.injEq, exists_eq_left', forall_eq, ↓reduceIte, Nat.add_zero, Nat.zero_add, and_self]
    exact K1
  · rintro n k M1 hk ⟨f, g, q8⟩ LL
    have h1 := h.fr f.toJ (g 6 (by omega))
    have h18 := h1.1
    have r := run_in blnk L bf p hk
    have e1 := btv h1 (p + k) (v := 32) (by omega)
    have e2 := btv h1 (p + k) (v := 10) (by omega)
    have L2 := LL (sI M1 m 8 (nI (p + k + 1))) ⟨f.trans fr_s1, fun j hj => (zI_sI2 _ _ _ _ hj).trans (g j hj), (zI_sI1 _ _ _ _).trans (by rw [Nat.add_assoc])⟩
    rcases of_decide_eq_true r.2 with e | e
    · have e3 : bt L bf (p + k) = 32 := by rw [bt_lt r.1]; exact e
      simp (disch := omega) only [l_X8_advance_0, h18, q8, e_X8_byteAt h1, l_32, l_10, l_1, e1, eq_true e3, nI_add, not_true_eq_false, Bool.false_eq_true, false_and, Bool.not_false, Bool.not_true, Bool.and_true, Bool.and_false, Bool.false_and, Bool.true_and, true_and, and_true, true_or, or_true, not_false_eq_true, Option.some.injEq, exists_eq_left', forall_eq, ↓reduceIte, Nat.add_zero, Nat.zero_add, and_self]
      exact L2
    · have e3 : bt L bf (p + k) = 10 := by rw [bt_lt r.1]; exact e
      have e4 : ¬ bt L bf (p + k) = 32 := by omega
      simp (disch := omega) only [l_X8_advance_0, h18, q8, e_X8_byteAt h1, l_32, l_10, l_1, e1, e2, eq_false e4, eq_true e3, nI_add, not_true_eq_false, Bool.false_eq_true, false_and, Bool.not_false, Bool.not_true, Bool.and_true, Bool.and_false, Bool.false_and, Bool.true_and, true_and, and_true, true_or, or_true, not_false_eq_true, Option.some.injEq, exists_eq_left', forall_eq, ↓reduceIte, Nat.add_zero, Nat.zero_add, and_self]
      exact L2
theorem s_X8_digits (h : TX m L bf M) {p : Nat} (hp : p ≤ L) (p7 : zI M m 7 = nI p) (p8 : zI M m 8 = nI p) (p10 : zI M m 10 = nI 0) (P : Mm → Prop) (KK : Mm → Nat → Prop)
    (K : ∀ M', FrI (fun b => b = m) M M' → (∀ j, j ≠ 8 → j ≠ 10 → zI M' m j = zI M m j) → zI M' m 8 = nI (p + run dgt L bf p) → (run dgt L bf p ≤ 3 → zI M' m 10 = nI (dv bf p (run dgt L bf p))) → KK M' m) : ∃ n, l_X8_advance_126 P KK n M m := by
  have hL : L ≤ 600 := h.2.2.2.2.2.1
  have hr := run_le dgt L bf hp
  refine lpI (fun n (z : Mm) => l_X8_advance_126 P KK n z m) (fun k z => FrI (fun b => b = m) M z ∧ (∀ j, j ≠ 8 → j ≠ 10 → zI z m j = zI M m j) ∧ zI z m 8 = nI (p + k) ∧ (k ≤ 3 → zI z m 10 = nI (dv bf p k))) (run dgt L bf p) ?_ ?_ _ ⟨FrI.rf, fun _ _ _ => rfl, p8, fun _ => p10⟩
  · rintro n M1 ⟨f, g, q8, q10⟩
    have h1 := h.fr f.toJ (g 6 (by omega) (by omega))
    have K1 := K M1 f g q8 q10
    have nb : wi 48 57 (bt L bf (p + run dgt L bf p)) = false := run_no dgt dgt_m L bf p
    simp (disch := omega) only [l_X8_advance_126, h1.1, q8, e_X8_byteAt h1, l_48, l_57, e_btw h1, nb, bI_f, l_0, n_eqT, not_true_eq_false, Bool.false_eq_true, false_and, Bool.not_false, Bool.not_true, Bool.and_true, Bool.and_false, Bool.false_and, Bool.true_and, true_and, and_true, true_or, or_true, not_false_eq_true, Option.some.injEq, exists_eq_left', forall_eq, ↓reduceIte, Nat.add_zero, Nat.zero_add, and_self]
    exact K1
  · rintro n k M1 hk ⟨f, g, q8, q10⟩ LL
    have h1 := h.fr f.toJ (g 6 (by omega) (by omega))
    have h18 := h1.1
    have r := run_in dgt L bf p hk
    have eb := bt_lt (bf := bf) r.1
    have nb : wi 48 57 (bt L bf (p + k)) = true := by rw [eb]; exact r.2
    have c2 := of_decide_eq_true nb
    have z7 : zI M1 m 7 = nI p := by rw [g 7 (by omega) (by omega)]; exact p7
    by_cases c : 3 ≤ k
    · have q8b : ∀ v, zI (sI M1 m 10 v) m 8 = nI (p + k) := fun v => (zI_sI2 _ _ _ _ (by omega)).trans q8
      have L2 := LL (sI (sI M1 m 10 (zI M1 m 10)) m 8 (nI (p + k + 1))) ⟨(f.trans fr_s1).trans fr_s1, fun j hj hj6 => (zI_sI2 _ _ _ _ hj).trans ((zI_sI2 _ _ _ _ hj6).trans (g j hj hj6)), (zI_sI1 _ _ _ _).trans (by rw [Nat.add_assoc]), fun z => absurd z (by omega)⟩
      simp (disch := omega) only [l_X8_advance_126, h18, q8, e_X8_byteAt h1, l_48, l_57, e_btw h1, nb, bI_t, l_0, l_1, l_3, z7, n_sub, Nat.add_sub_cancel_left, n_leT, n_eqF, zk_sI, q8b, nI_add, not_true_eq_false, Bool.false_eq_true, false_and, Bool.not_false, Bool.not_true, Bool.and_true, Bool.and_false, Bool.false_and, Bool.true_and, true_and, and_true, true_or, or_true, not_false_eq_true, Option.some.injEq, exists_eq_left', forall_eq, ↓reduceIte, Nat.add_zero, Nat.zero_add, and_self]
      exact L2
    · have q := q10 (by omega)
      have q8b : ∀ v, zI (sI M1 m 10 v) m 8 = nI (p + k) := fun v => (zI_sI2 _ _ _ _ (by omega)).trans q8
      have e10 : nI 10 * nI (dv bf p k) + nI (bt L bf (p + k)) - nI 48 = nI (dv bf p (k + 1)) := by
        rw [pk_mul, nI_add, n_sub (by omega), eb]
        show nI (10 * dv bf p k + ub (bf (p + k)) - 48) = nI (10 * dv bf p k + (ub (bf (p + k)) - 48))
        rw [eb] at c2
        rw [Nat.add_sub_assoc c2.1]
      have L2 := LL (sI (sI M1 m 10 (nI (dv bf p (k + 1)))) m 8 (nI (p + k + 1))) ⟨(f.trans fr_s1).trans fr_s1, fun j hj hj6 => (zI_sI2 _ _ _ _ hj).trans ((zI_sI2 _ _ _ _ hj6).trans (g j hj hj6)), (zI_sI1 _ _ _ _).trans (by rw [Nat.add_assoc]), fun _ => (zI_sI2 _ _ _ _ (by omega)).trans (zI_sI1 _ _ _ _)⟩
      simp (disch := omega) only [l_X8_advance_126, h18, q8, e_X8_byteAt h1, l_48, l_57, e_btw h1, nb, bI_t, l_0, l_1, l_3, z7, n_sub, Nat.add_sub_cancel_left, n_leF, n_eqF, zk_sI, q, l_10, not_true_eq_false, Bool.false_eq_true, false_and, Bool.not_false, Bool.not_true, Bool.and_true, Bool.and_false, Bool.false_and, Bool.true_and, true_and, and_true, true_or, or_true, not_false_eq_true, Option.some.injEq, exists_eq_left', forall_eq, ↓reduceIte, Nat.add_zero, Nat.zero_add, and_self]
      simp (disch := omega) only [e10, q8b, nI_add, not_true_eq_false, Bool.false_eq_true, false_and, Bool.not_false, Bool.not_true, Bool.and_true, Bool.and_false, Bool.false_and, Bool.true_and, true_and, and_true, true_or, or_true, not_false_eq_true, Option.some.injEq, exists_eq_left', forall_eq, ↓reduceIte, Nat.add_zero, Nat.zero_add, and_self]
      exact L2
theorem s_X8_advance (h : TX m L bf M) {p : Nat} (hp : p ≤ L) (p8 : zI M m 8 = nI p) (P : Mm → Prop)
    (K : ∀ M', FrJ m (fun b => b = m) M M' → (∀ j, j ≠ 7 → j ≠ 8 → j ≠ 9 → j ≠ 10 → zI M' m j = zI M m j) → TX m L bf M' → MT m L bf p M' → P M') : w_X8_advance M m P := by
  have hL : L ≤ 600 := h.2.2.2.2.2.1
  have hs := tS_le L bf hp
  unfold w_X8_advance
  refine s_X8_blanks h hp p8 P _ fun M5 f5 g5 q5 => ?_
  have k5 : zk M5 m = 8 := by rw [f5.k]; exact h.1
  refine ⟨k5, k5, fun M6 e6 => ⟨by rw [e6]; exact k5, fun M7 e7 => ?_⟩⟩
  have q5s : zI M5 m 8 = nI (tS L bf p) := q5
  have F7 : FrJ m (fun b => b = m) M M7 := by
    rw [e7, e6]
    exact (f5.toJ.trans FrJ.sI).trans FrJ.sI
  have z8 : zI M7 m 8 = nI (tS L bf p) := by
    rw [e7, zI_sI2 _ _ _ _ (by omega), e6, zI_sI2 _ _ _ _ (by omega)]; exact q5s
  have z7 : zI M7 m 7 = nI (tS L bf p) := by
    rw [e7, zI_sI2 _ _ _ _ (by omega), e6, zI_sI1]; exact q5s
  have z10 : zI M7 m 10 = nI 0 := by rw [e7]; exact zI_sI1 _ _ _ _
  have G7 : ∀ j, j ≠ 7 → j ≠ 8 → j ≠ 9 → j ≠ 10 → zI M7 m j = zI M m j := fun j a b c d => by
    rw [e7, zI_sI2 _ _ _ _ d, e6, zI_sI2 _ _ _ _ a]; exact g5 j b
  have T7 := h.fr F7 (G7 6 (by omega) (by omega) (by omega) (by omega))
  have h1 := T7.1
  clear e6 e7
  have em := btm T7 (tS L bf p)
  have kk : ∀ i v, zk (sI M7 m i v) m = 8 := fun _ _ => h1
  by_cases c : tS L bf p < L
  · have cn : ¬ L ≤ tS L bf p := by omega
    by_cases cl : lt (bt L bf (tS L bf p)) = true
    · obtain ⟨t1, t2⟩ := tk_w c cl
      simp (disch := omega) only [h1, z8, e_X8_byteAt T7, l_1, n_m1, em, eq_false cn, l_97, l_122, e_btw T7, lt_wi, cl, bI_t, l_0, l_4, l_8, n_eqF, not_true_eq_false, Bool.false_eq_true, false_and, Bool.not_false, Bool.not_true, Bool.and_true, Bool.and_false, Bool.false_and, Bool.true_and, true_and, and_true, true_or, or_true, not_false_eq_true, Option.some.injEq, exists_eq_left', forall_eq, ↓reduceIte, Nat.add_zero, Nat.zero_add, and_self]
      refine s_X8_takesLetters T7 hs z7 z8 _ fun M9 f9 g9 q9 w9 => ?_
      have T9 := T7.fr f9 (g9 6 (by omega))
      have z79 : zI M9 m 7 = nI (tS L bf p) := by rw [g9 7 (by omega)]; exact z7
      have rl := run_le lt L bf hs
      have q9b : zI M9 m 8 = nI (tS L bf p + run lt L bf (tS L bf p)) := q9
      have e9 : nI (tS L bf p + run lt L bf (tS L bf p)) - nI (tS L bf p) = nI (run lt L bf (tS L bf p)) := by
        rw [n_sub (by omega), Nat.add_sub_cancel_left]
      by_cases c8_ : run lt L bf (tS L bf p) ≤ 8
      · rw [if_pos c8_] at t1
        simp (disch := omega) only [T9.1, q9b, z79, e9, n_leT, not_true_eq_false, Bool.false_eq_true, false_and, Bool.not_false, Bool.not_true, Bool.and_true, Bool.and_false, Bool.false_and, Bool.true_and, true_and, and_true, true_or, or_true, not_false_eq_true, Option.some.injEq, exists_eq_left', forall_eq, ↓reduceIte, Nat.add_zero, Nat.zero_add, and_self]
        refine K _ ((F7.trans f9).trans FrJ.sI) (fun j a b c d => ?_) (T9.fr FrJ.sI (zI_sI2 _ _ _ _ (by omega))) ⟨?_, ?_, ?_, fun _ => w9 c8_, fun z => absurd z (by rw [t1]; omega)⟩
        · rw [zI_sI2 _ _ _ _ c, g9 j b, G7 j a b c d]
        · rw [t2]; exact (zI_sI2 _ _ _ _ (by omega)).trans q9
        · rw [t1]; exact zI_sI1 _ _ _ _
        · exact (zI_sI2 _ _ _ _ (by omega)).trans z79
      · rw [if_neg c8_] at t1
        simp (disch := omega) only [T9.1, q9b, z79, e9, n_leF, not_true_eq_false, Bool.false_eq_true, false_and, Bool.not_false, Bool.not_true, Bool.and_true, Bool.and_false, Bool.false_and, Bool.true_and, true_and, and_true, true_or, or_true, not_false_eq_true, Option.some.injEq, exists_eq_left', forall_eq, ↓reduceIte, Nat.add_zero, Nat.zero_add, and_self]
        refine K _ ((F7.trans f9).trans FrJ.sI) (fun j a b c d => ?_) (T9.fr FrJ.sI (zI_sI2 _ _ _ _ (by omega))) ⟨?_, ?_, ?_, fun z => absurd z (by rw [t1]; omega), fun z => absurd z (by rw [t1]; omega)⟩
        · rw [zI_sI2 _ _ _ _ c, g9 j b, G7 j a b c d]
        · rw [t2]; exact (zI_sI2 _ _ _ _ (by omega)).trans q9
        · rw [t1]; exact zI_sI1 _ _ _ _
        · exact (zI_sI2 _ _ _ _ (by omega)).trans z79
    · have cf := b_no cl
      by_cases cd : dgt (bt L bf (tS L bf p)) = true
      · have cd2 : wi 48 57 (bt L bf (tS L bf p)) = true := cd
        obtain ⟨t1, t2⟩ := tk_n c cf cd
        simp (disch := omega) only [h1, z8, e_X8_byteAt T7, l_1, n_m1, em, eq_false cn, l_97, l_122, l_48, l_57, e_btw T7, lt_wi, cf, cd2, bI_t, bI_f, l_0, l_2, l_3, l_4, n_eqF, n_eqT, not_true_eq_false, Bool.false_eq_true, false_and, Bool.not_false, Bool.not_true, Bool.and_true, Bool.and_false, Bool.false_and, Bool.true_and, true_and, and_true, true_or, or_true, not_false_eq_true, Option.some.injEq, exists_eq_left', forall_eq, ↓reduceIte, Nat.add_zero, Nat.zero_add, and_self]
        refine s_X8_digits T7 hs z7 z8 z10 P _ fun M9 f9 g9 q9 w9 => ?_
        have T9 := T7.fr f9.toJ (g9 6 (by omega) (by omega))
        have z79 : zI M9 m 7 = nI (tS L bf p) := by rw [g9 7 (by omega) (by omega)]; exact z7
        have rl := run_le dgt L bf hs
        have e9 : nI (tS L bf p + run dgt L bf (tS L bf p)) - nI (tS L bf p) = nI (run dgt L bf (tS L bf p)) := by
          rw [n_sub (by omega), Nat.add_sub_cancel_left]
        by_cases c8_ : run dgt L bf (tS L bf p) ≤ 3
        · rw [if_pos c8_] at t1
          simp (disch := omega) only [T9.1, q9, z79, e9, n_leT, not_true_eq_false, Bool.false_eq_true, false_and, Bool.not_false, Bool.not_true, Bool.and_true, Bool.and_false, Bool.false_and, Bool.true_and, true_and, and_true, true_or, or_true, not_false_eq_true, Option.some.injEq, exists_eq_left', forall_eq, ↓reduceIte, Nat.add_zero, Nat.zero_add, and_self]
          refine K _ ((F7.trans f9.toJ).trans FrJ.sI) (fun j a b c d => ?_) (T9.fr FrJ.sI (zI_sI2 _ _ _ _ (by omega))) ⟨?_, ?_, ?_, fun z => absurd z (by rw [t1]; omega), fun _ => (zI_sI2 _ _ _ _ (by omega)).trans (w9 c8_)⟩
          · rw [zI_sI2 _ _ _ _ c, g9 j b d, G7 j a b c d]
          · rw [t2]; exact (zI_sI2 _ _ _ _ (by omega)).trans q9
          · rw [t1]; exact zI_sI1 _ _ _ _
          · exact (zI_sI2 _ _ _ _ (by omega)).trans z79
        · rw [if_neg c8_] at t1
          simp (disch := omega) only [T9.1, q9, z79, e9, n_leF, not_true_eq_false, Bool.false_eq_true, false_and, Bool.not_false, Bool.not_true, Bool.and_true, Bool.and_false, Bool.false_and, Bool.true_and, true_and, and_true, true_or, or_true, not_false_eq_true, Option.some.injEq, exists_eq_left', forall_eq, ↓reduceIte, Nat.add_zero, Nat.zero_add, and_self]
          refine K _ ((F7.trans f9.toJ).trans FrJ.sI) (fun j a b c d => ?_) (T9.fr FrJ.sI (zI_sI2 _ _ _ _ (by omega))) ⟨?_, ?_, ?_, fun z => absurd z (by rw [t1]; omega), fun z => absurd z (by rw [t1]; omega)⟩
          · rw [zI_sI2 _ _ _ _ c, g9 j b d, G7 j a b c d]
          · rw [t2]; exact (zI_sI2 _ _ _ _ (by omega)).trans q9
          · rw [t1]; exact zI_sI1 _ _ _ _
          · exact (zI_sI2 _ _ _ _ (by omega)).trans z79
      · have df := b_no cd
        have df2 : wi 48 57 (bt L bf (tS L bf p)) = false := df
        obtain ⟨t1, t2⟩ := tk_o c cf df
        have e59 := btv T7 (tS L bf p) (v := 59) (by omega)
        by_cases c59 : bt L bf (tS L bf p) = 59
        · rw [if_pos c59] at t1
          simp (disch := omega) only [h1, z8, e_X8_byteAt T7, l_1, n_m1, em, eq_false cn, l_97, l_122, l_48, l_57, l_59, e_btw T7, lt_wi, cf, df2, bI_f, l_0, l_3, l_4, n_eqF, n_eqT, zk_sI, nI_add, e59, eq_true c59, not_true_eq_false, Bool.false_eq_true, false_and, Bool.not_false, Bool.not_true, Bool.and_true, Bool.and_false, Bool.false_and, Bool.true_and, true_and, and_true, true_or, or_true, not_false_eq_true, Option.some.injEq, exists_eq_left', forall_eq, ↓reduceIte, Nat.add_zero, Nat.zero_add, and_self]
          refine K _ ((F7.trans FrJ.sI).trans FrJ.sI) (fun j a b c d => ?_) (T7.fr (FrJ.sI.trans FrJ.sI) ((zI_sI2 _ _ _ _ (by omega)).trans (zI_sI2 _ _ _ _ (by omega)))) ⟨?_, ?_, ?_, fun z => absurd z (by rw [t1]; omega), fun z => absurd z (by rw [t1]; omega)⟩
          · rw [zI_sI2 _ _ _ _ c, zI_sI2 _ _ _ _ b, G7 j a b c d]
          · rw [t2]; exact (zI_sI2 _ _ _ _ (by omega)).trans (zI_sI1 _ _ _ _)
          · rw [t1]; exact zI_sI1 _ _ _ _
          · exact (zI_sI2 _ _ _ _ (by omega)).trans ((zI_sI2 _ _ _ _ (by omega)).trans z7)
        · rw [if_neg c59] at t1
          simp (disch := omega) only [h1, z8, e_X8_byteAt T7, l_1, n_m1, em, eq_false cn, l_97, l_122, l_48, l_57, l_59, e_btw T7, lt_wi, cf, df2, bI_f, l_0, l_3, l_4, n_eqF, n_eqT, zk_sI, nI_add, e59, eq_false c59, not_true_eq_false, Bool.false_eq_true, false_and, Bool.not_false, Bool.not_true, Bool.and_true, Bool.and_false, Bool.false_and, Bool.true_and, true_and, and_true, true_or, or_true, not_false_eq_true, Option.some.injEq, exists_eq_left', forall_eq, ↓reduceIte, Nat.add_zero, Nat.zero_add, and_self]
          refine K _ ((F7.trans FrJ.sI).trans FrJ.sI) (fun j a b c d => ?_) (T7.fr (FrJ.sI.trans FrJ.sI) ((zI_sI2 _ _ _ _ (by omega)).trans (zI_sI2 _ _ _ _ (by omega)))) ⟨?_, ?_, ?_, fun z => absurd z (by rw [t1]; omega), fun z => absurd z (by rw [t1]; omega)⟩
          · rw [zI_sI2 _ _ _ _ c, zI_sI2 _ _ _ _ b, G7 j a b c d]
          · rw [t2]; exact (zI_sI2 _ _ _ _ (by omega)).trans (zI_sI1 _ _ _ _)
          · rw [t1]; exact zI_sI1 _ _ _ _
          · exact (zI_sI2 _ _ _ _ (by omega)).trans ((zI_sI2 _ _ _ _ (by omega)).trans z7)
  · obtain ⟨t1, t2⟩ := tk_e (bf := bf) (p := p) (L := L) (by omega)
    simp (disch := omega) only [h1, z8, e_X8_byteAt T7, l_1, n_m1, em, eq_true (show L ≤ tS L bf p by omega), l_0, not_true_eq_false, Bool.false_eq_true, false_and, Bool.not_false, Bool.not_true, Bool.and_true, Bool.and_false, Bool.false_and, Bool.true_and, true_and, and_true, true_or, or_true, not_false_eq_true, Option.some.injEq, exists_eq_left', forall_eq, ↓reduceIte, Nat.add_zero, Nat.zero_add, and_self]
    refine K _ (F7.trans FrJ.sI) (fun j a b c d => ?_) (T7.fr FrJ.sI (zI_sI2 _ _ _ _ (by omega))) ⟨?_, ?_, ?_, fun z => absurd z (by rw [t1]; omega), fun z => absurd z (by rw [t1]; omega)⟩
    · rw [zI_sI2 _ _ _ _ c, G7 j a b c d]
    · rw [t2]; exact (zI_sI2 _ _ _ _ (by omega)).trans z8
    · rw [t1]; exact zI_sI1 _ _ _ _
    · exact (zI_sI2 _ _ _ _ (by omega)).trans z7
end MTA
