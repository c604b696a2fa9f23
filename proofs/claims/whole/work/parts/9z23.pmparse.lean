/-! PARSE: the model's call -/
theorem FQ.g {R : Nat → Prop} {lo hi : Nat} {M M' : Mm} (f : FQ R M M') (d : ∀ b, R b → lo ≤ b ∧ b < hi) : FrG lo hi M M' :=
  ⟨by rw [f.n]; exact Nat.le_refl _, fun b _ hn => ⟨by rw [f.k], by rw [f.l], f.i fun q => hn (d b q), f.j fun q => hn (d b q), by rw [f.r]⟩⟩
/-- the model's plan after a good text: of players that are not there something that nobody reads -/
def plM (n : Nat) (ct u : Nat → Nat) : Nat → Nat := fun k => if 1 ≤ k ∧ k ≤ 8 then (if k - 1 < n then ct (k - 1) else u (k - 1)) else 0
def stM (hl : Nat → Nat → Nat) (sl : Nat → Nat → Nat) (bf : Nat → Int32) (s : PS) (u : Nat → Nat) : ST := (s.2.1, plM (s.2.1 2) s.2.2.2.1 u, 0, hl, fun _ => false, sl, 0, bf, 4294967295, s.2.2.1)
section PTR
variable {m : Nat} {M : Mm} {P : Mm → Prop} {K : Mm → Nat → Prop}
theorem s_takes2 (h : MS m M) (KK : ∀ M', FrI (fun b => b = m + 1) M M' → (∀ k, k < 120 → zI M' (m + 1) k = zI M (m + 5) k) → K M' m) : ∃ n, l_X8_takesRead_2 P K n M m (nI 0) := by
  have sh := h
  unfold MS at sh
  refine lpI (fun n (u : Mm × Int32) => l_X8_takesRead_2 P K n u.1 m u.2) (fun k u => (FrI (fun b => b = m + 1) M u.1 ∧ ∀ j, j < k → zI u.1 (m + 1) j = zI M (m + 5) j) ∧ u.2 = nI k) 120 ?_ ?_ (M, nI 0) ⟨⟨FrI.rf, fun j hj => absurd hj (Nat.not_lt_zero j)⟩, rfl⟩
  · rintro n ⟨M1, x1⟩ ⟨⟨f, g⟩, e1⟩
    dsimp only at f g e1 ⊢
    subst e1
    simp (disch := omega) only [l_X8_takesRead_2, l_120, n_leT, not_true_eq_false, Bool.false_eq_true, false_and, Bool.not_false, Bool.not_true, Bool.and_true, Bool.and_false, Bool.false_and, Bool.true_and, true_and, and_true, true_or, or_true, not_false_eq_true, Option.some.injEq, exists_eq_left', forall_eq, ↓reduceIte, Nat.add_zero, Nat.zero_add, and_self]
    exact KK M1 f g
  · rintro n k ⟨M1, x1⟩ hk ⟨⟨f, g⟩, e1⟩ LL
    dsimp only at f g e1 LL ⊢
    subst e1
    have v : zI M1 (m + 5) k = zI M (m + 5) k := by rw [f.i (by omega)]
    simp (disch := omega) only [l_X8_takesRead_2, f.k, f.l, f.r, sh, v, l_1, l_120, n_leF, n_vp, n_cl, nI_add, not_true_eq_false, Bool.false_eq_true, false_and, Bool.not_false, Bool.not_true, Bool.and_true, Bool.and_false, Bool.false_and, Bool.true_and, true_and, and_true, true_or, or_true, not_false_eq_true, Option.some.injEq, exists_eq_left', forall_eq, ↓reduceIte, Nat.add_zero, Nat.zero_add, and_self]
    refine LL (sI M1 (m + 1) k (zI M (m + 5) k), nI (k + 1)) ⟨⟨f.trans (FrI.sI rfl), fun j hj => ?_⟩, rfl⟩
    by_cases e : j = k
    · subst e; exact zI_sI1 _ _ _ _
    · exact (zI_sI2 _ _ _ _ e).trans (g j (by omega))
theorem s_takes28 (h : MS m M) (KK : ∀ M', FQ (fun b => b = m + 3) M M' → (∀ k, k < 32 → zJ M' (m + 3) k = zJ M (m + 7) k) → K M' m) : ∃ n, l_X8_takesRead_28 P K n M m (nI 0) := by
  have sh := h
  unfold MS at sh
  refine lpI (fun n (u : Mm × Int32) => l_X8_takesRead_28 P K n u.1 m u.2) (fun k u => (FQ (fun b => b = m + 3) M u.1 ∧ ∀ j, j < k → zJ u.1 (m + 3) j = zJ M (m + 7) j) ∧ u.2 = nI k) 32 ?_ ?_ (M, nI 0) ⟨⟨FQ.rf, fun j hj => absurd hj (Nat.not_lt_zero j)⟩, rfl⟩
  · rintro n ⟨M1, x1⟩ ⟨⟨f, g⟩, e1⟩
    dsimp only at f g e1 ⊢
    subst e1
    simp (disch := omega) only [l_X8_takesRead_28, l_32, n_leT, not_true_eq_false, Bool.false_eq_true, false_and, Bool.not_false, Bool.not_true, Bool.and_true, Bool.and_false, Bool.false_and, Bool.true_and, true_and, and_true, true_or, or_true, not_false_eq_true, Option.some.injEq, exists_eq_left', forall_eq, ↓reduceIte, Nat.add_zero, Nat.zero_add, and_self]
    exact KK M1 f g
  · rintro n k ⟨M1, x1⟩ hk ⟨⟨f, g⟩, e1⟩ LL
    dsimp only at f g e1 LL ⊢
    subst e1
    have v : zJ M1 (m + 7) k = zJ M (m + 7) k := by rw [f.j (by omega)]
    simp (disch := omega) only [l_X8_takesRead_28, f.k, f.l, f.r, sh, v, l_1, l_32, n_leF, n_vp, n_cl, nI_add, not_true_eq_false, Bool.false_eq_true, false_and, Bool.not_false, Bool.not_true, Bool.and_true, Bool.and_false, Bool.false_and, Bool.true_and, true_and, and_true, true_or, or_true, not_false_eq_true, Option.some.injEq, exists_eq_left', forall_eq, ↓reduceIte, Nat.add_zero, Nat.zero_add, and_self]
    refine LL (sJ M1 (m + 3) k (zJ M (m + 7) k), nI (k + 1)) ⟨⟨f.trans (fq_sJ rfl), fun j hj => ?_⟩, rfl⟩
    by_cases e : j = k
    · subst e; exact zJ_sJ1 _ _ _ _
    · exact (if_neg fun q => e q.2).trans (g j (by omega))
theorem s_takes54 (h : MS m M) (KK : ∀ M', FrI (fun b => b = m + 2) M M' → (∀ k, k < 689 → zI M' (m + 2) k = nI 0) → K M' m) : ∃ n, l_X8_takesRead_54 P K n M m (nI 0) := by
  have sh := h
  unfold MS at sh
  refine lpI (fun n (u : Mm × Int32) => l_X8_takesRead_54 P K n u.1 m u.2) (fun k u => (FrI (fun b => b = m + 2) M u.1 ∧ ∀ j, j < k → zI u.1 (m + 2) j = nI 0) ∧ u.2 = nI k) 689 ?_ ?_ (M, nI 0) ⟨⟨FrI.rf, fun j hj => absurd hj (Nat.not_lt_zero j)⟩, rfl⟩
  · rintro n ⟨M1, x1⟩ ⟨⟨f, g⟩, e1⟩
    dsimp only at f g e1 ⊢
    subst e1
    simp (disch := omega) only [l_X8_takesRead_54, l_689, n_leT, not_true_eq_false, Bool.false_eq_true, false_and, Bool.not_false, Bool.not_true, Bool.and_true, Bool.and_false, Bool.false_and, Bool.true_and, true_and, and_true, true_or, or_true, not_false_eq_true, Option.some.injEq, exists_eq_left', forall_eq, ↓reduceIte, Nat.add_zero, Nat.zero_add, and_self]
    exact KK M1 f g
  · rintro n k ⟨M1, x1⟩ hk ⟨⟨f, g⟩, e1⟩ LL
    dsimp only at f g e1 LL ⊢
    subst e1
    simp (disch := omega) only [l_X8_takesRead_54, f.k, f.l, f.r, sh, l_0, l_1, l_689, n_leF, n_vp, n_cl, nI_add, not_true_eq_false, Bool.false_eq_true, false_and, Bool.not_false, Bool.not_true, Bool.and_true, Bool.and_false, Bool.false_and, Bool.true_and, true_and, and_true, true_or, or_true, not_false_eq_true, Option.some.injEq, exists_eq_left', forall_eq, ↓reduceIte, Nat.add_zero, Nat.zero_add, and_self]
    refine LL (sI M1 (m + 2) k (nI 0), nI (k + 1)) ⟨⟨f.trans (FrI.sI rfl), fun j hj => ?_⟩, rfl⟩
    by_cases e : j = k
    · subst e; exact zI_sI1 _ _ _ _
    · exact (zI_sI2 _ _ _ _ e).trans (g j (by omega))
theorem s_takes76 (h : MS m M) (KK : ∀ M', FrI (fun b => b = m + 2) M M' → (∀ i, zI M' (m + 2) i = if 1 ≤ i ∧ i ≤ 8 then zI M (m + 6) (i - 1) else zI M (m + 2) i) → K M' m) : ∃ n, l_X8_takesRead_76 P K n M m (nI 0) := by
  have sh := h
  unfold MS at sh
  refine lpI (fun n (u : Mm × Int32) => l_X8_takesRead_76 P K n u.1 m u.2) (fun k u => (FrI (fun b => b = m + 2) M u.1 ∧ ∀ i, zI u.1 (m + 2) i = if 1 ≤ i ∧ i ≤ k then zI M (m + 6) (i - 1) else zI M (m + 2) i) ∧ u.2 = nI k) 8 ?_ ?_ (M, nI 0) ⟨⟨FrI.rf, fun i => (if_neg (by omega)).symm⟩, rfl⟩
  · rintro n ⟨M1, x1⟩ ⟨⟨f, g⟩, e1⟩
    dsimp only at f g e1 ⊢
    subst e1
    simp (disch := omega) only [l_X8_takesRead_76, l_8, n_leT, not_true_eq_false, Bool.false_eq_true, false_and, Bool.not_false, Bool.not_true, Bool.and_true, Bool.and_false, Bool.false_and, Bool.true_and, true_and, and_true, true_or, or_true, not_false_eq_true, Option.some.injEq, exists_eq_left', forall_eq, ↓reduceIte, Nat.add_zero, Nat.zero_add, and_self]
    exact KK M1 f g
  · rintro n k ⟨M1, x1⟩ hk ⟨⟨f, g⟩, e1⟩ LL
    dsimp only at f g e1 LL ⊢
    subst e1
    have v : zI M1 (m + 6) k = zI M (m + 6) k := by rw [f.i (by omega)]
    simp (disch := omega) only [l_X8_takesRead_76, f.k, f.l, f.r, sh, v, l_1, l_8, n_leF, n_vp, n_cl, nI_add, not_true_eq_false, Bool.false_eq_true, false_and, Bool.not_false, Bool.not_true, Bool.and_true, Bool.and_false, Bool.false_and, Bool.true_and, true_and, and_true, true_or, or_true, not_false_eq_true, Option.some.injEq, exists_eq_left', forall_eq, ↓reduceIte, Nat.add_zero, Nat.zero_add, and_self]
    refine LL (sI M1 (m + 2) (1 + k) (zI M (m + 6) k), nI (k + 1)) ⟨⟨f.trans (FrI.sI rfl), fun i => ?_⟩, rfl⟩
    by_cases e : i = 1 + k
    · subst e
      rw [if_pos (by omega), show 1 + k - 1 = k by omega]
      exact zI_sI1 _ _ _ _
    · refine (zI_sI2 _ _ _ _ e).trans ((g i).trans ?_)
      by_cases c : 1 ≤ i ∧ i ≤ k
      · rw [if_pos c, if_pos (by omega)]
      · rw [if_neg c, if_neg (by omega)]
theorem FQ.ms {R : Nat → Prop} {M' : Mm} (h : MS m M) (f : FQ R M M') : MS m M' := by
  unfold MS at h ⊢; rw [f.k, f.l, f.r]; exact h
theorem s_X8_takesRead (h : MS m M) (KK : ∀ M', FQ (fun b => b = m ∨ b = m + 1 ∨ b = m + 2 ∨ b = m + 3 ∨ b = m + 13) M M' → (∀ j, j ≠ 24 → zI M' m j = zI M m j) → zI M' m 24 = nI 0 → (∀ k, k < 120 → zI M' (m + 1) k = zI M (m + 5) k) → (∀ i, i < 689 → zI M' (m + 2) i = if 1 ≤ i ∧ i ≤ 8 then zI M (m + 6) (i - 1) else nI 0) → (∀ k, k < 32 → zJ M' (m + 3) k = zJ M (m + 7) k) → (∀ i, i < 2 → zI M' (m + 13) i = nI 0) → P M') : w_X8_takesRead M m P := by
  unfold w_X8_takesRead
  refine s_takes2 h fun M1 f1 g1 => ?_
  have q1 : FQ (fun b => b = m + 1) M M1 := fq_I f1 fun b hb => hb
  have h1 := q1.ms h
  refine s_takes28 h1 fun M2 f2 g2 => ?_
  have h2 := f2.ms h1
  refine s_takes54 h2 fun M3 f3 g3 => ?_
  have q3 : FQ (fun b => b = m + 2) M2 M3 := fq_I f3 fun b hb => hb
  have h3 := q3.ms h2
  refine s_takes76 h3 fun M4 f4 g4 => ?_
  have q4 : FQ (fun b => b = m + 2) M3 M4 := fq_I f4 fun b hb => hb
  have h4 := q4.ms h3
  have sh := h4
  unfold MS at sh
  have F4 : FQ (fun b => b = m + 1 ∨ b = m + 2 ∨ b = m + 3) M M4 := (q1.mono fun b hb => Or.inl hb).trans ((f2.mono fun b hb => Or.inr (Or.inr hb)).trans ((q3.mono fun b hb => Or.inr (Or.inl hb)).trans (q4.mono fun b hb => Or.inr (Or.inl hb))))
  simp (disch := omega) only [sh, zk_sI, zl_sI, zR_sI, l_0, l_1, n_vp, n_cl, nar0, not_true_eq_false, Bool.false_eq_true, false_and, Bool.not_false, Bool.not_true, Bool.and_true, Bool.and_false, Bool.false_and, Bool.true_and, true_and, and_true, true_or, or_true, not_false_eq_true, Option.some.injEq, exists_eq_left', forall_eq, ↓reduceIte, Nat.add_zero, Nat.zero_add, and_self]
  have F5 : FQ (fun b => b = m ∨ b = m + 13) M4 (sI (sI (sI M4 m 24 (nI 0)) (m + 13) 0 (nI 0)) (m + 13) 1 (nI 0)) := FQ.trans (M1 := sI (sI M4 m 24 (nI 0)) (m + 13) 0 (nI 0)) (FQ.trans (M1 := sI M4 m 24 (nI 0)) (fq_sI (Or.inl rfl)) (fq_sI (Or.inr rfl))) (fq_sI (Or.inr rfl))
  have i5 : zI (sI (sI (sI M4 m 24 (nI 0)) (m + 13) 0 (nI 0)) (m + 13) 1 (nI 0)) m = zI (sI M4 m 24 (nI 0)) m := by
    rw [zI_sIo _ _ _ _ (by omega), zI_sIo _ _ _ _ (by omega)]
  refine KK _ ((F4.mono fun b hb => by omega).trans (F5.mono fun b hb => by omega)) (fun j hj => ?_) ?_ (fun k hk => ?_) (fun i hi => ?_) (fun k hk => ?_) (fun i hi => ?_)
  · rw [i5, zI_sI2 _ _ _ _ hj, F4.i (by omega)]
  · rw [i5, zI_sI1]
  · rw [F5.i (by omega), q4.i (by omega), q3.i (by omega), f2.i (by omega)]; exact g1 k hk
  · rw [F5.i (by omega), g4]
    by_cases c : 1 ≤ i ∧ i ≤ 8
    · rw [if_pos c, if_pos c, q3.i (by omega), f2.i (by omega), q1.i (by omega)]
    · rw [if_neg c, if_neg c]; exact g3 i hi
  · rw [F5.j (by omega), q4.j (by omega), q3.j (by omega), g2 k hk, q1.j (by omega)]
  · by_cases e : i = 1
    · subst e; exact zI_sI1 _ _ _ _
    · rw [zI_sI2 _ _ _ _ e, show i = 0 by omega]; exact zI_sI1 _ _ _ _
/-- the text that is read so far, thrown away -/
theorem s_parse64 {KP : Int32 → Mm → Prop} (h : MS m M) (KK : ∀ M', FrI (fun b => b = m + 5) M M' → (∀ k, k < 120 → zI M' (m + 5) k = nI 0) → K M' m) : ∃ n, l_X8_parse_64 KP K n M m (nI 0) := by
  have sh := h
  unfold MS at sh
  refine lpI (fun n (u : Mm × Int32) => l_X8_parse_64 KP K n u.1 m u.2) (fun k u => (FrI (fun b => b = m + 5) M u.1 ∧ ∀ j, j < k → zI u.1 (m + 5) j = nI 0) ∧ u.2 = nI k) 120 ?_ ?_ (M, nI 0) ⟨⟨FrI.rf, fun j hj => absurd hj (Nat.not_lt_zero j)⟩, rfl⟩
  · rintro n ⟨M1, x1⟩ ⟨⟨f, g⟩, e1⟩
    dsimp only at f g e1 ⊢
    subst e1
    simp (disch := omega) only [l_X8_parse_64, l_120, n_leT, not_true_eq_false, Bool.false_eq_true, false_and, Bool.not_false, Bool.not_true, Bool.and_true, Bool.and_false, Bool.false_and, Bool.true_and, true_and, and_true, true_or, or_true, not_false_eq_true, Option.some.injEq, exists_eq_left', forall_eq, ↓reduceIte, Nat.add_zero, Nat.zero_add, and_self]
    exact KK M1 f g
  · rintro n k ⟨M1, x1⟩ hk ⟨⟨f, g⟩, e1⟩ LL
    dsimp only at f g e1 LL ⊢
    subst e1
    simp (disch := omega) only [l_X8_parse_64, f.k, f.l, f.r, sh, l_0, l_1, l_120, n_leF, n_vp, n_cl, nI_add, not_true_eq_false, Bool.false_eq_true, false_and, Bool.not_false, Bool.not_true, Bool.and_true, Bool.and_false, Bool.false_and, Bool.true_and, true_and, and_true, true_or, or_true, not_false_eq_true, Option.some.injEq, exists_eq_left', forall_eq, ↓reduceIte, Nat.add_zero, Nat.zero_add, and_self]
    refine LL (sI M1 (m + 5) k (nI 0), nI (k + 1)) ⟨⟨f.trans (FrI.sI rfl), fun j hj => ?_⟩, rfl⟩
    by_cases e : j = k
    · subst e; exact zI_sI1 _ _ _ _
    · exact (zI_sI2 _ _ _ _ e).trans (g j (by omega))
end PTR
