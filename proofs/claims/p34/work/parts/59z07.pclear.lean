/-! PARSE: a season made ready for a text -/
section PCL
variable {sp : Nat} {M : Mm}
def RSe (sp : Nat) : Nat → Prop := fun b => sp ≤ b ∧ b ≤ sp + 20
theorem s_X6_clear (h : SeaSh sp M) (P : Mm → Prop)
    (K : ∀ M', FrI (RSe sp) M M' → zI M' sp 0 = zI M sp 0 → zI M' sp 1 = nI 0 ∧ zI M' sp 2 = nI 0 ∧ zI M' (sp + 1) 1 = nI 0 ∧ zI M' (sp + 4) 1 = nI 0 ∧ zI M' (sp + 11) 1 = nI 0 ∧ zI M' (sp + 13) 1 = nI 0 → (∀ k, k < 8 → zI M' (sp + 9) k = nI 0 ∧ zI M' (sp + 10) k = nI 0) → (∀ w, w < 5 → zI M' (sp + 19) w = nI 0) → P M') : w_X6_clear M sp P := by
  have sh := h
  unfold SeaSh at sh
  obtain ⟨s1, s2, s3, s4⟩ := sh
  simp (disch := omega) only [w_X6_clear, s1, s2, zk_sI, zR_sI, l_0, n_eqT, not_true_eq_false, Bool.false_eq_true, false_and, Bool.not_false, Bool.not_true, Bool.and_true, Bool.and_false, Bool.false_and, Bool.true_and, true_and, and_true, true_or, or_true, not_false_eq_true, Option.some.injEq, exists_eq_left', forall_eq, ↓reduceIte, Nat.add_zero, Nat.zero_add, and_self]
  have F0 : FrI (RSe sp) M (sI (sI (sI (sI (sI (sI M sp 1 (nI 0)) sp 2 (nI 0)) (sp + 1) 1 (nI 0)) (sp + 4) 1 (nI 0)) (sp + 11) 1 (nI 0)) (sp + 13) 1 (nI 0)) :=
    (((((FrI.sI (by unfold RSe; omega)).trans (FrI.sI (by unfold RSe; omega))).trans (FrI.sI (by unfold RSe; omega))).trans (FrI.sI (by unfold RSe; omega))).trans (FrI.sI (by unfold RSe; omega))).trans (FrI.sI (by unfold RSe; omega))
  have q0 : zI (sI (sI (sI (sI (sI (sI M sp 1 (nI 0)) sp 2 (nI 0)) (sp + 1) 1 (nI 0)) (sp + 4) 1 (nI 0)) (sp + 11) 1 (nI 0)) (sp + 13) 1 (nI 0)) sp 0 = zI M sp 0 := by
    simp only [zI_sIq]
    rw [if_neg (by omega), if_neg (by omega), if_neg (by omega), if_neg (by omega), if_neg (by omega), if_neg (by omega)]
  have q1 : zI (sI (sI (sI (sI (sI (sI M sp 1 (nI 0)) sp 2 (nI 0)) (sp + 1) 1 (nI 0)) (sp + 4) 1 (nI 0)) (sp + 11) 1 (nI 0)) (sp + 13) 1 (nI 0)) sp 1 = nI 0 := by
    simp only [zI_sIq]
    rw [if_neg (by omega), if_neg (by omega), if_neg (by omega), if_neg (by omega), if_neg (by omega)]
    exact if_pos ⟨trivial, trivial⟩
  have q2 : zI (sI (sI (sI (sI (sI (sI M sp 1 (nI 0)) sp 2 (nI 0)) (sp + 1) 1 (nI 0)) (sp + 4) 1 (nI 0)) (sp + 11) 1 (nI 0)) (sp + 13) 1 (nI 0)) sp 2 = nI 0 := by
    simp only [zI_sIq]
    rw [if_neg (by omega), if_neg (by omega), if_neg (by omega), if_neg (by omega)]
    exact if_pos ⟨trivial, trivial⟩
  have q3 : zI (sI (sI (sI (sI (sI (sI M sp 1 (nI 0)) sp 2 (nI 0)) (sp + 1) 1 (nI 0)) (sp + 4) 1 (nI 0)) (sp + 11) 1 (nI 0)) (sp + 13) 1 (nI 0)) (sp + 1) 1 = nI 0 := by
    simp only [zI_sIq]
    rw [if_neg (by omega), if_neg (by omega), if_neg (by omega)]
    exact if_pos ⟨trivial, trivial⟩
  have q4 : zI (sI (sI (sI (sI (sI (sI M sp 1 (nI 0)) sp 2 (nI 0)) (sp + 1) 1 (nI 0)) (sp + 4) 1 (nI 0)) (sp + 11) 1 (nI 0)) (sp + 13) 1 (nI 0)) (sp + 4) 1 = nI 0 := by
    simp only [zI_sIq]
    rw [if_neg (by omega), if_neg (by omega)]
    exact if_pos ⟨trivial, trivial⟩
  have q5 : zI (sI (sI (sI (sI (sI (sI M sp 1 (nI 0)) sp 2 (nI 0)) (sp + 1) 1 (nI 0)) (sp + 4) 1 (nI 0)) (sp + 11) 1 (nI 0)) (sp + 13) 1 (nI 0)) (sp + 11) 1 = nI 0 := by
    simp only [zI_sIq]
    rw [if_neg (by omega)]
    exact if_pos ⟨trivial, trivial⟩
  have q6 : zI (sI (sI (sI (sI (sI (sI M sp 1 (nI 0)) sp 2 (nI 0)) (sp + 1) 1 (nI 0)) (sp + 4) 1 (nI 0)) (sp + 11) 1 (nI 0)) (sp + 13) 1 (nI 0)) (sp + 13) 1 = nI 0 := zI_sI1 _ _ _ _
  obtain ⟨Mt, eT⟩ : ∃ Mt, sI (sI (sI (sI (sI (sI M sp 1 (nI 0)) sp 2 (nI 0)) (sp + 1) 1 (nI 0)) (sp + 4) 1 (nI 0)) (sp + 11) 1 (nI 0)) (sp + 13) 1 (nI 0) = Mt := ⟨_, rfl⟩
  rw [eT] at F0 q0 q1 q2 q3 q4 q5 q6 ⊢
  refine lpI (fun n (u : Mm × Int32) => l_X6_clear_44 P (fun M15 x0_15 => (∃ n72, l_X6_clear_72 P (fun M18 => P M18) n72 M15 x0_15 (nI 0))) n u.1 sp u.2) (fun k u => (FrI (fun b => b = sp + 9 ∨ b = sp + 10) Mt u.1 ∧ ∀ j, j < k → zI u.1 (sp + 9) j = nI 0 ∧ zI u.1 (sp + 10) j = nI 0) ∧ u.2 = nI k) 8 ?_ ?_ (Mt, nI 0) ⟨⟨FrI.rf, fun j hj => absurd hj (Nat.not_lt_zero j)⟩, rfl⟩
  · rintro n ⟨M1, x1⟩ ⟨⟨f, g⟩, e1⟩
    dsimp only at f g e1 ⊢
    subst e1
    simp (disch := omega) only [l_X6_clear_44, l_8, n_leT, not_true_eq_false, Bool.false_eq_true, false_and, Bool.not_false, Bool.not_true, Bool.and_true, Bool.and_false, Bool.false_and, Bool.true_and, true_and, and_true, true_or, or_true, not_false_eq_true, Option.some.injEq, exists_eq_left', forall_eq, ↓reduceIte, Nat.add_zero, Nat.zero_add, and_self]
    refine lpI (fun n (u : Mm × Int32) => l_X6_clear_72 P (fun M18 => P M18) n u.1 sp u.2) (fun k u => (FrI (fun b => b = sp + 19) M1 u.1 ∧ ∀ j, j < k → zI u.1 (sp + 19) j = nI 0) ∧ u.2 = nI k) 5 ?_ ?_ (M1, nI 0) ⟨⟨FrI.rf, fun j hj => absurd hj (Nat.not_lt_zero j)⟩, rfl⟩
    · rintro n ⟨M2, x2⟩ ⟨⟨f2, g2⟩, e2⟩
      dsimp only at f2 g2 e2 ⊢
      subst e2
      simp (disch := omega) only [l_X6_clear_72, l_5, n_leT, not_true_eq_false, Bool.false_eq_true, false_and, Bool.not_false, Bool.not_true, Bool.and_true, Bool.and_false, Bool.false_and, Bool.true_and, true_and, and_true, true_or, or_true, not_false_eq_true, Option.some.injEq, exists_eq_left', forall_eq, ↓reduceIte, Nat.add_zero, Nat.zero_add, and_self]
      have I : ∀ b, b ≠ sp + 9 → b ≠ sp + 10 → b ≠ sp + 19 → zI M2 b = zI Mt b := fun b h1 h2 h3 => by rw [f2.i h3, f.i (by omega)]
      refine K M2 (F0.trans ((f.mono fun b hb => by unfold RSe; omega).trans (f2.mono fun b hb => by unfold RSe; omega))) ?_ ⟨?_, ?_, ?_, ?_, ?_, ?_⟩ (fun k hk => ?_) g2
      · rw [I sp (by omega) (by omega) (by omega)]; exact q0
      · rw [I sp (by omega) (by omega) (by omega)]; exact q1
      · rw [I sp (by omega) (by omega) (by omega)]; exact q2
      · rw [I (sp + 1) (by omega) (by omega) (by omega)]; exact q3
      · rw [I (sp + 4) (by omega) (by omega) (by omega)]; exact q4
      · rw [I (sp + 11) (by omega) (by omega) (by omega)]; exact q5
      · rw [I (sp + 13) (by omega) (by omega) (by omega)]; exact q6
      · rw [f2.i (by omega), f2.i (by omega)]; exact g k hk
    · rintro n k ⟨M2, x2⟩ hk ⟨⟨f2, g2⟩, e2⟩ LL
      dsimp only at f2 g2 e2 LL ⊢
      subst e2
      simp (disch := omega) only [l_X6_clear_72, f2.k, f2.l, f2.r, f.k, f.l, f.r, F0.k, F0.l, F0.r, s1, s3, s4, l_0, l_1, l_5, n_leF, n_vp, n_cl, nI_add, not_true_eq_false, Bool.false_eq_true, false_and, Bool.not_false, Bool.not_true, Bool.and_true, Bool.and_false, Bool.false_and, Bool.true_and, true_and, and_true, true_or, or_true, not_false_eq_true, Option.some.injEq, exists_eq_left', forall_eq, ↓reduceIte, Nat.add_zero, Nat.zero_add, and_self]
      refine LL (sI M2 (sp + 19) k (nI 0), nI (k + 1)) ⟨⟨f2.trans (FrI.sI rfl), fun j hj => ?_⟩, rfl⟩
      by_cases e : j = k
      · subst e; exact zI_sI1 _ _ _ _
      · exact (zI_sI2 _ _ _ _ e).trans (g2 j (by omega))
  · rintro n k ⟨M1, x1⟩ hk ⟨⟨f, g⟩, e1⟩ LL
    dsimp only at f g e1 LL ⊢
    subst e1
    simp (disch := omega) only [l_X6_clear_44, f.k, f.l, f.r, F0.k, F0.l, F0.r, s1, s3, s4, zk_sI, zl_sI, zR_sI, l_0, l_1, l_8, n_leF, n_vp, n_cl, nI_add, not_true_eq_false, Bool.false_eq_true, false_and, Bool.not_false, Bool.not_true, Bool.and_true, Bool.and_false, Bool.false_and, Bool.true_and, true_and, and_true, true_or, or_true, not_false_eq_true, Option.some.injEq, exists_eq_left', forall_eq, ↓reduceIte, Nat.add_zero, Nat.zero_add, and_self]
    refine LL (sI (sI M1 (sp + 9) k (nI 0)) (sp + 10) k (nI 0), nI (k + 1)) ⟨⟨(f.trans (FrI.sI (Or.inl rfl))).trans (FrI.sI (Or.inr rfl)), fun j hj => ?_⟩, rfl⟩
    have a9 : zI (sI (sI M1 (sp + 9) k (nI 0)) (sp + 10) k (nI 0)) (sp + 9) j = zI (sI M1 (sp + 9) k (nI 0)) (sp + 9) j := congrFun (zI_sIo _ _ _ _ (by omega)) j
    have a10 : zI (sI M1 (sp + 9) k (nI 0)) (sp + 10) j = zI M1 (sp + 10) j := congrFun (zI_sIo _ _ _ _ (by omega)) j
    by_cases e : j = k
    · subst e; exact ⟨a9.trans (zI_sI1 _ _ _ _), zI_sI1 _ _ _ _⟩
    · exact ⟨a9.trans ((zI_sI2 _ _ _ _ e).trans (g j (by omega)).1), (zI_sI2 _ _ _ _ e).trans (a10.trans (g j (by omega)).2)⟩
end PCL
