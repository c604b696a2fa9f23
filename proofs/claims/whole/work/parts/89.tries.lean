/-! THE MODEL'S CASTING: tries, casts -/
theorem MR.fr {R : Nat → Prop} {m : Nat} {sg pl : Nat → Nat} {M M' : Mm} (h : MR m sg pl M) (f : FrI R M M') (d1 : ¬ R (m + 1)) (d2 : ¬ R (m + 2)) : MR m sg pl M' := by
  obtain ⟨h1, h2, h3, h4⟩ := h
  refine ⟨?_, ?_, ?_, h4⟩
  · unfold MS at h1 ⊢
    rw [f.k, f.l, f.r]; exact h1
  · rw [f.i d1]; exact h2
  · rw [f.i d2]; exact h3
theorem MSea.fr {R : Nat → Prop} {m : Nat} {sg : Nat → Nat} {M M' : Mm} (h : MSea m sg M) (f : FrI R M M') (d1 : ¬ R (m + 1)) : MSea m sg M' := by
  obtain ⟨h1, h2, h4⟩ := h
  refine ⟨?_, ?_, h4⟩
  · unfold MS at h1 ⊢
    rw [f.k, f.l, f.r]; exact h1
  · rw [f.i d1]; exact h2
theorem MSea.s2 {m : Nat} {sg : Nat → Nat} {M : Mm} (h : MSea m sg M) : (zR M m 19 = some (m + 8) ∧ zR M m 20 = some (m + 9)) ∧ (zk M (m + 8) = 10 ∧ zk M (m + 9) = 10) ∧ zl M (m + 8) = 6 ∧ zl M (m + 9) = 6 := by
  obtain ⟨⟨-, -, -, -, -, -, -, -, a1, a2, -⟩, ⟨-, -, -, -, -, -, -, b1, b2, -⟩, -, -, -, -, -, -, -, c1, c2, -⟩ := h.1
  exact ⟨⟨a1, a2⟩, ⟨b1, b2⟩, c1, c2⟩
/-- the cells that casting writes -/
def RC (m : Nat) : Nat → Prop := fun b => b = m ∨ b = m + 8 ∨ b = m + 9
/-- what tries leaves behind it: v doublings found, f before -/
def Tr (m seat r f v : Nat) (q : Nat → Nat) (M M' : Mm) : Prop := FrI (RC m) M M' ∧ (∀ i, i ≠ 21 → zI M' m i = zI M m i) ∧ (∀ j, j < seat → zI M' (m + 9) j = zI M (m + 9) j) ∧ zI M' m 21 = nI (if v < f then v else f) ∧
  (v < f → (∀ j, j < seat → zI M' (m + 8) j = zI M (m + 9) j) ∧ ∀ i, i < r → zI M' (m + 8) (seat + i) = nI (q i)) ∧ (¬ v < f → ∀ j, zI M' (m + 8) j = zI M (m + 8) j)
section TR
variable {m : Nat} {sg : Nat → Nat}
theorem s_X8_tries {w : Nat} (hw : w < sg 3) : ∀ r M seat F dbl f e (P : Mm → Prop), MSea m sg M → seat + r = oW sg w 4 → F < 256 → dbl ≤ seat → zI M m 21 = nI f → f ≤ 7 → (∀ M', Tr m seat r f (dbl + dm sg w r F) (bq sg w r F) M M' → P M') → w_X8_tries (r + 1 + e) M m (nI w) (nI seat) (nI F) (nI dbl) P
  | 0, M, seat, F, dbl, f, e, P, h, hr, hF, hd, hf, hf7, K => by
    have b := h.sb.b
    have c := h.sb.sc hw
    rw [show 0 + 1 + e = e + 1 by omega, w_X8_tries]
    have em : dm sg w 0 F = 0 := by rw [dm]
    by_cases p : dbl < f
    · simp (disch := omega) only [wf_X8_tries, h.sh, hf, q_X8_ofWork h, l_0, l_1, l_2, l_3, l_4, l_5, l_6, l_7, l_8, l_9, l_10, l_20, l_30, l_31, l_34, l_40, l_65, l_100, l_255, l_11, l_12, l_24, l_600, l_689, l_999, l_120, l_32, nI_add, pk_mul, n_sub, n_leT, n_leF, n_ltT, n_ltF, n_eqT, n_eqF, n_cl, n_vp, fa_andq, fa_orq, fa_xorq, n_shl, n_shr, n_t1, n_t0, n_div, n_m1, not_true_eq_false, Bool.false_eq_true, false_and, Bool.not_false, Bool.not_true, Bool.and_true, Bool.and_false, Bool.false_and, Bool.true_and, true_and, and_true, true_or, or_true, not_false_eq_true, Option.some.injEq, exists_eq_left', forall_eq, ↓reduceIte, Nat.add_zero, Nat.zero_add, and_self]
      refine lpI (fun n (z : Mm × Int32) => l_X8_tries_29 (w_X8_tries e) P (fun M15 => P M15) n z.1 m (nI seat) z.2) (fun k z => (FrI (fun b => b = m + 8) (sI M m 21 (nI dbl)) z.1 ∧ (∀ j, j < k → zI z.1 (m + 8) j = zI M (m + 9) j)) ∧ z.2 = nI k) seat ?_ ?_ (sI M m 21 (nI dbl), nI 0) ⟨⟨FrI.rf, fun j hj => absurd hj (Nat.not_lt_zero j)⟩, rfl⟩
      · rintro n ⟨M1, a1⟩ ⟨⟨g1, g2⟩, e1⟩
        dsimp only at g1 g2 e1 ⊢
        subst e1
        simp (disch := omega) only [l_X8_tries_29, l_0, l_1, l_2, l_3, l_4, l_5, l_6, l_7, l_8, l_9, l_10, l_20, l_30, l_31, l_34, l_40, l_65, l_100, l_255, l_11, l_12, l_24, l_600, l_689, l_999, l_120, l_32, nI_add, pk_mul, n_sub, n_leT, n_leF, n_ltT, n_ltF, n_eqT, n_eqF, n_cl, n_vp, fa_andq, fa_orq, fa_xorq, n_shl, n_shr, n_t1, n_t0, n_div, n_m1, not_true_eq_false, Bool.false_eq_true, false_and, Bool.not_false, Bool.not_true, Bool.and_true, Bool.and_false, Bool.false_and, Bool.true_and, true_and, and_true, true_or, or_true, not_false_eq_true, Option.some.injEq, exists_eq_left', forall_eq, ↓reduceIte, Nat.add_zero, Nat.zero_add, and_self]
        have g3 : FrI (RC m) M (sI M m 21 (nI dbl)) := FrI.sI (Or.inl rfl)
        refine K M1 ⟨g3.trans (g1.mono fun b hb => Or.inr (Or.inl hb)), fun i hi => ?_, fun j hj => ?_, ?_, fun _ => ⟨g2, fun i hi => absurd hi (Nat.not_lt_zero i)⟩, fun q => absurd (by rw [em]; omega) q⟩
        · rw [g1.i (by omega)]; exact zI_sI2 _ _ _ _ hi
        · rw [g1.i (by omega)]; exact if_neg (fun q => by omega)
        · rw [g1.i (by omega), em, Nat.add_zero, if_pos p]; exact zI_sI1 _ _ _ _
      · rintro n k ⟨M1, a1⟩ hk ⟨⟨g1, g2⟩, e1⟩ L
        dsimp only at g1 g2 e1 L ⊢
        subst e1
        have g3 : FrI (RC m) M (sI M m 21 (nI dbl)) := FrI.sI (Or.inl rfl)
        have h1 := h.fr (g3.trans (g1.mono fun b hb => Or.inr (Or.inl hb))) (by unfold RC; omega)
        have t1 : zI M1 (m + 9) k = zI M (m + 9) k := by
          rw [g1.i (by omega)]; exact if_neg (fun q => by omega)
        simp (disch := omega) only [l_X8_tries_29, h1.sh, h1.s2, l_0, l_1, l_2, l_3, l_4, l_5, l_6, l_7, l_8, l_9, l_10, l_20, l_30, l_31, l_34, l_40, l_65, l_100, l_255, l_11, l_12, l_24, l_600, l_689, l_999, l_120, l_32, nI_add, pk_mul, n_sub, n_leT, n_leF, n_ltT, n_ltF, n_eqT, n_eqF, n_cl, n_vp, fa_andq, fa_orq, fa_xorq, n_shl, n_shr, n_t1, n_t0, n_div, n_m1, not_true_eq_false, Bool.false_eq_true, false_and, Bool.not_false, Bool.not_true, Bool.and_true, Bool.and_false, Bool.false_and, Bool.true_and, true_and, and_true, true_or, or_true, not_false_eq_true, Option.some.injEq, exists_eq_left', forall_eq, ↓reduceIte, Nat.add_zero, Nat.zero_add, and_self]
        refine L (_, _) ⟨⟨g1.trans (FrI.sI rfl), fun j hj => ?_⟩, rfl⟩
        by_cases e : j = k
        · subst e; exact (zI_sI1 _ _ _ _).trans t1
        · exact (zI_sI2 _ _ _ _ e).trans (g2 j (by omega))
    · simp (disch := omega) only [wf_X8_tries, h.sh, hf, l_0, l_1, l_2, l_3, l_4, l_5, l_6, l_7, l_8, l_9, l_10, l_20, l_30, l_31, l_34, l_40, l_65, l_100, l_255, l_11, l_12, l_24, l_600, l_689, l_999, l_120, l_32, nI_add, pk_mul, n_sub, n_leT, n_leF, n_ltT, n_ltF, n_eqT, n_eqF, n_cl, n_vp, fa_andq, fa_orq, fa_xorq, n_shl, n_shr, n_t1, n_t0, n_div, n_m1, not_true_eq_false, Bool.false_eq_true, false_and, Bool.not_false, Bool.not_true, Bool.and_true, Bool.and_false, Bool.false_and, Bool.true_and, true_and, and_true, true_or, or_true, not_false_eq_true, Option.some.injEq, exists_eq_left', forall_eq, ↓reduceIte, Nat.add_zero, Nat.zero_add, and_self]
      refine K M ⟨FrI.rf, fun i _ => rfl, fun j _ => rfl, ?_, fun q => absurd q (by rw [em]; omega), fun _ j => rfl⟩
      rw [em, Nat.add_zero, if_neg p]; exact hf
  | r + 1, M, seat, F, dbl, f, e, P, h, hr, hF, hd, hf, hf7, K => by
    have b := h.sb.b
    have c := h.sb.sc hw
    rw [show r + 1 + 1 + e = (r + 1 + e) + 1 by omega, w_X8_tries]
    by_cases p : dbl < f
    · have st := h.sb.st hw (j := seat) (by omega)
      have kk := kr_at sg w (j := seat) (by omega)
      rw [show oW sg w 4 - seat - 1 = r by omega] at kk
      simp (disch := omega) only [wf_X8_tries, h.sh, hf, q_X8_ofWork h, l_0, l_1, l_2, l_3, l_4, l_5, l_6, l_7, l_8, l_9, l_10, l_20, l_30, l_31, l_34, l_40, l_65, l_100, l_255, l_11, l_12, l_24, l_600, l_689, l_999, l_120, l_32, nI_add, pk_mul, n_sub, n_leT, n_leF, n_ltT, n_ltF, n_eqT, n_eqF, n_cl, n_vp, fa_andq, fa_orq, fa_xorq, n_shl, n_shr, n_t1, n_t0, n_div, n_m1, not_true_eq_false, Bool.false_eq_true, false_and, Bool.not_false, Bool.not_true, Bool.and_true, Bool.and_false, Bool.false_and, Bool.true_and, true_and, and_true, true_or, or_true, not_false_eq_true, Option.some.injEq, exists_eq_left', forall_eq, ↓reduceIte, Nat.add_zero, Nat.zero_add, and_self]
      refine lpI (fun n (z : Mm × Int32) => l_X8_tries_69 (w_X8_tries (r + 1 + e)) P (fun M10 => P M10) n z.1 m (nI w) (nI seat) (nI F) (nI dbl) (nI (oW sg w (5 + seat))) z.2)
        (fun k z => (FrI (RC m) M z.1 ∧ (∀ i, i ≠ 21 → zI z.1 m i = zI M m i) ∧ (∀ j, j < seat → zI z.1 (m + 9) j = zI M (m + 9) j) ∧ zI z.1 m 21 = nI (if dbl + dk sg w r F k < f then dbl + dk sg w r F k else f) ∧
          (dbl + dk sg w r F k < f → (∀ j, j < seat → zI z.1 (m + 8) j = zI M (m + 9) j) ∧ zI z.1 (m + 8) seat = nI (ak sg w r F k) ∧ ∀ i, i < r → zI z.1 (m + 8) (seat + 1 + i) = nI (bq sg w r (rm F (2 ^ ak sg w r F k)) i)) ∧ (¬ dbl + dk sg w r F k < f → ∀ j, zI z.1 (m + 8) j = zI M (m + 8) j)) ∧ z.2 = nI k) (sg 2) ?_ ?_ (M, nI 0) ⟨⟨FrI.rf, fun i _ => rfl, fun j _ => rfl, ?_, fun q => ?_, fun _ j => rfl⟩, rfl⟩
      · rintro n ⟨M1, a1⟩ ⟨⟨g1, g2, g3, g4, g5, g6⟩, e1⟩
        dsimp only at g1 g2 g3 g4 g5 g6 e1 ⊢
        subst e1
        have h1 := h.fr g1 (by unfold RC; omega)
        simp (disch := omega) only [l_X8_tries_69, h1.sh, h1.v1, l_0, l_1, l_2, l_3, l_4, l_5, l_6, l_7, l_8, l_9, l_10, l_20, l_30, l_31, l_34, l_40, l_65, l_100, l_255, l_11, l_12, l_24, l_600, l_689, l_999, l_120, l_32, nI_add, pk_mul, n_sub, n_leT, n_leF, n_ltT, n_ltF, n_eqT, n_eqF, n_cl, n_vp, fa_andq, fa_orq, fa_xorq, n_shl, n_shr, n_t1, n_t0, n_div, n_m1, not_true_eq_false, Bool.false_eq_true, false_and, Bool.not_false, Bool.not_true, Bool.and_true, Bool.and_false, Bool.false_and, Bool.true_and, true_and, and_true, true_or, or_true, not_false_eq_true, Option.some.injEq, exists_eq_left', forall_eq, ↓reduceIte, Nat.add_zero, Nat.zero_add, and_self]
        rw [← dm_s] at g4 g5 g6
        refine K M1 ⟨g1, g2, g3, g4, fun q => ⟨(g5 q).1, fun i hi => ?_⟩, g6⟩
        cases i with
        | zero => exact (g5 q).2.1
        | succ i =>
          rw [bq_s, show seat + (i + 1) = seat + 1 + i by omega]
          exact (g5 q).2.2 i (by omega)
      · rintro n k ⟨M1, a1⟩ hk ⟨⟨g1, g2, g3, g4, g5, g6⟩, e1⟩ L
        dsimp only at g1 g2 g3 g4 g5 g6 e1 L ⊢
        subst e1
        have h1 := h.fr g1 (by unfold RC; omega)
        have kl := kinds_lt h.sb hk
        have same : ¬ ((F.testBit k = true ∧ (kinds sg k).testBit (kr sg w r) = true) ∧ co sg w r F k < dk sg w r F k) → l_X8_tries_69 (w_X8_tries (r + 1 + e)) P (fun M10 => P M10) n M1 m (nI w) (nI seat) (nI F) (nI dbl) (nI (oW sg w (5 + seat))) (nI (k + 1)) := fun q => by
          obtain ⟨o1, o2⟩ := ak_old q
          refine L (_, _) ⟨⟨g1, g2, g3, ?_, fun z => ?_, fun z => ?_⟩, rfl⟩
          · rw [o1]; exact g4
          · rw [o1] at z
            rw [o2 (by omega)]; exact g5 z
          · rw [o1] at z; exact g6 z
        by_cases c1 : F.testBit k = true
        · by_cases c2 : (kinds sg k).testBit (oW sg w (5 + seat)) = true
          · have k3 := h.sb.p k 3
            have call : ∀ d, d = dbo sg k (oW sg w (5 + seat)) → w_X8_tries (r + 1 + e) (sI M1 (m + 9) seat (nI k)) m (nI w) (nI (seat + 1)) (nI (rm F (2 ^ k))) (nI (dbl + d)) (fun M9 => l_X8_tries_69 (w_X8_tries (r + 1 + e)) P (fun M10 => P M10) n M9 m (nI w) (nI seat) (nI F) (nI dbl) (nI (oW sg w (5 + seat))) (nI (k + 1))) := fun d hd2 => by
              have db := dbo_le sg k (oW sg w (5 + seat))
              have s1 : FrI (RC m) M1 (sI M1 (m + 9) seat (nI k)) := FrI.sI (Or.inr (Or.inr rfl))
              have h2 := h1.fr s1 (by unfold RC; omega)
              have ce : co sg w r F k = d + dm sg w r (rm F (2 ^ k)) := by unfold co; rw [kk, hd2]
              have s21 : zI (sI M1 (m + 9) seat (nI k)) m 21 = nI (if dbl + dk sg w r F k < f then dbl + dk sg w r F k else f) := by
                rw [← g4]; exact if_neg (fun q => by omega)
              refine s_X8_tries hw r _ (seat + 1) (rm F (2 ^ k)) (dbl + d) (if dbl + dk sg w r F k < f then dbl + dk sg w r F k else f) e _ h2 (by omega) (rm_lt hF) (by omega) s21 (by split <;> omega) fun M2 t => ?_
              obtain ⟨t1, t2, t3, t4, t5, t6⟩ := t
              have u9 : ∀ j, j < seat → zI M2 (m + 9) j = zI M (m + 9) j := fun j hj => by
                rw [t3 j (by omega), ← g3 j hj]; exact zI_sI2 _ _ _ _ (by omega)
              have ui : ∀ i, i ≠ 21 → zI M2 m i = zI M m i := fun i hi => by
                rw [t2 i hi, ← g2 i hi]; exact if_neg (fun q => by omega)
              have u8 : ∀ j, zI (sI M1 (m + 9) seat (nI k)) (m + 8) j = zI M1 (m + 8) j := fun j => if_neg (fun q => by omega)
              by_cases z : (F.testBit k = true ∧ (kinds sg k).testBit (kr sg w r) = true) ∧ co sg w r F k < dk sg w r F k
              · obtain ⟨n1, n2⟩ := ak_new z.1 z.2
                refine L (M2, _) ⟨⟨(g1.trans s1).trans t1, ui, u9, ?_, fun y => ?_, fun y => ?_⟩, rfl⟩
                · rw [t4, n1]
                  by_cases y : dbl + co sg w r F k < f
                  · rw [if_pos y, if_pos (by split <;> omega)]; rw [ce]; congr 1; omega
                  · rw [if_neg y, if_neg (by split <;> omega), if_neg (by omega)]
                · rw [n1] at y
                  rw [n2]
                  have v := t5 (by split <;> omega)
                  refine ⟨fun j hj => ?_, ?_, fun i hi => v.2 i hi⟩
                  · rw [v.1 j (by omega), ← g3 j hj]; exact zI_sI2 _ _ _ _ (by omega)
                  · rw [v.1 seat (by omega)]; exact zI_sI1 _ _ _ _
                · intro j
                  rw [n1] at y
                  rw [t6 (by rw [if_neg (by omega)]; omega) j, u8 j]
                  exact g6 (by omega) j
              · obtain ⟨o1, o2⟩ := ak_old z
                have z2 : ¬ co sg w r F k < dk sg w r F k := fun q => z ⟨⟨c1, by rw [kk]; exact c2⟩, q⟩
                have nv : ¬ dbl + d + dm sg w r (rm F (2 ^ k)) < (if dbl + dk sg w r F k < f then dbl + dk sg w r F k else f) := by split <;> omega
                refine L (M2, _) ⟨⟨(g1.trans s1).trans t1, ui, u9, ?_, fun y => ?_, fun y => ?_⟩, rfl⟩
                · rw [t4, o1, if_neg nv]
                · rw [o1] at y
                  rw [o2 (by omega)]
                  have v := g5 y
                  have w8 : ∀ j, zI M2 (m + 8) j = zI M1 (m + 8) j := fun j => (t6 nv j).trans (u8 j)
                  exact ⟨fun j hj => (w8 j).trans (v.1 j hj), (w8 _).trans v.2.1, fun i hi => (w8 _).trans (v.2.2 i hi)⟩
                · intro j
                  rw [o1] at y
                  rw [t6 nv j, u8 j]
                  exact g6 y j
            by_cases c3 : oP sg k 3 = oW sg w (5 + seat)
            · have d0 : dbo sg k (oW sg w (5 + seat)) = 0 := if_pos c3
              simp (disch := omega) only [l_X8_tries_69, h1.sh, h1.s2, h1.v1, q_X8_plays h1, c1, c2, bI_t, q_X8_ofPlayer (h1.fr (R := RC m) (FrI.sI (Or.inr (Or.inr rfl))) (by unfold RC; omega)), zk_sI, c3, rm_f, l_0, l_1, l_2, l_3, l_4, l_5, l_6, l_7, l_8, l_9, l_10, l_20, l_30, l_31, l_34, l_40, l_65, l_100, l_255, l_11, l_12, l_24, l_600, l_689, l_999, l_120, l_32, nI_add, pk_mul, n_sub, n_leT, n_leF, n_ltT, n_ltF, n_eqT, n_eqF, n_cl, n_vp, fa_andq, fa_orq, fa_xorq, n_shl, n_shr, n_t1, n_t0, n_div, n_m1, not_true_eq_false, Bool.false_eq_true, false_and, Bool.not_false, Bool.not_true, Bool.and_true, Bool.and_false, Bool.false_and, Bool.true_and, true_and, and_true, true_or, or_true, not_false_eq_true, Option.some.injEq, exists_eq_left', forall_eq, ↓reduceIte, Nat.add_zero, Nat.zero_add, and_self]
              exact call 0 d0.symm
            · have d0 : dbo sg k (oW sg w (5 + seat)) = 1 := if_neg c3
              simp (disch := omega) only [l_X8_tries_69, h1.sh, h1.s2, h1.v1, q_X8_plays h1, c1, c2, bI_t, q_X8_ofPlayer (h1.fr (R := RC m) (FrI.sI (Or.inr (Or.inr rfl))) (by unfold RC; omega)), zk_sI, c3, rm_f, l_0, l_1, l_2, l_3, l_4, l_5, l_6, l_7, l_8, l_9, l_10, l_20, l_30, l_31, l_34, l_40, l_65, l_100, l_255, l_11, l_12, l_24, l_600, l_689, l_999, l_120, l_32, nI_add, pk_mul, n_sub, n_leT, n_leF, n_ltT, n_ltF, n_eqT, n_eqF, n_cl, n_vp, fa_andq, fa_orq, fa_xorq, n_shl, n_shr, n_t1, n_t0, n_div, n_m1, not_true_eq_false, Bool.false_eq_true, false_and, Bool.not_false, Bool.not_true, Bool.and_true, Bool.and_false, Bool.false_and, Bool.true_and, true_and, and_true, true_or, or_true, not_false_eq_true, Option.some.injEq, exists_eq_left', forall_eq, ↓reduceIte, Nat.add_zero, Nat.zero_add, and_self]
              exact call 1 d0.symm
          · simp (disch := omega) only [l_X8_tries_69, h1.sh, h1.v1, q_X8_plays h1, c1, b_no c2, bI_f, l_0, l_1, l_2, l_3, l_4, l_5, l_6, l_7, l_8, l_9, l_10, l_20, l_30, l_31, l_34, l_40, l_65, l_100, l_255, l_11, l_12, l_24, l_600, l_689, l_999, l_120, l_32, nI_add, pk_mul, n_sub, n_leT, n_leF, n_ltT, n_ltF, n_eqT, n_eqF, n_cl, n_vp, fa_andq, fa_orq, fa_xorq, n_shl, n_shr, n_t1, n_t0, n_div, n_m1, not_true_eq_false, Bool.false_eq_true, false_and, Bool.not_false, Bool.not_true, Bool.and_true, Bool.and_false, Bool.false_and, Bool.true_and, true_and, and_true, true_or, or_true, not_false_eq_true, Option.some.injEq, exists_eq_left', forall_eq, ↓reduceIte, Nat.add_zero, Nat.zero_add, and_self]
            exact same fun q => c2 (by rw [← kk]; exact q.1.2)
        · simp (disch := omega) only [l_X8_tries_69, h1.sh, h1.v1, c1, l_0, l_1, l_2, l_3, l_4, l_5, l_6, l_7, l_8, l_9, l_10, l_20, l_30, l_31, l_34, l_40, l_65, l_100, l_255, l_11, l_12, l_24, l_600, l_689, l_999, l_120, l_32, nI_add, pk_mul, n_sub, n_leT, n_leF, n_ltT, n_ltF, n_eqT, n_eqF, n_cl, n_vp, fa_andq, fa_orq, fa_xorq, n_shl, n_shr, n_t1, n_t0, n_div, n_m1, not_true_eq_false, Bool.false_eq_true, false_and, Bool.not_false, Bool.not_true, Bool.and_true, Bool.and_false, Bool.false_and, Bool.true_and, true_and, and_true, true_or, or_true, not_false_eq_true, Option.some.injEq, exists_eq_left', forall_eq, ↓reduceIte, Nat.add_zero, Nat.zero_add, and_self]
          exact same fun q => c1 q.1.1
      · rw [dk_0, if_neg (by omega)]; exact hf
      · rw [dk_0] at q; omega
    · simp (disch := omega) only [wf_X8_tries, h.sh, hf, l_0, l_1, l_2, l_3, l_4, l_5, l_6, l_7, l_8, l_9, l_10, l_20, l_30, l_31, l_34, l_40, l_65, l_100, l_255, l_11, l_12, l_24, l_600, l_689, l_999, l_120, l_32, nI_add, pk_mul, n_sub, n_leT, n_leF, n_ltT, n_ltF, n_eqT, n_eqF, n_cl, n_vp, fa_andq, fa_orq, fa_xorq, n_shl, n_shr, n_t1, n_t0, n_div, n_m1, not_true_eq_false, Bool.false_eq_true, false_and, Bool.not_false, Bool.not_true, Bool.and_true, Bool.and_false, Bool.false_and, Bool.true_and, true_and, and_true, true_or, or_true, not_false_eq_true, Option.some.injEq, exists_eq_left', forall_eq, ↓reduceIte, Nat.add_zero, Nat.zero_add, and_self]
      refine K M ⟨FrI.rf, fun i _ => rfl, fun j _ => rfl, ?_, fun q => by omega, fun _ j => rfl⟩
      rw [if_neg (by omega)]; exact hf
theorem s_X8_casts {M : Mm} (h : MSea m sg M) {w F : Nat} (hw : w < sg 3) (hF : F < 256) (P : Int32 → Mm → Prop)
    (K : ∀ M', FrI (RC m) M M' → (∀ i, i ≠ 21 → zI M' m i = zI M m i) → (dm sg w (oW sg w 4) F < 100 → zI M' m 21 = nI (dm sg w (oW sg w 4) F) ∧ ∀ j, j < oW sg w 4 → zI M' (m + 8) j = nI (bq sg w (oW sg w 4) F j)) → P (bI (decide (dm sg w (oW sg w 4) F < 100))) M') : w_X8_casts M m (nI w) (nI F) P := by
  have b := h.sb.b
  have c := h.sb.sc hw
  have s0 : FrI (RC m) M (sI M m 21 (nI 7)) := FrI.sI (Or.inl rfl)
  have h1 := h.fr s0 (by unfold RC; omega)
  have l := dm_01 sg w (oW sg w 4) F (by omega)
  simp (disch := omega) only [w_X8_casts, w_X8_triesC, h.sh, zk_sI, l_0, l_1, l_2, l_3, l_4, l_5, l_6, l_7, l_8, l_9, l_10, l_20, l_30, l_31, l_34, l_40, l_65, l_100, l_255, l_11, l_12, l_24, l_600, l_689, l_999, l_120, l_32, nI_add, pk_mul, n_sub, n_leT, n_leF, n_ltT, n_ltF, n_eqT, n_eqF, n_cl, n_vp, fa_andq, fa_orq, fa_xorq, n_shl, n_shr, n_t1, n_t0, n_div, n_m1, not_true_eq_false, Bool.false_eq_true, false_and, Bool.not_false, Bool.not_true, Bool.and_true, Bool.and_false, Bool.false_and, Bool.true_and, true_and, and_true, true_or, or_true, not_false_eq_true, Option.some.injEq, exists_eq_left', forall_eq, ↓reduceIte, Nat.add_zero, Nat.zero_add, and_self]
  have t := s_X8_tries (m := m) hw (oW sg w 4) (sI M m 21 (nI 7)) 0 F 0 7 (7 - oW sg w 4)
  rw [show oW sg w 4 + 1 + (7 - oW sg w 4) = 8 by omega] at t
  refine t _ h1 (by omega) hF (by omega) (zI_sI1 _ _ _ _) (by omega) fun M2 k => ?_
  obtain ⟨k1, k2, k3, k4, k5, k6⟩ := k
  rw [Nat.zero_add] at k4 k5 k6
  have f := s0.trans k1
  have h2 := h.fr f (by unfold RC; omega)
  have ui : ∀ i, i ≠ 21 → zI M2 m i = zI M m i := fun i hi => (k2 i hi).trans (zI_sI2 _ _ _ _ hi)
  by_cases q : dm sg w (oW sg w 4) F < 100
  · have q2 : dm sg w (oW sg w 4) F < 7 := by omega
    have k := K M2 f ui fun _ => ⟨by rw [k4, if_pos q2], fun j hj => by
      have := (k5 q2).2 j hj
      rw [Nat.zero_add] at this; exact this⟩
    rw [decide_eq_true q] at k
    rw [if_pos q2] at k4
    simp (disch := omega) only [h2.sh, k4, l_0, l_1, l_2, l_3, l_4, l_5, l_6, l_7, l_8, l_9, l_10, l_20, l_30, l_31, l_34, l_40, l_65, l_100, l_255, l_11, l_12, l_24, l_600, l_689, l_999, l_120, l_32, nI_add, pk_mul, n_sub, n_leT, n_leF, n_ltT, n_ltF, n_eqT, n_eqF, n_cl, n_vp, fa_andq, fa_orq, fa_xorq, n_shl, n_shr, n_t1, n_t0, n_div, n_m1, not_true_eq_false, Bool.false_eq_true, false_and, Bool.not_false, Bool.not_true, Bool.and_true, Bool.and_false, Bool.false_and, Bool.true_and, true_and, and_true, true_or, or_true, not_false_eq_true, Option.some.injEq, exists_eq_left', forall_eq, ↓reduceIte, Nat.add_zero, Nat.zero_add, and_self]
    exact k
  · have k := K M2 f ui fun z => absurd z q
    rw [decide_eq_false q] at k
    rw [if_neg (by omega)] at k4
    simp (disch := omega) only [h2.sh, k4, l_0, l_1, l_2, l_3, l_4, l_5, l_6, l_7, l_8, l_9, l_10, l_20, l_30, l_31, l_34, l_40, l_65, l_100, l_255, l_11, l_12, l_24, l_600, l_689, l_999, l_120, l_32, nI_add, pk_mul, n_sub, n_leT, n_leF, n_ltT, n_ltF, n_eqT, n_eqF, n_cl, n_vp, fa_andq, fa_orq, fa_xorq, n_shl, n_shr, n_t1, n_t0, n_div, n_m1, not_true_eq_false, Bool.false_eq_true, false_and, Bool.not_false, Bool.not_true, Bool.and_true, Bool.and_false, Bool.false_and, Bool.true_and, true_and, and_true, true_or, or_true, not_false_eq_true, Option.some.injEq, exists_eq_left', forall_eq, ↓reduceIte, Nat.add_zero, Nat.zero_add, and_self]
    exact k
end TR
