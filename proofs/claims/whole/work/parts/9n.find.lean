/-! find of the model; find on both sides -/
theorem MI.tx {m : Nat} {sg pl : Nat → Nat} {hn : Nat} {hl : Nat → Nat → Nat} {sv : Nat → Bool} {sl : Nat → Nat → Nat} {bl : Nat} {bf : Nat → Int32} {ep : Nat} {nm : Nat → List Nat} {M : Mm} (h : MI m (sg, pl, hn, hl, sv, sl, bl, bf, ep, nm) M) : zI M m 5 = nI bl ∧ zI M m 13 = nI ep ∧ ∀ i, i < bl → zI M (m + 4) i = bf i := h.2.2.2.2.1
theorem fr_s1 {m i : Nat} {M : Mm} {v : Int32} : FrI (fun b => b = m) M (sI M m i v) := FrI.sI rfl
theorem s_X8_findWord {m : Nat} {sg pl : Nat → Nat} {hn : Nat} {hl : Nat → Nat → Nat} {sv : Nat → Bool} {sl : Nat → Nat → Nat} {bl : Nat} {bf : Nat → Int32} {ep : Nat} {nm : Nat → List Nat} {M : Mm} (ok : OKs (sg, pl, hn, hl, sv, sl, bl, bf, ep, nm)) (h : MI m (sg, pl, hn, hl, sv, sl, bl, bf, ep, nm) M) (t0 : zI M m 0 = nI 0) {c : Nat} (hc : c < 4) (P : Int32 → Mm → Prop)
    (K : ∀ M' v, MI m (sg, pl, hn, hl, sv, sl, 0, bf, ep, nm) M' → FrJ m (fun b => b = m) M M' → zI M' m 0 = nI 0 → (∀ k, WW bl bf k → v = fst (fun j => decide (nm (8 * c + j) = wd bf 0 k)) (sg (1 + c))) → ((∀ k, ¬ WW bl bf k) → v = nI 4294967295) → P v M') :
    ∀ M4 M5 M6 M7, M4 = sI M m 6 (nI bl) → M5 = sI M4 m 5 (nI 0) → M6 = sI M5 m 7 (nI 0) → M7 = sI M6 m 8 (nI 0) → w_X8_takesLetters M7 m (fun M8 => zk M8 m = 8 ∧ (∃ n61, l_X8_find_61 P (fun M11 x0_11 x1_11 x2_11 => (if x2_11 = nI 0 then P (nI 4294967295) M11 else (if nI 8 < x2_11 then P (nI 4294967295) M11 else zk M11 x0_11 = 8 ∧ zk M11 x0_11 = 8 ∧ (if (zI M11 x0_11 6) ≤ (zI M11 x0_11 8) then (zk M11 x0_11 = 8 ∧ ∃ a12, zR M11 x0_11 3 = some a12 ∧ (zk M11 x0_11 = 8 ∧ ∃ a13, zR M11 x0_11 1 = some a13 ∧ zk M11 a13 = 10 ∧ vp_in (nI 1 + x1_11) (zl M11 a13) ∧ zk M11 x0_11 = 8 ∧ w_X8_named M11 a12 x1_11 (zI M11 a13 (nI 1 + x1_11).toNatClampNeg) (zJ M11 x0_11 11) (fun r14 M14 => P r14 M14))) else P (nI 4294967295) M11)))) n61 M8 m (nI c) (zI M8 m 8))) := by
  intro M4 M5 M6 M7 e4 e5 e6 e7
  subst e4; subst e5; subst e6; subst e7
  have ok2 := ok
  obtain ⟨hs, hp, h10, hhl, hsl, hbl, hby, hep, nm1, nm2, nm3, nm4⟩ := ok
  have nk := nameOK4 nm1 nm2 nm3 nm4 hc
  have hb2 : bl ≤ 600 := by assumption
  have hs2 : SB sg := by assumption
  have hby2 : ∀ i, i < bl → (bf i).toInt8.toInt32 = bf i := by assumption
  have t := h.tx
  have tx := h.text
  have k8 := h.k8
  have F0 : FrI (fun b => b = m) M (sI (sI (sI (sI M m 6 (nI bl)) m 5 (nI 0)) m 7 (nI 0)) m 8 (nI 0)) := (((fr_s1.trans fr_s1)).trans fr_s1).trans fr_s1
  obtain ⟨Mz, hMz⟩ : ∃ Mz, sI (sI (sI (sI M m 6 (nI bl)) m 5 (nI 0)) m 7 (nI 0)) m 8 (nI 0) = Mz := ⟨_, rfl⟩
  rw [hMz] at F0 ⊢
  have g : ∀ j, j ≠ 5 → j ≠ 6 → j ≠ 7 → j ≠ 8 → zI Mz m j = zI M m j := fun j a b c d => by
    rw [← hMz, zI_sI2 _ _ _ _ d, zI_sI2 _ _ _ _ c, zI_sI2 _ _ _ _ a, zI_sI2 _ _ _ _ b]
  have g8 : zI Mz m 8 = nI 0 := by rw [← hMz]; exact zI_sI1 _ _ _ _
  have g7 : zI Mz m 7 = nI 0 := by rw [← hMz, zI_sI2 _ _ _ _ (by omega)]; exact zI_sI1 _ _ _ _
  have g5 : zI Mz m 5 = nI 0 := by rw [← hMz, zI_sI2 _ _ _ _ (by omega), zI_sI2 _ _ _ _ (by omega)]; exact zI_sI1 _ _ _ _
  have g6 : zI Mz m 6 = nI bl := by rw [← hMz, zI_sI2 _ _ _ _ (by omega), zI_sI2 _ _ _ _ (by omega), zI_sI2 _ _ _ _ (by omega)]; exact zI_sI1 _ _ _ _
  have T : TX m bl bf Mz := ⟨by rw [F0.k]; exact k8, by rw [F0.r]; exact tx.1, by rw [F0.k]; exact tx.2.1, by rw [F0.l]; exact tx.2.2, g6, hb2, fun i hi => ⟨by rw [F0.i (by omega)]; exact t.2.2 i hi, hby2 i hi⟩⟩
  refine s_X8_takesLetters T (Nat.zero_le _) g7 g8 _ fun M1 f1 q1 q8 qj => ?_
  rw [Nat.zero_add] at q8
  have T1 := T.fr f1 (q1 6 (by omega))
  have r := rn_le bl bf 0 (Nat.zero_le _)
  rw [Nat.zero_add] at r
  refine ⟨T1.1, ?_⟩
  rw [q8]
  refine s_find_spaces T1 r q8 P _ fun M2 f2 p2 p8 => ?_
  have T2 := T1.fr f2.toJ (p2 6 (by omega))
  have s_ := sps_le bl bf (rn bl bf 0) r
  have F : FrJ m (fun b => b = m) M M2 := (F0.toJ.trans f1).trans f2.toJ
  have J : zI M2 m 0 = nI 0 := by rw [p2 0 (by omega), q1 0 (by omega), g 0 (by omega) (by omega) (by omega) (by omega)]; exact t0
  have I2 : MI m (sg, pl, hn, hl, sv, sl, 0, bf, ep, nm) M2 := by
    refine MI.ofJ (M := M) ?_ F.2.2.2.2.2
    refine h.bu (F.toI.mono fun b hb => Or.inl hb) (fun j hj => ?_) ⟨?_, fun i hi => absurd hi (Nat.not_lt_zero i)⟩
    · show zI M2 m j = zI M m j
      rw [p2 j (by omega), q1 j (by omega), g j (by omega) (by omega) (by omega) (by omega)]
    · show zI M2 m 5 = nI 0
      rw [p2 5 (by omega), q1 5 (by omega), g5]
  have no : ¬ WW bl bf (rn bl bf 0) → ∀ k, ¬ WW bl bf k := by
    intro n k w
    have e : k = rn bl bf 0 := by
      rcases Nat.lt_trichotomy k (rn bl bf 0) with d | d | d
      · have a := (rn_in bl bf 0 d).2
        rw [Nat.zero_add] at a
        exact (lt32 a (w.2.2.2.2 k (Nat.le_refl k) (by omega))).elim
      · exact d
      · have a := rn_no bl bf 0
        rw [Nat.zero_add, bt_lt (by have := w.2.2.1; omega), w.2.2.2.1 _ d] at a
        cases a
    rw [e] at w
    exact n w
  by_cases c0 : rn bl bf 0 = 0
  · simp only [c0, if_true]
    exact K _ _ I2 F J (fun k w => absurd w (no (fun w => by have := w.1; omega) k)) fun _ => rfl
  · by_cases c9 : 8 < rn bl bf 0
    · simp (disch := omega) only [n_eqF, n_ltT, not_true_eq_false, Bool.false_eq_true, false_and, Bool.not_false, Bool.not_true, Bool.and_true, Bool.and_false, Bool.false_and, Bool.true_and, true_and, and_true, true_or, or_true, not_false_eq_true, Option.some.injEq, exists_eq_left', forall_eq, ↓reduceIte, Nat.add_zero, Nat.zero_add, and_self]
      exact K _ _ I2 F J (fun k w => absurd w (no (fun w => by have := w.2.1; omega) k)) fun _ => rfl
    · have p6 : zI M2 m 6 = nI bl := T2.2.2.2.2.1
      by_cases cL : bl ≤ rn bl bf 0 + sps bl bf (rn bl bf 0)
      · have w : WW bl bf (rn bl bf 0) := ⟨by omega, by omega, r, fun i hi => by
          have a := (rn_in bl bf 0 hi).2
          rw [Nat.zero_add] at a; exact a, fun i a b => by
          obtain ⟨d, rfl⟩ : ∃ d, i = rn bl bf 0 + d := ⟨i - rn bl bf 0, by omega⟩
          exact (sps_in bl bf (rn bl bf 0) (by omega)).2⟩
        have j11 : zJ M2 m 11 = c8 (wd bf 0 (rn bl bf 0)) := by rw [f2.j]; exact qj (by omega)
        have mq := I2.1
        have ms := mq.1
        have sc : zI M2 (m + 1) (1 + c) = nI (sg (1 + c)) := mq.2.1 (1 + c) (by omega)
        have sb : sg (1 + c) ≤ 8 := by
          have b := hs2.1
          rcases (show c = 0 ∨ c = 1 ∨ c = 2 ∨ c = 3 by omega) with rfl | rfl | rfl | rfl
          · exact Nat.le_trans b.2.2.1 (by omega)
          · exact b.2.2.2.1
          · exact Nat.le_trans b.2.2.2.2.1 (by omega)
          · exact b.2.2.2.2.2
        simp (disch := omega) only [p6, p8, n_eqF, n_ltF, n_leT, nI_add, ms.1, ms.2.1, ms.2.2, n_vp, n_cl, sc, j11, not_true_eq_false, Bool.false_eq_true, false_and, Bool.not_false, Bool.not_true, Bool.and_true, Bool.and_false, Bool.false_and, Bool.true_and, true_and, and_true, true_or, or_true, not_false_eq_true, Option.some.injEq, exists_eq_left', forall_eq, ↓reduceIte, Nat.add_zero, Nat.zero_add, and_self]
        rw [e_X8_named ms.2.1.2.2.1 (show zl M2 (m + 3) = 32 from ms.2.2.2.2.1) (by omega) (by omega)]
        have mk := mnm4 I2.2.2.2.2.2 hc
        refine K _ _ I2 F J (fun k w2 => ?_) fun n => absurd w (n _)
        have e : k = rn bl bf 0 := by
          rcases Nat.lt_trichotomy k (rn bl bf 0) with d | d | d
          · exact (lt32 (w.2.2.2.1 k d) (w2.2.2.2.2 k (Nat.le_refl k) (by omega))).elim
          · exact d
          · exact (lt32 (w2.2.2.2.1 _ d) (w.2.2.2.2 _ (Nat.le_refl _) (by have := w2.2.2.1; omega))).elim
        subst e
        exact fst_congr fun j hj => decide_eq_decide.mpr (by rw [mk j hj, c8_eq (nk j hj) w.ok])
      · simp (disch := omega) only [p6, p8, n_eqF, n_ltF, n_leF, T2.1, not_true_eq_false, Bool.false_eq_true, false_and, Bool.not_false, Bool.not_true, Bool.and_true, Bool.and_false, Bool.false_and, Bool.true_and, true_and, and_true, true_or, or_true, not_false_eq_true, Option.some.injEq, exists_eq_left', forall_eq, ↓reduceIte, Nat.add_zero, Nat.zero_add, and_self]
        refine K _ _ I2 F J (fun k w => absurd w (no (fun w => ?_) k)) fun _ => rfl
        have a := sps_no bl bf (rn bl bf 0)
        rw [bt_lt (by omega)] at a
        exact a (w.2.2.2.2 _ (by omega) (by omega))
