/-! find on both sides -/
theorem FrJ.g {m lo hi : Nat} {R : Nat → Prop} {M M' : Mm} (f : FrJ m R M M') (d : ∀ b, R b → lo ≤ b ∧ b < hi) (d2 : lo ≤ m ∧ m < hi) : FrG lo hi M M' :=
  ⟨by rw [f.1]; exact Nat.le_refl _, fun b _ hn => ⟨by rw [f.2.1], by rw [f.2.2.1], f.2.2.2.2.1 b fun q => hn (d b q), f.2.2.2.2.2 b fun e => hn (by omega), by rw [f.2.2.2.1]⟩⟩
theorem call_find {x : Nat} {s : ST} (ok : OKs s) (a : Int32) : CALL1 x s clA (fun M P X => w_X7_find M x a P X) (fun M P => w_X8_find M (x + 149) a P) := by
  obtain ⟨sg, pl, hn, hl, sv, sl, bl, bf, ep, nm⟩ := s
  have ok2 := ok
  obtain ⟨hs, hp, h10, hhl, hsl, hbl, hby, hep, nm1, nm2, nm3, nm4⟩ := ok
  rcases ix a (n := 4) (by omega) with h | ⟨c, hc, rfl⟩
  · refine CALL1.no 1 (by decide) ok2 (fun M P X q w K => ?_) (fun M P q K => ?_)
    · have K0 := fun (n1 : Nat) (hn1 : zn M ≤ n1) => K (sZ M n1) q.sZ (FrG.sZ hn1)
      unfold w_X7_find
      by_cases c : a < 0
      · rw [if_pos c]
        simp only [w_X7_requireArgument, if_true]
        exact K0
      · have d : (3 : Int32) < a := by
          have d0 := h.resolve_left c
          rw [le_iff32] at d0
          rw [lt_iff32]
          have z : (nI 4).toInt = 4 := rfl
          have z2 : (3 : Int32).toInt = 3 := rfl
          omega
        rw [if_neg c, if_pos d]
        simp only [w_X7_requireArgument, if_true]
        exact K0
    · refine thr0 q fun M1 q1 f1 t1 => ?_
      have k8 := q1.k8
      have W : ∀ P : Int32 → Mm → Prop, w_X8_within M1 a (0 : Int32) (3 : Int32) P ↔ P (nI 0) M1 := fun P => by
        unfold w_X8_within
        by_cases c : a < 0
        · rw [if_pos c]
          exact ⟨fun z => z.2, fun z => ⟨Or.inl rfl, z⟩⟩
        · have d : (3 : Int32) < a := by
            have d0 := h.resolve_left c
            rw [le_iff32] at d0
            rw [lt_iff32]
            have z : (nI 4).toInt = 4 := rfl
            have z2 : (3 : Int32).toInt = 3 := rfl
            omega
          rw [if_neg c, if_pos d]
          exact ⟨fun z => z.2, fun z => ⟨Or.inl rfl, z⟩⟩
      rw [W]
      simp (disch := omega) only [k8, l_0, l_1, e_throws1 k8 t1, n_eqF, n_eqT, not_true_eq_false, Bool.false_eq_true, false_and, Bool.not_false, Bool.not_true, Bool.and_true, Bool.and_false, Bool.false_and, Bool.true_and, true_and, and_true, true_or, or_true, not_false_eq_true, Option.some.injEq, exists_eq_left', forall_eq, ↓reduceIte, Nat.add_zero, Nat.zero_add, and_self]
      exact K _ _ (q1.mf MF.th) (f1.trans MF.th).o (zI_sI1 _ _ _ _)
  · by_cases hw : ∃ k, WW bl bf k
    · obtain ⟨k, w⟩ := hw
      refine CALL1.okG (sg, pl, hn, hl, sv, sl, 0, bf, ep, nm) (fst (fun j => decide (nm (8 * c + j) = wd bf 0 k)) (sg (1 + c))) ⟨hs, hp, h10, hhl, hsl, by omega, fun i hi => absurd hi (Nat.not_lt_zero i), hep, nm1, nm2, nm3, nm4⟩ (fun M P X q o K => ?_) (fun M P q K => ?_)
      · refine s_X7_find ok2 q hc P X fun M1 v q1 f1 g1 g2 => ?_
        rw [g1 k w]
        exact K M1 q1 (f1.g fun b hb => by omega)
      · refine thr0 q fun M1 q1 f1 t1 => ?_
        have k8 := q1.k8
        have e5 : zI M1 (x + 149) 5 = nI bl := q1.tx.1
        have S := s_X8_findWord ok2 q1 t1 hc P fun M2 v q2 f2 t2 g1 g2 => by
          rw [g1 k w]
          exact K M2 q2 ((RMo.g f1.o).trans (f2.g (fun b hb => by omega) (by omega))) t2
        simp (disch := omega) only [k8, l_0, l_3, e_within, e_throws0 k8 t1, e5, zk_sI, decide_eq_true (show 0 ≤ c ∧ c ≤ 3 by omega), bI_t, l_1, n_eqF, n_eqT, not_true_eq_false, Bool.false_eq_true, false_and, Bool.not_false, Bool.not_true, Bool.and_true, Bool.and_false, Bool.false_and, Bool.true_and, true_and, and_true, true_or, or_true, not_false_eq_true, Option.some.injEq, exists_eq_left', forall_eq, ↓reduceIte, Nat.add_zero, Nat.zero_add, and_self]
        have S2 := S _ _ _ _ rfl rfl rfl rfl
        simp (disch := omega) only [l_0, l_8, l_1, n_m1]
        exact S2
    · have n : ∀ k, ¬ WW bl bf k := fun k w => hw ⟨k, w⟩
      refine CALL1.okG (sg, pl, hn, hl, sv, sl, 0, bf, ep, nm) (nI 4294967295) ⟨hs, hp, h10, hhl, hsl, by omega, fun i hi => absurd hi (Nat.not_lt_zero i), hep, nm1, nm2, nm3, nm4⟩ (fun M P X q o K => ?_) (fun M P q K => ?_)
      · refine s_X7_find ok2 q hc P X fun M1 v q1 f1 g1 g2 => ?_
        rw [g2 n]
        exact K M1 q1 (f1.g fun b hb => by omega)
      · refine thr0 q fun M1 q1 f1 t1 => ?_
        have k8 := q1.k8
        have e5 : zI M1 (x + 149) 5 = nI bl := q1.tx.1
        have S := s_X8_findWord ok2 q1 t1 hc P fun M2 v q2 f2 t2 g1 g2 => by
          rw [g2 n]
          exact K M2 q2 ((RMo.g f1.o).trans (f2.g (fun b hb => by omega) (by omega))) t2
        simp (disch := omega) only [k8, l_0, l_3, e_within, e_throws0 k8 t1, e5, zk_sI, decide_eq_true (show 0 ≤ c ∧ c ≤ 3 by omega), bI_t, l_1, n_eqF, n_eqT, not_true_eq_false, Bool.false_eq_true, false_and, Bool.not_false, Bool.not_true, Bool.and_true, Bool.and_false, Bool.false_and, Bool.true_and, true_and, and_true, true_or, or_true, not_false_eq_true, Option.some.injEq, exists_eq_left', forall_eq, ↓reduceIte, Nat.add_zero, Nat.zero_add, and_self]
        have S2 := S _ _ _ _ rfl rfl rfl rfl
        simp (disch := omega) only [l_0, l_8, l_1, n_m1]
        exact S2
