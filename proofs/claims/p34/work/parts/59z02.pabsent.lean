/-! PARSE: the line of an absence, both sides -/
def absentL (L : Nat) (bf : Nat → Int32) : PS → Sum (Nat × Nat) PS
  | (p, sg, nm, ct, dt) => if tK L bf (tN L bf p) = 1 then
      (if nin (fun k => nm (8 + k)) (sg 2) (tW L bf (tN L bf p)) < sg 2 then
        (if nerr L bf (tN L bf (tN L bf p)) 0 (sg 0 - 1) = 0 then
          (if (oP sg (nin (fun k => nm (8 + k)) (sg 2) (tW L bf (tN L bf p))) 1).testBit (tV L bf (tN L bf (tN L bf p))) = true then Sum.inl (2, tS L bf (tN L bf (tN L bf p)))
           else Sum.inr (tN L bf (tN L bf (tN L bf p)), ups sg (9 + 7 * nin (fun k => nm (8 + k)) (sg 2) (tW L bf (tN L bf p)) + 1) (oP sg (nin (fun k => nm (8 + k)) (sg 2) (tW L bf (tN L bf p))) 1 ||| 2 ^ tV L bf (tN L bf (tN L bf p))), nm, ct, dt))
         else Sum.inl (nerr L bf (tN L bf (tN L bf p)) 0 (sg 0 - 1), tS L bf (tN L bf (tN L bf p))))
       else Sum.inl (4, tS L bf (tN L bf p)))
    else Sum.inl (1, tS L bf (tN L bf p))
theorem fst_lt {q : Nat → Bool} {n : Nat} (h : fi q n < n) : fst q n = nI (fi q n) := by
  unfold fst; rw [if_pos h]
section PA
variable {x y z sp L p : Nat} {bf : Nat → Int32} {sg ct : Nat → Nat} {nm : Nat → List Nat} {dt : Bool} {M : Mm}
theorem s_X3_readAbsence (h : CPS x y z sp L bf (p, sg, nm, ct, dt) M) (ok : PSok (p, sg, nm, ct, dt) L) (P : Int32 → Mm → Prop)
    (K1 : ∀ s2, absentL L bf (p, sg, nm, ct, dt) = Sum.inr s2 → ∀ M', FQ (RPa y z sp) M M' → CPS x y z sp L bf s2 M' → P (nI 1) M')
    (K0 : ∀ c q, absentL L bf (p, sg, nm, ct, dt) = Sum.inl (c, q) → ∀ M', FQ (RPa y z sp) M M' → CFl z c q M' → P (nI 0) M') : w_X3_readAbsence M z P := by
  obtain ⟨hc, t, z2, z3, hS, hNm, hct, hdt, hf1, hf2⟩ := h
  obtain ⟨hp, sb, hct2, n1, n2, n3, n4, g1, g2⟩ := ok
  have b := sb.1
  have s1 := hS.1.1
  have sh := hS.1
  obtain ⟨-, ⟨-, -, a3, a4, -, -, -, -, -, b2, -, -⟩, ⟨-, -, -, -, -, m10, -⟩, -, -, l5, -, -, -, -, l10, -⟩ := sh
  have nn := hS.n
  have d := hc.2.2.2
  have hp1 := tN_le L bf hp
  have hp2 := tN_le L bf hp1
  have hz := hc.2.1
  have hN : NMS (sp + 4) (sp + 5) 8 (sg 2) (fun k => nm (8 + k)) M := ⟨a3, a4, b2, l5, by omega, nn.2.2.2.1, by omega, by omega, fun k hk => ⟨hNm.2.1 k hk, n2 k hk⟩⟩
  simp only [w_X3_readAbsence, hz, hc.1.1, not_true_eq_false, Bool.false_eq_true, false_and, Bool.not_false, Bool.not_true, Bool.and_true, Bool.and_false, Bool.false_and, Bool.true_and, true_and, and_true, true_or, or_true, not_false_eq_true, Option.some.injEq, exists_eq_left', forall_eq, ↓reduceIte, Nat.add_zero, Nat.zero_add, and_self]
  refine s_P_advance hc hp t _ fun M1 f1 h1 t1 => ?_
  have F1 : FQ (RPa y z sp) M M1 := fq_J f1 (Or.inl rfl)
  have hN1 := hN.fr (fq_J (R := fun q => q = y) f1 rfl) (by omega) (by omega)
  have hz1 := h1.2.1
  have r1 := h1.1
  have s11 := h1.2.2.1.1
  have t13 := t1.2.1
  have kb := tK_b (L := L) (bf := bf) (p := tN L bf p)
  by_cases c1 : tK L bf (tN L bf p) = 1
  · have t13b : zI M1 y 3 = nI 1 := by rw [t13, c1]
    have j5 := t1.2.2.2.1 c1
    have okw := tK_1 (fun i hi => (r1.2.2.2.2.2.2.2 i hi).2) c1
    have ka1 := hN1.1
    simp (disch := omega) only [hz1, r1.1, t13b, s11, j5, ka1, s_X2_find hN1 okw, l_1, l_0, l_2, n_m1, n_eqT, fst_m1 (show sg 2 < 1000 by omega), not_true_eq_false, Bool.false_eq_true, false_and, Bool.not_false, Bool.not_true, Bool.and_true, Bool.and_false, Bool.false_and, Bool.true_and, true_and, and_true, true_or, or_true, not_false_eq_true, Option.some.injEq, exists_eq_left', forall_eq, ↓reduceIte, Nat.add_zero, Nat.zero_add, and_self]
    by_cases c2 : nin (fun k => nm (8 + k)) (sg 2) (tW L bf (tN L bf p)) < sg 2
    · have c2' : ¬ ¬ fi (fun k => decide (nm (8 + k) = tW L bf (tN L bf p))) (sg 2) < sg 2 := fun q => q c2
      rw [if_neg c2', fst_lt (show fi (fun k => decide (nm (8 + k) = tW L bf (tN L bf p))) (sg 2) < sg 2 from c2)]
      obtain ⟨k, hk⟩ : ∃ k, nin (fun k => nm (8 + k)) (sg 2) (tW L bf (tN L bf p)) = k := ⟨_, rfl⟩
      have hk2 : fi (fun k => decide (nm (8 + k) = tW L bf (tN L bf p))) (sg 2) = k := hk
      rw [hk2]
      have ks : k < sg 2 := by rw [← hk]; exact c2
      refine s_P_advance h1 hp1 t1 _ fun M2 f2 h2 t2 => ?_
      have F2 : FQ (fun q => q = y) M M2 := (fq_J (R := fun q => q = y) f1 rfl).trans (fq_J f2 rfl)
      have F2a : FQ (RPa y z sp) M M2 := F1.trans (fq_J f2 (Or.inl rfl))
      have hz2 := h2.2.1
      have s12 := h2.2.2.1.1
      have v0 : zI M2 sp 0 = nI (sg 0) := by rw [F2.i (by omega)]; exact nn.1
      simp (disch := omega) only [hz2, s12, v0, n_sub, not_true_eq_false, Bool.false_eq_true, false_and, Bool.not_false, Bool.not_true, Bool.and_true, Bool.and_false, Bool.false_and, Bool.true_and, true_and, and_true, true_or, or_true, not_false_eq_true, Option.some.injEq, exists_eq_left', forall_eq, ↓reduceIte, Nat.add_zero, Nat.zero_add, and_self]
      refine s_X3_isNumber h2 t2 (by omega) (by omega) _ (fun e2 i6 => ?_) (fun e2 M3 f3 k3 => ?_)
      · have ne := nerr0 e2
        have va : zI M2 (sp + 10) k = nI (oP sg k 1) := by rw [F2.i (by omega)]; exact (hS.p ks).2.2.2
        have ab : oP sg k 1 < 2 ^ 30 := sb.2.1 _
        have km : zk M2 (sp + 10) = 10 := by rw [F2.k]; exact m10
        have lm : zl M2 (sp + 10) = 8 := by rw [F2.l]; exact l10
        simp (disch := omega) only [hz2, s12, h2.1.1, km, lm, n_eqF, n_vp, n_cl, va, i6, w_X7_has, l_31, l_1, l_0, fa_andq, n_shr, n_t0, not_true_eq_false, Bool.false_eq_true, false_and, Bool.not_false, Bool.not_true, Bool.and_true, Bool.and_false, Bool.false_and, Bool.true_and, true_and, and_true, true_or, or_true, not_false_eq_true, Option.some.injEq, exists_eq_left', forall_eq, ↓reduceIte, Nat.add_zero, Nat.zero_add, and_self]
        by_cases c3 : (oP sg k 1).testBit (tV L bf (tN L bf (tN L bf p))) = true
        · have F := s_X3_fail (c := 2) h2 t2 (fun r3 M3 => (r3 = nI 0 ∨ r3 = nI 1) ∧ P r3 M3) fun M3 f3 g3 e3 => ⟨Or.inl rfl, K0 2 _ (by simp only [absentL, c1, hk, ks, e2, c3, if_true]) M3 (F2a.trans f3) e3⟩
          rw [if_neg (fun q => q c3)]
          exact F
        · rw [if_pos c3]
          refine s_X3_takeNumber h2 hp2 t2 i6 _ fun M3 f3 h3 t3 => ?_
          have F3 : FQ (fun q => q = y) M M3 := F2.trans (fq_J f3 rfl)
          have km3 : zk M3 (sp + 10) = 10 := by rw [F3.k]; exact m10
          have lm3 : zl M3 (sp + 10) = 8 := by rw [F3.l]; exact l10
          simp (disch := omega) only [km3, lm3, n_vp, n_cl, fa_andq, n_shl, fa_orq, not_true_eq_false, Bool.false_eq_true, false_and, Bool.not_false, Bool.not_true, Bool.and_true, Bool.and_false, Bool.false_and, Bool.true_and, true_and, and_true, true_or, or_true, not_false_eq_true, Option.some.injEq, exists_eq_left', forall_eq, ↓reduceIte, Nat.add_zero, Nat.zero_add, and_self]
          have i1 : zI (sI M3 (sp + 10) k (nI (oP sg k 1 ||| 2 ^ tV L bf (tN L bf (tN L bf p))))) (sp + 10) k = nI (oP sg k 1 ||| 2 ^ tV L bf (tN L bf (tN L bf p))) := zI_sI1 _ _ _ _
          have i2 : ∀ j, j ≠ k → zI (sI M3 (sp + 10) k (nI (oP sg k 1 ||| 2 ^ tV L bf (tN L bf (tN L bf p))))) (sp + 10) j = zI M (sp + 10) j := fun j hj => by
            rw [zI_sI2 _ _ _ _ hj, F3.i (by omega)]
          have iy : zI (sI M3 (sp + 10) k (nI (oP sg k 1 ||| 2 ^ tV L bf (tN L bf (tN L bf p))))) y = zI M3 y := zI_sIo _ _ _ _ (by omega)
          have f4 : FQ (fun q => q = sp + 10) M3 (sI M3 (sp + 10) k (nI (oP sg k 1 ||| 2 ^ tV L bf (tN L bf (tN L bf p))))) := fq_sI rfl
          have F4 : FQ (fun q => q = y ∨ q = sp + 10) M (sI M3 (sp + 10) k (nI (oP sg k 1 ||| 2 ^ tV L bf (tN L bf (tN L bf p))))) := FQ.trans (M1 := M3) ⟨F3.1, F3.2.1, F3.2.2.1, F3.2.2.2.1, fun q hq => F3.i (by omega), fun q hq => F3.j (by omega)⟩ (fq_sI (Or.inr rfl))
          have zj : zJ (sI M3 (sp + 10) k (nI (oP sg k 1 ||| 2 ^ tV L bf (tN L bf (tN L bf p))))) = zJ M3 := rfl
          obtain ⟨M4, e4⟩ : ∃ M4, sI M3 (sp + 10) k (nI (oP sg k 1 ||| 2 ^ tV L bf (tN L bf (tN L bf p)))) = M4 := ⟨_, rfl⟩
          rw [e4] at i1 i2 iy F4 f4 zj ⊢
          have G : ∀ q, q ≠ y → q ≠ sp + 10 → zI M4 q = zI M q ∧ zJ M4 q = zJ M q := fun q a b => ⟨F4.i (by omega), F4.j (by omega)⟩
          have o_ : ∀ j, j ≠ 9 + 7 * k + 1 → ups sg (9 + 7 * k + 1) (oP sg k 1 ||| 2 ^ tV L bf (tN L bf (tN L bf p))) j = sg j := fun j hj => if_neg hj
          have oPe : ∀ pp f, f ≠ 1 → pp < 8 → f < 7 → oP (ups sg (9 + 7 * k + 1) (oP sg k 1 ||| 2 ^ tV L bf (tN L bf (tN L bf p)))) pp f = oP sg pp f := fun pp f h1 h2 h3 => o_ _ (by omega)
          have oWe : ∀ w f, oW (ups sg (9 + 7 * k + 1) (oP sg k 1 ||| 2 ^ tV L bf (tN L bf (tN L bf p)))) w f = oW sg w f := fun w f => o_ _ (by omega)
          have kE : ∀ pp, pp < sg 2 → kinds (ups sg (9 + 7 * k + 1) (oP sg k 1 ||| 2 ^ tV L bf (tN L bf (tN L bf p)))) pp = kinds sg pp := fun pp hpp => by
            have l4 := (sb.2.2.2 pp hpp).2.1
            unfold kinds
            rw [oPe pp 2 (by omega) (by omega) (by omega)]
            exact fo_ext (N := oP sg pp 2) (fun j a hj => by rw [oPe pp (3 + j) (by omega) (by omega) (by omega)]) 0 _ (Nat.le_refl _)
          have h4 : PCx x y z sp L bf M4 := h3.fr ⟨f4.1, f4.2.1, f4.2.2.1, f4.2.2.2.1, fun q hq => f4.i (by unfold RPa at hq; omega), fun q hq => f4.j (by unfold RPa at hq; omega)⟩ (by rw [iy])
          have sea : CSea sp (ups sg (9 + 7 * k + 1) (oP sg k 1 ||| 2 ^ tV L bf (tN L bf (tN L bf p)))) M4 := by
            refine ⟨h4.2.2.1, ?_, ?_, ?_, ?_, ?_⟩
            · rw [o_ 0 (by omega), o_ 5 (by omega), o_ 1 (by omega), o_ 2 (by omega), o_ 3 (by omega), o_ 4 (by omega), (G sp (by omega) (by omega)).1, (G (sp + 1) (by omega) (by omega)).1, (G (sp + 4) (by omega) (by omega)).1, (G (sp + 13) (by omega) (by omega)).1, (G (sp + 11) (by omega) (by omega)).1]
              exact nn
            · intro j hj
              rw [o_ 1 (by omega)] at hj
              rw [o_ _ (by omega), (G (sp + 3) (by omega) (by omega)).1]; exact hS.h j hj
            · intro j hj
              rw [o_ 2 (by omega)] at hj
              have q := hS.p hj
              rw [oPe j 0 (by omega) (by omega) (by omega), oPe j 3 (by omega) (by omega) (by omega), kE j hj, (G (sp + 7) (by omega) (by omega)).1, (G (sp + 8) (by omega) (by omega)).1, (G (sp + 9) (by omega) (by omega)).1]
              refine ⟨q.1, q.2.1, q.2.2.1, ?_⟩
              by_cases e : j = k
              · subst e
                rw [i1]
                show nI _ = nI ((ups sg (9 + 7 * j + 1) (oP sg j 1 ||| 2 ^ tV L bf (tN L bf (tN L bf p)))) (9 + 7 * j + 1))
                rw [ups_1]
              · rw [i2 j e]
                have e6 : oP (ups sg (9 + 7 * k + 1) (oP sg k 1 ||| 2 ^ tV L bf (tN L bf (tN L bf p)))) j 1 = oP sg j 1 := o_ _ (by omega)
                rw [e6]; exact q.2.2.2
            · intro w hw
              rw [o_ 3 (by omega)] at hw
              rw [oWe, oWe, oWe, oWe, oWe, (G (sp + 15) (by omega) (by omega)).1, (G (sp + 16) (by omega) (by omega)).1, (G (sp + 17) (by omega) (by omega)).1, (G (sp + 18) (by omega) (by omega)).1, (G (sp + 19) (by omega) (by omega)).1]
              exact hS.w hw
            · intro w hw j hj
              rw [o_ 3 (by omega)] at hw
              rw [oWe] at hj ⊢
              rw [(G (sp + 20) (by omega) (by omega)).1]
              exact hS.st hw hj
          have names : CNm sp (ups sg (9 + 7 * k + 1) (oP sg k 1 ||| 2 ^ tV L bf (tN L bf (tN L bf p)))) nm M4 := by
            unfold CNm
            rw [o_ 1 (by omega), o_ 2 (by omega), o_ 3 (by omega), o_ 4 (by omega), (G (sp + 2) (by omega) (by omega)).2, (G (sp + 5) (by omega) (by omega)).2, (G (sp + 14) (by omega) (by omega)).2, (G (sp + 12) (by omega) (by omega)).2]
            exact hNm
          have eL : absentL L bf (p, sg, nm, ct, dt) = Sum.inr (tN L bf (tN L bf (tN L bf p)), ups sg (9 + 7 * k + 1) (oP sg k 1 ||| 2 ^ tV L bf (tN L bf (tN L bf p))), nm, ct, dt) := by
            simp only [absentL, c1, hk, ks, e2, c3, Bool.false_eq_true, if_true, if_false]
          refine K1 _ eL M4 ⟨F4.1, F4.2.1, F4.2.2.1, F4.2.2.2.1, fun q hq => F4.i (by unfold RPa at hq; omega), fun q hq => F4.j (by unfold RPa at hq; omega)⟩ ⟨h4, ?_, ?_, ?_, sea, names, ?_, ?_, ?_, ?_⟩
          · unfold RT at t3 ⊢
            rw [iy, zj]; exact t3
          · rw [(G z (by omega) (by omega)).1]; exact z2
          · rw [(G z (by omega) (by omega)).1]; exact z3
          · intro j hj
            rw [o_ 2 (by omega)] at hj
            rw [(G (sp + 6) (by omega) (by omega)).1]; exact hct j hj
          · rw [(G sp (by omega) (by omega)).1]; exact hdt
          · intro j hj k8
            rw [o_ 2 (by omega)] at hj
            rw [(G (sp + 9) (by omega) (by omega)).1, i2 j (by omega)]; exact hf1 j hj k8
          · intro w hw w5
            rw [o_ 3 (by omega)] at hw
            rw [(G (sp + 19) (by omega) (by omega)).1]; exact hf2 w hw w5
      · simp (disch := omega) only [n_eqT, not_true_eq_false, Bool.false_eq_true, false_and, Bool.not_false, Bool.not_true, Bool.and_true, Bool.and_false, Bool.false_and, Bool.true_and, true_and, and_true, true_or, or_true, not_false_eq_true, Option.some.injEq, exists_eq_left', forall_eq, ↓reduceIte, Nat.add_zero, Nat.zero_add, and_self]
        exact K0 _ _ (by simp only [absentL, c1, hk, ks, e2, if_true, if_false]) M3 (F2a.trans f3) k3
    · rw [if_pos (show ¬ fi (fun k => decide (nm (8 + k) = tW L bf (tN L bf p))) (sg 2) < sg 2 from c2)]
      refine s_X3_fail (c := 4) h1 t1 _ fun M2 f2 g2 e2 => ⟨Or.inl rfl, K0 4 _ (by simp only [absentL, c1, c2, if_true, if_false]) M2 (F1.trans f2) e2⟩
  · have F := s_X3_fail (c := 1) h1 t1 (fun r3 M3 => (r3 = nI 0 ∨ r3 = nI 1) ∧ P r3 M3) fun M2 f2 g2 e2 => ⟨Or.inl rfl, K0 1 _ (by simp only [absentL, c1, if_false]) M2 (F1.trans f2) e2⟩
    simp (disch := omega) only [hz1, r1.1, t13, l_1, l_0, n_eqF, not_true_eq_false, Bool.false_eq_true, false_and, Bool.not_false, Bool.not_true, Bool.and_true, Bool.and_false, Bool.false_and, Bool.true_and, true_and, and_true, true_or, or_true, not_false_eq_true, Option.some.injEq, exists_eq_left', forall_eq, ↓reduceIte, Nat.add_zero, Nat.zero_add, and_self]
    exact F
end PA
