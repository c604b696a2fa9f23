/-! PARSE: the line of the double fee, both sides -/
def doubleL (L : Nat) (bf : Nat → Int32) : PS → Sum (Nat × Nat) PS
  | (p, sg, nm, ct, dt) => if dt = true then Sum.inl (2, tS L bf p) else if nerr L bf (tN L bf p) 0 999 = 0 then Sum.inr (tN L bf (tN L bf p), ups sg 5 (tV L bf (tN L bf p)), nm, ct, true)
      else Sum.inl (nerr L bf (tN L bf p) 0 999, tS L bf (tN L bf p))
theorem ups_1 (sg : Nat → Nat) (i v : Nat) : ups sg i v i = v := if_pos rfl
theorem ups_o (sg : Nat → Nat) (i v : Nat) {k : Nat} (h : k ≠ i) : ups sg i v k = sg k := if_neg h
section PD
variable {x y z sp L p : Nat} {bf : Nat → Int32} {sg ct : Nat → Nat} {nm : Nat → List Nat} {dt : Bool} {M : Mm}
theorem s_X3_readDouble (h : CPS x y z sp L bf (p, sg, nm, ct, dt) M) (ok : PSok (p, sg, nm, ct, dt) L) (P : Int32 → Mm → Prop)
    (K1 : ∀ s2, doubleL L bf (p, sg, nm, ct, dt) = Sum.inr s2 → ∀ M', FQ (RPa y z sp) M M' → CPS x y z sp L bf s2 M' → P (nI 1) M')
    (K0 : ∀ c q, doubleL L bf (p, sg, nm, ct, dt) = Sum.inl (c, q) → ∀ M', FQ (RPa y z sp) M M' → CFl z c q M' → P (nI 0) M') : w_X3_readDouble M z P := by
  obtain ⟨hc, t, z2, z3, hS, hNm, hct, hdt, hf1, hf2⟩ := h
  obtain ⟨hp, sb, hct2, n1, n2, n3, n4, g1, g2⟩ := ok
  have s1 := hS.1.1
  have nn := hS.n
  have d := hc.2.2.2
  have hp1 := tN_le L bf hp
  have hz := hc.2.1
  have dz : z ≠ sp ∧ z ≠ y ∧ y ≠ sp := by omega
  by_cases c0 : dt = true
  · subst c0
    have F := s_X3_fail (c := 2) hc t (fun r3 M3 => (r3 = nI 0 ∨ r3 = nI 1) ∧ P r3 M3) fun M1 f1 g1 e1 => ⟨Or.inl rfl, K0 2 _ (by simp only [doubleL, if_true]) M1 f1 e1⟩
    rw [bI_t] at hdt
    simp (disch := omega) only [w_X3_readDouble, hz, s1, hdt, l_0, l_1, l_2, n_eqF, not_true_eq_false, Bool.false_eq_true, false_and, Bool.not_false, Bool.not_true, Bool.and_true, Bool.and_false, Bool.false_and, Bool.true_and, true_and, and_true, true_or, or_true, not_false_eq_true, Option.some.injEq, exists_eq_left', forall_eq, ↓reduceIte, Nat.add_zero, Nat.zero_add, and_self]
    exact F
  · have c1 := b_no c0
    subst c1
    rw [bI_f] at hdt
    have F1 : FQ (fun q => q = sp) M (sI M sp 2 (nI 1)) := fq_sI rfl
    have h1 : PCx x y z sp L bf (sI M sp 2 (nI 1)) := hc.fr (fq_sI (Or.inr (Or.inr (by omega)))) (by rw [zI_sIo _ _ _ _ dz.2.2])
    have t1 : RT y L bf p (sI M sp 2 (nI 1)) := by
      unfold RT at t ⊢
      rw [zI_sIo _ _ _ _ dz.2.2]; exact t
    simp (disch := omega) only [w_X3_readDouble, hz, s1, hdt, l_0, l_1, l_999, n_eqT, zk_sI, zR_sI, hc.1.1, not_true_eq_false, Bool.false_eq_true, false_and, Bool.not_false, Bool.not_true, Bool.and_true, Bool.and_false, Bool.false_and, Bool.true_and, true_and, and_true, true_or, or_true, not_false_eq_true, Option.some.injEq, exists_eq_left', forall_eq, ↓reduceIte, Nat.add_zero, Nat.zero_add, and_self]
    refine s_P_advance h1 hp t1 _ fun M2 f2 h2 t2 => ?_
    have hz2 := h2.2.1
    have F2 : FQ (fun q => q = sp ∨ q = y) M M2 := (fq_sI (Or.inl rfl)).trans (fq_J f2 (Or.inr rfl))
    have F2a : FQ (RPa y z sp) M M2 := (fq_sI (Or.inr (Or.inr (by omega)))).trans (fq_J f2 (Or.inl rfl))
    simp only [hz2, not_true_eq_false, Bool.false_eq_true, false_and, Bool.not_false, Bool.not_true, Bool.and_true, Bool.and_false, Bool.false_and, Bool.true_and, true_and, and_true, true_or, or_true, not_false_eq_true, Option.some.injEq, exists_eq_left', forall_eq, ↓reduceIte, Nat.add_zero, Nat.zero_add, and_self]
    refine s_X3_isNumber h2 t2 (by omega) (by omega) _ (fun e2 i6 => ?_) (fun e2 M3 f3 k3 => ?_)
    · simp (disch := omega) only [hz2, n_eqF, not_true_eq_false, Bool.false_eq_true, false_and, Bool.not_false, Bool.not_true, Bool.and_true, Bool.and_false, Bool.false_and, Bool.true_and, true_and, and_true, true_or, or_true, not_false_eq_true, Option.some.injEq, exists_eq_left', forall_eq, ↓reduceIte, Nat.add_zero, Nat.zero_add, and_self]
      refine s_X3_takeNumber h2 hp1 t2 i6 _ fun M3 f3 h3 t3 => ?_
      have F3 : FQ (fun q => q = sp ∨ q = y) M M3 := F2.trans (fq_J f3 (Or.inr rfl))
      have k6 : zk M3 sp = 6 := by rw [F3.k]; exact s1.1
      simp (disch := omega) only [k6, not_true_eq_false, Bool.false_eq_true, false_and, Bool.not_false, Bool.not_true, Bool.and_true, Bool.and_false, Bool.false_and, Bool.true_and, true_and, and_true, true_or, or_true, not_false_eq_true, Option.some.injEq, exists_eq_left', forall_eq, ↓reduceIte, Nat.add_zero, Nat.zero_add, and_self]
      have isp : ∀ j, j ≠ 1 → j ≠ 2 → zI (sI M3 sp 1 (nI (tV L bf (tN L bf p)))) sp j = zI M sp j := fun j a b => by
        rw [zI_sI2 _ _ _ _ a, f3.2.2.2.2.1 sp (by omega), f2.2.2.2.2.1 sp (by omega), zI_sI2 _ _ _ _ b]
      have i2 : zI (sI M3 sp 1 (nI (tV L bf (tN L bf p)))) sp 2 = nI 1 := by
        rw [zI_sI2 _ _ _ _ (by omega), f3.2.2.2.2.1 sp (by omega), f2.2.2.2.2.1 sp (by omega)]; exact zI_sI1 _ _ _ _
      have i1 : zI (sI M3 sp 1 (nI (tV L bf (tN L bf p)))) sp 1 = nI (tV L bf (tN L bf p)) := zI_sI1 _ _ _ _
      have iy : zI (sI M3 sp 1 (nI (tV L bf (tN L bf p)))) y = zI M3 y := zI_sIo _ _ _ _ dz.2.2
      have F4 : FQ (fun q => q = sp ∨ q = y) M (sI M3 sp 1 (nI (tV L bf (tN L bf p)))) := F3.trans (fq_sI (Or.inl rfl))
      have f4 : FQ (fun q => q = sp) M3 (sI M3 sp 1 (nI (tV L bf (tN L bf p)))) := fq_sI rfl
      have zj : zJ (sI M3 sp 1 (nI (tV L bf (tN L bf p)))) = zJ M3 := rfl
      obtain ⟨M4, e4⟩ : ∃ M4, sI M3 sp 1 (nI (tV L bf (tN L bf p))) = M4 := ⟨_, rfl⟩
      rw [e4] at isp i1 i2 iy F4 f4 zj ⊢
      have G : ∀ q, q ≠ sp → q ≠ y → zI M4 q = zI M q ∧ zJ M4 q = zJ M q := fun q a b => ⟨F4.i (by omega), F4.j (by omega)⟩
      have o_ : ∀ k, k ≠ 5 → ups sg 5 (tV L bf (tN L bf p)) k = sg k := fun k hk => if_neg hk
      have oPe : ∀ pp f, oP (ups sg 5 (tV L bf (tN L bf p))) pp f = oP sg pp f := fun pp f => o_ _ (by omega)
      have oWe : ∀ w f, oW (ups sg 5 (tV L bf (tN L bf p))) w f = oW sg w f := fun w f => o_ _ (by omega)
      have h4 : PCx x y z sp L bf M4 := h3.fr ⟨f4.1, f4.2.1, f4.2.2.1, f4.2.2.2.1, fun q hq => f4.i (by unfold RPa at hq; omega), fun q hq => f4.j (by unfold RPa at hq; omega)⟩ (by rw [iy])
      have sea : CSea sp (ups sg 5 (tV L bf (tN L bf p))) M4 := by
        refine ⟨h4.2.2.1, ?_, ?_, ?_, ?_, ?_⟩
        · rw [o_ 0 (by omega), o_ 1 (by omega), o_ 2 (by omega), o_ 3 (by omega), o_ 4 (by omega), ups_1, isp 0 (by omega) (by omega), i1, (G (sp + 1) (by omega) (by omega)).1, (G (sp + 4) (by omega) (by omega)).1, (G (sp + 13) (by omega) (by omega)).1, (G (sp + 11) (by omega) (by omega)).1]
          exact ⟨nn.1, rfl, nn.2.2.1, nn.2.2.2.1, nn.2.2.2.2.1, nn.2.2.2.2.2⟩
        · intro k hk
          rw [o_ 1 (by omega)] at hk
          have := sb.1
          rw [o_ _ (by omega), (G (sp + 3) (by omega) (by omega)).1]; exact hS.h k hk
        · intro k hk
          rw [o_ 2 (by omega)] at hk
          rw [oPe, oPe, oPe, kinds_e (oPe k), (G (sp + 7) (by omega) (by omega)).1, (G (sp + 8) (by omega) (by omega)).1, (G (sp + 9) (by omega) (by omega)).1, (G (sp + 10) (by omega) (by omega)).1]
          exact hS.p hk
        · intro w hw
          rw [o_ 3 (by omega)] at hw
          rw [oWe, oWe, oWe, oWe, oWe, (G (sp + 15) (by omega) (by omega)).1, (G (sp + 16) (by omega) (by omega)).1, (G (sp + 17) (by omega) (by omega)).1, (G (sp + 18) (by omega) (by omega)).1, (G (sp + 19) (by omega) (by omega)).1]
          exact hS.w hw
        · intro w hw j hj
          rw [o_ 3 (by omega)] at hw
          rw [oWe] at hj ⊢
          rw [(G (sp + 20) (by omega) (by omega)).1]
          exact hS.st hw hj
      have names : CNm sp (ups sg 5 (tV L bf (tN L bf p))) nm M4 := by
        unfold CNm
        rw [o_ 1 (by omega), o_ 2 (by omega), o_ 3 (by omega), o_ 4 (by omega), (G (sp + 2) (by omega) (by omega)).2, (G (sp + 5) (by omega) (by omega)).2, (G (sp + 14) (by omega) (by omega)).2, (G (sp + 12) (by omega) (by omega)).2]
        exact hNm
      refine K1 (tN L bf (tN L bf p), ups sg 5 (tV L bf (tN L bf p)), nm, ct, true) (by simp only [doubleL, e2, Bool.false_eq_true, if_true, if_false]) M4 ⟨F4.1, F4.2.1, F4.2.2.1, F4.2.2.2.1, fun q hq => F4.i (by unfold RPa at hq; omega), fun q hq => F4.j (by unfold RPa at hq; omega)⟩ ⟨h4, ?_, ?_, ?_, sea, names, ?_, ?_, ?_, ?_⟩
      · unfold RT at t3 ⊢
        rw [iy, zj]; exact t3
      · rw [(G z (by omega) (by omega)).1]; exact z2
      · rw [(G z (by omega) (by omega)).1]; exact z3
      · intro k hk
        rw [o_ 2 (by omega)] at hk
        rw [(G (sp + 6) (by omega) (by omega)).1]; exact hct k hk
      · rw [i2, bI_t]
      · intro k hk k8
        rw [o_ 2 (by omega)] at hk
        rw [(G (sp + 9) (by omega) (by omega)).1, (G (sp + 10) (by omega) (by omega)).1]; exact hf1 k hk k8
      · intro w hw w5
        rw [o_ 3 (by omega)] at hw
        rw [(G (sp + 19) (by omega) (by omega)).1]; exact hf2 w hw w5
    · simp (disch := omega) only [n_eqT, not_true_eq_false, Bool.false_eq_true, false_and, Bool.not_false, Bool.not_true, Bool.and_true, Bool.and_false, Bool.false_and, Bool.true_and, true_and, and_true, true_or, or_true, not_false_eq_true, Option.some.injEq, exists_eq_left', forall_eq, ↓reduceIte, Nat.add_zero, Nat.zero_add, and_self]
      exact K0 _ _ (by simp only [doubleL, e2, Bool.false_eq_true, if_false]) M3 (F2a.trans f3) k3
end PD
section PDM
variable {m L p : Nat} {bf : Nat → Int32} {M : Mm}
end PDM
