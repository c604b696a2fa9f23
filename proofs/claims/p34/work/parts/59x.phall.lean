/-! PARSE: the line of a hall -/
def ups (sg : Nat → Nat) (i v : Nat) : Nat → Nat := fun k => if k = i then v else sg k
def updN (nm : Nat → List Nat) (i : Nat) (w : List Nat) : Nat → List Nat := fun k => if k = i then w else nm k
def hallS (sg : Nat → Nat) (v : Nat) : Nat → Nat := ups (ups sg (6 + sg 1) v) 1 (sg 1 + 1)
theorem hallS_1 (sg : Nat → Nat) (v : Nat) : hallS sg v 1 = sg 1 + 1 := by
  show (if 1 = 1 then sg 1 + 1 else ups sg (6 + sg 1) v 1) = sg 1 + 1
  exact if_pos rfl
theorem hallS_h (sg : Nat → Nat) (v : Nat) : hallS sg v (6 + sg 1) = v := (if_neg (by omega)).trans (if_pos rfl)
theorem hallS_o (sg : Nat → Nat) (v : Nat) {k : Nat} (h : k ≠ 1) (h2 : k ≠ 6 + sg 1) : hallS sg v k = sg k := (if_neg h).trans (if_neg h2)
/-- what the line of a hall makes of what is read so far: a fault (code, place) or more read -/
def hallL (L : Nat) (bf : Nat → Int32) : PS → Sum (Nat × Nat) PS
  | (p, sg, nm, ct, dt) => match nmErr L bf p (sg 1) 3 nm with
    | some e => Sum.inl e
    | none => if nerr L bf (tN L bf (tN L bf p)) 0 9 = 0 then Sum.inr (tN L bf (tN L bf (tN L bf p)), hallS sg (tV L bf (tN L bf (tN L bf p))), updN nm (sg 1) (tW L bf (tN L bf p)), ct, dt)
      else Sum.inl (nerr L bf (tN L bf (tN L bf p)) 0 9, tS L bf (tN L bf (tN L bf p)))
theorem kinds_e {sg sg2 : Nat → Nat} {p : Nat} (h : ∀ f, oP sg2 p f = oP sg p f) : kinds sg2 p = kinds sg p := by
  unfold kinds
  rw [h 2]
  simp only [h]
section PH
variable {x y z sp L p : Nat} {bf : Nat → Int32} {sg ct : Nat → Nat} {nm : Nat → List Nat} {dt : Bool} {M : Mm}
theorem s_X3_readHall (h : CPS x y z sp L bf (p, sg, nm, ct, dt) M) (ok : PSok (p, sg, nm, ct, dt) L) (P : Int32 → Mm → Prop)
    (K1 : ∀ s2, hallL L bf (p, sg, nm, ct, dt) = Sum.inr s2 → ∀ M', FQ (RPa y z sp) M M' → CPS x y z sp L bf s2 M' → P (nI 1) M')
    (K0 : ∀ c q, hallL L bf (p, sg, nm, ct, dt) = Sum.inl (c, q) → ∀ M', FQ (RPa y z sp) M M' → CFl z c q M' → P (nI 0) M') : w_X3_readHall M z P := by
  obtain ⟨hc, t, z2, z3, hS, hNm, hct, hdt, hf1, hf2⟩ := h
  obtain ⟨hp, sb, hct2, n1, n2, n3, n4, g1, g2⟩ := ok
  have b := sb.1
  have hs := hS.1
  obtain ⟨s1, ⟨a1, a2, -, -, -, -, -, -, b1, -, -, -⟩, ⟨b3, -⟩, l2, l3, -⟩ := hs
  have nn := hS.n
  have hN : NMS (sp + 1) (sp + 2) 3 (sg 1) nm M := ⟨a1, a2, b1, l2, by omega, nn.2.2.1, by omega, by omega, fun k hk => ⟨hNm.1 k hk, n1 k hk⟩⟩
  have d := hc.2.2.2
  have hp1 := tN_le L bf hp
  have hp2 := tN_le L bf hp1
  have hz := hc.2.1
  have dz : z ≠ sp + 1 ∧ z ≠ sp + 2 ∧ z ≠ sp + 3 ∧ z ≠ y ∧ y ≠ sp + 1 ∧ y ≠ sp + 2 ∧ y ≠ sp + 3 := by omega
  simp only [w_X3_readHall, hz, s1, a1, not_true_eq_false, Bool.false_eq_true, false_and, Bool.not_false, Bool.not_true, Bool.and_true, Bool.and_false, Bool.false_and, Bool.true_and, true_and, and_true, true_or, or_true, not_false_eq_true, Option.some.injEq, exists_eq_left', forall_eq, ↓reduceIte, Nat.add_zero, Nat.zero_add, and_self]
  refine s_X3_readNewName hc hp t hN (by omega) (by omega) _ (fun e1 M1 f1 h1 t1 N1 ga gb => ?_) (fun c q e1 M1 f1 k1 => ?_)
  · have n3_ : sg 1 ≠ 3 := fun e => by
      unfold nmErr at e1
      rw [if_pos e] at e1
      cases e1
    have F1 : FQ (RPa y z sp) M M1 := ⟨f1.1, f1.2.1, f1.2.2.1, f1.2.2.2.1, fun q hq => f1.i (by unfold RPa at hq; omega), fun q hq => f1.j (by unfold RPa at hq; omega)⟩
    have hz1 := h1.2.1
    simp (disch := omega) only [hz1, l_0, l_9, l_1, n_eqF, not_true_eq_false, Bool.false_eq_true, false_and, Bool.not_false, Bool.not_true, Bool.and_true, Bool.and_false, Bool.false_and, Bool.true_and, true_and, and_true, true_or, or_true, not_false_eq_true, Option.some.injEq, exists_eq_left', forall_eq, ↓reduceIte, Nat.add_zero, Nat.zero_add, and_self]
    refine s_X3_isNumber h1 t1 (by omega) (by omega) _ (fun e2 i6 => ?_) (fun e2 M2 f2 k2 => ?_)
    · have s11 := h1.2.2.1
      obtain ⟨s11, -⟩ := s11
      have ne := nerr0 e2
      simp (disch := omega) only [hz1, s11, n_eqF, not_true_eq_false, Bool.false_eq_true, false_and, Bool.not_false, Bool.not_true, Bool.and_true, Bool.and_false, Bool.false_and, Bool.true_and, true_and, and_true, true_or, or_true, not_false_eq_true, Option.some.injEq, exists_eq_left', forall_eq, ↓reduceIte, Nat.add_zero, Nat.zero_add, and_self]
      refine s_X3_takeNumber h1 hp2 t1 i6 _ fun M2 f2 h2 t2 => ?_
      have F2 : FQ (fun q => q = y ∨ q = sp + 1 ∨ q = sp + 2) M M2 := f1.trans (fq_J f2 (Or.inl rfl))
      have v := tK_2 ne.1
      have k3 : zk M2 (sp + 3) = 10 := by rw [F2.k]; exact b3
      have e3 : zl M2 (sp + 3) = 3 := by rw [F2.l]; exact l3
      have n11 : zI M (sp + 1) 1 = nI (sg 1) := nn.2.2.1
      simp (disch := omega) only [k3, e3, n11, n_vp, n_cl, not_true_eq_false, Bool.false_eq_true, false_and, Bool.not_false, Bool.not_true, Bool.and_true, Bool.and_false, Bool.false_and, Bool.true_and, true_and, and_true, true_or, or_true, not_false_eq_true, Option.some.injEq, exists_eq_left', forall_eq, ↓reduceIte, Nat.add_zero, Nat.zero_add, and_self]
      have F3 : FQ (fun q => q = y ∨ q = sp + 1 ∨ q = sp + 2 ∨ q = sp + 3) M (sI M2 (sp + 3) (sg 1) (nI (tV L bf (tN L bf (tN L bf p))))) := by
        refine FQ.trans (M1 := M2) ⟨F2.1, F2.2.1, F2.2.2.1, F2.2.2.2.1, fun q hq => F2.i (by omega), fun q hq => F2.j (by omega)⟩ (fq_sI (by omega))
      have c3 : zI (sI M2 (sp + 3) (sg 1) (nI (tV L bf (tN L bf (tN L bf p))))) (sp + 3) (sg 1) = nI (tV L bf (tN L bf (tN L bf p))) := zI_sI1 _ _ _ _
      have c4 : ∀ k, k ≠ sg 1 → zI (sI M2 (sp + 3) (sg 1) (nI (tV L bf (tN L bf (tN L bf p))))) (sp + 3) k = zI M (sp + 3) k := fun k hk => by
        rw [zI_sI2 _ _ _ _ hk, F2.i (by omega)]
      have c5_ : ∀ q, q ≠ sp + 3 → zI (sI M2 (sp + 3) (sg 1) (nI (tV L bf (tN L bf (tN L bf p))))) q = zI M2 q := fun q hq => zI_sIo _ _ _ _ hq
      have f4 : FQ (fun q => q = sp + 3) M2 (sI M2 (sp + 3) (sg 1) (nI (tV L bf (tN L bf (tN L bf p))))) := fq_sI rfl
      have zj : zJ (sI M2 (sp + 3) (sg 1) (nI (tV L bf (tN L bf (tN L bf p))))) = zJ M2 := rfl
      obtain ⟨M3, e4⟩ : ∃ M3, sI M2 (sp + 3) (sg 1) (nI (tV L bf (tN L bf (tN L bf p)))) = M3 := ⟨_, rfl⟩
      rw [e4] at F3 c3 c4 c5_ f4 zj ⊢
      have N3 : NMS (sp + 1) (sp + 2) 3 (sg 1 + 1) (addN nm (sg 1) (tW L bf (tN L bf p))) M3 := (N1.fr (fq_J (R := fun q => q = y) f2 rfl) (by omega) (by omega)).fr f4 (by omega) (by omega)
      have eL : hallL L bf (p, sg, nm, ct, dt) = Sum.inr (tN L bf (tN L bf (tN L bf p)), hallS sg (tV L bf (tN L bf (tN L bf p))), updN nm (sg 1) (tW L bf (tN L bf p)), ct, dt) := by
        simp only [hallL, e1, e2, if_true]
      have G : ∀ q, q ≠ y → q ≠ sp + 1 → q ≠ sp + 2 → q ≠ sp + 3 → zI M3 q = zI M q ∧ zJ M3 q = zJ M q := fun q i1 i2 i3 i4 => ⟨F3.i (by omega), F3.j (by omega)⟩
      have oPe : ∀ pp f, oP (hallS sg (tV L bf (tN L bf (tN L bf p)))) pp f = oP sg pp f := fun pp f => hallS_o _ _ (by omega) (by omega)
      have oWe : ∀ w f, oW (hallS sg (tV L bf (tN L bf (tN L bf p)))) w f = oW sg w f := fun w f => hallS_o _ _ (by omega) (by omega)
      have o_ : ∀ k, k ≠ 1 → k < 6 → hallS sg (tV L bf (tN L bf (tN L bf p))) k = sg k := fun k i1 i2 => hallS_o _ _ i1 (by omega)
      have h3 : PCx x y z sp L bf M3 := h2.fr ⟨f4.1, f4.2.1, f4.2.2.1, f4.2.2.2.1, fun q hq => f4.i (by unfold RPa at hq; omega), fun q hq => f4.j (by unfold RPa at hq; omega)⟩ (by rw [c5_ y (by omega)])
      have sea : CSea sp (hallS sg (tV L bf (tN L bf (tN L bf p)))) M3 := by
        refine ⟨h3.2.2.1, ?_, ?_, ?_, ?_, ?_⟩
        · rw [o_ 0 (by omega) (by omega), o_ 5 (by omega) (by omega), hallS_1, o_ 2 (by omega) (by omega), o_ 3 (by omega) (by omega), o_ 4 (by omega) (by omega), (G sp (by omega) (by omega) (by omega) (by omega)).1, (G (sp + 4) (by omega) (by omega) (by omega) (by omega)).1, (G (sp + 13) (by omega) (by omega) (by omega) (by omega)).1, (G (sp + 11) (by omega) (by omega) (by omega) (by omega)).1]
          exact ⟨nn.1, nn.2.1, N3.2.2.2.2.2.1, nn.2.2.2.1, nn.2.2.2.2.1, nn.2.2.2.2.2⟩
        · intro k hk
          rw [hallS_1] at hk
          by_cases e : k = sg 1
          · subst e
            rw [hallS_h]; exact c3
          · rw [hallS_o _ _ (by omega) (by omega), c4 k e]
            exact hS.h k (by omega)
        · intro k hk
          rw [o_ 2 (by omega) (by omega)] at hk
          rw [oPe, oPe, oPe, kinds_e (oPe k), (G (sp + 7) (by omega) (by omega) (by omega) (by omega)).1, (G (sp + 8) (by omega) (by omega) (by omega) (by omega)).1, (G (sp + 9) (by omega) (by omega) (by omega) (by omega)).1, (G (sp + 10) (by omega) (by omega) (by omega) (by omega)).1]
          exact hS.p hk
        · intro w hw
          rw [o_ 3 (by omega) (by omega)] at hw
          rw [oWe, oWe, oWe, oWe, oWe, (G (sp + 15) (by omega) (by omega) (by omega) (by omega)).1, (G (sp + 16) (by omega) (by omega) (by omega) (by omega)).1, (G (sp + 17) (by omega) (by omega) (by omega) (by omega)).1, (G (sp + 18) (by omega) (by omega) (by omega) (by omega)).1, (G (sp + 19) (by omega) (by omega) (by omega) (by omega)).1]
          exact hS.w hw
        · intro w hw j hj
          rw [o_ 3 (by omega) (by omega)] at hw
          rw [oWe] at hj ⊢
          rw [(G (sp + 20) (by omega) (by omega) (by omega) (by omega)).1]
          exact hS.st hw hj
      have nmE : ∀ k, k ≠ sg 1 → updN nm (sg 1) (tW L bf (tN L bf p)) k = nm k := fun k hk => if_neg hk
      have names : CNm sp (hallS sg (tV L bf (tN L bf (tN L bf p)))) (updN nm (sg 1) (tW L bf (tN L bf p))) M3 := by
        refine ⟨fun k hk => ?_, fun k hk => ?_, fun k hk => ?_, fun k hk => ?_⟩
        · rw [hallS_1] at hk
          exact (N3.2.2.2.2.2.2.2.2 k hk).1
        · rw [o_ 2 (by omega) (by omega)] at hk
          rw [nmE _ (by omega), (G (sp + 5) (by omega) (by omega) (by omega) (by omega)).2]
          exact hNm.2.1 k hk
        · rw [o_ 3 (by omega) (by omega)] at hk
          rw [nmE _ (by omega), (G (sp + 14) (by omega) (by omega) (by omega) (by omega)).2]
          exact hNm.2.2.1 k hk
        · rw [o_ 4 (by omega) (by omega)] at hk
          rw [nmE _ (by omega), (G (sp + 12) (by omega) (by omega) (by omega) (by omega)).2]
          exact hNm.2.2.2 k hk
      refine K1 _ eL M3 ⟨F3.1, F3.2.1, F3.2.2.1, F3.2.2.2.1, fun q hq => F3.i (by unfold RPa at hq; omega), fun q hq => F3.j (by unfold RPa at hq; omega)⟩ ⟨h3, ?_, ?_, ?_, sea, names, ?_, ?_, ?_, ?_⟩
      · unfold RT at t2 ⊢
        rw [c5_ y (by omega), zj]; exact t2
      · rw [(G z (by omega) (by omega) (by omega) (by omega)).1]; exact z2
      · rw [(G z (by omega) (by omega) (by omega) (by omega)).1]; exact z3
      · intro k hk
        rw [o_ 2 (by omega) (by omega)] at hk
        rw [(G (sp + 6) (by omega) (by omega) (by omega) (by omega)).1]; exact hct k hk
      · rw [(G sp (by omega) (by omega) (by omega) (by omega)).1]; exact hdt
      · intro k hk k8
        rw [o_ 2 (by omega) (by omega)] at hk
        rw [(G (sp + 9) (by omega) (by omega) (by omega) (by omega)).1, (G (sp + 10) (by omega) (by omega) (by omega) (by omega)).1]; exact hf1 k hk k8
      · intro w hw w5
        rw [o_ 3 (by omega) (by omega)] at hw
        rw [(G (sp + 19) (by omega) (by omega) (by omega) (by omega)).1]; exact hf2 w hw w5
    · simp (disch := omega) only [n_eqT, not_true_eq_false, Bool.false_eq_true, false_and, Bool.not_false, Bool.not_true, Bool.and_true, Bool.and_false, Bool.false_and, Bool.true_and, true_and, and_true, true_or, or_true, not_false_eq_true, Option.some.injEq, exists_eq_left', forall_eq, ↓reduceIte, Nat.add_zero, Nat.zero_add, and_self]
      exact K0 _ _ (by simp only [hallL, e1, e2, if_false]) M2 (F1.trans f2) k2
  · simp (disch := omega) only [l_0, n_eqT, not_true_eq_false, Bool.false_eq_true, false_and, Bool.not_false, Bool.not_true, Bool.and_true, Bool.and_false, Bool.false_and, Bool.true_and, true_and, and_true, true_or, or_true, not_false_eq_true, Option.some.injEq, exists_eq_left', forall_eq, ↓reduceIte, Nat.add_zero, Nat.zero_add, and_self]
    exact K0 c q (by simp only [hallL, e1]) M1 f1 k1
end PH
