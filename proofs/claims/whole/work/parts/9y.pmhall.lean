/-! PARSE: the line of a hall, in the model -/
/-- the cells that parsing writes in the model -/
def RPm (m : Nat) : Nat → Prop := fun b => b = m ∨ b = m + 5 ∨ b = m + 6 ∨ b = m + 7
/-- fields of the model that a line leaves -/
def MFx (m : Nat) (M M' : Mm) : Prop := ∀ j, j = 0 ∨ j = 5 ∨ j = 24 → zI M' m j = zI M m j
theorem MFx.trans {m : Nat} {M M1 M2 : Mm} (h : MFx m M M1) (k : MFx m M1 M2) : MFx m M M2 := fun j a => (k j a).trans (h j a)
theorem KF.fx {m : Nat} {M M' : Mm} (h : KF m M M') : MFx m M M' := fun j a => h j (by omega) (by omega) (by omega) (by omega) (by omega)
theorem AF.fx {m : Nat} {M M' : Mm} (h : AF m M M') : MFx m M M' := h.kf.fx
theorem fails_fx {m : Nat} {M M' : Mm} (h : ∀ j, j ≠ 12 → j ≠ 13 → zI M' m j = zI M m j) : MFx m M M' := fun j a => h j (by omega) (by omega)
section PMH
variable {m L p : Nat} {bf : Nat → Int32} {M : Mm}
theorem nmErr_new {n N : Nat} {nf : Nat → List Nat} (hn : n ≠ N) (h1 : tK L bf (tN L bf p) = 1) (h2 : ¬ nin nf n (tW L bf (tN L bf p)) < n) : nmErr L bf p n N nf = none := by
  unfold nmErr; rw [if_neg hn, if_pos h1, if_neg h2]
theorem nmErr_bad {n N e : Nat} {nf : Nat → List Nat} (hn : n ≠ N) (h : (tK L bf (tN L bf p) ≠ 1 ∧ e = 1) ∨ (tK L bf (tN L bf p) = 1 ∧ nin nf n (tW L bf (tN L bf p)) < n ∧ e = 2)) : nmErr L bf p n N nf = some (e, tS L bf (tN L bf p)) := by
  unfold nmErr
  rw [if_neg hn]
  rcases h with ⟨a, rfl⟩ | ⟨a, b, rfl⟩
  · rw [if_neg a]
  · rw [if_pos a, if_pos b]
theorem s_M_new (h : PMx m L bf p M) (hp : p ≤ L) {c n N : Nat} {nf : Nat → List Nat} (hN : MNA m c n nf M) (hc : c < 4) (hn : n < N) (hN8 : N ≤ 8) (Z : Mm → Prop) (KK : Int32 → Mm → Prop)
    (K1 : nmErr L bf p n N nf = none → ∀ M', FQ (fun b => b = m ∨ b = m + 7) M M' → AF m M M' → PMx m L bf (tN L bf (tN L bf p)) M' → (∀ j, zJ M' (m + 7) j = if j = 8 * c + n then c8 (tW L bf (tN L bf p)) else zJ M (m + 7) j) → NameOK (tW L bf (tN L bf p)) → KK (nI 1) M')
    (K0 : ∀ e q, nmErr L bf p n N nf = some (e, q) → ∀ M', FQ (RPm m) M M' → MFx m M M' → MFl m e q M' → KK (nI 0) M') : w_X8_starts M m (nI 5) (nI 1) (fun r M1 => if r = nI 0 then Z M1 else zk M1 m = 8 ∧ w_X8_nameRead M1 m (nI c) (nI n) KK) := by
  refine s_X8_starts1 h hp _ fun M1 f1 g1 p1 => ?_
  rw [if_neg (show ¬ nI 1 = nI 0 by decide)]
  have F1 : FQ (RPm m) M M1 := fq_J f1 (Or.inl rfl)
  have hN1 : MNA m c n nf M1 := fun k hk => by rw [f1.2.2.2.2.2 (m + 7) (by omega)]; exact hN k hk
  refine ⟨p1.2.1.1, s_X8_nameRead p1 (tN_le L bf hp) hN1 hc (by omega) KK (fun a b M2 f2 g2 p2 j2 o2 => ?_) fun e he M2 f2 g2 e2 => ?_⟩
  · refine K1 (nmErr_new (by omega) a b) M2 ((fq_J f1 (Or.inl rfl)).trans f2) (g1.trans g2) p2 (fun j => ?_) o2
    rw [j2, f1.2.2.2.2.2 (m + 7) (by omega)]
  · exact K0 e _ (nmErr_bad (by omega) he) M2 (F1.trans (fq_I f2 fun b hb => Or.inl hb)) (g1.fx.trans (fails_fx g2)) e2
theorem s_X8_hallLine {sg ct : Nat → Nat} {nm : Nat → List Nat} {dt : Bool} (h : MPS m L bf (p, sg, nm, ct, dt) M) (ok : PSok (p, sg, nm, ct, dt) L) (P : Int32 → Mm → Prop)
    (K1 : ∀ s2, hallL L bf (p, sg, nm, ct, dt) = Sum.inr s2 → ∀ M', FQ (RPm m) M M' → MFx m M M' → MPS m L bf s2 M' → P (nI 1) M')
    (K0 : ∀ c q, hallL L bf (p, sg, nm, ct, dt) = Sum.inl (c, q) → ∀ M', FQ (RPm m) M M' → MFx m M M' → MFl m c q M' → P (nI 0) M') : w_X8_hallLine M m P := by
  obtain ⟨pm, z13, rd, rc, zd, na0, na1, na2, na3⟩ := h
  obtain ⟨hp, sb, hct2, n1, n2, n3, n4, g1, g2⟩ := ok
  have b := sb.1
  have sh := pm.1
  unfold MS at sh
  have k8 := pm.2.1.1
  have hp1 := tN_le L bf hp
  have hp2 := tN_le L bf hp1
  have v1 : zI M (m + 5) 1 = nI (sg 1) := rd 1 (by omega)
  by_cases c0 : sg 1 = 3
  · have eE : nmErr L bf p (sg 1) 3 nm = some (5, tS L bf p) := by unfold nmErr; rw [if_pos c0]
    simp (disch := omega) only [w_X8_hallLine, w_X8_starts, sh, v1, l_0, l_1, l_3, l_5, n_vp, n_cl, n_leT, n_eqT, not_true_eq_false, Bool.false_eq_true, false_and, Bool.not_false, Bool.not_true, Bool.and_true, Bool.and_false, Bool.false_and, Bool.true_and, true_and, and_true, true_or, or_true, not_false_eq_true, Option.some.injEq, exists_eq_left', forall_eq, ↓reduceIte, Nat.add_zero, Nat.zero_add, and_self]
    refine s_X8_fails (c := 5) pm _ fun M1 f1 g1 e1 => ?_
    refine ⟨Or.inl rfl, ?_⟩
    rw [if_pos rfl]
    exact K0 5 _ (by simp only [hallL, eE]) M1 (fq_I f1 fun b hb => Or.inl hb) (fails_fx g1) e1
  · simp (disch := omega) only [w_X8_hallLine, sh, v1, l_0, l_1, l_3, l_5, l_6, l_9, n_vp, n_cl, n_leF, not_true_eq_false, Bool.false_eq_true, false_and, Bool.not_false, Bool.not_true, Bool.and_true, Bool.and_false, Bool.false_and, Bool.true_and, true_and, and_true, true_or, or_true, not_false_eq_true, Option.some.injEq, exists_eq_left', forall_eq, ↓reduceIte, Nat.add_zero, Nat.zero_add, and_self]
    refine s_M_new pm hp (N := 3) na0 (by omega) (by omega) (by omega) _ _ (fun e1 M1 f1 g1 p1 j1 o1 => ?_) (fun e q e1 M1 f1 g1 k1 => ?_)
    · rw [if_neg (show ¬ nI 1 = nI 0 by decide)]
      have F1 : FQ (RPm m) M M1 := ⟨f1.1, f1.2.1, f1.2.2.1, f1.2.2.2.1, fun q hq => f1.i (by unfold RPm at hq; omega), fun q hq => f1.j (by unfold RPm at hq; omega)⟩
      rw [nI_add]
      refine ⟨p1.2.1.1, s_X8_lays p1 hp2 (by omega) (by omega) (by omega) _ (fun e2 M2 f2 g2 p2 j2 => ?_) fun e2 M2 f2 g2 k2 => ?_⟩
      · rw [if_neg (show ¬ nI 1 = nI 0 by decide)]
        have sh2 := p2.1
        unfold MS at sh2
        have i5 : zI M1 (m + 5) = zI M (m + 5) := f1.i (by omega)
        have v2 : zI M2 (m + 5) 1 = nI (sg 1) := by rw [j2, if_neg (by omega), i5]; exact v1
        simp (disch := omega) only [sh2, v2, n_vp, n_cl, nI_add, not_true_eq_false, Bool.false_eq_true, false_and, Bool.not_false, Bool.not_true, Bool.and_true, Bool.and_false, Bool.false_and, Bool.true_and, true_and, and_true, true_or, or_true, not_false_eq_true, Option.some.injEq, exists_eq_left', forall_eq, ↓reduceIte, Nat.add_zero, Nat.zero_add, and_self]
        have f3 : FQ (fun b => b = m + 5) M2 (sI M2 (m + 5) 1 (nI (sg 1 + 1))) := fq_sI rfl
        have F2 : FQ (RPm m) M1 M2 := ⟨f2.1, f2.2.1, f2.2.2.1, f2.2.2.2.1, fun q hq => f2.i (by unfold RPm at hq; omega), fun q hq => f2.j (by unfold RPm at hq; omega)⟩
        have j7 : ∀ j, zJ (sI M2 (m + 5) 1 (nI (sg 1 + 1))) (m + 7) j = if j = 8 * 0 + sg 1 then c8 (tW L bf (tN L bf p)) else zJ M (m + 7) j := fun j => by
          show zJ M2 (m + 7) j = _
          rw [f2.j (by omega)]
          exact j1 j
        have nmE : ∀ k, k ≠ sg 1 → updN nm (sg 1) (tW L bf (tN L bf p)) k = nm k := fun k hk => if_neg hk
        have o_ : ∀ k, k ≠ 1 → k < 6 → hallS sg (tV L bf (tN L bf (tN L bf p))) k = sg k := fun k i1 i2 => hallS_o _ _ i1 (by omega)
        have kf : ∀ j, j = 0 ∨ j = 5 ∨ j = 24 ∨ j = 13 ∨ j = 15 → zI (sI M2 (m + 5) 1 (nI (sg 1 + 1))) m j = zI M m j := fun j hj => by
          rw [zI_sIo _ _ _ _ (by omega), g2 j (by omega) (by omega) (by omega) (by omega) (by omega), g1 j (by omega) (by omega) (by omega) (by omega)]
        refine K1 (tN L bf (tN L bf (tN L bf p)), hallS sg (tV L bf (tN L bf (tN L bf p))), updN nm (sg 1) (tW L bf (tN L bf p)), ct, dt) (by simp only [hallL, e1, e2, if_true]) _ ((F1.trans F2).trans (fq_sI (Or.inr (Or.inl rfl)))) (fun j hj => kf j (by omega)) ⟨p2.fr f3 (by omega) (by omega), ?_, ?_, ?_, ?_, ?_, ?_, ?_, ?_⟩
        · rw [kf 13 (by omega)]; exact z13
        · intro k hk
          by_cases c1 : k = 1
          · subst c1
            rw [hallS_1]; exact zI_sI1 _ _ _ _
          · rw [zI_sI2 _ _ _ _ c1, j2]
            by_cases c2 : k = 6 + sg 1
            · subst c2
              rw [if_pos rfl, hallS_h]
            · rw [if_neg c2, hallS_o _ _ c1 c2, i5]; exact rd k hk
        · intro k hk
          rw [o_ 2 (by omega) (by omega)] at hk
          rw [zI_sIo _ _ _ _ (by omega), f2.i (by omega), f1.i (by omega)]; exact rc k hk
        · rw [kf 15 (by omega)]; exact zd
        · intro k hk
          rw [hallS_1] at hk
          rw [j7]
          by_cases e : k = sg 1
          · subst e
            rw [if_pos rfl]
            have e3 : updN nm (sg 1) (tW L bf (tN L bf p)) (sg 1) = tW L bf (tN L bf p) := if_pos rfl
            rw [e3]
            exact ⟨rfl, o1⟩
          · rw [if_neg (by omega), nmE k e]
            exact na0 k (by omega)
        · intro k hk
          rw [o_ 2 (by omega) (by omega)] at hk
          rw [j7, if_neg (by omega)]
          dsimp only
          rw [nmE _ (by omega)]
          exact na1 k hk
        · intro k hk
          rw [o_ 3 (by omega) (by omega)] at hk
          rw [j7, if_neg (by omega)]
          dsimp only
          rw [nmE _ (by omega)]
          exact na2 k hk
        · intro k hk
          rw [o_ 4 (by omega) (by omega)] at hk
          rw [j7, if_neg (by omega)]
          dsimp only
          rw [nmE _ (by omega)]
          exact na3 k hk
      · rw [if_pos rfl]
        exact K0 _ _ (by simp only [hallL, e1, e2, if_false]) M2 (F1.trans (fq_I f2 fun b hb => Or.inl hb)) (g1.fx.trans (fails_fx g2)) k2
    · rw [if_pos rfl]
      exact K0 e q (by simp only [hallL, e1]) M1 f1 g1 k1
end PMH
