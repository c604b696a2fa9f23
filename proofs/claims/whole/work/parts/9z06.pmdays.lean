/-! PARSE: the days, in the model -/
section PMD
variable {m L p : Nat} {bf : Nat → Int32} {M : Mm}
theorem s_M_days (pm : PMx m L bf p M) (hp : p ≤ L) (B0 B1 : Mm → Prop)
    (K1 : ∀ q d, daysL L bf p = Sum.inr (q, d) → ∀ M', FQ (fun b => b = m ∨ b = m + 5) M M' → KF m M M' → PMx m L bf q M' → (∀ j, zI M' (m + 5) j = if j = 0 then nI d else zI M (m + 5) j) → B1 M')
    (K0 : ∀ c q, daysL L bf p = Sum.inl (c, q) → ∀ M', FQ (RPm m) M M' → MFx m M M' → MFl m c q M' → B0 M') :
    w_X8_isWord M m 0 (fun r14 M14 => zk M14 m = 8 ∧ w_X8_starts M14 m (nI 1) r14 (fun r15 M15 => if r15 = nI 0 then B0 M15 else zk M15 m = 8 ∧ w_X8_lays M15 m (nI 0) (nI 1) (nI 30) (fun r20 M20 => if r20 = nI 0 then B0 M20 else zk M20 m = 8 ∧ w_X8_closes M20 m (fun r M2 => if r = nI 0 then B0 M2 else B1 M2)))) := by
  have hp1 := tN_le L bf hp
  have hp2 := tN_le L bf hp1
  refine s_X8_isWord pm.2.1 pm.2.2.1 hp (by omega) _ ⟨pm.2.1.1, ?_⟩
  by_cases c2 : isw L bf p 0 = true
  · rw [c2, bI_t]
    refine s_X8_starts1 (c := 1) pm hp _ fun M1 f1 g1 p1 => ifn (by decide) ⟨p1.2.1.1, ?_⟩
    have F1 : FQ (RPm m) M M1 := fq_J f1 (Or.inl rfl)
    refine s_X8_lays p1 hp1 (i := 0) (by omega) (by omega) (by omega) _ (fun e2 M2 f2 g2 p2 j2 => ifn (by decide) ⟨p2.2.1.1, ?_⟩) fun e2 M2 f2 g2 k2 => ifp rfl ?_
    · have F2 : FQ (fun b => b = m ∨ b = m + 5) M M2 := (fq_J f1 (Or.inl rfl)).trans f2
      have F2a : FQ (RPm m) M M2 := ⟨F2.1, F2.2.1, F2.2.2.1, F2.2.2.2.1, fun q hq => F2.i (by unfold RPm at hq; omega), fun q hq => F2.j (by unfold RPm at hq; omega)⟩
      refine s_X8_closes p2 hp2 _ (fun e3 M3 f3 g3 p3 => ifn (by decide) ?_) fun e3 M3 f3 g3 k3 => ifp rfl ?_
      · refine K1 (tN L bf (tN L bf (tN L bf p))) (tV L bf (tN L bf p)) (by simp only [daysL, c2, e2, e3, if_true]) M3 (F2.trans (fq_J f3 (Or.inl rfl))) ((g1.kf.trans g2).trans g3.kf) p3 fun j => ?_
        rw [f3.2.2.2.2.1 (m + 5) (by omega), j2, f1.2.2.2.2.1 (m + 5) (by omega)]
      · exact K0 1 _ (by simp only [daysL, c2, e2, e3, if_true, if_false]) M3 (F2a.trans (fq_I f3 fun b hb => Or.inl hb)) ((g1.fx.trans g2.fx).trans (fails_fx g3)) k3
    · exact K0 _ _ (by simp only [daysL, c2, e2, if_true, if_false]) M2 (F1.trans (fq_I f2 fun b hb => Or.inl hb)) (g1.fx.trans (fails_fx g2)) k2
  · rw [b_no c2, bI_f]
    exact s_X8_starts0 (c := 1) pm _ fun M1 f1 g1 e1 => ifp rfl (K0 1 _ (by simp only [daysL, c2, Bool.false_eq_true, if_false]) M1 (fq_I f1 fun b hb => Or.inl hb) (fails_fx g1) e1)
end PMD
