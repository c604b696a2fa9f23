/-! PARSE: the line of a player, in the model -/
section PMI
variable {m L n : Nat} {bf : Nat → Int32} {P : Int32 → Mm → Prop} {K89 : Mm → Prop} {K99 : Mm → Nat → Prop}
theorem s_M_insts : ∀ (f t : Nat) (s : PS) (M : Mm), t + f = 5 → MPI m L bf n s M → Iw L n t s →
    (∀ s2, instsL L bf n f s = Sum.inr s2 → ∀ M', FQ (RPm m) M M' → MFx m M M' → MPI m L bf n s2 M' → K99 M' m) →
    (∀ c q, instsL L bf n f s = Sum.inl (c, q) → ∀ M', FQ (RPm m) M M' → MFx m M M' → MFl m c q M' → K89 M') → l_X8_playerLine_81 P K89 K99 f M m (nI (9 + 7 * n)) := by
  intro f
  induction f with
  | zero =>
    intro t s M e h iw
    obtain ⟨p, sg, nm, ct, dt⟩ := s
    obtain ⟨-, -, -, -, -, -, -, i8, -⟩ := iw
    omega
  | succ f ih =>
    intro t s M e h iw K1 K0
    obtain ⟨p, sg, nm, ct, dt⟩ := s
    have pm := h.1
    rw [l_X8_playerLine_81]
    refine ⟨pm.2.1.1, s_X8_ownRead h iw _ (fun s2 e2 M2 f2 x2 c2 => ifn (by decide) ?_) (fun c q e2 M2 f2 x2 k2 => ifp rfl (K0 c q (by simp only [instsL, e2]) M2 f2 x2 k2))⟩
    obtain ⟨iw2, t4⟩ := instL_iw (fun i hi => (pm.2.1.2.2.2.2.2.2 i hi).2) iw e2
    obtain ⟨p2, sg2, nm2, ct2, dt2⟩ := s2
    have t9 := c2.1.2.2.1.2.1
    have kb := tK_b (L := L) (bf := bf) (p := p2)
    refine ⟨c2.1.2.1.1, ?_⟩
    by_cases ck : tK L bf p2 = 1
    · refine ifp (by rw [t9, ck]; rfl) (ih (t + 1) (p2, sg2, nm2, ct2, dt2) M2 (by omega) c2 iw2 (fun s3 e3 M3 f3 x3 c3 => K1 s3 ?_ M3 (f2.trans f3) (x2.trans x3) c3) (fun c q e3 M3 f3 x3 k3 => K0 c q ?_ M3 (f2.trans f3) (x2.trans x3) k3))
      · simp only [instsL, e2, ck, if_true]; exact e3
      · simp only [instsL, e2, ck, if_true]; exact e3
    · have k := K1 _ (by simp only [instsL, e2, ck, if_false]) M2 f2 x2 c2
      simp (disch := omega) only [t9, l_1, n_eqF, not_true_eq_false, Bool.false_eq_true, false_and, Bool.not_false, Bool.not_true, Bool.and_true, Bool.and_false, Bool.false_and, Bool.true_and, true_and, and_true, true_or, or_true, not_false_eq_true, Option.some.injEq, exists_eq_left', forall_eq, ↓reduceIte, Nat.add_zero, Nat.zero_add, and_self]
      exact k
end PMI
section PMQ
variable {m L p : Nat} {bf : Nat → Int32} {M : Mm}
theorem s_X8_playerLine {sg ct : Nat → Nat} {nm : Nat → List Nat} {dt : Bool} (h : MPS m L bf (p, sg, nm, ct, dt) M) (ok : PSok (p, sg, nm, ct, dt) L) (P : Int32 → Mm → Prop)
    (K1 : ∀ s2, playerL L bf (p, sg, nm, ct, dt) = Sum.inr s2 → ∀ M', FQ (RPm m) M M' → MFx m M M' → MPS m L bf s2 M' → P (nI 1) M')
    (K0 : ∀ c q, playerL L bf (p, sg, nm, ct, dt) = Sum.inl (c, q) → ∀ M', FQ (RPm m) M M' → MFx m M M' → MFl m c q M' → P (nI 0) M') : w_X8_playerLine M m P := by
  have ok0 := ok
  obtain ⟨pm, z13, rd, rc, zd, na0, na1, na2, na3⟩ := h
  obtain ⟨hp, sb, hct2, n1, n2, n3, n4, g1, g2⟩ := ok
  have b := sb.1
  have sh := pm.1
  unfold MS at sh
  have k8 := pm.2.1.1
  have hp1 := tN_le L bf hp
  have hp2 := tN_le L bf hp1
  have hp3 := tN_le L bf hp2
  have hby : ∀ i, i < L → (bf i).toInt8.toInt32 = bf i := fun i hi => (pm.2.1.2.2.2.2.2.2 i hi).2
  have v2 : zI M (m + 5) 2 = nI (sg 2) := rd 2 (by omega)
  by_cases c0 : sg 2 = 8
  · have eE : nmErr L bf p (sg 2) 8 (fun k => nm (8 + k)) = some (5, tS L bf p) := by unfold nmErr; rw [if_pos c0]
    simp (maxSteps := 2000000) (disch := omega) only [w_X8_playerLine, sh, v2, l_0, l_1, l_2, l_5, l_8, n_vp, n_cl, n_leT, n_eqT, not_true_eq_false, Bool.false_eq_true, false_and, Bool.not_false, Bool.not_true, Bool.and_true, Bool.and_false, Bool.false_and, Bool.true_and, true_and, and_true, true_or, or_true, not_false_eq_true, Option.some.injEq, exists_eq_left', forall_eq, ↓reduceIte, Nat.add_zero, Nat.zero_add, and_self]
    refine s_X8_starts0 (c := 5) pm _ fun M1 f1 g1 e1 => ifp rfl ?_
    exact K0 5 _ (by simp only [playerL, eE]) M1 (fq_I f1 fun b hb => Or.inl hb) (fails_fx g1) e1
  · simp (maxSteps := 2000000) (disch := omega) only [w_X8_playerLine, sh, v2, l_0, l_1, l_2, l_5, l_7, l_8, l_9, l_40, l_999, pk_mul, nI_add, n_vp, n_cl, n_leF, n_eqT, not_true_eq_false, Bool.false_eq_true, false_and, Bool.not_false, Bool.not_true, Bool.and_true, Bool.and_false, Bool.false_and, Bool.true_and, true_and, and_true, true_or, or_true, not_false_eq_true, Option.some.injEq, exists_eq_left', forall_eq, ↓reduceIte, Nat.add_zero, Nat.zero_add, and_self]
    refine s_M_new pm hp (N := 8) na1 (by omega) (by omega) (by omega) _ _ (fun e1 M1 f1 g1 p1 j1 o1 => ?_) (fun e q e1 M1 f1 g1 k1 => ?_)
    · refine ifn (by decide) ⟨p1.2.1.1, s_X8_takes p1 hp2 (by omega) (by omega) _ (fun e2 M2 f2 g2 p2 e14 => ifn (by decide) ?_) fun e2 M2 f2 g2 k2 => ifp rfl ?_⟩
      · have sh2 := p2.1
        unfold MS at sh2
        simp (disch := omega) only [sh2, e14, zk_sI, n_vp, n_cl, not_true_eq_false, Bool.false_eq_true, false_and, Bool.not_false, Bool.not_true, Bool.and_true, Bool.and_false, Bool.false_and, Bool.true_and, true_and, and_true, true_or, or_true, not_false_eq_true, Option.some.injEq, exists_eq_left', forall_eq, ↓reduceIte, Nat.add_zero, Nat.zero_add, and_self]
        have f3 : FQ (fun q => q = m + 6) M2 (sI M2 (m + 6) (sg 2) (nI (tV L bf (tN L bf (tN L bf p))))) := fq_sI rfl
        have p3 := p2.fr f3 (by omega) (by omega)
        refine s_X8_lays p3 hp3 (i := 9 + 7 * sg 2) (by omega) (by omega) (by omega) _ (fun e4 M4 f4 g4 p4 j4 => ifn (by decide) ?_) fun e4 M4 f4 g4 k4 => ifp rfl ?_
        · obtain ⟨fee, hfee⟩ : ∃ v, tV L bf (tN L bf (tN L bf (tN L bf p))) = v := ⟨_, rfl⟩
          obtain ⟨cv, hcv⟩ : ∃ v, tV L bf (tN L bf (tN L bf p)) = v := ⟨_, rfl⟩
          obtain ⟨wd_, hwd⟩ : ∃ v, tW L bf (tN L bf p) = v := ⟨_, rfl⟩
          have nf := (nerr0 e4).2.2
          have nc := (nerr0 e2).2.2
          have eL : playerL L bf (p, sg, nm, ct, dt) = instsL L bf (sg 2) 5 (tN L bf (tN L bf (tN L bf (tN L bf p))), playS sg fee, updN nm (8 + sg 2) wd_, ups ct (sg 2) cv, dt) := by
            simp only [playerL, e1, e2, e4, hfee, hcv, hwd, if_true]
          have F4 : FQ (RPm m) M M4 := (f1.mono fun b hb => by unfold RPm; omega).trans ((fq_J (R := RPm m) f2 (Or.inl rfl)).trans ((f3.mono fun b hb => by unfold RPm; omega).trans (f4.mono fun b hb => by unfold RPm; omega)))
          have i3 : zI (sI M2 (m + 6) (sg 2) (nI (tV L bf (tN L bf (tN L bf p))))) m = zI M2 m := zI_sIo _ _ _ _ (by omega)
          have kf : ∀ j, j = 0 ∨ j = 5 ∨ j = 24 ∨ j = 13 ∨ j = 15 → zI M4 m j = zI M m j := fun j hj => by
            rw [g4 j (by omega) (by omega) (by omega) (by omega) (by omega), i3, g2 j (by omega) (by omega) (by omega) (by omega) (by omega), g1 j (by omega) (by omega) (by omega) (by omega)]
          have x4 : MFx m M M4 := fun j hj => kf j (by omega)
          have i5 : ∀ j, zI M4 (m + 5) j = if j = 9 + 7 * sg 2 then nI fee else zI M (m + 5) j := fun j => by
            rw [j4, hfee, zI_sIo _ _ _ _ (by omega), f2.2.2.2.2.1 (m + 5) (by omega), f1.i (by omega)]
          have i6 : ∀ k, zI M4 (m + 6) k = if k = sg 2 then nI cv else zI M (m + 6) k := fun k => by
            rw [f4.i (by omega)]
            by_cases e : k = sg 2
            · rw [e, zI_sI1, if_pos rfl, hcv]
            · rw [zI_sI2 _ _ _ _ e, if_neg e, f2.2.2.2.2.1 (m + 6) (by omega), f1.i (by omega)]
          have i7 : ∀ j, zJ M4 (m + 7) j = if j = 8 * 1 + sg 2 then c8 wd_ else zJ M (m + 7) j := fun j => by
            rw [f4.j (by omega)]
            show zJ M2 (m + 7) j = _
            rw [f2.2.2.2.2.2 (m + 7) (by omega), j1, hwd]
          rw [hwd] at o1
          have io : Iok L (sg 2) 0 (tN L bf (tN L bf (tN L bf (tN L bf p))), playS sg fee, updN nm (8 + sg 2) wd_, ups ct (sg 2) cv, dt) := playS_ok ok0 (tN_le L bf hp3) (by omega) o1 (by omega) (by omega)
          have o_ : ∀ k, k ≠ 2 → k ≠ 9 + 7 * sg 2 → playS sg fee k = sg k := fun k h1 h2 => playS_o sg fee h1 h2
          have mpi : MPI m L bf (sg 2) (tN L bf (tN L bf (tN L bf (tN L bf p))), playS sg fee, updN nm (8 + sg 2) wd_, ups ct (sg 2) cv, dt) M4 := by
            refine ⟨p4, ?_, fun k hk k2 => ?_, ?_, fun k hk => ?_, ?_, fun k hk => ?_, fun k hk => ?_, fun k hk => ?_, fun k hk => ?_⟩
            · rw [kf 13 (by omega)]; exact z13
            · rw [i5]
              by_cases e : k = 9 + 7 * sg 2
              · rw [if_pos e, e, playS_f]
              · rw [if_neg e, o_ k k2 e]; exact rd k hk
            · rw [i5, if_neg (by omega)]; exact v2
            · rw [i6]
              unfold ups
              by_cases e : k = sg 2
              · rw [if_pos e, if_pos e]
              · rw [if_neg e, if_neg e]; exact rc k (by omega)
            · rw [kf 15 (by omega)]; exact zd
            · rw [o_ 1 (by omega) (by omega)] at hk
              rw [i7, if_neg (by omega), show updN nm (8 + sg 2) wd_ k = nm k from if_neg (by omega)]; exact na0 k hk
            · rw [i7]
              dsimp only
              unfold updN
              by_cases e : k = sg 2
              · rw [if_pos (by omega), if_pos (by omega)]; exact ⟨rfl, o1⟩
              · rw [if_neg (by omega), if_neg (by omega)]; exact na1 k (by omega)
            · rw [o_ 3 (by omega) (by omega)] at hk
              dsimp only
              rw [i7, if_neg (by omega), show updN nm (8 + sg 2) wd_ (16 + k) = nm (16 + k) from if_neg (by omega)]; exact na2 k hk
            · rw [o_ 4 (by omega) (by omega)] at hk
              dsimp only
              rw [i7, if_neg (by omega), show updN nm (8 + sg 2) wd_ (24 + k) = nm (24 + k) from if_neg (by omega)]; exact na3 k hk
          refine ⟨5, s_M_insts 5 0 _ M4 rfl mpi io.1 (fun s2 e5 M5 f5 x5 c5 => ?_) (fun c q e5 M5 f5 x5 k5 => ?_)⟩
          · obtain ⟨⟨t2, ht, ok2⟩, -⟩ := instsL_ok hby 5 0 _ s2 rfl io e5
            obtain ⟨p2_, sg2, nm2, ct2, dt2⟩ := s2
            have s22 : sg2 2 = sg 2 + 1 := ok2.1.2.2.2.2.1
            obtain ⟨q1, q2, q3, q4, q5, q6, q7, q8, q9, q10⟩ := c5
            have sh5 := q1.1
            unfold MS at sh5
            have f6 : FQ (fun q => q = m + 5) M5 (sI M5 (m + 5) 2 (nI (sg 2 + 1))) := fq_sI rfl
            have mps : MPS m L bf (p2_, sg2, nm2, ct2, dt2) (sI M5 (m + 5) 2 (nI (sg 2 + 1))) := by
              refine ⟨q1.fr f6 (by omega) (by omega), ?_, fun k hk => ?_, ?_, ?_, q7, ?_, q9, q10⟩
              · rw [zI_sIo _ _ _ _ (by omega)]; exact q2
              · by_cases e : k = 2
                · rw [e, zI_sI1, s22]
                · rw [zI_sI2 _ _ _ _ e]; exact q3 k hk e
              · rw [s22, zI_sIo _ _ _ _ (by omega)]; exact q5
              · rw [zI_sIo _ _ _ _ (by omega)]; exact q6
              · rw [s22]; exact q8
            have T := K1 (p2_, sg2, nm2, ct2, dt2) (by rw [eL]; exact e5) (sI M5 (m + 5) 2 (nI (sg 2 + 1))) (F4.trans (f5.trans (f6.mono fun b hb => by unfold RPm; omega))) ((x4.trans x5).trans fun j hj => by rw [zI_sIo _ _ _ _ (by omega)]) mps
            simp (disch := omega) only [sh5, q4, n_vp, n_cl, nI_add, not_true_eq_false, Bool.false_eq_true, false_and, Bool.not_false, Bool.not_true, Bool.and_true, Bool.and_false, Bool.false_and, Bool.true_and, true_and, and_true, true_or, or_true, not_false_eq_true, Option.some.injEq, exists_eq_left', forall_eq, ↓reduceIte, Nat.add_zero, Nat.zero_add, and_self]
            exact T
          · exact K0 c q (by rw [eL]; exact e5) M5 (F4.trans f5) (x4.trans x5) k5
        · have F3 : FQ (RPm m) M (sI M2 (m + 6) (sg 2) (nI (tV L bf (tN L bf (tN L bf p))))) := (f1.mono fun b hb => by unfold RPm; omega).trans ((fq_J (R := RPm m) f2 (Or.inl rfl)).trans (f3.mono fun b hb => by unfold RPm; omega))
          refine K0 _ _ (by simp only [playerL, e1, e2, e4, if_true, if_false]) M4 (F3.trans (fq_I f4 fun b hb => Or.inl hb)) ?_ k4
          refine (g1.fx.trans g2.fx).trans (MFx.trans (M1 := sI M2 (m + 6) (sg 2) (nI (tV L bf (tN L bf (tN L bf p))))) (fun j hj => by rw [zI_sIo _ _ _ _ (by omega)]) (fails_fx g4))
      · exact K0 _ _ (by simp only [playerL, e1, e2, if_false]) M2 ((f1.mono fun b hb => by unfold RPm; omega).trans (fq_I f2 fun b hb => Or.inl hb)) (g1.fx.trans (fails_fx g2)) k2
    · exact ifp rfl (K0 e q (by simp only [playerL, e1]) M1 f1 g1 k1)
end PMQ
