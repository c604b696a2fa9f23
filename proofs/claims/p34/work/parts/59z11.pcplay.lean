/-! PARSE: the line of a player, in the class -/
def playS (sg : Nat → Nat) (fee : Nat) : Nat → Nat := ups (ups sg 2 (sg 2 + 1)) (9 + 7 * sg 2) fee
def playerL (L : Nat) (bf : Nat → Int32) : PS → Sum (Nat × Nat) PS
  | (p, sg, nm, ct, dt) => match nmErr L bf p (sg 2) 8 (fun k => nm (8 + k)) with
    | some e => Sum.inl e
    | none => if nerr L bf (tN L bf (tN L bf p)) 0 40 = 0 then
        (if nerr L bf (tN L bf (tN L bf (tN L bf p))) 0 999 = 0 then instsL L bf (sg 2) 5 (tN L bf (tN L bf (tN L bf (tN L bf p))), playS sg (tV L bf (tN L bf (tN L bf (tN L bf p)))), updN nm (8 + sg 2) (tW L bf (tN L bf p)), ups ct (sg 2) (tV L bf (tN L bf (tN L bf p))), dt)
         else Sum.inl (nerr L bf (tN L bf (tN L bf (tN L bf p))) 0 999, tS L bf (tN L bf (tN L bf (tN L bf p)))))
      else Sum.inl (nerr L bf (tN L bf (tN L bf p)) 0 40, tS L bf (tN L bf (tN L bf p)))
theorem addN_upd (nm : Nat → List Nat) (c n : Nat) (w : List Nat) (k : Nat) : addN (fun k => nm (c + k)) n w k = updN nm (c + n) w (c + k) := by
  unfold addN updN
  by_cases e : k = n
  · rw [if_pos e, if_pos (by omega)]
  · rw [if_neg e, if_neg (by omega)]
theorem playS_2 (sg : Nat → Nat) (v : Nat) : playS sg v 2 = sg 2 + 1 := (if_neg (by omega)).trans (if_pos rfl)
theorem playS_f (sg : Nat → Nat) (v : Nat) : playS sg v (9 + 7 * sg 2) = v := if_pos rfl
theorem playS_o (sg : Nat → Nat) (v : Nat) {k : Nat} (h : k ≠ 2) (h2 : k ≠ 9 + 7 * sg 2) : playS sg v k = sg k := (if_neg h2).trans (if_neg h)
theorem nmErr_n {L p n N : Nat} {bf : Nat → Int32} {nf : Nat → List Nat} (e : nmErr L bf p n N nf = none) : n ≠ N ∧ tK L bf (tN L bf p) = 1 ∧ ¬ nin nf n (tW L bf (tN L bf p)) < n := by
  unfold nmErr at e
  by_cases c : n = N
  · rw [if_pos c] at e; cases e
  · rw [if_neg c] at e
    by_cases c2 : tK L bf (tN L bf p) = 1
    · rw [if_pos c2] at e
      by_cases c3 : nin nf n (tW L bf (tN L bf p)) < n
      · rw [if_pos c3] at e; cases e
      · exact ⟨c, c2, c3⟩
    · rw [if_neg c2] at e; cases e
section PCP
variable {x y z sp L n : Nat} {bf : Nat → Int32} {P : Int32 → Mm → Prop} {K109 K117 : Mm → Prop}
theorem s_C_insts : ∀ (f t : Nat) (s : PS) (M : Mm), t + f = 5 → CPS x y z sp L bf s M → Iw L n t s → (t = 0 ∨ tK L bf s.1 = 1) →
    (∀ s2, instsL L bf n f s = Sum.inr s2 → ∀ M', FQ (RPa y z sp) M M' → CPS x y z sp L bf s2 M' → K117 M') →
    (∀ c q, instsL L bf n f s = Sum.inl (c, q) → ∀ M', FQ (RPa y z sp) M M' → CFl z c q M' → K109 M') → l_X3_readPlayer_78 P K109 K117 (f + 1) M z (nI n) (nI t) := by
  intro f
  induction f with
  | zero =>
    intro t s M e h iw
    obtain ⟨p, sg, nm, ct, dt⟩ := s
    obtain ⟨-, -, -, -, -, -, -, i8, -⟩ := iw
    omega
  | succ f ih =>
    intro t s M e h iw ht K1 K0
    obtain ⟨p, sg, nm, ct, dt⟩ := s
    have hc := h.1
    have tt := h.2.1
    have hz := hc.2.1
    have R : w_X3_readInstrument M z (nI n) (nI t) (fun r16 M16 => if r16 = nI 0 then K109 M16 else l_X3_readPlayer_78 P K109 K117 (f + 1) M16 z (nI n) (nI (t + 1))) := by
      refine s_X3_readInstrument h iw _ (fun s2 e2 M2 f2 c2 => ifn (by decide) ?_) (fun c q e2 M2 f2 k2 => ifp rfl (K0 c q (by simp only [instsL, e2]) M2 f2 k2))
      obtain ⟨iw2, t4⟩ := instL_iw (fun i hi => (hc.1.2.2.2.2.2.2.2 i hi).2) iw e2
      obtain ⟨p2, sg2, nm2, ct2, dt2⟩ := s2
      by_cases ck : tK L bf p2 = 1
      · refine ih (t + 1) (p2, sg2, nm2, ct2, dt2) M2 (by omega) c2 iw2 (Or.inr ck) (fun s3 e3 M3 f3 c3 => K1 s3 ?_ M3 (f2.trans f3) c3) (fun c q e3 M3 f3 k3 => K0 c q ?_ M3 (f2.trans f3) k3)
        · simp only [instsL, e2, ck, if_true]; exact e3
        · simp only [instsL, e2, ck, if_true]; exact e3
      · have k := K1 _ (by simp only [instsL, e2, ck, if_false]) M2 f2 c2
        have hz2 := c2.1.2.1
        have r2 := c2.1.1
        have t3 := c2.2.1.2.1
        have kb := tK_b (L := L) (bf := bf) (p := p2)
        simp (disch := omega) only [l_X3_readPlayer_78, hz2, r2.1, t3, l_0, l_1, l_600, n_eqF, n_leF, not_true_eq_false, Bool.false_eq_true, false_and, Bool.not_false, Bool.not_true, Bool.and_true, Bool.and_false, Bool.false_and, Bool.true_and, true_and, and_true, true_or, or_true, not_false_eq_true, Option.some.injEq, exists_eq_left', forall_eq, ↓reduceIte, Nat.add_zero, Nat.zero_add, and_self]
        exact k
    rw [l_X3_readPlayer_78, nI_1']
    by_cases c0 : t = 0
    · subst c0
      exact ifp rfl ⟨hz.1, R⟩
    · have c1 : tK L bf p = 1 := by
        rcases ht with q | q
        · exact absurd q c0
        · exact q
      obtain ⟨-, -, -, -, -, -, -, i8, -⟩ := iw
      exact ifn (fun u => by rw [l_0, n_eqF c0 (by omega) (by omega)] at u; exact u) (ifn (nI_ge (b := 600) (show t < 600 by omega) (by decide)) ⟨hz.1, y, hz.2.1, hc.1.1, ifp (by rw [tt.2.1, c1]; rfl) ⟨hz.1, R⟩⟩)
end PCP
section PCQ
variable {x y z sp L p : Nat} {bf : Nat → Int32} {sg ct : Nat → Nat} {nm : Nat → List Nat} {dt : Bool} {M : Mm}
theorem s_X3_readPlayer (h : CPS x y z sp L bf (p, sg, nm, ct, dt) M) (ok : PSok (p, sg, nm, ct, dt) L) (P : Int32 → Mm → Prop)
    (K1 : ∀ s2, playerL L bf (p, sg, nm, ct, dt) = Sum.inr s2 → ∀ M', FQ (RPa y z sp) M M' → CPS x y z sp L bf s2 M' → P (nI 1) M')
    (K0 : ∀ c q, playerL L bf (p, sg, nm, ct, dt) = Sum.inl (c, q) → ∀ M', FQ (RPa y z sp) M M' → CFl z c q M' → P (nI 0) M') : w_X3_readPlayer M z P := by
  obtain ⟨hc, t, z2, z3, hS, hNm, hct, hdt, hf1, hf2⟩ := h
  obtain ⟨hp, sb, hct2, n1, n2, n3, n4, g1, g2⟩ := ok
  have b := sb.1
  have sh := hS.1
  obtain ⟨s1, ⟨-, -, a3, a4, -, -, -, -, -, b2, -, -⟩, ⟨-, m6, m7, -⟩, -, -, l5, l6, l7, -⟩ := sh
  have nn := hS.n
  have d := hc.2.2.2
  have hp1 := tN_le L bf hp
  have hp2 := tN_le L bf hp1
  have hp3 := tN_le L bf hp2
  have hz := hc.2.1
  have hN : NMS (sp + 4) (sp + 5) 8 (sg 2) (fun k => nm (8 + k)) M := ⟨a3, a4, b2, l5, by omega, nn.2.2.2.1, by omega, by omega, fun k hk => ⟨hNm.2.1 k hk, n2 k hk⟩⟩
  have v0 : zI M (sp + 4) 1 = nI (sg 2) := nn.2.2.2.1
  simp only [w_X3_readPlayer, hz, s1, a3, v0, not_true_eq_false, Bool.false_eq_true, false_and, Bool.not_false, Bool.not_true, Bool.and_true, Bool.and_false, Bool.false_and, Bool.true_and, true_and, and_true, true_or, or_true, not_false_eq_true, Option.some.injEq, exists_eq_left', forall_eq, ↓reduceIte, Nat.add_zero, Nat.zero_add, and_self]
  refine s_X3_readNewName hc hp t hN (by omega) (by omega) _ (fun e1 M1 f1 h1 t1 N1 ga gb => ?_) (fun c q e1 M1 f1 k1 => ?_)
  · have n8 := (nmErr_n e1).1
    have F1 : FQ (fun q => q = y ∨ q = sp + 4 ∨ q = sp + 5) M M1 := f1
    have hz1 := h1.2.1
    simp (disch := omega) only [hz1, l_0, l_40, l_1, n_eqF, not_true_eq_false, Bool.false_eq_true, false_and, Bool.not_false, Bool.not_true, Bool.and_true, Bool.and_false, Bool.false_and, Bool.true_and, true_and, and_true, true_or, or_true, not_false_eq_true, Option.some.injEq, exists_eq_left', forall_eq, ↓reduceIte, Nat.add_zero, Nat.zero_add, and_self]
    refine s_X3_isNumber h1 t1 (by omega) (by omega) _ (fun e2 i6 => ?_) (fun e2 M2 f2 k2 => ?_)
    · have s11 := h1.2.2.1.1
      simp (disch := omega) only [hz1, s11, n_eqF, not_true_eq_false, Bool.false_eq_true, false_and, Bool.not_false, Bool.not_true, Bool.and_true, Bool.and_false, Bool.false_and, Bool.true_and, true_and, and_true, true_or, or_true, not_false_eq_true, Option.some.injEq, exists_eq_left', forall_eq, ↓reduceIte, Nat.add_zero, Nat.zero_add, and_self]
      refine s_X3_takeNumber h1 hp2 t1 i6 _ fun M2 f2 h2 t2 => ?_
      have F2 : FQ (fun q => q = y ∨ q = sp + 4 ∨ q = sp + 5) M M2 := F1.trans (fq_J f2 (Or.inl rfl))
      have k6 : zk M2 (sp + 6) = 10 := by rw [F2.k]; exact m6
      have e6 : zl M2 (sp + 6) = 8 := by rw [F2.l]; exact l6
      have f3 : FQ (fun q => q = sp + 6) M2 (sI M2 (sp + 6) (sg 2) (nI (tV L bf (tN L bf (tN L bf p))))) := fq_sI rfl
      have h3 := h2.fq f3 (by omega) (fun b hb => by unfold RPa; omega)
      have t3 := t2.fq f3 (by omega)
      have F3 : FQ (fun q => q = y ∨ q = sp + 4 ∨ q = sp + 5 ∨ q = sp + 6) M (sI M2 (sp + 6) (sg 2) (nI (tV L bf (tN L bf (tN L bf p))))) := (F2.mono fun b hb => by omega).trans (f3.mono fun b hb => by omega)
      have c6 : ∀ k, zI (sI M2 (sp + 6) (sg 2) (nI (tV L bf (tN L bf (tN L bf p))))) (sp + 6) k = if k = sg 2 then nI (tV L bf (tN L bf (tN L bf p))) else zI M (sp + 6) k := fun k => by
        by_cases e : k = sg 2
        · rw [e, zI_sI1, if_pos rfl]
        · rw [zI_sI2 _ _ _ _ e, if_neg e, F2.i (by omega)]
      have N3 := (N1.fr (fq_J (R := fun q => q = y) f2 rfl) (by omega) (by omega)).fr f3 (by omega) (by omega)
      have hz2 := h2.2.1
      simp (disch := omega) only [k6, e6, hz2, zk_sI, n_vp, n_cl, l_999, not_true_eq_false, Bool.false_eq_true, false_and, Bool.not_false, Bool.not_true, Bool.and_true, Bool.and_false, Bool.false_and, Bool.true_and, true_and, and_true, true_or, or_true, not_false_eq_true, Option.some.injEq, exists_eq_left', forall_eq, ↓reduceIte, Nat.add_zero, Nat.zero_add, and_self]
      obtain ⟨M3, eM3⟩ : ∃ M3, sI M2 (sp + 6) (sg 2) (nI (tV L bf (tN L bf (tN L bf p)))) = M3 := ⟨_, rfl⟩
      rw [eM3] at f3 h3 t3 F3 c6 N3 ⊢
      have hz3 := h3.2.1
      have s13 := h3.2.2.1.1
      refine s_X3_isNumber h3 t3 (by omega) (by omega) _ (fun e4 i6b => ?_) (fun e4 M4 f4 k4 => ?_)
      · simp (disch := omega) only [hz3, s13, n_eqF, not_true_eq_false, Bool.false_eq_true, false_and, Bool.not_false, Bool.not_true, Bool.and_true, Bool.and_false, Bool.false_and, Bool.true_and, true_and, and_true, true_or, or_true, not_false_eq_true, Option.some.injEq, exists_eq_left', forall_eq, ↓reduceIte, Nat.add_zero, Nat.zero_add, and_self]
        refine s_X3_takeNumber h3 hp3 t3 i6b _ fun M4 f4 h4 t4 => ?_
        have F4 : FQ (fun q => q = y ∨ q = sp + 4 ∨ q = sp + 5 ∨ q = sp + 6) M M4 := F3.trans (fq_J f4 (Or.inl rfl))
        have k7 : zk M4 (sp + 7) = 10 := by rw [F4.k]; exact m7
        have e7 : zl M4 (sp + 7) = 8 := by rw [F4.l]; exact l7
        have f5 : FQ (fun q => q = sp + 7) M4 (sI M4 (sp + 7) (sg 2) (nI (tV L bf (tN L bf (tN L bf (tN L bf p)))))) := fq_sI rfl
        have h5 := h4.fq f5 (by omega) (fun b hb => by unfold RPa; omega)
        have t5 := t4.fq f5 (by omega)
        have F5 : FQ (fun q => q = y ∨ q = sp + 4 ∨ q = sp + 5 ∨ q = sp + 6 ∨ q = sp + 7) M (sI M4 (sp + 7) (sg 2) (nI (tV L bf (tN L bf (tN L bf (tN L bf p)))))) := (F4.mono fun b hb => by omega).trans (f5.mono fun b hb => by omega)
        have c7 : ∀ k, zI (sI M4 (sp + 7) (sg 2) (nI (tV L bf (tN L bf (tN L bf (tN L bf p)))))) (sp + 7) k = if k = sg 2 then nI (tV L bf (tN L bf (tN L bf (tN L bf p)))) else zI M (sp + 7) k := fun k => by
          by_cases e : k = sg 2
          · rw [e, zI_sI1, if_pos rfl]
          · rw [zI_sI2 _ _ _ _ e, if_neg e, F4.i (by omega)]
        have N5 := (N3.fr (fq_J (R := fun q => q = y) f4 rfl) (by omega) (by omega)).fr f5 (by omega) (by omega)
        have c6b : zI (sI M4 (sp + 7) (sg 2) (nI (tV L bf (tN L bf (tN L bf (tN L bf p)))))) (sp + 6) = zI M3 (sp + 6) := by rw [f5.i (by omega), (fq_J (R := fun q => q = y) f4 rfl).i (by omega)]
        simp (disch := omega) only [k7, e7, n_vp, n_cl, not_true_eq_false, Bool.false_eq_true, false_and, Bool.not_false, Bool.not_true, Bool.and_true, Bool.and_false, Bool.false_and, Bool.true_and, true_and, and_true, true_or, or_true, not_false_eq_true, Option.some.injEq, exists_eq_left', forall_eq, ↓reduceIte, Nat.add_zero, Nat.zero_add, and_self]
        obtain ⟨M5, eM5⟩ : ∃ M5, sI M4 (sp + 7) (sg 2) (nI (tV L bf (tN L bf (tN L bf (tN L bf p))))) = M5 := ⟨_, rfl⟩
        rw [eM5] at f5 h5 t5 F5 c7 N5 c6b ⊢
        obtain ⟨fee, hfee⟩ : ∃ v, tV L bf (tN L bf (tN L bf (tN L bf p))) = v := ⟨_, rfl⟩
        obtain ⟨cv, hcv⟩ : ∃ v, tV L bf (tN L bf (tN L bf p)) = v := ⟨_, rfl⟩
        obtain ⟨wd_, hwd⟩ : ∃ v, tW L bf (tN L bf p) = v := ⟨_, rfl⟩
        have eL : playerL L bf (p, sg, nm, ct, dt) = instsL L bf (sg 2) 5 (tN L bf (tN L bf (tN L bf (tN L bf p))), playS sg fee, updN nm (8 + sg 2) wd_, ups ct (sg 2) cv, dt) := by
          simp only [playerL, e1, e2, e4, hfee, hcv, hwd, if_true]
        rw [hfee] at c7
        rw [hcv] at c6
        rw [hwd] at N5
        obtain ⟨v, hv⟩ : ∃ v, zI M (sp + 8) (sg 2) = nI v := ⟨_, (nI_x _).symm⟩
        have G : ∀ q, q ≠ y → q ≠ sp + 4 → q ≠ sp + 5 → q ≠ sp + 6 → q ≠ sp + 7 → zI M5 q = zI M q ∧ zJ M5 q = zJ M q := fun q a b c d e => ⟨F5.i (by omega), F5.j (by omega)⟩
        have o_ : ∀ k, k ≠ 2 → k ≠ 9 + 7 * sg 2 → k ≠ 9 + 7 * sg 2 + 3 → ups (playS sg fee) (9 + 7 * sg 2 + 3) v k = sg k := fun k h1 h2 h3 => (ups_o _ _ _ h3).trans (playS_o sg fee h1 h2)
        have o2 : ups (playS sg fee) (9 + 7 * sg 2 + 3) v 2 = sg 2 + 1 := (ups_o _ _ _ (by omega)).trans (playS_2 sg fee)
        have ofe : oP (ups (playS sg fee) (9 + 7 * sg 2 + 3) v) (sg 2) 0 = fee := (ups_o _ _ _ (by omega)).trans (playS_f sg fee)
        have omn : oP (ups (playS sg fee) (9 + 7 * sg 2 + 3) v) (sg 2) 3 = v := ups_1 _ _ _
        have oPe : ∀ q f, q ≠ sg 2 → f < 7 → oP (ups (playS sg fee) (9 + 7 * sg 2 + 3) v) q f = oP sg q f := fun q f h1 h2 => o_ _ (by omega) (by omega) (by omega)
        have oWe : ∀ w f, oW (ups (playS sg fee) (9 + 7 * sg 2 + 3) v) w f = oW sg w f := fun w f => o_ _ (by omega) (by omega) (by omega)
        have gn := g1 (sg 2) (Nat.le_refl _) (by omega)
        have o1n : oP (ups (playS sg fee) (9 + 7 * sg 2 + 3) v) (sg 2) 1 = 0 := (o_ (9 + 7 * sg 2 + 1) (by omega) (by omega) (by omega)).trans gn.1
        have o2n : oP (ups (playS sg fee) (9 + 7 * sg 2 + 3) v) (sg 2) 2 = 0 := (o_ (9 + 7 * sg 2 + 2) (by omega) (by omega) (by omega)).trans gn.2
        have hfn := hf1 (sg 2) (Nat.le_refl _) (by omega)
        have kn : kinds (ups (playS sg fee) (9 + 7 * sg 2 + 3) v) (sg 2) = 0 := by
          unfold kinds
          rw [o2n]; rfl
        have kE : ∀ q, q < sg 2 → kinds (ups (playS sg fee) (9 + 7 * sg 2 + 3) v) q = kinds sg q := fun q hq => by
          have l4 := (sb.2.2.2 q hq).2.1
          unfold kinds
          rw [oPe q 2 (by omega) (by omega)]
          exact fo_ext (N := oP sg q 2) (fun j a hj => by rw [oPe q (3 + j) (by omega) (by omega)]) 0 _ (Nat.le_refl _)
        have sea : CSea sp (ups (playS sg fee) (9 + 7 * sg 2 + 3) v) M5 := by
          refine ⟨h5.2.2.1, ?_, ?_, ?_, ?_, ?_⟩
          · rw [o_ 0 (by omega) (by omega) (by omega), o_ 5 (by omega) (by omega) (by omega), o_ 1 (by omega) (by omega) (by omega), o2, o_ 3 (by omega) (by omega) (by omega), o_ 4 (by omega) (by omega) (by omega), (G sp (by omega) (by omega) (by omega) (by omega) (by omega)).1, (G (sp + 1) (by omega) (by omega) (by omega) (by omega) (by omega)).1, (G (sp + 13) (by omega) (by omega) (by omega) (by omega) (by omega)).1, (G (sp + 11) (by omega) (by omega) (by omega) (by omega) (by omega)).1]
            exact ⟨nn.1, nn.2.1, nn.2.2.1, N5.2.2.2.2.2.1, nn.2.2.2.2.1, nn.2.2.2.2.2⟩
          · intro k hk
            rw [o_ 1 (by omega) (by omega) (by omega)] at hk
            rw [o_ _ (by omega) (by omega) (by omega), (G (sp + 3) (by omega) (by omega) (by omega) (by omega) (by omega)).1]; exact hS.h k hk
          · intro q hq
            rw [o2] at hq
            rw [(G (sp + 8) (by omega) (by omega) (by omega) (by omega) (by omega)).1, (G (sp + 9) (by omega) (by omega) (by omega) (by omega) (by omega)).1, (G (sp + 10) (by omega) (by omega) (by omega) (by omega) (by omega)).1, c7]
            by_cases e : q = sg 2
            · rw [e, ofe, omn, kn, o1n, if_pos rfl]
              exact ⟨rfl, hv, hfn.1, hfn.2⟩
            · rw [if_neg e, kE q (by omega), oPe q 0 e (by omega), oPe q 3 e (by omega), oPe q 1 e (by omega)]
              exact hS.p (by omega)
          · intro w hw
            rw [o_ 3 (by omega) (by omega) (by omega)] at hw
            rw [oWe, oWe, oWe, oWe, oWe, (G (sp + 15) (by omega) (by omega) (by omega) (by omega) (by omega)).1, (G (sp + 16) (by omega) (by omega) (by omega) (by omega) (by omega)).1, (G (sp + 17) (by omega) (by omega) (by omega) (by omega) (by omega)).1, (G (sp + 18) (by omega) (by omega) (by omega) (by omega) (by omega)).1, (G (sp + 19) (by omega) (by omega) (by omega) (by omega) (by omega)).1]
            exact hS.w hw
          · intro w hw j hj
            rw [o_ 3 (by omega) (by omega) (by omega)] at hw
            rw [oWe] at hj ⊢
            rw [(G (sp + 20) (by omega) (by omega) (by omega) (by omega) (by omega)).1]
            exact hS.st hw hj
        have names : CNm sp (ups (playS sg fee) (9 + 7 * sg 2 + 3) v) (updN nm (8 + sg 2) wd_) M5 := by
          unfold CNm
          rw [o_ 1 (by omega) (by omega) (by omega), o2, o_ 3 (by omega) (by omega) (by omega), o_ 4 (by omega) (by omega) (by omega), (G (sp + 2) (by omega) (by omega) (by omega) (by omega) (by omega)).2, (G (sp + 14) (by omega) (by omega) (by omega) (by omega) (by omega)).2, (G (sp + 12) (by omega) (by omega) (by omega) (by omega) (by omega)).2]
          refine ⟨fun k hk => ?_, fun k hk => ?_, fun k hk => ?_, fun k hk => ?_⟩
          · rw [show updN nm (8 + sg 2) wd_ k = nm k from if_neg (by omega)]; exact hNm.1 k hk
          · rw [← addN_upd]; exact (N5.2.2.2.2.2.2.2.2 k hk).1
          · rw [show updN nm (8 + sg 2) wd_ (16 + k) = nm (16 + k) from if_neg (by omega)]; exact hNm.2.2.1 k hk
          · rw [show updN nm (8 + sg 2) wd_ (24 + k) = nm (24 + k) from if_neg (by omega)]; exact hNm.2.2.2 k hk
        have cps : CPS x y z sp L bf (tN L bf (tN L bf (tN L bf (tN L bf p))), ups (playS sg fee) (9 + 7 * sg 2 + 3) v, updN nm (8 + sg 2) wd_, ups ct (sg 2) cv, dt) M5 := by
          refine ⟨h5, t5, ?_, ?_, sea, names, ?_, ?_, ?_, ?_⟩
          · rw [(G z (by omega) (by omega) (by omega) (by omega) (by omega)).1]; exact z2
          · rw [(G z (by omega) (by omega) (by omega) (by omega) (by omega)).1]; exact z3
          · rw [o2]
            intro k hk
            rw [c6b, c6]
            unfold ups
            by_cases e : k = sg 2
            · rw [if_pos e, if_pos e]
            · rw [if_neg e, if_neg e]; exact hct k (by omega)
          · rw [(G sp (by omega) (by omega) (by omega) (by omega) (by omega)).1]; exact hdt
          · rw [o2, (G (sp + 9) (by omega) (by omega) (by omega) (by omega) (by omega)).1, (G (sp + 10) (by omega) (by omega) (by omega) (by omega) (by omega)).1]
            exact fun k a b => hf1 k (by omega) b
          · rw [o_ 3 (by omega) (by omega) (by omega), (G (sp + 19) (by omega) (by omega) (by omega) (by omega) (by omega)).1]; exact hf2
        have iw : Iw L (sg 2) 0 (tN L bf (tN L bf (tN L bf (tN L bf p))), ups (playS sg fee) (9 + 7 * sg 2 + 3) v, updN nm (8 + sg 2) wd_, ups ct (sg 2) cv, dt) := by
          refine ⟨tN_le L bf hp3, ?_, ?_, ?_, o2, by omega, o2n, by omega, fun j hj => absurd hj (Nat.not_lt_zero j), fun k hk => ?_, ?_⟩
          · rw [o_ 1 (by omega) (by omega) (by omega)]; omega
          · rw [o_ 3 (by omega) (by omega) (by omega)]; omega
          · rw [o_ 4 (by omega) (by omega) (by omega)]; omega
          · rw [oPe k 2 (by omega) (by omega)]; exact (sb.2.2.2 k hk).2.1
          · rw [o_ 4 (by omega) (by omega) (by omega)]
            intro k hk
            rw [show updN nm (8 + sg 2) wd_ (24 + k) = nm (24 + k) from if_neg (by omega)]; exact n4 k hk
        have eI : ∀ f, instsL L bf (sg 2) (f + 1) (tN L bf (tN L bf (tN L bf (tN L bf p))), ups (playS sg fee) (9 + 7 * sg 2 + 3) v, updN nm (8 + sg 2) wd_, ups ct (sg 2) cv, dt) = instsL L bf (sg 2) (f + 1) (tN L bf (tN L bf (tN L bf (tN L bf p))), playS sg fee, updN nm (8 + sg 2) wd_, ups ct (sg 2) cv, dt) := fun f => by
          have o3n : oP (playS sg fee) (sg 2) 2 = 0 := (playS_o sg fee (by omega) (by omega)).trans gn.2
          simp only [instsL, instL_v o3n]
        refine ⟨6, s_C_insts 5 0 _ M5 rfl cps iw (Or.inl rfl) (fun s2 e5 M6 f6 c6 => ?_) (fun c q e5 M6 f6 k6 => ?_)⟩
        · exact K1 s2 (by rw [eL, ← eI 4]; exact e5) M6 ((F5.mono fun b hb => by unfold RPa; omega).trans f6) c6
        · exact K0 c q (by rw [eL, ← eI 4]; exact e5) M6 ((F5.mono fun b hb => by unfold RPa; omega).trans f6) k6
      · simp (disch := omega) only [n_eqT, not_true_eq_false, Bool.false_eq_true, false_and, Bool.not_false, Bool.not_true, Bool.and_true, Bool.and_false, Bool.false_and, Bool.true_and, true_and, and_true, true_or, or_true, not_false_eq_true, Option.some.injEq, exists_eq_left', forall_eq, ↓reduceIte, Nat.add_zero, Nat.zero_add, and_self]
        exact K0 _ _ (by simp only [playerL, e1, e2, e4, if_true, if_false]) M4 ((F3.mono fun b hb => by unfold RPa; omega).trans f4) k4
    · simp (disch := omega) only [n_eqT, not_true_eq_false, Bool.false_eq_true, false_and, Bool.not_false, Bool.not_true, Bool.and_true, Bool.and_false, Bool.false_and, Bool.true_and, true_and, and_true, true_or, or_true, not_false_eq_true, Option.some.injEq, exists_eq_left', forall_eq, ↓reduceIte, Nat.add_zero, Nat.zero_add, and_self]
      exact K0 _ _ (by simp only [playerL, e1, e2, if_false]) M2 ((F1.mono fun b hb => by unfold RPa; omega).trans f2) k2
  · simp (disch := omega) only [l_0, n_eqT, not_true_eq_false, Bool.false_eq_true, false_and, Bool.not_false, Bool.not_true, Bool.and_true, Bool.and_false, Bool.false_and, Bool.true_and, true_and, and_true, true_or, or_true, not_false_eq_true, Option.some.injEq, exists_eq_left', forall_eq, ↓reduceIte, Nat.add_zero, Nat.zero_add, and_self]
    exact K0 c q (by simp only [playerL, e1]) M1 f1 k1
end PCQ
