/-! PARSE: an instrument of a player's line, in the class -/
section PIC
variable {x y z sp L p n t : Nat} {bf : Nat → Int32} {sg ct : Nat → Nat} {nm : Nat → List Nat} {dt : Bool} {M : Mm}
theorem RT.fq {R : Nat → Prop} {M' : Mm} (h : RT y L bf p M) (f : FQ R M M') (d : ¬ R y) : RT y L bf p M' := by
  unfold RT at h ⊢
  rw [f.i d, f.j d]; exact h
theorem PCx.fq {R : Nat → Prop} {M' : Mm} (h : PCx x y z sp L bf M) (f : FQ R M M') (d : ¬ R y) (d2 : ∀ b, R b → RPa y z sp b) : PCx x y z sp L bf M' :=
  h.fr ⟨f.1, f.2.1, f.2.2.1, f.2.2.2.1, fun q hq => f.i fun w => hq (d2 q w), fun q hq => f.j fun w => hq (d2 q w)⟩ (by rw [f.i d])
theorem FQ.mono {R S : Nat → Prop} {M' : Mm} (f : FQ R M M') (d : ∀ b, R b → S b) : FQ S M M' :=
  ⟨f.1, f.2.1, f.2.2.1, f.2.2.2.1, fun q hq => f.i fun w => hq (d q w), fun q hq => f.j fun w => hq (d q w)⟩
theorem inst_cps (h : CPS x y z sp L bf (p, sg, nm, ct, dt) M) (iw : Iw L n t (p, sg, nm, ct, dt)) {j : Nat} {nm2 : Nat → List Nat} {M4 : Mm}
    (F : FQ (fun q => q = y ∨ q = sp + 8 ∨ q = sp + 9 ∨ q = sp + 11 ∨ q = sp + 12) M M4) (h4 : PCx x y z sp L bf M4) (t4 : RT y L bf (tN L bf p) M4) (ht : t < 4)
    (e11 : zI M4 (sp + 11) 1 = nI (if j < sg 4 then sg 4 else sg 4 + 1)) (hn : ∀ k, k < (if j < sg 4 then sg 4 else sg 4 + 1) → zJ M4 (sp + 12) k = c5 (nm2 (24 + k))) (no : ∀ k, k < 24 → nm2 k = nm k)
    (e8 : ∀ k, zI M4 (sp + 8) k = if t = 0 ∧ k = n then nI j else zI M (sp + 8) k) (e9 : ∀ k, zI M4 (sp + 9) k = if k = n then nI (kinds sg n ||| 2 ^ j) else zI M (sp + 9) k) :
    CPS x y z sp L bf (tN L bf p, instS sg n j, nm2, ct, dt) M4 := by
  obtain ⟨hc, tt, z2, z3, hS, hNm, hct, hdt, hf1, hf2⟩ := h
  obtain ⟨i1, i2, i3, i4, i5, i6, i7, i8, i9, i10, i11⟩ := iw
  have nn := hS.n
  have d := hc.2.2.2
  have G : ∀ q, q ≠ y → q ≠ sp + 8 → q ≠ sp + 9 → q ≠ sp + 11 → q ≠ sp + 12 → zI M4 q = zI M q ∧ zJ M4 q = zJ M q := fun q a b c d e => ⟨F.i (by omega), F.j (by omega)⟩
  have o_ : ∀ k, k < 9 → k ≠ 4 → instS sg n j k = sg k := fun k a b => instS_o n j b (by omega) (by omega)
  have oPe : ∀ q f, q ≠ n → f < 7 → oP (instS sg n j) q f = oP sg q f := fun q f h1 h2 => instS_o n j (by omega) (by omega) (by omega)
  have oWe : ∀ w f, oW (instS sg n j) w f = oW sg w f := fun w f => instS_o n j (by omega) (by omega) (by omega)
  have sea : CSea sp (instS sg n j) M4 := by
    refine ⟨h4.2.2.1, ?_, ?_, ?_, ?_, ?_⟩
    · rw [o_ 0 (by omega) (by omega), o_ 5 (by omega) (by omega), o_ 1 (by omega) (by omega), o_ 2 (by omega) (by omega), o_ 3 (by omega) (by omega), instS_4, (G sp (by omega) (by omega) (by omega) (by omega) (by omega)).1, (G (sp + 1) (by omega) (by omega) (by omega) (by omega) (by omega)).1, (G (sp + 4) (by omega) (by omega) (by omega) (by omega) (by omega)).1, (G (sp + 13) (by omega) (by omega) (by omega) (by omega) (by omega)).1]
      exact ⟨nn.1, nn.2.1, nn.2.2.1, nn.2.2.2.1, nn.2.2.2.2.1, e11⟩
    · intro k hk
      rw [o_ 1 (by omega) (by omega)] at hk
      rw [o_ _ (by omega) (by omega), (G (sp + 3) (by omega) (by omega) (by omega) (by omega) (by omega)).1]; exact hS.h k hk
    · intro q hq
      rw [o_ 2 (by omega) (by omega)] at hq
      have old := hS.p hq
      rw [(G (sp + 7) (by omega) (by omega) (by omega) (by omega) (by omega)).1, (G (sp + 10) (by omega) (by omega) (by omega) (by omega) (by omega)).1, e8, e9]
      by_cases e : q = n
      · subst e
        rw [if_pos rfl, kinds_inst, show oP (instS sg q j) q 0 = oP sg q 0 from instS_o q j (by omega) (by omega) (by omega), show oP (instS sg q j) q 1 = oP sg q 1 from instS_o q j (by omega) (by omega) (by omega)]
        refine ⟨old.1, ?_, rfl, old.2.2.2⟩
        by_cases c : t = 0
        · rw [if_pos ⟨c, rfl⟩]
          have w := instS_j (sg := sg) q j
          rw [i7, c] at w
          exact congrArg nI w.symm
        · rw [if_neg (fun u => c u.1), show oP (instS sg q j) q 3 = oP sg q 3 from instS_o q j (by omega) (by omega) (by omega)]
          exact old.2.1
      · rw [if_neg (fun u => e u.2), if_neg e, kinds_insto (by omega) (i10 q (by omega)), oPe q 0 e (by omega), oPe q 3 e (by omega), oPe q 1 e (by omega)]
        exact old
    · intro w hw
      rw [o_ 3 (by omega) (by omega)] at hw
      rw [oWe, oWe, oWe, oWe, oWe, (G (sp + 15) (by omega) (by omega) (by omega) (by omega) (by omega)).1, (G (sp + 16) (by omega) (by omega) (by omega) (by omega) (by omega)).1, (G (sp + 17) (by omega) (by omega) (by omega) (by omega) (by omega)).1, (G (sp + 18) (by omega) (by omega) (by omega) (by omega) (by omega)).1, (G (sp + 19) (by omega) (by omega) (by omega) (by omega) (by omega)).1]
      exact hS.w hw
    · intro w hw j hj
      rw [o_ 3 (by omega) (by omega)] at hw
      rw [oWe] at hj ⊢
      rw [(G (sp + 20) (by omega) (by omega) (by omega) (by omega) (by omega)).1]
      exact hS.st hw hj
  have names : CNm sp (instS sg n j) nm2 M4 := by
    unfold CNm
    rw [o_ 1 (by omega) (by omega), o_ 2 (by omega) (by omega), o_ 3 (by omega) (by omega), instS_4, (G (sp + 2) (by omega) (by omega) (by omega) (by omega) (by omega)).2, (G (sp + 5) (by omega) (by omega) (by omega) (by omega) (by omega)).2, (G (sp + 14) (by omega) (by omega) (by omega) (by omega) (by omega)).2]
    refine ⟨fun k hk => ?_, fun k hk => ?_, fun k hk => ?_, hn⟩
    · rw [no k (by omega)]; exact hNm.1 k hk
    · rw [no _ (by omega)]; exact hNm.2.1 k hk
    · rw [no _ (by omega)]; exact hNm.2.2.1 k hk
  refine ⟨h4, t4, ?_, ?_, sea, names, ?_, ?_, ?_, ?_⟩
  · rw [(G z (by omega) (by omega) (by omega) (by omega) (by omega)).1]; exact z2
  · rw [(G z (by omega) (by omega) (by omega) (by omega) (by omega)).1]; exact z3
  · rw [o_ 2 (by omega) (by omega), (G (sp + 6) (by omega) (by omega) (by omega) (by omega) (by omega)).1]; exact hct
  · rw [(G sp (by omega) (by omega) (by omega) (by omega) (by omega)).1]; exact hdt
  · rw [o_ 2 (by omega) (by omega), (G (sp + 10) (by omega) (by omega) (by omega) (by omega) (by omega)).1]
    intro k a b
    rw [e9, if_neg (by omega)]; exact hf1 k a b
  · rw [o_ 3 (by omega) (by omega), (G (sp + 19) (by omega) (by omega) (by omega) (by omega) (by omega)).1]; exact hf2
theorem s_X3_readInstrument (h : CPS x y z sp L bf (p, sg, nm, ct, dt) M) (iw : Iw L n t (p, sg, nm, ct, dt)) (P : Int32 → Mm → Prop)
    (K1 : ∀ s2, instL L bf n (p, sg, nm, ct, dt) = Sum.inr s2 → ∀ M', FQ (RPa y z sp) M M' → CPS x y z sp L bf s2 M' → P (nI 1) M')
    (K0 : ∀ c q, instL L bf n (p, sg, nm, ct, dt) = Sum.inl (c, q) → ∀ M', FQ (RPa y z sp) M M' → CFl z c q M' → P (nI 0) M') : w_X3_readInstrument M z (nI n) (nI t) P := by
  have h0 := h
  have iw0 := iw
  obtain ⟨hc, tt, z2, z3, hS, hNm, hct, hdt, hf1, hf2⟩ := h
  obtain ⟨i1, i2, i3, i4, i5, i6, i7, i8, i9, i10, i11⟩ := iw
  have sh := hS.1
  obtain ⟨s1, ⟨-, -, -, -, a5, a6, -, -, -, -, b3, -⟩, ⟨-, -, -, m8, m9, -⟩, -, -, -, -, -, l8, l9, -, l12, -⟩ := sh
  have nn := hS.n
  have d := hc.2.2.2
  have hz := hc.2.1
  have r := hc.1
  have t3 := tt.2.1
  have kb := tK_b (L := L) (bf := bf) (p := p)
  have hN : NMS (sp + 11) (sp + 12) 8 (sg 4) (fun k => nm (24 + k)) M := ⟨a5, a6, b3, l12, by omega, nn.2.2.2.2.2, i4, by omega, fun k hk => ⟨hNm.2.2.2 k hk, i11 k hk⟩⟩
  by_cases c1 : tK L bf p = 1
  · have t3b : zI M y 3 = nI 1 := by rw [t3, c1]
    have j5 := tt.2.2.2.1 c1
    have okw := tK_1 (fun i hi => (r.2.2.2.2.2.2.2 i hi).2) c1
    have l := nj_le (L := L) (bf := bf) (p := p) (sg := sg) (nm := nm)
    have No : ∀ k, k < 24 → (if nj L bf p sg nm < sg 4 then nm else updN nm (24 + nj L bf p sg nm) (tW L bf p)) k = nm k := fun k hk => instNo hk
    obtain ⟨j, hj⟩ : ∃ j, nj L bf p sg nm = j := ⟨_, rfl⟩
    have hj2 : fi (fun k => decide (nm (24 + k) = tW L bf p)) (sg 4) = j := hj
    rw [hj] at l No
    have va : zI M (sp + 9) n = nI (kinds sg n) := (hS.p (by omega)).2.2.1
    have kl : kinds sg n < 256 := kinds_l8 (fun i hi => i9 i (by omega))
    have eL : ¬ (j < sg 4 ∧ (kinds sg n).testBit j = true) → t ≠ 4 → (j < sg 4 ∨ sg 4 ≠ 8) → instL L bf n (p, sg, nm, ct, dt) = Sum.inr (tN L bf p, instS sg n j, (if j < sg 4 then nm else updN nm (24 + j) (tW L bf p)), ct, dt) := by
      intro a b c
      simp only [instL]
      rw [if_pos c1, hj, if_neg a, if_neg (by omega)]
    have e5 : ¬ (j < sg 4 ∧ (kinds sg n).testBit j = true) → (t = 4 ∨ ¬ j < sg 4 ∧ sg 4 = 8) → instL L bf n (p, sg, nm, ct, dt) = Sum.inl (5, tS L bf p) := by
      intro a b
      simp only [instL]
      rw [if_pos c1, hj, if_neg a, if_pos (by omega)]
    have fail5 : ¬ (j < sg 4 ∧ (kinds sg n).testBit j = true) → (t = 4 ∨ ¬ j < sg 4 ∧ sg 4 = 8) → w_X3_fail M z (nI 5) (fun r3 M3 => (r3 = nI 0 ∨ r3 = nI 1) ∧ P r3 M3) := fun a b =>
      s_X3_fail (c := 5) hc tt _ fun M1 f1 g1 e1 => ⟨Or.inl rfl, K0 5 _ (e5 a b) M1 f1 e1⟩
    have tail : ¬ (j < sg 4 ∧ (kinds sg n).testBit j = true) → t ≠ 4 → (j < sg 4 ∨ sg 4 ≠ 8) → ∀ M1 M3, FQ (fun q => q = sp + 11 ∨ q = sp + 12) M M1 → zI M1 (sp + 11) 1 = nI (if j < sg 4 then sg 4 else sg 4 + 1) → (∀ k, k < (if j < sg 4 then sg 4 else sg 4 + 1) → zJ M1 (sp + 12) k = c5 ((if j < sg 4 then nm else updN nm (24 + j) (tW L bf p)) (24 + k))) →
        FQ (fun q => q = sp + 8 ∨ q = sp + 9) M1 M3 → (∀ k, zI M3 (sp + 8) k = if t = 0 ∧ k = n then nI j else zI M1 (sp + 8) k) → (∀ k, zI M3 (sp + 9) k = if k = n then nI (kinds sg n ||| 2 ^ j) else zI M1 (sp + 9) k) → w_X5_advance M3 y (fun M5 => P (nI 1) M5) := by
      intro a b c M1 M3 f1 e11 hn f3 e8 e9
      have F3 : FQ (fun q => q = sp + 8 ∨ q = sp + 9 ∨ q = sp + 11 ∨ q = sp + 12) M M3 := (f1.mono fun b hb => by omega).trans (f3.mono fun b hb => by omega)
      have h3 := hc.fq F3 (by omega) (fun b hb => by unfold RPa; omega)
      refine s_P_advance h3 i1 (tt.fq F3 (by omega)) _ fun M5 f5 h5 t5 => ?_
      have f5q : FQ (fun q => q = y) M3 M5 := fq_J f5 rfl
      have F5 : FQ (fun q => q = y ∨ q = sp + 8 ∨ q = sp + 9 ∨ q = sp + 11 ∨ q = sp + 12) M M5 := (F3.mono fun b hb => by omega).trans (f5q.mono fun b hb => by omega)
      refine K1 _ (eL a b c) M5 (F5.mono fun b hb => by unfold RPa; omega) (inst_cps h0 iw0 F5 h5 t5 (by omega) ?_ (fun k hk => ?_) No (fun k => ?_) fun k => ?_)
      · rw [f5q.i (by omega), f3.i (by omega)]; exact e11
      · rw [f5q.j (by omega), f3.j (by omega)]; exact hn k hk
      · rw [f5q.i (by omega), e8, f1.i (by omega)]
      · rw [f5q.i (by omega), e9, f1.i (by omega)]
    have w0 : ∀ M1, (∀ k, zI (sI (sI M1 (sp + 8) n (nI j)) (sp + 9) n (nI (kinds sg n ||| 2 ^ j))) (sp + 8) k = if 0 = 0 ∧ k = n then nI j else zI M1 (sp + 8) k) ∧ (∀ k, zI (sI (sI M1 (sp + 8) n (nI j)) (sp + 9) n (nI (kinds sg n ||| 2 ^ j))) (sp + 9) k = if k = n then nI (kinds sg n ||| 2 ^ j) else zI M1 (sp + 9) k) := by
      intro M1
      refine ⟨fun k => ?_, fun k => ?_⟩
      · rw [zI_sIo _ _ _ _ (by omega)]
        by_cases e : k = n
        · rw [e, zI_sI1, if_pos ⟨rfl, rfl⟩]
        · rw [zI_sI2 _ _ _ _ e, if_neg fun u => e u.2]
      · by_cases e : k = n
        · rw [e, zI_sI1, if_pos rfl]
        · rw [zI_sI2 _ _ _ _ e, if_neg e, zI_sIo _ _ _ _ (by omega)]
    have w1 : t ≠ 0 → ∀ M1, (∀ k, zI (sI M1 (sp + 9) n (nI (kinds sg n ||| 2 ^ j))) (sp + 8) k = if t = 0 ∧ k = n then nI j else zI M1 (sp + 8) k) ∧ (∀ k, zI (sI M1 (sp + 9) n (nI (kinds sg n ||| 2 ^ j))) (sp + 9) k = if k = n then nI (kinds sg n ||| 2 ^ j) else zI M1 (sp + 9) k) := by
      intro c M1
      refine ⟨fun k => ?_, fun k => ?_⟩
      · rw [zI_sIo _ _ _ _ (by omega), if_neg fun u => c u.1]
      · by_cases e : k = n
        · rw [e, zI_sI1, if_pos rfl]
        · rw [zI_sI2 _ _ _ _ e, if_neg e]
    have q8 : zR M sp 8 = some (sp + 8) := by simp only [s1]
    have q9 : zR M sp 9 = some (sp + 9) := by simp only [s1]
    have q11 : zR M sp 11 = some (sp + 11) := by simp only [s1]
    have vp9 : vp_in (nI n) (zl M (sp + 9)) := by rw [l9]; exact vpn i6 (by decide)
    have cn : (nI n).toNatClampNeg = n := n_cl (by omega)
    have mm : nI 4294967295 = (-1 : Int32) := by decide
    have t40 : t ≠ 4 → ¬ (4 : Int32) ≤ nI t := fun c => nI_ge (b := 4) (show t < 4 by omega) (by decide)
    have t41 : t = 4 → (4 : Int32) ≤ nI t := fun c => by rw [c]; decide
    have t00 : t ≠ 0 → ¬ nI t = (0 : Int32) := fun c u => by rw [l_0, n_eqF c (by omega) (by omega)] at u; exact u
    have head : ∀ r5, fst (fun k => decide (nm (24 + k) = tW L bf p)) (sg 4) = r5 → ∀ B : Int32 → Mm → Prop, B r5 M → w_X2_numberOf M (sp + 11) (zJ M y 5) B := by
      intro r5 e B hB
      rw [j5]
      refine (s_X2_find hN okw B).mpr ?_
      rw [e]; exact hB
    refine ⟨hz.1, y, hz.2.1, r.1, ifp (by rw [t3b]; rfl) ⟨hz.1, sp, hz.2.2, s1.1, sp + 11, q11, hz.1, y, hz.2.1, r.1, a5, ?_⟩⟩
    by_cases c2 : j < sg 4
    · have fe : fst (fun k => decide (nm (24 + k) = tW L bf p)) (sg 4) = nI j := by
        rw [fst_lt (show fi (fun k => decide (nm (24 + k) = tW L bf p)) (sg 4) < sg 4 by rw [hj2]; exact c2), hj2]
      have jm : ¬ nI j = (-1 : Int32) := fun u => by rw [← mm, n_eqF (by omega) (by omega) (by omega)] at u; exact u
      refine head _ fe _ (ifn jm ⟨hz.1, sp, hz.2.2, s1.1, sp + 9, q9, m9, vp9, ?_⟩)
      rw [cn, va]
      refine (e_has (by omega) (by omega) _).mpr ?_
      by_cases c3 : (kinds sg n).testBit j = true
      · have F := s_X3_fail (c := 2) hc tt (fun r3 M3 => (r3 = nI 0 ∨ r3 = nI 1) ∧ P r3 M3) fun M1 f1 g1 e1 => ⟨Or.inl rfl, K0 2 _ (by simp only [instL]; rw [if_pos c1, hj, if_pos ⟨c2, c3⟩]) M1 f1 e1⟩
        rw [c3]
        exact ifn (by decide) ⟨hz.1, F⟩
      · have c4 := b_no c3
        have na : ¬ (j < sg 4 ∧ (kinds sg n).testBit j = true) := fun u => c3 u.2
        rw [c4]
        refine ifp (by decide) ?_
        by_cases d5 : t = 4
        · exact ifp (t41 d5) ⟨hz.1, fail5 na (Or.inl d5)⟩
        · have e4 : (if j < sg 4 then sg 4 else sg 4 + 1) = sg 4 := if_pos c2
          have e6 : (if j < sg 4 then nm else updN nm (24 + j) (tW L bf p)) = nm := if_pos c2
          rw [e4, e6] at tail
          refine ifn (t40 d5) (ifn jm (ifn jm ?_))
          by_cases c6 : t = 0
          · subst c6
            have v9 : ∀ v, zI (sI M (sp + 8) n v) (sp + 9) n = nI (kinds sg n) := fun v => by rw [zI_sIo _ _ _ _ (by omega)]; exact va
            have T := tail na d5 (Or.inl c2) M (sI (sI M (sp + 8) n (nI j)) (sp + 9) n (nI (kinds sg n ||| 2 ^ j))) FQ.rf nn.2.2.2.2.2 hNm.2.2.2 ((fq_sI (Or.inl rfl)).trans (fq_sI (Or.inr rfl))) (w0 M).1 (w0 M).2
            refine ifp rfl ?_
            simp (disch := omega) only [hz, r.1, s1, m8, l8, m9, l9, v9, l_0, l_1, n_eqT, n_eqF, n_vp, n_cl, zk_sI, zl_sI, zR_sI, l_31, fa_andq, n_shl, fa_orq, not_true_eq_false, Bool.false_eq_true, false_and, Bool.not_false, Bool.not_true, Bool.and_true, Bool.and_false, Bool.false_and, Bool.true_and, true_and, and_true, true_or, or_true, not_false_eq_true, Option.some.injEq, exists_eq_left', forall_eq, ↓reduceIte, Nat.add_zero, Nat.zero_add, and_self]
            exact T
          · have T := tail na d5 (Or.inl c2) M (sI M (sp + 9) n (nI (kinds sg n ||| 2 ^ j))) FQ.rf nn.2.2.2.2.2 hNm.2.2.2 (fq_sI (Or.inr rfl)) (w1 c6 M).1 (w1 c6 M).2
            refine ifn (t00 c6) ?_
            simp (disch := omega) only [hz, r.1, s1, m9, l9, va, l_0, l_1, n_eqT, n_eqF, n_vp, n_cl, zk_sI, zl_sI, zR_sI, l_31, fa_andq, n_shl, fa_orq, not_true_eq_false, Bool.false_eq_true, false_and, Bool.not_false, Bool.not_true, Bool.and_true, Bool.and_false, Bool.false_and, Bool.true_and, true_and, and_true, true_or, or_true, not_false_eq_true, Option.some.injEq, exists_eq_left', forall_eq, ↓reduceIte, Nat.add_zero, Nat.zero_add, and_self]
            exact T
    · have fe : fst (fun k => decide (nm (24 + k) = tW L bf p)) (sg 4) = nI 4294967295 := by
        unfold fst
        rw [if_neg (show ¬ fi (fun k => decide (nm (24 + k) = tW L bf p)) (sg 4) < sg 4 by rw [hj2]; exact c2)]
      have na : ¬ (j < sg 4 ∧ (kinds sg n).testBit j = true) := fun u => c2 u.1
      refine head _ fe _ (ifp mm ?_)
      by_cases d5 : t = 4
      · exact ifp (t41 d5) ⟨hz.1, fail5 na (Or.inl d5)⟩
      · refine ifn (t40 d5) (ifp mm ⟨hz.1, sp, hz.2.2, s1.1, sp + 11, q11, a5, (e_X2_isFull hN _).mpr ?_⟩)
        by_cases c7 : sg 4 = 8
        · have F := fail5 na (Or.inr ⟨c2, c7⟩)
          rw [decide_eq_true c7]
          exact ifn (by decide) ⟨hz.1, F⟩
        · rw [decide_eq_false c7]
          have je : j = sg 4 := by omega
          have e4 : (if j < sg 4 then sg 4 else sg 4 + 1) = sg 4 + 1 := if_neg c2
          have e6 : (if j < sg 4 then nm else updN nm (24 + j) (tW L bf p)) = updN nm (24 + j) (tW L bf p) := if_neg c2
          rw [e4, e6] at tail
          have add : ∀ Q : Int32 → Mm → Prop, (∀ M1, FQ (fun q => q = sp + 11 ∨ q = sp + 12) M M1 → zI M1 (sp + 11) 1 = nI (sg 4 + 1) → (∀ k, k < sg 4 + 1 → zJ M1 (sp + 12) k = c5 (updN nm (24 + j) (tW L bf p) (24 + k))) → Q (nI j) M1) → w_X2_add M (sp + 11) (zJ M y 5) Q := by
            intro Q q
            rw [j5]
            refine s_X2_add hN (by omega) okw _ fun M1 f1 g1 g2 n1 => ?_
            rw [← je]
            refine q M1 f1 n1.2.2.2.2.2.1 fun k hk => ?_
            rw [(n1.2.2.2.2.2.2.2.2 k hk).1]
            unfold addN updN
            by_cases e : k = sg 4
            · rw [if_pos e, if_pos (by omega)]
            · rw [if_neg e, if_neg (by omega)]
          refine ifp (by decide) (ifp mm ⟨hz.1, sp, hz.2.2, s1.1, sp + 11, q11, hz.1, y, hz.2.1, r.1, a5, add _ fun M1 f1 q1 q2 => ?_⟩)
          have va1 : zI M1 (sp + 9) n = nI (kinds sg n) := by rw [f1.i (by omega)]; exact va
          by_cases c6 : t = 0
          · subst c6
            have v9 : ∀ v, zI (sI M1 (sp + 8) n v) (sp + 9) n = nI (kinds sg n) := fun v => by rw [zI_sIo _ _ _ _ (by omega)]; exact va1
            have T := tail na d5 (Or.inr c7) M1 (sI (sI M1 (sp + 8) n (nI j)) (sp + 9) n (nI (kinds sg n ||| 2 ^ j))) f1 q1 q2 ((fq_sI (Or.inl rfl)).trans (fq_sI (Or.inr rfl))) (w0 M1).1 (w0 M1).2
            refine ifp rfl ?_
            simp (disch := omega) only [f1.k, f1.l, f1.r, hz, r.1, s1, m8, l8, m9, l9, v9, l_0, l_1, n_eqT, n_eqF, n_vp, n_cl, zk_sI, zl_sI, zR_sI, l_31, fa_andq, n_shl, fa_orq, not_true_eq_false, Bool.false_eq_true, false_and, Bool.not_false, Bool.not_true, Bool.and_true, Bool.and_false, Bool.false_and, Bool.true_and, true_and, and_true, true_or, or_true, not_false_eq_true, Option.some.injEq, exists_eq_left', forall_eq, ↓reduceIte, Nat.add_zero, Nat.zero_add, and_self]
            exact T
          · have T := tail na d5 (Or.inr c7) M1 (sI M1 (sp + 9) n (nI (kinds sg n ||| 2 ^ j))) f1 q1 q2 (fq_sI (Or.inr rfl)) (w1 c6 M1).1 (w1 c6 M1).2
            refine ifn (t00 c6) ?_
            simp (disch := omega) only [f1.k, f1.l, f1.r, hz, r.1, s1, m9, l9, va1, l_0, l_1, n_eqT, n_eqF, n_vp, n_cl, zk_sI, zl_sI, zR_sI, l_31, fa_andq, n_shl, fa_orq, not_true_eq_false, Bool.false_eq_true, false_and, Bool.not_false, Bool.not_true, Bool.and_true, Bool.and_false, Bool.false_and, Bool.true_and, true_and, and_true, true_or, or_true, not_false_eq_true, Option.some.injEq, exists_eq_left', forall_eq, ↓reduceIte, Nat.add_zero, Nat.zero_add, and_self]
            exact T
  · have F := s_X3_fail (c := 1) hc tt (fun r3 M3 => (r3 = nI 0 ∨ r3 = nI 1) ∧ P r3 M3) fun M1 f1 g1 e1 => ⟨Or.inl rfl, K0 1 _ (by simp only [instL]; rw [if_neg c1]) M1 f1 e1⟩
    exact ⟨hz.1, y, hz.2.1, r.1, ifn (fun u => by rw [t3, l_1, n_eqF c1 (by omega) (by omega)] at u; exact u) ⟨hz.1, F⟩⟩
end PIC
