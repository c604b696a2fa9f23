/-! append and parse, the class's calls with good arguments -/
theorem ok_append {x : Nat} {sg pl : Nat → Nat} {hn : Nat} {hl : Nat → Nat → Nat} {sv : Nat → Bool} {sl : Nat → Nat → Nat} {bl : Nat} {bf : Nat → Int32} {ep : Nat} {nm : Nat → List Nat} (ok : OKs (sg, pl, hn, hl, sv, sl, bl, bf, ep, nm)) (a b c d e : Int32) (hbl : bl ≤ 580) : OKs (sg, pl, hn, hl, sv, sl, bl + 4 + 4 + 4 + 4 + 4, ap20 bl bf a b c d e, ep, nm) := by
  obtain ⟨hs, hp, h10, hhl, hsl, hbl, hby, hep, nm1, nm2, nm3, nm4⟩ := ok
  exact ⟨hs, hp, h10, hhl, hsl, by omega, ap4_ok (ap4_ok (ap4_ok (ap4_ok (ap4_ok hby (Nat.le_refl _)) (Nat.le_refl _)) (Nat.le_refl _)) (Nat.le_refl _)) (Nat.le_refl _), hep, nm1, nm2, nm3, nm4⟩
theorem cc_append {x : Nat} {sg pl : Nat → Nat} {hn : Nat} {hl : Nat → Nat → Nat} {sv : Nat → Bool} {sl : Nat → Nat → Nat} {bl : Nat} {bf : Nat → Int32} {ep : Nat} {nm : Nat → List Nat} (ok : OKs (sg, pl, hn, hl, sv, sl, bl, bf, ep, nm)) (a b c d e : Int32) (h0 : bl ≤ 580) (M : Mm) (P : Int32 → Mm → Prop) (q : CI x (sg, pl, hn, hl, sv, sl, bl, bf, ep, nm) M) (K : ∀ M', CI x (sg, pl, hn, hl, sv, sl, bl + 4 + 4 + 4 + 4 + 4, ap20 bl bf a b c d e, ep, nm) M' → FrG x (x + 149) M M' → P (nI (bl + 4 + 4 + 4 + 4 + 4)) M') : w_X7_append M x a b c d e P := by
  obtain ⟨hs, hp, h10, hhl, hsl, hbl, hby, hep, nm1, nm2, nm3, nm4⟩ := ok
  have q0 := q
  obtain ⟨c10, sa, sp, hps, hx, hS, hS2, hP, hD, hH, hN, hB, hNm, hKP⟩ := q0
  have b0 : BS x 7 (x + 1) bl bf M := ⟨hB.1, hB.2.2⟩
  simp (disch := omega) only [w_X7_append, hx.s, hB.1, l_580, n_leT, not_true_eq_false, Bool.false_eq_true, false_and, Bool.not_false, Bool.not_true, Bool.and_true, Bool.and_false, Bool.false_and, Bool.true_and, true_and, and_true, true_or, or_true, not_false_eq_true, Option.some.injEq, exists_eq_left', forall_eq, ↓reduceIte, Nat.add_zero, Nat.zero_add, and_self]
  refine s_X7_appendFour hx.s.1.1 hx.s.1.2.1 hx.s.2.1 hx.s.2.2.1 b0 (by omega) _ fun M1 f1 g1 b1 => ?_
  have x1 := (hx.fr f1).s
  simp only [x1.1.1, not_true_eq_false, Bool.false_eq_true, false_and, Bool.not_false, Bool.not_true, Bool.and_true, Bool.and_false, Bool.false_and, Bool.true_and, true_and, and_true, true_or, or_true, not_false_eq_true, Option.some.injEq, exists_eq_left', forall_eq, ↓reduceIte, Nat.add_zero, Nat.zero_add, and_self]
  refine s_X7_appendFour x1.1.1 x1.1.2.1 x1.2.1 x1.2.2.1 b1 (by omega) _ fun M2 f2 g2 b2 => ?_
  have x2 := (hx.fr (f1.trans f2)).s
  simp only [x2.1.1, not_true_eq_false, Bool.false_eq_true, false_and, Bool.not_false, Bool.not_true, Bool.and_true, Bool.and_false, Bool.false_and, Bool.true_and, true_and, and_true, true_or, or_true, not_false_eq_true, Option.some.injEq, exists_eq_left', forall_eq, ↓reduceIte, Nat.add_zero, Nat.zero_add, and_self]
  refine s_X7_appendFour x2.1.1 x2.1.2.1 x2.2.1 x2.2.2.1 b2 (by omega) _ fun M3 f3 g3 b3 => ?_
  have x3 := (hx.fr ((f1.trans f2).trans f3)).s
  simp only [x3.1.1, not_true_eq_false, Bool.false_eq_true, false_and, Bool.not_false, Bool.not_true, Bool.and_true, Bool.and_false, Bool.false_and, Bool.true_and, true_and, and_true, true_or, or_true, not_false_eq_true, Option.some.injEq, exists_eq_left', forall_eq, ↓reduceIte, Nat.add_zero, Nat.zero_add, and_self]
  refine s_X7_appendFour x3.1.1 x3.1.2.1 x3.2.1 x3.2.2.1 b3 (by omega) _ fun M4 f4 g4 b4 => ?_
  have x4 := (hx.fr (((f1.trans f2).trans f3).trans f4)).s
  simp only [x4.1.1, not_true_eq_false, Bool.false_eq_true, false_and, Bool.not_false, Bool.not_true, Bool.and_true, Bool.and_false, Bool.false_and, Bool.true_and, true_and, and_true, true_or, or_true, not_false_eq_true, Option.some.injEq, exists_eq_left', forall_eq, ↓reduceIte, Nat.add_zero, Nat.zero_add, and_self]
  refine s_X7_appendFour x4.1.1 x4.1.2.1 x4.2.1 x4.2.2.1 b4 (by omega) _ fun M5 f5 g5 b5 => ?_
  have F := (((f1.trans f2).trans f3).trans f4).trans f5
  have x5 := (hx.fr F).s
  have z5 := b5.1
  simp only [x5.1.1, z5, not_true_eq_false, Bool.false_eq_true, false_and, Bool.not_false, Bool.not_true, Bool.and_true, Bool.and_false, Bool.false_and, Bool.true_and, true_and, and_true, true_or, or_true, not_false_eq_true, Option.some.injEq, exists_eq_left', forall_eq, ↓reduceIte, Nat.add_zero, Nat.zero_add, and_self]
  exact K M5 (q.bu F (fun j hj => by rw [g5 j hj, g4 j hj, g3 j hj, g2 j hj, g1 j hj]) b5) (F.g fun b hb => by omega)
