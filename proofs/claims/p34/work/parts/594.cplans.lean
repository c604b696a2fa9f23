/-! THE CLASS'S PLANS, raw: services with their places, contracts -/
theorem zk_sC (M : Mm) (a sp d dp n : Nat) : zk (sC M a sp d dp n) = zk M := rfl
theorem zl_sC (M : Mm) (a sp d dp n : Nat) : zl (sC M a sp d dp n) = zl M := rfl
theorem zR_sC (M : Mm) (a sp d dp n : Nat) : zR (sC M a sp d dp n) = zR M := rfl
theorem zI_sCo (M : Mm) (a sp d dp n : Nat) {b : Nat} (h : b ≠ d) : zI (sC M a sp d dp n) b = zI M b := by
  funext j; rw [zI_sC]; exact if_neg fun q => h q.1
theorem zI_sCs (M : Mm) (a sp d dp n j : Nat) : zI (sC M a sp d dp n) d j = if dp ≤ j ∧ j < dp + n then zI M a (sp + (j - dp)) else zI M d j := by
  rw [zI_sC]
  by_cases c : dp ≤ j ∧ j < dp + n
  · rw [if_pos c, if_pos ⟨rfl, c⟩]
  · rw [if_neg c, if_neg (fun q => c q.2)]
def RPl (a n : Nat) (r : Nat → Nat → Nat) (k : Nat → Nat) (np : Nat) (M : Mm) : Prop := PlanSh M a ∧ zI M a 0 = nI n ∧
  (∀ s, s < n → (zI M (a + 1) s = nI (r s 0) ∧ zI M (a + 2) s = nI (r s 1) ∧ zI M (a + 3) s = nI (r s 2) ∧ zI M (a + 4) s = nI (r s 3)) ∧ ∀ i, i < 30 → zI M (a + 5) (s * 30 + i) = nI (r s (4 + i))) ∧
  ∀ p, p < np → zI M (a + 6) p = nI (k p)
def rawP (sg pl : Nat → Nat) (s f : Nat) : Nat := if f < 4 then oS pl s f else cs sg pl s (f - 4)
theorem RPl.of {a n np : Nat} {r r' : Nat → Nat → Nat} {k k' : Nat → Nat} {M : Mm} (h : RPl a n r k np M) (e : ∀ s f, s < n → f < 34 → r' s f = r s f) (e2 : ∀ p, p < np → k' p = k p) : RPl a n r' k' np M := by
  obtain ⟨h1, h2, h3, h4⟩ := h
  refine ⟨h1, h2, fun s hs => ?_, fun p hp => by rw [e2 p hp]; exact h4 p hp⟩
  obtain ⟨⟨g1, g2, g3, g4⟩, g5⟩ := h3 s hs
  refine ⟨⟨?_, ?_, ?_, ?_⟩, fun i hi => ?_⟩
  · rw [e s 0 hs (by omega)]; exact g1
  · rw [e s 1 hs (by omega)]; exact g2
  · rw [e s 2 hs (by omega)]; exact g3
  · rw [e s 3 hs (by omega)]; exact g4
  · rw [e s (4 + i) hs (by omega)]; exact g5 i hi
theorem CPl.raw {a : Nat} {sg pl : Nat → Nat} {M : Mm} (h : CPl a sg pl M) : RPl a (pl 0) (rawP sg pl) (fun p => pl (1 + p)) (sg 2) M := by
  obtain ⟨h1, h2, h3, h4⟩ := h
  refine ⟨h1, h2, fun s hs => ⟨(h3 s hs).1, fun i hi => ?_⟩, h4⟩
  unfold rawP
  rw [if_neg (by omega), Nat.add_sub_cancel_left]
  exact (h3 s hs).2 i hi
theorem RPl.cpl {a : Nat} {sg pl : Nat → Nat} {M : Mm} (h : RPl a (pl 0) (rawP sg pl) (fun p => pl (1 + p)) (sg 2) M) : CPl a sg pl M := by
  obtain ⟨h1, h2, h3, h4⟩ := h
  refine ⟨h1, h2, fun s hs => ⟨(h3 s hs).1, fun i hi => ?_⟩, h4⟩
  have g := (h3 s hs).2 i hi
  unfold rawP at g
  rw [if_neg (by omega), Nat.add_sub_cancel_left] at g
  exact g
/-- the cells of the Plan at a -/
def RP (a : Nat) : Nat → Prop := fun b => a ≤ b ∧ b ≤ a + 6
theorem RPl.fr {R : Nat → Prop} {M M' : Mm} {a n np : Nat} {r : Nat → Nat → Nat} {k : Nat → Nat} (h : RPl a n r k np M) (f : FrI R M M') (d : ∀ b, a ≤ b → b ≤ a + 6 → ¬ R b) : RPl a n r k np M' := by
  have e : ∀ i, i ≤ 6 → zI M' (a + i) = zI M (a + i) := fun i hi => f.i (d _ (by omega) (by omega))
  have e0 : zI M' a = zI M a := e 0 (by omega)
  obtain ⟨h1, h2⟩ := h
  refine ⟨h1.fr f, ?_⟩
  rw [e0, e 1 (by omega), e 2 (by omega), e 3 (by omega), e 4 (by omega), e 5 (by omega), e 6 (by omega)]
  exact h2
theorem RPl.sh {a n np : Nat} {r : Nat → Nat → Nat} {k : Nat → Nat} {M : Mm} (h : RPl a n r k np M) : zk M a = 4 ∧ (zR M a 1 = some (a + 1) ∧ zR M a 2 = some (a + 2) ∧ zR M a 3 = some (a + 3) ∧ zR M a 4 = some (a + 4) ∧ zR M a 5 = some (a + 5) ∧ zR M a 6 = some (a + 6)) ∧
  (zk M (a + 1) = 10 ∧ zk M (a + 2) = 10 ∧ zk M (a + 3) = 10 ∧ zk M (a + 4) = 10 ∧ zk M (a + 5) = 10 ∧ zk M (a + 6) = 10) ∧
  zl M (a + 1) = 20 ∧ zl M (a + 2) = 20 ∧ zl M (a + 3) = 20 ∧ zl M (a + 4) = 20 ∧ zl M (a + 5) = 600 ∧ zl M (a + 6) = 8 := h.1
theorem RPl.n {a n np : Nat} {r : Nat → Nat → Nat} {k : Nat → Nat} {M : Mm} (h : RPl a n r k np M) : zI M a 0 = nI n := h.2.1
theorem RPl.s {a n np : Nat} {r : Nat → Nat → Nat} {k : Nat → Nat} {M : Mm} (h : RPl a n r k np M) {s : Nat} (hs : s < n) : zI M (a + 1) s = nI (r s 0) ∧ zI M (a + 2) s = nI (r s 1) ∧ zI M (a + 3) s = nI (r s 2) ∧ zI M (a + 4) s = nI (r s 3) := (h.2.2.1 s hs).1
theorem RPl.c {a n np : Nat} {r : Nat → Nat → Nat} {k : Nat → Nat} {M : Mm} (h : RPl a n r k np M) {s i : Nat} (hs : s < n) (hi : i < 30) : zI M (a + 5) (s * 30 + i) = nI (r s (4 + i)) := (h.2.2.1 s hs).2 i hi
theorem RPl.k {a n np : Nat} {r : Nat → Nat → Nat} {k : Nat → Nat} {M : Mm} (h : RPl a n r k np M) : ∀ p, p < np → zI M (a + 6) p = nI (k p) := h.2.2.2
theorem PlanSh.u {M : Mm} {a : Nat} (h : PlanSh M a) : zk M a = 4 ∧ (zR M a 1 = some (a + 1) ∧ zR M a 2 = some (a + 2) ∧ zR M a 3 = some (a + 3) ∧ zR M a 4 = some (a + 4) ∧ zR M a 5 = some (a + 5) ∧ zR M a 6 = some (a + 6)) ∧
  (zk M (a + 1) = 10 ∧ zk M (a + 2) = 10 ∧ zk M (a + 3) = 10 ∧ zk M (a + 4) = 10 ∧ zk M (a + 5) = 10 ∧ zk M (a + 6) = 10) ∧
  zl M (a + 1) = 20 ∧ zl M (a + 2) = 20 ∧ zl M (a + 3) = 20 ∧ zl M (a + 4) = 20 ∧ zl M (a + 5) = 600 ∧ zl M (a + 6) = 8 := h
section CX
variable {a b n np : Nat} {r : Nat → Nat → Nat} {k : Nat → Nat} {M : Mm}
/-- services are copied from b to a (also from a to a) -/
theorem s_X4_copyServices (ha : PlanSh M a) (hb : PlanSh M b) (hab : a = b ∨ a + 6 < b ∨ b + 6 < a) {fr to cnt : Nat} (h1 : fr + cnt ≤ 20) (h2 : to + cnt ≤ 20) (P : Mm → Prop)
    (K : ∀ M', FrI (fun q => a + 1 ≤ q ∧ q ≤ a + 5) M M' → (∀ d, 1 ≤ d → d ≤ 4 → ∀ j, zI M' (a + d) j = if to ≤ j ∧ j < to + cnt then zI M (b + d) (fr + (j - to)) else zI M (a + d) j) →
      (∀ j, zI M' (a + 5) j = if to * 30 ≤ j ∧ j < to * 30 + cnt * 30 then zI M (b + 5) (fr * 30 + (j - to * 30)) else zI M (a + 5) j) → P M') : w_X4_copyServices M a b (nI fr) (nI to) (nI cnt) P := by
  have a1 := ha.u
  have b1 := hb.u
  have h3 : fr * 30 + cnt * 30 ≤ 600 := by omega
  have h4 : to * 30 + cnt * 30 ≤ 600 := by omega
  simp (disch := omega) only [w_X4_copyServices, a1, b1, zk_sC, zl_sC, zR_sC, h1, h2, h3, h4, l_0, l_1, l_2, l_3, l_4, l_5, l_6, l_7, l_8, l_9, l_10, l_20, l_30, l_31, l_34, l_40, l_65, l_100, l_255, l_11, l_12, l_24, l_600, l_689, l_999, l_120, l_32, nI_add, pk_mul, n_sub, n_leT, n_leF, n_ltT, n_ltF, n_eqT, n_eqF, n_cl, n_vp, fa_andq, fa_orq, fa_xorq, n_shl, n_shr, n_t1, n_t0, n_div, n_m1, not_true_eq_false, Bool.false_eq_true, false_and, Bool.not_false, Bool.not_true, Bool.and_true, Bool.and_false, Bool.false_and, Bool.true_and, true_and, and_true, true_or, or_true, not_false_eq_true, Option.some.injEq, exists_eq_left', forall_eq, ↓reduceIte, Nat.add_zero, Nat.zero_add, and_self]
  have o : ∀ x y : Nat, x ≤ 5 → y ≤ 5 → x ≠ y → b + x ≠ a + y := fun x y _ _ _ => by omega
  refine K _ ((((FrI.sC (by omega)).trans (FrI.sC (by omega))).trans (FrI.sC (by omega))).trans ((FrI.sC (by omega)).trans (FrI.sC (by omega)))) (fun d d1 d2 j => ?_) (fun j => ?_)
  · rcases (show d = 1 ∨ d = 2 ∨ d = 3 ∨ d = 4 by omega) with rfl | rfl | rfl | rfl <;> simp (disch := omega) only [zI_sCs, zI_sCo]
  · simp (disch := omega) only [zI_sCs, zI_sCo]
theorem s_X4_copyFrom (ha : PlanSh M a) (hb : RPl b n r k np M) (hab : a + 6 < b ∨ b + 6 < a) (hn : n ≤ 20) (hnp : np ≤ 8) (P : Mm → Prop)
    (K : ∀ M', FrI (RP a) M M' → RPl a n r k np M' → P M') : w_X4_copyFrom M a b P := by
  have a1 := ha.u
  have b1 := hb.sh
  have e8 : (0 : Nat) + 8 ≤ 8 := by omega
  simp (disch := omega) only [w_X4_copyFrom, a1, b1, hb.n, zk_sC, zl_sC, zR_sC, zk_sI, zl_sI, zR_sI, e8, zI_sCo, zI_sIo, l_0, l_1, l_2, l_3, l_4, l_5, l_6, l_7, l_8, l_9, l_10, l_20, l_30, l_31, l_34, l_40, l_65, l_100, l_255, l_11, l_12, l_24, l_600, l_689, l_999, l_120, l_32, nI_add, pk_mul, n_sub, n_leT, n_leF, n_ltT, n_ltF, n_eqT, n_eqF, n_cl, n_vp, fa_andq, fa_orq, fa_xorq, n_shl, n_shr, n_t1, n_t0, n_div, n_m1, not_true_eq_false, Bool.false_eq_true, false_and, Bool.not_false, Bool.not_true, Bool.and_true, Bool.and_false, Bool.false_and, Bool.true_and, true_and, and_true, true_or, or_true, not_false_eq_true, Option.some.injEq, exists_eq_left', forall_eq, ↓reduceIte, Nat.add_zero, Nat.zero_add, and_self]
  have f1 : FrI (RP a) M (sC (sI M a 0 (nI n)) (b + 6) 0 (a + 6) 0 8) := (FrI.sI (show RP a a by unfold RP; omega)).trans (FrI.sC (show RP a (a + 6) by unfold RP; omega))
  refine s_X4_copyServices (ha.fr f1) (hb.1.fr f1) (Or.inr hab) (by omega) (by omega) _ fun M2 f2 g1 g2 => ?_
  have old : ∀ d, d ≤ 6 → zI (sC (sI M a 0 (nI n)) (b + 6) 0 (a + 6) 0 8) (b + d) = zI M (b + d) := fun d hd => by
    rw [zI_sCo _ _ _ _ _ _ (by omega), zI_sIo _ _ _ _ (by omega)]
  refine K M2 (f1.trans (f2.mono fun q hq => by unfold RP; omega)) ⟨ha.fr (f1.trans (f2.mono (S := RP a) fun q hq => by unfold RP; omega)), ?_, fun s hs => ⟨⟨?_, ?_, ?_, ?_⟩, fun i hi => ?_⟩, fun p hp => ?_⟩
  · rw [f2.i (by omega), zI_sCo _ _ _ _ _ _ (by omega), zI_sI1]
  · rw [g1 1 (by omega) (by omega), if_pos (by omega), old 1 (by omega), show 0 + (s - 0) = s by omega]; exact (hb.s hs).1
  · rw [g1 2 (by omega) (by omega), if_pos (by omega), old 2 (by omega), show 0 + (s - 0) = s by omega]; exact (hb.s hs).2.1
  · rw [g1 3 (by omega) (by omega), if_pos (by omega), old 3 (by omega), show 0 + (s - 0) = s by omega]; exact (hb.s hs).2.2.1
  · rw [g1 4 (by omega) (by omega), if_pos (by omega), old 4 (by omega), show 0 + (s - 0) = s by omega]; exact (hb.s hs).2.2.2
  · rw [g2, if_pos (by omega), old 5 (by omega), show 0 * 30 + (s * 30 + i - 0 * 30) = s * 30 + i by omega]; exact hb.c hs hi
  · rw [f2.i (by omega), zI_sCs, if_pos (by omega), zI_sIo _ _ _ _ (by omega), show 0 + (p - 0) = p by omega]; exact hb.k p hp
theorem s_X4_remove (h : RPl a n r k np M) {s : Nat} (hs : s < n) (hn : n ≤ 20) (P : Mm → Prop)
    (K : ∀ M', FrI (RP a) M M' → RPl a (n - 1) (fun q f => if q < s then r q f else r (q + 1) f) k np M' → P M') : w_X4_remove M a (nI s) P := by
  simp (disch := omega) only [w_X4_remove, h.sh, h.n, l_0, l_1, l_2, l_3, l_4, l_5, l_6, l_7, l_8, l_9, l_10, l_20, l_30, l_31, l_34, l_40, l_65, l_100, l_255, l_11, l_12, l_24, l_600, l_689, l_999, l_120, l_32, nI_add, pk_mul, n_sub, n_leT, n_leF, n_ltT, n_ltF, n_eqT, n_eqF, n_cl, n_vp, fa_andq, fa_orq, fa_xorq, n_shl, n_shr, n_t1, n_t0, n_div, n_m1, not_true_eq_false, Bool.false_eq_true, false_and, Bool.not_false, Bool.not_true, Bool.and_true, Bool.and_false, Bool.false_and, Bool.true_and, true_and, and_true, true_or, or_true, not_false_eq_true, Option.some.injEq, exists_eq_left', forall_eq, ↓reduceIte, Nat.add_zero, Nat.zero_add, and_self]
  refine s_X4_copyServices h.1 h.1 (Or.inl rfl) (by omega) (by omega) _ fun M2 f2 g1 g2 => ?_
  have e0 : zI M2 a 0 = nI n := by rw [f2.i (by omega)]; exact h.n
  have s2 := (h.1.fr f2).u
  simp (disch := omega) only [s2, e0, l_0, l_1, l_2, l_3, l_4, l_5, l_6, l_7, l_8, l_9, l_10, l_20, l_30, l_31, l_34, l_40, l_65, l_100, l_255, l_11, l_12, l_24, l_600, l_689, l_999, l_120, l_32, nI_add, pk_mul, n_sub, n_leT, n_leF, n_ltT, n_ltF, n_eqT, n_eqF, n_cl, n_vp, fa_andq, fa_orq, fa_xorq, n_shl, n_shr, n_t1, n_t0, n_div, n_m1, not_true_eq_false, Bool.false_eq_true, false_and, Bool.not_false, Bool.not_true, Bool.and_true, Bool.and_false, Bool.false_and, Bool.true_and, true_and, and_true, true_or, or_true, not_false_eq_true, Option.some.injEq, exists_eq_left', forall_eq, ↓reduceIte, Nat.add_zero, Nat.zero_add, and_self]
  have f3 : FrI (RP a) M (sI M2 a 0 (nI (n - 1))) := (f2.mono fun q hq => by unfold RP; omega).trans (FrI.sI (by unfold RP; omega))
  have old : ∀ d, 1 ≤ d → zI (sI M2 a 0 (nI (n - 1))) (a + d) = zI M2 (a + d) := fun d hd => zI_sIo _ _ _ _ (by omega)
  refine K _ f3 ⟨h.1.fr f3, zI_sI1 _ _ _ _, fun q hq => ⟨⟨?_, ?_, ?_, ?_⟩, fun i hi => ?_⟩, fun p hp => ?_⟩ <;> try dsimp only
  · rw [old 1 (by omega), g1 1 (by omega) (by omega)]
    by_cases c : q < s
    · rw [if_pos c, if_neg (by omega)]; exact (h.s (by omega)).1
    · rw [if_neg c, if_pos (by omega), show s + 1 + (q - s) = q + 1 by omega]; exact (h.s (by omega)).1
  · rw [old 2 (by omega), g1 2 (by omega) (by omega)]
    by_cases c : q < s
    · rw [if_pos c, if_neg (by omega)]; exact (h.s (by omega)).2.1
    · rw [if_neg c, if_pos (by omega), show s + 1 + (q - s) = q + 1 by omega]; exact (h.s (by omega)).2.1
  · rw [old 3 (by omega), g1 3 (by omega) (by omega)]
    by_cases c : q < s
    · rw [if_pos c, if_neg (by omega)]; exact (h.s (by omega)).2.2.1
    · rw [if_neg c, if_pos (by omega), show s + 1 + (q - s) = q + 1 by omega]; exact (h.s (by omega)).2.2.1
  · rw [old 4 (by omega), g1 4 (by omega) (by omega)]
    by_cases c : q < s
    · rw [if_pos c, if_neg (by omega)]; exact (h.s (by omega)).2.2.2
    · rw [if_neg c, if_pos (by omega), show s + 1 + (q - s) = q + 1 by omega]; exact (h.s (by omega)).2.2.2
  · rw [old 5 (by omega), g2]
    by_cases c : q < s
    · rw [if_pos c, if_neg (by omega)]; exact h.c (by omega) hi
    · rw [if_neg c, if_pos (by omega), show (s + 1) * 30 + (q * 30 + i - s * 30) = (q + 1) * 30 + i by omega]; exact h.c (by omega) hi
  · rw [old 6 (by omega), f2.i (by omega)]; exact h.k p hp
theorem s_X4_clearCast (h : RPl a n r k np M) {s : Nat} (hs : s < n) (hn : n ≤ 20) (P : Mm → Prop)
    (K : ∀ M', FrI (fun b => b = a + 5) M M' → RPl a n (fun q f => if q = s ∧ 4 ≤ f then 4294967295 else r q f) k np M' → P M') : w_X4_clearCast M a (nI s) P := by
  unfold w_X4_clearCast
  refine lpI (fun n (z : Mm × Int32) => l_X4_clearCast_2 P (fun M3 => P M3) n z.1 a (nI s) z.2) (fun k z => (FrI (fun b => b = a + 5) M z.1 ∧ ∀ j, zI z.1 (a + 5) j = if s * 30 ≤ j ∧ j < s * 30 + k then nI 4294967295 else zI M (a + 5) j) ∧ z.2 = nI k) 30 ?_ ?_ (M, nI 0) ⟨⟨FrI.rf, fun j => (if_neg (by omega)).symm⟩, rfl⟩
  · rintro n1 ⟨M1, a1⟩ ⟨⟨f, g⟩, e1⟩
    dsimp only at f g e1 ⊢
    subst e1
    simp (disch := omega) only [l_X4_clearCast_2, l_0, l_1, l_2, l_3, l_4, l_5, l_6, l_7, l_8, l_9, l_10, l_20, l_30, l_31, l_34, l_40, l_65, l_100, l_255, l_11, l_12, l_24, l_600, l_689, l_999, l_120, l_32, nI_add, pk_mul, n_sub, n_leT, n_leF, n_ltT, n_ltF, n_eqT, n_eqF, n_cl, n_vp, fa_andq, fa_orq, fa_xorq, n_shl, n_shr, n_t1, n_t0, n_div, n_m1, not_true_eq_false, Bool.false_eq_true, false_and, Bool.not_false, Bool.not_true, Bool.and_true, Bool.and_false, Bool.false_and, Bool.true_and, true_and, and_true, true_or, or_true, not_false_eq_true, Option.some.injEq, exists_eq_left', forall_eq, ↓reduceIte, Nat.add_zero, Nat.zero_add, and_self]
    have o : ∀ d, d ≠ 5 → zI M1 (a + d) = zI M (a + d) := fun d hd => f.i (by omega)
    refine K M1 f ⟨h.1.fr f, ?_, fun q hq => ⟨⟨?_, ?_, ?_, ?_⟩, fun i hi => ?_⟩, fun p hp => ?_⟩ <;> try dsimp only
    · rw [f.i (by omega)]; exact h.n
    · rw [o 1 (by omega), if_neg (by omega)]; exact (h.s hq).1
    · rw [o 2 (by omega), if_neg (by omega)]; exact (h.s hq).2.1
    · rw [o 3 (by omega), if_neg (by omega)]; exact (h.s hq).2.2.1
    · rw [o 4 (by omega), if_neg (by omega)]; exact (h.s hq).2.2.2
    · rw [g]
      by_cases c : q = s
      · subst c; rw [if_pos (by omega), if_pos (by omega)]
      · rw [if_neg (by omega), if_neg (by omega)]; exact h.c hq hi
    · rw [o 6 (by omega)]; exact h.k p hp
  · rintro n1 j ⟨M1, a1⟩ hj ⟨⟨f, g⟩, e1⟩ L
    dsimp only at f g e1 L ⊢
    subst e1
    have s1 := (h.1.fr f).u
    simp (disch := omega) only [l_X4_clearCast_2, s1, l_0, l_1, l_2, l_3, l_4, l_5, l_6, l_7, l_8, l_9, l_10, l_20, l_30, l_31, l_34, l_40, l_65, l_100, l_255, l_11, l_12, l_24, l_600, l_689, l_999, l_120, l_32, nI_add, pk_mul, n_sub, n_leT, n_leF, n_ltT, n_ltF, n_eqT, n_eqF, n_cl, n_vp, fa_andq, fa_orq, fa_xorq, n_shl, n_shr, n_t1, n_t0, n_div, n_m1, not_true_eq_false, Bool.false_eq_true, false_and, Bool.not_false, Bool.not_true, Bool.and_true, Bool.and_false, Bool.false_and, Bool.true_and, true_and, and_true, true_or, or_true, not_false_eq_true, Option.some.injEq, exists_eq_left', forall_eq, ↓reduceIte, Nat.add_zero, Nat.zero_add, and_self]
    refine L (_, _) ⟨⟨f.trans (FrI.sI rfl), fun i => ?_⟩, rfl⟩
    by_cases c : i = s * 30 + j
    · subst c
      exact (zI_sI1 _ _ _ _).trans (if_pos (by omega)).symm
    · refine (zI_sI2 _ _ _ _ c).trans ((g i).trans ?_)
      by_cases c2 : s * 30 ≤ i ∧ i < s * 30 + j
      · rw [if_pos c2, if_pos (by omega)]
      · rw [if_neg c2, if_neg (by omega)]
theorem s_X4_setCast (h : RPl a n r k np M) {s w y cnt : Nat} {v : Nat → Nat} (hs : s < n) (hn : n ≤ 20) (hw : w < 5) (hc : cnt ≤ 6) (hy : zk M y = 10 ∧ zl M y = 6) (hya : y < a ∨ a + 6 < y) (hv : ∀ j, j < cnt → zI M y j = nI (v j)) (P : Mm → Prop)
    (K : ∀ M', FrI (fun b => b = a + 5) M M' → RPl a n (fun q f => if q = s ∧ 4 + 6 * w ≤ f ∧ f < 4 + 6 * w + cnt then v (f - (4 + 6 * w)) else r q f) k np M' → P M') : w_X4_setCast M a (nI s) (nI w) y (nI cnt) P := by
  have e1 : 0 + cnt ≤ 6 := by omega
  have e2 : s * 30 + w * 6 + cnt ≤ 600 := by omega
  simp (disch := omega) only [w_X4_setCast, w_X4_placeOf, h.sh, hy, e1, e2, hc, l_0, l_1, l_2, l_3, l_4, l_5, l_6, l_7, l_8, l_9, l_10, l_20, l_30, l_31, l_34, l_40, l_65, l_100, l_255, l_11, l_12, l_24, l_600, l_689, l_999, l_120, l_32, nI_add, pk_mul, n_sub, n_leT, n_leF, n_ltT, n_ltF, n_eqT, n_eqF, n_cl, n_vp, fa_andq, fa_orq, fa_xorq, n_shl, n_shr, n_t1, n_t0, n_div, n_m1, not_true_eq_false, Bool.false_eq_true, false_and, Bool.not_false, Bool.not_true, Bool.and_true, Bool.and_false, Bool.false_and, Bool.true_and, true_and, and_true, true_or, or_true, not_false_eq_true, Option.some.injEq, exists_eq_left', forall_eq, ↓reduceIte, Nat.add_zero, Nat.zero_add, and_self]
  have f : FrI (fun b => b = a + 5) M (sC M y 0 (a + 5) (s * 30 + w * 6) cnt) := FrI.sC rfl
  have o : ∀ d, d ≠ 5 → zI (sC M y 0 (a + 5) (s * 30 + w * 6) cnt) (a + d) = zI M (a + d) := fun d hd => f.i (by omega)
  refine K _ f ⟨h.1.fr f, ?_, fun q hq => ⟨⟨?_, ?_, ?_, ?_⟩, fun i hi => ?_⟩, fun p hp => ?_⟩ <;> try dsimp only
  · rw [f.i (by omega)]; exact h.n
  · rw [o 1 (by omega), if_neg (by omega)]; exact (h.s hq).1
  · rw [o 2 (by omega), if_neg (by omega)]; exact (h.s hq).2.1
  · rw [o 3 (by omega), if_neg (by omega)]; exact (h.s hq).2.2.1
  · rw [o 4 (by omega), if_neg (by omega)]; exact (h.s hq).2.2.2
  · rw [zI_sCs]
    by_cases c : q = s ∧ 4 + 6 * w ≤ 4 + i ∧ 4 + i < 4 + 6 * w + cnt
    · rw [if_pos (by omega), if_pos c, hv _ (by omega)]
      congr 2; omega
    · rw [if_neg (by omega), if_neg c]; exact h.c hq hi
  · rw [o 6 (by omega)]; exact h.k p hp
def psR (r : Nat → Nat → Nat) (n ha t : Nat) : Nat := fi (fun s => !decide (r s 0 < t ∨ (r s 0 = t ∧ r s 1 < ha))) n
theorem e_X4_insert_3 (h : RPl a n r k np M) {ha t : Nat} {x3 x4 : Int32} (hn : n ≤ 20) (hr : ∀ s, s < n → r s 0 < 90 ∧ r s 1 < 3) (hha : ha < 3) (ht : t < 90) (P : Int32 → Mm → Prop) (K : Mm → Nat → Int32 → Int32 → Int32 → Int32 → Int32 → Prop) : (∃ n, l_X4_insert_3 P K n M a (nI ha) (nI t) x3 x4 (nI 0)) ↔ K M a (nI ha) (nI t) x3 x4 (nI (psR r n ha t)) := by
  refine lpF (fun n (z : Int32) => l_X4_insert_3 P K n M a (nI ha) (nI t) x3 x4 z) nI n (fun s => !decide (r s 0 < t ∨ (r s 0 = t ∧ r s 1 < ha))) (Q := fun i => K M a (nI ha) (nI t) x3 x4 (nI i)) (fun _ h => h.elim) (fun _ => ?_) (fun n1 i hi q => ?_) (fun n1 i hi q => ?_)
  · simp (disch := omega) only [l_X4_insert_3, h.sh, h.n, l_0, l_1, l_2, l_3, l_4, l_5, l_6, l_7, l_8, l_9, l_10, l_20, l_30, l_31, l_34, l_40, l_65, l_100, l_255, l_11, l_12, l_24, l_600, l_689, l_999, l_120, l_32, nI_add, pk_mul, n_sub, n_leT, n_leF, n_ltT, n_ltF, n_eqT, n_eqF, n_cl, n_vp, fa_andq, fa_orq, fa_xorq, n_shl, n_shr, n_t1, n_t0, n_div, n_m1, not_true_eq_false, Bool.false_eq_true, false_and, Bool.not_false, Bool.not_true, Bool.and_true, Bool.and_false, Bool.false_and, Bool.true_and, true_and, and_true, true_or, or_true, not_false_eq_true, Option.some.injEq, exists_eq_left', forall_eq, ↓reduceIte, Nat.add_zero, Nat.zero_add, and_self]
  · have d := hr i hi
    have q := nd_t q
    by_cases c1 : r i 0 < t
    · simp (disch := omega) only [l_X4_insert_3, w_X4_isEarlier, h.sh, h.n, h.s hi, l_0, l_1, l_2, l_3, l_4, l_5, l_6, l_7, l_8, l_9, l_10, l_20, l_30, l_31, l_34, l_40, l_65, l_100, l_255, l_11, l_12, l_24, l_600, l_689, l_999, l_120, l_32, nI_add, pk_mul, n_sub, n_leT, n_leF, n_ltT, n_ltF, n_eqT, n_eqF, n_cl, n_vp, fa_andq, fa_orq, fa_xorq, n_shl, n_shr, n_t1, n_t0, n_div, n_m1, not_true_eq_false, Bool.false_eq_true, false_and, Bool.not_false, Bool.not_true, Bool.and_true, Bool.and_false, Bool.false_and, Bool.true_and, true_and, and_true, true_or, or_true, not_false_eq_true, Option.some.injEq, exists_eq_left', forall_eq, ↓reduceIte, Nat.add_zero, Nat.zero_add, and_self]
    · have c2 : r i 0 = t := by omega
      have c3 : r i 1 < ha := by omega
      simp (disch := omega) only [l_X4_insert_3, w_X4_isEarlier, h.sh, h.n, h.s hi, l_0, l_1, l_2, l_3, l_4, l_5, l_6, l_7, l_8, l_9, l_10, l_20, l_30, l_31, l_34, l_40, l_65, l_100, l_255, l_11, l_12, l_24, l_600, l_689, l_999, l_120, l_32, nI_add, pk_mul, n_sub, n_leT, n_leF, n_ltT, n_ltF, n_eqT, n_eqF, n_cl, n_vp, fa_andq, fa_orq, fa_xorq, n_shl, n_shr, n_t1, n_t0, n_div, n_m1, not_true_eq_false, Bool.false_eq_true, false_and, Bool.not_false, Bool.not_true, Bool.and_true, Bool.and_false, Bool.false_and, Bool.true_and, true_and, and_true, true_or, or_true, not_false_eq_true, Option.some.injEq, exists_eq_left', forall_eq, ↓reduceIte, Nat.add_zero, Nat.zero_add, and_self]
  · have d := hr i hi
    have q := nd_f q
    have c1 : ¬ r i 0 < t := fun z => q (Or.inl z)
    by_cases c2 : r i 0 = t
    · have c3 : ¬ r i 1 < ha := fun z => q (Or.inr ⟨c2, z⟩)
      simp (disch := omega) only [l_X4_insert_3, w_X4_isEarlier, h.sh, h.n, h.s hi, l_0, l_1, l_2, l_3, l_4, l_5, l_6, l_7, l_8, l_9, l_10, l_20, l_30, l_31, l_34, l_40, l_65, l_100, l_255, l_11, l_12, l_24, l_600, l_689, l_999, l_120, l_32, nI_add, pk_mul, n_sub, n_leT, n_leF, n_ltT, n_ltF, n_eqT, n_eqF, n_cl, n_vp, fa_andq, fa_orq, fa_xorq, n_shl, n_shr, n_t1, n_t0, n_div, n_m1, not_true_eq_false, Bool.false_eq_true, false_and, Bool.not_false, Bool.not_true, Bool.and_true, Bool.and_false, Bool.false_and, Bool.true_and, true_and, and_true, true_or, or_true, not_false_eq_true, Option.some.injEq, exists_eq_left', forall_eq, ↓reduceIte, Nat.add_zero, Nat.zero_add, and_self]
    · simp (disch := omega) only [l_X4_insert_3, w_X4_isEarlier, h.sh, h.n, h.s hi, l_0, l_1, l_2, l_3, l_4, l_5, l_6, l_7, l_8, l_9, l_10, l_20, l_30, l_31, l_34, l_40, l_65, l_100, l_255, l_11, l_12, l_24, l_600, l_689, l_999, l_120, l_32, nI_add, pk_mul, n_sub, n_leT, n_leF, n_ltT, n_ltF, n_eqT, n_eqF, n_cl, n_vp, fa_andq, fa_orq, fa_xorq, n_shl, n_shr, n_t1, n_t0, n_div, n_m1, not_true_eq_false, Bool.false_eq_true, false_and, Bool.not_false, Bool.not_true, Bool.and_true, Bool.and_false, Bool.false_and, Bool.true_and, true_and, and_true, true_or, or_true, not_false_eq_true, Option.some.injEq, exists_eq_left', forall_eq, ↓reduceIte, Nat.add_zero, Nat.zero_add, and_self]
def blk (t ha c S f : Nat) : Nat := if f = 0 then t else if f = 1 then ha else if f = 2 then c else if f = 3 then S else 4294967295
/-- one more service, at its place, that has no cast yet -/
def insB (r : Nat → Nat → Nat) (at_ t ha c S : Nat) (q f : Nat) : Nat := if q < at_ then r q f else if q = at_ then blk t ha c S f else r (q - 1) f
theorem s_X4_insert (h : RPl a n r k np M) {ha t S c : Nat} (hn : n < 20) (hr : ∀ s, s < n → r s 0 < 90 ∧ r s 1 < 3) (hha : ha < 3) (ht : t < 90) (hc : c < 2) (P : Int32 → Mm → Prop)
    (K : ∀ M', FrI (RP a) M M' → RPl a (n + 1) (insB r (psR r n ha t) t ha c S) k np M' → P (nI (psR r n ha t)) M') : w_X4_insert M a (nI ha) (nI t) (nI S) (nI c) P := by
  have at_ : psR r n ha t ≤ n := fi_le _ _
  simp (disch := omega) only [w_X4_insert, e_X4_insert_3 h, h.sh, h.n, l_0, l_1, l_2, l_3, l_4, l_5, l_6, l_7, l_8, l_9, l_10, l_20, l_30, l_31, l_34, l_40, l_65, l_100, l_255, l_11, l_12, l_24, l_600, l_689, l_999, l_120, l_32, nI_add, pk_mul, n_sub, n_leT, n_leF, n_ltT, n_ltF, n_eqT, n_eqF, n_cl, n_vp, fa_andq, fa_orq, fa_xorq, n_shl, n_shr, n_t1, n_t0, n_div, n_m1, not_true_eq_false, Bool.false_eq_true, false_and, Bool.not_false, Bool.not_true, Bool.and_true, Bool.and_false, Bool.false_and, Bool.true_and, true_and, and_true, true_or, or_true, not_false_eq_true, Option.some.injEq, exists_eq_left', forall_eq, ↓reduceIte, Nat.add_zero, Nat.zero_add, and_self]
  generalize psR r n ha t = p at at_ K ⊢
  refine s_X4_copyServices h.1 h.1 (Or.inl rfl) (by omega) (by omega) _ fun M2 f2 g1 g2 => ?_
  have e0 : zI M2 a 0 = nI n := by rw [f2.i (by omega)]; exact h.n
  have s2 := (h.1.fr f2).u
  have fin : ∀ M3, M3 = sI (sI (sI (sI (sI M2 a 0 (nI (n + 1))) (a + 1) p (nI t)) (a + 2) p (nI ha)) (a + 3) p (nI c)) (a + 4) p (nI S) → w_X4_clearCast M3 a (nI p) (fun M13 => P (nI p) M13) := fun M3 e3 => by
    have f3 : FrI (RP a) M2 M3 := by
      rw [e3]
      exact ((((FrI.sI (by unfold RP; omega)).trans (FrI.sI (by unfold RP; omega))).trans (FrI.sI (by unfold RP; omega))).trans (FrI.sI (by unfold RP; omega))).trans (FrI.sI (by unfold RP; omega))
    have f4 : FrI (RP a) M M3 := (f2.mono fun q hq => by unfold RP; omega).trans f3
    have cell : ∀ d, 1 ≤ d → d ≤ 4 → ∀ j, j < n + 1 → j ≠ p → zI M2 (a + d) j = if j < p then zI M (a + d) j else zI M (a + d) (j - 1) := fun d d1 d2 j hj hp => by
      rw [g1 d d1 d2]
      by_cases c : j < p
      · rw [if_pos c, if_neg (by omega)]
      · rw [if_neg c, if_pos (by omega)]; congr 1; omega
    have c5 : ∀ j i, j < n + 1 → j ≠ p → i < 30 → zI M2 (a + 5) (j * 30 + i) = if j < p then zI M (a + 5) (j * 30 + i) else zI M (a + 5) ((j - 1) * 30 + i) := fun j i hj hp hi => by
      rw [g2]
      by_cases c : j < p
      · rw [if_pos c, if_neg (by omega)]
      · rw [if_neg c, if_pos (by omega)]; congr 1; omega
    have R0 : RPl a (n + 1) (fun q f => if q < p then r q f else if q = p then (if f = 0 then t else if f = 1 then ha else if f = 2 then c else if f = 3 then S else (zI M2 (a + 5) (p * 30 + (f - 4))).toBitVec.toNat) else r (q - 1) f) k np M3 := by
      refine ⟨h.1.fr f4, ?_, fun q hq => ⟨⟨?_, ?_, ?_, ?_⟩, fun i hi => ?_⟩, fun i hi => ?_⟩ <;> try dsimp only
      · rw [e3, zI_sIo _ _ _ _ (by omega), zI_sIo _ _ _ _ (by omega), zI_sIo _ _ _ _ (by omega), zI_sIo _ _ _ _ (by omega), zI_sI1]
      · rw [e3, zI_sIo _ _ _ _ (by omega), zI_sIo _ _ _ _ (by omega), zI_sIo _ _ _ _ (by omega)]
        by_cases c1 : q = p
        · subst c1; rw [zI_sI1, if_neg (by omega), if_pos rfl, if_pos rfl]
        · rw [zI_sI2 _ _ _ _ c1, zI_sIo _ _ _ _ (by omega), cell 1 (by omega) (by omega) q hq c1]
          by_cases c2 : q < p
          · rw [if_pos c2, if_pos c2]; exact (h.s (by omega)).1
          · rw [if_neg c2, if_neg c2, if_neg c1]; exact (h.s (by omega)).1
      · rw [e3, zI_sIo _ _ _ _ (by omega), zI_sIo _ _ _ _ (by omega)]
        by_cases c1 : q = p
        · subst c1; rw [zI_sI1, if_neg (by omega), if_pos rfl, if_neg (by omega), if_pos rfl]
        · rw [zI_sI2 _ _ _ _ c1, zI_sIo _ _ _ _ (by omega), zI_sIo _ _ _ _ (by omega), cell 2 (by omega) (by omega) q hq c1]
          by_cases c2 : q < p
          · rw [if_pos c2, if_pos c2]; exact (h.s (by omega)).2.1
          · rw [if_neg c2, if_neg c2, if_neg c1]; exact (h.s (by omega)).2.1
      · rw [e3, zI_sIo _ _ _ _ (by omega)]
        by_cases c1 : q = p
        · subst c1; rw [zI_sI1, if_neg (by omega), if_pos rfl, if_neg (by omega), if_neg (by omega), if_pos rfl]
        · rw [zI_sI2 _ _ _ _ c1, zI_sIo _ _ _ _ (by omega), zI_sIo _ _ _ _ (by omega), zI_sIo _ _ _ _ (by omega), cell 3 (by omega) (by omega) q hq c1]
          by_cases c2 : q < p
          · rw [if_pos c2, if_pos c2]; exact (h.s (by omega)).2.2.1
          · rw [if_neg c2, if_neg c2, if_neg c1]; exact (h.s (by omega)).2.2.1
      · rw [e3]
        by_cases c1 : q = p
        · subst c1; rw [zI_sI1, if_neg (by omega), if_pos rfl, if_neg (by omega), if_neg (by omega), if_neg (by omega), if_pos rfl]
        · rw [zI_sI2 _ _ _ _ c1, zI_sIo _ _ _ _ (by omega), zI_sIo _ _ _ _ (by omega), zI_sIo _ _ _ _ (by omega), zI_sIo _ _ _ _ (by omega), cell 4 (by omega) (by omega) q hq c1]
          by_cases c2 : q < p
          · rw [if_pos c2, if_pos c2]; exact (h.s (by omega)).2.2.2
          · rw [if_neg c2, if_neg c2, if_neg c1]; exact (h.s (by omega)).2.2.2
      · rw [e3, zI_sIo _ _ _ _ (by omega), zI_sIo _ _ _ _ (by omega), zI_sIo _ _ _ _ (by omega), zI_sIo _ _ _ _ (by omega), zI_sIo _ _ _ _ (by omega)]
        by_cases c1 : q = p
        · subst c1
          rw [if_neg (by omega), if_pos rfl, if_neg (by omega), if_neg (by omega), if_neg (by omega), if_neg (by omega), Nat.add_sub_cancel_left]
          apply Int32.toBitVec_inj.mp
          apply BitVec.eq_of_toNat_eq
          rw [pk_tn (BitVec.isLt _)]
        · rw [c5 q i hq c1 hi]
          by_cases c2 : q < p
          · rw [if_pos c2, if_pos c2]; exact h.c (by omega) hi
          · rw [if_neg c2, if_neg c2, if_neg c1]; exact h.c (by omega) hi
      · rw [e3, zI_sIo _ _ _ _ (by omega), zI_sIo _ _ _ _ (by omega), zI_sIo _ _ _ _ (by omega), zI_sIo _ _ _ _ (by omega), zI_sIo _ _ _ _ (by omega), f2.i (by omega)]
        exact h.k i hi
    refine s_X4_clearCast R0 (by omega) (by omega) _ fun M4 f5 R1 => K M4 (f4.trans (f5.mono fun q hq => by unfold RP; omega)) (R1.of (fun q f hq hf => ?_) fun i _ => rfl)
    unfold insB blk
    try dsimp only
    by_cases c1 : q = p
    · subst c1
      by_cases c4 : 4 ≤ f
      · simp only [Nat.lt_irrefl, if_false, if_true, true_and, c4]
        rw [if_neg (by omega), if_neg (by omega), if_neg (by omega), if_neg (by omega)]
      · simp only [Nat.lt_irrefl, if_false, if_true, true_and, c4]
        repeat' split
        all_goals first | rfl | omega
    · simp only [c1, false_and, if_false]
  rcases (show c = 0 ∨ c = 1 by omega) with rfl | rfl
  · simp (disch := omega) only [s2, e0, zk_sI, zl_sI, zR_sI, l_0, l_1, l_2, l_3, l_4, l_5, l_6, l_7, l_8, l_9, l_10, l_20, l_30, l_31, l_34, l_40, l_65, l_100, l_255, l_11, l_12, l_24, l_600, l_689, l_999, l_120, l_32, nI_add, pk_mul, n_sub, n_leT, n_leF, n_ltT, n_ltF, n_eqT, n_eqF, n_cl, n_vp, fa_andq, fa_orq, fa_xorq, n_shl, n_shr, n_t1, n_t0, n_div, n_m1, not_true_eq_false, Bool.false_eq_true, false_and, Bool.not_false, Bool.not_true, Bool.and_true, Bool.and_false, Bool.false_and, Bool.true_and, true_and, and_true, true_or, or_true, not_false_eq_true, Option.some.injEq, exists_eq_left', forall_eq, ↓reduceIte, Nat.add_zero, Nat.zero_add, and_self]
    exact fin _ rfl
  · simp (disch := omega) only [s2, e0, zk_sI, zl_sI, zR_sI, l_0, l_1, l_2, l_3, l_4, l_5, l_6, l_7, l_8, l_9, l_10, l_20, l_30, l_31, l_34, l_40, l_65, l_100, l_255, l_11, l_12, l_24, l_600, l_689, l_999, l_120, l_32, nI_add, pk_mul, n_sub, n_leT, n_leF, n_ltT, n_ltF, n_eqT, n_eqF, n_cl, n_vp, fa_andq, fa_orq, fa_xorq, n_shl, n_shr, n_t1, n_t0, n_div, n_m1, not_true_eq_false, Bool.false_eq_true, false_and, Bool.not_false, Bool.not_true, Bool.and_true, Bool.and_false, Bool.false_and, Bool.true_and, true_and, and_true, true_or, or_true, not_false_eq_true, Option.some.injEq, exists_eq_left', forall_eq, ↓reduceIte, Nat.add_zero, Nat.zero_add, and_self]
    exact fin _ rfl
end CX
