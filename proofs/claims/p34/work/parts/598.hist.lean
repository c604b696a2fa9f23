/-! THE CLASS'S STATE, by pieces; a draft is taken over, undone, kept in a slot -/
/-- ints changed in R alone, references in the history's cell alone -/
def FrX (x : Nat) (R : Nat → Prop) (M M' : Mm) : Prop := zn M' = zn M ∧ zk M' = zk M ∧ zl M' = zl M ∧ zJ M' = zJ M ∧ (∀ b, b ≠ x + 20 → zR M' b = zR M b) ∧ ∀ b, ¬ R b → zI M' b = zI M b
theorem FrI.x {x : Nat} {R : Nat → Prop} {M M' : Mm} (f : FrI R M M') : FrX x R M M' := ⟨f.1, f.2.1, f.2.2.1, f.2.2.2.1, fun b _ => by rw [f.r], f.2.2.2.2.2⟩
theorem FrX.trans {x : Nat} {R : Nat → Prop} {M M1 M2 : Mm} (h : FrX x R M M1) (k : FrX x R M1 M2) : FrX x R M M2 := by
  obtain ⟨a1, a2, a3, a4, a5, a6⟩ := h
  obtain ⟨b1, b2, b3, b4, b5, b6⟩ := k
  exact ⟨b1.trans a1, b2.trans a2, b3.trans a3, b4.trans a4, fun b hb => (b5 b hb).trans (a5 b hb), fun b hb => (b6 b hb).trans (a6 b hb)⟩
theorem FrX.mono {x : Nat} {R S : Nat → Prop} {M M1 : Mm} (h : FrX x R M M1) (hRS : ∀ b, R b → S b) : FrX x S M M1 := by
  obtain ⟨a1, a2, a3, a4, a5, a6⟩ := h
  exact ⟨a1, a2, a3, a4, a5, fun b hb => a6 b fun q => hb (hRS b q)⟩
theorem FrX.k {x : Nat} {R : Nat → Prop} {M M' : Mm} (f : FrX x R M M') : zk M' = zk M := f.2.1
theorem FrX.l {x : Nat} {R : Nat → Prop} {M M' : Mm} (f : FrX x R M M') : zl M' = zl M := f.2.2.1
theorem FrX.j {x : Nat} {R : Nat → Prop} {M M' : Mm} (f : FrX x R M M') : zJ M' = zJ M := f.2.2.2.1
theorem FrX.r {x : Nat} {R : Nat → Prop} {M M' : Mm} (f : FrX x R M M') {b : Nat} (h : b ≠ x + 20) : zR M' b = zR M b := f.2.2.2.2.1 b h
theorem FrX.i {x : Nat} {R : Nat → Prop} {M M' : Mm} (f : FrX x R M M') {b : Nat} (h : ¬ R b) : zI M' b = zI M b := f.2.2.2.2.2 b h
theorem zk_sR (M : Mm) (a i : Nat) (v : Option Nat) : zk (sR M a i v) = zk M := rfl
theorem zl_sR (M : Mm) (a i : Nat) (v : Option Nat) : zl (sR M a i v) = zl M := rfl
theorem zI_sR (M : Mm) (a i : Nat) (v : Option Nat) : zI (sR M a i v) = zI M := rfl
theorem zR_sR (M : Mm) (a i : Nat) (v : Option Nat) (b j : Nat) : zR (sR M a i v) b j = if b = a ∧ j = i then v else zR M b j := rfl
theorem zR_sRo (M : Mm) (a i : Nat) (v : Option Nat) {b : Nat} (h : b ≠ a) : zR (sR M a i v) b = zR M b := by funext j; rw [zR_sR, if_neg fun q => h q.1]
theorem FrX.sR {x : Nat} {R : Nat → Prop} {M : Mm} {i : Nat} {v : Option Nat} : FrX x R M (sR M (x + 20) i v) := ⟨rfl, rfl, rfl, rfl, fun b hb => zR_sRo _ _ _ _ hb, fun _ _ => rfl⟩
section PX
variable {x : Nat} {R : Nat → Prop} {M M' : Mm}
theorem KS.frx (h : KS (x + 2) M) (f : FrX x R M M') : KS (x + 2) M' := by
  unfold KS at h ⊢
  rw [f.k, f.l, f.r (by omega)]; exact h
theorem XS.frx {sa sp : Nat} (h : XS x sa sp M) (f : FrX x R M M') : XS x sa sp M' := by
  obtain ⟨h1, h2, h3⟩ := h
  refine ⟨?_, h2.frx f, h3⟩
  rw [f.k, f.l, f.r (by omega)]; exact h1
theorem SeaSh.frx {sa : Nat} (h : SeaSh sa M) (f : FrX x R M M') (hx : x + 23 ≤ sa) : SeaSh sa M' := by
  unfold SeaSh at h ⊢
  rw [f.k, f.l, f.r (b := sa) (by omega), f.r (b := sa + 1) (by omega), f.r (b := sa + 4) (by omega), f.r (b := sa + 11) (by omega), f.r (b := sa + 13) (by omega)]; exact h
theorem CSea.frx {sa : Nat} {sg : Nat → Nat} (h : CSea sa sg M) (f : FrX x R M M') (hx : x + 23 ≤ sa) (d : ∀ b, sa ≤ b → b ≤ sa + 20 → ¬ R b) : CSea sa sg M' := by
  have e : ∀ i, i ≤ 20 → zI M' (sa + i) = zI M (sa + i) := fun i hi => f.i (d _ (by omega) (by omega))
  have e0 : zI M' sa = zI M sa := e 0 (by omega)
  obtain ⟨h1, h2⟩ := h
  refine ⟨h1.frx f hx, ?_⟩
  rw [e0, e 1 (by omega), e 3 (by omega), e 4 (by omega), e 7 (by omega), e 8 (by omega), e 9 (by omega), e 10 (by omega), e 11 (by omega), e 13 (by omega), e 15 (by omega), e 16 (by omega), e 17 (by omega), e 18 (by omega), e 19 (by omega), e 20 (by omega)]
  exact h2
theorem PlanSh.frx {a : Nat} (h : PlanSh M a) (f : FrX x R M M') (ha : a ≠ x + 20) : PlanSh M' a := by
  unfold PlanSh at h ⊢
  rw [f.k, f.l, f.r ha]; exact h
theorem CPl.frx {a : Nat} {sg pl : Nat → Nat} (h : CPl a sg pl M) (f : FrX x R M M') (ha : a ≠ x + 20) (d : ∀ b, a ≤ b → b ≤ a + 6 → ¬ R b) : CPl a sg pl M' := by
  have e : ∀ i, i ≤ 6 → zI M' (a + i) = zI M (a + i) := fun i hi => f.i (d _ (by omega) (by omega))
  have e0 : zI M' a = zI M a := e 0 (by omega)
  obtain ⟨h1, h2⟩ := h
  refine ⟨h1.frx f ha, ?_⟩
  rw [e0, e 1 (by omega), e 2 (by omega), e 3 (by omega), e 4 (by omega), e 5 (by omega), e 6 (by omega)]
  exact h2
end PX
/-- the plans kept for undo: hp tells where -/
def CHi (x hn : Nat) (hl : Nat → Nat → Nat) (hp : Nat → Nat) (sg : Nat → Nat) (M : Mm) : Prop := (∀ i, i < 10 → zR M (x + 20) i = some (hp i) ∧ PlanSh M (hp i) ∧ ∃ j, j < 10 ∧ hp i = x + 65 + 7 * j) ∧ (∀ i j, i < 10 → j < 10 → i ≠ j → hp i ≠ hp j) ∧ (∀ i, i < hn → CPl (hp i) sg (hl i) M) ∧ zI M x 9 = nI hn
/-- the slots -/
def CSn (x : Nat) (sv : Nat → Bool) (sl : Nat → Nat → Nat) (sg : Nat → Nat) (M : Mm) : Prop := ∀ i, i < 2 → zR M (x + 21) i = some (x + 135 + 7 * i) ∧ PlanSh M (x + 135 + 7 * i) ∧ zI M (x + 22) i = bI (sv i) ∧ (sv i = true → CPl (x + 135 + 7 * i) sg (sl i) M)
theorem CHi.fr {x hn : Nat} {hl : Nat → Nat → Nat} {hp sg : Nat → Nat} {R : Nat → Prop} {M M' : Mm} (h : CHi x hn hl hp sg M) (h10 : hn ≤ 10) (f : FrI R M M') (d : ∀ b, x + 65 ≤ b → b < x + 135 → ¬ R b) (d0 : zI M' x 9 = zI M x 9) : CHi x hn hl hp sg M' := by
  obtain ⟨h1, h2, h3, h4⟩ := h
  refine ⟨fun i hi => ?_, h2, fun i hi => ?_, by rw [d0]; exact h4⟩
  · rw [f.r]; exact ⟨(h1 i hi).1, (h1 i hi).2.1.fr f, (h1 i hi).2.2⟩
  · obtain ⟨-, -, j, j1, j2⟩ := h1 i (by omega)
    exact (h3 i hi).fr f fun b b1 b2 => d b (by omega) (by omega)
theorem CSn.frx {x : Nat} {sv : Nat → Bool} {sl : Nat → Nat → Nat} {sg : Nat → Nat} {R : Nat → Prop} {M M' : Mm} (h : CSn x sv sl sg M) (f : FrX x R M M') (d : ∀ b, x + 135 ≤ b → b < x + 149 → ¬ R b) (d1 : ¬ R (x + 22)) : CSn x sv sl sg M' := fun i hi => by
  obtain ⟨h1, h2, h3, h4⟩ := h i hi
  refine ⟨by rw [f.r (by omega)]; exact h1, h2.frx f (by omega), by rw [f.i d1]; exact h3, fun t => (h4 t).frx f (by omega) fun b b1 b2 => d b (by omega) (by omega)⟩
/-- one more plan to undo -/
def push (hn : Nat) (hl : Nat → Nat → Nat) (pl : Nat → Nat) : Nat → Nat → Nat := fun i => if hn = 10 then (if i = 9 then pl else hl (i + 1)) else if i = hn then pl else hl i
def pushn (hn : Nat) : Nat := if hn = 10 then 10 else hn + 1
/-- what taking over a draft writes -/
def RA (x : Nat) : Nat → Prop := fun b => b = x ∨ (x + 6 ≤ b ∧ b ≤ x + 12) ∨ (x + 65 ≤ b ∧ b < x + 135)
section AC
variable {x sa sp hn : Nat} {sg pl pl2 hp : Nat → Nat} {hl : Nat → Nat → Nat} {M : Mm}
/-- the two copies, once there is a place -/
theorem s_accept (hs : SB sg) (hx : XS x sa sp M) (h4 : CPl (x + 6) sg pl M) (hd : CPl (x + 13) sg pl2 M) (hb : PB sg pl) (hb2 : PB sg pl2) (hh : CHi x hn hl hp sg M) (h10 : hn < 10) {h0 : Nat} (hh0 : h0 = hp hn) (P : Mm → Prop)
    (K : ∀ M', FrI (RA x) M M' → (∀ i, i ≠ 9 → zI M' x i = zI M x i) → CPl (x + 6) sg pl2 M' → CHi x (hn + 1) (fun i => if i = hn then pl else hl i) hp sg M' → P M') :
    w_X4_copyFrom M h0 (x + 6) (fun M4 => zk M4 x = 7 ∧ zk M4 x = 7 ∧ (zk (sI M4 x 9 ((zI M4 x 9) + nI 1)) x = 7 ∧ ∃ a6, zR (sI M4 x 9 ((zI M4 x 9) + nI 1)) x 2 = some a6 ∧ (zk (sI M4 x 9 ((zI M4 x 9) + nI 1)) x = 7 ∧ ∃ a7, zR (sI M4 x 9 ((zI M4 x 9) + nI 1)) x 3 = some a7 ∧ zk (sI M4 x 9 ((zI M4 x 9) + nI 1)) a6 = 4 ∧ w_X4_copyFrom (sI M4 x 9 ((zI M4 x 9) + nI 1)) a6 a7 (fun M8 => P M8)))) := by
  subst hh0
  have b := hs.b
  obtain ⟨h1, h2, h3, h9⟩ := hh
  obtain ⟨p1, p2, j, j1, j2⟩ := h1 hn h10
  refine s_X4_copyFrom p2 h4.raw (by omega) hb.n (by omega) _ fun M4 f4 g4 => ?_
  have x4 := hx.fr f4
  have c9 : zI M4 x 9 = nI hn := by rw [f4.i (by unfold RP; omega)]; exact h9
  simp (disch := omega) only [x4.s, c9, zk_sI, zR_sI, l_0, l_1, l_2, l_3, l_4, l_5, l_6, l_7, l_8, l_9, l_10, l_20, l_30, l_31, l_34, l_40, l_65, l_100, l_255, l_11, l_12, l_24, l_600, l_689, l_999, l_120, l_32, nI_add, pk_mul, n_sub, n_leT, n_leF, n_ltT, n_ltF, n_eqT, n_eqF, n_cl, n_vp, fa_andq, fa_orq, fa_xorq, n_shl, n_shr, n_t1, n_t0, n_div, n_m1, not_true_eq_false, Bool.false_eq_true, false_and, Bool.not_false, Bool.not_true, Bool.and_true, Bool.and_false, Bool.false_and, Bool.true_and, true_and, and_true, true_or, or_true, not_false_eq_true, Option.some.injEq, exists_eq_left', forall_eq, ↓reduceIte, Nat.add_zero, Nat.zero_add, and_self]
  have f5 : FrI (fun b => b = x) M4 (sI M4 x 9 (nI (hn + 1))) := FrI.sI rfl
  have d5 := (hd.fr f4 (by unfold RP; omega)).fr f5 (by omega)
  have q5 := (g4.fr f5 (by omega))
  have s4 := h4.1.fr f4
  have s5 := s4.fr f5
  simp (disch := omega) only [s4.u, not_true_eq_false, Bool.false_eq_true, false_and, Bool.not_false, Bool.not_true, Bool.and_true, Bool.and_false, Bool.false_and, Bool.true_and, true_and, and_true, true_or, or_true, not_false_eq_true, Option.some.injEq, exists_eq_left', forall_eq, ↓reduceIte, Nat.add_zero, Nat.zero_add, and_self]
  refine s_X4_copyFrom s5 d5.raw (by omega) hb2.n (by omega) _ fun M6 f6 g6 => ?_
  have F : FrI (RA x) M M6 := ((f4.mono fun q hq => by unfold RP at hq; unfold RA; omega).trans (f5.mono fun q hq => by unfold RA; omega)).trans (f6.mono fun q hq => by unfold RP at hq; unfold RA; omega)
  refine K M6 F (fun i hi => ?_) g6.cpl ⟨fun i hi => ?_, h2, fun i hi => ?_, ?_⟩
  · rw [f6.i (by unfold RP; omega), zI_sI2 _ _ _ _ hi, f4.i (by unfold RP; omega)]
  · rw [F.r]; exact ⟨(h1 i hi).1, (h1 i hi).2.1.fr F, (h1 i hi).2.2⟩
  · obtain ⟨-, -, j3, j4, j5⟩ := h1 i (by omega)
    by_cases c : i = hn
    · subst c
      simp only [if_true]
      exact (q5.fr f6 (by unfold RP; omega)).cpl
    · simp only [if_neg c]
      have ne := h2 i hn (by omega) h10 c
      have c3 := h3 i (by omega)
      exact ((c3.fr f4 (by unfold RP; omega)).fr f5 (by omega)).fr f6 (by unfold RP; omega)
  · rw [f6.i (by unfold RP; omega), zI_sI1]
theorem s_X7_forget (hx : XS x sa sp M) (hh : CHi x 10 hl hp sg M) (P : Mm → Prop)
    (K : ∀ M', FrX x (fun b => b = x) M M' → (∀ i, i ≠ 9 → zI M' x i = zI M x i) → CHi x 9 (fun i => hl (i + 1)) (fun i => if i = 9 then hp 0 else hp (i + 1)) sg M' → P M') : w_X7_forgetOldestChange M x P := by
  obtain ⟨h1, h2, h3, h9⟩ := hh
  obtain ⟨p1, p2, j, j1, j2⟩ := h1 0 (by omega)
  simp (disch := omega) only [w_X7_forgetOldestChange, hx.s, p1, l_0, l_1, l_2, l_3, l_4, l_5, l_6, l_7, l_8, l_9, l_10, l_20, l_30, l_31, l_34, l_40, l_65, l_100, l_255, l_11, l_12, l_24, l_600, l_689, l_999, l_120, l_32, nI_add, pk_mul, n_sub, n_leT, n_leF, n_ltT, n_ltF, n_eqT, n_eqF, n_cl, n_vp, fa_andq, fa_orq, fa_xorq, n_shl, n_shr, n_t1, n_t0, n_div, n_m1, not_true_eq_false, Bool.false_eq_true, false_and, Bool.not_false, Bool.not_true, Bool.and_true, Bool.and_false, Bool.false_and, Bool.true_and, true_and, and_true, true_or, or_true, not_false_eq_true, Option.some.injEq, exists_eq_left', forall_eq, ↓reduceIte, Nat.add_zero, Nat.zero_add, and_self]
  refine lpI (fun n (z : Mm × Int32) => l_X7_forgetOldestChange_9 P _ n z.1 x (hp 0) z.2) (fun k z => (FrX x (fun b => b = x) M z.1 ∧ zI z.1 = zI M ∧ ∀ i, i < 10 → zR z.1 (x + 20) i = some (if i < k then hp (i + 1) else hp i)) ∧ z.2 = nI (k + 1)) 9 ?_ ?_ (M, nI 1) ⟨⟨⟨rfl, rfl, rfl, rfl, fun _ _ => rfl, fun _ _ => rfl⟩, rfl, fun i hi => by rw [if_neg (by omega)]; exact (h1 i hi).1⟩, rfl⟩
  · rintro n ⟨M1, a1⟩ ⟨⟨f, g, r⟩, e1⟩
    dsimp only at f g r e1 ⊢
    subst e1
    have x1 := hx.frx f
    have z0 : zk M1 (hp 0) = 4 := by rw [f.k]; exact p2.u.1
    have c9 : zI M1 x 9 = nI 10 := by rw [g]; exact h9
    have x2 : zR (sR M1 (x + 20) 9 (some (hp 0))) x = zR M1 x := zR_sRo _ _ _ _ (by omega)
    simp (disch := omega) only [l_X7_forgetOldestChange_9, x1.s, z0, zk_sR, zI_sR, zR_sI, x2, c9, l_0, l_1, l_2, l_3, l_4, l_5, l_6, l_7, l_8, l_9, l_10, l_20, l_30, l_31, l_34, l_40, l_65, l_100, l_255, l_11, l_12, l_24, l_600, l_689, l_999, l_120, l_32, nI_add, pk_mul, n_sub, n_leT, n_leF, n_ltT, n_ltF, n_eqT, n_eqF, n_cl, n_vp, fa_andq, fa_orq, fa_xorq, n_shl, n_shr, n_t1, n_t0, n_div, n_m1, not_true_eq_false, Bool.false_eq_true, false_and, Bool.not_false, Bool.not_true, Bool.and_true, Bool.and_false, Bool.false_and, Bool.true_and, true_and, and_true, true_or, or_true, not_false_eq_true, Option.some.injEq, exists_eq_left', forall_eq, ↓reduceIte, Nat.add_zero, Nat.zero_add, and_self]
    have F : FrX x (fun b => b = x) M (sI (sR M1 (x + 20) 9 (some (hp 0))) x 9 (nI 9)) := (f.trans FrX.sR).trans (FrI.sI (R := fun b => b = x) rfl).x
    refine K _ F (fun i hi => ?_) ⟨fun i hi => ⟨?_, ?_, ?_⟩, fun i k hi hk hne => ?_, fun i hi => ?_, zI_sI1 _ _ _ _⟩
    · rw [zI_sI2 _ _ _ _ hi, zI_sR, g]
    · rw [zR_sI, zR_sR]
      try dsimp only
      by_cases c : i = 9
      · rw [if_pos ⟨rfl, c⟩, if_pos c]
      · rw [if_neg (fun q => c q.2), if_neg c, r i hi, if_pos (by omega)]
    · by_cases c : i = 9
      · simp only [if_pos c]; exact p2.frx F (by omega)
      · simp only [if_neg c]
        obtain ⟨-, q2, j3, j4, j5⟩ := h1 (i + 1) (by omega)
        exact q2.frx F (by omega)
    · by_cases c : i = 9
      · simp only [if_pos c]; exact ⟨j, j1, j2⟩
      · simp only [if_neg c]; exact (h1 (i + 1) (by omega)).2.2
    · by_cases c : i = 9
      · by_cases c2 : k = 9
        · omega
        · simp only [if_pos c, if_neg c2]; exact h2 0 (k + 1) (by omega) (by omega) (by omega)
      · by_cases c2 : k = 9
        · simp only [if_neg c, if_pos c2]; exact h2 (i + 1) 0 (by omega) (by omega) (by omega)
        · simp only [if_neg c, if_neg c2]; exact h2 (i + 1) (k + 1) (by omega) (by omega) (by omega)
    · simp only [if_neg (show ¬ i = 9 by omega)]
      obtain ⟨-, q2, j3, j4, j5⟩ := h1 (i + 1) (by omega)
      exact (h3 (i + 1) (by omega)).frx F (by omega) (by omega)
  · rintro n k ⟨M1, a1⟩ hk ⟨⟨f, g, r⟩, e1⟩ L
    dsimp only at f g r e1 L ⊢
    subst e1
    have x1 := hx.frx f
    have rk := r (k + 1) (by omega)
    rw [if_neg (by omega)] at rk
    have z1 : zk M1 (hp (k + 1)) = 4 := by rw [f.k]; exact (h1 (k + 1) (by omega)).2.1.u.1
    simp (disch := omega) only [l_X7_forgetOldestChange_9, x1.s, rk, z1, l_0, l_1, l_2, l_3, l_4, l_5, l_6, l_7, l_8, l_9, l_10, l_20, l_30, l_31, l_34, l_40, l_65, l_100, l_255, l_11, l_12, l_24, l_600, l_689, l_999, l_120, l_32, nI_add, pk_mul, n_sub, n_leT, n_leF, n_ltT, n_ltF, n_eqT, n_eqF, n_cl, n_vp, fa_andq, fa_orq, fa_xorq, n_shl, n_shr, n_t1, n_t0, n_div, n_m1, not_true_eq_false, Bool.false_eq_true, false_and, Bool.not_false, Bool.not_true, Bool.and_true, Bool.and_false, Bool.false_and, Bool.true_and, true_and, and_true, true_or, or_true, not_false_eq_true, Option.some.injEq, exists_eq_left', forall_eq, ↓reduceIte, Nat.add_zero, Nat.zero_add, and_self]
    refine L (_, _) ⟨⟨f.trans FrX.sR, g, fun i hi => ?_⟩, rfl⟩
    show zR (sR M1 (x + 20) (k + 1 - 1) (some (hp (k + 1)))) (x + 20) i = _
    rw [zR_sR]
    by_cases c : i = k
    · rw [if_pos ⟨rfl, by omega⟩, if_pos (by omega), c]
    · rw [if_neg (fun q => by omega), r i hi]
      by_cases c2 : i < k
      · rw [if_pos c2, if_pos (by omega)]
      · rw [if_neg c2, if_neg (by omega)]
theorem s_X7_acceptDraft (hs : SB sg) (hx : XS x sa sp M) (h4 : CPl (x + 6) sg pl M) (hd : CPl (x + 13) sg pl2 M) (hb : PB sg pl) (hb2 : PB sg pl2) (hh : CHi x hn hl hp sg M) (h10 : hn ≤ 10) (P : Mm → Prop)
    (K : ∀ M' hp', FrX x (RA x) M M' → (∀ i, i ≠ 9 → zI M' x i = zI M x i) → CPl (x + 6) sg pl2 M' → CHi x (pushn hn) (push hn hl pl) hp' sg M' → P M') : w_X7_acceptDraft M x P := by
  have b := hs.b
  have h9 := hh.2.2.2
  by_cases c : hn = 10
  · subst c
    simp (disch := omega) only [w_X7_acceptDraft, hx.s, h9, l_0, l_1, l_2, l_3, l_4, l_5, l_6, l_7, l_8, l_9, l_10, l_20, l_30, l_31, l_34, l_40, l_65, l_100, l_255, l_11, l_12, l_24, l_600, l_689, l_999, l_120, l_32, nI_add, pk_mul, n_sub, n_leT, n_leF, n_ltT, n_ltF, n_eqT, n_eqF, n_cl, n_vp, fa_andq, fa_orq, fa_xorq, n_shl, n_shr, n_t1, n_t0, n_div, n_m1, not_true_eq_false, Bool.false_eq_true, false_and, Bool.not_false, Bool.not_true, Bool.and_true, Bool.and_false, Bool.false_and, Bool.true_and, true_and, and_true, true_or, or_true, not_false_eq_true, Option.some.injEq, exists_eq_left', forall_eq, ↓reduceIte, Nat.add_zero, Nat.zero_add, and_self]
    refine s_X7_forget hx hh _ fun M1 f1 g1 k1 => ?_
    have x1 := hx.frx f1
    have h41 := h4.frx f1 (by omega) (by omega)
    have hd1 := hd.frx f1 (by omega) (by omega)
    obtain ⟨q1, q2, q3, q9⟩ := k1
    have r9 := (q1 9 (by omega)).1
    have z9 := (q1 9 (by omega)).2.1.u.1
    simp only [if_true] at r9 z9
    simp (disch := omega) only [x1.s, q9, r9, z9, l_0, l_1, l_2, l_3, l_4, l_5, l_6, l_7, l_8, l_9, l_10, l_20, l_30, l_31, l_34, l_40, l_65, l_100, l_255, l_11, l_12, l_24, l_600, l_689, l_999, l_120, l_32, nI_add, pk_mul, n_sub, n_leT, n_leF, n_ltT, n_ltF, n_eqT, n_eqF, n_cl, n_vp, fa_andq, fa_orq, fa_xorq, n_shl, n_shr, n_t1, n_t0, n_div, n_m1, not_true_eq_false, Bool.false_eq_true, false_and, Bool.not_false, Bool.not_true, Bool.and_true, Bool.and_false, Bool.false_and, Bool.true_and, true_and, and_true, true_or, or_true, not_false_eq_true, Option.some.injEq, exists_eq_left', forall_eq, ↓reduceIte, Nat.add_zero, Nat.zero_add, and_self]
    refine s_accept (hn := 9) hs x1 h41 hd1 hb hb2 ⟨q1, q2, q3, q9⟩ (by omega) (if_pos rfl).symm P fun M2 f2 g2 k2 k3 => ?_
    refine K M2 (fun i => if i = 9 then hp 0 else hp (i + 1)) ((f1.mono fun q hq => by unfold RA; omega).trans f2.x) (fun i hi => (g2 i hi).trans (g1 i hi)) k2 ?_
    unfold push pushn
    simp only [if_true]
    exact k3
  · simp (disch := omega) only [w_X7_acceptDraft, hx.s, h9, l_0, l_1, l_2, l_3, l_4, l_5, l_6, l_7, l_8, l_9, l_10, l_20, l_30, l_31, l_34, l_40, l_65, l_100, l_255, l_11, l_12, l_24, l_600, l_689, l_999, l_120, l_32, nI_add, pk_mul, n_sub, n_leT, n_leF, n_ltT, n_ltF, n_eqT, n_eqF, n_cl, n_vp, fa_andq, fa_orq, fa_xorq, n_shl, n_shr, n_t1, n_t0, n_div, n_m1, not_true_eq_false, Bool.false_eq_true, false_and, Bool.not_false, Bool.not_true, Bool.and_true, Bool.and_false, Bool.false_and, Bool.true_and, true_and, and_true, true_or, or_true, not_false_eq_true, Option.some.injEq, exists_eq_left', forall_eq, ↓reduceIte, Nat.add_zero, Nat.zero_add, and_self]
    have r9 := (hh.1 hn (by omega)).1
    have z9 := (hh.1 hn (by omega)).2.1.u.1
    simp (disch := omega) only [r9, z9, l_0, l_1, l_2, l_3, l_4, l_5, l_6, l_7, l_8, l_9, l_10, l_20, l_30, l_31, l_34, l_40, l_65, l_100, l_255, l_11, l_12, l_24, l_600, l_689, l_999, l_120, l_32, nI_add, pk_mul, n_sub, n_leT, n_leF, n_ltT, n_ltF, n_eqT, n_eqF, n_cl, n_vp, fa_andq, fa_orq, fa_xorq, n_shl, n_shr, n_t1, n_t0, n_div, n_m1, not_true_eq_false, Bool.false_eq_true, false_and, Bool.not_false, Bool.not_true, Bool.and_true, Bool.and_false, Bool.false_and, Bool.true_and, true_and, and_true, true_or, or_true, not_false_eq_true, Option.some.injEq, exists_eq_left', forall_eq, ↓reduceIte, Nat.add_zero, Nat.zero_add, and_self]
    refine s_accept hs hx h4 hd hb hb2 hh (by omega) rfl P fun M2 f2 g2 k2 k3 => ?_
    refine K M2 hp f2.x g2 k2 ?_
    unfold push pushn
    simp only [if_neg c]
    exact k3
end AC
