/-! WHY A SERVICE CANNOT BE: both sides answer whyN -/
def hasC (sg : Nat → Nat) (S F : Nat) : Bool := al (fun w => !decide (S.testBit w = true ∧ ¬ dm sg w (oW sg w 4) F < 100)) (sg 3)
def whyN (sg pl : Nat → Nat) (ha t S c : Nat) : Nat := if pl 0 = 20 then 1 else if ¬ rented sg S (t / 3) = true then 2 else if ¬ hFree pl ha t (sg (6 + ha)) = true then 3 else if c = 1 ∧ ¬ ready sg pl S t = true then 4 else if hasC sg S (free sg pl t) = true then 0 else 5
theorem whyN_lt (sg pl : Nat → Nat) (ha t S c : Nat) : whyN sg pl ha t S c < 6 := by
  unfold whyN
  split
  · omega
  · split
    · omega
    · split
      · omega
      · split
        · omega
        · split <;> omega
/-- the shape of an OrchestraSeason at x, its season at sa, its spare at sp -/
def XS (x sa sp : Nat) (M : Mm) : Prop := ((zk M x = 7 ∧ zR M x 0 = some (x + 1) ∧ zR M x 1 = some (x + 2) ∧ zR M x 2 = some (x + 6) ∧ zR M x 3 = some (x + 13) ∧ zR M x 4 = some (x + 20) ∧ zR M x 5 = some (x + 21) ∧ zR M x 6 = some (x + 22) ∧ zR M x 10 = some sa ∧ zR M x 11 = some sp) ∧
  zk M (x + 1) = 9 ∧ zl M (x + 1) = 600 ∧ zk M (x + 20) = 13 ∧ zl M (x + 20) = 10 ∧ zk M (x + 21) = 13 ∧ zl M (x + 21) = 2 ∧ zk M (x + 22) = 12 ∧ zl M (x + 22) = 2) ∧ KS (x + 2) M ∧ ((sa = x + 23 ∧ sp = x + 44) ∨ (sa = x + 44 ∧ sp = x + 23))
theorem XS.fr {R : Nat → Prop} {M M' : Mm} {x sa sp : Nat} (h : XS x sa sp M) (f : FrI R M M') : XS x sa sp M' := by
  obtain ⟨h1, h2, h3⟩ := h
  refine ⟨?_, h2.fr f, h3⟩
  rw [f.k, f.l, f.r]; exact h1
theorem XS.xr {M : Mm} {x sa sp : Nat} (h : XS x sa sp M) : XR x sa M := ⟨h.1.1.1, h.1.1.2.2.2.2.2.2.2.2.1⟩
theorem XS.s {M : Mm} {x sa sp : Nat} (h : XS x sa sp M) : (zk M x = 7 ∧ zR M x 0 = some (x + 1) ∧ zR M x 1 = some (x + 2) ∧ zR M x 2 = some (x + 6) ∧ zR M x 3 = some (x + 13) ∧ zR M x 4 = some (x + 20) ∧ zR M x 5 = some (x + 21) ∧ zR M x 6 = some (x + 22) ∧ zR M x 10 = some sa ∧ zR M x 11 = some sp) ∧
  zk M (x + 1) = 9 ∧ zl M (x + 1) = 600 ∧ zk M (x + 20) = 13 ∧ zl M (x + 20) = 10 ∧ zk M (x + 21) = 13 ∧ zl M (x + 21) = 2 ∧ zk M (x + 22) = 12 ∧ zl M (x + 22) = 2 := h.1
theorem XS.ks {M : Mm} {x sa sp : Nat} (h : XS x sa sp M) : KS (x + 2) M := h.2.1
theorem XS.ko {M : Mm} {x sa sp : Nat} (h : XS x sa sp M) : zk M (x + 2) = 1 := h.2.1.1
theorem XS.at {M : Mm} {x sa sp : Nat} (h : XS x sa sp M) : x + 23 ≤ sa ∧ sa ≤ x + 44 ∧ x + 23 ≤ sp ∧ sp ≤ x + 44 ∧ (sa + 21 = sp ∨ sp + 21 = sa) := by
  rcases h.2.2 with ⟨rfl, rfl⟩ | ⟨rfl, rfl⟩ <;> omega
/-- the cells that the caster writes -/
def RK (x : Nat) : Nat → Prop := fun b => b = x + 2 + 1 ∨ b = x + 2 + 2 ∨ b = x + 2 + 3
/-- a frame that keeps who is next one of eight -/
def FK (x : Nat) (R : Nat → Prop) (M M' : Mm) : Prop := FrI R M M' ∧ (KP (x + 2) M → KP (x + 2) M')
theorem FK.rf {x : Nat} {R : Nat → Prop} {M : Mm} : FK x R M M := ⟨FrI.rf, id⟩
theorem FK.trans {x : Nat} {R : Nat → Prop} {M M1 M2 : Mm} (h : FK x R M M1) (k : FK x R M1 M2) : FK x R M M2 := ⟨h.1.trans k.1, fun z => k.2 (h.2 z)⟩
theorem FK.mono {x : Nat} {R S : Nat → Prop} {M M1 : Mm} (h : FK x R M M1) (d : ∀ b, R b → S b) : FK x S M M1 := ⟨h.1.mono d, h.2⟩
theorem FK.of {x : Nat} {R : Nat → Prop} {M M1 : Mm} (f : FrI R M M1) (d : ¬ R (x + 2 + 3)) : FK x R M M1 := ⟨f, fun z => z.fr f d⟩
section WY
variable {x sa sp a m : Nat} {sg pl : Nat → Nat} {M : Mm}
theorem s_X7_haveCasts (hs : SB sg) (hx : XS x sa sp M) (hq : KP (x + 2) M) (h : CSea sa sg M) {S F : Nat} (hS : S < 32) (hF : F < 256) (P : Int32 → Mm → Prop)
    (K : ∀ M', FK x (RK x) M M' → P (bI (hasC sg S F)) M') : w_X7_haveCasts M x (nI S) (nI F) P := by
  have b := hs.b
  have at_ := hx.at
  simp (disch := omega) only [w_X7_haveCasts, l_0, l_1, l_2, l_3, l_4, l_5, l_6, l_7, l_8, l_9, l_10, l_20, l_30, l_31, l_34, l_40, l_65, l_100, l_255, l_11, l_12, l_24, l_600, l_689, l_999, l_120, l_32, nI_add, pk_mul, n_sub, n_leT, n_leF, n_ltT, n_ltF, n_eqT, n_eqF, n_cl, n_vp, fa_andq, fa_orq, fa_xorq, n_shl, n_shr, n_t1, n_t0, n_div, n_m1, not_true_eq_false, Bool.false_eq_true, false_and, Bool.not_false, Bool.not_true, Bool.and_true, Bool.and_false, Bool.false_and, Bool.true_and, true_and, and_true, true_or, or_true, not_false_eq_true, Option.some.injEq, exists_eq_left', forall_eq, ↓reduceIte, Nat.add_zero, Nat.zero_add, and_self]
  refine lpI (fun n (z : Mm × Int32) => l_X7_haveCasts_2 P (fun M7 => P (nI 0) M7) (fun M8 => P (nI 1) M8) n z.1 x (nI S) (nI F) z.2) (fun k z => (FK x (RK x) M z.1 ∧ ∀ i, i < k → (!decide (S.testBit i = true ∧ ¬ dm sg i (oW sg i 4) F < 100)) = true) ∧ z.2 = nI k) (sg 3) ?_ ?_ (M, nI 0) ⟨⟨FK.rf, fun i hi => absurd hi (Nat.not_lt_zero i)⟩, rfl⟩
  · rintro n ⟨M1, a1⟩ ⟨⟨f, g⟩, e1⟩
    dsimp only at f g e1 ⊢
    subst e1
    have x1 := hx.fr f.1
    have h1 := h.fr f.1 (by unfold RK; omega)
    have k := K M1 f
    unfold hasC at k
    rw [(al_iff _ _).mpr g] at k
    simp (disch := omega) only [l_X7_haveCasts_2, x1.s, h1.s1, h1.n, l_0, l_1, l_2, l_3, l_4, l_5, l_6, l_7, l_8, l_9, l_10, l_20, l_30, l_31, l_34, l_40, l_65, l_100, l_255, l_11, l_12, l_24, l_600, l_689, l_999, l_120, l_32, nI_add, pk_mul, n_sub, n_leT, n_leF, n_ltT, n_ltF, n_eqT, n_eqF, n_cl, n_vp, fa_andq, fa_orq, fa_xorq, n_shl, n_shr, n_t1, n_t0, n_div, n_m1, not_true_eq_false, Bool.false_eq_true, false_and, Bool.not_false, Bool.not_true, Bool.and_true, Bool.and_false, Bool.false_and, Bool.true_and, true_and, and_true, true_or, or_true, not_false_eq_true, Option.some.injEq, exists_eq_left', forall_eq, ↓reduceIte, Nat.add_zero, Nat.zero_add, and_self]
    exact k
  · rintro n k ⟨M1, a1⟩ hk ⟨⟨f, g⟩, e1⟩ L
    dsimp only at f g e1 L ⊢
    subst e1
    have x1 := hx.fr f.1
    have h1 := h.fr f.1 (by unfold RK; omega)
    by_cases c : S.testBit k = true
    · simp (disch := omega) only [l_X7_haveCasts_2, x1.s, x1.ko, h1.s1, h1.n, e_has, c, bI_t, l_0, l_1, l_2, l_3, l_4, l_5, l_6, l_7, l_8, l_9, l_10, l_20, l_30, l_31, l_34, l_40, l_65, l_100, l_255, l_11, l_12, l_24, l_600, l_689, l_999, l_120, l_32, nI_add, pk_mul, n_sub, n_leT, n_leF, n_ltT, n_ltF, n_eqT, n_eqF, n_cl, n_vp, fa_andq, fa_orq, fa_xorq, n_shl, n_shr, n_t1, n_t0, n_div, n_m1, not_true_eq_false, Bool.false_eq_true, false_and, Bool.not_false, Bool.not_true, Bool.and_true, Bool.and_false, Bool.false_and, Bool.true_and, true_and, and_true, true_or, or_true, not_false_eq_true, Option.some.injEq, exists_eq_left', forall_eq, ↓reduceIte, Nat.add_zero, Nat.zero_add, and_self]
      refine s_X0_castWork hs h1 x1.ks (f.2 hq) (by omega) hk hF _ fun M2 f2 kp2 g2 => ?_
      have f3 : FK x (RK x) M M2 := f.trans ⟨f2, fun _ => kp2⟩
      have l := dm_le sg k (oW sg k 4) F
      unfold ansD
      by_cases q : dm sg k (oW sg k 4) F < 100
      · simp (disch := omega) only [q, l_0, l_1, l_2, l_3, l_4, l_5, l_6, l_7, l_8, l_9, l_10, l_20, l_30, l_31, l_34, l_40, l_65, l_100, l_255, l_11, l_12, l_24, l_600, l_689, l_999, l_120, l_32, nI_add, pk_mul, n_sub, n_leT, n_leF, n_ltT, n_ltF, n_eqT, n_eqF, n_cl, n_vp, fa_andq, fa_orq, fa_xorq, n_shl, n_shr, n_t1, n_t0, n_div, n_m1, not_true_eq_false, Bool.false_eq_true, false_and, Bool.not_false, Bool.not_true, Bool.and_true, Bool.and_false, Bool.false_and, Bool.true_and, true_and, and_true, true_or, or_true, not_false_eq_true, Option.some.injEq, exists_eq_left', forall_eq, ↓reduceIte, Nat.add_zero, Nat.zero_add, and_self]
        refine L (M2, _) ⟨⟨f3, fun i hi => ?_⟩, rfl⟩
        by_cases e : i = k
        · subst e; exact ndf fun z => z.2 q
        · exact g i (by omega)
      · simp (disch := omega) only [q, l_0, l_1, l_2, l_3, l_4, l_5, l_6, l_7, l_8, l_9, l_10, l_20, l_30, l_31, l_34, l_40, l_65, l_100, l_255, l_11, l_12, l_24, l_600, l_689, l_999, l_120, l_32, nI_add, pk_mul, n_sub, n_leT, n_leF, n_ltT, n_ltF, n_eqT, n_eqF, n_cl, n_vp, fa_andq, fa_orq, fa_xorq, n_shl, n_shr, n_t1, n_t0, n_div, n_m1, not_true_eq_false, Bool.false_eq_true, false_and, Bool.not_false, Bool.not_true, Bool.and_true, Bool.and_false, Bool.false_and, Bool.true_and, true_and, and_true, true_or, or_true, not_false_eq_true, Option.some.injEq, exists_eq_left', forall_eq, ↓reduceIte, Nat.add_zero, Nat.zero_add, and_self]
        have k2 := K M2 f3
        unfold hasC at k2
        have z0 : al (fun w => !decide (S.testBit w = true ∧ ¬ dm sg w (oW sg w 4) F < 100)) (sg 3) = false := b_no fun z => nd_f ((al_iff _ _).mp z k hk) ⟨c, q⟩
        rw [z0] at k2
        exact k2
    · simp (disch := omega) only [l_X7_haveCasts_2, x1.s, h1.s1, h1.n, e_has, b_no c, bI_f, l_0, l_1, l_2, l_3, l_4, l_5, l_6, l_7, l_8, l_9, l_10, l_20, l_30, l_31, l_34, l_40, l_65, l_100, l_255, l_11, l_12, l_24, l_600, l_689, l_999, l_120, l_32, nI_add, pk_mul, n_sub, n_leT, n_leF, n_ltT, n_ltF, n_eqT, n_eqF, n_cl, n_vp, fa_andq, fa_orq, fa_xorq, n_shl, n_shr, n_t1, n_t0, n_div, n_m1, not_true_eq_false, Bool.false_eq_true, false_and, Bool.not_false, Bool.not_true, Bool.and_true, Bool.and_false, Bool.false_and, Bool.true_and, true_and, and_true, true_or, or_true, not_false_eq_true, Option.some.injEq, exists_eq_left', forall_eq, ↓reduceIte, Nat.add_zero, Nat.zero_add, and_self]
      refine L (M1, _) ⟨⟨f, fun i hi => ?_⟩, rfl⟩
      by_cases e : i = k
      · subst e; exact ndf fun z => c z.1
      · exact g i (by omega)
theorem s_X7_reasonAgainst (hs : SB sg) (hp : PB sg pl) (hx : XS x sa sp M) (hq : KP (x + 2) M) (h : CSea sa sg M) (h4 : CPl a sg pl M) {ha t S c : Nat} (hha : ha < sg 1) (ht : t < 90) (hS : S < 32) (hc : c < 2) (P : Int32 → Mm → Prop)
    (K : ∀ M', FK x (RK x) M M' → P (nI (whyN sg pl ha t S c)) M') : w_X7_reasonAgainst M x a (nI ha) (nI t) (nI S) (nI c) P := by
  have b := hs.b
  have n := hp.n
  have u := hs.k (6 + ha)
  have K0 := K M FK.rf
  unfold whyN at K K0
  by_cases c1 : pl 0 = 20
  · rw [if_pos c1] at K0
    simp (disch := omega) only [w_X7_reasonAgainst, h4.sh, h4.n, l_0, l_1, l_2, l_3, l_4, l_5, l_6, l_7, l_8, l_9, l_10, l_20, l_30, l_31, l_34, l_40, l_65, l_100, l_255, l_11, l_12, l_24, l_600, l_689, l_999, l_120, l_32, nI_add, pk_mul, n_sub, n_leT, n_leF, n_ltT, n_ltF, n_eqT, n_eqF, n_cl, n_vp, fa_andq, fa_orq, fa_xorq, n_shl, n_shr, n_t1, n_t0, n_div, n_m1, not_true_eq_false, Bool.false_eq_true, false_and, Bool.not_false, Bool.not_true, Bool.and_true, Bool.and_false, Bool.false_and, Bool.true_and, true_and, and_true, true_or, or_true, not_false_eq_true, Option.some.injEq, exists_eq_left', forall_eq, ↓reduceIte, Nat.add_zero, Nat.zero_add, and_self]
    exact K0
  · rw [if_neg c1] at K K0
    by_cases c2 : rented sg S (t / 3) = true
    · rw [if_neg (fun z => z c2)] at K K0
      by_cases c3 : hFree pl ha t (sg (6 + ha)) = true
      · rw [if_neg (fun z => z c3)] at K K0
        by_cases c4 : c = 1
        · by_cases c5 : ready sg pl S t = true
          · rw [if_neg (fun z => z.2 c5)] at K K0
            simp (disch := omega) only [w_X7_reasonAgainst, hx.s, h.s1, h.h, h4.sh, h4.n, e_X6_areRentedOn hs h, c2, bI_t, e_X4_isHallTaken hs hp h4, c3, bI_f, e_X7_areRehearsed hs hp hx.xr h h4, c5, e_X7_freePlayers hs hp hx.xr h h4, c4, l_0, l_1, l_2, l_3, l_4, l_5, l_6, l_7, l_8, l_9, l_10, l_20, l_30, l_31, l_34, l_40, l_65, l_100, l_255, l_11, l_12, l_24, l_600, l_689, l_999, l_120, l_32, nI_add, pk_mul, n_sub, n_leT, n_leF, n_ltT, n_ltF, n_eqT, n_eqF, n_cl, n_vp, fa_andq, fa_orq, fa_xorq, n_shl, n_shr, n_t1, n_t0, n_div, n_m1, not_true_eq_false, Bool.false_eq_true, false_and, Bool.not_false, Bool.not_true, Bool.and_true, Bool.and_false, Bool.false_and, Bool.true_and, true_and, and_true, true_or, or_true, not_false_eq_true, Option.some.injEq, exists_eq_left', forall_eq, ↓reduceIte, Nat.add_zero, Nat.zero_add, and_self]
            refine s_X7_haveCasts hs hx hq h hS (free_lt hs t) _ fun M2 f => ?_
            have k := K M2 f
            by_cases c6 : hasC sg S (free sg pl t) = true
            · simp (disch := omega) only [c6, bI_t, l_0, l_1, l_2, l_3, l_4, l_5, l_6, l_7, l_8, l_9, l_10, l_20, l_30, l_31, l_34, l_40, l_65, l_100, l_255, l_11, l_12, l_24, l_600, l_689, l_999, l_120, l_32, nI_add, pk_mul, n_sub, n_leT, n_leF, n_ltT, n_ltF, n_eqT, n_eqF, n_cl, n_vp, fa_andq, fa_orq, fa_xorq, n_shl, n_shr, n_t1, n_t0, n_div, n_m1, not_true_eq_false, Bool.false_eq_true, false_and, Bool.not_false, Bool.not_true, Bool.and_true, Bool.and_false, Bool.false_and, Bool.true_and, true_and, and_true, true_or, or_true, not_false_eq_true, Option.some.injEq, exists_eq_left', forall_eq, ↓reduceIte, Nat.add_zero, Nat.zero_add, and_self] at k ⊢
              exact k
            · simp (disch := omega) only [b_no c6, bI_f, l_0, l_1, l_2, l_3, l_4, l_5, l_6, l_7, l_8, l_9, l_10, l_20, l_30, l_31, l_34, l_40, l_65, l_100, l_255, l_11, l_12, l_24, l_600, l_689, l_999, l_120, l_32, nI_add, pk_mul, n_sub, n_leT, n_leF, n_ltT, n_ltF, n_eqT, n_eqF, n_cl, n_vp, fa_andq, fa_orq, fa_xorq, n_shl, n_shr, n_t1, n_t0, n_div, n_m1, not_true_eq_false, Bool.false_eq_true, false_and, Bool.not_false, Bool.not_true, Bool.and_true, Bool.and_false, Bool.false_and, Bool.true_and, true_and, and_true, true_or, or_true, not_false_eq_true, Option.some.injEq, exists_eq_left', forall_eq, ↓reduceIte, Nat.add_zero, Nat.zero_add, and_self] at k ⊢
              exact k
          · rw [if_pos ⟨c4, c5⟩] at K K0
            simp (disch := omega) only [w_X7_reasonAgainst, hx.s, h.s1, h.h, h4.sh, h4.n, e_X6_areRentedOn hs h, c2, bI_t, e_X4_isHallTaken hs hp h4, c3, bI_f, e_X7_areRehearsed hs hp hx.xr h h4, b_no c5, c4, l_0, l_1, l_2, l_3, l_4, l_5, l_6, l_7, l_8, l_9, l_10, l_20, l_30, l_31, l_34, l_40, l_65, l_100, l_255, l_11, l_12, l_24, l_600, l_689, l_999, l_120, l_32, nI_add, pk_mul, n_sub, n_leT, n_leF, n_ltT, n_ltF, n_eqT, n_eqF, n_cl, n_vp, fa_andq, fa_orq, fa_xorq, n_shl, n_shr, n_t1, n_t0, n_div, n_m1, not_true_eq_false, Bool.false_eq_true, false_and, Bool.not_false, Bool.not_true, Bool.and_true, Bool.and_false, Bool.false_and, Bool.true_and, true_and, and_true, true_or, or_true, not_false_eq_true, Option.some.injEq, exists_eq_left', forall_eq, ↓reduceIte, Nat.add_zero, Nat.zero_add, and_self]
            exact K0
        · rw [if_neg (fun z => c4 z.1)] at K K0
          have c7 : c = 0 := by omega
          simp (disch := omega) only [w_X7_reasonAgainst, hx.s, h.s1, h.h, h4.sh, h4.n, e_X6_areRentedOn hs h, c2, bI_t, e_X4_isHallTaken hs hp h4, c3, bI_f, c7, e_X7_freePlayers hs hp hx.xr h h4, l_0, l_1, l_2, l_3, l_4, l_5, l_6, l_7, l_8, l_9, l_10, l_20, l_30, l_31, l_34, l_40, l_65, l_100, l_255, l_11, l_12, l_24, l_600, l_689, l_999, l_120, l_32, nI_add, pk_mul, n_sub, n_leT, n_leF, n_ltT, n_ltF, n_eqT, n_eqF, n_cl, n_vp, fa_andq, fa_orq, fa_xorq, n_shl, n_shr, n_t1, n_t0, n_div, n_m1, not_true_eq_false, Bool.false_eq_true, false_and, Bool.not_false, Bool.not_true, Bool.and_true, Bool.and_false, Bool.false_and, Bool.true_and, true_and, and_true, true_or, or_true, not_false_eq_true, Option.some.injEq, exists_eq_left', forall_eq, ↓reduceIte, Nat.add_zero, Nat.zero_add, and_self]
          refine s_X7_haveCasts hs hx hq h hS (free_lt hs t) _ fun M2 f => ?_
          have k := K M2 f
          by_cases c6 : hasC sg S (free sg pl t) = true
          · simp (disch := omega) only [c6, bI_t, l_0, l_1, l_2, l_3, l_4, l_5, l_6, l_7, l_8, l_9, l_10, l_20, l_30, l_31, l_34, l_40, l_65, l_100, l_255, l_11, l_12, l_24, l_600, l_689, l_999, l_120, l_32, nI_add, pk_mul, n_sub, n_leT, n_leF, n_ltT, n_ltF, n_eqT, n_eqF, n_cl, n_vp, fa_andq, fa_orq, fa_xorq, n_shl, n_shr, n_t1, n_t0, n_div, n_m1, not_true_eq_false, Bool.false_eq_true, false_and, Bool.not_false, Bool.not_true, Bool.and_true, Bool.and_false, Bool.false_and, Bool.true_and, true_and, and_true, true_or, or_true, not_false_eq_true, Option.some.injEq, exists_eq_left', forall_eq, ↓reduceIte, Nat.add_zero, Nat.zero_add, and_self] at k ⊢
            exact k
          · simp (disch := omega) only [b_no c6, bI_f, l_0, l_1, l_2, l_3, l_4, l_5, l_6, l_7, l_8, l_9, l_10, l_20, l_30, l_31, l_34, l_40, l_65, l_100, l_255, l_11, l_12, l_24, l_600, l_689, l_999, l_120, l_32, nI_add, pk_mul, n_sub, n_leT, n_leF, n_ltT, n_ltF, n_eqT, n_eqF, n_cl, n_vp, fa_andq, fa_orq, fa_xorq, n_shl, n_shr, n_t1, n_t0, n_div, n_m1, not_true_eq_false, Bool.false_eq_true, false_and, Bool.not_false, Bool.not_true, Bool.and_true, Bool.and_false, Bool.false_and, Bool.true_and, true_and, and_true, true_or, or_true, not_false_eq_true, Option.some.injEq, exists_eq_left', forall_eq, ↓reduceIte, Nat.add_zero, Nat.zero_add, and_self] at k ⊢
            exact k
      · rw [if_pos c3] at K0
        simp (disch := omega) only [w_X7_reasonAgainst, hx.s, h.s1, h.h, h4.sh, h4.n, e_X6_areRentedOn hs h, c2, bI_t, e_X4_isHallTaken hs hp h4, b_no c3, l_0, l_1, l_2, l_3, l_4, l_5, l_6, l_7, l_8, l_9, l_10, l_20, l_30, l_31, l_34, l_40, l_65, l_100, l_255, l_11, l_12, l_24, l_600, l_689, l_999, l_120, l_32, nI_add, pk_mul, n_sub, n_leT, n_leF, n_ltT, n_ltF, n_eqT, n_eqF, n_cl, n_vp, fa_andq, fa_orq, fa_xorq, n_shl, n_shr, n_t1, n_t0, n_div, n_m1, not_true_eq_false, Bool.false_eq_true, false_and, Bool.not_false, Bool.not_true, Bool.and_true, Bool.and_false, Bool.false_and, Bool.true_and, true_and, and_true, true_or, or_true, not_false_eq_true, Option.some.injEq, exists_eq_left', forall_eq, ↓reduceIte, Nat.add_zero, Nat.zero_add, and_self]
        exact K0
    · rw [if_pos c2] at K0
      simp (disch := omega) only [w_X7_reasonAgainst, hx.s, h.s1, h4.sh, h4.n, e_X6_areRentedOn hs h, b_no c2, bI_f, l_0, l_1, l_2, l_3, l_4, l_5, l_6, l_7, l_8, l_9, l_10, l_20, l_30, l_31, l_34, l_40, l_65, l_100, l_255, l_11, l_12, l_24, l_600, l_689, l_999, l_120, l_32, nI_add, pk_mul, n_sub, n_leT, n_leF, n_ltT, n_ltF, n_eqT, n_eqF, n_cl, n_vp, fa_andq, fa_orq, fa_xorq, n_shl, n_shr, n_t1, n_t0, n_div, n_m1, not_true_eq_false, Bool.false_eq_true, false_and, Bool.not_false, Bool.not_true, Bool.and_true, Bool.and_false, Bool.false_and, Bool.true_and, true_and, and_true, true_or, or_true, not_false_eq_true, Option.some.injEq, exists_eq_left', forall_eq, ↓reduceIte, Nat.add_zero, Nat.zero_add, and_self]
      exact K0
end WY
