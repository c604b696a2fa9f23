/-! THE DRAFT: who is free beside a service without a cast; casts for it -/
def inR (r : Nat → Nat → Nat) (s : Nat) : Nat := fo (fun i b => if r s (4 + i) ≠ 4294967295 then b ||| 2 ^ r s (4 + i) else b) 30 0
def atR (r : Nat → Nat → Nat) (n t : Nat) : Nat := fo (fun s b => if r s 0 = t then b ||| inR r s else b) n 0
/-- places hold players or none -/
def RB (r : Nat → Nat → Nat) (n : Nat) : Prop := ∀ s, s < n → r s 0 < 90 ∧ r s 1 < 3 ∧ r s 2 < 2 ∧ r s 3 < 32 ∧ ∀ i, i < 30 → r s (4 + i) < 8 ∨ r s (4 + i) = 4294967295
theorem rawP_hi (sg pl : Nat → Nat) (s i : Nat) : rawP sg pl s (4 + i) = cs sg pl s i := by
  unfold rawP
  rw [if_neg (by omega), Nat.add_sub_cancel_left]
theorem rawP_lo (sg pl : Nat → Nat) (s : Nat) {f : Nat} (h : f < 4) : rawP sg pl s f = oS pl s f := if_pos h
theorem RB.of {sg pl : Nat → Nat} (hs : SB sg) (hp : PB sg pl) : RB (rawP sg pl) (pl 0) := fun s hn => by
  have b := hs.b
  have d := hp.s hs hn
  refine ⟨?_, ?_, ?_, ?_, fun i hi => ?_⟩
  · rw [rawP_lo _ _ _ (by omega)]; omega
  · rw [rawP_lo _ _ _ (by omega)]; omega
  · rw [rawP_lo _ _ _ (by omega)]; omega
  · rw [rawP_lo _ _ _ (by omega)]; omega
  · rw [rawP_hi]
    rcases cs_lt (i := i) hs hp hn with h | h
    · exact Or.inl (by omega)
    · exact Or.inr h
theorem inR_raw {sg pl : Nat → Nat} (hs : SB sg) (hp : PB sg pl) {s : Nat} (hn : s < pl 0) : inR (rawP sg pl) s = inS sg pl s := by
  rw [← inS_cs hs hp hn]
  unfold inR
  exact fo_ext (fun i b _ => by rw [rawP_hi]) 0 30 (Nat.le_refl _)
theorem inR_lt {r : Nat → Nat → Nat} {n : Nat} (h : RB r n) {s : Nat} (hn : s < n) : inR r s < 256 := by
  refine lt256 (n := 8) (Nat.le_refl 8) fun k t => ?_
  unfold inR at t
  rw [tb_fo (fun i => r s (4 + i) ≠ 4294967295), Nat.zero_testBit] at t
  rcases t with t | ⟨i, h1, h2, h3⟩
  · exact absurd t (by decide)
  · rw [← h3]
    exact ((h s hn).2.2.2.2 i h1).resolve_right h2
theorem inR_no {r : Nat → Nat → Nat} {s : Nat} (h : ∀ i, i < 30 → r s (4 + i) = 4294967295) : inR r s = 0 := by
  refine Nat.eq_of_testBit_eq fun k => ?_
  rw [Nat.zero_testBit]
  refine b_no fun t => ?_
  unfold inR at t
  rw [tb_fo (fun i => r s (4 + i) ≠ 4294967295), Nat.zero_testBit] at t
  rcases t with t | ⟨i, h1, h2, h3⟩
  · exact absurd t (by decide)
  · exact h2 (h i h1)
theorem tb_at (c : Nat → Prop) [DecidablePred c] (f : Nat → Nat) (k : Nat) : ∀ n, (fo (fun s b => if c s then b ||| f s else b) n 0).testBit k = true ↔ ∃ s, s < n ∧ c s ∧ (f s).testBit k = true
  | 0 => ⟨fun h => absurd h (by rw [show fo (fun s b => if c s then b ||| f s else b) 0 0 = 0 from rfl, Nat.zero_testBit]; decide), fun ⟨s, h, _⟩ => absurd h (Nat.not_lt_zero s)⟩
  | n + 1 => by
    rw [fo_s]
    by_cases h : c n
    · rw [if_pos h, Nat.testBit_or, Bool.or_eq_true, tb_at c f k n]
      constructor
      · rintro (⟨s, q1, q2⟩ | q)
        · exact ⟨s, by omega, q2⟩
        · exact ⟨n, by omega, h, q⟩
      · rintro ⟨s, q1, q2, q3⟩
        by_cases e : s = n
        · subst e; exact Or.inr q3
        · exact Or.inl ⟨s, by omega, q2, q3⟩
    · rw [if_neg h, tb_at c f k n]
      constructor
      · rintro ⟨s, q1, q2⟩
        exact ⟨s, by omega, q2⟩
      · rintro ⟨s, q1, q2, q3⟩
        by_cases e : s = n
        · subst e; exact absurd q2 h
        · exact ⟨s, by omega, q2, q3⟩
theorem atR_lt {r : Nat → Nat → Nat} {n : Nat} (h : RB r n) (t : Nat) : atR r n t < 256 := by
  refine fo_bits (N := n) (n := 8) (fun i b hi hb => ?_) _ (Nat.le_refl _)
  split
  · exact Nat.or_lt_two_pow hb (inR_lt h hi)
  · exact hb
/-- a service without a cast takes nobody away -/
theorem atR_ins {sg pl : Nat → Nat} (hs : SB sg) (hp : PB sg pl) {at_ t ha c S : Nat} (hat : at_ ≤ pl 0) (u : Nat) : atR (insB (rawP sg pl) at_ t ha c S) (pl 0 + 1) u = atS sg pl u := by
  refine Nat.eq_of_testBit_eq fun k => ?_
  rw [Bool.eq_iff_iff]
  unfold atR atS
  rw [tb_at (fun s => insB (rawP sg pl) at_ t ha c S s 0 = u), tb_at (fun s => oS pl s 0 = u)]
  have blank : inR (insB (rawP sg pl) at_ t ha c S) at_ = 0 := inR_no fun i hi => by
    unfold insB blk
    rw [if_neg (by omega), if_pos rfl, if_neg (by omega), if_neg (by omega), if_neg (by omega), if_neg (by omega)]
  have lo : ∀ s, s < at_ → insB (rawP sg pl) at_ t ha c S s = rawP sg pl s := fun s h => by
    funext f; unfold insB; rw [if_pos h]
  have hi : ∀ s, at_ < s → insB (rawP sg pl) at_ t ha c S s = rawP sg pl (s - 1) := fun s h => by
    funext f; unfold insB; rw [if_neg (by omega), if_neg (by omega)]
  have ine : ∀ s q, insB (rawP sg pl) at_ t ha c S s = rawP sg pl q → inR (insB (rawP sg pl) at_ t ha c S) s = inR (rawP sg pl) q := fun s q e => by
    unfold inR; rw [e]
  constructor
  · rintro ⟨s, h1, h2, h3⟩
    rcases Nat.lt_trichotomy s at_ with e | e | e
    · refine ⟨s, by omega, ?_, ?_⟩
      · rw [lo s e, rawP_lo _ _ _ (by omega)] at h2; exact h2
      · rw [ine s s (lo s e), inR_raw hs hp (by omega)] at h3; exact h3
    · subst e; rw [blank, Nat.zero_testBit] at h3; exact absurd h3 (by decide)
    · refine ⟨s - 1, by omega, ?_, ?_⟩
      · rw [hi s e, rawP_lo _ _ _ (by omega)] at h2; exact h2
      · rw [ine s (s - 1) (hi s e), inR_raw hs hp (by omega)] at h3; exact h3
  · rintro ⟨s, h1, h2, h3⟩
    by_cases e : s < at_
    · refine ⟨s, by omega, ?_, ?_⟩
      · rw [lo s e, rawP_lo _ _ _ (by omega)]; exact h2
      · rw [ine s s (lo s e), inR_raw hs hp h1]; exact h3
    · refine ⟨s + 1, by omega, ?_, ?_⟩
      · rw [hi (s + 1) (by omega), rawP_lo _ _ _ (by omega)]; exact h2
      · rw [ine (s + 1) s (hi (s + 1) (by omega)), inR_raw hs hp h1]; exact h3
theorem RB.ins {r : Nat → Nat → Nat} {n at_ t ha c S : Nat} (h : RB r n) (hat : at_ ≤ n) (ht : t < 90) (hha : ha < 3) (hc : c < 2) (hS : S < 32) : RB (insB r at_ t ha c S) (n + 1) := fun s hn => by
  unfold insB
  by_cases c1 : s < at_
  · simp only [if_pos c1]
    exact h s (by omega)
  · simp only [if_neg c1]
    by_cases c2 : s = at_
    · simp only [if_pos c2]
      refine ⟨ht, hha, hc, hS, fun i hi => Or.inr ?_⟩
      unfold blk
      rw [if_neg (by omega), if_neg (by omega), if_neg (by omega), if_neg (by omega)]
    · simp only [if_neg c2]
      exact h (s - 1) (by omega)
section DR
variable {x sa sp a n np : Nat} {sg : Nat → Nat} {r : Nat → Nat → Nat} {k : Nat → Nat} {M : Mm}
theorem r_X4_playersIn (hr : RB r n) (hn : n ≤ 20) (h : RPl a n r k np M) {s : Nat} (hs : s < n) (P : Int32 → Mm → Prop) : w_X4_playersIn M a (nI s) P ↔ P (nI (inR r s)) M := by
  unfold w_X4_playersIn
  refine lpE (fun n (z : Int32 × Int32) => l_X4_playersIn_4 P (fun M2 x2 => P x2 M2) n M a (nI s) z.1 z.2) (fun j => (nI (fo (fun i b => if r s (4 + i) ≠ 4294967295 then b ||| 2 ^ r s (4 + i) else b) j 0), nI j)) 30 (fun _ h => h.elim) (fun _ => ?_) (fun n1 j hj => ?_)
  · simp (disch := omega) only [l_X4_playersIn_4, inR, l_0, l_1, l_2, l_3, l_4, l_5, l_6, l_7, l_8, l_9, l_10, l_20, l_30, l_31, l_34, l_40, l_65, l_100, l_255, l_11, l_12, l_24, l_600, l_689, l_999, l_120, l_32, nI_add, pk_mul, n_sub, n_leT, n_leF, n_ltT, n_ltF, n_eqT, n_eqF, n_cl, n_vp, fa_andq, fa_orq, fa_xorq, n_shl, n_shr, n_t1, n_t0, n_div, n_m1, not_true_eq_false, Bool.false_eq_true, false_and, Bool.not_false, Bool.not_true, Bool.and_true, Bool.and_false, Bool.false_and, Bool.true_and, true_and, and_true, true_or, or_true, not_false_eq_true, Option.some.injEq, exists_eq_left', forall_eq, ↓reduceIte, Nat.add_zero, Nat.zero_add, and_self]
  · have d := h.c hs hj
    by_cases c : r s (4 + j) = 4294967295
    · simp (disch := omega) only [l_X4_playersIn_4, h.sh, d, c, fo_s, ne_eq, l_0, l_1, l_2, l_3, l_4, l_5, l_6, l_7, l_8, l_9, l_10, l_20, l_30, l_31, l_34, l_40, l_65, l_100, l_255, l_11, l_12, l_24, l_600, l_689, l_999, l_120, l_32, nI_add, pk_mul, n_sub, n_leT, n_leF, n_ltT, n_ltF, n_eqT, n_eqF, n_cl, n_vp, fa_andq, fa_orq, fa_xorq, n_shl, n_shr, n_t1, n_t0, n_div, n_m1, not_true_eq_false, Bool.false_eq_true, false_and, Bool.not_false, Bool.not_true, Bool.and_true, Bool.and_false, Bool.false_and, Bool.true_and, true_and, and_true, true_or, or_true, not_false_eq_true, Option.some.injEq, exists_eq_left', forall_eq, ↓reduceIte, Nat.add_zero, Nat.zero_add, and_self]
    · have e := ((hr s hs).2.2.2.2 j hj).resolve_right c
      simp (disch := omega) only [l_X4_playersIn_4, h.sh, d, c, fo_s, ne_eq, l_0, l_1, l_2, l_3, l_4, l_5, l_6, l_7, l_8, l_9, l_10, l_20, l_30, l_31, l_34, l_40, l_65, l_100, l_255, l_11, l_12, l_24, l_600, l_689, l_999, l_120, l_32, nI_add, pk_mul, n_sub, n_leT, n_leF, n_ltT, n_ltF, n_eqT, n_eqF, n_cl, n_vp, fa_andq, fa_orq, fa_xorq, n_shl, n_shr, n_t1, n_t0, n_div, n_m1, not_true_eq_false, Bool.false_eq_true, false_and, Bool.not_false, Bool.not_true, Bool.and_true, Bool.and_false, Bool.false_and, Bool.true_and, true_and, and_true, true_or, or_true, not_false_eq_true, Option.some.injEq, exists_eq_left', forall_eq, ↓reduceIte, Nat.add_zero, Nat.zero_add, and_self]
theorem r_X4_playersAt (hr : RB r n) (hn : n ≤ 20) (h : RPl a n r k np M) {t : Nat} (ht : t < 90) (P : Int32 → Mm → Prop) : w_X4_playersAt M a (nI t) P ↔ P (nI (atR r n t)) M := by
  unfold w_X4_playersAt
  refine lpE (fun n (z : Int32 × Int32) => l_X4_playersAt_4 P (fun M2 x2 => P x2 M2) n M a (nI t) z.1 z.2) (fun j => (nI (fo (fun s b => if r s 0 = t then b ||| inR r s else b) j 0), nI j)) n (fun _ h => h.elim) (fun _ => ?_) (fun n1 j hj => ?_)
  · simp (disch := omega) only [l_X4_playersAt_4, h.sh, h.n, atR, l_0, l_1, l_2, l_3, l_4, l_5, l_6, l_7, l_8, l_9, l_10, l_20, l_30, l_31, l_34, l_40, l_65, l_100, l_255, l_11, l_12, l_24, l_600, l_689, l_999, l_120, l_32, nI_add, pk_mul, n_sub, n_leT, n_leF, n_ltT, n_ltF, n_eqT, n_eqF, n_cl, n_vp, fa_andq, fa_orq, fa_xorq, n_shl, n_shr, n_t1, n_t0, n_div, n_m1, not_true_eq_false, Bool.false_eq_true, false_and, Bool.not_false, Bool.not_true, Bool.and_true, Bool.and_false, Bool.false_and, Bool.true_and, true_and, and_true, true_or, or_true, not_false_eq_true, Option.some.injEq, exists_eq_left', forall_eq, ↓reduceIte, Nat.add_zero, Nat.zero_add, and_self]
  · have d := hr j hj
    by_cases c : r j 0 = t
    · simp (disch := omega) only [l_X4_playersAt_4, h.sh, h.n, h.s hj, r_X4_playersIn hr hn h hj, c, fo_s, l_0, l_1, l_2, l_3, l_4, l_5, l_6, l_7, l_8, l_9, l_10, l_20, l_30, l_31, l_34, l_40, l_65, l_100, l_255, l_11, l_12, l_24, l_600, l_689, l_999, l_120, l_32, nI_add, pk_mul, n_sub, n_leT, n_leF, n_ltT, n_ltF, n_eqT, n_eqF, n_cl, n_vp, fa_andq, fa_orq, fa_xorq, n_shl, n_shr, n_t1, n_t0, n_div, n_m1, not_true_eq_false, Bool.false_eq_true, false_and, Bool.not_false, Bool.not_true, Bool.and_true, Bool.and_false, Bool.false_and, Bool.true_and, true_and, and_true, true_or, or_true, not_false_eq_true, Option.some.injEq, exists_eq_left', forall_eq, ↓reduceIte, Nat.add_zero, Nat.zero_add, and_self]
    · simp (disch := omega) only [l_X4_playersAt_4, h.sh, h.n, h.s hj, c, fo_s, l_0, l_1, l_2, l_3, l_4, l_5, l_6, l_7, l_8, l_9, l_10, l_20, l_30, l_31, l_34, l_40, l_65, l_100, l_255, l_11, l_12, l_24, l_600, l_689, l_999, l_120, l_32, nI_add, pk_mul, n_sub, n_leT, n_leF, n_ltT, n_ltF, n_eqT, n_eqF, n_cl, n_vp, fa_andq, fa_orq, fa_xorq, n_shl, n_shr, n_t1, n_t0, n_div, n_m1, not_true_eq_false, Bool.false_eq_true, false_and, Bool.not_false, Bool.not_true, Bool.and_true, Bool.and_false, Bool.false_and, Bool.true_and, true_and, and_true, true_or, or_true, not_false_eq_true, Option.some.injEq, exists_eq_left', forall_eq, ↓reduceIte, Nat.add_zero, Nat.zero_add, and_self]
def freeR (sg : Nat → Nat) (r : Nat → Nat → Nat) (n t : Nat) : Nat := rm (pres sg (t / 3)) (atR r n t)
theorem r_X7_freePlayers (hs : SB sg) (hr : RB r n) (hn : n ≤ 20) (hx : XR x sa M) (h : CSea sa sg M) (h4 : RPl a n r k np M) {t : Nat} (ht : t < 90) (P : Int32 → Mm → Prop) : w_X7_freePlayers M x a (nI t) P ↔ P (nI (freeR sg r n t)) M := by
  unfold XR at hx
  simp (disch := omega) only [w_X7_freePlayers, hx, h.s1, h4.sh, e_X6_playersPresent hs h, r_X4_playersAt hr hn h4, rm_f, freeR, l_0, l_1, l_2, l_3, l_4, l_5, l_6, l_7, l_8, l_9, l_10, l_20, l_30, l_31, l_34, l_40, l_65, l_100, l_255, l_11, l_12, l_24, l_600, l_689, l_999, l_120, l_32, nI_add, pk_mul, n_sub, n_leT, n_leF, n_ltT, n_ltF, n_eqT, n_eqF, n_cl, n_vp, fa_andq, fa_orq, fa_xorq, n_shl, n_shr, n_t1, n_t0, n_div, n_m1, not_true_eq_false, Bool.false_eq_true, false_and, Bool.not_false, Bool.not_true, Bool.and_true, Bool.and_false, Bool.false_and, Bool.true_and, true_and, and_true, true_or, or_true, not_false_eq_true, Option.some.injEq, exists_eq_left', forall_eq, ↓reduceIte, Nat.add_zero, Nat.zero_add, and_self]
/-- casts for service s, from F -/
def castR (sg : Nat → Nat) (r : Nat → Nat → Nat) (s F K q f : Nat) : Nat := if q = s ∧ 4 ≤ f ∧ f < 4 + 6 * K ∧ ((r s 3).testBit ((f - 4) / 6) = true ∧ dm sg ((f - 4) / 6) (oW sg ((f - 4) / 6) 4) F < 100) ∧ (f - 4) % 6 < oW sg ((f - 4) / 6) 4 then bq sg ((f - 4) / 6) (oW sg ((f - 4) / 6) 4) F ((f - 4) % 6) else r q f
theorem castR_3 (sg : Nat → Nat) (r : Nat → Nat → Nat) (s F K q : Nat) {f : Nat} (h : f < 4) : castR sg r s F K q f = r q f := if_neg fun z => by omega
/-- the cells that a cast in the draft writes -/
def RD (x : Nat) : Nat → Prop := fun b => b = x + 2 + 1 ∨ b = x + 2 + 2 ∨ b = x + 2 + 3 ∨ b = x + 13 + 5
theorem s_X7_castInDraft (hs : SB sg) (hx : XS x sa sp M) (kq : KP (x + 2) M) (h : CSea sa sg M) (hr : RB r n) (hn : n ≤ 20) (h4 : RPl (x + 13) n r k np M) {s : Nat} (hsn : s < n) (P : Mm → Prop)
    (K : ∀ M', FK x (RD x) M M' → RPl (x + 13) n (castR sg r s (freeR sg r n (r s 0)) (sg 3)) k np M' → P M') : w_X7_castInDraft M x (nI s) P := by
  have b := hs.b
  have at_ := hx.at
  have d := hr s hsn
  have Fl : freeR sg r n (r s 0) < 256 := rm_lt (pres_lt hs _)
  simp (disch := omega) only [w_X7_castInDraft, hx.s, h4.sh, h4.s hsn, r_X7_freePlayers hs hr hn hx.xr h h4, l_0, l_1, l_2, l_3, l_4, l_5, l_6, l_7, l_8, l_9, l_10, l_20, l_30, l_31, l_34, l_40, l_65, l_100, l_255, l_11, l_12, l_24, l_600, l_689, l_999, l_120, l_32, nI_add, pk_mul, n_sub, n_leT, n_leF, n_ltT, n_ltF, n_eqT, n_eqF, n_cl, n_vp, fa_andq, fa_orq, fa_xorq, n_shl, n_shr, n_t1, n_t0, n_div, n_m1, not_true_eq_false, Bool.false_eq_true, false_and, Bool.not_false, Bool.not_true, Bool.and_true, Bool.and_false, Bool.false_and, Bool.true_and, true_and, and_true, true_or, or_true, not_false_eq_true, Option.some.injEq, exists_eq_left', forall_eq, ↓reduceIte, Nat.add_zero, Nat.zero_add, and_self]
  generalize freeR sg r n (r s 0) = F at Fl K ⊢
  refine lpI (fun n (z : Mm × Int32) => l_X7_castInDraft_20 P (fun M19 => P M19) n z.1 x (nI s) (nI F) z.2) (fun j z => (FK x (RD x) M z.1 ∧ RPl (x + 13) n (castR sg r s F j) k np z.1) ∧ z.2 = nI j) (sg 3) ?_ ?_ (M, nI 0) ⟨⟨FK.rf, h4.of (fun q f _ _ => if_neg fun z => by omega) fun _ _ => rfl⟩, rfl⟩
  · rintro n1 ⟨M1, a1⟩ ⟨⟨f, g⟩, e1⟩
    dsimp only at f g e1 ⊢
    subst e1
    have x1 := hx.fr f.1
    have h1 := h.fr f.1 (by unfold RD; omega)
    simp (disch := omega) only [l_X7_castInDraft_20, x1.s, h1.s1, h1.n, l_0, l_1, l_2, l_3, l_4, l_5, l_6, l_7, l_8, l_9, l_10, l_20, l_30, l_31, l_34, l_40, l_65, l_100, l_255, l_11, l_12, l_24, l_600, l_689, l_999, l_120, l_32, nI_add, pk_mul, n_sub, n_leT, n_leF, n_ltT, n_ltF, n_eqT, n_eqF, n_cl, n_vp, fa_andq, fa_orq, fa_xorq, n_shl, n_shr, n_t1, n_t0, n_div, n_m1, not_true_eq_false, Bool.false_eq_true, false_and, Bool.not_false, Bool.not_true, Bool.and_true, Bool.and_false, Bool.false_and, Bool.true_and, true_and, and_true, true_or, or_true, not_false_eq_true, Option.some.injEq, exists_eq_left', forall_eq, ↓reduceIte, Nat.add_zero, Nat.zero_add, and_self]
    exact K M1 f g
  · rintro n1 j ⟨M1, a1⟩ hj ⟨⟨f, g⟩, e1⟩ L
    dsimp only at f g e1 L ⊢
    subst e1
    have x1 := hx.fr f.1
    have h1 := h.fr f.1 (by unfold RD; omega)
    have c := hs.sc hj
    have s3 : zI M1 (x + 13 + 4) s = nI (r s 3) := by
      rw [(g.s hsn).2.2.2, castR_3 _ _ _ _ _ _ (by omega)]
    have step : ∀ M2, FK x (RD x) M1 M2 → RPl (x + 13) n (fun q f => if q = s ∧ 4 + 6 * j ≤ f ∧ f < 4 + 6 * j + oW sg j 4 ∧ ((r s 3).testBit j = true ∧ dm sg j (oW sg j 4) F < 100) then bq sg j (oW sg j 4) F (f - (4 + 6 * j)) else castR sg r s F j q f) k np M2 → l_X7_castInDraft_20 P (fun M19 => P M19) n1 M2 x (nI s) (nI F) (nI (j + 1)) := fun M2 f2 g2 => by
      refine L (M2, _) ⟨⟨f.trans f2, g2.of (fun q f hq hf => ?_) fun _ _ => rfl⟩, rfl⟩
      unfold castR
      by_cases c1 : q = s ∧ 4 + 6 * j ≤ f ∧ f < 4 + 6 * j + 6
      · rw [show (f - 4) / 6 = j by omega, show (f - 4) % 6 = f - (4 + 6 * j) by omega]
        by_cases c2 : ((r s 3).testBit j = true ∧ dm sg j (oW sg j 4) F < 100) ∧ f - (4 + 6 * j) < oW sg j 4
        · rw [if_pos ⟨c1.1, by omega, by omega, c2.1, c2.2⟩, if_pos ⟨c1.1, by omega, by omega, c2.1⟩]
        · rw [if_neg (fun z => c2 ⟨z.2.2.2.1, z.2.2.2.2⟩), if_neg (fun z => c2 ⟨z.2.2.2, by omega⟩), if_neg (fun z => by omega)]
      · rw [if_neg (c := q = s ∧ 4 + 6 * j ≤ f ∧ f < 4 + 6 * j + oW sg j 4 ∧ ((r s 3).testBit j = true ∧ dm sg j (oW sg j 4) F < 100)) (fun z => c1 ⟨z.1, z.2.1, by omega⟩)]
        by_cases c2 : q = s ∧ 4 ≤ f ∧ f < 4 + 6 * j ∧ ((r s 3).testBit ((f - 4) / 6) = true ∧ dm sg ((f - 4) / 6) (oW sg ((f - 4) / 6) 4) F < 100) ∧ (f - 4) % 6 < oW sg ((f - 4) / 6) 4
        · rw [if_pos c2, if_pos ⟨c2.1, c2.2.1, by omega, c2.2.2.2⟩]
        · rw [if_neg c2, if_neg (fun z => c2 ⟨z.1, z.2.1, by omega, z.2.2.2⟩)]
    have skip : ¬ ((r s 3).testBit j = true ∧ dm sg j (oW sg j 4) F < 100) → ∀ M2, FK x (RD x) M1 M2 → RPl (x + 13) n (castR sg r s F j) k np M2 → l_X7_castInDraft_20 P (fun M19 => P M19) n1 M2 x (nI s) (nI F) (nI (j + 1)) := fun q M2 f2 g2 => step M2 f2 (g2.of (fun _ _ _ _ => if_neg fun z => q z.2.2.2) fun _ _ => rfl)
    by_cases c1 : (r s 3).testBit j = true
    · simp (disch := omega) only [l_X7_castInDraft_20, x1.s, x1.ko, h1.s1, h1.n, g.sh, s3, e_has, c1, bI_t, l_0, l_1, l_2, l_3, l_4, l_5, l_6, l_7, l_8, l_9, l_10, l_20, l_30, l_31, l_34, l_40, l_65, l_100, l_255, l_11, l_12, l_24, l_600, l_689, l_999, l_120, l_32, nI_add, pk_mul, n_sub, n_leT, n_leF, n_ltT, n_ltF, n_eqT, n_eqF, n_cl, n_vp, fa_andq, fa_orq, fa_xorq, n_shl, n_shr, n_t1, n_t0, n_div, n_m1, not_true_eq_false, Bool.false_eq_true, false_and, Bool.not_false, Bool.not_true, Bool.and_true, Bool.and_false, Bool.false_and, Bool.true_and, true_and, and_true, true_or, or_true, not_false_eq_true, Option.some.injEq, exists_eq_left', forall_eq, ↓reduceIte, Nat.add_zero, Nat.zero_add, and_self]
      refine s_X0_castWork hs h1 x1.ks (f.2 kq) (by omega) hj Fl _ fun M2 f2 kp2 g2 => ?_
      have f3 : FK x (RD x) M1 M2 := ⟨f2.mono fun b hb => by unfold RD; omega, fun _ => kp2⟩
      have l := dm_le sg j (oW sg j 4) F
      have r2 := g.fr f2 (by omega)
      unfold ansD
      by_cases q : dm sg j (oW sg j 4) F < 100
      · have x2 := x1.fr f2
        have k2 := x2.ks
        unfold KS at k2
        have h2 := h1.fr f2 (by omega)
        simp (disch := omega) only [q, x2.s, k2, h2.s1, h2.w hj, r2.sh, l_0, l_1, l_2, l_3, l_4, l_5, l_6, l_7, l_8, l_9, l_10, l_20, l_30, l_31, l_34, l_40, l_65, l_100, l_255, l_11, l_12, l_24, l_600, l_689, l_999, l_120, l_32, nI_add, pk_mul, n_sub, n_leT, n_leF, n_ltT, n_ltF, n_eqT, n_eqF, n_cl, n_vp, fa_andq, fa_orq, fa_xorq, n_shl, n_shr, n_t1, n_t0, n_div, n_m1, not_true_eq_false, Bool.false_eq_true, false_and, Bool.not_false, Bool.not_true, Bool.and_true, Bool.and_false, Bool.false_and, Bool.true_and, true_and, and_true, true_or, or_true, not_false_eq_true, Option.some.injEq, exists_eq_left', forall_eq, ↓reduceIte, Nat.add_zero, Nat.zero_add, and_self]
        refine s_X4_setCast r2 hsn hn (by omega) (by omega) ⟨k2.2.2.2.2.1, k2.2.2.2.2.2.1⟩ (by omega) (g2 q) _ fun M3 f4 g4 => ?_
        refine step M3 (f3.trans ((FK.of f4 (by omega)).mono fun b hb => by unfold RD; omega)) (g4.of (fun q1 f1 _ _ => ?_) fun _ _ => rfl)
        try dsimp only
        by_cases c2 : q1 = s ∧ 4 + 6 * j ≤ f1 ∧ f1 < 4 + 6 * j + oW sg j 4
        · rw [if_pos ⟨c2.1, c2.2.1, c2.2.2, c1, q⟩, if_pos c2]
        · rw [if_neg (fun z => c2 ⟨z.1, z.2.1, z.2.2.1⟩), if_neg c2]
      · simp (disch := omega) only [q, l_0, l_1, l_2, l_3, l_4, l_5, l_6, l_7, l_8, l_9, l_10, l_20, l_30, l_31, l_34, l_40, l_65, l_100, l_255, l_11, l_12, l_24, l_600, l_689, l_999, l_120, l_32, nI_add, pk_mul, n_sub, n_leT, n_leF, n_ltT, n_ltF, n_eqT, n_eqF, n_cl, n_vp, fa_andq, fa_orq, fa_xorq, n_shl, n_shr, n_t1, n_t0, n_div, n_m1, not_true_eq_false, Bool.false_eq_true, false_and, Bool.not_false, Bool.not_true, Bool.and_true, Bool.and_false, Bool.false_and, Bool.true_and, true_and, and_true, true_or, or_true, not_false_eq_true, Option.some.injEq, exists_eq_left', forall_eq, ↓reduceIte, Nat.add_zero, Nat.zero_add, and_self]
        exact skip (fun z => q z.2) M2 f3 r2
    · simp (disch := omega) only [l_X7_castInDraft_20, x1.s, h1.s1, h1.n, g.sh, s3, e_has, b_no c1, bI_f, l_0, l_1, l_2, l_3, l_4, l_5, l_6, l_7, l_8, l_9, l_10, l_20, l_30, l_31, l_34, l_40, l_65, l_100, l_255, l_11, l_12, l_24, l_600, l_689, l_999, l_120, l_32, nI_add, pk_mul, n_sub, n_leT, n_leF, n_ltT, n_ltF, n_eqT, n_eqF, n_cl, n_vp, fa_andq, fa_orq, fa_xorq, n_shl, n_shr, n_t1, n_t0, n_div, n_m1, not_true_eq_false, Bool.false_eq_true, false_and, Bool.not_false, Bool.not_true, Bool.and_true, Bool.and_false, Bool.false_and, Bool.true_and, true_and, and_true, true_or, or_true, not_false_eq_true, Option.some.injEq, exists_eq_left', forall_eq, ↓reduceIte, Nat.add_zero, Nat.zero_add, and_self]
      exact skip (fun z => c1 z.1) M1 FK.rf g
end DR
