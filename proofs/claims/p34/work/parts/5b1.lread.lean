/-! THE LAW'S SEASON: what only reads -/
theorem onS {o : Option Nat} {a : Nat} {P : Nat → Prop} {Q : Prop} (h : o = some a) : ((∀ b, o = some b → P b) ∧ (o = none → Q)) ↔ P a :=
  ⟨fun k => k.1 a h, fun k => ⟨fun b hb => (by rw [h] at hb; cases hb; exact k), fun hb => (by rw [h] at hb; cases hb)⟩⟩
theorem onN {o : Option Nat} {P : Nat → Prop} {Q : Prop} (h : o = none) : ((∀ b, o = some b → P b) ∧ (o = none → Q)) ↔ Q :=
  ⟨fun k => k.2 h, fun k => ⟨fun b hb => (by rw [h] at hb; cases hb), fun _ => k⟩⟩
theorem fi_any (p : Nat → Bool) (n : Nat) : fi p n < n ↔ ∃ i, i < n ∧ p i = true := by
  constructor
  · intro h; exact ⟨_, h, fi_yes p n h⟩
  · rintro ⟨i, h1, h2⟩
    have l := fi_le p n
    rcases Nat.lt_or_ge (fi p n) n with c | c
    · exact c
    · have := fi_no p n i (by omega)
      rw [h2] at this; cases this
theorem bI_de {b : Bool} {p : Prop} [Decidable p] (h : p ↔ b = true) : bI (decide p) = bI b := by
  by_cases c : p
  · rw [decide_eq_true c, h.mp c]
  · rw [decide_eq_false c, b_no fun z => c (h.mpr z)]
/-- a fold that leaves one out -/
theorem fo_off {σ : Type} {g g2 : Nat → σ → σ} {s n : Nat} (z : σ) (hs : s < n) (h : ∀ q a, q < n - 1 → g2 q a = g (up s q) a) : fo g2 (n - 1) z = fo (fun k a => if k = s then a else g k a) n z := by
  have key : ∀ k, k ≤ n - 1 → fo g2 k z = fo (fun k a => if k = s then a else g k a) (if k ≤ s then k else k + 1) z := by
    intro k
    induction k with
    | zero => intro _; rw [if_pos (Nat.zero_le s)]; rfl
    | succ k ih =>
      intro hk
      rw [fo_s, h k _ (by omega), ih (by omega)]
      by_cases c : k + 1 ≤ s
      · rw [if_pos c, if_pos (by omega), fo_s, if_neg (by omega)]
        rw [show up s k = k by unfold up; rw [if_pos (by omega)]]
      · rw [if_neg c]
        rw [show up s k = k + 1 by unfold up; rw [if_neg (by omega)]]
        by_cases d : k ≤ s
        · rw [if_pos d]
          have e : k = s := by omega
          subst e
          rw [fo_s, fo_s, if_pos rfl, if_neg (by omega)]
        · rw [if_neg d, fo_s (fun k a => if k = s then a else g k a) (k + 1) z, if_neg (by omega)]
  rw [key (n - 1) (Nat.le_refl _)]
  by_cases c : n - 1 ≤ s
  · have e : n = s + 1 := by omega
    subst e
    rw [if_pos c, fo_s, if_pos rfl]
    rfl
  · rw [if_neg c, show n - 1 + 1 = n by omega]
theorem al_off {p p2 : Nat → Bool} {s n : Nat} (hs : s < n) (h : ∀ q, q < n - 1 → p2 q = p (up s q)) : al p2 (n - 1) = al (fun k => decide (k = s) || p k) n := by
  rw [Bool.eq_iff_iff, al_iff, al_iff]
  constructor
  · intro k i hi
    by_cases c : i = s
    · rw [decide_eq_true c]; rfl
    · have e : ∃ q, q < n - 1 ∧ up s q = i := by
        rcases Nat.lt_or_gt_of_ne c with d | d
        · exact ⟨i, by omega, by unfold up; rw [if_pos d]⟩
        · exact ⟨i - 1, by omega, by unfold up; rw [if_neg (by omega)]; omega⟩
      obtain ⟨q, q1, q2⟩ := e
      rw [← q2, ← h q q1, k q q1, Bool.or_true]
  · intro k q hq
    have := k (up s q) (up_lt hq)
    rw [decide_eq_false (up_ne s q), Bool.false_or] at this
    rw [h q hq]; exact this
/-- the plan without service b, if there is one -/
def plb (pl : Nat → Nat) (b : Nat) : Nat → Nat := if b < pl 0 then off pl b else pl
def frB (sg pl : Nat → Nat) (b t p : Nat) : Bool := !(oP sg p 1).testBit (t / 3) && al (fun s => !decide (s ≠ b ∧ oS pl s 0 = t ∧ (inS sg pl s).testBit p = true)) (pl 0)
theorem tb_pres (sg : Nat → Nat) (d p : Nat) : (pres sg d).testBit p = true ↔ p < sg 2 ∧ ¬ (oP sg p 1).testBit d = true := by
  unfold pres
  rw [tb_fo (fun p => ¬ (oP sg p 1).testBit d = true) (fun p => p)]
  constructor
  · rintro (h | ⟨i, h1, h2, h3⟩)
    · rw [Nat.zero_testBit] at h; cases h
    · exact h3 ▸ ⟨h1, h2⟩
  · rintro ⟨h1, h2⟩; exact Or.inr ⟨p, h1, h2, rfl⟩
theorem tb_free {sg pl : Nat → Nat} (hs : SB sg) (t p : Nat) : (free sg pl t).testBit p = true ↔ (p < sg 2 ∧ ¬ (oP sg p 1).testBit (t / 3) = true) ∧ ∀ s, s < pl 0 → ¬ (oS pl s 0 = t ∧ (inS sg pl s).testBit p = true) := by
  show (rm (pres sg (t / 3)) (atS sg pl t)).testBit p = true ↔ _
  rw [rm_tb (pres_lt hs _), Bool.and_eq_true, tb_pres, Bool.not_eq_true']
  refine and_congr Iff.rfl ?_
  unfold atS
  constructor
  · intro h s h1 h2
    have k := (tb_at (fun s => oS pl s 0 = t) (inS sg pl) p (pl 0)).mpr ⟨s, h1, h2⟩
    rw [h] at k; cases k
  · intro h
    refine b_no fun k => ?_
    obtain ⟨s, h1, h2⟩ := (tb_at (fun s => oS pl s 0 = t) (inS sg pl) p (pl 0)).mp k
    exact h s h1 h2
theorem frB_free {sg pl : Nat → Nat} (hs : SB sg) {b t p : Nat} (hp : p < sg 2) (hb : b < pl 0 ∨ pl 0 ≤ b) : frB sg pl b t p = (free sg (plb pl b) t).testBit p := by
  rw [Bool.eq_iff_iff, tb_free hs, frB, Bool.and_eq_true, al_iff, Bool.not_eq_true', plb]
  constructor
  · rintro ⟨h1, h2⟩
    refine ⟨⟨hp, fun q => by rw [h1] at q; cases q⟩, fun s hsn hq => ?_⟩
    by_cases c : b < pl 0
    · rw [if_pos c] at hsn hq
      have hu : s < pl 0 - 1 := hsn
      rw [off_up hu (by omega), inS_cong (fun f hf => off_up hu hf) hs] at hq
      exact nd_f (h2 (up b s) (up_lt hu)) ⟨up_ne b s, hq.1, hq.2⟩
    · rw [if_neg c] at hsn hq
      exact nd_f (h2 s hsn) ⟨by omega, hq.1, hq.2⟩
  · rintro ⟨⟨-, h1⟩, h2⟩
    refine ⟨b_no h1, fun s hsn => ndf fun hq => ?_⟩
    by_cases c : b < pl 0
    · rw [if_pos c] at h2
      have e : ∃ q, q < pl 0 - 1 ∧ up b q = s := by
        rcases Nat.lt_or_gt_of_ne hq.1 with d | d
        · exact ⟨s, by omega, by unfold up; rw [if_pos d]⟩
        · exact ⟨s - 1, by omega, by unfold up; rw [if_neg (by omega)]; omega⟩
      obtain ⟨q, q1, q2⟩ := e
      refine h2 q q1 ?_
      rw [off_up q1 (by omega), inS_cong (fun f hf => off_up q1 hf) hs, q2]
      exact hq.2
    · rw [if_neg c] at h2
      exact h2 s hsn hq.2
section LQ
variable {e : Nat} {sg pl : Nat → Nat} {M : Mm}
theorem e_X8_plays (hs : SB sg) (h : LSt e sg M) {p k : Nat} (hp : p < sg 2) (hk : k < 1073741824) (P : Int32 → Mm → Prop) : w_X8_plays M e (nI p) (nI k) P ↔ P (bI ((kinds sg p).testBit k)) M := by
  have b := hs.b
  obtain ⟨a, r1, -, ⟨r2, r3⟩, r4⟩ := (h.p hp).2
  have oc := hs.oc hp
  have z := hs.p p
  simp (disch := omega) only [w_X8_plays, h.s, r1, r2, r3, l_0, l_1, l_2, l_3, l_4, l_5, l_6, l_7, l_8, l_9, l_10, l_20, l_30, l_31, l_34, l_40, l_65, l_100, l_255, l_11, l_12, l_24, l_600, l_689, l_999, l_120, l_32, nI_add, pk_mul, n_sub, n_leT, n_leF, n_ltT, n_ltF, n_eqT, n_eqF, n_cl, n_vp, fa_andq, fa_orq, fa_xorq, n_shl, n_shr, n_t1, n_t0, n_div, n_m1, not_true_eq_false, Bool.false_eq_true, false_and, Bool.not_false, Bool.not_true, Bool.and_true, Bool.and_false, Bool.false_and, Bool.true_and, true_and, and_true, true_or, or_true, not_false_eq_true, Option.some.injEq, exists_eq_left', forall_eq, ↓reduceIte, Nat.add_zero, Nat.zero_add, and_self]
  refine (lpF (fun n (z : Int32) => l_X8_plays_14 P (fun M3 => P (nI 1) M3) (fun M4 => P (nI 0) M4) n M (nI k) a (nI (oP sg p 2)) z) nI (oP sg p 2) (fun j => decide (oP sg p (3 + j) = k)) (Q := fun j => P (bI (decide (j < oP sg p 2))) M) (fun _ h => h.elim) (fun _ => ?_) (fun n j hj c => ?_) (fun n j hj c => ?_)).trans ?_
  · simp (disch := omega) only [l_X8_plays_14, Nat.lt_irrefl, decide_false, bI_f, l_0, l_1, l_2, l_3, l_4, l_5, l_6, l_7, l_8, l_9, l_10, l_20, l_30, l_31, l_34, l_40, l_65, l_100, l_255, l_11, l_12, l_24, l_600, l_689, l_999, l_120, l_32, nI_add, pk_mul, n_sub, n_leT, n_leF, n_ltT, n_ltF, n_eqT, n_eqF, n_cl, n_vp, fa_andq, fa_orq, fa_xorq, n_shl, n_shr, n_t1, n_t0, n_div, n_m1, not_true_eq_false, Bool.false_eq_true, false_and, Bool.not_false, Bool.not_true, Bool.and_true, Bool.and_false, Bool.false_and, Bool.true_and, true_and, and_true, true_or, or_true, not_false_eq_true, Option.some.injEq, exists_eq_left', forall_eq, ↓reduceIte, Nat.add_zero, Nat.zero_add, and_self]
  · have zj := z (3 + j)
    have c := of_decide_eq_false c
    simp (disch := omega) only [l_X8_plays_14, r2, r3, r4 j hj, l_0, l_1, l_2, l_3, l_4, l_5, l_6, l_7, l_8, l_9, l_10, l_20, l_30, l_31, l_34, l_40, l_65, l_100, l_255, l_11, l_12, l_24, l_600, l_689, l_999, l_120, l_32, nI_add, pk_mul, n_sub, n_leT, n_leF, n_ltT, n_ltF, n_eqT, n_eqF, n_cl, n_vp, fa_andq, fa_orq, fa_xorq, n_shl, n_shr, n_t1, n_t0, n_div, n_m1, not_true_eq_false, Bool.false_eq_true, false_and, Bool.not_false, Bool.not_true, Bool.and_true, Bool.and_false, Bool.false_and, Bool.true_and, true_and, and_true, true_or, or_true, not_false_eq_true, Option.some.injEq, exists_eq_left', forall_eq, ↓reduceIte, Nat.add_zero, Nat.zero_add, and_self]
  · have zj := z (3 + j)
    have c := of_decide_eq_true c
    simp (disch := omega) only [l_X8_plays_14, r2, r3, r4 j hj, hj, decide_true, bI_t, l_0, l_1, l_2, l_3, l_4, l_5, l_6, l_7, l_8, l_9, l_10, l_20, l_30, l_31, l_34, l_40, l_65, l_100, l_255, l_11, l_12, l_24, l_600, l_689, l_999, l_120, l_32, nI_add, pk_mul, n_sub, n_leT, n_leF, n_ltT, n_ltF, n_eqT, n_eqF, n_cl, n_vp, fa_andq, fa_orq, fa_xorq, n_shl, n_shr, n_t1, n_t0, n_div, n_m1, not_true_eq_false, Bool.false_eq_true, false_and, Bool.not_false, Bool.not_true, Bool.and_true, Bool.and_false, Bool.false_and, Bool.true_and, true_and, and_true, true_or, or_true, not_false_eq_true, Option.some.injEq, exists_eq_left', forall_eq, ↓reduceIte, Nat.add_zero, Nat.zero_add, and_self]
  · rw [bI_de (b := (kinds sg p).testBit k)]
    rw [fi_any, kinds, tb_fo1, Nat.zero_testBit]
    constructor
    · rintro ⟨i, h1, h2⟩; exact Or.inr ⟨i, h1, of_decide_eq_true h2⟩
    · rintro (q | ⟨i, h1, h2⟩)
      · cases q
      · exact ⟨i, h1, decide_eq_true h2⟩
def inB (sg pl : Nat → Nat) (s p w : Nat) : Bool := decide (w < sg 3 ∧ (oS pl s 3).testBit w = true ∧ fi (fun j => decide (oS pl s (4 + 6 * w + j) = p)) (oW sg w 4) < oW sg w 4)
theorem e_X8_isIn (hs : SB sg) (hb : PB sg pl) (h : LSt e sg M) (hd : LDy e sg pl M) {p s : Nat} (hp : p < 1073741824) (hsn : s < pl 0) (P : Int32 → Mm → Prop) : w_X8_isIn M e (nI p) (nI s) P ↔ P (bI ((inS sg pl s).testBit p)) M := by
  have b := hs.b
  have n := hb.n
  obtain ⟨c, r1, -, ⟨r2, r3⟩, r4⟩ := hd.c hsn
  simp (disch := omega) only [w_X8_isIn, h.s, r1, r2, r3, l_0, l_1, l_2, l_3, l_4, l_5, l_6, l_7, l_8, l_9, l_10, l_20, l_30, l_31, l_34, l_40, l_65, l_100, l_255, l_11, l_12, l_24, l_600, l_689, l_999, l_120, l_32, nI_add, pk_mul, n_sub, n_leT, n_leF, n_ltT, n_ltF, n_eqT, n_eqF, n_cl, n_vp, fa_andq, fa_orq, fa_xorq, n_shl, n_shr, n_t1, n_t0, n_div, n_m1, not_true_eq_false, Bool.false_eq_true, false_and, Bool.not_false, Bool.not_true, Bool.and_true, Bool.and_false, Bool.false_and, Bool.true_and, true_and, and_true, true_or, or_true, not_false_eq_true, Option.some.injEq, exists_eq_left', forall_eq, ↓reduceIte, Nat.add_zero, Nat.zero_add, and_self]
  refine (lpF (fun n (z : Int32) => l_X8_isIn_14 P (fun M6 => P (nI 1) M6) (fun M7 => P (nI 0) M7) n M (nI p) c (nI 5) z) nI 5 (inB sg pl s p) (Q := fun j => P (bI (decide (j < 5))) M) (fun _ h => h.elim) (fun _ => ?_) (fun n w hw cc => ?_) (fun n w hw cc => ?_)).trans ?_
  · simp (disch := omega) only [l_X8_isIn_14, Nat.lt_irrefl, decide_false, bI_f, l_0, l_1, l_2, l_3, l_4, l_5, l_6, l_7, l_8, l_9, l_10, l_20, l_30, l_31, l_34, l_40, l_65, l_100, l_255, l_11, l_12, l_24, l_600, l_689, l_999, l_120, l_32, nI_add, pk_mul, n_sub, n_leT, n_leF, n_ltT, n_ltF, n_eqT, n_eqF, n_cl, n_vp, fa_andq, fa_orq, fa_xorq, n_shl, n_shr, n_t1, n_t0, n_div, n_m1, not_true_eq_false, Bool.false_eq_true, false_and, Bool.not_false, Bool.not_true, Bool.and_true, Bool.and_false, Bool.false_and, Bool.true_and, true_and, and_true, true_or, or_true, not_false_eq_true, Option.some.injEq, exists_eq_left', forall_eq, ↓reduceIte, Nat.add_zero, Nat.zero_add, and_self]
  · have cc := of_decide_eq_false cc
    by_cases g : w < sg 3 ∧ (oS pl s 3).testBit w = true
    · obtain ⟨a, q1, -, ⟨q2, q3⟩, q4⟩ := (r4 w hw).1 g
      have sc := hs.sc g.1
      simp (disch := omega) only [l_X8_isIn_14, r2, r3, onS q1, l_0, l_1, l_2, l_3, l_4, l_5, l_6, l_7, l_8, l_9, l_10, l_20, l_30, l_31, l_34, l_40, l_65, l_100, l_255, l_11, l_12, l_24, l_600, l_689, l_999, l_120, l_32, nI_add, pk_mul, n_sub, n_leT, n_leF, n_ltT, n_ltF, n_eqT, n_eqF, n_cl, n_vp, fa_andq, fa_orq, fa_xorq, n_shl, n_shr, n_t1, n_t0, n_div, n_m1, not_true_eq_false, Bool.false_eq_true, false_and, Bool.not_false, Bool.not_true, Bool.and_true, Bool.and_false, Bool.false_and, Bool.true_and, true_and, and_true, true_or, or_true, not_false_eq_true, Option.some.injEq, exists_eq_left', forall_eq, ↓reduceIte, Nat.add_zero, Nat.zero_add, and_self]
      refine (lpF (fun n2 (z : Int32) => l_X8_isIn_30 P (fun M4 => P (nI 1) M4) (fun M5 x1_5 x3_5 x4_5 x5_5 => l_X8_isIn_14 P (fun M6 => P (nI 1) M6) (fun M7 => P (nI 0) M7) n M5 x1_5 x3_5 x4_5 (x5_5 + nI 1)) n2 M (nI p) c (nI 5) (nI w) a z) nI (oW sg w 4) (fun j => decide (oS pl s (4 + 6 * w + j) = p)) (Q := fun j => if j < oW sg w 4 then P (nI 1) M else l_X8_isIn_14 P (fun M6 => P (nI 1) M6) (fun M7 => P (nI 0) M7) n M (nI p) c (nI 5) (nI (w + 1))) (fun _ h => h.elim) (fun _ => ?_) (fun n j hj c2 => ?_) (fun n j hj c2 => ?_)).trans ?_
      · simp (disch := omega) only [l_X8_isIn_30, q2, q3, Nat.lt_irrefl, l_0, l_1, l_2, l_3, l_4, l_5, l_6, l_7, l_8, l_9, l_10, l_20, l_30, l_31, l_34, l_40, l_65, l_100, l_255, l_11, l_12, l_24, l_600, l_689, l_999, l_120, l_32, nI_add, pk_mul, n_sub, n_leT, n_leF, n_ltT, n_ltF, n_eqT, n_eqF, n_cl, n_vp, fa_andq, fa_orq, fa_xorq, n_shl, n_shr, n_t1, n_t0, n_div, n_m1, not_true_eq_false, Bool.false_eq_true, false_and, Bool.not_false, Bool.not_true, Bool.and_true, Bool.and_false, Bool.false_and, Bool.true_and, true_and, and_true, true_or, or_true, not_false_eq_true, Option.some.injEq, exists_eq_left', forall_eq, ↓reduceIte, Nat.add_zero, Nat.zero_add, and_self]
      · have d := hb.c hsn g.1 g.2 hj
        have c2 := of_decide_eq_false c2
        simp (disch := omega) only [l_X8_isIn_30, q2, q3, q4 j hj, l_0, l_1, l_2, l_3, l_4, l_5, l_6, l_7, l_8, l_9, l_10, l_20, l_30, l_31, l_34, l_40, l_65, l_100, l_255, l_11, l_12, l_24, l_600, l_689, l_999, l_120, l_32, nI_add, pk_mul, n_sub, n_leT, n_leF, n_ltT, n_ltF, n_eqT, n_eqF, n_cl, n_vp, fa_andq, fa_orq, fa_xorq, n_shl, n_shr, n_t1, n_t0, n_div, n_m1, not_true_eq_false, Bool.false_eq_true, false_and, Bool.not_false, Bool.not_true, Bool.and_true, Bool.and_false, Bool.false_and, Bool.true_and, true_and, and_true, true_or, or_true, not_false_eq_true, Option.some.injEq, exists_eq_left', forall_eq, ↓reduceIte, Nat.add_zero, Nat.zero_add, and_self]
      · have d := hb.c hsn g.1 g.2 hj
        have c2 := of_decide_eq_true c2
        simp (disch := omega) only [l_X8_isIn_30, q2, q3, q4 j hj, hj, l_0, l_1, l_2, l_3, l_4, l_5, l_6, l_7, l_8, l_9, l_10, l_20, l_30, l_31, l_34, l_40, l_65, l_100, l_255, l_11, l_12, l_24, l_600, l_689, l_999, l_120, l_32, nI_add, pk_mul, n_sub, n_leT, n_leF, n_ltT, n_ltF, n_eqT, n_eqF, n_cl, n_vp, fa_andq, fa_orq, fa_xorq, n_shl, n_shr, n_t1, n_t0, n_div, n_m1, not_true_eq_false, Bool.false_eq_true, false_and, Bool.not_false, Bool.not_true, Bool.and_true, Bool.and_false, Bool.false_and, Bool.true_and, true_and, and_true, true_or, or_true, not_false_eq_true, Option.some.injEq, exists_eq_left', forall_eq, ↓reduceIte, Nat.add_zero, Nat.zero_add, and_self]
      · rw [if_neg fun z => cc ⟨g.1, g.2, z⟩]
    · simp (disch := omega) only [l_X8_isIn_14, r2, r3, onN ((r4 w hw).2 g), l_0, l_1, l_2, l_3, l_4, l_5, l_6, l_7, l_8, l_9, l_10, l_20, l_30, l_31, l_34, l_40, l_65, l_100, l_255, l_11, l_12, l_24, l_600, l_689, l_999, l_120, l_32, nI_add, pk_mul, n_sub, n_leT, n_leF, n_ltT, n_ltF, n_eqT, n_eqF, n_cl, n_vp, fa_andq, fa_orq, fa_xorq, n_shl, n_shr, n_t1, n_t0, n_div, n_m1, not_true_eq_false, Bool.false_eq_true, false_and, Bool.not_false, Bool.not_true, Bool.and_true, Bool.and_false, Bool.false_and, Bool.true_and, true_and, and_true, true_or, or_true, not_false_eq_true, Option.some.injEq, exists_eq_left', forall_eq, ↓reduceIte, Nat.add_zero, Nat.zero_add, and_self]
  · have cc := of_decide_eq_true cc
    obtain ⟨a, q1, -, ⟨q2, q3⟩, q4⟩ := (r4 w hw).1 ⟨cc.1, cc.2.1⟩
    have sc := hs.sc cc.1
    simp (disch := omega) only [l_X8_isIn_14, r2, r3, onS q1, l_0, l_1, l_2, l_3, l_4, l_5, l_6, l_7, l_8, l_9, l_10, l_20, l_30, l_31, l_34, l_40, l_65, l_100, l_255, l_11, l_12, l_24, l_600, l_689, l_999, l_120, l_32, nI_add, pk_mul, n_sub, n_leT, n_leF, n_ltT, n_ltF, n_eqT, n_eqF, n_cl, n_vp, fa_andq, fa_orq, fa_xorq, n_shl, n_shr, n_t1, n_t0, n_div, n_m1, not_true_eq_false, Bool.false_eq_true, false_and, Bool.not_false, Bool.not_true, Bool.and_true, Bool.and_false, Bool.false_and, Bool.true_and, true_and, and_true, true_or, or_true, not_false_eq_true, Option.some.injEq, exists_eq_left', forall_eq, ↓reduceIte, Nat.add_zero, Nat.zero_add, and_self]
    refine (lpF (fun n2 (z : Int32) => l_X8_isIn_30 P (fun M4 => P (nI 1) M4) (fun M5 x1_5 x3_5 x4_5 x5_5 => l_X8_isIn_14 P (fun M6 => P (nI 1) M6) (fun M7 => P (nI 0) M7) n M5 x1_5 x3_5 x4_5 (x5_5 + nI 1)) n2 M (nI p) c (nI 5) (nI w) a z) nI (oW sg w 4) (fun j => decide (oS pl s (4 + 6 * w + j) = p)) (Q := fun j => if j < oW sg w 4 then P (nI 1) M else l_X8_isIn_14 P (fun M6 => P (nI 1) M6) (fun M7 => P (nI 0) M7) n M (nI p) c (nI 5) (nI (w + 1))) (fun _ h => h.elim) (fun _ => ?_) (fun n j hj c2 => ?_) (fun n j hj c2 => ?_)).trans ?_
    · simp (disch := omega) only [l_X8_isIn_30, q2, q3, Nat.lt_irrefl, l_0, l_1, l_2, l_3, l_4, l_5, l_6, l_7, l_8, l_9, l_10, l_20, l_30, l_31, l_34, l_40, l_65, l_100, l_255, l_11, l_12, l_24, l_600, l_689, l_999, l_120, l_32, nI_add, pk_mul, n_sub, n_leT, n_leF, n_ltT, n_ltF, n_eqT, n_eqF, n_cl, n_vp, fa_andq, fa_orq, fa_xorq, n_shl, n_shr, n_t1, n_t0, n_div, n_m1, not_true_eq_false, Bool.false_eq_true, false_and, Bool.not_false, Bool.not_true, Bool.and_true, Bool.and_false, Bool.false_and, Bool.true_and, true_and, and_true, true_or, or_true, not_false_eq_true, Option.some.injEq, exists_eq_left', forall_eq, ↓reduceIte, Nat.add_zero, Nat.zero_add, and_self]
    · have d := hb.c hsn cc.1 cc.2.1 hj
      have c2 := of_decide_eq_false c2
      simp (disch := omega) only [l_X8_isIn_30, q2, q3, q4 j hj, l_0, l_1, l_2, l_3, l_4, l_5, l_6, l_7, l_8, l_9, l_10, l_20, l_30, l_31, l_34, l_40, l_65, l_100, l_255, l_11, l_12, l_24, l_600, l_689, l_999, l_120, l_32, nI_add, pk_mul, n_sub, n_leT, n_leF, n_ltT, n_ltF, n_eqT, n_eqF, n_cl, n_vp, fa_andq, fa_orq, fa_xorq, n_shl, n_shr, n_t1, n_t0, n_div, n_m1, not_true_eq_false, Bool.false_eq_true, false_and, Bool.not_false, Bool.not_true, Bool.and_true, Bool.and_false, Bool.false_and, Bool.true_and, true_and, and_true, true_or, or_true, not_false_eq_true, Option.some.injEq, exists_eq_left', forall_eq, ↓reduceIte, Nat.add_zero, Nat.zero_add, and_self]
    · have d := hb.c hsn cc.1 cc.2.1 hj
      have c2 := of_decide_eq_true c2
      simp (disch := omega) only [l_X8_isIn_30, q2, q3, q4 j hj, hj, l_0, l_1, l_2, l_3, l_4, l_5, l_6, l_7, l_8, l_9, l_10, l_20, l_30, l_31, l_34, l_40, l_65, l_100, l_255, l_11, l_12, l_24, l_600, l_689, l_999, l_120, l_32, nI_add, pk_mul, n_sub, n_leT, n_leF, n_ltT, n_ltF, n_eqT, n_eqF, n_cl, n_vp, fa_andq, fa_orq, fa_xorq, n_shl, n_shr, n_t1, n_t0, n_div, n_m1, not_true_eq_false, Bool.false_eq_true, false_and, Bool.not_false, Bool.not_true, Bool.and_true, Bool.and_false, Bool.false_and, Bool.true_and, true_and, and_true, true_or, or_true, not_false_eq_true, Option.some.injEq, exists_eq_left', forall_eq, ↓reduceIte, Nat.add_zero, Nat.zero_add, and_self]
    · rw [if_pos cc.2.2, decide_eq_true hw, bI_t]
  · rw [bI_de (b := (inS sg pl s).testBit p)]
    rw [fi_any, tb_inS]
    constructor
    · rintro ⟨w, h1, h2⟩
      have h2 := of_decide_eq_true h2
      obtain ⟨j, j1, j2⟩ := (fi_any _ _).mp h2.2.2
      exact ⟨w, h2.1, h2.2.1, j, j1, of_decide_eq_true j2⟩
    · rintro ⟨w, h1, h2, j, h3, h4⟩
      exact ⟨w, by omega, decide_eq_true ⟨h1, h2, (fi_any _ _).mpr ⟨j, h3, decide_eq_true h4⟩⟩⟩
theorem e_X8_isFree (hs : SB sg) (hb : PB sg pl) (h : LSt e sg M) (hd : LDy e sg pl M) {p t b0 : Nat} (hp : p < sg 2) (ht : t < 90) (hb0 : b0 < 4294967296) (P : Int32 → Mm → Prop) : w_X8_isFree M e (nI p) (nI t) (nI b0) P ↔ P (bI (frB sg pl b0 t p)) M := by
  have b := hs.b
  have n := hb.n
  have zp := hs.p p 1
  unfold frB
  by_cases ca : (oP sg p 1).testBit (t / 3) = true
  · simp (disch := omega) only [w_X8_isFree, h.s, h.p hp, ca, bI_f, l_0, l_1, l_2, l_3, l_4, l_5, l_6, l_7, l_8, l_9, l_10, l_20, l_30, l_31, l_34, l_40, l_65, l_100, l_255, l_11, l_12, l_24, l_600, l_689, l_999, l_120, l_32, nI_add, pk_mul, n_sub, n_leT, n_leF, n_ltT, n_ltF, n_eqT, n_eqF, n_cl, n_vp, fa_andq, fa_orq, fa_xorq, n_shl, n_shr, n_t1, n_t0, n_div, n_m1, not_true_eq_false, Bool.false_eq_true, false_and, Bool.not_false, Bool.not_true, Bool.and_true, Bool.and_false, Bool.false_and, Bool.true_and, true_and, and_true, true_or, or_true, not_false_eq_true, Option.some.injEq, exists_eq_left', forall_eq, ↓reduceIte, Nat.add_zero, Nat.zero_add, and_self]
  · have ca2 := b_no ca
    simp (disch := omega) only [w_X8_isFree, h.s, h.p hp, ca2, l_0, l_1, l_2, l_3, l_4, l_5, l_6, l_7, l_8, l_9, l_10, l_20, l_30, l_31, l_34, l_40, l_65, l_100, l_255, l_11, l_12, l_24, l_600, l_689, l_999, l_120, l_32, nI_add, pk_mul, n_sub, n_leT, n_leF, n_ltT, n_ltF, n_eqT, n_eqF, n_cl, n_vp, fa_andq, fa_orq, fa_xorq, n_shl, n_shr, n_t1, n_t0, n_div, n_m1, not_true_eq_false, Bool.false_eq_true, false_and, Bool.not_false, Bool.not_true, Bool.and_true, Bool.and_false, Bool.false_and, Bool.true_and, true_and, and_true, true_or, or_true, not_false_eq_true, Option.some.injEq, exists_eq_left', forall_eq, ↓reduceIte, Nat.add_zero, Nat.zero_add, and_self]
    refine lpA (fun n (z : Int32) => l_X8_isFree_21 P (fun M6 => P (nI 0) M6) (fun M7 => P (nI 1) M7) n M e (nI p) (nI t) (nI b0) z) nI (pl 0) (fun s => !decide (s ≠ b0 ∧ oS pl s 0 = t ∧ (inS sg pl s).testBit p = true)) (Q := fun z => P (bI z) M) (fun _ h => h.elim) (fun _ => ?_) (fun n s hk c => ?_) (fun n s hk c => ?_)
    · simp (disch := omega) only [l_X8_isFree_21, h.s, hd.n, bI_t, l_0, l_1, l_2, l_3, l_4, l_5, l_6, l_7, l_8, l_9, l_10, l_20, l_30, l_31, l_34, l_40, l_65, l_100, l_255, l_11, l_12, l_24, l_600, l_689, l_999, l_120, l_32, nI_add, pk_mul, n_sub, n_leT, n_leF, n_ltT, n_ltF, n_eqT, n_eqF, n_cl, n_vp, fa_andq, fa_orq, fa_xorq, n_shl, n_shr, n_t1, n_t0, n_div, n_m1, not_true_eq_false, Bool.false_eq_true, false_and, Bool.not_false, Bool.not_true, Bool.and_true, Bool.and_false, Bool.false_and, Bool.true_and, true_and, and_true, true_or, or_true, not_false_eq_true, Option.some.injEq, exists_eq_left', forall_eq, ↓reduceIte, Nat.add_zero, Nat.zero_add, and_self]
    · have d := hb.s hs hk
      have c := nd_f c
      obtain ⟨a, r1, -, ⟨r2, r3⟩, r4⟩ := hd.s hk
      have r40 := r4 0 (by omega)
      by_cases c1 : s = b0
      · simp (disch := omega) only [l_X8_isFree_21, h.s, hd.n, c1, l_0, l_1, l_2, l_3, l_4, l_5, l_6, l_7, l_8, l_9, l_10, l_20, l_30, l_31, l_34, l_40, l_65, l_100, l_255, l_11, l_12, l_24, l_600, l_689, l_999, l_120, l_32, nI_add, pk_mul, n_sub, n_leT, n_leF, n_ltT, n_ltF, n_eqT, n_eqF, n_cl, n_vp, fa_andq, fa_orq, fa_xorq, n_shl, n_shr, n_t1, n_t0, n_div, n_m1, not_true_eq_false, Bool.false_eq_true, false_and, Bool.not_false, Bool.not_true, Bool.and_true, Bool.and_false, Bool.false_and, Bool.true_and, true_and, and_true, true_or, or_true, not_false_eq_true, Option.some.injEq, exists_eq_left', forall_eq, ↓reduceIte, Nat.add_zero, Nat.zero_add, and_self]
      · by_cases c2 : oS pl s 0 = t
        · have c3 : (inS sg pl s).testBit p = false := b_no fun z => c ⟨c1, c2, z⟩
          simp (disch := omega) only [l_X8_isFree_21, h.s, hd.n, c1, r1, r2, r3, r40, c2, e_X8_isIn hs hb h hd, c3, bI_f, l_0, l_1, l_2, l_3, l_4, l_5, l_6, l_7, l_8, l_9, l_10, l_20, l_30, l_31, l_34, l_40, l_65, l_100, l_255, l_11, l_12, l_24, l_600, l_689, l_999, l_120, l_32, nI_add, pk_mul, n_sub, n_leT, n_leF, n_ltT, n_ltF, n_eqT, n_eqF, n_cl, n_vp, fa_andq, fa_orq, fa_xorq, n_shl, n_shr, n_t1, n_t0, n_div, n_m1, not_true_eq_false, Bool.false_eq_true, false_and, Bool.not_false, Bool.not_true, Bool.and_true, Bool.and_false, Bool.false_and, Bool.true_and, true_and, and_true, true_or, or_true, not_false_eq_true, Option.some.injEq, exists_eq_left', forall_eq, ↓reduceIte, Nat.add_zero, Nat.zero_add, and_self]
        · simp (disch := omega) only [l_X8_isFree_21, h.s, hd.n, c1, r1, r2, r3, r40, c2, l_0, l_1, l_2, l_3, l_4, l_5, l_6, l_7, l_8, l_9, l_10, l_20, l_30, l_31, l_34, l_40, l_65, l_100, l_255, l_11, l_12, l_24, l_600, l_689, l_999, l_120, l_32, nI_add, pk_mul, n_sub, n_leT, n_leF, n_ltT, n_ltF, n_eqT, n_eqF, n_cl, n_vp, fa_andq, fa_orq, fa_xorq, n_shl, n_shr, n_t1, n_t0, n_div, n_m1, not_true_eq_false, Bool.false_eq_true, false_and, Bool.not_false, Bool.not_true, Bool.and_true, Bool.and_false, Bool.false_and, Bool.true_and, true_and, and_true, true_or, or_true, not_false_eq_true, Option.some.injEq, exists_eq_left', forall_eq, ↓reduceIte, Nat.add_zero, Nat.zero_add, and_self]
    · have d := hb.s hs hk
      have c := nd_t c
      obtain ⟨a, r1, -, ⟨r2, r3⟩, r4⟩ := hd.s hk
      have r40 := r4 0 (by omega)
      simp (disch := omega) only [l_X8_isFree_21, h.s, hd.n, c.1, r1, r2, r3, r40, c.2.1, e_X8_isIn hs hb h hd, c.2.2, bI_t, bI_f, l_0, l_1, l_2, l_3, l_4, l_5, l_6, l_7, l_8, l_9, l_10, l_20, l_30, l_31, l_34, l_40, l_65, l_100, l_255, l_11, l_12, l_24, l_600, l_689, l_999, l_120, l_32, nI_add, pk_mul, n_sub, n_leT, n_leF, n_ltT, n_ltF, n_eqT, n_eqF, n_cl, n_vp, fa_andq, fa_orq, fa_xorq, n_shl, n_shr, n_t1, n_t0, n_div, n_m1, not_true_eq_false, Bool.false_eq_true, false_and, Bool.not_false, Bool.not_true, Bool.and_true, Bool.and_false, Bool.false_and, Bool.true_and, true_and, and_true, true_or, or_true, not_false_eq_true, Option.some.injEq, exists_eq_left', forall_eq, ↓reduceIte, Nat.add_zero, Nat.zero_add, and_self]
/-- doublings of a cast of w -/
def dbl (sg : Nat → Nat) (w : Nat) (f : Nat → Nat) (n : Nat) : Nat := fo (fun j c => c + dbo sg (f j) (oW sg w (5 + j))) n 0
theorem e_X8_doublings (hs : SB sg) (h : LSt e sg M) {w a : Nat} {f : Nat → Nat} (hw : w < sg 3) (ka : zk M a = 10) (la : zl M a = oW sg w 4) (va : ∀ j, j < oW sg w 4 → zI M a j = nI (f j)) (hf : ∀ j, j < oW sg w 4 → f j < sg 2) (P : Int32 → Mm → Prop) : w_X8_doublings M e (nI w) a P ↔ P (nI (dbl sg w f (oW sg w 4))) M := by
  have b := hs.b
  have sc := hs.sc hw
  unfold w_X8_doublings
  refine lpE (fun n (z : Int32 × Int32) => l_X8_doublings_5 P (fun M5 x3_5 => P x3_5 M5) n M e (nI w) a z.1 z.2) (fun j => (nI (dbl sg w f j), nI j)) (oW sg w 4) (fun _ h => h.elim) (fun _ => ?_) (fun n j hj => ?_)
  · simp (disch := omega) only [l_X8_doublings_5, ka, la, l_0, l_1, l_2, l_3, l_4, l_5, l_6, l_7, l_8, l_9, l_10, l_20, l_30, l_31, l_34, l_40, l_65, l_100, l_255, l_11, l_12, l_24, l_600, l_689, l_999, l_120, l_32, nI_add, pk_mul, n_sub, n_leT, n_leF, n_ltT, n_ltF, n_eqT, n_eqF, n_cl, n_vp, fa_andq, fa_orq, fa_xorq, n_shl, n_shr, n_t1, n_t0, n_div, n_m1, not_true_eq_false, Bool.false_eq_true, false_and, Bool.not_false, Bool.not_true, Bool.and_true, Bool.and_false, Bool.false_and, Bool.true_and, true_and, and_true, true_or, or_true, not_false_eq_true, Option.some.injEq, exists_eq_left', forall_eq, ↓reduceIte, Nat.add_zero, Nat.zero_add, and_self]
  · have fj := hf j hj
    obtain ⟨⟨-, -⟩, o, o1, -, ⟨o2, o3⟩, o4⟩ := h.p fj
    have oc := hs.oc fj
    have o40 := o4 0 (by omega)
    obtain ⟨r, r1, -, ⟨r2, r3⟩, r4⟩ := (h.w hw).2
    have st := hs.st hw hj
    have z3 : oP sg (f j) 3 < 8 := hs.ow fj (j := 0) (by omega)
    have ds : dbl sg w f (j + 1) = dbl sg w f j + dbo sg (f j) (oW sg w (5 + j)) := rfl
    by_cases c : oP sg (f j) 3 = oW sg w (5 + j)
    · have d0 : dbo sg (f j) (oW sg w (5 + j)) = 0 := if_pos c
      simp (disch := omega) only [l_X8_doublings_5, ka, la, h.s, va j hj, o1, o2, o3, o40, r1, r2, r3, r4 j hj, ds, d0, l_0, l_1, l_2, l_3, l_4, l_5, l_6, l_7, l_8, l_9, l_10, l_20, l_30, l_31, l_34, l_40, l_65, l_100, l_255, l_11, l_12, l_24, l_600, l_689, l_999, l_120, l_32, nI_add, pk_mul, n_sub, n_leT, n_leF, n_ltT, n_ltF, n_eqT, n_eqF, n_cl, n_vp, fa_andq, fa_orq, fa_xorq, n_shl, n_shr, n_t1, n_t0, n_div, n_m1, not_true_eq_false, Bool.false_eq_true, false_and, Bool.not_false, Bool.not_true, Bool.and_true, Bool.and_false, Bool.false_and, Bool.true_and, true_and, and_true, true_or, or_true, not_false_eq_true, Option.some.injEq, exists_eq_left', forall_eq, ↓reduceIte, Nat.add_zero, Nat.zero_add, and_self]
    · have d0 : dbo sg (f j) (oW sg w (5 + j)) = 1 := if_neg c
      simp (disch := omega) only [l_X8_doublings_5, ka, la, h.s, va j hj, o1, o2, o3, o40, r1, r2, r3, r4 j hj, ds, d0, l_0, l_1, l_2, l_3, l_4, l_5, l_6, l_7, l_8, l_9, l_10, l_20, l_30, l_31, l_34, l_40, l_65, l_100, l_255, l_11, l_12, l_24, l_600, l_689, l_999, l_120, l_32, nI_add, pk_mul, n_sub, n_leT, n_leF, n_ltT, n_ltF, n_eqT, n_eqF, n_cl, n_vp, fa_andq, fa_orq, fa_xorq, n_shl, n_shr, n_t1, n_t0, n_div, n_m1, not_true_eq_false, Bool.false_eq_true, false_and, Bool.not_false, Bool.not_true, Bool.and_true, Bool.and_false, Bool.false_and, Bool.true_and, true_and, and_true, true_or, or_true, not_false_eq_true, Option.some.injEq, exists_eq_left', forall_eq, ↓reduceIte, Nat.add_zero, Nat.zero_add, and_self]
theorem swt_plb {pl : Nat → Nat} {w c b t : Nat} : swt (plb pl b) w c t = fo (fun s n => if s ≠ b ∧ oS pl s 2 = c ∧ (oS pl s 3).testBit w = true ∧ oS pl s 0 < t then n + 1 else n) (pl 0) 0 := by
  unfold plb
  by_cases h : b < pl 0
  · rw [if_pos h]
    have e : swt (off pl b) w c t = fo (fun s n => if oS (off pl b) s 2 = c ∧ (oS (off pl b) s 3).testBit w = true ∧ oS (off pl b) s 0 < t then n + 1 else n) (pl 0 - 1) 0 := rfl
    rw [e, fo_off (g := fun s n => if oS pl s 2 = c ∧ (oS pl s 3).testBit w = true ∧ oS pl s 0 < t then n + 1 else n) 0 h (fun q a hq => by rw [off_up hq (by omega), off_up hq (by omega), off_up hq (by omega)])]
    refine fo_ext (fun k a _ => ?_) _ _ (Nat.le_refl _)
    by_cases q : k = b
    · rw [if_pos q, if_neg fun z => z.1 q]
    · rw [if_neg q]
      by_cases r : oS pl k 2 = c ∧ (oS pl k 3).testBit w = true ∧ oS pl k 0 < t
      · rw [if_pos r, if_pos ⟨q, r⟩]
      · rw [if_neg r, if_neg fun z => r z.2]
  · rw [if_neg h]
    refine fo_ext (fun k a hk => ?_) _ _ (Nat.le_refl _)
    by_cases r : oS pl k 2 = c ∧ (oS pl k 3).testBit w = true ∧ oS pl k 0 < t
    · rw [if_pos r, if_pos ⟨by omega, r⟩]
    · rw [if_neg r, if_neg fun z => r z.2]
theorem e_X8_rehearsals (hs : SB sg) (hb : PB sg pl) (h : LSt e sg M) (hd : LDy e sg pl M) {w t b0 : Nat} (hw : w < 32) (ht : t < 1073741824) (hb0 : b0 < 4294967296) (P : Int32 → Mm → Prop) : w_X8_rehearsals M e (nI w) (nI t) (nI b0) P ↔ P (nI (swt (plb pl b0) w 0 t)) M := by
  have n := hb.n
  rw [swt_plb]
  unfold w_X8_rehearsals
  refine lpE (fun n (z : Int32 × Int32) => l_X8_rehearsals_6 P (fun M8 x4_8 => P x4_8 M8) n M e (nI w) (nI t) (nI b0) z.1 z.2) (fun k => (nI (fo (fun s n => if s ≠ b0 ∧ oS pl s 2 = 0 ∧ (oS pl s 3).testBit w = true ∧ oS pl s 0 < t then n + 1 else n) k 0), nI k)) (pl 0) (fun _ h => h.elim) (fun _ => ?_) (fun n k hk => ?_)
  · simp (disch := omega) only [l_X8_rehearsals_6, h.s, hd.n, l_0, l_1, l_2, l_3, l_4, l_5, l_6, l_7, l_8, l_9, l_10, l_20, l_30, l_31, l_34, l_40, l_65, l_100, l_255, l_11, l_12, l_24, l_600, l_689, l_999, l_120, l_32, nI_add, pk_mul, n_sub, n_leT, n_leF, n_ltT, n_ltF, n_eqT, n_eqF, n_cl, n_vp, fa_andq, fa_orq, fa_xorq, n_shl, n_shr, n_t1, n_t0, n_div, n_m1, not_true_eq_false, Bool.false_eq_true, false_and, Bool.not_false, Bool.not_true, Bool.and_true, Bool.and_false, Bool.false_and, Bool.true_and, true_and, and_true, true_or, or_true, not_false_eq_true, Option.some.injEq, exists_eq_left', forall_eq, ↓reduceIte, Nat.add_zero, Nat.zero_add, and_self]
  · have d := hb.s hs hk
    obtain ⟨a, r1, -, ⟨r2, r3⟩, r4⟩ := hd.s hk
    have r40 := r4 0 (by omega)
    have r42 := r4 2 (by omega)
    have r43 := r4 3 (by omega)
    by_cases c1 : k = b0
    · simp (disch := omega) only [l_X8_rehearsals_6, h.s, hd.n, c1, fo_s, ne_eq, l_0, l_1, l_2, l_3, l_4, l_5, l_6, l_7, l_8, l_9, l_10, l_20, l_30, l_31, l_34, l_40, l_65, l_100, l_255, l_11, l_12, l_24, l_600, l_689, l_999, l_120, l_32, nI_add, pk_mul, n_sub, n_leT, n_leF, n_ltT, n_ltF, n_eqT, n_eqF, n_cl, n_vp, fa_andq, fa_orq, fa_xorq, n_shl, n_shr, n_t1, n_t0, n_div, n_m1, not_true_eq_false, Bool.false_eq_true, false_and, Bool.not_false, Bool.not_true, Bool.and_true, Bool.and_false, Bool.false_and, Bool.true_and, true_and, and_true, true_or, or_true, not_false_eq_true, Option.some.injEq, exists_eq_left', forall_eq, ↓reduceIte, Nat.add_zero, Nat.zero_add, and_self]
    · by_cases c2 : oS pl k 2 = 0
      · by_cases c3 : (oS pl k 3).testBit w = true
        · by_cases c4 : oS pl k 0 < t
          · simp (disch := omega) only [l_X8_rehearsals_6, h.s, hd.n, c1, r1, r2, r3, r40, r42, r43, c2, c3, c4, fo_s, ne_eq, l_0, l_1, l_2, l_3, l_4, l_5, l_6, l_7, l_8, l_9, l_10, l_20, l_30, l_31, l_34, l_40, l_65, l_100, l_255, l_11, l_12, l_24, l_600, l_689, l_999, l_120, l_32, nI_add, pk_mul, n_sub, n_leT, n_leF, n_ltT, n_ltF, n_eqT, n_eqF, n_cl, n_vp, fa_andq, fa_orq, fa_xorq, n_shl, n_shr, n_t1, n_t0, n_div, n_m1, not_true_eq_false, Bool.false_eq_true, false_and, Bool.not_false, Bool.not_true, Bool.and_true, Bool.and_false, Bool.false_and, Bool.true_and, true_and, and_true, true_or, or_true, not_false_eq_true, Option.some.injEq, exists_eq_left', forall_eq, ↓reduceIte, Nat.add_zero, Nat.zero_add, and_self]
          · simp (disch := omega) only [l_X8_rehearsals_6, h.s, hd.n, c1, r1, r2, r3, r40, r42, r43, c2, c3, c4, fo_s, ne_eq, and_false, l_0, l_1, l_2, l_3, l_4, l_5, l_6, l_7, l_8, l_9, l_10, l_20, l_30, l_31, l_34, l_40, l_65, l_100, l_255, l_11, l_12, l_24, l_600, l_689, l_999, l_120, l_32, nI_add, pk_mul, n_sub, n_leT, n_leF, n_ltT, n_ltF, n_eqT, n_eqF, n_cl, n_vp, fa_andq, fa_orq, fa_xorq, n_shl, n_shr, n_t1, n_t0, n_div, n_m1, not_true_eq_false, Bool.false_eq_true, false_and, Bool.not_false, Bool.not_true, Bool.and_true, Bool.and_false, Bool.false_and, Bool.true_and, true_and, and_true, true_or, or_true, not_false_eq_true, Option.some.injEq, exists_eq_left', forall_eq, ↓reduceIte, Nat.add_zero, Nat.zero_add, and_self]
        · simp (disch := omega) only [l_X8_rehearsals_6, h.s, hd.n, c1, r1, r2, r3, r40, r42, r43, c2, c3, fo_s, ne_eq, and_false, l_0, l_1, l_2, l_3, l_4, l_5, l_6, l_7, l_8, l_9, l_10, l_20, l_30, l_31, l_34, l_40, l_65, l_100, l_255, l_11, l_12, l_24, l_600, l_689, l_999, l_120, l_32, nI_add, pk_mul, n_sub, n_leT, n_leF, n_ltT, n_ltF, n_eqT, n_eqF, n_cl, n_vp, fa_andq, fa_orq, fa_xorq, n_shl, n_shr, n_t1, n_t0, n_div, n_m1, not_true_eq_false, Bool.false_eq_true, false_and, Bool.not_false, Bool.not_true, Bool.and_true, Bool.and_false, Bool.false_and, Bool.true_and, true_and, and_true, true_or, or_true, not_false_eq_true, Option.some.injEq, exists_eq_left', forall_eq, ↓reduceIte, Nat.add_zero, Nat.zero_add, and_self]
      · simp (disch := omega) only [l_X8_rehearsals_6, h.s, hd.n, c1, r1, r2, r3, r40, r42, r43, c2, fo_s, ne_eq, and_false, l_0, l_1, l_2, l_3, l_4, l_5, l_6, l_7, l_8, l_9, l_10, l_20, l_30, l_31, l_34, l_40, l_65, l_100, l_255, l_11, l_12, l_24, l_600, l_689, l_999, l_120, l_32, nI_add, pk_mul, n_sub, n_leT, n_leF, n_ltT, n_ltF, n_eqT, n_eqF, n_cl, n_vp, fa_andq, fa_orq, fa_xorq, n_shl, n_shr, n_t1, n_t0, n_div, n_m1, not_true_eq_false, Bool.false_eq_true, false_and, Bool.not_false, Bool.not_true, Bool.and_true, Bool.and_false, Bool.false_and, Bool.true_and, true_and, and_true, true_or, or_true, not_false_eq_true, Option.some.injEq, exists_eq_left', forall_eq, ↓reduceIte, Nat.add_zero, Nat.zero_add, and_self]
end LQ
