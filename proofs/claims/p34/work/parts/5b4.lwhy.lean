/-! THE LAW'S REASON -/
theorem su_mono {f : Nat → Nat} {a : Nat} : ∀ {b}, a ≤ b → su f a ≤ su f b
  | 0, h => by rw [show a = 0 by omega]; exact Nat.le_refl _
  | b + 1, h => by
    by_cases e : a = b + 1
    · rw [e]; exact Nat.le_refl _
    · exact Nat.le_trans (su_mono (show a ≤ b by omega)) (Nat.le_add_right _ _)
theorem hFree_plb {pl : Nat → Nat} {ha t u b : Nat} : hFree (plb pl b) ha t u = al (fun s => decide (s = b) || !decide (oS pl s 1 = ha ∧ dst (oS pl s 0) t ≤ u)) (pl 0) := by
  unfold plb
  by_cases h : b < pl 0
  · rw [if_pos h]
    have e : hFree (off pl b) ha t u = al (fun s => !decide (oS (off pl b) s 1 = ha ∧ dst (oS (off pl b) s 0) t ≤ u)) (pl 0 - 1) := rfl
    rw [e, al_off (p := fun s => !decide (oS pl s 1 = ha ∧ dst (oS pl s 0) t ≤ u)) h (fun q hq => by rw [off_up hq (by omega), off_up hq (by omega)])]
  · rw [if_neg h, Bool.eq_iff_iff]
    unfold hFree
    rw [al_iff, al_iff]
    refine ⟨fun k i hi => by rw [k i hi, Bool.or_true], fun k i hi => ?_⟩
    have := k i hi
    rw [decide_eq_false (by omega), Bool.false_or] at this
    exact this
theorem plb_n {pl : Nat → Nat} {b : Nat} : plb pl b 0 = if b < pl 0 then pl 0 - 1 else pl 0 := by
  unfold plb
  split
  · rfl
  · rfl
theorem swt_plb_le {sg pl : Nat → Nat} (hb : PB sg pl) (b w c t : Nat) : swt (plb pl b) w c t ≤ 20 := by
  have h := swt_le (plb pl b) w c t
  have n := hb.n
  rw [plb_n] at h
  split at h <;> omega
/-- the first of the works that has no cast; what the search for casts costs -/
def fw (sg : Nat → Nat) (S F : Nat) : Nat := fi (fun w => decide (S.testBit w = true ∧ ¬ dm sg w (oW sg w 4) F < 100)) (sg 3)
def cW (sg pl : Nat → Nat) (S t b n : Nat) : Nat := su (fun w => if S.testBit w = true then ncs sg pl w t b else 0) n
theorem cW_s (sg pl : Nat → Nat) (S t b n : Nat) : cW sg pl S t b (n + 1) = cW sg pl S t b n + (if S.testBit n = true then ncs sg pl n t b else 0) := rfl
theorem hasC_fw (sg : Nat → Nat) (S F : Nat) : hasC sg S F = decide (fw sg S F = sg 3) := by
  unfold hasC fw
  rw [al_fi]
  have e : (fun w => !!decide (S.testBit w = true ∧ ¬ dm sg w (oW sg w 4) F < 100)) = fun w => decide (S.testBit w = true ∧ ¬ dm sg w (oW sg w 4) F < 100) := by funext w; rw [Bool.not_not]
  rw [e]
def whyC (sg pl : Nat → Nat) (ha t S c b : Nat) : Nat := if plb pl b 0 = 20 then 0 else if ¬ rented sg S (t / 3) = true then 0 else if ¬ hFree (plb pl b) ha t (sg (6 + ha)) = true then 0 else if c = 1 ∧ ¬ ready sg (plb pl b) S t = true then 0 else cW sg pl S t b (fw sg S (free sg (plb pl b) t) + 1)
section LW
variable {e : Nat} {sg pl : Nat → Nat} {M : Mm}
theorem e_X8_why_25 (hs : SB sg) (h : LSt e sg M) {B S1 b s t S c b0 ha : Nat} (ht : t < 90) (hS : S < 32) {P : Int32 → Mm → Prop} {K74 : Mm → Nat → Nat → Prop} {K82 : Mm → Nat → Nat → Nat → Int32 → Int32 → Int32 → Int32 → Int32 → Prop} :
    (∃ n, l_X8_why_25 B S1 P K74 K82 n M b s e (nI ha) (nI t) (nI S) (nI c) (nI b0) (0 : Int32)) ↔ (if rented sg S (t / 3) = true then K82 M b s e (nI ha) (nI t) (nI S) (nI c) (nI b0) else K74 M b s) := by
  have b9 := hs.b
  rw [l_0]
  refine lpA (fun n (z : Int32) => l_X8_why_25 B S1 P K74 K82 n M b s e (nI ha) (nI t) (nI S) (nI c) (nI b0) z) nI (sg 3) (fun w => !decide (S.testBit w = true ∧ ¬ (oW sg w 1 ≤ t / 3 ∧ t / 3 ≤ oW sg w 2))) (Q := fun z => if z = true then K82 M b s e (nI ha) (nI t) (nI S) (nI c) (nI b0) else K74 M b s) (fun _ h => h.elim) (fun _ => ?_) (fun n w hw q => ?_) (fun n w hw q => ?_)
  · simp (disch := omega) only [l_X8_why_25, h.s, h.n, l_0, l_1, l_2, l_3, l_4, l_5, l_6, l_7, l_8, l_9, l_10, l_20, l_30, l_31, l_34, l_40, l_65, l_100, l_255, l_11, l_12, l_24, l_600, l_689, l_999, l_120, l_32, nI_add, pk_mul, n_sub, n_leT, n_leF, n_ltT, n_ltF, n_eqT, n_eqF, n_cl, n_vp, fa_andq, fa_orq, fa_xorq, n_shl, n_shr, n_t1, n_t0, n_div, n_m1, not_true_eq_false, Bool.false_eq_true, false_and, Bool.not_false, Bool.not_true, Bool.and_true, Bool.and_false, Bool.false_and, Bool.true_and, true_and, and_true, true_or, or_true, not_false_eq_true, Option.some.injEq, exists_eq_left', forall_eq, ↓reduceIte, Nat.add_zero, Nat.zero_add, and_self]
  · have q := nd_f q
    obtain ⟨a, r1, -, ⟨r2, r3⟩, r4⟩ := (h.w hw).1
    have r41 := r4 1 (by omega)
    have r42 := r4 2 (by omega)
    have w1 := hs.w w 1
    have w2 := hs.w w 2
    by_cases c1 : S.testBit w = true
    · have c2 : oW sg w 1 ≤ t / 3 ∧ t / 3 ≤ oW sg w 2 := by
        by_cases z : oW sg w 1 ≤ t / 3 ∧ t / 3 ≤ oW sg w 2
        · exact z
        · exact absurd ⟨c1, z⟩ q
      simp (disch := omega) only [l_X8_why_25, h.s, h.n, c1, r1, r2, r3, r41, r42, l_0, l_1, l_2, l_3, l_4, l_5, l_6, l_7, l_8, l_9, l_10, l_20, l_30, l_31, l_34, l_40, l_65, l_100, l_255, l_11, l_12, l_24, l_600, l_689, l_999, l_120, l_32, nI_add, pk_mul, n_sub, n_leT, n_leF, n_ltT, n_ltF, n_eqT, n_eqF, n_cl, n_vp, fa_andq, fa_orq, fa_xorq, n_shl, n_shr, n_t1, n_t0, n_div, n_m1, not_true_eq_false, Bool.false_eq_true, false_and, Bool.not_false, Bool.not_true, Bool.and_true, Bool.and_false, Bool.false_and, Bool.true_and, true_and, and_true, true_or, or_true, not_false_eq_true, Option.some.injEq, exists_eq_left', forall_eq, ↓reduceIte, Nat.add_zero, Nat.zero_add, and_self]
    · simp (disch := omega) only [l_X8_why_25, h.s, h.n, c1, l_0, l_1, l_2, l_3, l_4, l_5, l_6, l_7, l_8, l_9, l_10, l_20, l_30, l_31, l_34, l_40, l_65, l_100, l_255, l_11, l_12, l_24, l_600, l_689, l_999, l_120, l_32, nI_add, pk_mul, n_sub, n_leT, n_leF, n_ltT, n_ltF, n_eqT, n_eqF, n_cl, n_vp, fa_andq, fa_orq, fa_xorq, n_shl, n_shr, n_t1, n_t0, n_div, n_m1, not_true_eq_false, Bool.false_eq_true, false_and, Bool.not_false, Bool.not_true, Bool.and_true, Bool.and_false, Bool.false_and, Bool.true_and, true_and, and_true, true_or, or_true, not_false_eq_true, Option.some.injEq, exists_eq_left', forall_eq, ↓reduceIte, Nat.add_zero, Nat.zero_add, and_self]
  · have q := nd_t q
    obtain ⟨a, r1, -, ⟨r2, r3⟩, r4⟩ := (h.w hw).1
    have r41 := r4 1 (by omega)
    have r42 := r4 2 (by omega)
    have w1 := hs.w w 1
    have w2 := hs.w w 2
    by_cases c2 : t / 3 < oW sg w 1
    · simp (disch := omega) only [l_X8_why_25, h.s, h.n, q.1, r1, r2, r3, r41, r42, l_0, l_1, l_2, l_3, l_4, l_5, l_6, l_7, l_8, l_9, l_10, l_20, l_30, l_31, l_34, l_40, l_65, l_100, l_255, l_11, l_12, l_24, l_600, l_689, l_999, l_120, l_32, nI_add, pk_mul, n_sub, n_leT, n_leF, n_ltT, n_ltF, n_eqT, n_eqF, n_cl, n_vp, fa_andq, fa_orq, fa_xorq, n_shl, n_shr, n_t1, n_t0, n_div, n_m1, not_true_eq_false, Bool.false_eq_true, false_and, Bool.not_false, Bool.not_true, Bool.and_true, Bool.and_false, Bool.false_and, Bool.true_and, true_and, and_true, true_or, or_true, not_false_eq_true, Option.some.injEq, exists_eq_left', forall_eq, ↓reduceIte, Nat.add_zero, Nat.zero_add, and_self]
    · have c3 : oW sg w 2 < t / 3 := by omega
      simp (disch := omega) only [l_X8_why_25, h.s, h.n, q.1, r1, r2, r3, r41, r42, l_0, l_1, l_2, l_3, l_4, l_5, l_6, l_7, l_8, l_9, l_10, l_20, l_30, l_31, l_34, l_40, l_65, l_100, l_255, l_11, l_12, l_24, l_600, l_689, l_999, l_120, l_32, nI_add, pk_mul, n_sub, n_leT, n_leF, n_ltT, n_ltF, n_eqT, n_eqF, n_cl, n_vp, fa_andq, fa_orq, fa_xorq, n_shl, n_shr, n_t1, n_t0, n_div, n_m1, not_true_eq_false, Bool.false_eq_true, false_and, Bool.not_false, Bool.not_true, Bool.and_true, Bool.and_false, Bool.false_and, Bool.true_and, true_and, and_true, true_or, or_true, not_false_eq_true, Option.some.injEq, exists_eq_left', forall_eq, ↓reduceIte, Nat.add_zero, Nat.zero_add, and_self]
theorem e_X8_why_85 (hs : SB sg) (hb : PB sg pl) (h : LSt e sg M) (hd : LDy e sg pl M) {B S1 b s t S c b0 ha : Nat} (ht : t < 90) (hha : ha < sg 1) (hb0 : b0 < 4294967296) {P : Int32 → Mm → Prop} {K137 : Mm → Nat → Nat → Prop} {K145 : Mm → Nat → Nat → Nat → Int32 → Int32 → Int32 → Int32 → Prop} :
    (∃ n, l_X8_why_85 B S1 P K137 K145 n M b s e (nI ha) (nI t) (nI S) (nI c) (nI b0) (0 : Int32)) ↔ (if hFree (plb pl b0) ha t (sg (6 + ha)) = true then K145 M b s e (nI t) (nI S) (nI c) (nI b0) else K137 M b s) := by
  have b9 := hs.b
  have n9 := hb.n
  have hk := h.h hha
  have k9 := hs.k (6 + ha)
  rw [l_0, hFree_plb]
  refine lpA (fun n (z : Int32) => l_X8_why_85 B S1 P K137 K145 n M b s e (nI ha) (nI t) (nI S) (nI c) (nI b0) z) nI (pl 0) (fun s => decide (s = b0) || !decide (oS pl s 1 = ha ∧ dst (oS pl s 0) t ≤ sg (6 + ha))) (Q := fun z => if z = true then K145 M b s e (nI t) (nI S) (nI c) (nI b0) else K137 M b s) (fun _ h => h.elim) (fun _ => ?_) (fun n k hk2 q => ?_) (fun n k hk2 q => ?_)
  · simp (disch := omega) only [l_X8_why_85, h.s, hd.n, l_0, l_1, l_2, l_3, l_4, l_5, l_6, l_7, l_8, l_9, l_10, l_20, l_30, l_31, l_34, l_40, l_65, l_100, l_255, l_11, l_12, l_24, l_600, l_689, l_999, l_120, l_32, nI_add, pk_mul, n_sub, n_leT, n_leF, n_ltT, n_ltF, n_eqT, n_eqF, n_cl, n_vp, fa_andq, fa_orq, fa_xorq, n_shl, n_shr, n_t1, n_t0, n_div, n_m1, not_true_eq_false, Bool.false_eq_true, false_and, Bool.not_false, Bool.not_true, Bool.and_true, Bool.and_false, Bool.false_and, Bool.true_and, true_and, and_true, true_or, or_true, not_false_eq_true, Option.some.injEq, exists_eq_left', forall_eq, ↓reduceIte, Nat.add_zero, Nat.zero_add, and_self]
  · have d := hb.s hs hk2
    obtain ⟨a, r1, -, ⟨r2, r3⟩, r4⟩ := hd.s hk2
    have r40 := r4 0 (by omega)
    have r41 := r4 1 (by omega)
    by_cases c1 : k = b0
    · simp (disch := omega) only [l_X8_why_85, h.s, hd.n, c1, l_0, l_1, l_2, l_3, l_4, l_5, l_6, l_7, l_8, l_9, l_10, l_20, l_30, l_31, l_34, l_40, l_65, l_100, l_255, l_11, l_12, l_24, l_600, l_689, l_999, l_120, l_32, nI_add, pk_mul, n_sub, n_leT, n_leF, n_ltT, n_ltF, n_eqT, n_eqF, n_cl, n_vp, fa_andq, fa_orq, fa_xorq, n_shl, n_shr, n_t1, n_t0, n_div, n_m1, not_true_eq_false, Bool.false_eq_true, false_and, Bool.not_false, Bool.not_true, Bool.and_true, Bool.and_false, Bool.false_and, Bool.true_and, true_and, and_true, true_or, or_true, not_false_eq_true, Option.some.injEq, exists_eq_left', forall_eq, ↓reduceIte, Nat.add_zero, Nat.zero_add, and_self]
    · rw [decide_eq_false c1, Bool.false_or] at q
      have q := nd_f q
      by_cases c2 : oS pl k 1 = ha
      · have e := dst_abs (a := oS pl k 0) (b := t) (by omega) ht
        have dl : dst (oS pl k 0) t < 90 := by unfold dst; split <;> omega
        have c3 : sg (6 + ha) < dst (oS pl k 0) t := by
          rcases Nat.lt_or_ge (sg (6 + ha)) (dst (oS pl k 0) t) with z | z
          · exact z
          · exact absurd ⟨c2, z⟩ q
        simp (disch := omega) only [l_X8_why_85, h.s, hd.n, c1, r1, r2, r3, r40, r41, c2, hk, n_cl, n_vp, n_eqT, n_eqF, n_leF, l_0, l_1, l_2, l_3, l_4, l_5, l_6, l_7, l_8, l_9, l_10, l_20, l_30, l_31, l_34, l_40, l_65, l_100, l_255, l_11, l_12, l_24, l_600, l_689, l_999, l_120, l_32, not_true_eq_false, Bool.false_eq_true, false_and, Bool.not_false, Bool.not_true, Bool.and_true, Bool.and_false, Bool.false_and, Bool.true_and, true_and, and_true, true_or, or_true, not_false_eq_true, Option.some.injEq, exists_eq_left', forall_eq, ↓reduceIte, Nat.add_zero, Nat.zero_add, and_self]
        rw [e]
        simp (disch := omega) only [hk, l_0, l_1, l_2, l_3, l_4, l_5, l_6, l_7, l_8, l_9, l_10, l_20, l_30, l_31, l_34, l_40, l_65, l_100, l_255, l_11, l_12, l_24, l_600, l_689, l_999, l_120, l_32, nI_add, pk_mul, n_sub, n_leT, n_leF, n_ltT, n_ltF, n_eqT, n_eqF, n_cl, n_vp, fa_andq, fa_orq, fa_xorq, n_shl, n_shr, n_t1, n_t0, n_div, n_m1, not_true_eq_false, Bool.false_eq_true, false_and, Bool.not_false, Bool.not_true, Bool.and_true, Bool.and_false, Bool.false_and, Bool.true_and, true_and, and_true, true_or, or_true, not_false_eq_true, Option.some.injEq, exists_eq_left', forall_eq, ↓reduceIte, Nat.add_zero, Nat.zero_add, and_self]
      · simp (disch := omega) only [l_X8_why_85, h.s, hd.n, c1, r1, r2, r3, r40, r41, c2, l_0, l_1, l_2, l_3, l_4, l_5, l_6, l_7, l_8, l_9, l_10, l_20, l_30, l_31, l_34, l_40, l_65, l_100, l_255, l_11, l_12, l_24, l_600, l_689, l_999, l_120, l_32, nI_add, pk_mul, n_sub, n_leT, n_leF, n_ltT, n_ltF, n_eqT, n_eqF, n_cl, n_vp, fa_andq, fa_orq, fa_xorq, n_shl, n_shr, n_t1, n_t0, n_div, n_m1, not_true_eq_false, Bool.false_eq_true, false_and, Bool.not_false, Bool.not_true, Bool.and_true, Bool.and_false, Bool.false_and, Bool.true_and, true_and, and_true, true_or, or_true, not_false_eq_true, Option.some.injEq, exists_eq_left', forall_eq, ↓reduceIte, Nat.add_zero, Nat.zero_add, and_self]
  · rw [Bool.or_eq_false_iff] at q
    have c1 : k ≠ b0 := of_decide_eq_false q.1
    have q := nd_t q.2
    have d := hb.s hs hk2
    obtain ⟨a, r1, -, ⟨r2, r3⟩, r4⟩ := hd.s hk2
    have r40 := r4 0 (by omega)
    have r41 := r4 1 (by omega)
    have e := dst_abs (a := oS pl k 0) (b := t) (by omega) ht
    have dl : dst (oS pl k 0) t < 90 := by unfold dst; split <;> omega
    simp (disch := omega) only [l_X8_why_85, h.s, hd.n, c1, r1, r2, r3, r40, r41, q.1, hk, n_cl, n_vp, n_eqT, n_eqF, n_leF, l_0, l_1, l_2, l_3, l_4, l_5, l_6, l_7, l_8, l_9, l_10, l_20, l_30, l_31, l_34, l_40, l_65, l_100, l_255, l_11, l_12, l_24, l_600, l_689, l_999, l_120, l_32, not_true_eq_false, Bool.false_eq_true, false_and, Bool.not_false, Bool.not_true, Bool.and_true, Bool.and_false, Bool.false_and, Bool.true_and, true_and, and_true, true_or, or_true, not_false_eq_true, Option.some.injEq, exists_eq_left', forall_eq, ↓reduceIte, Nat.add_zero, Nat.zero_add, and_self]
    rw [e]
    simp (disch := omega) only [hk, l_0, l_1, l_2, l_3, l_4, l_5, l_6, l_7, l_8, l_9, l_10, l_20, l_30, l_31, l_34, l_40, l_65, l_100, l_255, l_11, l_12, l_24, l_600, l_689, l_999, l_120, l_32, nI_add, pk_mul, n_sub, n_leT, n_leF, n_ltT, n_ltF, n_eqT, n_eqF, n_cl, n_vp, fa_andq, fa_orq, fa_xorq, n_shl, n_shr, n_t1, n_t0, n_div, n_m1, not_true_eq_false, Bool.false_eq_true, false_and, Bool.not_false, Bool.not_true, Bool.and_true, Bool.and_false, Bool.false_and, Bool.true_and, true_and, and_true, true_or, or_true, not_false_eq_true, Option.some.injEq, exists_eq_left', forall_eq, ↓reduceIte, Nat.add_zero, Nat.zero_add, and_self]
theorem e_X8_why_148 (hs : SB sg) (hb : PB sg pl) (h : LSt e sg M) (hd : LDy e sg pl M) {B S1 b s t S c b0 : Nat} (ht : t < 90) (hS : S < 32) (hc : c < 2) (hb0 : b0 < 4294967296) {P : Int32 → Mm → Prop} {K193 : Mm → Nat → Nat → Prop} {K201 : Mm → Nat → Nat → Nat → Int32 → Int32 → Int32 → Prop} :
    (∃ n, l_X8_why_148 B S1 P K193 K201 n M b s e (nI t) (nI S) (nI c) (nI b0) (0 : Int32)) ↔ (if c = 1 ∧ ¬ ready sg (plb pl b0) S t = true then K193 M b s else K201 M b s e (nI t) (nI S) (nI b0)) := by
  have b9 := hs.b
  rw [l_0]
  by_cases c0 : c = 0
  · subst c0
    rw [if_neg (by omega)]
    refine lpE (fun n (z : Int32) => l_X8_why_148 B S1 P K193 K201 n M b s e (nI t) (nI S) (nI 0) (nI b0) z) nI (sg 3) (fun _ h => h.elim) (fun _ => ?_) (fun n w hw => ?_)
    · simp (disch := omega) only [l_X8_why_148, h.s, h.n, l_0, l_1, l_2, l_3, l_4, l_5, l_6, l_7, l_8, l_9, l_10, l_20, l_30, l_31, l_34, l_40, l_65, l_100, l_255, l_11, l_12, l_24, l_600, l_689, l_999, l_120, l_32, nI_add, pk_mul, n_sub, n_leT, n_leF, n_ltT, n_ltF, n_eqT, n_eqF, n_cl, n_vp, fa_andq, fa_orq, fa_xorq, n_shl, n_shr, n_t1, n_t0, n_div, n_m1, not_true_eq_false, Bool.false_eq_true, false_and, Bool.not_false, Bool.not_true, Bool.and_true, Bool.and_false, Bool.false_and, Bool.true_and, true_and, and_true, true_or, or_true, not_false_eq_true, Option.some.injEq, exists_eq_left', forall_eq, ↓reduceIte, Nat.add_zero, Nat.zero_add, and_self]
    · by_cases c1 : S.testBit w = true
      · simp (disch := omega) only [l_X8_why_148, h.s, h.n, c1, l_0, l_1, l_2, l_3, l_4, l_5, l_6, l_7, l_8, l_9, l_10, l_20, l_30, l_31, l_34, l_40, l_65, l_100, l_255, l_11, l_12, l_24, l_600, l_689, l_999, l_120, l_32, nI_add, pk_mul, n_sub, n_leT, n_leF, n_ltT, n_ltF, n_eqT, n_eqF, n_cl, n_vp, fa_andq, fa_orq, fa_xorq, n_shl, n_shr, n_t1, n_t0, n_div, n_m1, not_true_eq_false, Bool.false_eq_true, false_and, Bool.not_false, Bool.not_true, Bool.and_true, Bool.and_false, Bool.false_and, Bool.true_and, true_and, and_true, true_or, or_true, not_false_eq_true, Option.some.injEq, exists_eq_left', forall_eq, ↓reduceIte, Nat.add_zero, Nat.zero_add, and_self]
      · simp (disch := omega) only [l_X8_why_148, h.s, h.n, c1, l_0, l_1, l_2, l_3, l_4, l_5, l_6, l_7, l_8, l_9, l_10, l_20, l_30, l_31, l_34, l_40, l_65, l_100, l_255, l_11, l_12, l_24, l_600, l_689, l_999, l_120, l_32, nI_add, pk_mul, n_sub, n_leT, n_leF, n_ltT, n_ltF, n_eqT, n_eqF, n_cl, n_vp, fa_andq, fa_orq, fa_xorq, n_shl, n_shr, n_t1, n_t0, n_div, n_m1, not_true_eq_false, Bool.false_eq_true, false_and, Bool.not_false, Bool.not_true, Bool.and_true, Bool.and_false, Bool.false_and, Bool.true_and, true_and, and_true, true_or, or_true, not_false_eq_true, Option.some.injEq, exists_eq_left', forall_eq, ↓reduceIte, Nat.add_zero, Nat.zero_add, and_self]
  · have c1 : c = 1 := by omega
    subst c1
    have g : (if 1 = 1 ∧ ¬ ready sg (plb pl b0) S t = true then K193 M b s else K201 M b s e (nI t) (nI S) (nI b0)) ↔ (if ready sg (plb pl b0) S t = true then K201 M b s e (nI t) (nI S) (nI b0) else K193 M b s) := by
      by_cases z : ready sg (plb pl b0) S t = true
      · rw [if_pos z, if_neg (fun y => y.2 z)]
      · rw [if_neg z, if_pos ⟨rfl, z⟩]
    rw [g]
    refine lpA (fun n (z : Int32) => l_X8_why_148 B S1 P K193 K201 n M b s e (nI t) (nI S) (nI 1) (nI b0) z) nI (sg 3) (fun w => !decide (S.testBit w = true ∧ swt (plb pl b0) w 0 t < oW sg w 0)) (Q := fun z => if z = true then K201 M b s e (nI t) (nI S) (nI b0) else K193 M b s) (fun _ h => h.elim) (fun _ => ?_) (fun n w hw q => ?_) (fun n w hw q => ?_)
    · simp (disch := omega) only [l_X8_why_148, h.s, h.n, l_0, l_1, l_2, l_3, l_4, l_5, l_6, l_7, l_8, l_9, l_10, l_20, l_30, l_31, l_34, l_40, l_65, l_100, l_255, l_11, l_12, l_24, l_600, l_689, l_999, l_120, l_32, nI_add, pk_mul, n_sub, n_leT, n_leF, n_ltT, n_ltF, n_eqT, n_eqF, n_cl, n_vp, fa_andq, fa_orq, fa_xorq, n_shl, n_shr, n_t1, n_t0, n_div, n_m1, not_true_eq_false, Bool.false_eq_true, false_and, Bool.not_false, Bool.not_true, Bool.and_true, Bool.and_false, Bool.false_and, Bool.true_and, true_and, and_true, true_or, or_true, not_false_eq_true, Option.some.injEq, exists_eq_left', forall_eq, ↓reduceIte, Nat.add_zero, Nat.zero_add, and_self]
    · have q := nd_f q
      obtain ⟨a, r1, -, ⟨r2, r3⟩, r4⟩ := (h.w hw).1
      have r40 := r4 0 (by omega)
      have w1 := hs.w w 0
      by_cases c1 : S.testBit w = true
      · have c2 : oW sg w 0 ≤ swt (plb pl b0) w 0 t := by
          rcases Nat.lt_or_ge (swt (plb pl b0) w 0 t) (oW sg w 0) with z | z
          · exact absurd ⟨c1, z⟩ q
          · exact z
        have sl := swt_plb_le hb b0 w 0 t
        simp (disch := omega) only [l_X8_why_148, h.s, h.n, c1, e_X8_rehearsals hs hb h hd, r1, r2, r3, r40, l_0, l_1, l_2, l_3, l_4, l_5, l_6, l_7, l_8, l_9, l_10, l_20, l_30, l_31, l_34, l_40, l_65, l_100, l_255, l_11, l_12, l_24, l_600, l_689, l_999, l_120, l_32, nI_add, pk_mul, n_sub, n_leT, n_leF, n_ltT, n_ltF, n_eqT, n_eqF, n_cl, n_vp, fa_andq, fa_orq, fa_xorq, n_shl, n_shr, n_t1, n_t0, n_div, n_m1, not_true_eq_false, Bool.false_eq_true, false_and, Bool.not_false, Bool.not_true, Bool.and_true, Bool.and_false, Bool.false_and, Bool.true_and, true_and, and_true, true_or, or_true, not_false_eq_true, Option.some.injEq, exists_eq_left', forall_eq, ↓reduceIte, Nat.add_zero, Nat.zero_add, and_self]
      · simp (disch := omega) only [l_X8_why_148, h.s, h.n, c1, l_0, l_1, l_2, l_3, l_4, l_5, l_6, l_7, l_8, l_9, l_10, l_20, l_30, l_31, l_34, l_40, l_65, l_100, l_255, l_11, l_12, l_24, l_600, l_689, l_999, l_120, l_32, nI_add, pk_mul, n_sub, n_leT, n_leF, n_ltT, n_ltF, n_eqT, n_eqF, n_cl, n_vp, fa_andq, fa_orq, fa_xorq, n_shl, n_shr, n_t1, n_t0, n_div, n_m1, not_true_eq_false, Bool.false_eq_true, false_and, Bool.not_false, Bool.not_true, Bool.and_true, Bool.and_false, Bool.false_and, Bool.true_and, true_and, and_true, true_or, or_true, not_false_eq_true, Option.some.injEq, exists_eq_left', forall_eq, ↓reduceIte, Nat.add_zero, Nat.zero_add, and_self]
    · have q := nd_t q
      obtain ⟨a, r1, -, ⟨r2, r3⟩, r4⟩ := (h.w hw).1
      have r40 := r4 0 (by omega)
      have w1 := hs.w w 0
      have sl := swt_plb_le hb b0 w 0 t
      simp (disch := omega) only [l_X8_why_148, h.s, h.n, q.1, e_X8_rehearsals hs hb h hd, r1, r2, r3, r40, l_0, l_1, l_2, l_3, l_4, l_5, l_6, l_7, l_8, l_9, l_10, l_20, l_30, l_31, l_34, l_40, l_65, l_100, l_255, l_11, l_12, l_24, l_600, l_689, l_999, l_120, l_32, nI_add, pk_mul, n_sub, n_leT, n_leF, n_ltT, n_ltF, n_eqT, n_eqF, n_cl, n_vp, fa_andq, fa_orq, fa_xorq, n_shl, n_shr, n_t1, n_t0, n_div, n_m1, not_true_eq_false, Bool.false_eq_true, false_and, Bool.not_false, Bool.not_true, Bool.and_true, Bool.and_false, Bool.false_and, Bool.true_and, true_and, and_true, true_or, or_true, not_false_eq_true, Option.some.injEq, exists_eq_left', forall_eq, ↓reduceIte, Nat.add_zero, Nat.zero_add, and_self]
theorem s_X8_why_204 (hs : SB sg) (hb : PB sg pl) (hz : e + 10 ≤ zn M) (h : LSt e sg M) (hd : LDy e sg pl M) (h5 : ∀ w, w < sg 3 → oW sg w 4 ≤ 5) {B S1 t S b0 : Nat} (ht : t < 90) (hS : S < 32) (hb0 : b0 < 4294967296) {P : Int32 → Mm → Prop} {K235 K243 : Mm → Nat → Nat → Prop}
    (hB : cW sg pl S t b0 (fw sg S (free sg (plb pl b0) t) + 1) ≤ B) (hS1 : 5 * cW sg pl S t b0 (fw sg S (free sg (plb pl b0) t) + 1) ≤ S1)
    (K : ∀ M' b s, KpC e M M' → if hasC sg S (free sg (plb pl b0) t) = true then K243 M' b s else K235 M' b s) :
    ∃ n, l_X8_why_204 B S1 P K235 K243 n M 0 0 e (nI t) (nI S) (nI b0) (0 : Int32) := by
  have b9 := hs.b
  rw [hasC_fw] at K
  have fl := fi_le (fun w => decide (S.testBit w = true ∧ ¬ dm sg w (oW sg w 4) (free sg (plb pl b0) t) < 100)) (sg 3)
  have fn := fi_no (fun w => decide (S.testBit w = true ∧ ¬ dm sg w (oW sg w 4) (free sg (plb pl b0) t) < 100)) (sg 3)
  have fy := fi_yes (fun w => decide (S.testBit w = true ∧ ¬ dm sg w (oW sg w 4) (free sg (plb pl b0) t) < 100)) (sg 3)
  have ef : fi (fun w => decide (S.testBit w = true ∧ ¬ dm sg w (oW sg w 4) (free sg (plb pl b0) t) < 100)) (sg 3) = fw sg S (free sg (plb pl b0) t) := rfl
  rw [ef] at fl fn fy
  generalize fw sg S (free sg (plb pl b0) t) = m at *
  refine ⟨m + 1, ?_⟩
  have key : ∀ j w, w + j = m → ∀ M', KpC e M M' → l_X8_why_204 B S1 P K235 K243 (j + 1) M' (cW sg pl S t b0 w) (5 * cW sg pl S t b0 w) e (nI t) (nI S) (nI b0) (nI w) := by
    intro j
    induction j with
    | zero =>
      intro w hj M' kp
      have h1 := h.kp kp.1
      have hd1 := hd.kp kp
      have ew : w = m := by omega
      subst ew
      by_cases q : w = sg 3
      · rw [decide_eq_true q] at K
        have k := K M' (cW sg pl S t b0 w) (5 * cW sg pl S t b0 w) kp
        rw [if_pos rfl] at k
        simp (disch := omega) only [l_X8_why_204, h1.s, h1.n, l_0, l_1, l_2, l_3, l_4, l_5, l_6, l_7, l_8, l_9, l_10, l_20, l_30, l_31, l_34, l_40, l_65, l_100, l_255, l_11, l_12, l_24, l_600, l_689, l_999, l_120, l_32, nI_add, pk_mul, n_sub, n_leT, n_leF, n_ltT, n_ltF, n_eqT, n_eqF, n_cl, n_vp, fa_andq, fa_orq, fa_xorq, n_shl, n_shr, n_t1, n_t0, n_div, n_m1, not_true_eq_false, Bool.false_eq_true, false_and, Bool.not_false, Bool.not_true, Bool.and_true, Bool.and_false, Bool.false_and, Bool.true_and, true_and, and_true, true_or, or_true, not_false_eq_true, Option.some.injEq, exists_eq_left', forall_eq, ↓reduceIte, Nat.add_zero, Nat.zero_add, and_self]
        exact k
      · rw [decide_eq_false q] at K
        have y := of_decide_eq_true (fy (by omega))
        have cs_ : cW sg pl S t b0 (w + 1) = cW sg pl S t b0 w + ncs sg pl w t b0 := by
          rw [cW_s, if_pos y.1]
        simp (disch := omega) only [l_X8_why_204, h1.s, h1.n, y.1, l_0, l_1, l_2, l_3, l_4, l_5, l_6, l_7, l_8, l_9, l_10, l_20, l_30, l_31, l_34, l_40, l_65, l_100, l_255, l_11, l_12, l_24, l_600, l_689, l_999, l_120, l_32, nI_add, pk_mul, n_sub, n_leT, n_leF, n_ltT, n_ltF, n_eqT, n_eqF, n_cl, n_vp, fa_andq, fa_orq, fa_xorq, n_shl, n_shr, n_t1, n_t0, n_div, n_m1, not_true_eq_false, Bool.false_eq_true, false_and, Bool.not_false, Bool.not_true, Bool.and_true, Bool.and_false, Bool.false_and, Bool.true_and, true_and, and_true, true_or, or_true, not_false_eq_true, Option.some.injEq, exists_eq_left', forall_eq, ↓reduceIte, Nat.add_zero, Nat.zero_add, and_self]
        refine ⟨ncs sg pl w t b0, 5 * ncs sg pl w t b0, by omega, by omega, s_X8_cast hs hb ⟨Nat.le_trans hz kp.1.1.1, h1, hd1⟩ (by omega) ht hb0 (h5 w (by omega)) (Nat.le_refl _) (Nat.le_refl _) _ fun o M2 k2 c2 => ⟨fun a ha => ?_, fun ha => ?_⟩⟩
        · subst ha; exact absurd c2.1 y.2
        · have k := K M2 (cW sg pl S t b0 w + ncs sg pl w t b0) (5 * cW sg pl S t b0 w + 5 * ncs sg pl w t b0) (kp.trans k2)
          rw [if_neg Bool.false_ne_true] at k
          exact k
    | succ j ih =>
      intro w hj M' kp
      have h1 := h.kp kp.1
      have hd1 := hd.kp kp
      have f := of_decide_eq_false (fn w (by omega))
      by_cases c1 : S.testBit w = true
      · have cs_ : cW sg pl S t b0 (w + 1) = cW sg pl S t b0 w + ncs sg pl w t b0 := by
          rw [cW_s, if_pos c1]
        have mono : cW sg pl S t b0 (w + 1) ≤ cW sg pl S t b0 (m + 1) := su_mono (by omega)
        have step : ∀ M2, KpC e M M2 → l_X8_why_204 B S1 P K235 K243 (j + 1) M2 (cW sg pl S t b0 w + ncs sg pl w t b0) (5 * cW sg pl S t b0 w + 5 * ncs sg pl w t b0) e (nI t) (nI S) (nI b0) (nI (w + 1)) := fun M2 k2 => by
          have := ih (w + 1) (by omega) M2 k2
          rw [cs_, Nat.mul_add] at this
          exact this
        generalize hm : j + 1 = m2 at step ⊢
        simp (disch := omega) only [l_X8_why_204, h1.s, h1.n, c1, l_0, l_1, l_2, l_3, l_4, l_5, l_6, l_7, l_8, l_9, l_10, l_20, l_30, l_31, l_34, l_40, l_65, l_100, l_255, l_11, l_12, l_24, l_600, l_689, l_999, l_120, l_32, nI_add, pk_mul, n_sub, n_leT, n_leF, n_ltT, n_ltF, n_eqT, n_eqF, n_cl, n_vp, fa_andq, fa_orq, fa_xorq, n_shl, n_shr, n_t1, n_t0, n_div, n_m1, not_true_eq_false, Bool.false_eq_true, false_and, Bool.not_false, Bool.not_true, Bool.and_true, Bool.and_false, Bool.false_and, Bool.true_and, true_and, and_true, true_or, or_true, not_false_eq_true, Option.some.injEq, exists_eq_left', forall_eq, ↓reduceIte, Nat.add_zero, Nat.zero_add, and_self]
        refine ⟨ncs sg pl w t b0, 5 * ncs sg pl w t b0, by omega, by omega, s_X8_cast hs hb ⟨Nat.le_trans hz kp.1.1.1, h1, hd1⟩ (by omega) ht hb0 (h5 w (by omega)) (Nat.le_refl _) (Nat.le_refl _) _ fun o M2 k2 c2 => ⟨fun a ha => step M2 (kp.trans k2), fun ha => ?_⟩⟩
        subst ha; exact absurd c1 fun z => f ⟨z, c2⟩
      · have cs_ : cW sg pl S t b0 (w + 1) = cW sg pl S t b0 w := by
          rw [cW_s, if_neg c1, Nat.add_zero]
        have step := ih (w + 1) (by omega) M' kp
        rw [cs_] at step
        generalize hm : j + 1 = m2 at step ⊢
        simp (disch := omega) only [l_X8_why_204, h1.s, h1.n, c1, l_0, l_1, l_2, l_3, l_4, l_5, l_6, l_7, l_8, l_9, l_10, l_20, l_30, l_31, l_34, l_40, l_65, l_100, l_255, l_11, l_12, l_24, l_600, l_689, l_999, l_120, l_32, nI_add, pk_mul, n_sub, n_leT, n_leF, n_ltT, n_ltF, n_eqT, n_eqF, n_cl, n_vp, fa_andq, fa_orq, fa_xorq, n_shl, n_shr, n_t1, n_t0, n_div, n_m1, not_true_eq_false, Bool.false_eq_true, false_and, Bool.not_false, Bool.not_true, Bool.and_true, Bool.and_false, Bool.false_and, Bool.true_and, true_and, and_true, true_or, or_true, not_false_eq_true, Option.some.injEq, exists_eq_left', forall_eq, ↓reduceIte, Nat.add_zero, Nat.zero_add, and_self]
        exact step
  have k := key m 0 (by omega) M KpC.rf
  exact k
theorem s_X8_why (hs : SB sg) (hb : PB sg pl) (h : SI e sg pl M) (h5 : ∀ w, w < sg 3 → oW sg w 4 ≤ 5) {B S1 t S c b0 ha : Nat} (ht : t < 90) (hha : ha < sg 1) (hS : S < 32) (hc : c < 2) (hb0 : b0 = 4294967295 ∨ b0 < pl 0) (P : Int32 → Mm → Prop) (hB : whyC sg pl ha t S c b0 ≤ B) (hS1 : 5 * whyC sg pl ha t S c b0 ≤ S1)
    (K : ∀ M', KpC e M M' → P (nI (whyN sg (plb pl b0) ha t S c)) M') : w_X8_why M e (nI ha) (nI t) (nI S) (nI c) (nI b0) P B S1 := by
  obtain ⟨hz, h1, hd⟩ := h
  have b9 := hs.b
  have n9 := hb.n
  have hb1 : b0 < 4294967296 := by omega
  have body : ¬ plb pl b0 0 = 20 → ∃ n25, l_X8_why_25 B S1 P (fun M7 b7 s7 => P (2 : Int32) M7) (fun M8 b8 s8 x0_8 x1_8 x2_8 x3_8 x4_8 x5_8 => (∃ n85, l_X8_why_85 B S1 P (fun M15 b15 s15 => P (3 : Int32) M15) (fun M16 b16 s16 x0_16 x2_16 x3_16 x4_16 x5_16 => (∃ n148, l_X8_why_148 B S1 P (fun M21 b21 s21 => P (4 : Int32) M21) (fun M22 b22 s22 x0_22 x2_22 x3_22 x5_22 => (∃ n204, l_X8_why_204 B S1 P (fun M25 b25 s25 => P (5 : Int32) M25) (fun M26 b26 s26 => P (0 : Int32) M26) n204 M22 b22 s22 x0_22 x2_22 x3_22 x5_22 (0 : Int32))) n148 M16 b16 s16 x0_16 x2_16 x3_16 x4_16 x5_16 (0 : Int32))) n85 M8 b8 s8 x0_8 x1_8 x2_8 x3_8 x4_8 x5_8 (0 : Int32))) n25 M 0 0 e (nI ha) (nI t) (nI S) (nI c) (nI b0) (0 : Int32) := fun q0 => by
    unfold whyC at hB hS1
    unfold whyN at K
    rw [if_neg q0] at hB hS1 K
    refine (e_X8_why_25 hs h1 ht hS).mpr ?_
    by_cases q1 : rented sg S (t / 3) = true
    · rw [if_neg (not_not_intro q1)] at hB hS1 K
      rw [if_pos q1]
      refine (e_X8_why_85 hs hb h1 hd ht hha hb1).mpr ?_
      by_cases q2 : hFree (plb pl b0) ha t (sg (6 + ha)) = true
      · rw [if_neg (not_not_intro q2)] at hB hS1 K
        rw [if_pos q2]
        refine (e_X8_why_148 hs hb h1 hd ht hS hc hb1).mpr ?_
        by_cases q3 : c = 1 ∧ ¬ ready sg (plb pl b0) S t = true
        · rw [if_pos q3] at hB hS1 K ⊢
          exact K M KpC.rf
        · rw [if_neg q3] at hB hS1 K ⊢
          refine s_X8_why_204 hs hb hz h1 hd h5 ht hS hb1 hB hS1 fun M' b s kp => ?_
          have k := K M' kp
          by_cases q4 : hasC sg S (free sg (plb pl b0) t) = true
          · rw [if_pos q4] at k ⊢; exact k
          · rw [if_neg q4] at k ⊢; exact k
      · rw [if_pos q2] at hB hS1 K
        rw [if_neg q2]
        exact K M KpC.rf
    · rw [if_pos q1] at hB hS1 K
      rw [if_neg q1]
      exact K M KpC.rf
  have full : plb pl b0 0 = 20 → P (1 : Int32) M := fun q0 => by
    have k := K M KpC.rf
    unfold whyN at k
    rw [if_pos q0] at k
    exact k
  rw [plb_n] at body full
  unfold w_X8_why
  refine ⟨h1.s.1.1, ?_⟩
  rw [hd.n]
  rcases hb0 with e0 | e0
  · subst e0
    rw [if_neg (by omega)] at body full
    refine ifp (by decide) ?_
    by_cases q : pl 0 = 20
    · refine ifp (by rw [q]; decide) (full q)
    · refine ifn ?_ (body q)
      rw [l_0, l_20, n_sub (by omega), n_eqF (by omega) (by omega) (by omega)]; exact not_false
  · rw [if_pos e0] at body full
    refine ifn (by rw [l_0, n_ltF (by omega) (by omega)]; exact not_false) ?_
    refine ifn ?_ (body (by omega))
    rw [l_1, l_20, n_sub (by omega), n_eqF (by omega) (by omega) (by omega)]; exact not_false
end LW
