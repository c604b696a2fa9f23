/-! THE LAW'S COUNTS AND COSTS -/
theorem soN {r : Nat} {X : Prop} : (some r = none → X) ↔ True := ⟨fun _ => True.intro, fun _ h => by cases h⟩
theorem tb_2p (p v : Nat) : (2 ^ p).testBit v = true ↔ v = p := by
  rw [Nat.testBit_two_pow, decide_eq_true_eq]
  exact ⟨fun h => h.symm, fun h => h.symm⟩
theorem fo_plus {g : Nat → Nat → Nat} {d : Nat → Nat} (h : ∀ j c, g j c = c + d j) (a : Nat) : ∀ n, fo g n a = a + su d n
  | 0 => rfl
  | n + 1 => by rw [fo_s, h, fo_plus h a n, su_s, Nat.add_assoc]
theorem dW_one (sg pl : Nat → Nat) (s T w n : Nat) : dW sg pl s T w n = n + dW sg pl s T w 0 := by
  unfold dW
  by_cases c : (oS pl s 3).testBit w = true
  · rw [if_pos c, if_pos c]
    have h : ∀ j c, (if T.testBit (oS pl s (4 + 6 * w + j)) = true then c + dbo sg (oS pl s (4 + 6 * w + j)) (oW sg w (5 + j)) else c) = c + (if T.testBit (oS pl s (4 + 6 * w + j)) = true then dbo sg (oS pl s (4 + 6 * w + j)) (oW sg w (5 + j)) else 0) := fun j c => by split <;> rfl
    rw [fo_plus h n, fo_plus h 0, Nat.zero_add]
  · rw [if_neg c, if_neg c]; rfl
theorem dW_add (sg pl : Nat → Nat) (s T n a : Nat) : fo (dW sg pl s T) n a = a + fo (dW sg pl s T) n 0 := by
  rw [fo_plus (dW_one sg pl s T) a, fo_plus (dW_one sg pl s T) 0, Nat.zero_add]
theorem fl_ord {sg pl : Nat → Nat} (hp : PV sg pl) (w : Nat) : ∀ n k, n ≤ k → k < pl 0 → fl pl w n = (4294967295, 4294967295) ∨ ((fl pl w n).1 ≤ oS pl k 0 / 3 ∧ (fl pl w n).2 ≤ oS pl k 0 / 3)
  | 0, _, _, _ => Or.inl rfl
  | n + 1, k, h, hk => by
    have i := fl_ord hp w n k (by omega) hk
    have l := hp.1 n k (by omega) hk
    unfold lx at l
    have l2 : oS pl n 0 / 3 ≤ oS pl k 0 / 3 := Nat.div_le_div_right (by omega)
    rw [fl_s]
    by_cases c : (oS pl n 3).testBit w = true
    · rw [if_pos c]
      refine Or.inr ⟨?_, l2⟩
      show (if (fl pl w n).1 = 4294967295 then oS pl n 0 / 3 else (fl pl w n).1) ≤ _
      rcases i with i | i
      · rw [i, if_pos rfl]; exact l2
      · split
        · exact l2
        · exact i.1
    · rw [if_neg c]; exact i
section LD
variable {e : Nat} {sg pl : Nat → Nat} {M : Mm}
theorem e_X8_count (hs : SB sg) (hb : PB sg pl) (h : LSt e sg M) (hd : LDy e sg pl M) {p : Nat} (hp : p < 1073741824) (P : Int32 → Mm → Prop) : w_X8_count M e (nI p) P ↔ P (nI (svc sg pl p)) M := by
  have n9 := hb.n
  unfold w_X8_count
  refine lpE (fun n (z : Int32 × Int32) => l_X8_count_4 P (fun M3 x2_3 => P x2_3 M3) n M e (nI p) z.1 z.2) (fun k => (nI (fo (fun s n => if (inS sg pl s).testBit p = true then n + 1 else n) k 0), nI k)) (pl 0) (fun _ h => h.elim) (fun _ => ?_) (fun n k hk => ?_)
  · simp (disch := omega) only [l_X8_count_4, svc, h.s, hd.n, l_0, l_1, l_2, l_3, l_4, l_5, l_6, l_7, l_8, l_9, l_10, l_20, l_30, l_31, l_34, l_40, l_65, l_100, l_255, l_11, l_12, l_24, l_600, l_689, l_999, l_120, l_32, nI_add, pk_mul, n_sub, n_leT, n_leF, n_ltT, n_ltF, n_eqT, n_eqF, n_cl, n_vp, fa_andq, fa_orq, fa_xorq, n_shl, n_shr, n_t1, n_t0, n_div, n_m1, not_true_eq_false, Bool.false_eq_true, false_and, Bool.not_false, Bool.not_true, Bool.and_true, Bool.and_false, Bool.false_and, Bool.true_and, true_and, and_true, true_or, or_true, not_false_eq_true, Option.some.injEq, exists_eq_left', forall_eq, ↓reduceIte, Nat.add_zero, Nat.zero_add, and_self]
  · by_cases c : (inS sg pl k).testBit p = true
    · simp (disch := omega) only [l_X8_count_4, h.s, hd.n, e_X8_isIn hs hb h hd, c, bI_t, fo_s, l_0, l_1, l_2, l_3, l_4, l_5, l_6, l_7, l_8, l_9, l_10, l_20, l_30, l_31, l_34, l_40, l_65, l_100, l_255, l_11, l_12, l_24, l_600, l_689, l_999, l_120, l_32, nI_add, pk_mul, n_sub, n_leT, n_leF, n_ltT, n_ltF, n_eqT, n_eqF, n_cl, n_vp, fa_andq, fa_orq, fa_xorq, n_shl, n_shr, n_t1, n_t0, n_div, n_m1, not_true_eq_false, Bool.false_eq_true, false_and, Bool.not_false, Bool.not_true, Bool.and_true, Bool.and_false, Bool.false_and, Bool.true_and, true_and, and_true, true_or, or_true, not_false_eq_true, Option.some.injEq, exists_eq_left', forall_eq, ↓reduceIte, Nat.add_zero, Nat.zero_add, and_self]
    · have c2 := b_no c
      simp (disch := omega) only [l_X8_count_4, h.s, hd.n, e_X8_isIn hs hb h hd, c2, bI_f, fo_s, l_0, l_1, l_2, l_3, l_4, l_5, l_6, l_7, l_8, l_9, l_10, l_20, l_30, l_31, l_34, l_40, l_65, l_100, l_255, l_11, l_12, l_24, l_600, l_689, l_999, l_120, l_32, nI_add, pk_mul, n_sub, n_leT, n_leF, n_ltT, n_ltF, n_eqT, n_eqF, n_cl, n_vp, fa_andq, fa_orq, fa_xorq, n_shl, n_shr, n_t1, n_t0, n_div, n_m1, not_true_eq_false, Bool.false_eq_true, false_and, Bool.not_false, Bool.not_true, Bool.and_true, Bool.and_false, Bool.false_and, Bool.true_and, true_and, and_true, true_or, or_true, not_false_eq_true, Option.some.injEq, exists_eq_left', forall_eq, ↓reduceIte, Nat.add_zero, Nat.zero_add, and_self]
theorem e_X8_twiceOf_27 (hs : SB sg) (hb : PB sg pl) (h : LSt e sg M) (hd : LDy e sg pl M) {p s w a : Nat} (hp : p < sg 2) (hsn : s < pl 0) (hw : w < sg 3) {P : Int32 → Mm → Prop} {K : Mm → Nat → Int32 → Int32 → Int32 → Int32 → Prop} : (∃ n, l_X8_twiceOf_27 P K n M e (nI p) (nI a) (nI s) (nI w) (0 : Int32)) ↔ K M e (nI p) (nI (dW sg pl s (2 ^ p) w a)) (nI s) (nI w) := by
  have b9 := hs.b
  have n9 := hb.n
  have sc := hs.sc hw
  obtain ⟨c, q1, -, ⟨q3, q4⟩, q5⟩ := hd.c hsn
  rw [l_0]
  by_cases t : (oS pl s 3).testBit w = true
  · obtain ⟨r, u1, -, ⟨u2, u3⟩, u4⟩ := (q5 w (by omega)).1 ⟨hw, t⟩
    obtain ⟨⟨-, -⟩, o, o1, -, ⟨o2, o3⟩, o4⟩ := h.p hp
    have oc := hs.oc hp
    have o40 : zI M o 0 = nI (oP sg p 3) := o4 0 (by omega)
    have z3 : oP sg p 3 < 8 := hs.ow hp (j := 0) (by omega)
    obtain ⟨st, s1, -, ⟨s2, s3⟩, s4⟩ := (h.w hw).2
    refine lpE (fun n (z : Int32 × Int32) => l_X8_twiceOf_27 P K n M e (nI p) z.1 (nI s) (nI w) z.2) (fun j => (nI (fo (fun j c => if (2 ^ p).testBit (oS pl s (4 + 6 * w + j)) = true then c + dbo sg (oS pl s (4 + 6 * w + j)) (oW sg w (5 + j)) else c) j a), nI j)) (oW sg w 4) (fun _ h => h.elim) (fun _ => ?_) (fun n j hj => ?_)
    · simp (disch := omega) only [l_X8_twiceOf_27, dW, t, h.s, q1, q3, q4, soN, forall_eq', u1, u2, u3, l_0, l_1, l_2, l_3, l_4, l_5, l_6, l_7, l_8, l_9, l_10, l_20, l_30, l_31, l_34, l_40, l_65, l_100, l_255, l_11, l_12, l_24, l_600, l_689, l_999, l_120, l_32, nI_add, pk_mul, n_sub, n_leT, n_leF, n_ltT, n_ltF, n_eqT, n_eqF, n_cl, n_vp, fa_andq, fa_orq, fa_xorq, n_shl, n_shr, n_t1, n_t0, n_div, n_m1, not_true_eq_false, Bool.false_eq_true, false_and, Bool.not_false, Bool.not_true, Bool.and_true, Bool.and_false, Bool.false_and, Bool.true_and, true_and, and_true, true_or, or_true, not_false_eq_true, Option.some.injEq, exists_eq_left', forall_eq, ↓reduceIte, Nat.add_zero, Nat.zero_add, and_self]
    · have d := hb.c hsn hw t hj
      have u4j : zI M r j = nI (oS pl s (4 + 6 * w + j)) := u4 j hj
      have s4j : zI M st j = nI (oW sg w (5 + j)) := s4 j hj
      have sj := hs.st hw hj
      by_cases c1 : oS pl s (4 + 6 * w + j) = p
      · have c2 := (tb_2p p (oS pl s (4 + 6 * w + j))).mpr c1
        by_cases c3 : oP sg p 3 = oW sg w (5 + j)
        · have d0 : dbo sg p (oW sg w (5 + j)) = 0 := if_pos c3
          rw [c1] at u4j c2
          simp (disch := omega) only [l_X8_twiceOf_27, h.s, q1, q3, q4, soN, forall_eq', u1, u2, u3, u4j, o1, o2, o3, o40, s1, s2, s3, s4j, fo_s, c1, c2, d0, l_0, l_1, l_2, l_3, l_4, l_5, l_6, l_7, l_8, l_9, l_10, l_20, l_30, l_31, l_34, l_40, l_65, l_100, l_255, l_11, l_12, l_24, l_600, l_689, l_999, l_120, l_32, nI_add, pk_mul, n_sub, n_leT, n_leF, n_ltT, n_ltF, n_eqT, n_eqF, n_cl, n_vp, fa_andq, fa_orq, fa_xorq, n_shl, n_shr, n_t1, n_t0, n_div, n_m1, not_true_eq_false, Bool.false_eq_true, false_and, Bool.not_false, Bool.not_true, Bool.and_true, Bool.and_false, Bool.false_and, Bool.true_and, true_and, and_true, true_or, or_true, not_false_eq_true, Option.some.injEq, exists_eq_left', forall_eq, ↓reduceIte, Nat.add_zero, Nat.zero_add, and_self]
        · have d0 : dbo sg p (oW sg w (5 + j)) = 1 := if_neg c3
          rw [c1] at u4j c2
          simp (disch := omega) only [l_X8_twiceOf_27, h.s, q1, q3, q4, soN, forall_eq', u1, u2, u3, u4j, o1, o2, o3, o40, s1, s2, s3, s4j, fo_s, c1, c2, d0, l_0, l_1, l_2, l_3, l_4, l_5, l_6, l_7, l_8, l_9, l_10, l_20, l_30, l_31, l_34, l_40, l_65, l_100, l_255, l_11, l_12, l_24, l_600, l_689, l_999, l_120, l_32, nI_add, pk_mul, n_sub, n_leT, n_leF, n_ltT, n_ltF, n_eqT, n_eqF, n_cl, n_vp, fa_andq, fa_orq, fa_xorq, n_shl, n_shr, n_t1, n_t0, n_div, n_m1, not_true_eq_false, Bool.false_eq_true, false_and, Bool.not_false, Bool.not_true, Bool.and_true, Bool.and_false, Bool.false_and, Bool.true_and, true_and, and_true, true_or, or_true, not_false_eq_true, Option.some.injEq, exists_eq_left', forall_eq, ↓reduceIte, Nat.add_zero, Nat.zero_add, and_self]
      · have c2 : ¬ (2 ^ p).testBit (oS pl s (4 + 6 * w + j)) = true := fun z => c1 ((tb_2p p _).mp z)
        simp (disch := omega) only [l_X8_twiceOf_27, h.s, q1, q3, q4, soN, forall_eq', u1, u2, u3, u4j, fo_s, c1, c2, l_0, l_1, l_2, l_3, l_4, l_5, l_6, l_7, l_8, l_9, l_10, l_20, l_30, l_31, l_34, l_40, l_65, l_100, l_255, l_11, l_12, l_24, l_600, l_689, l_999, l_120, l_32, nI_add, pk_mul, n_sub, n_leT, n_leF, n_ltT, n_ltF, n_eqT, n_eqF, n_cl, n_vp, fa_andq, fa_orq, fa_xorq, n_shl, n_shr, n_t1, n_t0, n_div, n_m1, not_true_eq_false, Bool.false_eq_true, false_and, Bool.not_false, Bool.not_true, Bool.and_true, Bool.and_false, Bool.false_and, Bool.true_and, true_and, and_true, true_or, or_true, not_false_eq_true, Option.some.injEq, exists_eq_left', forall_eq, ↓reduceIte, Nat.add_zero, Nat.zero_add, and_self]
  · have u1 := (q5 w (by omega)).2 (fun z => t z.2)
    refine lpE (fun n (z : Int32 × Int32) => l_X8_twiceOf_27 P K n M e (nI p) z.1 (nI s) (nI w) z.2) (fun j => (nI a, nI j)) 0 (fun _ h => h.elim) (fun _ => ?_) (fun n j hj => absurd hj (Nat.not_lt_zero _))
    simp (disch := omega) only [l_X8_twiceOf_27, dW, t, h.s, q1, q3, q4, onN u1, l_0, l_1, l_2, l_3, l_4, l_5, l_6, l_7, l_8, l_9, l_10, l_20, l_30, l_31, l_34, l_40, l_65, l_100, l_255, l_11, l_12, l_24, l_600, l_689, l_999, l_120, l_32, nI_add, pk_mul, n_sub, n_leT, n_leF, n_ltT, n_ltF, n_eqT, n_eqF, n_cl, n_vp, fa_andq, fa_orq, fa_xorq, n_shl, n_shr, n_t1, n_t0, n_div, n_m1, not_true_eq_false, Bool.false_eq_true, false_and, Bool.not_false, Bool.not_true, Bool.and_true, Bool.and_false, Bool.false_and, Bool.true_and, true_and, and_true, true_or, or_true, not_false_eq_true, Option.some.injEq, exists_eq_left', forall_eq, ↓reduceIte, Nat.add_zero, Nat.zero_add, and_self]
theorem e_X8_twiceOf_15 (hs : SB sg) (hb : PB sg pl) (h : LSt e sg M) (hd : LDy e sg pl M) {p s a : Nat} (hp : p < sg 2) (hsn : s < pl 0) {P : Int32 → Mm → Prop} {K : Mm → Nat → Int32 → Int32 → Int32 → Prop} : (∃ n, l_X8_twiceOf_15 P K n M e (nI p) (nI a) (nI s) (0 : Int32)) ↔ K M e (nI p) (nI (fo (dW sg pl s (2 ^ p)) (sg 3) a)) (nI s) := by
  have b9 := hs.b
  have n9 := hb.n
  rw [l_0]
  refine lpE (fun n (z : Int32 × Int32) => l_X8_twiceOf_15 P K n M e (nI p) z.1 (nI s) z.2) (fun k => (nI (fo (dW sg pl s (2 ^ p)) k a), nI k)) (sg 3) (fun _ h => h.elim) (fun _ => ?_) (fun n k hk => ?_)
  · simp (disch := omega) only [l_X8_twiceOf_15, h.s, h.n, l_0, l_1, l_2, l_3, l_4, l_5, l_6, l_7, l_8, l_9, l_10, l_20, l_30, l_31, l_34, l_40, l_65, l_100, l_255, l_11, l_12, l_24, l_600, l_689, l_999, l_120, l_32, nI_add, pk_mul, n_sub, n_leT, n_leF, n_ltT, n_ltF, n_eqT, n_eqF, n_cl, n_vp, fa_andq, fa_orq, fa_xorq, n_shl, n_shr, n_t1, n_t0, n_div, n_m1, not_true_eq_false, Bool.false_eq_true, false_and, Bool.not_false, Bool.not_true, Bool.and_true, Bool.and_false, Bool.false_and, Bool.true_and, true_and, and_true, true_or, or_true, not_false_eq_true, Option.some.injEq, exists_eq_left', forall_eq, ↓reduceIte, Nat.add_zero, Nat.zero_add, and_self]
  · have g := e_X8_twiceOf_27 hs hb h hd hp hsn hk (a := fo (dW sg pl s (2 ^ p)) k a) (P := P) (K := fun M16 x0_16 x1_16 x2_16 x3_16 x4_16 => l_X8_twiceOf_15 P K n M16 x0_16 x1_16 x2_16 x3_16 (x4_16 + (1 : Int32)))
    simp (disch := omega) only [l_0, l_1, l_2, l_3, l_4, l_5, l_6, l_7, l_8, l_9, l_10, l_20, l_30, l_31, l_34, l_40, l_65, l_100, l_255, l_11, l_12, l_24, l_600, l_689, l_999, l_120, l_32, nI_add, pk_mul, n_sub, n_leT, n_leF, n_ltT, n_ltF, n_eqT, n_eqF, n_cl, n_vp, fa_andq, fa_orq, fa_xorq, n_shl, n_shr, n_t1, n_t0, n_div, n_m1, not_true_eq_false, Bool.false_eq_true, false_and, Bool.not_false, Bool.not_true, Bool.and_true, Bool.and_false, Bool.false_and, Bool.true_and, true_and, and_true, true_or, or_true, not_false_eq_true, Option.some.injEq, exists_eq_left', forall_eq, ↓reduceIte, Nat.add_zero, Nat.zero_add, and_self] at g
    simp (disch := omega) only [l_X8_twiceOf_15, h.s, h.n, fo_s, l_0, l_1, l_2, l_3, l_4, l_5, l_6, l_7, l_8, l_9, l_10, l_20, l_30, l_31, l_34, l_40, l_65, l_100, l_255, l_11, l_12, l_24, l_600, l_689, l_999, l_120, l_32, nI_add, pk_mul, n_sub, n_leT, n_leF, n_ltT, n_ltF, n_eqT, n_eqF, n_cl, n_vp, fa_andq, fa_orq, fa_xorq, n_shl, n_shr, n_t1, n_t0, n_div, n_m1, not_true_eq_false, Bool.false_eq_true, false_and, Bool.not_false, Bool.not_true, Bool.and_true, Bool.and_false, Bool.false_and, Bool.true_and, true_and, and_true, true_or, or_true, not_false_eq_true, Option.some.injEq, exists_eq_left', forall_eq, ↓reduceIte, Nat.add_zero, Nat.zero_add, and_self]
    exact g
theorem e_X8_twiceOf (hs : SB sg) (hb : PB sg pl) (h : LSt e sg M) (hd : LDy e sg pl M) {p : Nat} (hp : p < sg 2) (P : Int32 → Mm → Prop) : w_X8_twiceOf M e (nI p) P ↔ P (nI (dOf sg pl p)) M := by
  have n9 := hb.n
  have add : ∀ s a, fo (dW sg pl s (2 ^ p)) (sg 3) a = a + dIn sg pl s (2 ^ p) := fun s a => dW_add sg pl s (2 ^ p) (sg 3) a
  unfold w_X8_twiceOf
  refine lpE (fun n (z : Int32 × Int32) => l_X8_twiceOf_4 P (fun M18 x2_18 => P x2_18 M18) n M e (nI p) z.1 z.2) (fun k => (nI (fo (fun s n => n + dIn sg pl s (2 ^ p)) k 0), nI k)) (pl 0) (fun _ h => h.elim) (fun _ => ?_) (fun n k hk => ?_)
  · simp (disch := omega) only [l_X8_twiceOf_4, dOf, h.s, hd.n, l_0, l_1, l_2, l_3, l_4, l_5, l_6, l_7, l_8, l_9, l_10, l_20, l_30, l_31, l_34, l_40, l_65, l_100, l_255, l_11, l_12, l_24, l_600, l_689, l_999, l_120, l_32, nI_add, pk_mul, n_sub, n_leT, n_leF, n_ltT, n_ltF, n_eqT, n_eqF, n_cl, n_vp, fa_andq, fa_orq, fa_xorq, n_shl, n_shr, n_t1, n_t0, n_div, n_m1, not_true_eq_false, Bool.false_eq_true, false_and, Bool.not_false, Bool.not_true, Bool.and_true, Bool.and_false, Bool.false_and, Bool.true_and, true_and, and_true, true_or, or_true, not_false_eq_true, Option.some.injEq, exists_eq_left', forall_eq, ↓reduceIte, Nat.add_zero, Nat.zero_add, and_self]
  · have g := e_X8_twiceOf_15 hs hb h hd hp hk (a := fo (fun s n => n + dIn sg pl s (2 ^ p)) k 0) (P := P) (K := fun M17 x0_17 x1_17 x2_17 x3_17 => l_X8_twiceOf_4 P (fun M18 x2_18 => P x2_18 M18) n M17 x0_17 x1_17 x2_17 (x3_17 + (1 : Int32)))
    rw [add] at g
    simp (disch := omega) only [l_0, l_1, l_2, l_3, l_4, l_5, l_6, l_7, l_8, l_9, l_10, l_20, l_30, l_31, l_34, l_40, l_65, l_100, l_255, l_11, l_12, l_24, l_600, l_689, l_999, l_120, l_32, nI_add, pk_mul, n_sub, n_leT, n_leF, n_ltT, n_ltF, n_eqT, n_eqF, n_cl, n_vp, fa_andq, fa_orq, fa_xorq, n_shl, n_shr, n_t1, n_t0, n_div, n_m1, not_true_eq_false, Bool.false_eq_true, false_and, Bool.not_false, Bool.not_true, Bool.and_true, Bool.and_false, Bool.false_and, Bool.true_and, true_and, and_true, true_or, or_true, not_false_eq_true, Option.some.injEq, exists_eq_left', forall_eq, ↓reduceIte, Nat.add_zero, Nat.zero_add, and_self] at g
    simp (disch := omega) only [l_X8_twiceOf_4, h.s, hd.n, fo_s, l_0, l_1, l_2, l_3, l_4, l_5, l_6, l_7, l_8, l_9, l_10, l_20, l_30, l_31, l_34, l_40, l_65, l_100, l_255, l_11, l_12, l_24, l_600, l_689, l_999, l_120, l_32, nI_add, pk_mul, n_sub, n_leT, n_leF, n_ltT, n_ltF, n_eqT, n_eqF, n_cl, n_vp, fa_andq, fa_orq, fa_xorq, n_shl, n_shr, n_t1, n_t0, n_div, n_m1, not_true_eq_false, Bool.false_eq_true, false_and, Bool.not_false, Bool.not_true, Bool.and_true, Bool.and_false, Bool.false_and, Bool.true_and, true_and, and_true, true_or, or_true, not_false_eq_true, Option.some.injEq, exists_eq_left', forall_eq, ↓reduceIte, Nat.add_zero, Nat.zero_add, and_self]
    exact g
/-- the law's first and last day -/
def lfl (pl : Nat → Nat) (w n : Nat) : Nat × Nat := if (fl pl w n).1 = 4294967295 then (99, 4294967295) else fl pl w n
theorem e_X8_rent (hs : SB sg) (hb : PG sg pl) (h : LSt e sg M) (hd : LDy e sg pl M) {w : Nat} (hw : w < sg 3) (P : Int32 → Mm → Prop) : w_X8_rent M e (nI w) P ↔ P (rentI sg pl w) M := by
  have b9 := hs.b
  have n9 := hb.1.n
  obtain ⟨a0, r1, -, ⟨r2, r3⟩, r4⟩ := (h.w hw).1
  have r43 : zI M a0 3 = nI (oW sg w 3) := r4 3 (by omega)
  unfold w_X8_rent
  refine lpE (fun n (z : Int32 × Int32 × Int32) => l_X8_rent_8 P (fun M8 x0_8 x1_8 x2_8 x3_8 => (if 0 ≤ x3_8 then (zk M8 x0_8 = 8 ∧ ∃ a9, zR M8 x0_8 12 = some a9 ∧ (zk M8 a9 = 14 ∧ vp_in x1_8 (zl M8 a9) ∧ ∃ a10, zR M8 a9 x1_8.toNatClampNeg = some a10 ∧ zk M8 a10 = 10 ∧ vp_in (3 : Int32) (zl M8 a10) ∧ P (((x3_8 - x2_8) + (1 : Int32)) * (zI M8 a10 (3 : Int32).toNatClampNeg)) M8)) else P (0 : Int32) M8)) n M e (nI w) z.1 z.2.1 z.2.2) (fun k => (nI (lfl pl w k).1, nI (lfl pl w k).2, nI k)) (pl 0) (fun _ h => h.elim) (fun _ => ?_) (fun n k hk => ?_)
  · rcases fl_lt hs hb.1 w (pl 0) (Nat.le_refl _) with i | i
    · have l1 : lfl pl w (pl 0) = fl pl w (pl 0) := if_neg (by omega)
      have rI : rentI sg pl w = (nI (fl pl w (pl 0)).2 - nI (fl pl w (pl 0)).1 + nI 1) * nI (oW sg w 3) := if_neg (by omega)
      rw [rI]
      simp (disch := omega) only [l_X8_rent_8, h.s, hd.n, l1, r1, r2, r3, r43, l_0, l_1, l_3, n_leT, n_vp, n_cl, not_true_eq_false, Bool.false_eq_true, false_and, Bool.not_false, Bool.not_true, Bool.and_true, Bool.and_false, Bool.false_and, Bool.true_and, true_and, and_true, true_or, or_true, not_false_eq_true, Option.some.injEq, exists_eq_left', forall_eq, ↓reduceIte, Nat.add_zero, Nat.zero_add, and_self]
    · have l1 : lfl pl w (pl 0) = (99, 4294967295) := if_pos (by rw [i])
      have rI : rentI sg pl w = nI 0 := if_pos (by rw [i])
      rw [rI]
      have ng : ¬ nI 0 ≤ nI 4294967295 := by decide
      simp (disch := omega) only [l_X8_rent_8, h.s, hd.n, l1, ng, l_0, l_1, l_2, l_3, l_4, l_5, l_6, l_7, l_8, l_9, l_10, l_20, l_30, l_31, l_34, l_40, l_65, l_100, l_255, l_11, l_12, l_24, l_600, l_689, l_999, l_120, l_32, nI_add, pk_mul, n_sub, n_leT, n_leF, n_ltT, n_ltF, n_eqT, n_eqF, n_cl, n_vp, fa_andq, fa_orq, fa_xorq, n_shl, n_shr, n_t1, n_t0, n_div, n_m1, not_true_eq_false, Bool.false_eq_true, false_and, Bool.not_false, Bool.not_true, Bool.and_true, Bool.and_false, Bool.false_and, Bool.true_and, true_and, and_true, true_or, or_true, not_false_eq_true, Option.some.injEq, exists_eq_left', forall_eq, ↓reduceIte, Nat.add_zero, Nat.zero_add, and_self]
  · have d := hb.1.s hs hk
    obtain ⟨a, s1, -, ⟨s2, s3⟩, s4⟩ := hd.s hk
    have s40 : zI M a 0 = nI (oS pl k 0) := s4 0 (by omega)
    have s43 : zI M a 3 = nI (oS pl k 3) := s4 3 (by omega)
    have f := fl_ord hb.2 w k k (Nat.le_refl _) hk
    have f2 := fl_lt hs hb.1 w k (by omega)
    by_cases c : (oS pl k 3).testBit w = true
    · have e1 : lfl pl w (k + 1) = (if (fl pl w k).1 = 4294967295 then oS pl k 0 / 3 else (fl pl w k).1, oS pl k 0 / 3) := by
        unfold lfl
        rw [fl_s, if_pos c]
        refine if_neg ?_
        show ¬ (if (fl pl w k).1 = 4294967295 then oS pl k 0 / 3 else (fl pl w k).1) = 4294967295
        split <;> omega
      by_cases c2 : (fl pl w k).1 = 4294967295
      · have l1 : lfl pl w k = (99, 4294967295) := if_pos c2
        rw [if_pos c2] at e1
        have ng : nI 4294967295 < nI (oS pl k 0 / 3) := by
          rw [lt_iff32, nI_toInt (show oS pl k 0 / 3 < 2 ^ 31 by omega)]
          have : (nI 4294967295).toInt = -1 := rfl
          omega
        simp (disch := omega) only [l_X8_rent_8, h.s, hd.n, l1, e1, s1, s2, s3, s40, s43, c, ng, l_0, l_1, l_2, l_3, l_4, l_5, l_6, l_7, l_8, l_9, l_10, l_20, l_30, l_31, l_34, l_40, l_65, l_100, l_255, l_11, l_12, l_24, l_600, l_689, l_999, l_120, l_32, nI_add, pk_mul, n_sub, n_leT, n_leF, n_ltT, n_ltF, n_eqT, n_eqF, n_cl, n_vp, fa_andq, fa_orq, fa_xorq, n_shl, n_shr, n_t1, n_t0, n_div, n_m1, not_true_eq_false, Bool.false_eq_true, false_and, Bool.not_false, Bool.not_true, Bool.and_true, Bool.and_false, Bool.false_and, Bool.true_and, true_and, and_true, true_or, or_true, not_false_eq_true, Option.some.injEq, exists_eq_left', forall_eq, ↓reduceIte, Nat.add_zero, Nat.zero_add, and_self]
      · have l1 : lfl pl w k = fl pl w k := if_neg c2
        rw [if_neg c2] at e1
        have f3 : (fl pl w k).1 ≤ oS pl k 0 / 3 ∧ (fl pl w k).2 ≤ oS pl k 0 / 3 := by
          rcases f with f | f
          · exact absurd (by rw [f]) c2
          · exact f
        have f4 : (fl pl w k).1 < 30 ∧ (fl pl w k).2 < 30 := by
          rcases f2 with f | f
          · exact f
          · exact absurd (by rw [f]) c2
        by_cases c3 : (fl pl w k).2 < oS pl k 0 / 3
        · simp (disch := omega) only [l_X8_rent_8, h.s, hd.n, l1, e1, s1, s2, s3, s40, s43, c, c3, l_0, l_1, l_2, l_3, l_4, l_5, l_6, l_7, l_8, l_9, l_10, l_20, l_30, l_31, l_34, l_40, l_65, l_100, l_255, l_11, l_12, l_24, l_600, l_689, l_999, l_120, l_32, nI_add, pk_mul, n_sub, n_leT, n_leF, n_ltT, n_ltF, n_eqT, n_eqF, n_cl, n_vp, fa_andq, fa_orq, fa_xorq, n_shl, n_shr, n_t1, n_t0, n_div, n_m1, not_true_eq_false, Bool.false_eq_true, false_and, Bool.not_false, Bool.not_true, Bool.and_true, Bool.and_false, Bool.false_and, Bool.true_and, true_and, and_true, true_or, or_true, not_false_eq_true, Option.some.injEq, exists_eq_left', forall_eq, ↓reduceIte, Nat.add_zero, Nat.zero_add, and_self]
        · have c4 : (fl pl w k).2 = oS pl k 0 / 3 := by omega
          simp (disch := omega) only [l_X8_rent_8, h.s, hd.n, l1, e1, s1, s2, s3, s40, s43, c, c4, l_0, l_1, l_2, l_3, l_4, l_5, l_6, l_7, l_8, l_9, l_10, l_20, l_30, l_31, l_34, l_40, l_65, l_100, l_255, l_11, l_12, l_24, l_600, l_689, l_999, l_120, l_32, nI_add, pk_mul, n_sub, n_leT, n_leF, n_ltT, n_ltF, n_eqT, n_eqF, n_cl, n_vp, fa_andq, fa_orq, fa_xorq, n_shl, n_shr, n_t1, n_t0, n_div, n_m1, not_true_eq_false, Bool.false_eq_true, false_and, Bool.not_false, Bool.not_true, Bool.and_true, Bool.and_false, Bool.false_and, Bool.true_and, true_and, and_true, true_or, or_true, not_false_eq_true, Option.some.injEq, exists_eq_left', forall_eq, ↓reduceIte, Nat.add_zero, Nat.zero_add, and_self]
    · have e1 : lfl pl w (k + 1) = lfl pl w k := by
        unfold lfl
        rw [fl_s, if_neg c]
      simp (disch := omega) only [l_X8_rent_8, h.s, hd.n, e1, s1, s2, s3, s43, c, l_0, l_1, l_2, l_3, l_4, l_5, l_6, l_7, l_8, l_9, l_10, l_20, l_30, l_31, l_34, l_40, l_65, l_100, l_255, l_11, l_12, l_24, l_600, l_689, l_999, l_120, l_32, nI_add, pk_mul, n_sub, n_leT, n_leF, n_ltT, n_ltF, n_eqT, n_eqF, n_cl, n_vp, fa_andq, fa_orq, fa_xorq, n_shl, n_shr, n_t1, n_t0, n_div, n_m1, not_true_eq_false, Bool.false_eq_true, false_and, Bool.not_false, Bool.not_true, Bool.and_true, Bool.and_false, Bool.false_and, Bool.true_and, true_and, and_true, true_or, or_true, not_false_eq_true, Option.some.injEq, exists_eq_left', forall_eq, ↓reduceIte, Nat.add_zero, Nat.zero_add, and_self]
/-- the law's sum over the players -/
def cp (sg pl : Nat → Nat) (k p : Nat) (a : Int32) : Int32 := if k = 0 then a else if k = 1 then a + otI sg pl p else if k = 2 then a + nI (dOf sg pl p) * nI (sg 5) else a + otI sg pl p + nI (dOf sg pl p) * nI (sg 5)
theorem cp_sum (sg pl : Nat → Nat) (k : Nat) (a : Int32) : ∀ n, fo (cp sg pl k) n a = if k = 0 then a else if k = 1 then a + sI32 (otI sg pl) n else if k = 2 then a + nI (sg 5) * nI (su (dOf sg pl) n) else a + sI32 (otI sg pl) n + nI (sg 5) * nI (su (dOf sg pl) n)
  | 0 => by
    have z : nI (sg 5) * nI (su (dOf sg pl) 0) = nI 0 := by show nI (sg 5) * nI 0 = nI 0; rw [pk_mul, Nat.mul_zero]
    have z2 : sI32 (otI sg pl) 0 = nI 0 := rfl
    have z3 : ∀ x : Int32, x + nI 0 = x := fun x => Int32.add_zero x
    simp only [z, z2, z3]
    show a = _
    split
    · rfl
    · split
      · rfl
      · split <;> rfl
  | n + 1 => by
    rw [fo_s, cp_sum sg pl k a n, sI32_s, su_s, ← nI_add, Int32.mul_add]
    unfold cp
    rw [Int32.mul_comm (nI (dOf sg pl n)) (nI (sg 5))]
    by_cases k0 : k = 0
    · rw [if_pos k0, if_pos k0, if_pos k0]
    · rw [if_neg k0, if_neg k0, if_neg k0]
      by_cases k1 : k = 1
      · rw [if_pos k1, if_pos k1, if_pos k1, Int32.add_assoc]
      · rw [if_neg k1, if_neg k1, if_neg k1]
        by_cases k2 : k = 2
        · rw [if_pos k2, if_pos k2, if_pos k2, Int32.add_assoc]
        · rw [if_neg k2, if_neg k2, if_neg k2]
          ac_rfl
theorem e_X8_costs (hs : SB sg) (hb : PG sg pl) (h : LSt e sg M) (hd : LDy e sg pl M) {k : Nat} (hk : k < 4) (P : Int32 → Mm → Prop) : w_X8_costs M e (nI k) P ↔ P (costI sg pl k) M := by
  have b9 := hs.b
  have n9 := hb.1.n
  have ev : costI sg pl k = fo (cp sg pl k) (sg 2) (if k % 3 = 0 then sI32 (rentI sg pl) (sg 3) else nI 0) := by
    rw [cp_sum, dOf_all hs hb.1]
    have z3 : ∀ x : Int32, nI 0 + x = x := fun x => Int32.zero_add x
    unfold costI
    have k4 : k = 0 ∨ k = 1 ∨ k = 2 ∨ k = 3 := by omega
    rcases k4 with q | q | q | q <;> subst q
    · rfl
    · exact (z3 _).symm
    · exact (z3 _).symm
    · rfl
  have two : ∀ a : Int32, (∃ n34, l_X8_costs_34 P (fun M17 x2_17 => P x2_17 M17) n34 M e (nI k) a (0 : Int32)) ↔ P (fo (cp sg pl k) (sg 2) a) M := fun a => by
    rw [l_0]
    refine lpE (fun n (z : Int32 × Int32) => l_X8_costs_34 P (fun M17 x2_17 => P x2_17 M17) n M e (nI k) z.1 z.2) (fun p => (fo (cp sg pl k) p a, nI p)) (sg 2) (fun _ h => h.elim) (fun _ => ?_) (fun n p hp => ?_)
    · simp (disch := omega) only [l_X8_costs_34, h.s, h.n, l_0, l_1, l_2, l_3, l_4, l_5, l_6, l_7, l_8, l_9, l_10, l_20, l_30, l_31, l_34, l_40, l_65, l_100, l_255, l_11, l_12, l_24, l_600, l_689, l_999, l_120, l_32, nI_add, pk_mul, n_sub, n_leT, n_leF, n_ltT, n_ltF, n_eqT, n_eqF, n_cl, n_vp, fa_andq, fa_orq, fa_xorq, n_shl, n_shr, n_t1, n_t0, n_div, n_m1, not_true_eq_false, Bool.false_eq_true, false_and, Bool.not_false, Bool.not_true, Bool.and_true, Bool.and_false, Bool.false_and, Bool.true_and, true_and, and_true, true_or, or_true, not_false_eq_true, Option.some.injEq, exists_eq_left', forall_eq, ↓reduceIte, Nat.add_zero, Nat.zero_add, and_self]
    · have hk9 := (h.p hp).1
      have hc9 := hd.k hp
      have ot : (if nI 0 < nI (svc sg pl p) - nI (pl (1 + p)) then nI (svc sg pl p) - nI (pl (1 + p)) else nI 0) * nI (oP sg p 0) = otI sg pl p := by
        show _ = if nI 0 < bey sg pl p then bey sg pl p * nI (oP sg p 0) else nI 0
        unfold bey
        by_cases c : nI 0 < nI (svc sg pl p) - nI (pl (1 + p))
        · rw [if_pos c, if_pos c]
        · rw [if_neg c, if_neg c, pk_mul, Nat.zero_mul]
      have k4 : k = 0 ∨ k = 1 ∨ k = 2 ∨ k = 3 := by omega
      rcases k4 with q | q | q | q <;> subst q
      · simp (disch := omega) only [l_X8_costs_34, h.s, h.n, fo_s, cp, l_0, l_1, l_2, l_3, l_4, l_5, l_6, l_7, l_8, l_9, l_10, l_20, l_30, l_31, l_34, l_40, l_65, l_100, l_255, l_11, l_12, l_24, l_600, l_689, l_999, l_120, l_32, nI_add, pk_mul, n_sub, n_leT, n_leF, n_ltT, n_ltF, n_eqT, n_eqF, n_cl, n_vp, fa_andq, fa_orq, fa_xorq, n_shl, n_shr, n_t1, n_t0, n_div, n_m1, not_true_eq_false, Bool.false_eq_true, false_and, Bool.not_false, Bool.not_true, Bool.and_true, Bool.and_false, Bool.false_and, Bool.true_and, true_and, and_true, true_or, or_true, not_false_eq_true, Option.some.injEq, exists_eq_left', forall_eq, ↓reduceIte, Nat.add_zero, Nat.zero_add, and_self]
      · have e1 : cp sg pl 1 p (fo (cp sg pl 1) p a) = fo (cp sg pl 1) p a + otI sg pl p := rfl
        rw [fo_s, e1, ← ot]
        simp (disch := omega) only [l_X8_costs_34, h.s, h.n, e_X8_count hs hb.1 h hd, hk9.1, hc9, l_0, l_1, l_3, nI_add, n_leT, n_leF, n_eqT, n_eqF, n_cl, n_vp, not_true_eq_false, Bool.false_eq_true, false_and, Bool.not_false, Bool.not_true, Bool.and_true, Bool.and_false, Bool.false_and, Bool.true_and, true_and, and_true, true_or, or_true, not_false_eq_true, Option.some.injEq, exists_eq_left', forall_eq, ↓reduceIte, Nat.add_zero, Nat.zero_add, and_self]
      · have e1 : cp sg pl 2 p (fo (cp sg pl 2) p a) = fo (cp sg pl 2) p a + nI (dOf sg pl p) * nI (sg 5) := rfl
        rw [fo_s, e1]
        simp (disch := omega) only [l_X8_costs_34, h.s, h.n, e_X8_twiceOf hs hb.1 h hd, l_0, l_1, l_3, nI_add, n_leT, n_leF, n_eqT, n_eqF, n_cl, n_vp, not_true_eq_false, Bool.false_eq_true, false_and, Bool.not_false, Bool.not_true, Bool.and_true, Bool.and_false, Bool.false_and, Bool.true_and, true_and, and_true, true_or, or_true, not_false_eq_true, Option.some.injEq, exists_eq_left', forall_eq, ↓reduceIte, Nat.add_zero, Nat.zero_add, and_self]
      · have e1 : cp sg pl 3 p (fo (cp sg pl 3) p a) = fo (cp sg pl 3) p a + otI sg pl p + nI (dOf sg pl p) * nI (sg 5) := rfl
        rw [fo_s, e1, ← ot]
        simp (disch := omega) only [l_X8_costs_34, h.s, h.n, e_X8_count hs hb.1 h hd, e_X8_twiceOf hs hb.1 h hd, hk9.1, hc9, l_0, l_1, l_3, nI_add, n_leT, n_leF, n_eqT, n_eqF, n_cl, n_vp, not_true_eq_false, Bool.false_eq_true, false_and, Bool.not_false, Bool.not_true, Bool.and_true, Bool.and_false, Bool.false_and, Bool.true_and, true_and, and_true, true_or, or_true, not_false_eq_true, Option.some.injEq, exists_eq_left', forall_eq, ↓reduceIte, Nat.add_zero, Nat.zero_add, and_self]
  have e3 : nI k - nI k / nI 3 * nI 3 = nI (k % 3) := by
    have k4 : k = 0 ∨ k = 1 ∨ k = 2 ∨ k = 3 := by omega
    rcases k4 with q | q | q | q <;> subst q <;> decide
  unfold w_X8_costs
  rw [ev, ← two]
  by_cases c : k % 3 = 0
  · rw [if_pos c]
    refine lpE (fun n (z : Int32 × Int32) => l_X8_costs_4 P (fun M3 x0_3 x1_3 x2_3 => (∃ n34, l_X8_costs_34 P (fun M17 x2_17 => P x2_17 M17) n34 M3 x0_3 x1_3 x2_3 (0 : Int32))) n M e (nI k) z.1 z.2) (fun w => (sI32 (rentI sg pl) w, nI w)) (sg 3) (fun _ h => h.elim) (fun _ => ?_) (fun n w hw => ?_)
    · simp (disch := omega) only [l_X8_costs_4, h.s, h.n, l_0, l_1, l_2, l_3, l_4, l_5, l_6, l_7, l_8, l_9, l_10, l_20, l_30, l_31, l_34, l_40, l_65, l_100, l_255, l_11, l_12, l_24, l_600, l_689, l_999, l_120, l_32, nI_add, pk_mul, n_sub, n_leT, n_leF, n_ltT, n_ltF, n_eqT, n_eqF, n_cl, n_vp, fa_andq, fa_orq, fa_xorq, n_shl, n_shr, n_t1, n_t0, n_div, n_m1, not_true_eq_false, Bool.false_eq_true, false_and, Bool.not_false, Bool.not_true, Bool.and_true, Bool.and_false, Bool.false_and, Bool.true_and, true_and, and_true, true_or, or_true, not_false_eq_true, Option.some.injEq, exists_eq_left', forall_eq, ↓reduceIte, Nat.add_zero, Nat.zero_add, and_self]
    · simp (disch := omega) only [l_X8_costs_4, h.s, h.n, l_0, l_1, l_3, e3, c, e_X8_rent hs hb h hd, sI32_s, nI_add, n_leF, n_eqT, n_eqF, not_true_eq_false, Bool.false_eq_true, false_and, Bool.not_false, Bool.not_true, Bool.and_true, Bool.and_false, Bool.false_and, Bool.true_and, true_and, and_true, true_or, or_true, not_false_eq_true, Option.some.injEq, exists_eq_left', forall_eq, ↓reduceIte, Nat.add_zero, Nat.zero_add, and_self]
  · rw [if_neg c]
    refine lpE (fun n (z : Int32 × Int32) => l_X8_costs_4 P (fun M3 x0_3 x1_3 x2_3 => (∃ n34, l_X8_costs_34 P (fun M17 x2_17 => P x2_17 M17) n34 M3 x0_3 x1_3 x2_3 (0 : Int32))) n M e (nI k) z.1 z.2) (fun w => (nI 0, nI w)) 0 (fun _ h => h.elim) (fun _ => ?_) (fun n w hw => absurd hw (Nat.not_lt_zero _))
    by_cases c0 : sg 3 ≤ 0
    · simp (disch := omega) only [l_X8_costs_4, h.s, h.n, l_0, n_leT, not_true_eq_false, Bool.false_eq_true, false_and, Bool.not_false, Bool.not_true, Bool.and_true, Bool.and_false, Bool.false_and, Bool.true_and, true_and, and_true, true_or, or_true, not_false_eq_true, Option.some.injEq, exists_eq_left', forall_eq, ↓reduceIte, Nat.add_zero, Nat.zero_add, and_self]
    · simp (disch := omega) only [l_X8_costs_4, h.s, h.n, l_0, l_1, l_3, e3, c, n_leF, n_eqF, not_true_eq_false, Bool.false_eq_true, false_and, Bool.not_false, Bool.not_true, Bool.and_true, Bool.and_false, Bool.false_and, Bool.true_and, true_and, and_true, true_or, or_true, not_false_eq_true, Option.some.injEq, exists_eq_left', forall_eq, ↓reduceIte, Nat.add_zero, Nat.zero_add, and_self]
end LD
