/-! THE LAW'S SERVICES: rehearsed, taken off, put in -/
theorem plb_no {sg pl : Nat → Nat} (hb : PB sg pl) : plb pl 4294967295 = pl := by
  have n := hb.n
  unfold plb
  rw [if_neg (by omega)]
section LV
variable {e : Nat} {sg pl : Nat → Nat} {M : Mm}
theorem e_X8_isRehearsed_12 (hs : SB sg) (hb : PB sg pl) (h : LSt e sg M) (hd : LDy e sg pl M) {s : Nat} (hsn : s < pl 0) {P : Int32 → Mm → Prop} {K73 : Mm → Prop} {K81 : Mm → Nat → Int32 → Prop} :
    (∃ n, l_X8_isRehearsed_12 P K73 K81 n M e (nI s) (0 : Int32)) ↔ (if oS pl s 2 = 1 ∧ ¬ ready sg pl (oS pl s 3) (oS pl s 0) = true then K73 M else K81 M e (nI s)) := by
  have b9 := hs.b
  have n9 := hb.n
  have d := hb.s hs hsn
  obtain ⟨a, r1, -, ⟨r2, r3⟩, r4⟩ := hd.s hsn
  have r40 := r4 0 (by omega)
  have r42 := r4 2 (by omega)
  have r43 := r4 3 (by omega)
  have e0 : plb pl 4294967295 = pl := plb_no hb
  rw [l_0]
  by_cases c0 : oS pl s 2 = 1
  · have g : (if oS pl s 2 = 1 ∧ ¬ ready sg pl (oS pl s 3) (oS pl s 0) = true then K73 M else K81 M e (nI s)) ↔ (if ready sg pl (oS pl s 3) (oS pl s 0) = true then K81 M e (nI s) else K73 M) := by
      by_cases z : ready sg pl (oS pl s 3) (oS pl s 0) = true
      · rw [if_pos z, if_neg (fun y => y.2 z)]
      · rw [if_neg z, if_pos ⟨c0, z⟩]
    rw [g]
    refine lpA (fun n (z : Int32) => l_X8_isRehearsed_12 P K73 K81 n M e (nI s) z) nI (sg 3) (fun w => !decide ((oS pl s 3).testBit w = true ∧ swt pl w 0 (oS pl s 0) < oW sg w 0)) (Q := fun z => if z = true then K81 M e (nI s) else K73 M) (fun _ h => h.elim) (fun _ => ?_) (fun n w hw q => ?_) (fun n w hw q => ?_)
    · simp (disch := omega) only [l_X8_isRehearsed_12, h.s, h.n, l_0, l_1, l_2, l_3, l_4, l_5, l_6, l_7, l_8, l_9, l_10, l_20, l_30, l_31, l_34, l_40, l_65, l_100, l_255, l_11, l_12, l_24, l_600, l_689, l_999, l_120, l_32, nI_add, pk_mul, n_sub, n_leT, n_leF, n_ltT, n_ltF, n_eqT, n_eqF, n_cl, n_vp, fa_andq, fa_orq, fa_xorq, n_shl, n_shr, n_t1, n_t0, n_div, n_m1, not_true_eq_false, Bool.false_eq_true, false_and, Bool.not_false, Bool.not_true, Bool.and_true, Bool.and_false, Bool.false_and, Bool.true_and, true_and, and_true, true_or, or_true, not_false_eq_true, Option.some.injEq, exists_eq_left', forall_eq, ↓reduceIte, Nat.add_zero, Nat.zero_add, and_self]
    · have q := nd_f q
      obtain ⟨a2, s1, -, ⟨s2, s3⟩, s4⟩ := (h.w hw).1
      have s40 := s4 0 (by omega)
      have w1 := hs.w w 0
      by_cases c1 : (oS pl s 3).testBit w = true
      · have c2 : oW sg w 0 ≤ swt pl w 0 (oS pl s 0) := by
          rcases Nat.lt_or_ge (swt pl w 0 (oS pl s 0)) (oW sg w 0) with z | z
          · exact absurd ⟨c1, z⟩ q
          · exact z
        have sl := swt_le pl w 0 (oS pl s 0)
        simp (disch := omega) only [l_X8_isRehearsed_12, h.s, h.n, r1, r2, r3, r40, r42, r43, c0, c1, e_X8_rehearsals hs hb h hd, e0, s1, s2, s3, s40, l_0, l_1, l_2, l_3, l_4, l_5, l_6, l_7, l_8, l_9, l_10, l_20, l_30, l_31, l_34, l_40, l_65, l_100, l_255, l_11, l_12, l_24, l_600, l_689, l_999, l_120, l_32, nI_add, pk_mul, n_sub, n_leT, n_leF, n_ltT, n_ltF, n_eqT, n_eqF, n_cl, n_vp, fa_andq, fa_orq, fa_xorq, n_shl, n_shr, n_t1, n_t0, n_div, n_m1, not_true_eq_false, Bool.false_eq_true, false_and, Bool.not_false, Bool.not_true, Bool.and_true, Bool.and_false, Bool.false_and, Bool.true_and, true_and, and_true, true_or, or_true, not_false_eq_true, Option.some.injEq, exists_eq_left', forall_eq, ↓reduceIte, Nat.add_zero, Nat.zero_add, and_self]
      · simp (disch := omega) only [l_X8_isRehearsed_12, h.s, h.n, r1, r2, r3, r40, r42, r43, c0, c1, l_0, l_1, l_2, l_3, l_4, l_5, l_6, l_7, l_8, l_9, l_10, l_20, l_30, l_31, l_34, l_40, l_65, l_100, l_255, l_11, l_12, l_24, l_600, l_689, l_999, l_120, l_32, nI_add, pk_mul, n_sub, n_leT, n_leF, n_ltT, n_ltF, n_eqT, n_eqF, n_cl, n_vp, fa_andq, fa_orq, fa_xorq, n_shl, n_shr, n_t1, n_t0, n_div, n_m1, not_true_eq_false, Bool.false_eq_true, false_and, Bool.not_false, Bool.not_true, Bool.and_true, Bool.and_false, Bool.false_and, Bool.true_and, true_and, and_true, true_or, or_true, not_false_eq_true, Option.some.injEq, exists_eq_left', forall_eq, ↓reduceIte, Nat.add_zero, Nat.zero_add, and_self]
    · have q := nd_t q
      obtain ⟨a2, s1, -, ⟨s2, s3⟩, s4⟩ := (h.w hw).1
      have s40 := s4 0 (by omega)
      have w1 := hs.w w 0
      have sl := swt_le pl w 0 (oS pl s 0)
      simp (disch := omega) only [l_X8_isRehearsed_12, h.s, h.n, r1, r2, r3, r40, r42, r43, c0, q.1, e_X8_rehearsals hs hb h hd, e0, s1, s2, s3, s40, l_0, l_1, l_2, l_3, l_4, l_5, l_6, l_7, l_8, l_9, l_10, l_20, l_30, l_31, l_34, l_40, l_65, l_100, l_255, l_11, l_12, l_24, l_600, l_689, l_999, l_120, l_32, nI_add, pk_mul, n_sub, n_leT, n_leF, n_ltT, n_ltF, n_eqT, n_eqF, n_cl, n_vp, fa_andq, fa_orq, fa_xorq, n_shl, n_shr, n_t1, n_t0, n_div, n_m1, not_true_eq_false, Bool.false_eq_true, false_and, Bool.not_false, Bool.not_true, Bool.and_true, Bool.and_false, Bool.false_and, Bool.true_and, true_and, and_true, true_or, or_true, not_false_eq_true, Option.some.injEq, exists_eq_left', forall_eq, ↓reduceIte, Nat.add_zero, Nat.zero_add, and_self]
  · rw [if_neg (fun z => c0 z.1)]
    refine lpE (fun n (z : Int32) => l_X8_isRehearsed_12 P K73 K81 n M e (nI s) z) nI (sg 3) (fun _ h => h.elim) (fun _ => ?_) (fun n w hw => ?_)
    · simp (disch := omega) only [l_X8_isRehearsed_12, h.s, h.n, l_0, l_1, l_2, l_3, l_4, l_5, l_6, l_7, l_8, l_9, l_10, l_20, l_30, l_31, l_34, l_40, l_65, l_100, l_255, l_11, l_12, l_24, l_600, l_689, l_999, l_120, l_32, nI_add, pk_mul, n_sub, n_leT, n_leF, n_ltT, n_ltF, n_eqT, n_eqF, n_cl, n_vp, fa_andq, fa_orq, fa_xorq, n_shl, n_shr, n_t1, n_t0, n_div, n_m1, not_true_eq_false, Bool.false_eq_true, false_and, Bool.not_false, Bool.not_true, Bool.and_true, Bool.and_false, Bool.false_and, Bool.true_and, true_and, and_true, true_or, or_true, not_false_eq_true, Option.some.injEq, exists_eq_left', forall_eq, ↓reduceIte, Nat.add_zero, Nat.zero_add, and_self]
    · simp (disch := omega) only [l_X8_isRehearsed_12, h.s, h.n, r1, r2, r3, r40, r42, r43, c0, l_0, l_1, l_2, l_3, l_4, l_5, l_6, l_7, l_8, l_9, l_10, l_20, l_30, l_31, l_34, l_40, l_65, l_100, l_255, l_11, l_12, l_24, l_600, l_689, l_999, l_120, l_32, nI_add, pk_mul, n_sub, n_leT, n_leF, n_ltT, n_ltF, n_eqT, n_eqF, n_cl, n_vp, fa_andq, fa_orq, fa_xorq, n_shl, n_shr, n_t1, n_t0, n_div, n_m1, not_true_eq_false, Bool.false_eq_true, false_and, Bool.not_false, Bool.not_true, Bool.and_true, Bool.and_false, Bool.false_and, Bool.true_and, true_and, and_true, true_or, or_true, not_false_eq_true, Option.some.injEq, exists_eq_left', forall_eq, ↓reduceIte, Nat.add_zero, Nat.zero_add, and_self]
theorem e_X8_isRehearsed (hs : SB sg) (hb : PB sg pl) (h : LSt e sg M) (hd : LDy e sg pl M) (P : Int32 → Mm → Prop) : w_X8_isRehearsed M e P ↔ P (bI (rehd sg pl)) M := by
  have n9 := hb.n
  unfold w_X8_isRehearsed
  rw [l_0, l_1]
  refine lpA (fun n (z : Int32) => l_X8_isRehearsed_2 P (fun M14 => (nI 0 = nI 0 ∨ nI 0 = nI 1) ∧ P (nI 0) M14) (fun M15 => (nI 1 = nI 0 ∨ nI 1 = nI 1) ∧ P (nI 1) M15) n M e z) nI (pl 0) (fun s => !decide (oS pl s 2 = 1 ∧ ¬ ready sg pl (oS pl s 3) (oS pl s 0) = true)) (Q := fun z => P (bI z) M) (fun _ h => h.elim) (fun _ => ?_) (fun n s hk q => ?_) (fun n s hk q => ?_)
  · simp (disch := omega) only [l_X8_isRehearsed_2, h.s, hd.n, bI_t, l_0, l_1, l_2, l_3, l_4, l_5, l_6, l_7, l_8, l_9, l_10, l_20, l_30, l_31, l_34, l_40, l_65, l_100, l_255, l_11, l_12, l_24, l_600, l_689, l_999, l_120, l_32, nI_add, pk_mul, n_sub, n_leT, n_leF, n_ltT, n_ltF, n_eqT, n_eqF, n_cl, n_vp, fa_andq, fa_orq, fa_xorq, n_shl, n_shr, n_t1, n_t0, n_div, n_m1, not_true_eq_false, Bool.false_eq_true, false_and, Bool.not_false, Bool.not_true, Bool.and_true, Bool.and_false, Bool.false_and, Bool.true_and, true_and, and_true, true_or, or_true, not_false_eq_true, Option.some.injEq, exists_eq_left', forall_eq, ↓reduceIte, Nat.add_zero, Nat.zero_add, and_self]
  · have q := nd_f q
    have g := e_X8_isRehearsed_12 hs hb h hd hk (P := P) (K73 := fun M12 => (nI 0 = nI 0 ∨ nI 0 = nI 1) ∧ P (nI 0) M12) (K81 := fun M13 x0_13 x1_13 => l_X8_isRehearsed_2 P (fun M14 => (nI 0 = nI 0 ∨ nI 0 = nI 1) ∧ P (nI 0) M14) (fun M15 => (nI 1 = nI 0 ∨ nI 1 = nI 1) ∧ P (nI 1) M15) n M13 x0_13 (x1_13 + (1 : Int32)))
    rw [if_neg q] at g
    simp (disch := omega) only [l_0, l_1, l_2, l_3, l_4, l_5, l_6, l_7, l_8, l_9, l_10, l_20, l_30, l_31, l_34, l_40, l_65, l_100, l_255, l_11, l_12, l_24, l_600, l_689, l_999, l_120, l_32, nI_add, pk_mul, n_sub, n_leT, n_leF, n_ltT, n_ltF, n_eqT, n_eqF, n_cl, n_vp, fa_andq, fa_orq, fa_xorq, n_shl, n_shr, n_t1, n_t0, n_div, n_m1, not_true_eq_false, Bool.false_eq_true, false_and, Bool.not_false, Bool.not_true, Bool.and_true, Bool.and_false, Bool.false_and, Bool.true_and, true_and, and_true, true_or, or_true, not_false_eq_true, Option.some.injEq, exists_eq_left', forall_eq, ↓reduceIte, Nat.add_zero, Nat.zero_add, and_self] at g
    simp (disch := omega) only [l_X8_isRehearsed_2, h.s, hd.n, l_0, l_1, l_2, l_3, l_4, l_5, l_6, l_7, l_8, l_9, l_10, l_20, l_30, l_31, l_34, l_40, l_65, l_100, l_255, l_11, l_12, l_24, l_600, l_689, l_999, l_120, l_32, nI_add, pk_mul, n_sub, n_leT, n_leF, n_ltT, n_ltF, n_eqT, n_eqF, n_cl, n_vp, fa_andq, fa_orq, fa_xorq, n_shl, n_shr, n_t1, n_t0, n_div, n_m1, not_true_eq_false, Bool.false_eq_true, false_and, Bool.not_false, Bool.not_true, Bool.and_true, Bool.and_false, Bool.false_and, Bool.true_and, true_and, and_true, true_or, or_true, not_false_eq_true, Option.some.injEq, exists_eq_left', forall_eq, ↓reduceIte, Nat.add_zero, Nat.zero_add, and_self]
    exact g
  · have q := nd_t q
    have g := e_X8_isRehearsed_12 hs hb h hd hk (P := P) (K73 := fun M12 => (nI 0 = nI 0 ∨ nI 0 = nI 1) ∧ P (nI 0) M12) (K81 := fun M13 x0_13 x1_13 => l_X8_isRehearsed_2 P (fun M14 => (nI 0 = nI 0 ∨ nI 0 = nI 1) ∧ P (nI 0) M14) (fun M15 => (nI 1 = nI 0 ∨ nI 1 = nI 1) ∧ P (nI 1) M15) n M13 x0_13 (x1_13 + (1 : Int32)))
    rw [if_pos q] at g
    simp (disch := omega) only [l_0, l_1, l_2, l_3, l_4, l_5, l_6, l_7, l_8, l_9, l_10, l_20, l_30, l_31, l_34, l_40, l_65, l_100, l_255, l_11, l_12, l_24, l_600, l_689, l_999, l_120, l_32, nI_add, pk_mul, n_sub, n_leT, n_leF, n_ltT, n_ltF, n_eqT, n_eqF, n_cl, n_vp, fa_andq, fa_orq, fa_xorq, n_shl, n_shr, n_t1, n_t0, n_div, n_m1, not_true_eq_false, Bool.false_eq_true, false_and, Bool.not_false, Bool.not_true, Bool.and_true, Bool.and_false, Bool.false_and, Bool.true_and, true_and, and_true, true_or, or_true, not_false_eq_true, Option.some.injEq, exists_eq_left', forall_eq, ↓reduceIte, Nat.add_zero, Nat.zero_add, and_self] at g
    simp (disch := omega) only [l_X8_isRehearsed_2, h.s, hd.n, bI_f, l_0, l_1, l_2, l_3, l_4, l_5, l_6, l_7, l_8, l_9, l_10, l_20, l_30, l_31, l_34, l_40, l_65, l_100, l_255, l_11, l_12, l_24, l_600, l_689, l_999, l_120, l_32, nI_add, pk_mul, n_sub, n_leT, n_leF, n_ltT, n_ltF, n_eqT, n_eqF, n_cl, n_vp, fa_andq, fa_orq, fa_xorq, n_shl, n_shr, n_t1, n_t0, n_div, n_m1, not_true_eq_false, Bool.false_eq_true, false_and, Bool.not_false, Bool.not_true, Bool.and_true, Bool.and_false, Bool.false_and, Bool.true_and, true_and, and_true, true_or, or_true, not_false_eq_true, Option.some.injEq, exists_eq_left', forall_eq, ↓reduceIte, Nat.add_zero, Nat.zero_add, and_self]
    exact g
end LV
/-- only the rows' and the casts' places change -/
def FR8 (e : Nat) (M M' : Mm) : Prop := zn M' = zn M ∧ zk M' = zk M ∧ zl M' = zl M ∧ zI M' = zI M ∧ zJ M' = zJ M ∧ ∀ b, b ≠ e + 8 → b ≠ e + 9 → zR M' b = zR M b
theorem FR8.n {e : Nat} {M M' : Mm} (f : FR8 e M M') : zn M' = zn M := f.1
theorem FR8.k {e : Nat} {M M' : Mm} (f : FR8 e M M') : zk M' = zk M := f.2.1
theorem FR8.l {e : Nat} {M M' : Mm} (f : FR8 e M M') : zl M' = zl M := f.2.2.1
theorem FR8.i {e : Nat} {M M' : Mm} (f : FR8 e M M') : zI M' = zI M := f.2.2.2.1
theorem FR8.r {e : Nat} {M M' : Mm} (f : FR8 e M M') {b : Nat} (h : b ≠ e + 8) (h2 : b ≠ e + 9) : zR M' b = zR M b := f.2.2.2.2.2 b h h2
theorem FR8.rf {e : Nat} {M : Mm} : FR8 e M M := ⟨rfl, rfl, rfl, rfl, rfl, fun _ _ _ => rfl⟩
theorem FR8.g {e : Nat} {M M' : Mm} (f : FR8 e M M') : KpS e M M' := by
  obtain ⟨f1, f2, f3, f4, f5, f6⟩ := f
  refine ⟨⟨by omega, fun b _ hn => ⟨by rw [f2], by rw [f3], by rw [f4], by rw [f5], f6 b (by omega) (by omega)⟩⟩, ⟨by rw [f2], fun _ _ _ => by rw [f4], fun i _ => by rw [f6 e (by omega) (by omega)]⟩, fun _ _ _ => ⟨by rw [f2], by rw [f3]⟩, fun k _ _ _ => ⟨by rw [f4], f6 _ (by omega) (by omega)⟩⟩
theorem Row.f8 {e a n : Nat} {r : Nat → Nat} {M M' : Mm} (h : Row e a n r M) (f : FR8 e M M') : Row e a n r M' := by
  obtain ⟨h1, h2, h3⟩ := h
  exact ⟨by rw [f.n]; exact h1, by rw [f.k, f.l]; exact h2, by rw [f.i]; exact h3⟩
theorem Cv.f8 {e c s : Nat} {sg pl : Nat → Nat} {M M' : Mm} (h : Cv e c sg pl s M) (f : FR8 e M M') : Cv e c sg pl s M' := by
  obtain ⟨⟨h1, h2⟩, h3, h4⟩ := h
  refine ⟨⟨h1, by rw [f.n]; exact h2⟩, by rw [f.k, f.l]; exact h3, fun w hw => ⟨fun q => ?_, fun q => ?_⟩⟩
  · rw [f.r (by omega) (by omega)]
    obtain ⟨a, r1, r2⟩ := (h4 w hw).1 q
    exact ⟨a, r1, r2.f8 f⟩
  · rw [f.r (by omega) (by omega)]; exact (h4 w hw).2 q
/-- the places hold what others held -/
def Mv (e : Nat) (g : Nat → Nat) (M M' : Mm) : Prop := FR8 e M M' ∧ ∀ j, zR M' (e + 8) j = zR M (e + 8) (g j) ∧ zR M' (e + 9) j = zR M (e + 9) (g j)
theorem Mv.f {e : Nat} {g : Nat → Nat} {M M' : Mm} (h : Mv e g M M') : FR8 e M M' := h.1
theorem Mv.s {e : Nat} {g : Nat → Nat} {M M' : Mm} (h : Mv e g M M') {k k2 : Nat} {g2 : Nat → Nat} (hg : ∀ j, g2 j = if j = k then g k2 else g j) {u v : Option Nat} (hu : u = zR M' (e + 8) k2) (hv : v = zR M' (e + 9) k2) : Mv e g2 M (sR (sR M' (e + 8) k u) (e + 9) k v) := by
  obtain ⟨⟨f1, f2, f3, f4, f5, f6⟩, h2⟩ := h
  refine ⟨⟨f1, f2, f3, f4, f5, fun b h1 h2 => by rw [zR_sRo _ _ _ _ h2, zR_sRo _ _ _ _ h1]; exact f6 b h1 h2⟩, fun j => ?_⟩
  rw [hg j, zR_sRo _ _ _ _ (show e + 8 ≠ e + 9 by omega)]
  by_cases c : j = k
  · subst c
    rw [if_pos rfl, zR_sR1, zR_sR1, hu, hv]
    exact h2 k2
  · rw [if_neg c, zR_sR2 _ _ _ _ c, zR_sR2 _ _ _ _ c, zR_sRo _ _ _ _ (show e + 9 ≠ e + 8 by omega)]
    exact h2 j
/-- from s to k each holds the next one's; behind k to n each holds the one's before it -/
def gT (s k j : Nat) : Nat := if s ≤ j ∧ j < k then j + 1 else j
def gI (n k j : Nat) : Nat := if k < j ∧ j ≤ n then j - 1 else j
section LT
variable {e : Nat} {sg pl : Nat → Nat} {M : Mm}
theorem s_X8_takesOff (hs : SB sg) (hb : PB sg pl) (h : SI e sg pl M) {s : Nat} (hsn : s < pl 0) (P : Mm → Prop) (K : ∀ M', KpS e M M' → zn M' = zn M → SI e sg (off pl s) M' → P M') : w_X8_takesOff M e (nI s) P := by
  obtain ⟨hz, h1, hd⟩ := h
  have n9 := hb.n
  unfold w_X8_takesOff
  refine ⟨h1.s.1.1, h1.s.1.1, fun M2 hM => ⟨pl 0 - 1 - s + 1, ?_⟩⟩
  have kp2 : KpS e M M2 := by
    subst hM
    exact ⟨frg_I (by omega), ⟨rfl, fun i h1 h2 => zI_sI2 _ _ _ _ h1, fun _ _ => rfl⟩, fun _ _ _ => ⟨rfl, rfl⟩, fun k _ _ _ => ⟨zI_sIo _ _ _ _ (by omega), rfl⟩⟩
  have n2 : zI M2 e 6 = nI (pl 0 - 1) := by
    subst hM
    rw [zI_sI1, hd.n, l_1, n_sub (by omega)]
  have z2 : zn M2 = zn M := by subst hM; rfl
  have c2 : zI M2 (e + 3) = zI M (e + 3) := by subst hM; exact zI_sIo _ _ _ _ (by omega)
  have q8 : zR M2 = zR M := by subst hM; rfl
  have h2 := h1.kp kp2
  have key : ∀ j k, k + j = pl 0 - 1 → s ≤ k → ∀ M', Mv e (gT s k) M2 M' → l_X8_takesOff_12 P (fun M12 => P M12) (j + 1) M' e (nI k) := by
    intro j
    induction j with
    | zero =>
      intro k hk hsk M' hv
      have ek : k = pl 0 - 1 := by omega
      subst ek
      have h3 := h2.kp hv.f.g
      have kp3 := kp2.trans hv.f.g
      have n3 : zI M' e 6 = nI (pl 0 - 1) := by rw [hv.f.i]; exact n2
      simp (disch := omega) only [l_X8_takesOff_12, h3.s, n3, l_0, l_1, l_2, l_3, l_4, l_5, l_6, l_7, l_8, l_9, l_10, l_20, l_30, l_31, l_34, l_40, l_65, l_100, l_255, l_11, l_12, l_24, l_600, l_689, l_999, l_120, l_32, nI_add, pk_mul, n_sub, n_leT, n_leF, n_ltT, n_ltF, n_eqT, n_eqF, n_cl, n_vp, fa_andq, fa_orq, fa_xorq, n_shl, n_shr, n_t1, n_t0, n_div, n_m1, not_true_eq_false, Bool.false_eq_true, false_and, Bool.not_false, Bool.not_true, Bool.and_true, Bool.and_false, Bool.false_and, Bool.true_and, true_and, and_true, true_or, or_true, not_false_eq_true, Option.some.injEq, exists_eq_left', forall_eq, ↓reduceIte, Nat.add_zero, Nat.zero_add, and_self]
      refine K M' kp3 (by rw [hv.f.n, z2]) ⟨by rw [hv.f.n, z2]; exact hz, h3, n3, fun p hp => ?_, fun q hq => ?_⟩
      · rw [hv.f.i, c2, off_k pl s (by have := hs.b; omega) (by omega)]; exact hd.k hp
      · have hq2 : q < pl 0 - 1 := hq
        rw [(hv.2 q).1, (hv.2 q).2, q8]
        have eu : gT s (pl 0 - 1) q = up s q := by unfold gT up; split <;> split <;> omega
        rw [eu]
        have hu := up_lt (s := s) hq2
        obtain ⟨a, r1, r2⟩ := hd.s hu
        obtain ⟨c, r3, r4⟩ := hd.c hu
        exact ⟨⟨a, r1, (r2.fr kp3.1 (Nat.le_refl _)).ext fun f hf => (off_up hq2 (by omega)).symm⟩, c, r3, (r4.fr kp3.1 (Nat.le_refl _)).ext hs fun f hf => (off_up hq2 hf).symm⟩
    | succ j ih =>
      intro k hk hsk M' hv
      have h3 := h2.kp hv.f.g
      have n3 : zI M' e 6 = nI (pl 0 - 1) := by rw [hv.f.i]; exact n2
      obtain ⟨a, r1, r2⟩ := hd.s (show k + 1 < pl 0 by omega)
      obtain ⟨c, r3, r4⟩ := hd.c (show k + 1 < pl 0 by omega)
      have r2 := (r2.fr kp2.1 (Nat.le_refl _)).f8 hv.f
      have r4 := (r4.fr kp2.1 (Nat.le_refl _)).f8 hv.f
      have p1 : zR M' (e + 8) (k + 1) = some a := by rw [(hv.2 (k + 1)).1, gT, if_neg (by omega), q8]; exact r1
      have p2 : zR M' (e + 9) (k + 1) = some c := by rw [(hv.2 (k + 1)).2, gT, if_neg (by omega), q8]; exact r3
      have hv2 := hv.s (k := k) (k2 := k + 1) (g2 := gT s (k + 1)) (u := some a) (v := some c) (fun i => by
        unfold gT
        split <;> split <;> (try split) <;> omega) p1.symm p2.symm
      have st := ih (k + 1) (by omega) (by omega) _ hv2
      generalize hm : j + 1 = m2 at st ⊢
      have p2b : zR (sR M' (e + 8) k (some a)) (e + 9) = zR M' (e + 9) := zR_sRo _ _ _ _ (by omega)
      have p2c : zR (sR M' (e + 8) k (some a)) e = zR M' e := zR_sRo _ _ _ _ (by omega)
      rw [l_X8_takesOff_12]
      refine ⟨h3.s.1.1, ifn (by rw [n3, n_leF (by omega) (by omega)]; exact not_false) ⟨h3.s.1.1, e + 8, h3.s.1.2.2.2.2.2.2.2.2.1, h3.s.1.1, e + 8, h3.s.1.2.2.2.2.2.2.2.2.1, h3.s.2.1.2.2.2.2.2.2.2.1, ?_, a, ?_, h3.s.2.1.2.2.2.2.2.2.2.1, r2.2.1.1, ?_, fun M7 hM7 => ?_⟩⟩
      · rw [h3.s.2.2.2.2.2.2.2.2.2.1, l_1, nI_add, n_vp (by omega) (by omega)]; exact True.intro
      · rw [l_1, nI_add, n_cl (by omega)]; exact p1
      · rw [h3.s.2.2.2.2.2.2.2.2.2.1, n_vp (by omega) (by omega)]; exact True.intro
      · rw [n_cl (by omega)] at hM7
        subst hM7
        refine ⟨h3.s.1.1, e + 9, ?_, h3.s.1.1, e + 9, ?_, h3.s.2.1.2.2.2.2.2.2.2.2, ?_, c, ?_, h3.s.2.1.2.2.2.2.2.2.2.2, r4.2.1.1, ?_, fun M11 hM11 => ?_⟩
        · rw [p2c]; exact h3.s.1.2.2.2.2.2.2.2.2.2
        · rw [p2c]; exact h3.s.1.2.2.2.2.2.2.2.2.2
        · rw [zl_sR, h3.s.2.2.2.2.2.2.2.2.2.2, l_1, nI_add, n_vp (by omega) (by omega)]; exact True.intro
        · rw [l_1, nI_add, n_cl (by omega), p2b]; exact p2
        · rw [zl_sR, h3.s.2.2.2.2.2.2.2.2.2.2, n_vp (by omega) (by omega)]; exact True.intro
        · rw [n_cl (by omega)] at hM11
          subst hM11
          rw [l_1, nI_add]; exact st
  exact key (pl 0 - 1 - s) s (by omega) (Nat.le_refl _) M2 ⟨FR8.rf, fun j => by rw [gT, if_neg (by omega)]; exact ⟨rfl, rfl⟩⟩
end LT
