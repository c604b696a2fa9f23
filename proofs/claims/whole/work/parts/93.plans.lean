/-! PLANS AS FUNCTIONS: a service goes, a service comes; the model's way -/
def off (pl : Nat → Nat) (s : Nat) : Nat → Nat := fun i => if i = 0 then pl 0 - 1 else if 9 + 34 * s ≤ i ∧ i < 9 + 34 * (pl 0 - 1) then pl (i + 34) else pl i
def psn (pl : Nat → Nat) (ha t : Nat) : Nat := fi (fun s => !decide (oS pl s 0 < t ∨ (oS pl s 0 = t ∧ oS pl s 1 < ha))) (pl 0)
/-- the place of a seat of the new service -/
def nv (sg : Nat → Nat) (S F w j : Nat) : Nat := if (S.testBit w = true ∧ dm sg w (oW sg w 4) F < 100) ∧ j < oW sg w 4 then bq sg w (oW sg w 4) F j else 4294967295
def nb (sg pl : Nat → Nat) (at_ t ha S c F f : Nat) : Nat := if f = 0 then t else if f = 1 then ha else if f = 2 then c else if f = 3 then S else if f < 4 + 6 * sg 3 then nv sg S F ((f - 4) / 6) ((f - 4) % 6) else pl (9 + 34 * at_ + f)
def cm (sg pl : Nat → Nat) (at_ t ha S c F : Nat) : Nat → Nat := fun i => if i = 0 then pl 0 + 1 else if i < 9 + 34 * at_ then pl i else if i < 9 + 34 * at_ + 34 then nb sg pl at_ t ha S c F (i - (9 + 34 * at_)) else if i < 9 + 34 * (pl 0 + 1) then pl (i - 34) else pl i
theorem off_n (pl : Nat → Nat) (s : Nat) : off pl s 0 = pl 0 - 1 := rfl
theorem off_k (pl : Nat → Nat) (s : Nat) {i : Nat} (h : i < 9) (h0 : i ≠ 0) : off pl s i = pl i := by
  unfold off
  rw [if_neg h0, if_neg (by omega)]
theorem off_S (pl : Nat → Nat) {s k f : Nat} (hk : k < pl 0 - 1) (hf : f < 34) : oS (off pl s) k f = if k < s then oS pl k f else oS pl (k + 1) f := by
  unfold oS off
  rw [if_neg (by omega)]
  by_cases c : k < s
  · rw [if_neg (by omega), if_pos c]
  · rw [if_pos (by omega), if_neg c]
    congr 1; omega
theorem cm_n (sg pl : Nat → Nat) (at_ t ha S c F : Nat) : cm sg pl at_ t ha S c F 0 = pl 0 + 1 := rfl
theorem cm_k (sg pl : Nat → Nat) (at_ t ha S c F : Nat) {i : Nat} (h : i < 9) (h0 : i ≠ 0) : cm sg pl at_ t ha S c F i = pl i := by
  unfold cm
  rw [if_neg h0, if_pos (by omega)]
theorem cm_S (sg pl : Nat → Nat) {at_ t ha S c F k f : Nat} (hk : k < pl 0 + 1) (hf : f < 34) : oS (cm sg pl at_ t ha S c F) k f = if k < at_ then oS pl k f else if k = at_ then nb sg pl at_ t ha S c F f else oS pl (k - 1) f := by
  unfold oS cm
  rw [if_neg (by omega)]
  by_cases c1 : k < at_
  · rw [if_pos (by omega), if_pos c1]
  · rw [if_neg (by omega), if_neg c1]
    by_cases c2 : k = at_
    · subst c2
      rw [if_pos (by omega), if_pos rfl]
      congr 1; omega
    · rw [if_neg (by omega), if_pos (by omega), if_neg c2]
      congr 1; omega
/-- now[] holds pl -/
def MN (m : Nat) (pl : Nat → Nat) (M : Mm) : Prop := MS m M ∧ ∀ i, i < 689 → zI M (m + 2) i = nI (pl i)
theorem MS.fr {R : Nat → Prop} {m : Nat} {M M' : Mm} (h : MS m M) (f : FrI R M M') : MS m M' := by
  unfold MS at h ⊢
  rw [f.k, f.l, f.r]; exact h
theorem MN.sh {m : Nat} {pl : Nat → Nat} {M : Mm} (h : MN m pl M) : (zk M m = 8 ∧ zR M m 1 = some (m + 1) ∧ zR M m 2 = some (m + 2)) ∧ (zk M (m + 1) = 10 ∧ zk M (m + 2) = 10) ∧ zl M (m + 1) = 120 ∧ zl M (m + 2) = 689 :=
  ⟨⟨h.1.1.1, h.1.1.2.1, h.1.1.2.2.1⟩, ⟨h.1.2.1.1, h.1.2.1.2.1⟩, h.1.2.2.1, h.1.2.2.2.1⟩
theorem MN.v {m : Nat} {pl : Nat → Nat} {M : Mm} (h : MN m pl M) : ∀ i, i < 689 → zI M (m + 2) i = nI (pl i) := h.2
theorem MN.of {m : Nat} {pl pl' : Nat → Nat} {M : Mm} (h : MN m pl M) (e : ∀ i, i < 689 → pl' i = pl i) : MN m pl' M := ⟨h.1, fun i hi => by rw [h.2 i hi, e i hi]⟩
theorem MN.set {m : Nat} {pl : Nat → Nat} {M : Mm} (h : MN m pl M) (k v : Nat) : MN m (fun i => if i = k then v else pl i) (sI M (m + 2) k (nI v)) := by
  refine ⟨h.1.fr (R := fun b => b = m + 2) (FrI.sI rfl), fun i hi => ?_⟩
  by_cases c : i = k
  · subst c; rw [zI_sI1]; exact congrArg nI (if_pos rfl).symm
  · rw [zI_sI2 _ _ _ _ c, h.2 i hi]; exact congrArg nI (if_neg c).symm
theorem MR.mn {m : Nat} {sg pl : Nat → Nat} {M : Mm} (h : MR m sg pl M) : MN m pl M := ⟨h.1, h.2.2.1⟩
theorem MR.mk {m : Nat} {sg pl : Nat → Nat} {M : Mm} (h : MSea m sg M) (k : MN m pl M) (p : PB sg pl) : MR m sg pl M := ⟨h.1, h.2.1, k.2, h.2.2, p⟩
def mb (pl : Nat → Nat) (fr to : Nat) : Nat → Nat := fun i => if 9 + 34 * to ≤ i ∧ i < 9 + 34 * to + 34 then pl (i - (9 + 34 * to) + (9 + 34 * fr)) else pl i
section MV
variable {m : Nat} {sg pl : Nat → Nat} {M : Mm}
theorem s_X8_movesBlock (h : MN m pl M) {fr to : Nat} (hf : fr < 20) (ht : to < 20) (hne : fr ≠ to) (P : Mm → Prop) (K : ∀ M', FrI (fun b => b = m + 2) M M' → MN m (mb pl fr to) M' → P M') : w_X8_movesBlock M m (nI fr) (nI to) P := by
  unfold w_X8_movesBlock
  refine lpI (fun n (z : Mm × Int32) => l_X8_movesBlock_2 P (fun M4 => P M4) n z.1 m (nI fr) (nI to) z.2) (fun k z => (FrI (fun b => b = m + 2) M z.1 ∧ MN m (fun i => if 9 + 34 * to ≤ i ∧ i < 9 + 34 * to + k then pl (i - (9 + 34 * to) + (9 + 34 * fr)) else pl i) z.1) ∧ z.2 = nI k) 34 ?_ ?_ (M, nI 0) ⟨⟨FrI.rf, h.of fun i hi => if_neg (by omega)⟩, rfl⟩
  · rintro n ⟨M1, a1⟩ ⟨⟨f, g⟩, e1⟩
    dsimp only at f g e1 ⊢
    subst e1
    simp (disch := omega) only [l_X8_movesBlock_2, l_0, l_1, l_2, l_3, l_4, l_5, l_6, l_7, l_8, l_9, l_10, l_20, l_30, l_31, l_34, l_40, l_65, l_100, l_255, l_11, l_12, l_24, l_600, l_689, l_999, l_120, l_32, nI_add, pk_mul, n_sub, n_leT, n_leF, n_ltT, n_ltF, n_eqT, n_eqF, n_cl, n_vp, fa_andq, fa_orq, fa_xorq, n_shl, n_shr, n_t1, n_t0, n_div, n_m1, not_true_eq_false, Bool.false_eq_true, false_and, Bool.not_false, Bool.not_true, Bool.and_true, Bool.and_false, Bool.false_and, Bool.true_and, true_and, and_true, true_or, or_true, not_false_eq_true, Option.some.injEq, exists_eq_left', forall_eq, ↓reduceIte, Nat.add_zero, Nat.zero_add, and_self]
    exact K M1 f g
  · rintro n k ⟨M1, a1⟩ hk ⟨⟨f, g⟩, e1⟩ L
    dsimp only at f g e1 L ⊢
    subst e1
    simp (disch := omega) only [l_X8_movesBlock_2, g.sh, g.v, l_0, l_1, l_2, l_3, l_4, l_5, l_6, l_7, l_8, l_9, l_10, l_20, l_30, l_31, l_34, l_40, l_65, l_100, l_255, l_11, l_12, l_24, l_600, l_689, l_999, l_120, l_32, nI_add, pk_mul, n_sub, n_leT, n_leF, n_ltT, n_ltF, n_eqT, n_eqF, n_cl, n_vp, fa_andq, fa_orq, fa_xorq, n_shl, n_shr, n_t1, n_t0, n_div, n_m1, not_true_eq_false, Bool.false_eq_true, false_and, Bool.not_false, Bool.not_true, Bool.and_true, Bool.and_false, Bool.false_and, Bool.true_and, true_and, and_true, true_or, or_true, not_false_eq_true, Option.some.injEq, exists_eq_left', forall_eq, ↓reduceIte, Nat.add_zero, Nat.zero_add, and_self]
    rw [if_neg (by omega)]
    refine L (_, _) ⟨⟨f.trans (FrI.sI rfl), (g.set (9 + 34 * to + k) (pl (9 + 34 * fr + k))).of fun i hi => ?_⟩, rfl⟩
    try dsimp only
    repeat' split
    all_goals first | omega | (congr 1; omega)
theorem s_X8_takesOff (h : MN m pl M) {s : Nat} (hs : s < pl 0) (hn : pl 0 ≤ 20) (P : Mm → Prop) (K : ∀ M', FrI (fun b => b = m + 2) M M' → MN m (off pl s) M' → P M') : w_X8_takesOff M m (nI s) P := by
  simp (disch := omega) only [w_X8_takesOff, h.sh, h.v, l_0, l_1, l_2, l_3, l_4, l_5, l_6, l_7, l_8, l_9, l_10, l_20, l_30, l_31, l_34, l_40, l_65, l_100, l_255, l_11, l_12, l_24, l_600, l_689, l_999, l_120, l_32, nI_add, pk_mul, n_sub, n_leT, n_leF, n_ltT, n_ltF, n_eqT, n_eqF, n_cl, n_vp, fa_andq, fa_orq, fa_xorq, n_shl, n_shr, n_t1, n_t0, n_div, n_m1, not_true_eq_false, Bool.false_eq_true, false_and, Bool.not_false, Bool.not_true, Bool.and_true, Bool.and_false, Bool.false_and, Bool.true_and, true_and, and_true, true_or, or_true, not_false_eq_true, Option.some.injEq, exists_eq_left', forall_eq, ↓reduceIte, Nat.add_zero, Nat.zero_add, and_self]
  refine lpI (fun n (z : Mm × Int32) => l_X8_takesOff_12 P (fun M4 => P M4) n z.1 m z.2) (fun k z => (FrI (fun b => b = m + 2) M z.1 ∧ MN m (fun i => if i = 0 then pl 0 - 1 else if 9 + 34 * s ≤ i ∧ i < 9 + 34 * (s + k) then pl (i + 34) else pl i) z.1) ∧ z.2 = nI (s + k)) (pl 0 - 1 - s) ?_ ?_ (sI M (m + 2) 0 (nI (pl 0 - 1)), nI s) ⟨⟨FrI.sI rfl, (h.set 0 (pl 0 - 1)).of fun i hi => ?_⟩, rfl⟩
  · rintro n ⟨M1, a1⟩ ⟨⟨f, g⟩, e1⟩
    dsimp only at f g e1 ⊢
    subst e1
    simp (disch := omega) only [l_X8_takesOff_12, g.sh, g.v, if_true, l_0, l_1, l_2, l_3, l_4, l_5, l_6, l_7, l_8, l_9, l_10, l_20, l_30, l_31, l_34, l_40, l_65, l_100, l_255, l_11, l_12, l_24, l_600, l_689, l_999, l_120, l_32, nI_add, pk_mul, n_sub, n_leT, n_leF, n_ltT, n_ltF, n_eqT, n_eqF, n_cl, n_vp, fa_andq, fa_orq, fa_xorq, n_shl, n_shr, n_t1, n_t0, n_div, n_m1, not_true_eq_false, Bool.false_eq_true, false_and, Bool.not_false, Bool.not_true, Bool.and_true, Bool.and_false, Bool.false_and, Bool.true_and, true_and, and_true, true_or, or_true, not_false_eq_true, Option.some.injEq, exists_eq_left', forall_eq, ↓reduceIte, Nat.add_zero, Nat.zero_add, and_self]
    refine K M1 f (g.of fun i hi => ?_)
    unfold off
    repeat' split
    all_goals first | omega | (congr 1; omega)
  · rintro n k ⟨M1, a1⟩ hk ⟨⟨f, g⟩, e1⟩ L
    dsimp only at f g e1 L ⊢
    subst e1
    simp (disch := omega) only [l_X8_takesOff_12, g.sh, g.v, if_true, l_0, l_1, l_2, l_3, l_4, l_5, l_6, l_7, l_8, l_9, l_10, l_20, l_30, l_31, l_34, l_40, l_65, l_100, l_255, l_11, l_12, l_24, l_600, l_689, l_999, l_120, l_32, nI_add, pk_mul, n_sub, n_leT, n_leF, n_ltT, n_ltF, n_eqT, n_eqF, n_cl, n_vp, fa_andq, fa_orq, fa_xorq, n_shl, n_shr, n_t1, n_t0, n_div, n_m1, not_true_eq_false, Bool.false_eq_true, false_and, Bool.not_false, Bool.not_true, Bool.and_true, Bool.and_false, Bool.false_and, Bool.true_and, true_and, and_true, true_or, or_true, not_false_eq_true, Option.some.injEq, exists_eq_left', forall_eq, ↓reduceIte, Nat.add_zero, Nat.zero_add, and_self]
    refine s_X8_movesBlock g (by omega) (by omega) (by omega) _ fun M2 f2 g2 => L (M2, _) ⟨⟨f.trans f2, g2.of fun i hi => ?_⟩, rfl⟩
    unfold mb
    try dsimp only
    repeat' split
    all_goals first | omega | (congr 1; omega)
  · try dsimp only
    repeat' split
    all_goals first | omega | (congr 1; omega)
theorem e_X8_comes_10 (h : MR m sg pl M) {ha t S c F : Nat} (hha : ha < 3) (ht : t < 90) (P : Int32 → Mm → Prop) (K : Mm → Nat → Int32 → Int32 → Int32 → Int32 → Int32 → Int32 → Prop) : (∃ n, l_X8_comes_10 P K n M m (nI ha) (nI t) (nI S) (nI c) (nI F) (nI 0)) ↔ K M m (nI ha) (nI t) (nI S) (nI c) (nI F) (nI (psn pl ha t)) := by
  have n := h.pb.n
  refine lpF (fun n (z : Int32) => l_X8_comes_10 P K n M m (nI ha) (nI t) (nI S) (nI c) (nI F) z) nI (pl 0) (fun s => !decide (oS pl s 0 < t ∨ (oS pl s 0 = t ∧ oS pl s 1 < ha))) (Q := fun k => K M m (nI ha) (nI t) (nI S) (nI c) (nI F) (nI k)) (fun _ h => h.elim) (fun _ => ?_) (fun n k hk q => ?_) (fun n k hk q => ?_)
  · simp (disch := omega) only [l_X8_comes_10, h.sh, h.v2, l_0, l_1, l_2, l_3, l_4, l_5, l_6, l_7, l_8, l_9, l_10, l_20, l_30, l_31, l_34, l_40, l_65, l_100, l_255, l_11, l_12, l_24, l_600, l_689, l_999, l_120, l_32, nI_add, pk_mul, n_sub, n_leT, n_leF, n_ltT, n_ltF, n_eqT, n_eqF, n_cl, n_vp, fa_andq, fa_orq, fa_xorq, n_shl, n_shr, n_t1, n_t0, n_div, n_m1, not_true_eq_false, Bool.false_eq_true, false_and, Bool.not_false, Bool.not_true, Bool.and_true, Bool.and_false, Bool.false_and, Bool.true_and, true_and, and_true, true_or, or_true, not_false_eq_true, Option.some.injEq, exists_eq_left', forall_eq, ↓reduceIte, Nat.add_zero, Nat.zero_add, and_self]
  · have d := h.pb.s h.sb hk
    have q := nd_t q
    by_cases c1 : oS pl k 0 < t
    · simp (disch := omega) only [l_X8_comes_10, h.sh, h.v2, e_X8_of h, l_0, l_1, l_2, l_3, l_4, l_5, l_6, l_7, l_8, l_9, l_10, l_20, l_30, l_31, l_34, l_40, l_65, l_100, l_255, l_11, l_12, l_24, l_600, l_689, l_999, l_120, l_32, nI_add, pk_mul, n_sub, n_leT, n_leF, n_ltT, n_ltF, n_eqT, n_eqF, n_cl, n_vp, fa_andq, fa_orq, fa_xorq, n_shl, n_shr, n_t1, n_t0, n_div, n_m1, not_true_eq_false, Bool.false_eq_true, false_and, Bool.not_false, Bool.not_true, Bool.and_true, Bool.and_false, Bool.false_and, Bool.true_and, true_and, and_true, true_or, or_true, not_false_eq_true, Option.some.injEq, exists_eq_left', forall_eq, ↓reduceIte, Nat.add_zero, Nat.zero_add, and_self]
    · have c2 : oS pl k 0 = t := by omega
      have c3 : oS pl k 1 < ha := by omega
      simp (disch := omega) only [l_X8_comes_10, h.sh, h.v2, e_X8_of h, l_0, l_1, l_2, l_3, l_4, l_5, l_6, l_7, l_8, l_9, l_10, l_20, l_30, l_31, l_34, l_40, l_65, l_100, l_255, l_11, l_12, l_24, l_600, l_689, l_999, l_120, l_32, nI_add, pk_mul, n_sub, n_leT, n_leF, n_ltT, n_ltF, n_eqT, n_eqF, n_cl, n_vp, fa_andq, fa_orq, fa_xorq, n_shl, n_shr, n_t1, n_t0, n_div, n_m1, not_true_eq_false, Bool.false_eq_true, false_and, Bool.not_false, Bool.not_true, Bool.and_true, Bool.and_false, Bool.false_and, Bool.true_and, true_and, and_true, true_or, or_true, not_false_eq_true, Option.some.injEq, exists_eq_left', forall_eq, ↓reduceIte, Nat.add_zero, Nat.zero_add, and_self]
  · have d := h.pb.s h.sb hk
    have q := nd_f q
    have c1 : ¬ oS pl k 0 < t := fun z => q (Or.inl z)
    by_cases c2 : oS pl k 0 = t
    · have c3 : ¬ oS pl k 1 < ha := fun z => q (Or.inr ⟨c2, z⟩)
      simp (disch := omega) only [l_X8_comes_10, h.sh, h.v2, e_X8_of h, l_0, l_1, l_2, l_3, l_4, l_5, l_6, l_7, l_8, l_9, l_10, l_20, l_30, l_31, l_34, l_40, l_65, l_100, l_255, l_11, l_12, l_24, l_600, l_689, l_999, l_120, l_32, nI_add, pk_mul, n_sub, n_leT, n_leF, n_ltT, n_ltF, n_eqT, n_eqF, n_cl, n_vp, fa_andq, fa_orq, fa_xorq, n_shl, n_shr, n_t1, n_t0, n_div, n_m1, not_true_eq_false, Bool.false_eq_true, false_and, Bool.not_false, Bool.not_true, Bool.and_true, Bool.and_false, Bool.false_and, Bool.true_and, true_and, and_true, true_or, or_true, not_false_eq_true, Option.some.injEq, exists_eq_left', forall_eq, ↓reduceIte, Nat.add_zero, Nat.zero_add, and_self]
    · simp (disch := omega) only [l_X8_comes_10, h.sh, h.v2, e_X8_of h, l_0, l_1, l_2, l_3, l_4, l_5, l_6, l_7, l_8, l_9, l_10, l_20, l_30, l_31, l_34, l_40, l_65, l_100, l_255, l_11, l_12, l_24, l_600, l_689, l_999, l_120, l_32, nI_add, pk_mul, n_sub, n_leT, n_leF, n_ltT, n_ltF, n_eqT, n_eqF, n_cl, n_vp, fa_andq, fa_orq, fa_xorq, n_shl, n_shr, n_t1, n_t0, n_div, n_m1, not_true_eq_false, Bool.false_eq_true, false_and, Bool.not_false, Bool.not_true, Bool.and_true, Bool.and_false, Bool.false_and, Bool.true_and, true_and, and_true, true_or, or_true, not_false_eq_true, Option.some.injEq, exists_eq_left', forall_eq, ↓reduceIte, Nat.add_zero, Nat.zero_add, and_self]
theorem s_X8_comes_68 (h : MN m pl M) {a1 a2 a3 a4 a5 : Int32} {at_ : Nat} (hn : pl 0 < 20) (hat : at_ ≤ pl 0) (P : Int32 → Mm → Prop) (K : Mm → Nat → Int32 → Int32 → Int32 → Int32 → Int32 → Int32 → Prop)
    (kk : ∀ M', FrI (fun b => b = m + 2) M M' → MN m (fun i => if 9 + 34 * (at_ + 1) ≤ i ∧ i < 9 + 34 * (pl 0 + 1) then pl (i - 34) else pl i) M' → K M' m a1 a2 a3 a4 a5 (nI at_)) : ∃ n, l_X8_comes_68 P K n M m a1 a2 a3 a4 a5 (nI at_) (nI (pl 0)) := by
  refine lpI (fun n (z : Mm × Int32) => l_X8_comes_68 P K n z.1 m a1 a2 a3 a4 a5 (nI at_) z.2) (fun k z => (FrI (fun b => b = m + 2) M z.1 ∧ MN m (fun i => if 9 + 34 * (pl 0 - k + 1) ≤ i ∧ i < 9 + 34 * (pl 0 + 1) then pl (i - 34) else pl i) z.1) ∧ z.2 = nI (pl 0 - k)) (pl 0 - at_) ?_ ?_ (M, nI (pl 0)) ⟨⟨FrI.rf, h.of fun i hi => if_neg (by omega)⟩, rfl⟩
  · rintro n ⟨M1, a1⟩ ⟨⟨f, g⟩, e1⟩
    dsimp only at f g e1 ⊢
    subst e1
    simp (disch := omega) only [l_X8_comes_68, l_0, l_1, l_2, l_3, l_4, l_5, l_6, l_7, l_8, l_9, l_10, l_20, l_30, l_31, l_34, l_40, l_65, l_100, l_255, l_11, l_12, l_24, l_600, l_689, l_999, l_120, l_32, nI_add, pk_mul, n_sub, n_leT, n_leF, n_ltT, n_ltF, n_eqT, n_eqF, n_cl, n_vp, fa_andq, fa_orq, fa_xorq, n_shl, n_shr, n_t1, n_t0, n_div, n_m1, not_true_eq_false, Bool.false_eq_true, false_and, Bool.not_false, Bool.not_true, Bool.and_true, Bool.and_false, Bool.false_and, Bool.true_and, true_and, and_true, true_or, or_true, not_false_eq_true, Option.some.injEq, exists_eq_left', forall_eq, ↓reduceIte, Nat.add_zero, Nat.zero_add, and_self]
    refine kk M1 f (g.of fun i hi => ?_)
    try dsimp only
    repeat' split
    all_goals first | omega | (congr 1; omega)
  · rintro n k ⟨M1, a1⟩ hk ⟨⟨f, g⟩, e1⟩ L
    dsimp only at f g e1 L ⊢
    subst e1
    simp (disch := omega) only [l_X8_comes_68, g.sh, n_pred, l_0, l_1, l_2, l_3, l_4, l_5, l_6, l_7, l_8, l_9, l_10, l_20, l_30, l_31, l_34, l_40, l_65, l_100, l_255, l_11, l_12, l_24, l_600, l_689, l_999, l_120, l_32, nI_add, pk_mul, n_sub, n_leT, n_leF, n_ltT, n_ltF, n_eqT, n_eqF, n_cl, n_vp, fa_andq, fa_orq, fa_xorq, n_shl, n_shr, n_t1, n_t0, n_div, n_m1, not_true_eq_false, Bool.false_eq_true, false_and, Bool.not_false, Bool.not_true, Bool.and_true, Bool.and_false, Bool.false_and, Bool.true_and, true_and, and_true, true_or, or_true, not_false_eq_true, Option.some.injEq, exists_eq_left', forall_eq, ↓reduceIte, Nat.add_zero, Nat.zero_add, and_self]
    refine s_X8_movesBlock g (by omega) (by omega) (by omega) _ fun M2 f2 g2 => L (M2, _) ⟨⟨f.trans f2, g2.of fun i hi => ?_⟩, rfl⟩
    unfold mb
    try dsimp only
    repeat' split
    all_goals first | omega | (congr 1; omega)
/-- what a service that comes writes in the model -/
def RM (m : Nat) : Nat → Prop := fun b => b = m ∨ b = m + 8 ∨ b = m + 9 ∨ b = m + 2
def FP (m : Nat) (M M' : Mm) : Prop := FrI (RM m) M M' ∧ ∀ i, i ≠ 21 → zI M' m i = zI M m i
theorem FP.rf {M : Mm} : FP m M M := ⟨FrI.rf, fun _ _ => rfl⟩
theorem FP.trans {M M1 M2 : Mm} (h : FP m M M1) (k : FP m M1 M2) : FP m M M2 := ⟨h.1.trans k.1, fun i hi => (k.2 i hi).trans (h.2 i hi)⟩
theorem FP.m2 {M M1 : Mm} (h : FrI (fun b => b = m + 2) M M1) : FP m M M1 := ⟨h.mono fun b hb => Or.inr (Or.inr (Or.inr hb)), fun i _ => by rw [h.i (by omega)]⟩
theorem FC.fp {M M1 : Mm} (h : FC m M M1) : FP m M M1 := ⟨h.1.mono fun b hb => by unfold RC at hb; unfold RM; omega, h.2⟩
theorem MSea.fp {M M1 : Mm} (h : MSea m sg M) (f : FP m M M1) : MSea m sg M1 := h.fr f.1 (by unfold RM; omega)
theorem MN.fc {M M1 : Mm} (h : MN m pl M) (f : FC m M M1) : MN m pl M1 := ⟨h.1.fr f.1, by rw [f.1.i (by unfold RC; omega)]; exact h.2⟩
theorem MSea.b8 {M : Mm} (h : MSea m sg M) : zR M m 19 = some (m + 8) ∧ zk M (m + 8) = 10 ∧ zl M (m + 8) = 6 := ⟨h.s2.1.1, h.s2.2.1.1, h.s2.2.2.1⟩
theorem s_X8_comes_197 (hq : MSea m sg M) (h : MN m pl M) {S F at_ w : Nat} {hb : Bool} {q : Nat → Nat} (hat : at_ < 20) (hw : w < sg 3) (hv : hb = true → ∀ j, j < oW sg w 4 → zI M (m + 8) j = nI (q j)) (P : Int32 → Mm → Prop) (K : Mm → Nat → Int32 → Int32 → Int32 → Int32 → Int32 → Prop)
    (kk : ∀ M', FrI (fun b => b = m + 2) M M' → MN m (fun i => if 9 + 34 * at_ + 4 + 6 * w ≤ i ∧ i < 9 + 34 * at_ + 4 + 6 * w + 6 then (if hb = true ∧ i - (9 + 34 * at_ + 4 + 6 * w) < oW sg w 4 then q (i - (9 + 34 * at_ + 4 + 6 * w)) else 4294967295) else pl i) M' → K M' m (nI S) (nI F) (nI at_) (nI (9 + 34 * at_)) (nI w)) : ∃ n, l_X8_comes_197 P K n M m (nI S) (nI F) (nI at_) (nI (9 + 34 * at_)) (nI w) (bI hb) (nI 0) := by
  have b := hq.sb.b
  have c := hq.sb.sc hw
  refine lpI (fun n (z : Mm × Int32) => l_X8_comes_197 P K n z.1 m (nI S) (nI F) (nI at_) (nI (9 + 34 * at_)) (nI w) (bI hb) z.2) (fun k z => (FrI (fun b => b = m + 2) M z.1 ∧ MN m (fun i => if 9 + 34 * at_ + 4 + 6 * w ≤ i ∧ i < 9 + 34 * at_ + 4 + 6 * w + k then (if hb = true ∧ i - (9 + 34 * at_ + 4 + 6 * w) < oW sg w 4 then q (i - (9 + 34 * at_ + 4 + 6 * w)) else 4294967295) else pl i) z.1) ∧ z.2 = nI k) 6 ?_ ?_ (M, nI 0) ⟨⟨FrI.rf, h.of fun i hi => if_neg (by omega)⟩, rfl⟩
  · rintro n ⟨M1, a1⟩ ⟨⟨f, g⟩, e1⟩
    dsimp only at f g e1 ⊢
    subst e1
    simp (disch := omega) only [l_X8_comes_197, l_0, l_1, l_2, l_3, l_4, l_5, l_6, l_7, l_8, l_9, l_10, l_20, l_30, l_31, l_34, l_40, l_65, l_100, l_255, l_11, l_12, l_24, l_600, l_689, l_999, l_120, l_32, nI_add, pk_mul, n_sub, n_leT, n_leF, n_ltT, n_ltF, n_eqT, n_eqF, n_cl, n_vp, fa_andq, fa_orq, fa_xorq, n_shl, n_shr, n_t1, n_t0, n_div, n_m1, not_true_eq_false, Bool.false_eq_true, false_and, Bool.not_false, Bool.not_true, Bool.and_true, Bool.and_false, Bool.false_and, Bool.true_and, true_and, and_true, true_or, or_true, not_false_eq_true, Option.some.injEq, exists_eq_left', forall_eq, ↓reduceIte, Nat.add_zero, Nat.zero_add, and_self]
    exact kk M1 f g
  · rintro n k ⟨M1, a1⟩ hk ⟨⟨f, g⟩, e1⟩ L
    dsimp only at f g e1 L ⊢
    subst e1
    have q1 := hq.fr f (by omega)
    have nx : ∀ v, v = (if hb = true ∧ k < oW sg w 4 then q k else 4294967295) → l_X8_comes_197 P K n (sI M1 (m + 2) (9 + 34 * at_ + 4 + 6 * w + k) (nI v)) m (nI S) (nI F) (nI at_) (nI (9 + 34 * at_)) (nI w) (bI hb) (nI (k + 1)) := fun v e => by
      refine L (_, _) ⟨⟨f.trans (FrI.sI rfl), (g.set (9 + 34 * at_ + 4 + 6 * w + k) v).of fun i hi => ?_⟩, rfl⟩
      try dsimp only
      by_cases c1 : i = 9 + 34 * at_ + 4 + 6 * w + k
      · rw [if_pos c1, if_pos (by omega), e, show i - (9 + 34 * at_ + 4 + 6 * w) = k by omega]
      · rw [if_neg c1]
        by_cases c2 : 9 + 34 * at_ + 4 + 6 * w ≤ i ∧ i < 9 + 34 * at_ + 4 + 6 * w + k
        · rw [if_pos c2, if_pos (by omega)]
        · rw [if_neg c2, if_neg (by omega)]
    cases hb with
    | false =>
      simp (disch := omega) only [l_X8_comes_197, g.sh, bI_f, l_0, l_1, l_2, l_3, l_4, l_5, l_6, l_7, l_8, l_9, l_10, l_20, l_30, l_31, l_34, l_40, l_65, l_100, l_255, l_11, l_12, l_24, l_600, l_689, l_999, l_120, l_32, nI_add, pk_mul, n_sub, n_leT, n_leF, n_ltT, n_ltF, n_eqT, n_eqF, n_cl, n_vp, fa_andq, fa_orq, fa_xorq, n_shl, n_shr, n_t1, n_t0, n_div, n_m1, not_true_eq_false, Bool.false_eq_true, false_and, Bool.not_false, Bool.not_true, Bool.and_true, Bool.and_false, Bool.false_and, Bool.true_and, true_and, and_true, true_or, or_true, not_false_eq_true, Option.some.injEq, exists_eq_left', forall_eq, ↓reduceIte, Nat.add_zero, Nat.zero_add, and_self]
      exact nx _ (by rw [if_neg (fun z => Bool.false_ne_true z.1)])
    | true =>
      by_cases c3 : k < oW sg w 4
      · have v8 : zI M1 (m + 8) k = nI (q k) := by rw [f.i (by omega)]; exact hv rfl k c3
        simp (disch := omega) only [l_X8_comes_197, g.sh, bI_t, q_X8_ofWork q1, q1.b8, v8, l_0, l_1, l_2, l_3, l_4, l_5, l_6, l_7, l_8, l_9, l_10, l_20, l_30, l_31, l_34, l_40, l_65, l_100, l_255, l_11, l_12, l_24, l_600, l_689, l_999, l_120, l_32, nI_add, pk_mul, n_sub, n_leT, n_leF, n_ltT, n_ltF, n_eqT, n_eqF, n_cl, n_vp, fa_andq, fa_orq, fa_xorq, n_shl, n_shr, n_t1, n_t0, n_div, n_m1, not_true_eq_false, Bool.false_eq_true, false_and, Bool.not_false, Bool.not_true, Bool.and_true, Bool.and_false, Bool.false_and, Bool.true_and, true_and, and_true, true_or, or_true, not_false_eq_true, Option.some.injEq, exists_eq_left', forall_eq, ↓reduceIte, Nat.add_zero, Nat.zero_add, and_self]
        exact nx _ (by rw [if_pos ⟨rfl, c3⟩])
      · simp (disch := omega) only [l_X8_comes_197, g.sh, bI_t, q_X8_ofWork q1, l_0, l_1, l_2, l_3, l_4, l_5, l_6, l_7, l_8, l_9, l_10, l_20, l_30, l_31, l_34, l_40, l_65, l_100, l_255, l_11, l_12, l_24, l_600, l_689, l_999, l_120, l_32, nI_add, pk_mul, n_sub, n_leT, n_leF, n_ltT, n_ltF, n_eqT, n_eqF, n_cl, n_vp, fa_andq, fa_orq, fa_xorq, n_shl, n_shr, n_t1, n_t0, n_div, n_m1, not_true_eq_false, Bool.false_eq_true, false_and, Bool.not_false, Bool.not_true, Bool.and_true, Bool.and_false, Bool.false_and, Bool.true_and, true_and, and_true, true_or, or_true, not_false_eq_true, Option.some.injEq, exists_eq_left', forall_eq, ↓reduceIte, Nat.add_zero, Nat.zero_add, and_self]
        exact nx _ (by rw [if_neg (fun z => c3 z.2)])
theorem nb_at {sg pl : Nat → Nat} {at_ t ha S c F w j : Nat} (hw : w < sg 3) (hj : j < 6) : nb sg pl at_ t ha S c F (4 + 6 * w + j) = nv sg S F w j := by
  unfold nb
  rw [if_neg (by omega), if_neg (by omega), if_neg (by omega), if_neg (by omega), if_pos (by omega), show (4 + 6 * w + j - 4) / 6 = w by omega, show (4 + 6 * w + j - 4) % 6 = j by omega]
theorem s_X8_comes_155 (hq : MSea m sg M) (h : MN m pl M) {S F at_ : Nat} (hS : S < 32) (hF : F < 256) (hat : at_ < 20) (P : Int32 → Mm → Prop) (K : Mm → Int32 → Prop)
    (kk : ∀ M', FP m M M' → MSea m sg M' → MN m (fun i => if 9 + 34 * at_ + 4 ≤ i ∧ i < 9 + 34 * at_ + 4 + 6 * sg 3 then nv sg S F ((i - (9 + 34 * at_ + 4)) / 6) ((i - (9 + 34 * at_ + 4)) % 6) else pl i) M' → K M' (nI at_)) : ∃ n, l_X8_comes_155 P K n M m (nI S) (nI F) (nI at_) (nI (9 + 34 * at_)) (nI 0) := by
  have b := hq.sb.b
  refine lpI (fun n (z : Mm × Int32) => l_X8_comes_155 P K n z.1 m (nI S) (nI F) (nI at_) (nI (9 + 34 * at_)) z.2) (fun k z => (FP m M z.1 ∧ MN m (fun i => if 9 + 34 * at_ + 4 ≤ i ∧ i < 9 + 34 * at_ + 4 + 6 * k then nv sg S F ((i - (9 + 34 * at_ + 4)) / 6) ((i - (9 + 34 * at_ + 4)) % 6) else pl i) z.1) ∧ z.2 = nI k) (sg 3) ?_ ?_ (M, nI 0) ⟨⟨FP.rf, h.of fun i hi => if_neg (by omega)⟩, rfl⟩
  · rintro n ⟨M1, a1⟩ ⟨⟨f, g⟩, e1⟩
    dsimp only at f g e1 ⊢
    subst e1
    have q1 := hq.fp f
    simp (disch := omega) only [l_X8_comes_155, q1.sh, q1.v1, l_0, l_1, l_2, l_3, l_4, l_5, l_6, l_7, l_8, l_9, l_10, l_20, l_30, l_31, l_34, l_40, l_65, l_100, l_255, l_11, l_12, l_24, l_600, l_689, l_999, l_120, l_32, nI_add, pk_mul, n_sub, n_leT, n_leF, n_ltT, n_ltF, n_eqT, n_eqF, n_cl, n_vp, fa_andq, fa_orq, fa_xorq, n_shl, n_shr, n_t1, n_t0, n_div, n_m1, not_true_eq_false, Bool.false_eq_true, false_and, Bool.not_false, Bool.not_true, Bool.and_true, Bool.and_false, Bool.false_and, Bool.true_and, true_and, and_true, true_or, or_true, not_false_eq_true, Option.some.injEq, exists_eq_left', forall_eq, ↓reduceIte, Nat.add_zero, Nat.zero_add, and_self]
    exact kk M1 f q1 g
  · rintro n k ⟨M1, a1⟩ hk ⟨⟨f, g⟩, e1⟩ L
    dsimp only at f g e1 L ⊢
    subst e1
    have q1 := hq.fp f
    have nx : ∀ M2 (hb : Bool), FC m M1 M2 → (hb = decide (S.testBit k = true ∧ dm sg k (oW sg k 4) F < 100)) → (hb = true → ∀ j, j < oW sg k 4 → zI M2 (m + 8) j = nI (bq sg k (oW sg k 4) F j)) → ∃ n197, l_X8_comes_197 P (fun M29 x0_29 x3_29 x5_29 x6_29 x7_29 x8_29 => l_X8_comes_155 P K n M29 x0_29 x3_29 x5_29 x6_29 x7_29 (x8_29 + nI 1)) n197 M2 m (nI S) (nI F) (nI at_) (nI (9 + 34 * at_)) (nI k) (bI hb) (nI 0) := fun M2 hb f2 e2 v2 => by
      have q2 := q1.fp f2.fp
      refine s_X8_comes_197 q2 (g.fc f2) hat hk v2 P _ fun M3 f3 g3 => ?_
      try dsimp only
      rw [nI_add]
      refine L (M3, _) ⟨⟨(f.trans f2.fp).trans (FP.m2 f3), g3.of fun i hi => ?_⟩, rfl⟩
      try dsimp only
      by_cases c1 : 9 + 34 * at_ + 4 + 6 * k ≤ i ∧ i < 9 + 34 * at_ + 4 + 6 * k + 6
      · rw [if_pos c1, if_pos (by omega), show (i - (9 + 34 * at_ + 4)) / 6 = k by omega, show (i - (9 + 34 * at_ + 4)) % 6 = i - (9 + 34 * at_ + 4 + 6 * k) by omega]
        unfold nv
        by_cases c2 : (S.testBit k = true ∧ dm sg k (oW sg k 4) F < 100) ∧ i - (9 + 34 * at_ + 4 + 6 * k) < oW sg k 4
        · rw [if_pos c2, if_pos ⟨by rw [e2]; exact decide_eq_true c2.1, c2.2⟩]
        · rw [if_neg c2, if_neg (fun z => c2 ⟨of_decide_eq_true (by rw [← e2]; exact z.1), z.2⟩)]
      · rw [if_neg c1]
        by_cases c2 : 9 + 34 * at_ + 4 ≤ i ∧ i < 9 + 34 * at_ + 4 + 6 * k
        · rw [if_pos c2, if_pos (by omega)]
        · rw [if_neg c2, if_neg (by omega)]
    by_cases c1 : S.testBit k = true
    · simp (disch := omega) only [l_X8_comes_155, q1.sh, q1.v1, c1, l_0, l_1, l_2, l_3, l_4, l_5, l_6, l_7, l_8, l_9, l_10, l_20, l_30, l_31, l_34, l_40, l_65, l_100, l_255, l_11, l_12, l_24, l_600, l_689, l_999, l_120, l_32, nI_add, pk_mul, n_sub, n_leT, n_leF, n_ltT, n_ltF, n_eqT, n_eqF, n_cl, n_vp, fa_andq, fa_orq, fa_xorq, n_shl, n_shr, n_t1, n_t0, n_div, n_m1, not_true_eq_false, Bool.false_eq_true, false_and, Bool.not_false, Bool.not_true, Bool.and_true, Bool.and_false, Bool.false_and, Bool.true_and, true_and, and_true, true_or, or_true, not_false_eq_true, Option.some.injEq, exists_eq_left', forall_eq, ↓reduceIte, Nat.add_zero, Nat.zero_add, and_self]
      refine s_X8_casts q1 hk hF _ fun M2 f1 f2 f3 => ?_
      by_cases c2 : dm sg k (oW sg k 4) F < 100
      · simp (disch := omega) only [decide_eq_true c2, bI_t, l_0, l_1, l_2, l_3, l_4, l_5, l_6, l_7, l_8, l_9, l_10, l_20, l_30, l_31, l_34, l_40, l_65, l_100, l_255, l_11, l_12, l_24, l_600, l_689, l_999, l_120, l_32, nI_add, pk_mul, n_sub, n_leT, n_leF, n_ltT, n_ltF, n_eqT, n_eqF, n_cl, n_vp, fa_andq, fa_orq, fa_xorq, n_shl, n_shr, n_t1, n_t0, n_div, n_m1, not_true_eq_false, Bool.false_eq_true, false_and, Bool.not_false, Bool.not_true, Bool.and_true, Bool.and_false, Bool.false_and, Bool.true_and, true_and, and_true, true_or, or_true, not_false_eq_true, Option.some.injEq, exists_eq_left', forall_eq, ↓reduceIte, Nat.add_zero, Nat.zero_add, and_self]
        have n2 := nx M2 true ⟨f1, f2⟩ (decide_eq_true ⟨c1, c2⟩).symm (fun _ => (f3 c2).2)
        rw [bI_t] at n2
        exact n2
      · simp (disch := omega) only [decide_eq_false c2, bI_f, l_0, l_1, l_2, l_3, l_4, l_5, l_6, l_7, l_8, l_9, l_10, l_20, l_30, l_31, l_34, l_40, l_65, l_100, l_255, l_11, l_12, l_24, l_600, l_689, l_999, l_120, l_32, nI_add, pk_mul, n_sub, n_leT, n_leF, n_ltT, n_ltF, n_eqT, n_eqF, n_cl, n_vp, fa_andq, fa_orq, fa_xorq, n_shl, n_shr, n_t1, n_t0, n_div, n_m1, not_true_eq_false, Bool.false_eq_true, false_and, Bool.not_false, Bool.not_true, Bool.and_true, Bool.and_false, Bool.false_and, Bool.true_and, true_and, and_true, true_or, or_true, not_false_eq_true, Option.some.injEq, exists_eq_left', forall_eq, ↓reduceIte, Nat.add_zero, Nat.zero_add, and_self]
        have n2 := nx M2 false ⟨f1, f2⟩ (decide_eq_false (fun z => c2 z.2)).symm (fun z => absurd z Bool.false_ne_true)
        rw [bI_f] at n2
        exact n2
    · simp (disch := omega) only [l_X8_comes_155, q1.sh, q1.v1, c1, l_0, l_1, l_2, l_3, l_4, l_5, l_6, l_7, l_8, l_9, l_10, l_20, l_30, l_31, l_34, l_40, l_65, l_100, l_255, l_11, l_12, l_24, l_600, l_689, l_999, l_120, l_32, nI_add, pk_mul, n_sub, n_leT, n_leF, n_ltT, n_ltF, n_eqT, n_eqF, n_cl, n_vp, fa_andq, fa_orq, fa_xorq, n_shl, n_shr, n_t1, n_t0, n_div, n_m1, not_true_eq_false, Bool.false_eq_true, false_and, Bool.not_false, Bool.not_true, Bool.and_true, Bool.and_false, Bool.false_and, Bool.true_and, true_and, and_true, true_or, or_true, not_false_eq_true, Option.some.injEq, exists_eq_left', forall_eq, ↓reduceIte, Nat.add_zero, Nat.zero_add, and_self]
      have n2 := nx M1 false FC.rf (decide_eq_false (fun z => c1 z.1)).symm (fun z => absurd z Bool.false_ne_true)
      rw [bI_f] at n2
      exact n2
theorem s_X8_comes (h : MR m sg pl M) {ha t S c : Nat} (hha : ha < 3) (ht : t < 90) (hS : S < 32) (hn : pl 0 < 20) (P : Int32 → Mm → Prop)
    (K : ∀ M', FP m M M' → MSea m sg M' → MN m (cm sg pl (psn pl ha t) t ha S c (free sg pl t)) M' → P (nI (psn pl ha t)) M') : w_X8_comes M m (nI ha) (nI t) (nI S) (nI c) P := by
  have b := h.sb.b
  have at_ : psn pl ha t ≤ pl 0 := fi_le _ _
  simp (disch := omega) only [w_X8_comes, h.sh, e_X8_freeAt h, e_X8_comes_10 h, h.v2, l_0, l_1, l_2, l_3, l_4, l_5, l_6, l_7, l_8, l_9, l_10, l_20, l_30, l_31, l_34, l_40, l_65, l_100, l_255, l_11, l_12, l_24, l_600, l_689, l_999, l_120, l_32, nI_add, pk_mul, n_sub, n_leT, n_leF, n_ltT, n_ltF, n_eqT, n_eqF, n_cl, n_vp, fa_andq, fa_orq, fa_xorq, n_shl, n_shr, n_t1, n_t0, n_div, n_m1, not_true_eq_false, Bool.false_eq_true, false_and, Bool.not_false, Bool.not_true, Bool.and_true, Bool.and_false, Bool.false_and, Bool.true_and, true_and, and_true, true_or, or_true, not_false_eq_true, Option.some.injEq, exists_eq_left', forall_eq, ↓reduceIte, Nat.add_zero, Nat.zero_add, and_self]
  refine s_X8_comes_68 h.mn hn at_ _ _ fun M1 f1 g1 => ?_
  have q1 := h.q.fr f1 (by omega)
  simp (disch := omega) only [g1.sh, g1.v, if_neg, zk_sI, zl_sI, zR_sI, zJ_sI, zn_sI, zI_sIq, zk_sJ, zl_sJ, zR_sJ, zI_sJ, zn_sJ, l_0, l_1, l_2, l_3, l_4, l_5, l_6, l_7, l_8, l_9, l_10, l_20, l_30, l_31, l_34, l_40, l_65, l_100, l_255, l_11, l_12, l_24, l_600, l_689, l_999, l_120, l_32, nI_add, pk_mul, n_sub, n_leT, n_leF, n_ltT, n_ltF, n_eqT, n_eqF, n_cl, n_vp, fa_andq, fa_orq, fa_xorq, n_shl, n_shr, n_t1, n_t0, n_div, n_m1, not_true_eq_false, Bool.false_eq_true, false_and, Bool.not_false, Bool.not_true, Bool.and_true, Bool.and_false, Bool.false_and, Bool.true_and, true_and, and_true, true_or, or_true, not_false_eq_true, Option.some.injEq, exists_eq_left', forall_eq, ↓reduceIte, Nat.add_zero, Nat.zero_add, and_self]
  have g2 := ((((g1.set 0 (pl 0 + 1)).set (9 + 34 * psn pl ha t) t).set (9 + 34 * psn pl ha t + 1) ha).set (9 + 34 * psn pl ha t + 2) c).set (9 + 34 * psn pl ha t + 3) S
  have f2 : FrI (fun b => b = m + 2) M1 (sI (sI (sI (sI (sI M1 (m + 2) 0 (nI (pl 0 + 1))) (m + 2) (9 + 34 * psn pl ha t) (nI t)) (m + 2) (9 + 34 * psn pl ha t + 1) (nI ha)) (m + 2) (9 + 34 * psn pl ha t + 2) (nI c)) (m + 2) (9 + 34 * psn pl ha t + 3) (nI S)) := ((((FrI.sI (by rfl)).trans (FrI.sI (by rfl))).trans (FrI.sI (by rfl))).trans (FrI.sI (by rfl))).trans (FrI.sI (by rfl))
  refine s_X8_comes_155 (q1.fr f2 (by omega)) g2 hS (free_lt h.sb t) (by omega) _ _ fun M3 f3 q3 g3 => ?_
  refine K M3 ((FP.m2 (f1.trans f2)).trans f3) q3 (g3.of fun i hi => ?_)
  unfold cm nb
  try dsimp only
  by_cases c0 : i = 0
  · rw [if_pos c0, if_neg (by omega), if_neg (by omega), if_neg (by omega), if_neg (by omega), if_neg (by omega), if_pos c0]
  · rw [if_neg c0]
    by_cases c1 : i < 9 + 34 * psn pl ha t
    · rw [if_pos c1, if_neg (by omega), if_neg (by omega), if_neg (by omega), if_neg (by omega), if_neg (by omega), if_neg c0, if_neg (by omega)]
    · rw [if_neg c1]
      by_cases c2 : i < 9 + 34 * psn pl ha t + 34
      · rw [if_pos c2]
        by_cases d0 : i - (9 + 34 * psn pl ha t) = 0
        · rw [if_pos d0, if_neg (by omega), if_neg (by omega), if_neg (by omega), if_neg (by omega), if_pos (by omega)]
        · rw [if_neg d0]
          by_cases d1 : i - (9 + 34 * psn pl ha t) = 1
          · rw [if_pos d1, if_neg (by omega), if_neg (by omega), if_neg (by omega), if_pos (by omega)]
          · rw [if_neg d1]
            by_cases d2 : i - (9 + 34 * psn pl ha t) = 2
            · rw [if_pos d2, if_neg (by omega), if_neg (by omega), if_pos (by omega)]
            · rw [if_neg d2]
              by_cases d3 : i - (9 + 34 * psn pl ha t) = 3
              · rw [if_pos d3, if_neg (by omega), if_pos (by omega)]
              · rw [if_neg d3]
                by_cases d4 : i - (9 + 34 * psn pl ha t) < 4 + 6 * sg 3
                · rw [if_pos d4, if_pos (by omega), show i - (9 + 34 * psn pl ha t) - 4 = i - (9 + 34 * psn pl ha t + 4) by omega]
                · rw [if_neg d4, if_neg (by omega), if_neg (by omega), if_neg (by omega), if_neg (by omega), if_neg (by omega), if_neg c0, if_neg (by omega)]
                  congr 1; omega
      · rw [if_neg c2]
        by_cases c3 : i < 9 + 34 * (pl 0 + 1)
        · rw [if_pos c3, if_neg (by omega), if_neg (by omega), if_neg (by omega), if_neg (by omega), if_neg (by omega), if_neg c0, if_pos (by omega)]
        · rw [if_neg c3, if_neg (by omega), if_neg (by omega), if_neg (by omega), if_neg (by omega), if_neg (by omega), if_neg c0, if_neg (by omega)]
end MV
