/-! COUNTS AND COSTS -/
/-- sums -/
def su (f : Nat → Nat) (n : Nat) : Nat := fo (fun i a => a + f i) n 0
theorem su_s (f : Nat → Nat) (n : Nat) : su f (n + 1) = su f n + f n := rfl
theorem su_ext {f g : Nat → Nat} {n : Nat} (h : ∀ i, i < n → f i = g i) : su f n = su g n := fo_ext (fun i s hi => by rw [h i hi]) 0 n (Nat.le_refl n)
theorem su_add (f g : Nat → Nat) : ∀ n, su (fun i => f i + g i) n = su f n + su g n
  | 0 => rfl
  | n + 1 => by rw [su_s, su_s, su_s, su_add f g n]; omega
theorem su_zero : ∀ n, su (fun _ => 0) n = 0
  | 0 => rfl
  | n + 1 => by rw [su_s, su_zero n]
theorem su_swap (f : Nat → Nat → Nat) (m : Nat) : ∀ n, su (fun i => su (fun j => f i j) m) n = su (fun j => su (fun i => f i j) n) m
  | 0 => (su_zero m).symm
  | n + 1 => by
    rw [su_s, su_swap f m n, ← su_add]
    exact su_ext fun j _ => rfl
theorem su_one {c d : Nat} : ∀ n, su (fun p => if c = p then d else 0) n = if c < n then d else 0
  | 0 => rfl
  | n + 1 => by
    rw [su_s, su_one n]
    by_cases e : c = n
    · subst e; rw [if_neg (Nat.lt_irrefl c), if_pos rfl, if_pos (by omega)]; omega
    · rw [if_neg e]
      by_cases l : c < n
      · rw [if_pos l, if_pos (by omega)]; rfl
      · rw [if_neg l, if_neg (by omega)]
/-- doublings of a work in a service, by players of the set T -/
def dW (sg pl : Nat → Nat) (s T w n : Nat) : Nat := if (oS pl s 3).testBit w = true then fo (fun j c => if T.testBit (oS pl s (4 + 6 * w + j)) = true then c + dbo sg (oS pl s (4 + 6 * w + j)) (oW sg w (5 + j)) else c) (oW sg w 4) n else n
def dIn (sg pl : Nat → Nat) (s T : Nat) : Nat := fo (dW sg pl s T) (sg 3) 0
def dOf (sg pl : Nat → Nat) (p : Nat) : Nat := fo (fun s n => n + dIn sg pl s (2 ^ p)) (pl 0) 0
def dAll (sg pl : Nat → Nat) : Nat := fo (fun s n => n + dIn sg pl s 255) (pl 0) 0
def bey (sg pl : Nat → Nat) (p : Nat) : Int32 := nI (svc sg pl p) - nI (pl (1 + p))
def otI (sg pl : Nat → Nat) (p : Nat) : Int32 := if nI 0 < bey sg pl p then bey sg pl p * nI (oP sg p 0) else nI 0
/-- the first and the last day of a work -/
def fl (pl : Nat → Nat) (w n : Nat) : Nat × Nat := fo (fun s z => if (oS pl s 3).testBit w = true then (if z.1 = 4294967295 then oS pl s 0 / 3 else z.1, oS pl s 0 / 3) else z) n (4294967295, 4294967295)
theorem fl_s (pl : Nat → Nat) (w n : Nat) : fl pl w (n + 1) = if (oS pl n 3).testBit w = true then (if (fl pl w n).1 = 4294967295 then oS pl n 0 / 3 else (fl pl w n).1, oS pl n 0 / 3) else fl pl w n := rfl
def rentI (sg pl : Nat → Nat) (w : Nat) : Int32 := if (fl pl w (pl 0)).1 = 4294967295 then nI 0 else (nI (fl pl w (pl 0)).2 - nI (fl pl w (pl 0)).1 + nI 1) * nI (oW sg w 3)
theorem fl_lt {sg pl : Nat → Nat} (hs : SB sg) (hp : PB sg pl) (w : Nat) : ∀ n, n ≤ pl 0 → ((fl pl w n).1 < 30 ∧ (fl pl w n).2 < 30) ∨ fl pl w n = (4294967295, 4294967295)
  | 0, _ => Or.inr rfl
  | n + 1, h => by
    have d := hp.s hs (s := n) (by omega)
    rcases fl_lt hs hp w n (by omega) with i | i
    · rw [fl_s]
      by_cases c : (oS pl n 3).testBit w = true
      · rw [if_pos c, if_neg (by omega)]
        exact Or.inl ⟨i.1, by show oS pl n 0 / 3 < 30; omega⟩
      · rw [if_neg c]; exact Or.inl i
    · rw [fl_s, i]
      by_cases c : (oS pl n 3).testBit w = true
      · rw [if_pos c, if_pos rfl]
        exact Or.inl ⟨by show oS pl n 0 / 3 < 30; omega, by show oS pl n 0 / 3 < 30; omega⟩
      · rw [if_neg c]; exact Or.inr rfl
/-- sums of ints -/
def sI32 (f : Nat → Int32) (n : Nat) : Int32 := fo (fun i a => a + f i) n (nI 0)
theorem sI32_s (f : Nat → Int32) (n : Nat) : sI32 f (n + 1) = sI32 f n + f n := rfl
def costI (sg pl : Nat → Nat) (k : Nat) : Int32 := if k = 0 then sI32 (rentI sg pl) (sg 3) else if k = 1 then sI32 (otI sg pl) (sg 2) else if k = 2 then nI (sg 5) * nI (dAll sg pl) else sI32 (rentI sg pl) (sg 3) + sI32 (otI sg pl) (sg 2) + nI (sg 5) * nI (dAll sg pl)
theorem dIn_su (sg pl : Nat → Nat) (s T : Nat) : dIn sg pl s T = su (fun w => if (oS pl s 3).testBit w = true then su (fun j => if T.testBit (oS pl s (4 + 6 * w + j)) = true then dbo sg (oS pl s (4 + 6 * w + j)) (oW sg w (5 + j)) else 0) (oW sg w 4) else 0) (sg 3) := by
  have inner : ∀ w a n, fo (fun j c => if T.testBit (oS pl s (4 + 6 * w + j)) = true then c + dbo sg (oS pl s (4 + 6 * w + j)) (oW sg w (5 + j)) else c) n a = a + su (fun j => if T.testBit (oS pl s (4 + 6 * w + j)) = true then dbo sg (oS pl s (4 + 6 * w + j)) (oW sg w (5 + j)) else 0) n := by
    intro w a n
    induction n with
    | zero => rfl
    | succ n ih =>
      rw [fo_s, su_s, ih]
      by_cases c : T.testBit (oS pl s (4 + 6 * w + n)) = true
      · rw [if_pos c, if_pos c]; omega
      · rw [if_neg c, if_neg c]; rfl
  have outer : ∀ n, fo (dW sg pl s T) n 0 = su (fun w => if (oS pl s 3).testBit w = true then su (fun j => if T.testBit (oS pl s (4 + 6 * w + j)) = true then dbo sg (oS pl s (4 + 6 * w + j)) (oW sg w (5 + j)) else 0) (oW sg w 4) else 0) n := by
    intro n
    induction n with
    | zero => rfl
    | succ n ih =>
      rw [fo_s, su_s, ih]
      unfold dW
      by_cases c : (oS pl s 3).testBit n = true
      · rw [if_pos c, if_pos c, inner]
      · rw [if_neg c, if_neg c]; rfl
  exact outer _
theorem tb255 {p : Nat} (h : p < 8) : (255 : Nat).testBit p = true := by
  rw [show (255 : Nat) = 2 ^ 8 - 1 from rfl, Nat.testBit_two_pow_sub_one]
  exact decide_eq_true h
theorem dIn_all {sg pl : Nat → Nat} (hs : SB sg) (hp : PB sg pl) {s : Nat} (hn : s < pl 0) : su (fun p => dIn sg pl s (2 ^ p)) (sg 2) = dIn sg pl s 255 := by
  have b := hs.b
  rw [dIn_su sg pl s 255]
  rw [su_ext (g := fun p => su (fun w => if (oS pl s 3).testBit w = true then su (fun j => if (2 ^ p).testBit (oS pl s (4 + 6 * w + j)) = true then dbo sg (oS pl s (4 + 6 * w + j)) (oW sg w (5 + j)) else 0) (oW sg w 4) else 0) (sg 3)) (fun p _ => dIn_su sg pl s (2 ^ p))]
  rw [su_swap]
  refine su_ext fun w hw => ?_
  by_cases c : (oS pl s 3).testBit w = true
  · rw [if_pos c]
    simp only [if_pos c]
    rw [su_swap]
    refine su_ext fun j hj => ?_
    have d := hp.c hn hw c hj
    rw [if_pos (tb255 (by omega))]
    rw [su_ext (g := fun p => if oS pl s (4 + 6 * w + j) = p then dbo sg (oS pl s (4 + 6 * w + j)) (oW sg w (5 + j)) else 0) (fun p _ => by
      rw [Nat.testBit_two_pow]
      by_cases e : oS pl s (4 + 6 * w + j) = p
      · rw [if_pos e, if_pos (decide_eq_true e.symm)]
      · rw [if_neg e, if_neg (by rw [decide_eq_false (fun q => e q.symm)]; decide)])]
    rw [su_one, if_pos d]
  · rw [if_neg c]
    rw [su_ext (g := fun _ => 0) (fun p _ => if_neg c)]
    exact su_zero _
theorem dOf_all {sg pl : Nat → Nat} (hs : SB sg) (hp : PB sg pl) : su (dOf sg pl) (sg 2) = dAll sg pl := by
  have e : ∀ p, dOf sg pl p = su (fun s => dIn sg pl s (2 ^ p)) (pl 0) := fun p => rfl
  have e2 : dAll sg pl = su (fun s => dIn sg pl s 255) (pl 0) := rfl
  rw [su_ext (g := fun p => su (fun s => dIn sg pl s (2 ^ p)) (pl 0)) (fun p _ => e p), su_swap, e2]
  exact su_ext fun s hs2 => dIn_all hs hp hs2
section CO
variable {x sa a m : Nat} {sg pl : Nat → Nat} {M : Mm}
theorem e_X1_doublingsBy_21 (hs : SB sg) (hp : PB sg pl) (h : CSea sa sg M) (h4 : CPl a sg pl M) {s w T n0 : Nat} (hn : s < pl 0) (hw : w < sg 3) (hT : T < 256) (P : Int32 → Mm → Prop) (K : Mm → Nat → Nat → Int32 → Int32 → Int32 → Int32 → Prop) : (∃ n, l_X1_doublingsBy_21 P K n M sa a (nI s) (nI T) (nI n0) (nI w) (nI 0)) ↔ K M sa a (nI s) (nI T) (nI (dW sg pl s T w n0)) (nI w) := by
  have b := hs.b
  have c := hs.sc hw
  have e : dW sg pl s T w n0 = fo (fun j c => if (oS pl s 3).testBit w = true ∧ T.testBit (oS pl s (4 + 6 * w + j)) = true then c + dbo sg (oS pl s (4 + 6 * w + j)) (oW sg w (5 + j)) else c) (oW sg w 4) n0 := by
    unfold dW
    by_cases t : (oS pl s 3).testBit w = true
    · rw [if_pos t]
      exact fo_ext (fun j c _ => by simp only [t, true_and]) _ _ (Nat.le_refl _)
    · rw [if_neg t]
      have z : ∀ n, fo (fun j c => if (oS pl s 3).testBit w = true ∧ T.testBit (oS pl s (4 + 6 * w + j)) = true then c + dbo sg (oS pl s (4 + 6 * w + j)) (oW sg w (5 + j)) else c) n n0 = n0 := by
        intro n
        induction n with
        | zero => rfl
        | succ n ih => rw [fo_s, if_neg (fun q => t q.1), ih]
      exact (z _).symm
  rw [e]
  refine lpE (fun n (z : Int32 × Int32) => l_X1_doublingsBy_21 P K n M sa a (nI s) (nI T) z.1 (nI w) z.2) (fun i => (nI (fo (fun j c => if (oS pl s 3).testBit w = true ∧ T.testBit (oS pl s (4 + 6 * w + j)) = true then c + dbo sg (oS pl s (4 + 6 * w + j)) (oW sg w (5 + j)) else c) i n0), nI i)) (oW sg w 4) (fun _ h => h.elim) (fun _ => ?_) (fun n i hi => ?_)
  · simp (disch := omega) only [l_X1_doublingsBy_21, h.s1, h.w hw, l_0, l_1, l_2, l_3, l_4, l_5, l_6, l_7, l_8, l_9, l_10, l_20, l_30, l_31, l_34, l_40, l_65, l_100, l_255, l_11, l_12, l_24, l_600, l_689, l_999, l_120, l_32, nI_add, pk_mul, n_sub, n_leT, n_leF, n_ltT, n_ltF, n_eqT, n_eqF, n_cl, n_vp, fa_andq, fa_orq, fa_xorq, n_shl, n_shr, n_t1, n_t0, n_div, n_m1, not_true_eq_false, Bool.false_eq_true, false_and, Bool.not_false, Bool.not_true, Bool.and_true, Bool.and_false, Bool.false_and, Bool.true_and, true_and, and_true, true_or, or_true, not_false_eq_true, Option.some.injEq, exists_eq_left', forall_eq, ↓reduceIte, Nat.add_zero, Nat.zero_add, and_self]
  · by_cases t : (oS pl s 3).testBit w = true
    · have d := hp.c hn hw t hi
      have st := hs.st hw hi
      have q := cs_in (s := s) (by omega) hw t hi
      by_cases u : T.testBit (oS pl s (4 + 6 * w + i)) = true
      · simp (disch := omega) only [l_X1_doublingsBy_21, h.s1, h.w hw, h4.sh, e_X4_playerOn hp h4 hn, q, e_has, u, t, bI_t, e_X6_instrumentOfSeat hs h hw, e_X6_doublingOn hs h, fo_s, l_0, l_1, l_2, l_3, l_4, l_5, l_6, l_7, l_8, l_9, l_10, l_20, l_30, l_31, l_34, l_40, l_65, l_100, l_255, l_11, l_12, l_24, l_600, l_689, l_999, l_120, l_32, nI_add, pk_mul, n_sub, n_leT, n_leF, n_ltT, n_ltF, n_eqT, n_eqF, n_cl, n_vp, fa_andq, fa_orq, fa_xorq, n_shl, n_shr, n_t1, n_t0, n_div, n_m1, not_true_eq_false, Bool.false_eq_true, false_and, Bool.not_false, Bool.not_true, Bool.and_true, Bool.and_false, Bool.false_and, Bool.true_and, true_and, and_true, true_or, or_true, not_false_eq_true, Option.some.injEq, exists_eq_left', forall_eq, ↓reduceIte, Nat.add_zero, Nat.zero_add, and_self]
      · simp (disch := omega) only [l_X1_doublingsBy_21, h.s1, h.w hw, h4.sh, e_X4_playerOn hp h4 hn, q, e_has, b_no u, t, bI_f, fo_s, and_false, l_0, l_1, l_2, l_3, l_4, l_5, l_6, l_7, l_8, l_9, l_10, l_20, l_30, l_31, l_34, l_40, l_65, l_100, l_255, l_11, l_12, l_24, l_600, l_689, l_999, l_120, l_32, nI_add, pk_mul, n_sub, n_leT, n_leF, n_ltT, n_ltF, n_eqT, n_eqF, n_cl, n_vp, fa_andq, fa_orq, fa_xorq, n_shl, n_shr, n_t1, n_t0, n_div, n_m1, not_true_eq_false, Bool.false_eq_true, false_and, Bool.not_false, Bool.not_true, Bool.and_true, Bool.and_false, Bool.false_and, Bool.true_and, true_and, and_true, true_or, or_true, not_false_eq_true, Option.some.injEq, exists_eq_left', forall_eq, ↓reduceIte, Nat.add_zero, Nat.zero_add, and_self]
    · have q := cs_out (sg := sg) (pl := pl) (s := s) (w := w) (j := i) (by omega) (fun q => t q.2.1)
      simp (disch := omega) only [l_X1_doublingsBy_21, h.s1, h.w hw, h4.sh, e_X4_playerOn hp h4 hn, q, t, fo_s, l_0, l_1, l_2, l_3, l_4, l_5, l_6, l_7, l_8, l_9, l_10, l_20, l_30, l_31, l_34, l_40, l_65, l_100, l_255, l_11, l_12, l_24, l_600, l_689, l_999, l_120, l_32, nI_add, pk_mul, n_sub, n_leT, n_leF, n_ltT, n_ltF, n_eqT, n_eqF, n_cl, n_vp, fa_andq, fa_orq, fa_xorq, n_shl, n_shr, n_t1, n_t0, n_div, n_m1, not_true_eq_false, Bool.false_eq_true, false_and, Bool.not_false, Bool.not_true, Bool.and_true, Bool.and_false, Bool.false_and, Bool.true_and, true_and, and_true, true_or, or_true, not_false_eq_true, Option.some.injEq, exists_eq_left', forall_eq, ↓reduceIte, Nat.add_zero, Nat.zero_add, and_self]
theorem e_X1_doublingsBy (hs : SB sg) (hp : PB sg pl) (h : CSea sa sg M) (h4 : CPl a sg pl M) {s T : Nat} (hn : s < pl 0) (hT : T < 256) (P : Int32 → Mm → Prop) : w_X1_doublingsBy M sa a (nI s) (nI T) P ↔ P (nI (dIn sg pl s T)) M := by
  have b := hs.b
  unfold w_X1_doublingsBy
  refine lpE (fun n (z : Int32 × Int32) => l_X1_doublingsBy_6 P (fun M8 x4_8 => P x4_8 M8) n M sa a (nI s) (nI T) z.1 z.2) (fun k => (nI (fo (dW sg pl s T) k 0), nI k)) (sg 3) (fun _ h => h.elim) (fun _ => ?_) (fun n k hk => ?_)
  · simp (disch := omega) only [l_X1_doublingsBy_6, h.s1, h.n, dIn, l_0, l_1, l_2, l_3, l_4, l_5, l_6, l_7, l_8, l_9, l_10, l_20, l_30, l_31, l_34, l_40, l_65, l_100, l_255, l_11, l_12, l_24, l_600, l_689, l_999, l_120, l_32, nI_add, pk_mul, n_sub, n_leT, n_leF, n_ltT, n_ltF, n_eqT, n_eqF, n_cl, n_vp, fa_andq, fa_orq, fa_xorq, n_shl, n_shr, n_t1, n_t0, n_div, n_m1, not_true_eq_false, Bool.false_eq_true, false_and, Bool.not_false, Bool.not_true, Bool.and_true, Bool.and_false, Bool.false_and, Bool.true_and, true_and, and_true, true_or, or_true, not_false_eq_true, Option.some.injEq, exists_eq_left', forall_eq, ↓reduceIte, Nat.add_zero, Nat.zero_add, and_self]
  · simp (disch := omega) only [l_X1_doublingsBy_6, h.s1, h.n, e_X1_doublingsBy_21 hs hp h h4 hn, fo_s, l_0, l_1, l_2, l_3, l_4, l_5, l_6, l_7, l_8, l_9, l_10, l_20, l_30, l_31, l_34, l_40, l_65, l_100, l_255, l_11, l_12, l_24, l_600, l_689, l_999, l_120, l_32, nI_add, pk_mul, n_sub, n_leT, n_leF, n_ltT, n_ltF, n_eqT, n_eqF, n_cl, n_vp, fa_andq, fa_orq, fa_xorq, n_shl, n_shr, n_t1, n_t0, n_div, n_m1, not_true_eq_false, Bool.false_eq_true, false_and, Bool.not_false, Bool.not_true, Bool.and_true, Bool.and_false, Bool.false_and, Bool.true_and, true_and, and_true, true_or, or_true, not_false_eq_true, Option.some.injEq, exists_eq_left', forall_eq, ↓reduceIte, Nat.add_zero, Nat.zero_add, and_self]
theorem e_X1_doublingsIn (hs : SB sg) (hp : PB sg pl) (h : CSea sa sg M) (h4 : CPl a sg pl M) {s : Nat} (hn : s < pl 0) (P : Int32 → Mm → Prop) : w_X1_doublingsIn M sa a (nI s) P ↔ P (nI (dIn sg pl s 255)) M := by
  have pt : (2 : Nat) ^ 8 - 1 = 255 := rfl
  simp (disch := omega) only [w_X1_doublingsIn, e_firstBits, pt, e_X1_doublingsBy hs hp h h4, l_0, l_1, l_2, l_3, l_4, l_5, l_6, l_7, l_8, l_9, l_10, l_20, l_30, l_31, l_34, l_40, l_65, l_100, l_255, l_11, l_12, l_24, l_600, l_689, l_999, l_120, l_32, nI_add, pk_mul, n_sub, n_leT, n_leF, n_ltT, n_ltF, n_eqT, n_eqF, n_cl, n_vp, fa_andq, fa_orq, fa_xorq, n_shl, n_shr, n_t1, n_t0, n_div, n_m1, not_true_eq_false, Bool.false_eq_true, false_and, Bool.not_false, Bool.not_true, Bool.and_true, Bool.and_false, Bool.false_and, Bool.true_and, true_and, and_true, true_or, or_true, not_false_eq_true, Option.some.injEq, exists_eq_left', forall_eq, ↓reduceIte, Nat.add_zero, Nat.zero_add, and_self]
theorem e_X1_doublingsOf (hs : SB sg) (hp : PB sg pl) (h : CSea sa sg M) (h4 : CPl a sg pl M) {p : Nat} (hpp : p < 8) (P : Int32 → Mm → Prop) : w_X1_doublingsOf M sa a (nI p) P ↔ P (nI (dOf sg pl p)) M := by
  have n := hp.n
  have pw : 2 ^ p < 256 := Nat.pow_lt_pow_right (n := 8) (by decide) hpp
  unfold w_X1_doublingsOf
  refine lpE (fun n (z : Int32 × Int32) => l_X1_doublingsOf_5 P (fun M8 x4_8 => P x4_8 M8) n M sa a (nI p) z.1 z.2) (fun k => (nI (fo (fun s n => n + dIn sg pl s (2 ^ p)) k 0), nI k)) (pl 0) (fun _ h => h.elim) (fun _ => ?_) (fun n k hk => ?_)
  · simp (disch := omega) only [l_X1_doublingsOf_5, h4.sh, h4.n, dOf, l_0, l_1, l_2, l_3, l_4, l_5, l_6, l_7, l_8, l_9, l_10, l_20, l_30, l_31, l_34, l_40, l_65, l_100, l_255, l_11, l_12, l_24, l_600, l_689, l_999, l_120, l_32, nI_add, pk_mul, n_sub, n_leT, n_leF, n_ltT, n_ltF, n_eqT, n_eqF, n_cl, n_vp, fa_andq, fa_orq, fa_xorq, n_shl, n_shr, n_t1, n_t0, n_div, n_m1, not_true_eq_false, Bool.false_eq_true, false_and, Bool.not_false, Bool.not_true, Bool.and_true, Bool.and_false, Bool.false_and, Bool.true_and, true_and, and_true, true_or, or_true, not_false_eq_true, Option.some.injEq, exists_eq_left', forall_eq, ↓reduceIte, Nat.add_zero, Nat.zero_add, and_self]
  · simp (disch := omega) only [l_X1_doublingsOf_5, h4.sh, h4.n, e_X1_doublingsBy hs hp h h4, fo_s, l_0, l_1, l_2, l_3, l_4, l_5, l_6, l_7, l_8, l_9, l_10, l_20, l_30, l_31, l_34, l_40, l_65, l_100, l_255, l_11, l_12, l_24, l_600, l_689, l_999, l_120, l_32, nI_add, pk_mul, n_sub, n_leT, n_leF, n_ltT, n_ltF, n_eqT, n_eqF, n_cl, n_vp, fa_andq, fa_orq, fa_xorq, n_shl, n_shr, n_t1, n_t0, n_div, n_m1, not_true_eq_false, Bool.false_eq_true, false_and, Bool.not_false, Bool.not_true, Bool.and_true, Bool.and_false, Bool.false_and, Bool.true_and, true_and, and_true, true_or, or_true, not_false_eq_true, Option.some.injEq, exists_eq_left', forall_eq, ↓reduceIte, Nat.add_zero, Nat.zero_add, and_self]
theorem e_X1_doublings (hs : SB sg) (hp : PB sg pl) (h : CSea sa sg M) (h4 : CPl a sg pl M) (P : Int32 → Mm → Prop) : w_X1_doublings M sa a P ↔ P (nI (sg 5) * nI (dAll sg pl)) M := by
  have n := hp.n
  unfold w_X1_doublings
  refine lpE (fun n (z : Int32 × Int32) => l_X1_doublings_4 P (fun M2 x0_2 x2_2 => zk M2 x0_2 = 6 ∧ P ((zI M2 x0_2 1) * x2_2) M2) n M sa a z.1 z.2) (fun k => (nI (fo (fun s n => n + dIn sg pl s 255) k 0), nI k)) (pl 0) (fun _ h => h.elim) (fun _ => ?_) (fun n k hk => ?_)
  · simp (disch := omega) only [l_X1_doublings_4, h4.sh, h4.n, h.s1, h.n, dAll, n_leT, not_true_eq_false, Bool.false_eq_true, false_and, Bool.not_false, Bool.not_true, Bool.and_true, Bool.and_false, Bool.false_and, Bool.true_and, true_and, and_true, true_or, or_true, not_false_eq_true, Option.some.injEq, exists_eq_left', forall_eq, ↓reduceIte, Nat.add_zero, Nat.zero_add, and_self]
  · simp (disch := omega) only [l_X1_doublings_4, h4.sh, h4.n, e_X1_doublingsIn hs hp h h4, fo_s, n_leF, l_1, nI_add, not_true_eq_false, Bool.false_eq_true, false_and, Bool.not_false, Bool.not_true, Bool.and_true, Bool.and_false, Bool.false_and, Bool.true_and, true_and, and_true, true_or, or_true, not_false_eq_true, Option.some.injEq, exists_eq_left', forall_eq, ↓reduceIte, Nat.add_zero, Nat.zero_add, and_self]
theorem e_X1_overtimeOf (hs : SB sg) (hp : PB sg pl) (h : CSea sa sg M) (h4 : CPl a sg pl M) {p : Nat} (hpp : p < sg 2) (P : Int32 → Mm → Prop) : w_X1_overtimeOf M sa a (nI p) P ↔ P (otI sg pl p) M := by
  have b := hs.b
  have e : otI sg pl p = nI (oP sg p 0) * (if nI 0 < bey sg pl p then bey sg pl p else nI 0) := by
    unfold otI
    split
    · exact Int32.mul_comm _ _
    · exact (Int32.mul_zero).symm
  rw [e]
  unfold bey
  simp (disch := omega) only [w_X1_overtimeOf, h.s1, h.p hpp, h4.sh, e_X4_beyondContract hs hp h4, n_cl, n_vp, l_0, not_true_eq_false, Bool.false_eq_true, false_and, Bool.not_false, Bool.not_true, Bool.and_true, Bool.and_false, Bool.false_and, Bool.true_and, true_and, and_true, true_or, or_true, not_false_eq_true, Option.some.injEq, exists_eq_left', forall_eq, ↓reduceIte, Nat.add_zero, Nat.zero_add, and_self]
  exact Iff.rfl
theorem e_X1_overtime (hs : SB sg) (hp : PB sg pl) (h : CSea sa sg M) (h4 : CPl a sg pl M) (P : Int32 → Mm → Prop) : w_X1_overtime M sa a P ↔ P (sI32 (otI sg pl) (sg 2)) M := by
  have b := hs.b
  unfold w_X1_overtime
  refine lpE (fun n (z : Int32 × Int32) => l_X1_overtime_4 P (fun M8 x4_8 => P x4_8 M8) n M sa a z.1 z.2) (fun k => (sI32 (otI sg pl) k, nI k)) (sg 2) (fun _ h => h.elim) (fun _ => ?_) (fun n k hk => ?_)
  · simp (disch := omega) only [l_X1_overtime_4, h.s1, h.n, n_leT, not_true_eq_false, Bool.false_eq_true, false_and, Bool.not_false, Bool.not_true, Bool.and_true, Bool.and_false, Bool.false_and, Bool.true_and, true_and, and_true, true_or, or_true, not_false_eq_true, Option.some.injEq, exists_eq_left', forall_eq, ↓reduceIte, Nat.add_zero, Nat.zero_add, and_self]
  · simp (disch := omega) only [l_X1_overtime_4, h.s1, h.n, e_X1_overtimeOf hs hp h h4, n_leF, l_1, nI_add, sI32_s, not_true_eq_false, Bool.false_eq_true, false_and, Bool.not_false, Bool.not_true, Bool.and_true, Bool.and_false, Bool.false_and, Bool.true_and, true_and, and_true, true_or, or_true, not_false_eq_true, Option.some.injEq, exists_eq_left', forall_eq, ↓reduceIte, Nat.add_zero, Nat.zero_add, and_self]
theorem e_X1_rentOf (hs : SB sg) (hp : PB sg pl) (h : CSea sa sg M) (h4 : CPl a sg pl M) {w : Nat} (hw : w < sg 3) (P : Int32 → Mm → Prop) : w_X1_rentOf M sa a (nI w) P ↔ P (rentI sg pl w) M := by
  have n := hp.n
  have b := hs.b
  unfold w_X1_rentOf
  refine lpE (fun n (z : Int32 × Int32 × Int32) => l_X1_rentOf_8 P (fun M4 x0_4 x2_4 x3_4 x4_4 => (if x3_4 = (-1 : Int32) then P (0 : Int32) M4 else (zk M4 x0_4 = 6 ∧ ∃ a5, zR M4 x0_4 16 = some a5 ∧ zk M4 a5 = 10 ∧ vp_in x2_4 (zl M4 a5) ∧ P ((zI M4 a5 x2_4.toNatClampNeg) * ((x4_4 - x3_4) + (1 : Int32))) M4))) n M sa a (nI w) z.1 z.2.1 z.2.2) (fun k => (nI (fl pl w k).1, nI (fl pl w k).2, nI k)) (pl 0) (fun _ h => h.elim) (fun _ => ?_) (fun n k hk => ?_)
  · unfold rentI
    have f := fl_lt hs hp w (pl 0) (Nat.le_refl _)
    by_cases c : (fl pl w (pl 0)).1 = 4294967295
    · simp (disch := omega) only [l_X1_rentOf_8, h4.sh, h4.n, c, l_0, l_1, l_2, l_3, l_4, l_5, l_6, l_7, l_8, l_9, l_10, l_20, l_30, l_31, l_34, l_40, l_65, l_100, l_255, l_11, l_12, l_24, l_600, l_689, l_999, l_120, l_32, nI_add, pk_mul, n_sub, n_leT, n_leF, n_ltT, n_ltF, n_eqT, n_eqF, n_cl, n_vp, fa_andq, fa_orq, fa_xorq, n_shl, n_shr, n_t1, n_t0, n_div, n_m1, not_true_eq_false, Bool.false_eq_true, false_and, Bool.not_false, Bool.not_true, Bool.and_true, Bool.and_false, Bool.false_and, Bool.true_and, true_and, and_true, true_or, or_true, not_false_eq_true, Option.some.injEq, exists_eq_left', forall_eq, ↓reduceIte, Nat.add_zero, Nat.zero_add, and_self]
    · have f2 : (fl pl w (pl 0)).1 < 30 := by
        rcases f with f | f
        · exact f.1
        · exact absurd (by rw [f]) c
      rw [Int32.mul_comm]
      simp (disch := omega) only [l_X1_rentOf_8, h4.sh, h4.n, h.s1, h.w hw, c, n_leT, n_eqF, n_cl, n_vp, l_0, l_1, n_m1, not_true_eq_false, Bool.false_eq_true, false_and, Bool.not_false, Bool.not_true, Bool.and_true, Bool.and_false, Bool.false_and, Bool.true_and, true_and, and_true, true_or, or_true, not_false_eq_true, Option.some.injEq, exists_eq_left', forall_eq, ↓reduceIte, Nat.add_zero, Nat.zero_add, and_self]
  · have f := fl_lt hs hp w k (by omega)
    have d := hp.s hs hk
    by_cases t : (oS pl k 3).testBit w = true
    · by_cases c : (fl pl w k).1 = 4294967295
      · simp (disch := omega) only [l_X1_rentOf_8, h4.sh, h4.n, h4.s hk, e_has, t, bI_t, c, fl_s, l_0, l_1, l_2, l_3, l_4, l_5, l_6, l_7, l_8, l_9, l_10, l_20, l_30, l_31, l_34, l_40, l_65, l_100, l_255, l_11, l_12, l_24, l_600, l_689, l_999, l_120, l_32, nI_add, n_leF, n_eqT, n_eqF, n_cl, n_vp, n_m1, n_div, not_true_eq_false, Bool.false_eq_true, false_and, Bool.not_false, Bool.not_true, Bool.and_true, Bool.and_false, Bool.false_and, Bool.true_and, true_and, and_true, true_or, or_true, not_false_eq_true, Option.some.injEq, exists_eq_left', forall_eq, ↓reduceIte, Nat.add_zero, Nat.zero_add, and_self]
      · have f2 : (fl pl w k).1 < 30 := by
          rcases f with f | f
          · exact f.1
          · exact absurd (by rw [f]) c
        simp (disch := omega) only [l_X1_rentOf_8, h4.sh, h4.n, h4.s hk, e_has, t, bI_t, c, fl_s, l_0, l_1, l_2, l_3, l_4, l_5, l_6, l_7, l_8, l_9, l_10, l_20, l_30, l_31, l_34, l_40, l_65, l_100, l_255, l_11, l_12, l_24, l_600, l_689, l_999, l_120, l_32, nI_add, n_leF, n_eqT, n_eqF, n_cl, n_vp, n_m1, n_div, not_true_eq_false, Bool.false_eq_true, false_and, Bool.not_false, Bool.not_true, Bool.and_true, Bool.and_false, Bool.false_and, Bool.true_and, true_and, and_true, true_or, or_true, not_false_eq_true, Option.some.injEq, exists_eq_left', forall_eq, ↓reduceIte, Nat.add_zero, Nat.zero_add, and_self]
    · simp (disch := omega) only [l_X1_rentOf_8, h4.sh, h4.n, h4.s hk, e_has, b_no t, bI_f, fl_s, l_0, l_1, l_2, l_3, l_4, l_5, l_6, l_7, l_8, l_9, l_10, l_20, l_30, l_31, l_34, l_40, l_65, l_100, l_255, l_11, l_12, l_24, l_600, l_689, l_999, l_120, l_32, nI_add, n_leF, n_eqT, n_eqF, n_cl, n_vp, n_m1, not_true_eq_false, Bool.false_eq_true, false_and, Bool.not_false, Bool.not_true, Bool.and_true, Bool.and_false, Bool.false_and, Bool.true_and, true_and, and_true, true_or, or_true, not_false_eq_true, Option.some.injEq, exists_eq_left', forall_eq, ↓reduceIte, Nat.add_zero, Nat.zero_add, and_self]
theorem e_X1_rent (hs : SB sg) (hp : PB sg pl) (h : CSea sa sg M) (h4 : CPl a sg pl M) (P : Int32 → Mm → Prop) : w_X1_rent M sa a P ↔ P (sI32 (rentI sg pl) (sg 3)) M := by
  have b := hs.b
  unfold w_X1_rent
  refine lpE (fun n (z : Int32 × Int32) => l_X1_rent_4 P (fun M8 x4_8 => P x4_8 M8) n M sa a z.1 z.2) (fun k => (sI32 (rentI sg pl) k, nI k)) (sg 3) (fun _ h => h.elim) (fun _ => ?_) (fun n k hk => ?_)
  · simp (disch := omega) only [l_X1_rent_4, h.s1, h.n, n_leT, not_true_eq_false, Bool.false_eq_true, false_and, Bool.not_false, Bool.not_true, Bool.and_true, Bool.and_false, Bool.false_and, Bool.true_and, true_and, and_true, true_or, or_true, not_false_eq_true, Option.some.injEq, exists_eq_left', forall_eq, ↓reduceIte, Nat.add_zero, Nat.zero_add, and_self]
  · simp (disch := omega) only [l_X1_rent_4, h.s1, h.n, e_X1_rentOf hs hp h h4, n_leF, l_1, nI_add, sI32_s, not_true_eq_false, Bool.false_eq_true, false_and, Bool.not_false, Bool.not_true, Bool.and_true, Bool.and_false, Bool.false_and, Bool.true_and, true_and, and_true, true_or, or_true, not_false_eq_true, Option.some.injEq, exists_eq_left', forall_eq, ↓reduceIte, Nat.add_zero, Nat.zero_add, and_self]
theorem e_X1_costsOf (hs : SB sg) (hp : PB sg pl) (h : CSea sa sg M) (h4 : CPl a sg pl M) {k : Nat} (hk : k < 4) (P : Int32 → Mm → Prop) : w_X1_costsOf M sa a (nI k) P ↔ P (costI sg pl k) M := by
  rcases (show k = 0 ∨ k = 1 ∨ k = 2 ∨ k = 3 by omega) with rfl | rfl | rfl | rfl <;>
    simp (disch := omega) only [w_X1_costsOf, e_X1_rent hs hp h h4, e_X1_overtime hs hp h h4, e_X1_doublings hs hp h h4, costI, l_0, l_1, l_2, n_eqT, n_eqF, not_true_eq_false, Bool.false_eq_true, false_and, Bool.not_false, Bool.not_true, Bool.and_true, Bool.and_false, Bool.false_and, Bool.true_and, true_and, and_true, true_or, or_true, not_false_eq_true, Option.some.injEq, exists_eq_left', forall_eq, ↓reduceIte, Nat.add_zero, Nat.zero_add, and_self]
  · rfl
  · rfl
  · rfl
end CO
