/-! THE CLASS'S METHODS THAT ONLY READ -/
theorem e_has {M : Mm} {S k : Nat} (hS : S < 2147483648) (hk : k < 32) (P : Int32 → Mm → Prop) : w_X7_has M (nI S) (nI k) P ↔ P (bI (S.testBit k)) M := by
  simp (disch := omega) only [w_X7_has, l_0, l_1, l_2, l_3, l_4, l_5, l_6, l_7, l_8, l_9, l_10, l_20, l_30, l_31, l_34, l_40, l_65, l_100, l_255, l_11, l_12, l_24, l_600, l_689, l_999, l_120, l_32, nI_add, pk_mul, n_sub, n_leT, n_leF, n_ltT, n_ltF, n_eqT, n_eqF, n_cl, n_vp, fa_andq, fa_orq, fa_xorq, n_shl, n_shr, n_t1, n_t0, n_div, n_m1, not_true_eq_false, Bool.false_eq_true, false_and, Bool.not_false, Bool.not_true, Bool.and_true, Bool.and_false, Bool.false_and, Bool.true_and, true_and, and_true, true_or, or_true, not_false_eq_true, Option.some.injEq, exists_eq_left', forall_eq, ↓reduceIte, Nat.add_zero, Nat.zero_add, and_self]
  cases S.testBit k <;> simp only [not_true_eq_false, Bool.false_eq_true, false_and, Bool.not_false, Bool.not_true, Bool.and_true, Bool.and_false, Bool.false_and, Bool.true_and, true_and, and_true, true_or, or_true, not_false_eq_true, Option.some.injEq, exists_eq_left', forall_eq, ↓reduceIte, Nat.add_zero, Nat.zero_add, and_self, bI_t, bI_f, Bool.false_eq_true]
theorem e_firstBits {M : Mm} {k : Nat} (hk : k < 32) (P : Int32 → Mm → Prop) : w_X7_firstBits M (nI k) P ↔ P (nI (2 ^ k - 1)) M := by
  have := Nat.two_pow_pos k
  simp (disch := omega) only [w_X7_firstBits, l_0, l_1, l_2, l_3, l_4, l_5, l_6, l_7, l_8, l_9, l_10, l_20, l_30, l_31, l_34, l_40, l_65, l_100, l_255, l_11, l_12, l_24, l_600, l_689, l_999, l_120, l_32, nI_add, pk_mul, n_sub, n_leT, n_leF, n_ltT, n_ltF, n_eqT, n_eqF, n_cl, n_vp, fa_andq, fa_orq, fa_xorq, n_shl, n_shr, n_t1, n_t0, n_div, n_m1, not_true_eq_false, Bool.false_eq_true, false_and, Bool.not_false, Bool.not_true, Bool.and_true, Bool.and_false, Bool.false_and, Bool.true_and, true_and, and_true, true_or, or_true, not_false_eq_true, Option.some.injEq, exists_eq_left', forall_eq, ↓reduceIte, Nat.add_zero, Nat.zero_add, and_self]
/-- who is not absent on a day -/
def pres (sg : Nat → Nat) (d : Nat) : Nat := fo (fun p b => if ¬ (oP sg p 1).testBit d = true then b ||| 2 ^ p else b) (sg 2) 0
/-- who is in services at a slot -/
def atS (sg pl : Nat → Nat) (t : Nat) : Nat := fo (fun s b => if oS pl s 0 = t then b ||| inS sg pl s else b) (pl 0) 0
def free (sg pl : Nat → Nat) (t : Nat) : Nat := pres sg (t / 3) &&& (atS sg pl t ^^^ 4294967295)
/-- the number of services of a player -/
def svc (sg pl : Nat → Nat) (p : Nat) : Nat := fo (fun s n => if (inS sg pl s).testBit p = true then n + 1 else n) (pl 0) 0
/-- rehearsals (c = 0) or concerts (c = 1) of a work ahead of a slot -/
def swt (pl : Nat → Nat) (w c b : Nat) : Nat := fo (fun s n => if oS pl s 2 = c ∧ (oS pl s 3).testBit w = true ∧ oS pl s 0 < b then n + 1 else n) (pl 0) 0
def nAt (pl : Nat → Nat) (h t : Nat) : Nat := if fi (fun s => decide (oS pl s 1 = h ∧ oS pl s 0 = t)) (pl 0) < pl 0 then fi (fun s => decide (oS pl s 1 = h ∧ oS pl s 0 = t)) (pl 0) else 4294967295
def dst (a b : Nat) : Nat := if a < b then b - a else a - b
def hFree (pl : Nat → Nat) (h t u : Nat) : Bool := al (fun s => !decide (oS pl s 1 = h ∧ dst (oS pl s 0) t ≤ u)) (pl 0)
def rented (sg : Nat → Nat) (set d : Nat) : Bool := al (fun w => !decide (set.testBit w = true ∧ ¬ (oW sg w 1 ≤ d ∧ d ≤ oW sg w 2))) (sg 3)
theorem fo_le {g : Nat → Nat → Nat} (hg : ∀ i b, g i b ≤ b + 1) : ∀ n, fo g n 0 ≤ n
  | 0 => Nat.le_refl 0
  | n + 1 => by
    have h := fo_le hg n
    have h2 := hg n (fo g n 0)
    rw [fo_s]; omega
theorem fo_bits {g : Nat → Nat → Nat} {N n : Nat} (hg : ∀ i b, i < N → b < 2 ^ n → g i b < 2 ^ n) : ∀ k, k ≤ N → fo g k 0 < 2 ^ n
  | 0, _ => Nat.two_pow_pos n
  | k + 1, h => hg k _ (by omega) (fo_bits hg k (by omega))
theorem swt_le (pl : Nat → Nat) (w c b : Nat) : swt pl w c b ≤ pl 0 := fo_le (fun i b => by split <;> omega) _
theorem svc_le (sg pl : Nat → Nat) (p : Nat) : svc sg pl p ≤ pl 0 := fo_le (fun i b => by split <;> omega) _
theorem pres_lt {sg : Nat → Nat} (hs : SB sg) (d : Nat) : pres sg d < 256 := by
  have b := hs.b
  refine fo_bits (N := 8) (n := 8) (fun i b hi hb => ?_) _ (by omega)
  split
  · exact Nat.or_lt_two_pow hb (Nat.pow_lt_pow_right (by decide) hi)
  · exact hb
theorem atS_lt {sg pl : Nat → Nat} (hs : SB sg) (hp : PB sg pl) (t : Nat) : atS sg pl t < 256 := by
  refine fo_bits (N := pl 0) (n := 8) (fun i b hi hb => ?_) _ (Nat.le_refl _)
  split
  · exact Nat.or_lt_two_pow hb (inS_lt hs hp hi)
  · exact hb
theorem free_lt {sg pl : Nat → Nat} (hs : SB sg) (t : Nat) : free sg pl t < 256 := Nat.lt_of_le_of_lt Nat.and_le_left (pres_lt hs _)
section CR
variable {a sa : Nat} {sg pl : Nat → Nat} {M : Mm}
theorem e_X4_isConcert (hs : SB sg) (hp : PB sg pl) (h : CPl a sg pl M) {s : Nat} (hn : s < pl 0) (P : Int32 → Mm → Prop) : w_X4_isConcert M a (nI s) P ↔ P (bI (decide (oS pl s 2 = 1))) M := by
  have n := hp.n
  have b := hp.s hs hn
  by_cases c : oS pl s 2 = 1
  · simp (disch := omega) only [w_X4_isConcert, h.sh, h.s hn, decide_eq_true c, bI_t, l_0, l_1, l_2, l_3, l_4, l_5, l_6, l_7, l_8, l_9, l_10, l_20, l_30, l_31, l_34, l_40, l_65, l_100, l_255, l_11, l_12, l_24, l_600, l_689, l_999, l_120, l_32, nI_add, pk_mul, n_sub, n_leT, n_leF, n_ltT, n_ltF, n_eqT, n_eqF, n_cl, n_vp, fa_andq, fa_orq, fa_xorq, n_shl, n_shr, n_t1, n_t0, n_div, n_m1, not_true_eq_false, Bool.false_eq_true, false_and, Bool.not_false, Bool.not_true, Bool.and_true, Bool.and_false, Bool.false_and, Bool.true_and, true_and, and_true, true_or, or_true, not_false_eq_true, Option.some.injEq, exists_eq_left', forall_eq, ↓reduceIte, Nat.add_zero, Nat.zero_add, and_self]
  · simp (disch := omega) only [w_X4_isConcert, h.sh, h.s hn, decide_eq_false c, bI_f, l_0, l_1, l_2, l_3, l_4, l_5, l_6, l_7, l_8, l_9, l_10, l_20, l_30, l_31, l_34, l_40, l_65, l_100, l_255, l_11, l_12, l_24, l_600, l_689, l_999, l_120, l_32, nI_add, pk_mul, n_sub, n_leT, n_leF, n_ltT, n_ltF, n_eqT, n_eqF, n_cl, n_vp, fa_andq, fa_orq, fa_xorq, n_shl, n_shr, n_t1, n_t0, n_div, n_m1, not_true_eq_false, Bool.false_eq_true, false_and, Bool.not_false, Bool.not_true, Bool.and_true, Bool.and_false, Bool.false_and, Bool.true_and, true_and, and_true, true_or, or_true, not_false_eq_true, Option.some.injEq, exists_eq_left', forall_eq, ↓reduceIte, Nat.add_zero, Nat.zero_add, and_self]
theorem e_X4_playerOn (hp : PB sg pl) (h : CPl a sg pl M) {s w j : Nat} (hn : s < pl 0) (hw : w < 5) (hj : j < 6) (P : Int32 → Mm → Prop) : w_X4_playerOn M a (nI s) (nI w) (nI j) P ↔ P (nI (cs sg pl s (w * 6 + j))) M := by
  have n := hp.n
  have e := h.c hn (i := w * 6 + j) (by omega)
  rw [← Nat.add_assoc] at e
  simp (disch := omega) only [w_X4_playerOn, w_X4_placeOf, h.sh, e, l_0, l_1, l_2, l_3, l_4, l_5, l_6, l_7, l_8, l_9, l_10, l_20, l_30, l_31, l_34, l_40, l_65, l_100, l_255, l_11, l_12, l_24, l_600, l_689, l_999, l_120, l_32, nI_add, pk_mul, n_sub, n_leT, n_leF, n_ltT, n_ltF, n_eqT, n_eqF, n_cl, n_vp, fa_andq, fa_orq, fa_xorq, n_shl, n_shr, n_t1, n_t0, n_div, n_m1, not_true_eq_false, Bool.false_eq_true, false_and, Bool.not_false, Bool.not_true, Bool.and_true, Bool.and_false, Bool.false_and, Bool.true_and, true_and, and_true, true_or, or_true, not_false_eq_true, Option.some.injEq, exists_eq_left', forall_eq, ↓reduceIte, Nat.add_zero, Nat.zero_add, and_self]
theorem cs_lt {s i : Nat} (hs : SB sg) (hp : PB sg pl) (hn : s < pl 0) : cs sg pl s i < sg 2 ∨ cs sg pl s i = 4294967295 := by
  by_cases e : i / 6 < sg 3 ∧ (oS pl s 3).testBit (i / 6) = true ∧ i % 6 < oW sg (i / 6) 4
  · left; unfold cs; rw [if_pos e]; exact hp.c hn e.1 e.2.1 e.2.2
  · right; unfold cs; rw [if_neg e]
theorem e_X4_playersIn (hs : SB sg) (hp : PB sg pl) (h : CPl a sg pl M) {s : Nat} (hn : s < pl 0) (P : Int32 → Mm → Prop) : w_X4_playersIn M a (nI s) P ↔ P (nI (inS sg pl s)) M := by
  have n := hp.n
  have b := hs.b
  unfold w_X4_playersIn
  rw [← inS_cs hs hp hn]
  refine lpE (fun n (z : Int32 × Int32) => l_X4_playersIn_4 P (fun M2 x2 => P x2 M2) n M a (nI s) z.1 z.2) (fun k => (nI (fo (fun i b => if cs sg pl s i ≠ 4294967295 then b ||| 2 ^ cs sg pl s i else b) k 0), nI k)) 30 (fun _ h => h.elim) (fun _ => ?_) (fun n k hk => ?_)
  · simp (disch := omega) only [l_X4_playersIn_4, l_0, l_1, l_2, l_3, l_4, l_5, l_6, l_7, l_8, l_9, l_10, l_20, l_30, l_31, l_34, l_40, l_65, l_100, l_255, l_11, l_12, l_24, l_600, l_689, l_999, l_120, l_32, nI_add, pk_mul, n_sub, n_leT, n_leF, n_ltT, n_ltF, n_eqT, n_eqF, n_cl, n_vp, fa_andq, fa_orq, fa_xorq, n_shl, n_shr, n_t1, n_t0, n_div, n_m1, not_true_eq_false, Bool.false_eq_true, false_and, Bool.not_false, Bool.not_true, Bool.and_true, Bool.and_false, Bool.false_and, Bool.true_and, true_and, and_true, true_or, or_true, not_false_eq_true, Option.some.injEq, exists_eq_left', forall_eq, ↓reduceIte, Nat.add_zero, Nat.zero_add, and_self]
  · have d := h.c hn hk
    by_cases c : cs sg pl s k = 4294967295
    · simp (disch := omega) only [l_X4_playersIn_4, h.sh, d, c, fo_s, ne_eq, not_true_eq_false, l_0, l_1, l_2, l_3, l_4, l_5, l_6, l_7, l_8, l_9, l_10, l_20, l_30, l_31, l_34, l_40, l_65, l_100, l_255, l_11, l_12, l_24, l_600, l_689, l_999, l_120, l_32, nI_add, pk_mul, n_sub, n_leT, n_leF, n_ltT, n_ltF, n_eqT, n_eqF, n_cl, n_vp, fa_andq, fa_orq, fa_xorq, n_shl, n_shr, n_t1, n_t0, n_div, n_m1, not_true_eq_false, Bool.false_eq_true, false_and, Bool.not_false, Bool.not_true, Bool.and_true, Bool.and_false, Bool.false_and, Bool.true_and, true_and, and_true, true_or, or_true, not_false_eq_true, Option.some.injEq, exists_eq_left', forall_eq, ↓reduceIte, Nat.add_zero, Nat.zero_add, and_self]
    · have e := (cs_lt hs hp hn (i := k)).resolve_right c
      simp (disch := omega) only [l_X4_playersIn_4, h.sh, d, c, fo_s, ne_eq, not_false_eq_true, l_0, l_1, l_2, l_3, l_4, l_5, l_6, l_7, l_8, l_9, l_10, l_20, l_30, l_31, l_34, l_40, l_65, l_100, l_255, l_11, l_12, l_24, l_600, l_689, l_999, l_120, l_32, nI_add, pk_mul, n_sub, n_leT, n_leF, n_ltT, n_ltF, n_eqT, n_eqF, n_cl, n_vp, fa_andq, fa_orq, fa_xorq, n_shl, n_shr, n_t1, n_t0, n_div, n_m1, not_true_eq_false, Bool.false_eq_true, false_and, Bool.not_false, Bool.not_true, Bool.and_true, Bool.and_false, Bool.false_and, Bool.true_and, true_and, and_true, true_or, or_true, not_false_eq_true, Option.some.injEq, exists_eq_left', forall_eq, ↓reduceIte, Nat.add_zero, Nat.zero_add, and_self]
theorem e_X4_playersAt (hs : SB sg) (hp : PB sg pl) (h : CPl a sg pl M) {t : Nat} (ht : t < 90) (P : Int32 → Mm → Prop) : w_X4_playersAt M a (nI t) P ↔ P (nI (atS sg pl t)) M := by
  have n := hp.n
  unfold w_X4_playersAt
  refine lpE (fun n (z : Int32 × Int32) => l_X4_playersAt_4 P (fun M2 x2 => P x2 M2) n M a (nI t) z.1 z.2) (fun k => (nI (fo (fun s b => if oS pl s 0 = t then b ||| inS sg pl s else b) k 0), nI k)) (pl 0) (fun _ h => h.elim) (fun _ => ?_) (fun n k hk => ?_)
  · simp (disch := omega) only [l_X4_playersAt_4, h.sh, h.n, atS, l_0, l_1, l_2, l_3, l_4, l_5, l_6, l_7, l_8, l_9, l_10, l_20, l_30, l_31, l_34, l_40, l_65, l_100, l_255, l_11, l_12, l_24, l_600, l_689, l_999, l_120, l_32, nI_add, pk_mul, n_sub, n_leT, n_leF, n_ltT, n_ltF, n_eqT, n_eqF, n_cl, n_vp, fa_andq, fa_orq, fa_xorq, n_shl, n_shr, n_t1, n_t0, n_div, n_m1, not_true_eq_false, Bool.false_eq_true, false_and, Bool.not_false, Bool.not_true, Bool.and_true, Bool.and_false, Bool.false_and, Bool.true_and, true_and, and_true, true_or, or_true, not_false_eq_true, Option.some.injEq, exists_eq_left', forall_eq, ↓reduceIte, Nat.add_zero, Nat.zero_add, and_self]
  · have d := hp.s hs hk
    by_cases c : oS pl k 0 = t
    · simp (disch := omega) only [l_X4_playersAt_4, h.sh, h.n, h.s hk, e_X4_playersIn hs hp h hk, c, fo_s, l_0, l_1, l_2, l_3, l_4, l_5, l_6, l_7, l_8, l_9, l_10, l_20, l_30, l_31, l_34, l_40, l_65, l_100, l_255, l_11, l_12, l_24, l_600, l_689, l_999, l_120, l_32, nI_add, pk_mul, n_sub, n_leT, n_leF, n_ltT, n_ltF, n_eqT, n_eqF, n_cl, n_vp, fa_andq, fa_orq, fa_xorq, n_shl, n_shr, n_t1, n_t0, n_div, n_m1, not_true_eq_false, Bool.false_eq_true, false_and, Bool.not_false, Bool.not_true, Bool.and_true, Bool.and_false, Bool.false_and, Bool.true_and, true_and, and_true, true_or, or_true, not_false_eq_true, Option.some.injEq, exists_eq_left', forall_eq, ↓reduceIte, Nat.add_zero, Nat.zero_add, and_self]
    · simp (disch := omega) only [l_X4_playersAt_4, h.sh, h.n, h.s hk, c, fo_s, l_0, l_1, l_2, l_3, l_4, l_5, l_6, l_7, l_8, l_9, l_10, l_20, l_30, l_31, l_34, l_40, l_65, l_100, l_255, l_11, l_12, l_24, l_600, l_689, l_999, l_120, l_32, nI_add, pk_mul, n_sub, n_leT, n_leF, n_ltT, n_ltF, n_eqT, n_eqF, n_cl, n_vp, fa_andq, fa_orq, fa_xorq, n_shl, n_shr, n_t1, n_t0, n_div, n_m1, not_true_eq_false, Bool.false_eq_true, false_and, Bool.not_false, Bool.not_true, Bool.and_true, Bool.and_false, Bool.false_and, Bool.true_and, true_and, and_true, true_or, or_true, not_false_eq_true, Option.some.injEq, exists_eq_left', forall_eq, ↓reduceIte, Nat.add_zero, Nat.zero_add, and_self]
theorem e_X4_servicesOf (hs : SB sg) (hp : PB sg pl) (h : CPl a sg pl M) {p : Nat} (ht : p < 32) (P : Int32 → Mm → Prop) : w_X4_servicesOf M a (nI p) P ↔ P (nI (svc sg pl p)) M := by
  have n := hp.n
  unfold w_X4_servicesOf
  refine lpE (fun n (z : Int32 × Int32) => l_X4_servicesOf_4 P (fun M2 x2 => P x2 M2) n M a (nI p) z.1 z.2) (fun k => (nI (fo (fun s n => if (inS sg pl s).testBit p = true then n + 1 else n) k 0), nI k)) (pl 0) (fun _ h => h.elim) (fun _ => ?_) (fun n k hk => ?_)
  · simp (disch := omega) only [l_X4_servicesOf_4, h.sh, h.n, svc, l_0, l_1, l_2, l_3, l_4, l_5, l_6, l_7, l_8, l_9, l_10, l_20, l_30, l_31, l_34, l_40, l_65, l_100, l_255, l_11, l_12, l_24, l_600, l_689, l_999, l_120, l_32, nI_add, pk_mul, n_sub, n_leT, n_leF, n_ltT, n_ltF, n_eqT, n_eqF, n_cl, n_vp, fa_andq, fa_orq, fa_xorq, n_shl, n_shr, n_t1, n_t0, n_div, n_m1, not_true_eq_false, Bool.false_eq_true, false_and, Bool.not_false, Bool.not_true, Bool.and_true, Bool.and_false, Bool.false_and, Bool.true_and, true_and, and_true, true_or, or_true, not_false_eq_true, Option.some.injEq, exists_eq_left', forall_eq, ↓reduceIte, Nat.add_zero, Nat.zero_add, and_self]
  · have d := inS_lt hs hp hk
    by_cases c : (inS sg pl k).testBit p = true
    · simp (disch := omega) only [l_X4_servicesOf_4, h.sh, h.n, e_X4_playersIn hs hp h hk, e_has, c, bI_t, fo_s, l_0, l_1, l_2, l_3, l_4, l_5, l_6, l_7, l_8, l_9, l_10, l_20, l_30, l_31, l_34, l_40, l_65, l_100, l_255, l_11, l_12, l_24, l_600, l_689, l_999, l_120, l_32, nI_add, pk_mul, n_sub, n_leT, n_leF, n_ltT, n_ltF, n_eqT, n_eqF, n_cl, n_vp, fa_andq, fa_orq, fa_xorq, n_shl, n_shr, n_t1, n_t0, n_div, n_m1, not_true_eq_false, Bool.false_eq_true, false_and, Bool.not_false, Bool.not_true, Bool.and_true, Bool.and_false, Bool.false_and, Bool.true_and, true_and, and_true, true_or, or_true, not_false_eq_true, Option.some.injEq, exists_eq_left', forall_eq, ↓reduceIte, Nat.add_zero, Nat.zero_add, and_self]
    · simp (disch := omega) only [l_X4_servicesOf_4, h.sh, h.n, e_X4_playersIn hs hp h hk, e_has, b_no c, bI_f, fo_s, Bool.false_eq_true, l_0, l_1, l_2, l_3, l_4, l_5, l_6, l_7, l_8, l_9, l_10, l_20, l_30, l_31, l_34, l_40, l_65, l_100, l_255, l_11, l_12, l_24, l_600, l_689, l_999, l_120, l_32, nI_add, pk_mul, n_sub, n_leT, n_leF, n_ltT, n_ltF, n_eqT, n_eqF, n_cl, n_vp, fa_andq, fa_orq, fa_xorq, n_shl, n_shr, n_t1, n_t0, n_div, n_m1, not_true_eq_false, Bool.false_eq_true, false_and, Bool.not_false, Bool.not_true, Bool.and_true, Bool.and_false, Bool.false_and, Bool.true_and, true_and, and_true, true_or, or_true, not_false_eq_true, Option.some.injEq, exists_eq_left', forall_eq, ↓reduceIte, Nat.add_zero, Nat.zero_add, and_self]
theorem e_X4_beyondContract (hs : SB sg) (hp : PB sg pl) (h : CPl a sg pl M) {p : Nat} (hk : p < sg 2) (P : Int32 → Mm → Prop) : w_X4_beyondContract M a (nI p) P ↔ P (nI (svc sg pl p) - nI (pl (1 + p))) M := by
  have b := hs.b
  simp (disch := omega) only [w_X4_beyondContract, h.sh, e_X4_servicesOf hs hp h, h.k, n_cl, n_vp, not_true_eq_false, Bool.false_eq_true, false_and, Bool.not_false, Bool.not_true, Bool.and_true, Bool.and_false, Bool.false_and, Bool.true_and, true_and, and_true, true_or, or_true, not_false_eq_true, Option.some.injEq, exists_eq_left', forall_eq, ↓reduceIte, Nat.add_zero, Nat.zero_add, and_self]
theorem e_X4_servicesWith (hs : SB sg) (hp : PB sg pl) (h : CPl a sg pl M) {w c b : Nat} (hw : w < 5) (hc : c < 2) (hb : b < 91) (P : Int32 → Mm → Prop) : w_X4_servicesWith M a (nI w) (nI c) (nI b) P ↔ P (nI (swt pl w c b)) M := by
  have n := hp.n
  unfold w_X4_servicesWith
  refine lpE (fun n (z : Int32 × Int32) => l_X4_servicesWith_6 P (fun M2 x2 => P x2 M2) n M a (nI w) (nI c) (nI b) z.1 z.2) (fun k => (nI (fo (fun s n => if oS pl s 2 = c ∧ (oS pl s 3).testBit w = true ∧ oS pl s 0 < b then n + 1 else n) k 0), nI k)) (pl 0) (fun _ h => h.elim) (fun _ => ?_) (fun n k hk => ?_)
  · simp (disch := omega) only [l_X4_servicesWith_6, h.sh, h.n, swt, l_0, l_1, l_2, l_3, l_4, l_5, l_6, l_7, l_8, l_9, l_10, l_20, l_30, l_31, l_34, l_40, l_65, l_100, l_255, l_11, l_12, l_24, l_600, l_689, l_999, l_120, l_32, nI_add, pk_mul, n_sub, n_leT, n_leF, n_ltT, n_ltF, n_eqT, n_eqF, n_cl, n_vp, fa_andq, fa_orq, fa_xorq, n_shl, n_shr, n_t1, n_t0, n_div, n_m1, not_true_eq_false, Bool.false_eq_true, false_and, Bool.not_false, Bool.not_true, Bool.and_true, Bool.and_false, Bool.false_and, Bool.true_and, true_and, and_true, true_or, or_true, not_false_eq_true, Option.some.injEq, exists_eq_left', forall_eq, ↓reduceIte, Nat.add_zero, Nat.zero_add, and_self]
  · have d := hp.s hs hk
    have e : bI (decide (oS pl k 2 = 1)) = nI (oS pl k 2) := by
      by_cases q : oS pl k 2 = 1
      · rw [decide_eq_true q, q]; rfl
      · rw [decide_eq_false q, show oS pl k 2 = 0 by omega]; rfl
    by_cases c1 : oS pl k 2 = c
    · subst c1
      by_cases c2 : (oS pl k 3).testBit w = true
      · by_cases c3 : oS pl k 0 < b
        · simp (disch := omega) only [l_X4_servicesWith_6, h.sh, h.n, h.s hk, e_X4_isConcert hs hp h hk, e, e_has, c2, c3, bI_t, fo_s, l_0, l_1, l_2, l_3, l_4, l_5, l_6, l_7, l_8, l_9, l_10, l_20, l_30, l_31, l_34, l_40, l_65, l_100, l_255, l_11, l_12, l_24, l_600, l_689, l_999, l_120, l_32, nI_add, pk_mul, n_sub, n_leT, n_leF, n_ltT, n_ltF, n_eqT, n_eqF, n_cl, n_vp, fa_andq, fa_orq, fa_xorq, n_shl, n_shr, n_t1, n_t0, n_div, n_m1, not_true_eq_false, Bool.false_eq_true, false_and, Bool.not_false, Bool.not_true, Bool.and_true, Bool.and_false, Bool.false_and, Bool.true_and, true_and, and_true, true_or, or_true, not_false_eq_true, Option.some.injEq, exists_eq_left', forall_eq, ↓reduceIte, Nat.add_zero, Nat.zero_add, and_self]
        · simp (disch := omega) only [l_X4_servicesWith_6, h.sh, h.n, h.s hk, e_X4_isConcert hs hp h hk, e, e_has, c2, c3, bI_t, fo_s, and_false, l_0, l_1, l_2, l_3, l_4, l_5, l_6, l_7, l_8, l_9, l_10, l_20, l_30, l_31, l_34, l_40, l_65, l_100, l_255, l_11, l_12, l_24, l_600, l_689, l_999, l_120, l_32, nI_add, pk_mul, n_sub, n_leT, n_leF, n_ltT, n_ltF, n_eqT, n_eqF, n_cl, n_vp, fa_andq, fa_orq, fa_xorq, n_shl, n_shr, n_t1, n_t0, n_div, n_m1, not_true_eq_false, Bool.false_eq_true, false_and, Bool.not_false, Bool.not_true, Bool.and_true, Bool.and_false, Bool.false_and, Bool.true_and, true_and, and_true, true_or, or_true, not_false_eq_true, Option.some.injEq, exists_eq_left', forall_eq, ↓reduceIte, Nat.add_zero, Nat.zero_add, and_self]
      · simp (disch := omega) only [l_X4_servicesWith_6, h.sh, h.n, h.s hk, e_X4_isConcert hs hp h hk, e, e_has, b_no c2, bI_f, Bool.false_eq_true, fo_s, and_false, false_and, l_0, l_1, l_2, l_3, l_4, l_5, l_6, l_7, l_8, l_9, l_10, l_20, l_30, l_31, l_34, l_40, l_65, l_100, l_255, l_11, l_12, l_24, l_600, l_689, l_999, l_120, l_32, nI_add, pk_mul, n_sub, n_leT, n_leF, n_ltT, n_ltF, n_eqT, n_eqF, n_cl, n_vp, fa_andq, fa_orq, fa_xorq, n_shl, n_shr, n_t1, n_t0, n_div, n_m1, not_true_eq_false, Bool.false_eq_true, false_and, Bool.not_false, Bool.not_true, Bool.and_true, Bool.and_false, Bool.false_and, Bool.true_and, true_and, and_true, true_or, or_true, not_false_eq_true, Option.some.injEq, exists_eq_left', forall_eq, ↓reduceIte, Nat.add_zero, Nat.zero_add, and_self]
    · simp (disch := omega) only [l_X4_servicesWith_6, h.sh, h.n, h.s hk, e_X4_isConcert hs hp h hk, e, c1, fo_s, false_and, l_0, l_1, l_2, l_3, l_4, l_5, l_6, l_7, l_8, l_9, l_10, l_20, l_30, l_31, l_34, l_40, l_65, l_100, l_255, l_11, l_12, l_24, l_600, l_689, l_999, l_120, l_32, nI_add, pk_mul, n_sub, n_leT, n_leF, n_ltT, n_ltF, n_eqT, n_eqF, n_cl, n_vp, fa_andq, fa_orq, fa_xorq, n_shl, n_shr, n_t1, n_t0, n_div, n_m1, not_true_eq_false, Bool.false_eq_true, false_and, Bool.not_false, Bool.not_true, Bool.and_true, Bool.and_false, Bool.false_and, Bool.true_and, true_and, and_true, true_or, or_true, not_false_eq_true, Option.some.injEq, exists_eq_left', forall_eq, ↓reduceIte, Nat.add_zero, Nat.zero_add, and_self]
theorem e_X4_numberAt (hs : SB sg) (hp : PB sg pl) (h : CPl a sg pl M) {ha t : Nat} (hha : ha < 3) (ht : t < 90) (P : Int32 → Mm → Prop) : w_X4_numberAt M a (nI ha) (nI t) P ↔ P (nI (nAt pl ha t)) M := by
  have n := hp.n
  unfold w_X4_numberAt
  refine lpF (fun n (z : Int32) => l_X4_numberAt_2 P (fun M3 x3_3 => P x3_3 M3) (fun M4 => P (-1 : Int32) M4) n M a (nI ha) (nI t) z) nI (pl 0) (fun s => decide (oS pl s 1 = ha ∧ oS pl s 0 = t)) (Q := fun k => P (nI (if k < pl 0 then k else 4294967295)) M) (fun _ h => h.elim) (fun _ => ?_) (fun n k hk c => ?_) (fun n k hk c => ?_)
  · simp (disch := omega) only [l_X4_numberAt_2, h.sh, h.n, Nat.lt_irrefl, l_0, l_1, l_2, l_3, l_4, l_5, l_6, l_7, l_8, l_9, l_10, l_20, l_30, l_31, l_34, l_40, l_65, l_100, l_255, l_11, l_12, l_24, l_600, l_689, l_999, l_120, l_32, nI_add, pk_mul, n_sub, n_leT, n_leF, n_ltT, n_ltF, n_eqT, n_eqF, n_cl, n_vp, fa_andq, fa_orq, fa_xorq, n_shl, n_shr, n_t1, n_t0, n_div, n_m1, not_true_eq_false, Bool.false_eq_true, false_and, Bool.not_false, Bool.not_true, Bool.and_true, Bool.and_false, Bool.false_and, Bool.true_and, true_and, and_true, true_or, or_true, not_false_eq_true, Option.some.injEq, exists_eq_left', forall_eq, ↓reduceIte, Nat.add_zero, Nat.zero_add, and_self]
  · have d := hp.s hs hk
    have c := of_decide_eq_false c
    by_cases c1 : oS pl k 1 = ha
    · have c2 : oS pl k 0 ≠ t := fun e => c ⟨c1, e⟩
      simp (disch := omega) only [l_X4_numberAt_2, h.sh, h.n, h.s hk, l_0, l_1, l_2, l_3, l_4, l_5, l_6, l_7, l_8, l_9, l_10, l_20, l_30, l_31, l_34, l_40, l_65, l_100, l_255, l_11, l_12, l_24, l_600, l_689, l_999, l_120, l_32, nI_add, pk_mul, n_sub, n_leT, n_leF, n_ltT, n_ltF, n_eqT, n_eqF, n_cl, n_vp, fa_andq, fa_orq, fa_xorq, n_shl, n_shr, n_t1, n_t0, n_div, n_m1, not_true_eq_false, Bool.false_eq_true, false_and, Bool.not_false, Bool.not_true, Bool.and_true, Bool.and_false, Bool.false_and, Bool.true_and, true_and, and_true, true_or, or_true, not_false_eq_true, Option.some.injEq, exists_eq_left', forall_eq, ↓reduceIte, Nat.add_zero, Nat.zero_add, and_self]
    · simp (disch := omega) only [l_X4_numberAt_2, h.sh, h.n, h.s hk, l_0, l_1, l_2, l_3, l_4, l_5, l_6, l_7, l_8, l_9, l_10, l_20, l_30, l_31, l_34, l_40, l_65, l_100, l_255, l_11, l_12, l_24, l_600, l_689, l_999, l_120, l_32, nI_add, pk_mul, n_sub, n_leT, n_leF, n_ltT, n_ltF, n_eqT, n_eqF, n_cl, n_vp, fa_andq, fa_orq, fa_xorq, n_shl, n_shr, n_t1, n_t0, n_div, n_m1, not_true_eq_false, Bool.false_eq_true, false_and, Bool.not_false, Bool.not_true, Bool.and_true, Bool.and_false, Bool.false_and, Bool.true_and, true_and, and_true, true_or, or_true, not_false_eq_true, Option.some.injEq, exists_eq_left', forall_eq, ↓reduceIte, Nat.add_zero, Nat.zero_add, and_self]
  · have d := hp.s hs hk
    have c := of_decide_eq_true c
    simp (disch := omega) only [l_X4_numberAt_2, h.sh, h.n, h.s hk, c.1, c.2, hk, l_0, l_1, l_2, l_3, l_4, l_5, l_6, l_7, l_8, l_9, l_10, l_20, l_30, l_31, l_34, l_40, l_65, l_100, l_255, l_11, l_12, l_24, l_600, l_689, l_999, l_120, l_32, nI_add, pk_mul, n_sub, n_leT, n_leF, n_ltT, n_ltF, n_eqT, n_eqF, n_cl, n_vp, fa_andq, fa_orq, fa_xorq, n_shl, n_shr, n_t1, n_t0, n_div, n_m1, not_true_eq_false, Bool.false_eq_true, false_and, Bool.not_false, Bool.not_true, Bool.and_true, Bool.and_false, Bool.false_and, Bool.true_and, true_and, and_true, true_or, or_true, not_false_eq_true, Option.some.injEq, exists_eq_left', forall_eq, ↓reduceIte, Nat.add_zero, Nat.zero_add, and_self]
theorem dst_abs {a b : Nat} (ha : a < 90) (hb : b < 90) : (if nI 0 ≤ nI a - nI b then nI a - nI b else nI 0 - (nI a - nI b)) = nI (dst a b) := by
  unfold dst
  by_cases c : a < b
  · rw [if_pos c, if_neg]
    · have e := Int32.sub_add_cancel (nI b) (nI a)
      rw [show nI 0 - (nI a - nI b) = nI b - nI a by rw [show nI 0 = 0 from rfl, Int32.zero_sub, Int32.neg_sub], n_sub (by omega)]
    · have h := pk_sneg (a := a) (b := b) (by omega) c
      intro q
      have q2 : nI 0 ≤ nI a - nI b := q
      rw [Int32.le_iff_toInt_le] at q2
      rw [Int32.lt_iff_toInt_lt] at h
      have z : (nI 0).toInt = 0 := rfl
      have z2 : (0 : Int32).toInt = 0 := rfl
      omega
  · rw [if_neg c, n_sub (by omega), if_pos]
    exact nI_le (by omega) (by omega)
theorem e_X4_isHallTaken (hs : SB sg) (hp : PB sg pl) (h : CPl a sg pl M) {ha t u : Nat} (hha : ha < 3) (ht : t < 90) (hu : u < 1073741824) (P : Int32 → Mm → Prop) : w_X4_isHallTaken M a (nI ha) (nI t) (nI u) P ↔ P (bI (!hFree pl ha t u)) M := by
  have n := hp.n
  unfold w_X4_isHallTaken
  refine lpA (fun n (z : Int32) => l_X4_isHallTaken_3 P (fun M3 => ((1 : Int32) = 0 ∨ (1 : Int32) = 1) ∧ P (1 : Int32) M3) (fun M4 => ((0 : Int32) = 0 ∨ (0 : Int32) = 1) ∧ P (0 : Int32) M4) n M a (nI ha) (nI t) (nI u) z) nI (pl 0) (fun s => !decide (oS pl s 1 = ha ∧ dst (oS pl s 0) t ≤ u)) (Q := fun b => P (bI (!b)) M) (fun _ h => h.elim) (fun _ => ?_) (fun n k hk c => ?_) (fun n k hk c => ?_)
  · simp (disch := omega) only [l_X4_isHallTaken_3, h.sh, h.n, Bool.not_true, bI_f, l_0, l_1, l_2, l_3, l_4, l_5, l_6, l_7, l_8, l_9, l_10, l_20, l_30, l_31, l_34, l_40, l_65, l_100, l_255, l_11, l_12, l_24, l_600, l_689, l_999, l_120, l_32, nI_add, pk_mul, n_sub, n_leT, n_leF, n_ltT, n_ltF, n_eqT, n_eqF, n_cl, n_vp, fa_andq, fa_orq, fa_xorq, n_shl, n_shr, n_t1, n_t0, n_div, n_m1, not_true_eq_false, Bool.false_eq_true, false_and, Bool.not_false, Bool.not_true, Bool.and_true, Bool.and_false, Bool.false_and, Bool.true_and, true_and, and_true, true_or, or_true, not_false_eq_true, Option.some.injEq, exists_eq_left', forall_eq, ↓reduceIte, Nat.add_zero, Nat.zero_add, and_self]
  · have d := hp.s hs hk
    have c := nd_f c
    have dl : dst (oS pl k 0) t < 90 := by unfold dst; split <;> omega
    by_cases c1 : oS pl k 1 = ha
    · have c2 : u < dst (oS pl k 0) t := by
        rcases Nat.lt_or_ge u (dst (oS pl k 0) t) with q | q
        · exact q
        · exact absurd ⟨c1, q⟩ c
      have e := dst_abs (a := oS pl k 0) (b := t) (by omega) ht
      simp (disch := omega) only [l_X4_isHallTaken_3, h.sh, h.n, h.s hk, n_cl, n_vp, n_leF, c1, l_0, l_1, e, n_ltT, nI_add, not_true_eq_false, Bool.false_eq_true, false_and, Bool.not_false, Bool.not_true, Bool.and_true, Bool.and_false, Bool.false_and, Bool.true_and, true_and, and_true, true_or, or_true, not_false_eq_true, Option.some.injEq, exists_eq_left', forall_eq, ↓reduceIte, Nat.add_zero, Nat.zero_add, and_self]
    · simp (disch := omega) only [l_X4_isHallTaken_3, h.sh, h.n, h.s hk, l_0, l_1, l_2, l_3, l_4, l_5, l_6, l_7, l_8, l_9, l_10, l_20, l_30, l_31, l_34, l_40, l_65, l_100, l_255, l_11, l_12, l_24, l_600, l_689, l_999, l_120, l_32, nI_add, pk_mul, n_sub, n_leT, n_leF, n_ltT, n_ltF, n_eqT, n_eqF, n_cl, n_vp, fa_andq, fa_orq, fa_xorq, n_shl, n_shr, n_t1, n_t0, n_div, n_m1, not_true_eq_false, Bool.false_eq_true, false_and, Bool.not_false, Bool.not_true, Bool.and_true, Bool.and_false, Bool.false_and, Bool.true_and, true_and, and_true, true_or, or_true, not_false_eq_true, Option.some.injEq, exists_eq_left', forall_eq, ↓reduceIte, Nat.add_zero, Nat.zero_add, and_self]
  · have d := hp.s hs hk
    have c := nd_t c
    have dl : dst (oS pl k 0) t < 90 := by unfold dst; split <;> omega
    have e := dst_abs (a := oS pl k 0) (b := t) (by omega) ht
    have c2 := c.2
    simp (disch := omega) only [l_X4_isHallTaken_3, h.sh, h.n, h.s hk, n_cl, n_vp, n_leF, c.1, l_0, l_1, e, n_ltF, Bool.not_false, bI_t, or_true, not_true_eq_false, Bool.false_eq_true, false_and, Bool.not_false, Bool.not_true, Bool.and_true, Bool.and_false, Bool.false_and, Bool.true_and, true_and, and_true, true_or, or_true, not_false_eq_true, Option.some.injEq, exists_eq_left', forall_eq, ↓reduceIte, Nat.add_zero, Nat.zero_add, and_self]
end CR
