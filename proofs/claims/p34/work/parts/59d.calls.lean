/-! balance, the busiest, no clash -/
def balB (sg pl : Nat → Nat) : Bool := al (fun p => decide (bey sg pl p = nI 0)) (sg 2)
def bz (sg pl : Nat → Nat) (k : Nat) : Nat := fo (fun p best => if best = 4294967295 then p else if bey sg pl best < bey sg pl p then p else best) k 4294967295
theorem bz_s (sg pl : Nat → Nat) (k : Nat) : bz sg pl (k + 1) = if bz sg pl k = 4294967295 then k else if bey sg pl (bz sg pl k) < bey sg pl k then k else bz sg pl k := rfl
theorem bz_lt (sg pl : Nat → Nat) : ∀ k, bz sg pl k < k ∨ bz sg pl k = 4294967295
  | 0 => Or.inr rfl
  | k + 1 => by
    have h := bz_lt sg pl k
    rw [bz_s]
    split
    · omega
    · split <;> omega
theorem nlt32 (a b : Int32) : a ≤ b ↔ ¬ b < a := by rw [le_iff32, lt_iff32]; omega
section BB
variable {x sa sp m : Nat} {sg pl : Nat → Nat} {M : Mm}
theorem e_X7_isBalanced (hs : SB sg) (hp : PB sg pl) (hx : XS x sa sp M) (hS : CSea sa sg M) (hP : CPl (x + 6) sg pl M) (P : Int32 → Mm → Prop) : w_X7_isBalanced M x P ↔ P (bI (balB sg pl)) M := by
  have b := hs.b
  unfold w_X7_isBalanced
  refine lpA (fun n (z : Int32) => l_X7_isBalanced_2 P (fun M5 => ((0 : Int32) = 0 ∨ (0 : Int32) = 1) ∧ P (0 : Int32) M5) (fun M6 => ((1 : Int32) = 0 ∨ (1 : Int32) = 1) ∧ P (1 : Int32) M6) n M x z) nI (sg 2) (fun p => decide (bey sg pl p = nI 0)) (Q := fun b => P (bI b) M) (fun _ h => h.elim) (fun _ => ?_) (fun n k hk c => ?_) (fun n k hk c => ?_)
  · simp (disch := omega) only [l_X7_isBalanced_2, hx.s, hS.s1, hS.n, bI_t, l_0, l_1, l_2, l_3, l_4, l_5, l_6, l_7, l_8, l_9, l_10, l_20, l_30, l_31, l_34, l_40, l_65, l_100, l_255, l_11, l_12, l_24, l_600, l_689, l_999, l_120, l_32, nI_add, pk_mul, n_sub, n_leT, n_leF, n_ltT, n_ltF, n_eqT, n_eqF, n_cl, n_vp, fa_andq, fa_orq, fa_xorq, n_shl, n_shr, n_t1, n_t0, n_div, n_m1, not_true_eq_false, Bool.false_eq_true, false_and, Bool.not_false, Bool.not_true, Bool.and_true, Bool.and_false, Bool.false_and, Bool.true_and, true_and, and_true, true_or, or_true, not_false_eq_true, Option.some.injEq, exists_eq_left', forall_eq, ↓reduceIte, Nat.add_zero, Nat.zero_add, and_self]
  · have c := of_decide_eq_true c
    unfold bey at c
    simp (disch := omega) only [l_X7_isBalanced_2, hx.s, hS.s1, hS.n, hP.sh, e_X4_beyondContract hs hp hP hk, c, l_0, l_1, l_2, l_3, l_4, l_5, l_6, l_7, l_8, l_9, l_10, l_20, l_30, l_31, l_34, l_40, l_65, l_100, l_255, l_11, l_12, l_24, l_600, l_689, l_999, l_120, l_32, n_leF, nI_add, not_true_eq_false, Bool.false_eq_true, false_and, Bool.not_false, Bool.not_true, Bool.and_true, Bool.and_false, Bool.false_and, Bool.true_and, true_and, and_true, true_or, or_true, not_false_eq_true, Option.some.injEq, exists_eq_left', forall_eq, ↓reduceIte, Nat.add_zero, Nat.zero_add, and_self]
  · have c := of_decide_eq_false c
    unfold bey at c
    simp (disch := omega) only [l_X7_isBalanced_2, hx.s, hS.s1, hS.n, hP.sh, e_X4_beyondContract hs hp hP hk, c, l_0, l_1, l_2, l_3, l_4, l_5, l_6, l_7, l_8, l_9, l_10, l_20, l_30, l_31, l_34, l_40, l_65, l_100, l_255, l_11, l_12, l_24, l_600, l_689, l_999, l_120, l_32, n_leF, nI_add, bI_f, not_true_eq_false, Bool.false_eq_true, false_and, Bool.not_false, Bool.not_true, Bool.and_true, Bool.and_false, Bool.false_and, Bool.true_and, true_and, and_true, true_or, or_true, not_false_eq_true, Option.some.injEq, exists_eq_left', forall_eq, ↓reduceIte, Nat.add_zero, Nat.zero_add, and_self]
theorem e_X7_busiest (hs : SB sg) (hp : PB sg pl) (hx : XS x sa sp M) (hS : CSea sa sg M) (hP : CPl (x + 6) sg pl M) (P : Int32 → Mm → Prop) : w_X7_busiest M x P ↔ P (nI (bz sg pl (sg 2))) M := by
  have b := hs.b
  unfold w_X7_busiest
  refine lpE (fun n (z : Int32 × Int32 × Int32) => l_X7_busiest_6 P (fun M5 x1_5 => P x1_5 M5) n M x z.1 z.2.1 z.2.2) (fun k => (nI (bz sg pl k), (if bz sg pl k = 4294967295 then nI 0 else bey sg pl (bz sg pl k)), nI k)) (sg 2) (fun _ h => h.elim) (fun _ => ?_) (fun n k hk => ?_)
  · simp (disch := omega) only [l_X7_busiest_6, hx.s, hS.s1, hS.n, l_0, l_1, l_2, l_3, l_4, l_5, l_6, l_7, l_8, l_9, l_10, l_20, l_30, l_31, l_34, l_40, l_65, l_100, l_255, l_11, l_12, l_24, l_600, l_689, l_999, l_120, l_32, n_leT, not_true_eq_false, Bool.false_eq_true, false_and, Bool.not_false, Bool.not_true, Bool.and_true, Bool.and_false, Bool.false_and, Bool.true_and, true_and, and_true, true_or, or_true, not_false_eq_true, Option.some.injEq, exists_eq_left', forall_eq, ↓reduceIte, Nat.add_zero, Nat.zero_add, and_self]
  · have l := bz_lt sg pl k
    have ek : nI (svc sg pl k) - nI (pl (1 + k)) = bey sg pl k := rfl
    by_cases c : bz sg pl k = 4294967295
    · simp (disch := omega) only [l_X7_busiest_6, hx.s, hS.s1, hS.n, hP.sh, e_X4_beyondContract hs hp hP hk, ek, c, bz_s, l_0, l_1, l_2, l_3, l_4, l_5, l_6, l_7, l_8, l_9, l_10, l_20, l_30, l_31, l_34, l_40, l_65, l_100, l_255, l_11, l_12, l_24, l_600, l_689, l_999, l_120, l_32, n_m1, n_leF, n_eqT, n_eqF, nI_add, not_true_eq_false, Bool.false_eq_true, false_and, Bool.not_false, Bool.not_true, Bool.and_true, Bool.and_false, Bool.false_and, Bool.true_and, true_and, and_true, true_or, or_true, not_false_eq_true, Option.some.injEq, exists_eq_left', forall_eq, ↓reduceIte, Nat.add_zero, Nat.zero_add, and_self]
      rw [if_neg (by omega)]
    · by_cases d : bey sg pl (bz sg pl k) < bey sg pl k
      · simp (disch := omega) only [l_X7_busiest_6, hx.s, hS.s1, hS.n, hP.sh, e_X4_beyondContract hs hp hP hk, ek, c, d, nlt32, bz_s, l_0, l_1, l_2, l_3, l_4, l_5, l_6, l_7, l_8, l_9, l_10, l_20, l_30, l_31, l_34, l_40, l_65, l_100, l_255, l_11, l_12, l_24, l_600, l_689, l_999, l_120, l_32, n_m1, n_leF, n_ltT, n_eqT, n_eqF, nI_add, not_true_eq_false, Bool.false_eq_true, false_and, Bool.not_false, Bool.not_true, Bool.and_true, Bool.and_false, Bool.false_and, Bool.true_and, true_and, and_true, true_or, or_true, not_false_eq_true, Option.some.injEq, exists_eq_left', forall_eq, ↓reduceIte, Nat.add_zero, Nat.zero_add, and_self]
        rw [if_neg (by omega)]
      · simp (disch := omega) only [l_X7_busiest_6, hx.s, hS.s1, hS.n, hP.sh, e_X4_beyondContract hs hp hP hk, ek, c, d, nlt32, bz_s, l_0, l_1, l_2, l_3, l_4, l_5, l_6, l_7, l_8, l_9, l_10, l_20, l_30, l_31, l_34, l_40, l_65, l_100, l_255, l_11, l_12, l_24, l_600, l_689, l_999, l_120, l_32, n_m1, n_leF, n_ltT, n_eqT, n_eqF, nI_add, not_true_eq_false, Bool.false_eq_true, false_and, Bool.not_false, Bool.not_true, Bool.and_true, Bool.and_false, Bool.false_and, Bool.true_and, true_and, and_true, true_or, or_true, not_false_eq_true, Option.some.injEq, exists_eq_left', forall_eq, ↓reduceIte, Nat.add_zero, Nat.zero_add, and_self]
theorem and_no {A B : Nat} (h : ∀ p, ¬ (A.testBit p = true ∧ B.testBit p = true)) : A &&& B = 0 := by
  refine Nat.eq_of_testBit_eq fun i => ?_
  rw [Nat.zero_testBit, Nat.testBit_and]
  have := h i
  revert this
  cases A.testBit i <;> cases B.testBit i <;> intro q <;> first | rfl | exact absurd ⟨rfl, rfl⟩ q
theorem e_X4_sharesPlayers {a : Nat} (hs : SB sg) (hp : PG sg pl) (h : CPl a sg pl M) {s : Nat} (hsn : s < pl 0) (P : Int32 → Mm → Prop) : w_X4_sharesPlayers M a (nI s) P ↔ P (nI 0) M := by
  have n := hp.1.n
  have ds := hp.1.s hs hsn
  unfold w_X4_sharesPlayers
  refine lpE (fun n (z : Int32) => l_X4_sharesPlayers_2 P (fun M5 => ((1 : Int32) = 0 ∨ (1 : Int32) = 1) ∧ P (1 : Int32) M5) (fun M6 => ((0 : Int32) = 0 ∨ (0 : Int32) = 1) ∧ P (0 : Int32) M6) n M a (nI s) z) nI (pl 0) (fun _ h => h.elim) (fun _ => ?_) (fun n k hk => ?_)
  · simp (disch := omega) only [l_X4_sharesPlayers_2, h.sh, h.n, l_0, l_1, l_2, l_3, l_4, l_5, l_6, l_7, l_8, l_9, l_10, l_20, l_30, l_31, l_34, l_40, l_65, l_100, l_255, l_11, l_12, l_24, l_600, l_689, l_999, l_120, l_32, nI_add, pk_mul, n_sub, n_leT, n_leF, n_ltT, n_ltF, n_eqT, n_eqF, n_cl, n_vp, fa_andq, fa_orq, fa_xorq, n_shl, n_shr, n_t1, n_t0, n_div, n_m1, not_true_eq_false, Bool.false_eq_true, false_and, Bool.not_false, Bool.not_true, Bool.and_true, Bool.and_false, Bool.false_and, Bool.true_and, true_and, and_true, true_or, or_true, not_false_eq_true, Option.some.injEq, exists_eq_left', forall_eq, ↓reduceIte, Nat.add_zero, Nat.zero_add, and_self]
  · have d := hp.1.s hs hk
    by_cases c : k = s
    · simp (disch := omega) only [l_X4_sharesPlayers_2, h.sh, h.n, l_0, l_1, l_2, l_3, l_4, l_5, l_6, l_7, l_8, l_9, l_10, l_20, l_30, l_31, l_34, l_40, l_65, l_100, l_255, l_11, l_12, l_24, l_600, l_689, l_999, l_120, l_32, nI_add, pk_mul, n_sub, n_leT, n_leF, n_ltT, n_ltF, n_eqT, n_eqF, n_cl, n_vp, fa_andq, fa_orq, fa_xorq, n_shl, n_shr, n_t1, n_t0, n_div, n_m1, not_true_eq_false, Bool.false_eq_true, false_and, Bool.not_false, Bool.not_true, Bool.and_true, Bool.and_false, Bool.false_and, Bool.true_and, true_and, and_true, true_or, or_true, not_false_eq_true, Option.some.injEq, exists_eq_left', forall_eq, ↓reduceIte, Nat.add_zero, Nat.zero_add, and_self]
    · by_cases c2 : oS pl k 0 = oS pl s 0
      · have e := and_no (hp.2.2.2 k s hk hsn c c2)
        simp (disch := omega) only [l_X4_sharesPlayers_2, h.sh, h.n, h.s hk, h.s hsn, e_X4_playersIn hs hp.1 h hk, e_X4_playersIn hs hp.1 h hsn, e, l_0, l_1, l_2, l_3, l_4, l_5, l_6, l_7, l_8, l_9, l_10, l_20, l_30, l_31, l_34, l_40, l_65, l_100, l_255, l_11, l_12, l_24, l_600, l_689, l_999, l_120, l_32, nI_add, pk_mul, n_sub, n_leT, n_leF, n_ltT, n_ltF, n_eqT, n_eqF, n_cl, n_vp, fa_andq, fa_orq, fa_xorq, n_shl, n_shr, n_t1, n_t0, n_div, n_m1, not_true_eq_false, Bool.false_eq_true, false_and, Bool.not_false, Bool.not_true, Bool.and_true, Bool.and_false, Bool.false_and, Bool.true_and, true_and, and_true, true_or, or_true, not_false_eq_true, Option.some.injEq, exists_eq_left', forall_eq, ↓reduceIte, Nat.add_zero, Nat.zero_add, and_self]
      · simp (disch := omega) only [l_X4_sharesPlayers_2, h.sh, h.n, h.s hk, h.s hsn, l_0, l_1, l_2, l_3, l_4, l_5, l_6, l_7, l_8, l_9, l_10, l_20, l_30, l_31, l_34, l_40, l_65, l_100, l_255, l_11, l_12, l_24, l_600, l_689, l_999, l_120, l_32, nI_add, pk_mul, n_sub, n_leT, n_leF, n_ltT, n_ltF, n_eqT, n_eqF, n_cl, n_vp, fa_andq, fa_orq, fa_xorq, n_shl, n_shr, n_t1, n_t0, n_div, n_m1, not_true_eq_false, Bool.false_eq_true, false_and, Bool.not_false, Bool.not_true, Bool.and_true, Bool.and_false, Bool.false_and, Bool.true_and, true_and, and_true, true_or, or_true, not_false_eq_true, Option.some.injEq, exists_eq_left', forall_eq, ↓reduceIte, Nat.add_zero, Nat.zero_add, and_self]
/-- the players of the first seats of a work, as bits -/
def sn (sg pl : Nat → Nat) (s w j : Nat) : Nat := fo (fun i b => if cs sg pl s (w * 6 + i) ≠ 4294967295 then b ||| 2 ^ cs sg pl s (w * 6 + i) else b) j 0
theorem sn_no (hs : SB sg) (hp : PG sg pl) {s w j : Nat} (hsn : s < pl 0) (hj : j < 6) (hc : cs sg pl s (w * 6 + j) ≠ 4294967295) : (sn sg pl s w j).testBit (cs sg pl s (w * 6 + j)) = false := by
  refine b_no fun t => ?_
  unfold sn at t
  rw [tb_fo (fun i => cs sg pl s (w * 6 + i) ≠ 4294967295), Nat.zero_testBit] at t
  rcases t with t | ⟨i, h1, h2, h3⟩
  · exact absurd t (by decide)
  · have v : ∀ i, i < 6 → cs sg pl s (w * 6 + i) ≠ 4294967295 → w < sg 3 ∧ (oS pl s 3).testBit w = true ∧ i < oW sg w 4 := fun i hi hc => by
      by_cases e : w < sg 3 ∧ (oS pl s 3).testBit w = true ∧ i < oW sg w 4
      · exact e
      · exact absurd (cs_out hi e) hc
    obtain ⟨a1, a2, a3⟩ := v j hj hc
    obtain ⟨-, -, b3⟩ := v i (by omega) h2
    rw [cs_in (by omega) a1 a2 b3, cs_in hj a1 a2 a3] at h3
    exact (hp.2.2.1 s hsn w a1 a2 j a3).2.2 i h1 h3
theorem sn_lt (hs : SB sg) (hp : PB sg pl) {s w : Nat} (hsn : s < pl 0) (j : Nat) : sn sg pl s w j < 256 := by
  have b := hs.b
  refine lt256 (n := 8) (Nat.le_refl 8) fun k t => ?_
  unfold sn at t
  rw [tb_fo (fun i => cs sg pl s (w * 6 + i) ≠ 4294967295), Nat.zero_testBit] at t
  rcases t with t | ⟨i, h1, h2, h3⟩
  · exact absurd t (by decide)
  · rw [← h3]
    rcases cs_lt (i := w * 6 + i) hs hp hsn with q | q
    · omega
    · exact absurd q h2
theorem e_X4_hasPlayerTwice_12 {a : Nat} (hs : SB sg) (hp : PG sg pl) (h : CPl a sg pl M) {s w : Nat} (hsn : s < pl 0) (hw : w < 5) (P : Int32 → Mm → Prop) (K : Mm → Prop) (K2 : Mm → Nat → Int32 → Int32 → Prop) : (∃ n, l_X4_hasPlayerTwice_12 P K K2 n M a (nI s) (nI w) (nI 0) (nI 0)) ↔ K2 M a (nI s) (nI w) := by
  have b := hs.b
  refine lpE (fun n (z : Int32 × Int32) => l_X4_hasPlayerTwice_12 P K K2 n M a (nI s) (nI w) z.1 z.2) (fun j => (nI (sn sg pl s w j), nI j)) 6 (fun _ h => h.elim) (fun _ => ?_) (fun n j hj => ?_)
  · simp (disch := omega) only [l_X4_hasPlayerTwice_12, l_0, l_1, l_2, l_3, l_4, l_5, l_6, l_7, l_8, l_9, l_10, l_20, l_30, l_31, l_34, l_40, l_65, l_100, l_255, l_11, l_12, l_24, l_600, l_689, l_999, l_120, l_32, nI_add, pk_mul, n_sub, n_leT, n_leF, n_ltT, n_ltF, n_eqT, n_eqF, n_cl, n_vp, fa_andq, fa_orq, fa_xorq, n_shl, n_shr, n_t1, n_t0, n_div, n_m1, not_true_eq_false, Bool.false_eq_true, false_and, Bool.not_false, Bool.not_true, Bool.and_true, Bool.and_false, Bool.false_and, Bool.true_and, true_and, and_true, true_or, or_true, not_false_eq_true, Option.some.injEq, exists_eq_left', forall_eq, ↓reduceIte, Nat.add_zero, Nat.zero_add, and_self]
  · have sl := sn_lt (w := w) hs hp.1 hsn j
    have e : sn sg pl s w (j + 1) = if cs sg pl s (w * 6 + j) ≠ 4294967295 then sn sg pl s w j ||| 2 ^ cs sg pl s (w * 6 + j) else sn sg pl s w j := rfl
    by_cases c : cs sg pl s (w * 6 + j) = 4294967295
    · rw [if_neg (fun z => z c)] at e
      simp (disch := omega) only [l_X4_hasPlayerTwice_12, h.sh, e_X4_playerOn hp.1 h hsn, c, e, Nat.or_zero, l_0, l_1, l_2, l_3, l_4, l_5, l_6, l_7, l_8, l_9, l_10, l_20, l_30, l_31, l_34, l_40, l_65, l_100, l_255, l_11, l_12, l_24, l_600, l_689, l_999, l_120, l_32, nI_add, pk_mul, n_sub, n_leT, n_leF, n_ltT, n_ltF, n_eqT, n_eqF, n_cl, n_vp, fa_andq, fa_orq, fa_xorq, n_shl, n_shr, n_t1, n_t0, n_div, n_m1, not_true_eq_false, Bool.false_eq_true, false_and, Bool.not_false, Bool.not_true, Bool.and_true, Bool.and_false, Bool.false_and, Bool.true_and, true_and, and_true, true_or, or_true, not_false_eq_true, Option.some.injEq, exists_eq_left', forall_eq, ↓reduceIte, Nat.add_zero, Nat.zero_add, and_self]
    · have q := sn_no (w := w) hs hp hsn hj c
      have cl := (cs_lt (i := w * 6 + j) hs hp.1 hsn).resolve_right c
      rw [if_pos c] at e
      simp (disch := omega) only [l_X4_hasPlayerTwice_12, h.sh, e_X4_playerOn hp.1 h hsn, e_has, q, bI_f, e, l_0, l_1, l_2, l_3, l_4, l_5, l_6, l_7, l_8, l_9, l_10, l_20, l_30, l_31, l_34, l_40, l_65, l_100, l_255, l_11, l_12, l_24, l_600, l_689, l_999, l_120, l_32, nI_add, pk_mul, n_sub, n_leT, n_leF, n_ltT, n_ltF, n_eqT, n_eqF, n_cl, n_vp, fa_andq, fa_orq, fa_xorq, n_shl, n_shr, n_t1, n_t0, n_div, n_m1, not_true_eq_false, Bool.false_eq_true, false_and, Bool.not_false, Bool.not_true, Bool.and_true, Bool.and_false, Bool.false_and, Bool.true_and, true_and, and_true, true_or, or_true, not_false_eq_true, Option.some.injEq, exists_eq_left', forall_eq, ↓reduceIte, Nat.add_zero, Nat.zero_add, and_self]
theorem e_X4_hasPlayerTwice {a : Nat} (hs : SB sg) (hp : PG sg pl) (h : CPl a sg pl M) {s : Nat} (hsn : s < pl 0) (P : Int32 → Mm → Prop) : w_X4_hasPlayerTwice M a (nI s) P ↔ P (nI 0) M := by
  unfold w_X4_hasPlayerTwice
  refine lpE (fun n (z : Int32) => l_X4_hasPlayerTwice_2 P (fun M5 => ((1 : Int32) = 0 ∨ (1 : Int32) = 1) ∧ P (1 : Int32) M5) (fun M6 => ((0 : Int32) = 0 ∨ (0 : Int32) = 1) ∧ P (0 : Int32) M6) n M a (nI s) z) nI 5 (fun _ h => h.elim) (fun _ => ?_) (fun n k hk => ?_)
  · simp (disch := omega) only [l_X4_hasPlayerTwice_2, l_0, l_1, l_2, l_3, l_4, l_5, l_6, l_7, l_8, l_9, l_10, l_20, l_30, l_31, l_34, l_40, l_65, l_100, l_255, l_11, l_12, l_24, l_600, l_689, l_999, l_120, l_32, nI_add, pk_mul, n_sub, n_leT, n_leF, n_ltT, n_ltF, n_eqT, n_eqF, n_cl, n_vp, fa_andq, fa_orq, fa_xorq, n_shl, n_shr, n_t1, n_t0, n_div, n_m1, not_true_eq_false, Bool.false_eq_true, false_and, Bool.not_false, Bool.not_true, Bool.and_true, Bool.and_false, Bool.false_and, Bool.true_and, true_and, and_true, true_or, or_true, not_false_eq_true, Option.some.injEq, exists_eq_left', forall_eq, ↓reduceIte, Nat.add_zero, Nat.zero_add, and_self]
  · simp (disch := omega) only [l_X4_hasPlayerTwice_2, e_X4_hasPlayerTwice_12 hs hp h hsn hk, l_0, l_1, l_2, l_3, l_4, l_5, l_6, l_7, l_8, l_9, l_10, l_20, l_30, l_31, l_34, l_40, l_65, l_100, l_255, l_11, l_12, l_24, l_600, l_689, l_999, l_120, l_32, nI_add, pk_mul, n_sub, n_leT, n_leF, n_ltT, n_ltF, n_eqT, n_eqF, n_cl, n_vp, fa_andq, fa_orq, fa_xorq, n_shl, n_shr, n_t1, n_t0, n_div, n_m1, not_true_eq_false, Bool.false_eq_true, false_and, Bool.not_false, Bool.not_true, Bool.and_true, Bool.and_false, Bool.false_and, Bool.true_and, true_and, and_true, true_or, or_true, not_false_eq_true, Option.some.injEq, exists_eq_left', forall_eq, ↓reduceIte, Nat.add_zero, Nat.zero_add, and_self]
theorem e_X7_isWithoutClash (hs : SB sg) (hp : PG sg pl) (hx : XS x sa sp M) (hP : CPl (x + 6) sg pl M) (P : Int32 → Mm → Prop) : w_X7_isWithoutClash M x P ↔ P (nI 1) M := by
  have n := hp.1.n
  unfold w_X7_isWithoutClash
  refine lpE (fun n (z : Int32) => l_X7_isWithoutClash_2 P (fun M5 => ((0 : Int32) = 0 ∨ (0 : Int32) = 1) ∧ P (0 : Int32) M5) (fun M6 => ((1 : Int32) = 0 ∨ (1 : Int32) = 1) ∧ P (1 : Int32) M6) n M x z) nI (pl 0) (fun _ h => h.elim) (fun _ => ?_) (fun n k hk => ?_)
  · simp (disch := omega) only [l_X7_isWithoutClash_2, hx.s, hP.sh, hP.n, l_0, l_1, l_2, l_3, l_4, l_5, l_6, l_7, l_8, l_9, l_10, l_20, l_30, l_31, l_34, l_40, l_65, l_100, l_255, l_11, l_12, l_24, l_600, l_689, l_999, l_120, l_32, nI_add, pk_mul, n_sub, n_leT, n_leF, n_ltT, n_ltF, n_eqT, n_eqF, n_cl, n_vp, fa_andq, fa_orq, fa_xorq, n_shl, n_shr, n_t1, n_t0, n_div, n_m1, not_true_eq_false, Bool.false_eq_true, false_and, Bool.not_false, Bool.not_true, Bool.and_true, Bool.and_false, Bool.false_and, Bool.true_and, true_and, and_true, true_or, or_true, not_false_eq_true, Option.some.injEq, exists_eq_left', forall_eq, ↓reduceIte, Nat.add_zero, Nat.zero_add, and_self]
  · simp (disch := omega) only [l_X7_isWithoutClash_2, hx.s, hP.sh, hP.n, e_X4_sharesPlayers hs hp hP hk, e_X4_hasPlayerTwice hs hp hP hk, l_0, l_1, l_2, l_3, l_4, l_5, l_6, l_7, l_8, l_9, l_10, l_20, l_30, l_31, l_34, l_40, l_65, l_100, l_255, l_11, l_12, l_24, l_600, l_689, l_999, l_120, l_32, nI_add, pk_mul, n_sub, n_leT, n_leF, n_ltT, n_ltF, n_eqT, n_eqF, n_cl, n_vp, fa_andq, fa_orq, fa_xorq, n_shl, n_shr, n_t1, n_t0, n_div, n_m1, not_true_eq_false, Bool.false_eq_true, false_and, Bool.not_false, Bool.not_true, Bool.and_true, Bool.and_false, Bool.false_and, Bool.true_and, true_and, and_true, true_or, or_true, not_false_eq_true, Option.some.injEq, exists_eq_left', forall_eq, ↓reduceIte, Nat.add_zero, Nat.zero_add, and_self]
/-- the model's set of the first seats -/
def sm (pl : Nat → Nat) (s w j : Nat) : Nat := fo (fun i b => b ||| 2 ^ oS pl s (4 + 6 * w + i)) j 0
end BB