/-! more methods that only read: the class's Season, the model's plan -/
def dbo (sg : Nat → Nat) (p k : Nat) : Nat := if oP sg p 3 = k then 0 else 1
def ready (sg pl : Nat → Nat) (set t : Nat) : Bool := al (fun w => !decide (set.testBit w = true ∧ swt pl w 0 t < oW sg w 0)) (sg 3)
def rehd (sg pl : Nat → Nat) : Bool := al (fun s => !decide (oS pl s 2 = 1 ∧ ¬ ready sg pl (oS pl s 3) (oS pl s 0) = true)) (pl 0)
theorem kinds_tb (sg : Nat → Nat) (p k : Nat) : (kinds sg p).testBit k = true ↔ ∃ i, i < oP sg p 2 ∧ oP sg p (3 + i) = k := by
  unfold kinds
  rw [tb_fo1, Nat.zero_testBit]
  constructor
  · rintro (h | h)
    · exact absurd h (by decide)
    · exact h
  · exact Or.inr
theorem kinds_lt {sg : Nat → Nat} (hs : SB sg) {p : Nat} (hp : p < sg 2) : kinds sg p < 256 := by
  refine lt256 (n := 8) (Nat.le_refl 8) fun k t => ?_
  obtain ⟨i, h1, h2⟩ := (kinds_tb sg p k).mp t
  rw [← h2]; exact hs.ow hp h1
theorem bI_no {b : Bool} (h : ¬ b = true) : bI b = nI 0 := by rw [b_no h]; rfl
theorem bI_ye {b : Bool} (h : b = true) : bI b = nI 1 := by rw [h]; rfl
section CS
variable {sa x a : Nat} {sg pl : Nat → Nat} {M : Mm}
theorem e_X6_slotCount (h : CSea sa sg M) (P : Int32 → Mm → Prop) : w_X6_slotCount M sa P ↔ P (nI (sg 0 * 3)) M := by
  simp (disch := omega) only [w_X6_slotCount, h.s1, h.n, l_0, l_1, l_2, l_3, l_4, l_5, l_6, l_7, l_8, l_9, l_10, l_20, l_30, l_31, l_34, l_40, l_65, l_100, l_255, l_11, l_12, l_24, l_600, l_689, l_999, l_120, l_32, nI_add, pk_mul, n_sub, n_leT, n_leF, n_ltT, n_ltF, n_eqT, n_eqF, n_cl, n_vp, fa_andq, fa_orq, fa_xorq, n_shl, n_shr, n_t1, n_t0, n_div, n_m1, not_true_eq_false, Bool.false_eq_true, false_and, Bool.not_false, Bool.not_true, Bool.and_true, Bool.and_false, Bool.false_and, Bool.true_and, true_and, and_true, true_or, or_true, not_false_eq_true, Option.some.injEq, exists_eq_left', forall_eq, ↓reduceIte, Nat.add_zero, Nat.zero_add, and_self]
theorem e_X6_instrumentOfSeat (hs : SB sg) (h : CSea sa sg M) {w j : Nat} (hw : w < sg 3) (hj : j < oW sg w 4) (P : Int32 → Mm → Prop) : w_X6_instrumentOfSeat M sa (nI w) (nI j) P ↔ P (nI (oW sg w (5 + j))) M := by
  have b := hs.b
  have c := hs.sc hw
  simp (disch := omega) only [w_X6_instrumentOfSeat, h.s1, h.st hw hj, l_0, l_1, l_2, l_3, l_4, l_5, l_6, l_7, l_8, l_9, l_10, l_20, l_30, l_31, l_34, l_40, l_65, l_100, l_255, l_11, l_12, l_24, l_600, l_689, l_999, l_120, l_32, nI_add, pk_mul, n_sub, n_leT, n_leF, n_ltT, n_ltF, n_eqT, n_eqF, n_cl, n_vp, fa_andq, fa_orq, fa_xorq, n_shl, n_shr, n_t1, n_t0, n_div, n_m1, not_true_eq_false, Bool.false_eq_true, false_and, Bool.not_false, Bool.not_true, Bool.and_true, Bool.and_false, Bool.false_and, Bool.true_and, true_and, and_true, true_or, or_true, not_false_eq_true, Option.some.injEq, exists_eq_left', forall_eq, ↓reduceIte, Nat.add_zero, Nat.zero_add, and_self]
theorem e_X6_doublingOn (hs : SB sg) (h : CSea sa sg M) {p k : Nat} (hp : p < sg 2) (hk : k < 8) (P : Int32 → Mm → Prop) : w_X6_doublingOn M sa (nI p) (nI k) P ↔ P (nI (dbo sg p k)) M := by
  have b := hs.b
  have c := hs.p p 3
  unfold dbo
  by_cases e : oP sg p 3 = k
  · simp (disch := omega) only [w_X6_doublingOn, h.s1, h.p hp, e, l_0, l_1, l_2, l_3, l_4, l_5, l_6, l_7, l_8, l_9, l_10, l_20, l_30, l_31, l_34, l_40, l_65, l_100, l_255, l_11, l_12, l_24, l_600, l_689, l_999, l_120, l_32, nI_add, pk_mul, n_sub, n_leT, n_leF, n_ltT, n_ltF, n_eqT, n_eqF, n_cl, n_vp, fa_andq, fa_orq, fa_xorq, n_shl, n_shr, n_t1, n_t0, n_div, n_m1, not_true_eq_false, Bool.false_eq_true, false_and, Bool.not_false, Bool.not_true, Bool.and_true, Bool.and_false, Bool.false_and, Bool.true_and, true_and, and_true, true_or, or_true, not_false_eq_true, Option.some.injEq, exists_eq_left', forall_eq, ↓reduceIte, Nat.add_zero, Nat.zero_add, and_self]
  · simp (disch := omega) only [w_X6_doublingOn, h.s1, h.p hp, e, l_0, l_1, l_2, l_3, l_4, l_5, l_6, l_7, l_8, l_9, l_10, l_20, l_30, l_31, l_34, l_40, l_65, l_100, l_255, l_11, l_12, l_24, l_600, l_689, l_999, l_120, l_32, nI_add, pk_mul, n_sub, n_leT, n_leF, n_ltT, n_ltF, n_eqT, n_eqF, n_cl, n_vp, fa_andq, fa_orq, fa_xorq, n_shl, n_shr, n_t1, n_t0, n_div, n_m1, not_true_eq_false, Bool.false_eq_true, false_and, Bool.not_false, Bool.not_true, Bool.and_true, Bool.and_false, Bool.false_and, Bool.true_and, true_and, and_true, true_or, or_true, not_false_eq_true, Option.some.injEq, exists_eq_left', forall_eq, ↓reduceIte, Nat.add_zero, Nat.zero_add, and_self]
theorem e_X6_playersPresent (hs : SB sg) (h : CSea sa sg M) {d : Nat} (hd : d < 30) (P : Int32 → Mm → Prop) : w_X6_playersPresent M sa (nI d) P ↔ P (nI (pres sg d)) M := by
  have b := hs.b
  unfold w_X6_playersPresent
  refine lpE (fun n (z : Int32 × Int32) => l_X6_playersPresent_4 P (fun M2 x2 => P x2 M2) n M sa (nI d) z.1 z.2) (fun k => (nI (fo (fun p b => if ¬ (oP sg p 1).testBit d = true then b ||| 2 ^ p else b) k 0), nI k)) (sg 2) (fun _ h => h.elim) (fun _ => ?_) (fun n k hk => ?_)
  · simp (disch := omega) only [l_X6_playersPresent_4, h.s1, h.n, pres, l_0, l_1, l_2, l_3, l_4, l_5, l_6, l_7, l_8, l_9, l_10, l_20, l_30, l_31, l_34, l_40, l_65, l_100, l_255, l_11, l_12, l_24, l_600, l_689, l_999, l_120, l_32, nI_add, pk_mul, n_sub, n_leT, n_leF, n_ltT, n_ltF, n_eqT, n_eqF, n_cl, n_vp, fa_andq, fa_orq, fa_xorq, n_shl, n_shr, n_t1, n_t0, n_div, n_m1, not_true_eq_false, Bool.false_eq_true, false_and, Bool.not_false, Bool.not_true, Bool.and_true, Bool.and_false, Bool.false_and, Bool.true_and, true_and, and_true, true_or, or_true, not_false_eq_true, Option.some.injEq, exists_eq_left', forall_eq, ↓reduceIte, Nat.add_zero, Nat.zero_add, and_self]
  · have c := hs.p k 1
    by_cases e : (oP sg k 1).testBit d = true
    · simp (disch := omega) only [l_X6_playersPresent_4, h.s1, h.n, h.p hk, e_has, e, bI_t, fo_s, l_0, l_1, l_2, l_3, l_4, l_5, l_6, l_7, l_8, l_9, l_10, l_20, l_30, l_31, l_34, l_40, l_65, l_100, l_255, l_11, l_12, l_24, l_600, l_689, l_999, l_120, l_32, nI_add, pk_mul, n_sub, n_leT, n_leF, n_ltT, n_ltF, n_eqT, n_eqF, n_cl, n_vp, fa_andq, fa_orq, fa_xorq, n_shl, n_shr, n_t1, n_t0, n_div, n_m1, not_true_eq_false, Bool.false_eq_true, false_and, Bool.not_false, Bool.not_true, Bool.and_true, Bool.and_false, Bool.false_and, Bool.true_and, true_and, and_true, true_or, or_true, not_false_eq_true, Option.some.injEq, exists_eq_left', forall_eq, ↓reduceIte, Nat.add_zero, Nat.zero_add, and_self]
    · simp (disch := omega) only [l_X6_playersPresent_4, h.s1, h.n, h.p hk, e_has, b_no e, bI_f, fo_s, Bool.false_eq_true, l_0, l_1, l_2, l_3, l_4, l_5, l_6, l_7, l_8, l_9, l_10, l_20, l_30, l_31, l_34, l_40, l_65, l_100, l_255, l_11, l_12, l_24, l_600, l_689, l_999, l_120, l_32, nI_add, pk_mul, n_sub, n_leT, n_leF, n_ltT, n_ltF, n_eqT, n_eqF, n_cl, n_vp, fa_andq, fa_orq, fa_xorq, n_shl, n_shr, n_t1, n_t0, n_div, n_m1, not_true_eq_false, Bool.false_eq_true, false_and, Bool.not_false, Bool.not_true, Bool.and_true, Bool.and_false, Bool.false_and, Bool.true_and, true_and, and_true, true_or, or_true, not_false_eq_true, Option.some.injEq, exists_eq_left', forall_eq, ↓reduceIte, Nat.add_zero, Nat.zero_add, and_self]
theorem e_X6_areRentedOn (hs : SB sg) (h : CSea sa sg M) {S d : Nat} (hS : S < 32) (hd : d < 30) (P : Int32 → Mm → Prop) : w_X6_areRentedOn M sa (nI S) (nI d) P ↔ P (bI (rented sg S d)) M := by
  have b := hs.b
  unfold w_X6_areRentedOn
  refine lpA (fun n (z : Int32) => l_X6_areRentedOn_2 P (fun M5 => ((0 : Int32) = 0 ∨ (0 : Int32) = 1) ∧ P (0 : Int32) M5) (fun M6 => ((1 : Int32) = 0 ∨ (1 : Int32) = 1) ∧ P (1 : Int32) M6) n M sa (nI S) (nI d) z) nI (sg 3) (fun w => !decide (S.testBit w = true ∧ ¬ (oW sg w 1 ≤ d ∧ d ≤ oW sg w 2))) (Q := fun b => P (bI b) M) (fun _ h => h.elim) (fun _ => ?_) (fun n k hk c => ?_) (fun n k hk c => ?_)
  · simp (disch := omega) only [l_X6_areRentedOn_2, h.s1, h.n, bI_t, l_0, l_1, l_2, l_3, l_4, l_5, l_6, l_7, l_8, l_9, l_10, l_20, l_30, l_31, l_34, l_40, l_65, l_100, l_255, l_11, l_12, l_24, l_600, l_689, l_999, l_120, l_32, nI_add, pk_mul, n_sub, n_leT, n_leF, n_ltT, n_ltF, n_eqT, n_eqF, n_cl, n_vp, fa_andq, fa_orq, fa_xorq, n_shl, n_shr, n_t1, n_t0, n_div, n_m1, not_true_eq_false, Bool.false_eq_true, false_and, Bool.not_false, Bool.not_true, Bool.and_true, Bool.and_false, Bool.false_and, Bool.true_and, true_and, and_true, true_or, or_true, not_false_eq_true, Option.some.injEq, exists_eq_left', forall_eq, ↓reduceIte, Nat.add_zero, Nat.zero_add, and_self]
  · have c1 := nd_f c
    have d1 := hs.w k 1
    have d2 := hs.w k 2
    by_cases e : S.testBit k = true
    · have e2 : oW sg k 1 ≤ d ∧ d ≤ oW sg k 2 := by
        by_cases q : oW sg k 1 ≤ d ∧ d ≤ oW sg k 2
        · exact q
        · exact absurd ⟨e, q⟩ c1
      simp (disch := omega) only [l_X6_areRentedOn_2, h.s1, h.n, h.w hk, e_has, e, bI_t, l_0, l_1, l_2, l_3, l_4, l_5, l_6, l_7, l_8, l_9, l_10, l_20, l_30, l_31, l_34, l_40, l_65, l_100, l_255, l_11, l_12, l_24, l_600, l_689, l_999, l_120, l_32, nI_add, pk_mul, n_sub, n_leT, n_leF, n_ltT, n_ltF, n_eqT, n_eqF, n_cl, n_vp, fa_andq, fa_orq, fa_xorq, n_shl, n_shr, n_t1, n_t0, n_div, n_m1, not_true_eq_false, Bool.false_eq_true, false_and, Bool.not_false, Bool.not_true, Bool.and_true, Bool.and_false, Bool.false_and, Bool.true_and, true_and, and_true, true_or, or_true, not_false_eq_true, Option.some.injEq, exists_eq_left', forall_eq, ↓reduceIte, Nat.add_zero, Nat.zero_add, and_self]
    · simp (disch := omega) only [l_X6_areRentedOn_2, h.s1, h.n, h.w hk, e_has, b_no e, bI_f, l_0, l_1, l_2, l_3, l_4, l_5, l_6, l_7, l_8, l_9, l_10, l_20, l_30, l_31, l_34, l_40, l_65, l_100, l_255, l_11, l_12, l_24, l_600, l_689, l_999, l_120, l_32, nI_add, pk_mul, n_sub, n_leT, n_leF, n_ltT, n_ltF, n_eqT, n_eqF, n_cl, n_vp, fa_andq, fa_orq, fa_xorq, n_shl, n_shr, n_t1, n_t0, n_div, n_m1, not_true_eq_false, Bool.false_eq_true, false_and, Bool.not_false, Bool.not_true, Bool.and_true, Bool.and_false, Bool.false_and, Bool.true_and, true_and, and_true, true_or, or_true, not_false_eq_true, Option.some.injEq, exists_eq_left', forall_eq, ↓reduceIte, Nat.add_zero, Nat.zero_add, and_self]
  · have c1 := nd_t c
    have d1 := hs.w k 1
    have d2 := hs.w k 2
    have e := c1.1
    by_cases q : oW sg k 1 ≤ d
    · have q2 : oW sg k 2 < d := by
        rcases Nat.lt_or_ge (oW sg k 2) d with z | z
        · exact z
        · exact absurd ⟨q, z⟩ c1.2
      simp (disch := omega) only [l_X6_areRentedOn_2, h.s1, h.n, h.w hk, e_has, e, bI_t, bI_f, l_0, l_1, l_2, l_3, l_4, l_5, l_6, l_7, l_8, l_9, l_10, l_20, l_30, l_31, l_34, l_40, l_65, l_100, l_255, l_11, l_12, l_24, l_600, l_689, l_999, l_120, l_32, nI_add, pk_mul, n_sub, n_leT, n_leF, n_ltT, n_ltF, n_eqT, n_eqF, n_cl, n_vp, fa_andq, fa_orq, fa_xorq, n_shl, n_shr, n_t1, n_t0, n_div, n_m1, not_true_eq_false, Bool.false_eq_true, false_and, Bool.not_false, Bool.not_true, Bool.and_true, Bool.and_false, Bool.false_and, Bool.true_and, true_and, and_true, true_or, or_true, not_false_eq_true, Option.some.injEq, exists_eq_left', forall_eq, ↓reduceIte, Nat.add_zero, Nat.zero_add, and_self]
    · simp (disch := omega) only [l_X6_areRentedOn_2, h.s1, h.n, h.w hk, e_has, e, bI_t, bI_f, l_0, l_1, l_2, l_3, l_4, l_5, l_6, l_7, l_8, l_9, l_10, l_20, l_30, l_31, l_34, l_40, l_65, l_100, l_255, l_11, l_12, l_24, l_600, l_689, l_999, l_120, l_32, nI_add, pk_mul, n_sub, n_leT, n_leF, n_ltT, n_ltF, n_eqT, n_eqF, n_cl, n_vp, fa_andq, fa_orq, fa_xorq, n_shl, n_shr, n_t1, n_t0, n_div, n_m1, not_true_eq_false, Bool.false_eq_true, false_and, Bool.not_false, Bool.not_true, Bool.and_true, Bool.and_false, Bool.false_and, Bool.true_and, true_and, and_true, true_or, or_true, not_false_eq_true, Option.some.injEq, exists_eq_left', forall_eq, ↓reduceIte, Nat.add_zero, Nat.zero_add, and_self]
/-- what the methods of OrchestraSeason need of its shape to read -/
def XR (x sa : Nat) (M : Mm) : Prop := zk M x = 7 ∧ zR M x 10 = some sa
theorem e_X7_freePlayers (hs : SB sg) (hp : PB sg pl) (hx : XR x sa M) (h : CSea sa sg M) (h4 : CPl a sg pl M) {t : Nat} (ht : t < 90) (P : Int32 → Mm → Prop) : w_X7_freePlayers M x a (nI t) P ↔ P (nI (free sg pl t)) M := by
  unfold XR at hx
  simp (disch := omega) only [w_X7_freePlayers, hx, h.s1, h4.sh, e_X6_playersPresent hs h, e_X4_playersAt hs hp h4, free, l_0, l_1, l_2, l_3, l_4, l_5, l_6, l_7, l_8, l_9, l_10, l_20, l_30, l_31, l_34, l_40, l_65, l_100, l_255, l_11, l_12, l_24, l_600, l_689, l_999, l_120, l_32, nI_add, pk_mul, n_sub, n_leT, n_leF, n_ltT, n_ltF, n_eqT, n_eqF, n_cl, n_vp, fa_andq, fa_orq, fa_xorq, n_shl, n_shr, n_t1, n_t0, n_div, n_m1, not_true_eq_false, Bool.false_eq_true, false_and, Bool.not_false, Bool.not_true, Bool.and_true, Bool.and_false, Bool.false_and, Bool.true_and, true_and, and_true, true_or, or_true, not_false_eq_true, Option.some.injEq, exists_eq_left', forall_eq, ↓reduceIte, Nat.add_zero, Nat.zero_add, and_self]
theorem e_X7_areRehearsed (hs : SB sg) (hp : PB sg pl) (hx : XR x sa M) (h : CSea sa sg M) (h4 : CPl a sg pl M) {S t : Nat} (hS : S < 32) (ht : t < 90) (P : Int32 → Mm → Prop) : w_X7_areRehearsed M x a (nI S) (nI t) P ↔ P (bI (ready sg pl S t)) M := by
  have b := hs.b
  have n := hp.n
  unfold w_X7_areRehearsed
  unfold XR at hx
  refine lpA (fun n (z : Int32) => l_X7_areRehearsed_3 P (fun M5 => ((0 : Int32) = 0 ∨ (0 : Int32) = 1) ∧ P (0 : Int32) M5) (fun M6 => ((1 : Int32) = 0 ∨ (1 : Int32) = 1) ∧ P (1 : Int32) M6) n M x a (nI S) (nI t) z) nI (sg 3) (fun w => !decide (S.testBit w = true ∧ swt pl w 0 t < oW sg w 0)) (Q := fun b => P (bI b) M) (fun _ h => h.elim) (fun _ => ?_) (fun n k hk c => ?_) (fun n k hk c => ?_)
  · simp (disch := omega) only [l_X7_areRehearsed_3, hx, h.s1, h.n, bI_t, l_0, l_1, l_2, l_3, l_4, l_5, l_6, l_7, l_8, l_9, l_10, l_20, l_30, l_31, l_34, l_40, l_65, l_100, l_255, l_11, l_12, l_24, l_600, l_689, l_999, l_120, l_32, nI_add, pk_mul, n_sub, n_leT, n_leF, n_ltT, n_ltF, n_eqT, n_eqF, n_cl, n_vp, fa_andq, fa_orq, fa_xorq, n_shl, n_shr, n_t1, n_t0, n_div, n_m1, not_true_eq_false, Bool.false_eq_true, false_and, Bool.not_false, Bool.not_true, Bool.and_true, Bool.and_false, Bool.false_and, Bool.true_and, true_and, and_true, true_or, or_true, not_false_eq_true, Option.some.injEq, exists_eq_left', forall_eq, ↓reduceIte, Nat.add_zero, Nat.zero_add, and_self]
  · have c1 := nd_f c
    have d1 := hs.w k 0
    have d2 := swt_le pl k 0 t
    by_cases e : S.testBit k = true
    · have e2 : oW sg k 0 ≤ swt pl k 0 t := by
        by_cases q : oW sg k 0 ≤ swt pl k 0 t
        · exact q
        · exact absurd ⟨e, by omega⟩ c1
      simp (disch := omega) only [l_X7_areRehearsed_3, hx, h.s1, h.n, h.w hk, h4.sh, e_has, e_X4_servicesWith hs hp h4, e, bI_t, l_0, l_1, l_2, l_3, l_4, l_5, l_6, l_7, l_8, l_9, l_10, l_20, l_30, l_31, l_34, l_40, l_65, l_100, l_255, l_11, l_12, l_24, l_600, l_689, l_999, l_120, l_32, nI_add, pk_mul, n_sub, n_leT, n_leF, n_ltT, n_ltF, n_eqT, n_eqF, n_cl, n_vp, fa_andq, fa_orq, fa_xorq, n_shl, n_shr, n_t1, n_t0, n_div, n_m1, not_true_eq_false, Bool.false_eq_true, false_and, Bool.not_false, Bool.not_true, Bool.and_true, Bool.and_false, Bool.false_and, Bool.true_and, true_and, and_true, true_or, or_true, not_false_eq_true, Option.some.injEq, exists_eq_left', forall_eq, ↓reduceIte, Nat.add_zero, Nat.zero_add, and_self]
    · simp (disch := omega) only [l_X7_areRehearsed_3, hx, h.s1, h.n, h.w hk, e_has, b_no e, bI_f, l_0, l_1, l_2, l_3, l_4, l_5, l_6, l_7, l_8, l_9, l_10, l_20, l_30, l_31, l_34, l_40, l_65, l_100, l_255, l_11, l_12, l_24, l_600, l_689, l_999, l_120, l_32, nI_add, pk_mul, n_sub, n_leT, n_leF, n_ltT, n_ltF, n_eqT, n_eqF, n_cl, n_vp, fa_andq, fa_orq, fa_xorq, n_shl, n_shr, n_t1, n_t0, n_div, n_m1, not_true_eq_false, Bool.false_eq_true, false_and, Bool.not_false, Bool.not_true, Bool.and_true, Bool.and_false, Bool.false_and, Bool.true_and, true_and, and_true, true_or, or_true, not_false_eq_true, Option.some.injEq, exists_eq_left', forall_eq, ↓reduceIte, Nat.add_zero, Nat.zero_add, and_self]
  · obtain ⟨e, c2⟩ := nd_t c
    have d1 := hs.w k 0
    simp (disch := omega) only [l_X7_areRehearsed_3, hx, h.s1, h.n, h.w hk, h4.sh, e_has, e_X4_servicesWith hs hp h4, e, bI_t, bI_f, l_0, l_1, l_2, l_3, l_4, l_5, l_6, l_7, l_8, l_9, l_10, l_20, l_30, l_31, l_34, l_40, l_65, l_100, l_255, l_11, l_12, l_24, l_600, l_689, l_999, l_120, l_32, nI_add, pk_mul, n_sub, n_leT, n_leF, n_ltT, n_ltF, n_eqT, n_eqF, n_cl, n_vp, fa_andq, fa_orq, fa_xorq, n_shl, n_shr, n_t1, n_t0, n_div, n_m1, not_true_eq_false, Bool.false_eq_true, false_and, Bool.not_false, Bool.not_true, Bool.and_true, Bool.and_false, Bool.false_and, Bool.true_and, true_and, and_true, true_or, or_true, not_false_eq_true, Option.some.injEq, exists_eq_left', forall_eq, ↓reduceIte, Nat.add_zero, Nat.zero_add, and_self]
theorem e_X7_isEveryConcertRehearsed (hs : SB sg) (hp : PB sg pl) (hx : XR x sa M) (h : CSea sa sg M) (h4 : CPl a sg pl M) (P : Int32 → Mm → Prop) : w_X7_isEveryConcertRehearsed M x a P ↔ P (bI (rehd sg pl)) M := by
  have b := hs.b
  have n := hp.n
  unfold w_X7_isEveryConcertRehearsed
  have hx2 := hx
  unfold XR at hx2
  refine lpA (fun n (z : Int32) => l_X7_isEveryConcertRehearsed_2 P (fun M5 => ((0 : Int32) = 0 ∨ (0 : Int32) = 1) ∧ P (0 : Int32) M5) (fun M6 => ((1 : Int32) = 0 ∨ (1 : Int32) = 1) ∧ P (1 : Int32) M6) n M x a z) nI (pl 0) (fun s => !decide (oS pl s 2 = 1 ∧ ¬ ready sg pl (oS pl s 3) (oS pl s 0) = true)) (Q := fun b => P (bI b) M) (fun _ h => h.elim) (fun _ => ?_) (fun n k hk c => ?_) (fun n k hk c => ?_)
  · simp (disch := omega) only [l_X7_isEveryConcertRehearsed_2, h4.sh, h4.n, bI_t, l_0, l_1, l_2, l_3, l_4, l_5, l_6, l_7, l_8, l_9, l_10, l_20, l_30, l_31, l_34, l_40, l_65, l_100, l_255, l_11, l_12, l_24, l_600, l_689, l_999, l_120, l_32, nI_add, pk_mul, n_sub, n_leT, n_leF, n_ltT, n_ltF, n_eqT, n_eqF, n_cl, n_vp, fa_andq, fa_orq, fa_xorq, n_shl, n_shr, n_t1, n_t0, n_div, n_m1, not_true_eq_false, Bool.false_eq_true, false_and, Bool.not_false, Bool.not_true, Bool.and_true, Bool.and_false, Bool.false_and, Bool.true_and, true_and, and_true, true_or, or_true, not_false_eq_true, Option.some.injEq, exists_eq_left', forall_eq, ↓reduceIte, Nat.add_zero, Nat.zero_add, and_self]
  · have c1 := nd_f c
    have d := hp.s hs hk
    by_cases e : oS pl k 2 = 1
    · have e2 : ready sg pl (oS pl k 3) (oS pl k 0) = true := by
        by_cases q : ready sg pl (oS pl k 3) (oS pl k 0) = true
        · exact q
        · exact absurd ⟨e, q⟩ c1
      simp (disch := omega) only [l_X7_isEveryConcertRehearsed_2, hx2, h4.sh, h4.n, h4.s hk, e_X4_isConcert hs hp h4 hk, e_X7_areRehearsed hs hp hx h h4, e, decide_true, e2, bI_t, l_0, l_1, l_2, l_3, l_4, l_5, l_6, l_7, l_8, l_9, l_10, l_20, l_30, l_31, l_34, l_40, l_65, l_100, l_255, l_11, l_12, l_24, l_600, l_689, l_999, l_120, l_32, nI_add, pk_mul, n_sub, n_leT, n_leF, n_ltT, n_ltF, n_eqT, n_eqF, n_cl, n_vp, fa_andq, fa_orq, fa_xorq, n_shl, n_shr, n_t1, n_t0, n_div, n_m1, not_true_eq_false, Bool.false_eq_true, false_and, Bool.not_false, Bool.not_true, Bool.and_true, Bool.and_false, Bool.false_and, Bool.true_and, true_and, and_true, true_or, or_true, not_false_eq_true, Option.some.injEq, exists_eq_left', forall_eq, ↓reduceIte, Nat.add_zero, Nat.zero_add, and_self]
    · simp (disch := omega) only [l_X7_isEveryConcertRehearsed_2, hx2, h4.sh, h4.n, h4.s hk, e_X4_isConcert hs hp h4 hk, decide_eq_false e, bI_f, l_0, l_1, l_2, l_3, l_4, l_5, l_6, l_7, l_8, l_9, l_10, l_20, l_30, l_31, l_34, l_40, l_65, l_100, l_255, l_11, l_12, l_24, l_600, l_689, l_999, l_120, l_32, nI_add, pk_mul, n_sub, n_leT, n_leF, n_ltT, n_ltF, n_eqT, n_eqF, n_cl, n_vp, fa_andq, fa_orq, fa_xorq, n_shl, n_shr, n_t1, n_t0, n_div, n_m1, not_true_eq_false, Bool.false_eq_true, false_and, Bool.not_false, Bool.not_true, Bool.and_true, Bool.and_false, Bool.false_and, Bool.true_and, true_and, and_true, true_or, or_true, not_false_eq_true, Option.some.injEq, exists_eq_left', forall_eq, ↓reduceIte, Nat.add_zero, Nat.zero_add, and_self]
  · obtain ⟨e, c2⟩ := nd_t c
    have d := hp.s hs hk
    simp (disch := omega) only [l_X7_isEveryConcertRehearsed_2, hx2, h4.sh, h4.n, h4.s hk, e_X4_isConcert hs hp h4 hk, e_X7_areRehearsed hs hp hx h h4, e, decide_true, b_no c2, bI_t, bI_f, l_0, l_1, l_2, l_3, l_4, l_5, l_6, l_7, l_8, l_9, l_10, l_20, l_30, l_31, l_34, l_40, l_65, l_100, l_255, l_11, l_12, l_24, l_600, l_689, l_999, l_120, l_32, nI_add, pk_mul, n_sub, n_leT, n_leF, n_ltT, n_ltF, n_eqT, n_eqF, n_cl, n_vp, fa_andq, fa_orq, fa_xorq, n_shl, n_shr, n_t1, n_t0, n_div, n_m1, not_true_eq_false, Bool.false_eq_true, false_and, Bool.not_false, Bool.not_true, Bool.and_true, Bool.and_false, Bool.false_and, Bool.true_and, true_and, and_true, true_or, or_true, not_false_eq_true, Option.some.injEq, exists_eq_left', forall_eq, ↓reduceIte, Nat.add_zero, Nat.zero_add, and_self]
end CS
section RE
variable {m : Nat} {sg pl : Nat → Nat} {M : Mm}
theorem anb (f : Nat → Nat) (k : Nat) : ∀ n, (fo (fun i a => a ||| 2 ^ f i) n 0).testBit k = fo (fun i b => b || decide (f i = k)) n false
  | 0 => Nat.zero_testBit k
  | n + 1 => by rw [fo_s, fo_s, Nat.testBit_or, Nat.testBit_two_pow, anb f k n]
theorem tb32 {x k : Nat} (hx : x < 4294967296) : (x &&& 4294967295) = x := by
  rw [show (4294967295 : Nat) = 2 ^ 32 - 1 from rfl, Nat.and_two_pow_sub_one_eq_mod]
  exact Nat.mod_eq_of_lt hx
theorem and_lt256 {x y : Nat} (h : x < 256) : x &&& y < 256 := Nat.lt_of_le_of_lt Nat.and_le_left h
theorem fr_and {f : Nat → Nat} (c : Nat → Prop) [DecidablePred c] {a : Nat} (ha : a < 256) (hf : ∀ n, f n < 256) : ∀ n, fo (fun s b => if c s then b &&& (f s ^^^ 4294967295) else b) n a = a &&& (fo (fun s b => if c s then b ||| f s else b) n 0 ^^^ 4294967295)
  | 0 => by
    show a = a &&& (0 ^^^ 4294967295)
    rw [Nat.zero_xor, tb32 (k := 0) (by omega)]
  | n + 1 => by
    rw [fo_s, fo_s, fr_and c ha hf n]
    by_cases e : c n
    · rw [if_pos e, if_pos e]
      refine Nat.eq_of_testBit_eq fun i => ?_
      simp only [Nat.testBit_and, Nat.testBit_xor, Nat.testBit_or]
      rw [show (4294967295 : Nat) = 2 ^ 32 - 1 from rfl, Nat.testBit_two_pow_sub_one]
      by_cases hi : i < 32
      · rw [decide_eq_true hi]
        cases a.testBit i <;> cases (fo (fun s b => if c s then b ||| f s else b) n 0).testBit i <;> cases (f n).testBit i <;> rfl
      · rw [Nat.testBit_lt_two_pow (Nat.lt_of_lt_of_le ha (show 2 ^ 8 ≤ 2 ^ i from p2m (by omega)))]
        rfl
    · rw [if_neg e, if_neg e]
theorem fo_ext {σ : Type} {g h : Nat → σ → σ} {N : Nat} (e : ∀ i s, i < N → g i s = h i s) (s : σ) : ∀ n, n ≤ N → fo g n s = fo h n s
  | 0, _ => rfl
  | n + 1, hn => by rw [fo_s, fo_s, fo_ext e s n (by omega), e n _ (by omega)]
theorem free_fo {sg pl : Nat → Nat} (hs : SB sg) (hp : PB sg pl) (t : Nat) : fo (fun s b => if oS pl s 0 = t then b &&& (inS sg pl s ^^^ 4294967295) else b &&& 4294967295) (pl 0) (pres sg (t / 3)) = free sg pl t := by
  have key : ∀ n, n ≤ pl 0 → fo (fun s b => if oS pl s 0 = t then b &&& (inS sg pl s ^^^ 4294967295) else b &&& 4294967295) n (pres sg (t / 3)) = pres sg (t / 3) &&& (fo (fun s b => if oS pl s 0 = t then b ||| inS sg pl s else b) n 0 ^^^ 4294967295) := by
    intro n
    induction n with
    | zero =>
      intro _
      show pres sg (t / 3) = pres sg (t / 3) &&& (0 ^^^ 4294967295)
      have := pres_lt hs (t / 3)
      rw [Nat.zero_xor, tb32 (k := 0) (by omega)]
    | succ n ih =>
      intro hn
      rw [fo_s, fo_s, ih (by omega)]
      have q := pres_lt hs (t / 3)
      by_cases e : oS pl n 0 = t
      · rw [if_pos e, if_pos e]
        refine Nat.eq_of_testBit_eq fun i => ?_
        simp only [Nat.testBit_and, Nat.testBit_xor, Nat.testBit_or]
        rw [show (4294967295 : Nat) = 2 ^ 32 - 1 from rfl, Nat.testBit_two_pow_sub_one]
        by_cases hi : i < 32
        · rw [decide_eq_true hi]
          cases (pres sg (t / 3)).testBit i <;> cases (fo (fun s b => if oS pl s 0 = t then b ||| inS sg pl s else b) n 0).testBit i <;> cases (inS sg pl n).testBit i <;> rfl
        · rw [Nat.testBit_lt_two_pow (Nat.lt_of_lt_of_le q (show 2 ^ 8 ≤ 2 ^ i from p2m (by omega)))]
          rfl
      · rw [if_neg e, if_neg e, tb32 (k := 0)]
        have := and_lt256 (y := (fo (fun s b => if oS pl s 0 = t then b ||| inS sg pl s else b) n 0 ^^^ 4294967295)) q
        omega
  exact key _ (Nat.le_refl _)
end RE
