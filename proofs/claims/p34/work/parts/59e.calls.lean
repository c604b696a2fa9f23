/-! PLACES AND SETS OF WORKS; fewestDoublings, whyNot, earliest -/
def badp (sg : Nat → Nat) (a a2 : Int32) : Prop := bad a (sg 1) ∨ ∃ h, h < sg 1 ∧ a = nI h ∧ bad a2 (sg 0 * 3)
theorem plc {sg : Nat → Nat} (hs : SB sg) (a a2 : Int32) : badp sg a a2 ∨ ∃ h t, h < sg 1 ∧ t < sg 0 * 3 ∧ a = nI h ∧ a2 = nI t := by
  have b := hs.b
  rcases ix a (n := sg 1) (by omega) with h | ⟨h, h1, h2⟩
  · exact Or.inl (Or.inl h)
  · rcases ix a2 (n := sg 0 * 3) (by omega) with t | ⟨t, t1, t2⟩
    · exact Or.inl (Or.inr ⟨h, h1, h2, t⟩)
    · exact Or.inr ⟨h, t, h1, t1, h2, t2⟩
/-- a right set of works -/
def gset (W c n : Nat) : Prop := n < 2 ^ W ∧ 1 ≤ pc n ∧ pc n ≤ (if c = 0 then 1 else 3)
def bads (W c : Nat) (a : Int32) : Prop := ∀ n, gset W c n → a ≠ nI n
theorem setc (W c : Nat) (a : Int32) : bads W c a ∨ ∃ n, gset W c n ∧ a = nI n := by
  by_cases h : ∃ n, gset W c n ∧ a = nI n
  · exact Or.inr h
  · exact Or.inl fun n g e => h ⟨n, g, e⟩
theorem p2le : ∀ W, W ≤ 5 → 1 ≤ 2 ^ W ∧ 2 ^ W ≤ 32 := by decide
theorem rm_tb32 {F S : Nat} (h : F < 4294967296) (i : Nat) : (rm F S).testBit i = (F.testBit i && !S.testBit i) := by
  unfold rm
  rw [Nat.testBit_and, Nat.testBit_xor, show (4294967295 : Nat) = 2 ^ 32 - 1 from rfl, Nat.testBit_two_pow_sub_one]
  by_cases hi : i < 32
  · rw [decide_eq_true hi]
    cases F.testBit i <;> cases S.testBit i <;> rfl
  · rw [Nat.testBit_lt_two_pow (Nat.lt_of_lt_of_le h (show 2 ^ 32 ≤ 2 ^ i from p2m (by omega)))]
    rfl
theorem rm_all {F W : Nat} (h : F < 4294967296) : rm F (2 ^ W - 1) = 0 ↔ F < 2 ^ W := by
  constructor
  · intro e
    refine Nat.lt_pow_two_of_testBit (n := W) F fun i hi => ?_
    have := rm_tb32 (S := 2 ^ W - 1) h i
    rw [e, Nat.zero_testBit, Nat.testBit_two_pow_sub_one, decide_eq_false (by omega)] at this
    revert this; cases F.testBit i <;> intro q <;> first | rfl | exact absurd q (by decide)
  · intro l
    refine Nat.eq_of_testBit_eq fun i => ?_
    rw [rm_tb32 h, Nat.zero_testBit, Nat.testBit_two_pow_sub_one]
    by_cases hi : i < W
    · rw [decide_eq_true hi]; cases F.testBit i <;> rfl
    · rw [Nat.testBit_lt_two_pow (Nat.lt_of_lt_of_le l (p2m (by omega)))]; rfl
theorem rm_lt32 {F S : Nat} (h : F < 4294967296) : rm F S < 4294967296 := Nat.lt_of_le_of_lt Nat.and_le_left h
def itS : Nat → Nat → Nat
  | S, 0 => S
  | S, k + 1 => itS S k &&& (itS S k - 1)
theorem itS_all : ∀ S, S < 32 → (∀ k, k < 6 → (k < pc S → itS S k ≠ 0) ∧ itS S k < 32) ∧ itS S (pc S) = 0 ∧ pc S < 6 := by decide +kernel
theorem pc0 : pc 0 = 0 := by decide
theorem of32 (x : Int32) : ∃ n, n < 4294967296 ∧ x = nI n := by
  refine ⟨x.toBitVec.toNat, x.toBitVec.isLt, ?_⟩
  apply Int32.toBitVec_inj.mp
  apply BitVec.eq_of_toNat_eq
  rw [pk_tn (BitVec.isLt _)]
section PS
variable {x sa sp m : Nat} {sg pl : Nat → Nat} {M : Mm}
theorem e_rpw_p (hs : SB sg) (hx : XS x sa sp M) (hS : CSea sa sg M) {a a2 a3 a4 : Int32} (h : badp sg a a2) (P : Mm → Prop) (X : String → Mm → Prop) : w_X7_requirePlaceAndWorks M x a a2 a3 a4 P X ↔ ∀ n1, zn M ≤ n1 → X "java/lang/IndexOutOfBoundsException" (sZ M n1) := by
  have b := hs.b
  rcases h with h | ⟨ha, h1, rfl, h⟩
  · simp (disch := omega) only [w_X7_requirePlaceAndWorks, w_X7_requireHall, hx.s, hS.s1, hS.n, e_req_no h, not_true_eq_false, Bool.false_eq_true, false_and, Bool.not_false, Bool.not_true, Bool.and_true, Bool.and_false, Bool.false_and, Bool.true_and, true_and, and_true, true_or, or_true, not_false_eq_true, Option.some.injEq, exists_eq_left', forall_eq, ↓reduceIte, Nat.add_zero, Nat.zero_add, and_self]
  · simp (disch := omega) only [w_X7_requirePlaceAndWorks, w_X7_requireHall, w_X7_requireSlot, hx.s, hS.s1, hS.n, e_req_ok h1, e_X6_slotCount hS, e_req_no h, not_true_eq_false, Bool.false_eq_true, false_and, Bool.not_false, Bool.not_true, Bool.and_true, Bool.and_false, Bool.false_and, Bool.true_and, true_and, and_true, true_or, or_true, not_false_eq_true, Option.some.injEq, exists_eq_left', forall_eq, ↓reduceIte, Nat.add_zero, Nat.zero_add, and_self]
theorem e_rpw_s (hs : SB sg) (hx : XS x sa sp M) (hS : CSea sa sg M) {ha t c : Nat} {a3 : Int32} (h1 : ha < sg 1) (h2 : t < sg 0 * 3) (hc : c < 2) (h : bads (sg 3) c a3) (P : Mm → Prop) (X : String → Mm → Prop) : w_X7_requirePlaceAndWorks M x (nI ha) (nI t) a3 (nI c) P X ↔ ∀ n1, zn M ≤ n1 → X "java/lang/IllegalArgumentException" (sZ M n1) := by
  have b := hs.b
  have pw := p2le (sg 3) (by omega)
  obtain ⟨n, hn2, rfl⟩ := of32 a3
  by_cases q : n < 2 ^ sg 3
  · have r0 := (rm_all (W := sg 3) hn2).mpr q
    have p8 := pc_le n (by omega)
    by_cases p0 : pc n < 1
    · simp (disch := omega) only [w_X7_requirePlaceAndWorks, w_X7_requireHall, w_X7_requireSlot, w_X7_requireArgument, hx.s, hS.s1, hS.n, e_req_ok h1, e_X6_slotCount hS, e_req_ok h2, e_firstBits, rm_f, r0, e_bitCount, l_0, l_1, l_2, l_3, l_4, l_5, l_6, l_7, l_8, l_9, l_10, l_20, l_30, l_31, l_34, l_40, l_65, l_100, l_255, l_11, l_12, l_24, l_600, l_689, l_999, l_120, l_32, nI_add, pk_mul, n_sub, n_leT, n_leF, n_ltT, n_ltF, n_eqT, n_eqF, n_cl, n_vp, fa_andq, fa_orq, fa_xorq, n_shl, n_shr, n_t1, n_t0, n_div, n_m1, not_true_eq_false, Bool.false_eq_true, false_and, Bool.not_false, Bool.not_true, Bool.and_true, Bool.and_false, Bool.false_and, Bool.true_and, true_and, and_true, true_or, or_true, not_false_eq_true, Option.some.injEq, exists_eq_left', forall_eq, ↓reduceIte, Nat.add_zero, Nat.zero_add, and_self]
    · rcases (show c = 0 ∨ c = 1 by omega) with rfl | rfl
      · have p1 : 1 < pc n := by
          rcases Nat.lt_or_ge 1 (pc n) with z | z
          · exact z
          · exact absurd rfl (h n ⟨q, by omega, by rw [if_pos rfl]; omega⟩)
        simp (disch := omega) only [w_X7_requirePlaceAndWorks, w_X7_requireHall, w_X7_requireSlot, w_X7_requireArgument, hx.s, hS.s1, hS.n, e_req_ok h1, e_X6_slotCount hS, e_req_ok h2, e_firstBits, rm_f, r0, e_bitCount, l_0, l_1, l_2, l_3, l_4, l_5, l_6, l_7, l_8, l_9, l_10, l_20, l_30, l_31, l_34, l_40, l_65, l_100, l_255, l_11, l_12, l_24, l_600, l_689, l_999, l_120, l_32, nI_add, pk_mul, n_sub, n_leT, n_leF, n_ltT, n_ltF, n_eqT, n_eqF, n_cl, n_vp, fa_andq, fa_orq, fa_xorq, n_shl, n_shr, n_t1, n_t0, n_div, n_m1, not_true_eq_false, Bool.false_eq_true, false_and, Bool.not_false, Bool.not_true, Bool.and_true, Bool.and_false, Bool.false_and, Bool.true_and, true_and, and_true, true_or, or_true, not_false_eq_true, Option.some.injEq, exists_eq_left', forall_eq, ↓reduceIte, Nat.add_zero, Nat.zero_add, and_self]
      · have p1 : 3 < pc n := by
          rcases Nat.lt_or_ge 3 (pc n) with z | z
          · exact z
          · exact absurd rfl (h n ⟨q, by omega, by rw [if_neg (by omega)]; omega⟩)
        simp (disch := omega) only [w_X7_requirePlaceAndWorks, w_X7_requireHall, w_X7_requireSlot, w_X7_requireArgument, hx.s, hS.s1, hS.n, e_req_ok h1, e_X6_slotCount hS, e_req_ok h2, e_firstBits, rm_f, r0, e_bitCount, l_0, l_1, l_2, l_3, l_4, l_5, l_6, l_7, l_8, l_9, l_10, l_20, l_30, l_31, l_34, l_40, l_65, l_100, l_255, l_11, l_12, l_24, l_600, l_689, l_999, l_120, l_32, nI_add, pk_mul, n_sub, n_leT, n_leF, n_ltT, n_ltF, n_eqT, n_eqF, n_cl, n_vp, fa_andq, fa_orq, fa_xorq, n_shl, n_shr, n_t1, n_t0, n_div, n_m1, not_true_eq_false, Bool.false_eq_true, false_and, Bool.not_false, Bool.not_true, Bool.and_true, Bool.and_false, Bool.false_and, Bool.true_and, true_and, and_true, true_or, or_true, not_false_eq_true, Option.some.injEq, exists_eq_left', forall_eq, ↓reduceIte, Nat.add_zero, Nat.zero_add, and_self]
  · have r0 : rm n (2 ^ sg 3 - 1) ≠ 0 := fun z => q ((rm_all hn2).mp z)
    have rl := rm_lt32 (S := 2 ^ sg 3 - 1) hn2
    simp (disch := omega) only [w_X7_requirePlaceAndWorks, w_X7_requireHall, w_X7_requireSlot, w_X7_requireArgument, hx.s, hS.s1, hS.n, e_req_ok h1, e_X6_slotCount hS, e_req_ok h2, e_firstBits, rm_f, l_0, l_1, l_2, l_3, l_4, l_5, l_6, l_7, l_8, l_9, l_10, l_20, l_30, l_31, l_34, l_40, l_65, l_100, l_255, l_11, l_12, l_24, l_600, l_689, l_999, l_120, l_32, nI_add, pk_mul, n_sub, n_leT, n_leF, n_ltT, n_ltF, n_eqT, n_eqF, n_cl, n_vp, fa_andq, fa_orq, fa_xorq, n_shl, n_shr, n_t1, n_t0, n_div, n_m1, not_true_eq_false, Bool.false_eq_true, false_and, Bool.not_false, Bool.not_true, Bool.and_true, Bool.and_false, Bool.false_and, Bool.true_and, true_and, and_true, true_or, or_true, not_false_eq_true, Option.some.injEq, exists_eq_left', forall_eq, ↓reduceIte, Nat.add_zero, Nat.zero_add, and_self]
theorem e_rpw_ok (hs : SB sg) (hx : XS x sa sp M) (hS : CSea sa sg M) {ha t c n : Nat} (h1 : ha < sg 1) (h2 : t < sg 0 * 3) (hc : c < 2) (h : gset (sg 3) c n) (P : Mm → Prop) (X : String → Mm → Prop) : w_X7_requirePlaceAndWorks M x (nI ha) (nI t) (nI n) (nI c) P X ↔ P M := by
  have b := hs.b
  have pw := p2le (sg 3) (by omega)
  obtain ⟨q, p0, p1⟩ := h
  have r0 := (rm_all (F := n) (W := sg 3) (by omega)).mpr q
  have p8 := pc_le n (by omega)
  rcases (show c = 0 ∨ c = 1 by omega) with rfl | rfl
  · rw [if_pos rfl] at p1
    simp (disch := omega) only [w_X7_requirePlaceAndWorks, w_X7_requireHall, w_X7_requireSlot, w_X7_requireArgument, hx.s, hS.s1, hS.n, e_req_ok h1, e_X6_slotCount hS, e_req_ok h2, e_firstBits, rm_f, r0, e_bitCount, l_0, l_1, l_2, l_3, l_4, l_5, l_6, l_7, l_8, l_9, l_10, l_20, l_30, l_31, l_34, l_40, l_65, l_100, l_255, l_11, l_12, l_24, l_600, l_689, l_999, l_120, l_32, nI_add, pk_mul, n_sub, n_leT, n_leF, n_ltT, n_ltF, n_eqT, n_eqF, n_cl, n_vp, fa_andq, fa_orq, fa_xorq, n_shl, n_shr, n_t1, n_t0, n_div, n_m1, not_true_eq_false, Bool.false_eq_true, false_and, Bool.not_false, Bool.not_true, Bool.and_true, Bool.and_false, Bool.false_and, Bool.true_and, true_and, and_true, true_or, or_true, not_false_eq_true, Option.some.injEq, exists_eq_left', forall_eq, ↓reduceIte, Nat.add_zero, Nat.zero_add, and_self]
  · rw [if_neg (by omega)] at p1
    simp (disch := omega) only [w_X7_requirePlaceAndWorks, w_X7_requireHall, w_X7_requireSlot, w_X7_requireArgument, hx.s, hS.s1, hS.n, e_req_ok h1, e_X6_slotCount hS, e_req_ok h2, e_firstBits, rm_f, r0, e_bitCount, l_0, l_1, l_2, l_3, l_4, l_5, l_6, l_7, l_8, l_9, l_10, l_20, l_30, l_31, l_34, l_40, l_65, l_100, l_255, l_11, l_12, l_24, l_600, l_689, l_999, l_120, l_32, nI_add, pk_mul, n_sub, n_leT, n_leF, n_ltT, n_ltF, n_eqT, n_eqF, n_cl, n_vp, fa_andq, fa_orq, fa_xorq, n_shl, n_shr, n_t1, n_t0, n_div, n_m1, not_true_eq_false, Bool.false_eq_true, false_and, Bool.not_false, Bool.not_true, Bool.and_true, Bool.and_false, Bool.false_and, Bool.true_and, true_and, and_true, true_or, or_true, not_false_eq_true, Option.some.injEq, exists_eq_left', forall_eq, ↓reduceIte, Nat.add_zero, Nat.zero_add, and_self]
end PS
/-- the first slot from t on without a reason -/
def eaN (sg pl : Nat → Nat) (ha S c t : Nat) : Nat := if fi (fun k => decide (whyN sg pl ha (t + k) S c = 0)) (sg 0 * 3 - t) < sg 0 * 3 - t then t + fi (fun k => decide (whyN sg pl ha (t + k) S c = 0)) (sg 0 * 3 - t) else 4294967295
theorem eaN_at {sg pl : Nat → Nat} {ha S c t k : Nat} (hk : k < sg 0 * 3 - t) (h : whyN sg pl ha (t + k) S c = 0) (h2 : ∀ j, j < k → whyN sg pl ha (t + j) S c ≠ 0) : eaN sg pl ha S c t = t + k := by
  have e : fi (fun k => decide (whyN sg pl ha (t + k) S c = 0)) (sg 0 * 3 - t) = k := fi_eq hk (decide_eq_true h) fun j hj => decide_eq_false (h2 j hj)
  unfold eaN
  rw [e, if_pos hk]
theorem eaN_no {sg pl : Nat → Nat} {ha S c t : Nat} (h2 : ∀ j, j < sg 0 * 3 - t → whyN sg pl ha (t + j) S c ≠ 0) : eaN sg pl ha S c t = 4294967295 := by
  unfold eaN
  refine if_neg fun l => ?_
  have y := fi_yes _ _ l
  exact h2 _ l (of_decide_eq_true y)