/-! PLACES AND SETS OF WORKS; fewestDoublings, whyNot, earliest -/
def badp (sg : Nat → Nat) (a a2 : Int32) : Prop := bad a (sg 1) ∨ ∃ h, h < sg 1 ∧ a = nI h ∧ bad a2 (sg 0 * 3)
theorem plc {sg : Nat → Nat} (hs : SB sg) (a a2 : Int32) : badp sg a a2 ∨ ∃ h t, h < sg 1 ∧ t < sg 0 * 3 ∧ a = nI h ∧ a2 = nI t := by
  have b := hs.b
  rcases ix a (n := sg 1) (by omega) with h | ⟨h, h1, h2⟩
  · exact Or.inl (Or.inl h)
  · rcases ix a2 (n := sg 0 * 3) (by omega) with t | ⟨t, t1, t2⟩
    · exact Or.inl (Or.inr ⟨h, h1, h2, t⟩)
    · exact Or.inr ⟨h, t, h1, t1, h2, t2⟩
/-- a right set of works -/
def gset (W c n : Nat) : Prop := n < 2 ^ W ∧ 1 ≤ pc n ∧ pc n ≤ (if c = 0 then 1 else 3)
def bads (W c : Nat) (a : Int32) : Prop := ∀ n, gset W c n → a ≠ nI n
theorem setc (W c : Nat) (a : Int32) : bads W c a ∨ ∃ n, gset W c n ∧ a = nI n := by
  by_cases h : ∃ n, gset W c n ∧ a = nI n
  · exact Or.inr h
  · exact Or.inl fun n g e => h ⟨n, g, e⟩
theorem p2le : ∀ W, W ≤ 5 → 1 ≤ 2 ^ W ∧ 2 ^ W ≤ 32 := by decide
theorem rm_tb32 {F S : Nat} (h : F < 4294967296) (i : Nat) : (rm F S).testBit i = (F.testBit i && !S.testBit i) := by
  unfold rm
  rw [Nat.testBit_and, Nat.testBit_xor, show (4294967295 : Nat) = 2 ^ 32 - 1 from rfl, Nat.testBit_two_pow_sub_one]
  by_cases hi : i < 32
  · rw [decide_eq_true hi]
    cases F.testBit i <;> cases S.testBit i <;> rfl
  · rw [Nat.testBit_lt_two_pow (Nat.lt_of_lt_of_le h (show 2 ^ 32 ≤ 2 ^ i from p2m (by omega)))]
    rfl
theorem rm_all {F W : Nat} (h : F < 4294967296) : rm F (2 ^ W - 1) = 0 ↔ F < 2 ^ W := by
  constructor
  · intro e
    refine Nat.lt_pow_two_of_testBit (n := W) F fun i hi => ?_
    have := rm_tb32 (S := 2 ^ W - 1) h i
    rw [e, Nat.zero_testBit, Nat.testBit_two_pow_sub_one, decide_eq_false (by omega)] at this
    revert this; cases F.testBit i <;> intro q <;> first | rfl | exact absurd q (by decide)
  · intro l
    refine Nat.eq_of_testBit_eq fun i => ?_
    rw [rm_tb32 h, Nat.zero_testBit, Nat.testBit_two_pow_sub_one]
    by_cases hi : i < W
    · rw [decide_eq_true hi]; cases F.testBit i <;> rfl
    · rw [Nat.testBit_lt_two_pow (Nat.lt_of_lt_of_le l (p2m (by omega)))]; rfl
theorem rm_lt32 {F S : Nat} (h : F < 4294967296) : rm F S < 4294967296 := Nat.lt_of_le_of_lt Nat.and_le_left h
def itS : Nat → Nat → Nat
  | S, 0 => S
  | S, k + 1 => itS S k &&& (itS S k - 1)
theorem itS_all : ∀ S, S < 32 → (∀ k, k < 6 → (k < pc S → itS S k ≠ 0) ∧ itS S k < 32) ∧ itS S (pc S) = 0 ∧ pc S < 6 := by decide +kernel
theorem pc0 : pc 0 = 0 := by decide
theorem of32 (x : Int32) : ∃ n, n < 4294967296 ∧ x = nI n := by
  refine ⟨x.toBitVec.toNat, x.toBitVec.isLt, ?_⟩
  apply Int32.toBitVec_inj.mp
  apply BitVec.eq_of_toNat_eq
  rw [pk_tn (BitVec.isLt _)]
section PS
variable {x sa sp m : Nat} {sg pl : Nat → Nat} {M : Mm}
theorem e_ones {S : Nat} (h : S < 32) (P : Int32 → Mm → Prop) : w_X8_ones M (nI S) P ↔ P (nI (pc S)) M := by
  obtain ⟨h1, h2, h3⟩ := itS_all S h
  unfold w_X8_ones
  refine lpE (fun n (z : Int32 × Int32) => l_X8_ones_4 P (fun M1 x1_1 => P x1_1 M1) n M z.1 z.2) (fun k => (nI k, nI (itS S k))) (pc S) (fun _ h => h.elim) (fun _ => ?_) (fun n k hk => ?_)
  · simp (disch := omega) only [l_X8_ones_4, h2, l_0, l_1, l_2, l_3, l_4, l_5, l_6, l_7, l_8, l_9, l_10, l_20, l_30, l_31, l_34, l_40, l_65, l_100, l_255, l_11, l_12, l_24, l_600, l_689, l_999, l_120, l_32, nI_add, pk_mul, n_sub, n_leT, n_leF, n_ltT, n_ltF, n_eqT, n_eqF, n_cl, n_vp, fa_andq, fa_orq, fa_xorq, n_shl, n_shr, n_t1, n_t0, n_div, n_m1, not_true_eq_false, Bool.false_eq_true, false_and, Bool.not_false, Bool.not_true, Bool.and_true, Bool.and_false, Bool.false_and, Bool.true_and, true_and, and_true, true_or, or_true, not_false_eq_true, Option.some.injEq, exists_eq_left', forall_eq, ↓reduceIte, Nat.add_zero, Nat.zero_add, and_self]
  · obtain ⟨g1, g2⟩ := h1 k (by omega)
    have g3 := g1 hk
    have e : itS S (k + 1) = itS S k &&& (itS S k - 1) := rfl
    simp (disch := omega) only [l_X8_ones_4, e, l_0, l_1, l_2, l_3, l_4, l_5, l_6, l_7, l_8, l_9, l_10, l_20, l_30, l_31, l_34, l_40, l_65, l_100, l_255, l_11, l_12, l_24, l_600, l_689, l_999, l_120, l_32, nI_add, pk_mul, n_sub, n_leT, n_leF, n_ltT, n_ltF, n_eqT, n_eqF, n_cl, n_vp, fa_andq, fa_orq, fa_xorq, n_shl, n_shr, n_t1, n_t0, n_div, n_m1, not_true_eq_false, Bool.false_eq_true, false_and, Bool.not_false, Bool.not_true, Bool.and_true, Bool.and_false, Bool.false_and, Bool.true_and, true_and, and_true, true_or, or_true, not_false_eq_true, Option.some.injEq, exists_eq_left', forall_eq, ↓reduceIte, Nat.add_zero, Nat.zero_add, and_self]
theorem e_rpw_p (hs : SB sg) (hx : XS x sa sp M) (hS : CSea sa sg M) {a a2 a3 a4 : Int32} (h : badp sg a a2) (P : Mm → Prop) (X : String → Mm → Prop) : w_X7_requirePlaceAndWorks M x a a2 a3 a4 P X ↔ ∀ n1, zn M ≤ n1 → X "java/lang/IndexOutOfBoundsException" (sZ M n1) := by
  have b := hs.b
  rcases h with h | ⟨ha, h1, rfl, h⟩
  · simp (disch := omega) only [w_X7_requirePlaceAndWorks, w_X7_requireHall, hx.s, hS.s1, hS.n, e_req_no h, not_true_eq_false, Bool.false_eq_true, false_and, Bool.not_false, Bool.not_true, Bool.and_true, Bool.and_false, Bool.false_and, Bool.true_and, true_and, and_true, true_or, or_true, not_false_eq_true, Option.some.injEq, exists_eq_left', forall_eq, ↓reduceIte, Nat.add_zero, Nat.zero_add, and_self]
  · simp (disch := omega) only [w_X7_requirePlaceAndWorks, w_X7_requireHall, w_X7_requireSlot, hx.s, hS.s1, hS.n, e_req_ok h1, e_X6_slotCount hS, e_req_no h, not_true_eq_false, Bool.false_eq_true, false_and, Bool.not_false, Bool.not_true, Bool.and_true, Bool.and_false, Bool.false_and, Bool.true_and, true_and, and_true, true_or, or_true, not_false_eq_true, Option.some.injEq, exists_eq_left', forall_eq, ↓reduceIte, Nat.add_zero, Nat.zero_add, and_self]
theorem e_rpw_s (hs : SB sg) (hx : XS x sa sp M) (hS : CSea sa sg M) {ha t c : Nat} {a3 : Int32} (h1 : ha < sg 1) (h2 : t < sg 0 * 3) (hc : c < 2) (h : bads (sg 3) c a3) (P : Mm → Prop) (X : String → Mm → Prop) : w_X7_requirePlaceAndWorks M x (nI ha) (nI t) a3 (nI c) P X ↔ ∀ n1, zn M ≤ n1 → X "java/lang/IllegalArgumentException" (sZ M n1) := by
  have b := hs.b
  have pw := p2le (sg 3) (by omega)
  obtain ⟨n, hn2, rfl⟩ := of32 a3
  by_cases q : n < 2 ^ sg 3
  · have r0 := (rm_all (W := sg 3) hn2).mpr q
    have p8 := pc_le n (by omega)
    by_cases p0 : pc n < 1
    · simp (disch := omega) only [w_X7_requirePlaceAndWorks, w_X7_requireHall, w_X7_requireSlot, w_X7_requireArgument, hx.s, hS.s1, hS.n, e_req_ok h1, e_X6_slotCount hS, e_req_ok h2, e_firstBits, rm_f, r0, e_bitCount, l_0, l_1, l_2, l_3, l_4, l_5, l_6, l_7, l_8, l_9, l_10, l_20, l_30, l_31, l_34, l_40, l_65, l_100, l_255, l_11, l_12, l_24, l_600, l_689, l_999, l_120, l_32, nI_add, pk_mul, n_sub, n_leT, n_leF, n_ltT, n_ltF, n_eqT, n_eqF, n_cl, n_vp, fa_andq, fa_orq, fa_xorq, n_shl, n_shr, n_t1, n_t0, n_div, n_m1, not_true_eq_false, Bool.false_eq_true, false_and, Bool.not_false, Bool.not_true, Bool.and_true, Bool.and_false, Bool.false_and, Bool.true_and, true_and, and_true, true_or, or_true, not_false_eq_true, Option.some.injEq, exists_eq_left', forall_eq, ↓reduceIte, Nat.add_zero, Nat.zero_add, and_self]
    · rcases (show c = 0 ∨ c = 1 by omega) with rfl | rfl
      · have p1 : 1 < pc n := by
          rcases Nat.lt_or_ge 1 (pc n) with z | z
          · exact z
          · exact absurd rfl (h n ⟨q, by omega, by rw [if_pos rfl]; omega⟩)
        simp (disch := omega) only [w_X7_requirePlaceAndWorks, w_X7_requireHall, w_X7_requireSlot, w_X7_requireArgument, hx.s, hS.s1, hS.n, e_req_ok h1, e_X6_slotCount hS, e_req_ok h2, e_firstBits, rm_f, r0, e_bitCount, l_0, l_1, l_2, l_3, l_4, l_5, l_6, l_7, l_8, l_9, l_10, l_20, l_30, l_31, l_34, l_40, l_65, l_100, l_255, l_11, l_12, l_24, l_600, l_689, l_999, l_120, l_32, nI_add, pk_mul, n_sub, n_leT, n_leF, n_ltT, n_ltF, n_eqT, n_eqF, n_cl, n_vp, fa_andq, fa_orq, fa_xorq, n_shl, n_shr, n_t1, n_t0, n_div, n_m1, not_true_eq_false, Bool.false_eq_true, false_and, Bool.not_false, Bool.not_true, Bool.and_true, Bool.and_false, Bool.false_and, Bool.true_and, true_and, and_true, true_or, or_true, not_false_eq_true, Option.some.injEq, exists_eq_left', forall_eq, ↓reduceIte, Nat.add_zero, Nat.zero_add, and_self]
      · have p1 : 3 < pc n := by
          rcases Nat.lt_or_ge 3 (pc n) with z | z
          · exact z
          · exact absurd rfl (h n ⟨q, by omega, by rw [if_neg (by omega)]; omega⟩)
        simp (disch := omega) only [w_X7_requirePlaceAndWorks, w_X7_requireHall, w_X7_requireSlot, w_X7_requireArgument, hx.s, hS.s1, hS.n, e_req_ok h1, e_X6_slotCount hS, e_req_ok h2, e_firstBits, rm_f, r0, e_bitCount, l_0, l_1, l_2, l_3, l_4, l_5, l_6, l_7, l_8, l_9, l_10, l_20, l_30, l_31, l_34, l_40, l_65, l_100, l_255, l_11, l_12, l_24, l_600, l_689, l_999, l_120, l_32, nI_add, pk_mul, n_sub, n_leT, n_leF, n_ltT, n_ltF, n_eqT, n_eqF, n_cl, n_vp, fa_andq, fa_orq, fa_xorq, n_shl, n_shr, n_t1, n_t0, n_div, n_m1, not_true_eq_false, Bool.false_eq_true, false_and, Bool.not_false, Bool.not_true, Bool.and_true, Bool.and_false, Bool.false_and, Bool.true_and, true_and, and_true, true_or, or_true, not_false_eq_true, Option.some.injEq, exists_eq_left', forall_eq, ↓reduceIte, Nat.add_zero, Nat.zero_add, and_self]
  · have r0 : rm n (2 ^ sg 3 - 1) ≠ 0 := fun z => q ((rm_all hn2).mp z)
    have rl := rm_lt32 (S := 2 ^ sg 3 - 1) hn2
    simp (disch := omega) only [w_X7_requirePlaceAndWorks, w_X7_requireHall, w_X7_requireSlot, w_X7_requireArgument, hx.s, hS.s1, hS.n, e_req_ok h1, e_X6_slotCount hS, e_req_ok h2, e_firstBits, rm_f, l_0, l_1, l_2, l_3, l_4, l_5, l_6, l_7, l_8, l_9, l_10, l_20, l_30, l_31, l_34, l_40, l_65, l_100, l_255, l_11, l_12, l_24, l_600, l_689, l_999, l_120, l_32, nI_add, pk_mul, n_sub, n_leT, n_leF, n_ltT, n_ltF, n_eqT, n_eqF, n_cl, n_vp, fa_andq, fa_orq, fa_xorq, n_shl, n_shr, n_t1, n_t0, n_div, n_m1, not_true_eq_false, Bool.false_eq_true, false_and, Bool.not_false, Bool.not_true, Bool.and_true, Bool.and_false, Bool.false_and, Bool.true_and, true_and, and_true, true_or, or_true, not_false_eq_true, Option.some.injEq, exists_eq_left', forall_eq, ↓reduceIte, Nat.add_zero, Nat.zero_add, and_self]
theorem e_rpw_ok (hs : SB sg) (hx : XS x sa sp M) (hS : CSea sa sg M) {ha t c n : Nat} (h1 : ha < sg 1) (h2 : t < sg 0 * 3) (hc : c < 2) (h : gset (sg 3) c n) (P : Mm → Prop) (X : String → Mm → Prop) : w_X7_requirePlaceAndWorks M x (nI ha) (nI t) (nI n) (nI c) P X ↔ P M := by
  have b := hs.b
  have pw := p2le (sg 3) (by omega)
  obtain ⟨q, p0, p1⟩ := h
  have r0 := (rm_all (F := n) (W := sg 3) (by omega)).mpr q
  have p8 := pc_le n (by omega)
  rcases (show c = 0 ∨ c = 1 by omega) with rfl | rfl
  · rw [if_pos rfl] at p1
    simp (disch := omega) only [w_X7_requirePlaceAndWorks, w_X7_requireHall, w_X7_requireSlot, w_X7_requireArgument, hx.s, hS.s1, hS.n, e_req_ok h1, e_X6_slotCount hS, e_req_ok h2, e_firstBits, rm_f, r0, e_bitCount, l_0, l_1, l_2, l_3, l_4, l_5, l_6, l_7, l_8, l_9, l_10, l_20, l_30, l_31, l_34, l_40, l_65, l_100, l_255, l_11, l_12, l_24, l_600, l_689, l_999, l_120, l_32, nI_add, pk_mul, n_sub, n_leT, n_leF, n_ltT, n_ltF, n_eqT, n_eqF, n_cl, n_vp, fa_andq, fa_orq, fa_xorq, n_shl, n_shr, n_t1, n_t0, n_div, n_m1, not_true_eq_false, Bool.false_eq_true, false_and, Bool.not_false, Bool.not_true, Bool.and_true, Bool.and_false, Bool.false_and, Bool.true_and, true_and, and_true, true_or, or_true, not_false_eq_true, Option.some.injEq, exists_eq_left', forall_eq, ↓reduceIte, Nat.add_zero, Nat.zero_add, and_self]
  · rw [if_neg (by omega)] at p1
    simp (disch := omega) only [w_X7_requirePlaceAndWorks, w_X7_requireHall, w_X7_requireSlot, w_X7_requireArgument, hx.s, hS.s1, hS.n, e_req_ok h1, e_X6_slotCount hS, e_req_ok h2, e_firstBits, rm_f, r0, e_bitCount, l_0, l_1, l_2, l_3, l_4, l_5, l_6, l_7, l_8, l_9, l_10, l_20, l_30, l_31, l_34, l_40, l_65, l_100, l_255, l_11, l_12, l_24, l_600, l_689, l_999, l_120, l_32, nI_add, pk_mul, n_sub, n_leT, n_leF, n_ltT, n_ltF, n_eqT, n_eqF, n_cl, n_vp, fa_andq, fa_orq, fa_xorq, n_shl, n_shr, n_t1, n_t0, n_div, n_m1, not_true_eq_false, Bool.false_eq_true, false_and, Bool.not_false, Bool.not_true, Bool.and_true, Bool.and_false, Bool.false_and, Bool.true_and, true_and, and_true, true_or, or_true, not_false_eq_true, Option.some.injEq, exists_eq_left', forall_eq, ↓reduceIte, Nat.add_zero, Nat.zero_add, and_self]
theorem e_noSet_ok (h : MR m sg pl M) (t0 : zI M m 0 = nI 0) {c n : Nat} (hc : c < 2) (g : gset (sg 3) c n) (P : Int32 → Mm → Prop) : w_X8_noSet M m (nI n) (nI c) P ↔ P (nI 0) M := by
  have b := h.sb.b
  have pw := p2le (sg 3) (by omega)
  obtain ⟨q, p0, p1⟩ := g
  have n1 : 1 ≤ n := by
    rcases Nat.lt_or_ge n 1 with z | z
    · rw [show n = 0 by omega, pc0] at p0; omega
    · exact z
  have p8 := pc_le n (by omega)
  rcases (show c = 0 ∨ c = 1 by omega) with rfl | rfl
  · rw [if_pos rfl] at p1
    simp (disch := omega) only [w_X8_noSet, w_X8_within, h.sh, h.v1, e_ones, e_throws0 h.sh.1.1 t0, l_0, l_1, l_2, l_3, l_4, l_5, l_6, l_7, l_8, l_9, l_10, l_20, l_30, l_31, l_34, l_40, l_65, l_100, l_255, l_11, l_12, l_24, l_600, l_689, l_999, l_120, l_32, nI_add, pk_mul, n_sub, n_leT, n_leF, n_ltT, n_ltF, n_eqT, n_eqF, n_cl, n_vp, fa_andq, fa_orq, fa_xorq, n_shl, n_shr, n_t1, n_t0, n_div, n_m1, not_true_eq_false, Bool.false_eq_true, false_and, Bool.not_false, Bool.not_true, Bool.and_true, Bool.and_false, Bool.false_and, Bool.true_and, true_and, and_true, true_or, or_true, not_false_eq_true, Option.some.injEq, exists_eq_left', forall_eq, ↓reduceIte, Nat.add_zero, Nat.zero_add, and_self]
  · rw [if_neg (by omega)] at p1
    simp (disch := omega) only [w_X8_noSet, w_X8_within, h.sh, h.v1, e_ones, e_throws0 h.sh.1.1 t0, l_0, l_1, l_2, l_3, l_4, l_5, l_6, l_7, l_8, l_9, l_10, l_20, l_30, l_31, l_34, l_40, l_65, l_100, l_255, l_11, l_12, l_24, l_600, l_689, l_999, l_120, l_32, nI_add, pk_mul, n_sub, n_leT, n_leF, n_ltT, n_ltF, n_eqT, n_eqF, n_cl, n_vp, fa_andq, fa_orq, fa_xorq, n_shl, n_shr, n_t1, n_t0, n_div, n_m1, not_true_eq_false, Bool.false_eq_true, false_and, Bool.not_false, Bool.not_true, Bool.and_true, Bool.and_false, Bool.false_and, Bool.true_and, true_and, and_true, true_or, or_true, not_false_eq_true, Option.some.injEq, exists_eq_left', forall_eq, ↓reduceIte, Nat.add_zero, Nat.zero_add, and_self]
theorem e_noSet_no (h : MR m sg pl M) (t0 : zI M m 0 = nI 0) {c : Nat} {a3 : Int32} (hc : c < 2) (g : bads (sg 3) c a3) (P : Int32 → Mm → Prop) : w_X8_noSet M m a3 (nI c) P ↔ P (nI 1) (sI M m 0 (nI 2)) := by
  have b := h.sb.b
  have pw := p2le (sg 3) (by omega)
  rcases ix a3 (n := 2 ^ sg 3) (by omega) with w | ⟨n, hn, rfl⟩
  · by_cases c1 : a3 < nI 1
    · simp (disch := omega) only [w_X8_noSet, w_X8_within, h.sh, h.v1, l_0, l_1, l_2, l_3, l_4, l_5, l_6, l_7, l_8, l_9, l_10, l_20, l_30, l_31, l_34, l_40, l_65, l_100, l_255, l_11, l_12, l_24, l_600, l_689, l_999, l_120, l_32, n_cl, n_vp, n_shl, fa_andq, n_sub, c1, e_throws1 h.sh.1.1 t0, n_eqT, n_eqF, not_true_eq_false, Bool.false_eq_true, false_and, Bool.not_false, Bool.not_true, Bool.and_true, Bool.and_false, Bool.false_and, Bool.true_and, true_and, and_true, true_or, or_true, not_false_eq_true, Option.some.injEq, exists_eq_left', forall_eq, ↓reduceIte, Nat.add_zero, Nat.zero_add, and_self]
    · have c2 : ¬ a3 < nI 0 := fun z => c1 (by
        rw [lt_iff32] at z ⊢
        have e0 : (nI 0).toInt = 0 := rfl
        have e1 : (nI 1).toInt = 1 := rfl
        omega)
      have c3 : nI (2 ^ sg 3 - 1) < a3 := bad_lt (n := 2 ^ sg 3 - 1) (by rw [show 2 ^ sg 3 - 1 + 1 = 2 ^ sg 3 by omega]; exact w) (by omega) c2
      simp (disch := omega) only [w_X8_noSet, w_X8_within, h.sh, h.v1, l_0, l_1, l_2, l_3, l_4, l_5, l_6, l_7, l_8, l_9, l_10, l_20, l_30, l_31, l_34, l_40, l_65, l_100, l_255, l_11, l_12, l_24, l_600, l_689, l_999, l_120, l_32, n_cl, n_vp, n_shl, fa_andq, n_sub, c1, c3, e_throws1 h.sh.1.1 t0, n_eqT, n_eqF, not_true_eq_false, Bool.false_eq_true, false_and, Bool.not_false, Bool.not_true, Bool.and_true, Bool.and_false, Bool.false_and, Bool.true_and, true_and, and_true, true_or, or_true, not_false_eq_true, Option.some.injEq, exists_eq_left', forall_eq, ↓reduceIte, Nat.add_zero, Nat.zero_add, and_self]
  · have p8 := pc_le n (by omega)
    by_cases n0 : n = 0
    · subst n0
      simp (disch := omega) only [w_X8_noSet, w_X8_within, h.sh, h.v1, e_throws1 h.sh.1.1 t0, l_0, l_1, l_2, l_3, l_4, l_5, l_6, l_7, l_8, l_9, l_10, l_20, l_30, l_31, l_34, l_40, l_65, l_100, l_255, l_11, l_12, l_24, l_600, l_689, l_999, l_120, l_32, nI_add, pk_mul, n_sub, n_leT, n_leF, n_ltT, n_ltF, n_eqT, n_eqF, n_cl, n_vp, fa_andq, fa_orq, fa_xorq, n_shl, n_shr, n_t1, n_t0, n_div, n_m1, not_true_eq_false, Bool.false_eq_true, false_and, Bool.not_false, Bool.not_true, Bool.and_true, Bool.and_false, Bool.false_and, Bool.true_and, true_and, and_true, true_or, or_true, not_false_eq_true, Option.some.injEq, exists_eq_left', forall_eq, ↓reduceIte, Nat.add_zero, Nat.zero_add, and_self]
    · have p0 : 1 ≤ pc n := by
        have z : ∀ S, S < 32 → S ≠ 0 → 1 ≤ pc S := by decide
        exact z n (by omega) n0
      rcases (show c = 0 ∨ c = 1 by omega) with rfl | rfl
      · have p1 : 1 < pc n := by
          rcases Nat.lt_or_ge 1 (pc n) with z | z
          · exact z
          · exact absurd rfl (g n ⟨hn, by omega, by rw [if_pos rfl]; omega⟩)
        simp (disch := omega) only [w_X8_noSet, w_X8_within, h.sh, h.v1, e_ones, e_throws1 h.sh.1.1 t0, l_0, l_1, l_2, l_3, l_4, l_5, l_6, l_7, l_8, l_9, l_10, l_20, l_30, l_31, l_34, l_40, l_65, l_100, l_255, l_11, l_12, l_24, l_600, l_689, l_999, l_120, l_32, nI_add, pk_mul, n_sub, n_leT, n_leF, n_ltT, n_ltF, n_eqT, n_eqF, n_cl, n_vp, fa_andq, fa_orq, fa_xorq, n_shl, n_shr, n_t1, n_t0, n_div, n_m1, not_true_eq_false, Bool.false_eq_true, false_and, Bool.not_false, Bool.not_true, Bool.and_true, Bool.and_false, Bool.false_and, Bool.true_and, true_and, and_true, true_or, or_true, not_false_eq_true, Option.some.injEq, exists_eq_left', forall_eq, ↓reduceIte, Nat.add_zero, Nat.zero_add, and_self]
      · have p1 : 3 < pc n := by
          rcases Nat.lt_or_ge 3 (pc n) with z | z
          · exact z
          · exact absurd rfl (g n ⟨hn, by omega, by rw [if_neg (by omega)]; omega⟩)
        simp (disch := omega) only [w_X8_noSet, w_X8_within, h.sh, h.v1, e_ones, e_throws1 h.sh.1.1 t0, l_0, l_1, l_2, l_3, l_4, l_5, l_6, l_7, l_8, l_9, l_10, l_20, l_30, l_31, l_34, l_40, l_65, l_100, l_255, l_11, l_12, l_24, l_600, l_689, l_999, l_120, l_32, nI_add, pk_mul, n_sub, n_leT, n_leF, n_ltT, n_ltF, n_eqT, n_eqF, n_cl, n_vp, fa_andq, fa_orq, fa_xorq, n_shl, n_shr, n_t1, n_t0, n_div, n_m1, not_true_eq_false, Bool.false_eq_true, false_and, Bool.not_false, Bool.not_true, Bool.and_true, Bool.and_false, Bool.false_and, Bool.true_and, true_and, and_true, true_or, or_true, not_false_eq_true, Option.some.injEq, exists_eq_left', forall_eq, ↓reduceIte, Nat.add_zero, Nat.zero_add, and_self]
end PS
theorem s_noPlace_no {m : Nat} {sg pl : Nat → Nat} {hn : Nat} {hl : Nat → Nat → Nat} {sv : Nat → Bool} {sl : Nat → Nat → Nat} {bl : Nat} {bf : Nat → Int32} {ep : Nat} {nm : Nat → List Nat} {M : Mm} {a a2 : Int32} (c : MI m (sg, pl, hn, hl, sv, sl, bl, bf, ep, nm) M) (hp : PB sg pl) (h : badp sg a a2) (P : Int32 → Mm → Prop)
    (K : ∀ M1, MI m (sg, pl, hn, hl, sv, sl, bl, bf, ep, nm) M1 → MF m M M1 → zI M1 m 0 = nI 1 → P (nI 1) M1) : w_X8_noPlace M m a a2 P := by
  refine thr0 c fun M1 c1 f1 t1 => ?_
  have r := c1.mr hp
  have b := r.sb.b
  have e3 : 3 * sg 0 = sg 0 * 3 := Nat.mul_comm _ _
  rcases h with h | ⟨ha, h1, rfl, h⟩
  · simp (disch := omega) only [r.sh, r.v1, e_no_no r.sh.1.1 t1 h, l_0, l_1, l_2, l_3, l_4, l_5, l_6, l_7, l_8, l_9, l_10, l_20, l_30, l_31, l_34, l_40, l_65, l_100, l_255, l_11, l_12, l_24, l_600, l_689, l_999, l_120, l_32, nI_add, pk_mul, n_sub, n_leT, n_leF, n_ltT, n_ltF, n_eqT, n_eqF, n_cl, n_vp, fa_andq, fa_orq, fa_xorq, n_shl, n_shr, n_t1, n_t0, n_div, n_m1, not_true_eq_false, Bool.false_eq_true, false_and, Bool.not_false, Bool.not_true, Bool.and_true, Bool.and_false, Bool.false_and, Bool.true_and, true_and, and_true, true_or, or_true, not_false_eq_true, Option.some.injEq, exists_eq_left', forall_eq, ↓reduceIte, Nat.add_zero, Nat.zero_add, and_self]
    exact K _ (c1.mf MF.th) (f1.trans MF.th) (zI_sI1 _ _ _ _)
  · simp (disch := omega) only [r.sh, r.v1, e_no_ok r.sh.1.1 t1 h1, e_X8_slotMany r, e3, e_no_no r.sh.1.1 t1 h, l_0, l_1, l_2, l_3, l_4, l_5, l_6, l_7, l_8, l_9, l_10, l_20, l_30, l_31, l_34, l_40, l_65, l_100, l_255, l_11, l_12, l_24, l_600, l_689, l_999, l_120, l_32, nI_add, pk_mul, n_sub, n_leT, n_leF, n_ltT, n_ltF, n_eqT, n_eqF, n_cl, n_vp, fa_andq, fa_orq, fa_xorq, n_shl, n_shr, n_t1, n_t0, n_div, n_m1, not_true_eq_false, Bool.false_eq_true, false_and, Bool.not_false, Bool.not_true, Bool.and_true, Bool.and_false, Bool.false_and, Bool.true_and, true_and, and_true, true_or, or_true, not_false_eq_true, Option.some.injEq, exists_eq_left', forall_eq, ↓reduceIte, Nat.add_zero, Nat.zero_add, and_self]
    exact K _ (c1.mf MF.th) (f1.trans MF.th) (zI_sI1 _ _ _ _)
theorem s_noPlace_ok {m : Nat} {sg pl : Nat → Nat} {hn : Nat} {hl : Nat → Nat → Nat} {sv : Nat → Bool} {sl : Nat → Nat → Nat} {bl : Nat} {bf : Nat → Int32} {ep : Nat} {nm : Nat → List Nat} {M : Mm} {ha t : Nat} (c : MI m (sg, pl, hn, hl, sv, sl, bl, bf, ep, nm) M) (hp : PB sg pl) (h1 : ha < sg 1) (h2 : t < sg 0 * 3) (P : Int32 → Mm → Prop)
    (K : ∀ M1, MI m (sg, pl, hn, hl, sv, sl, bl, bf, ep, nm) M1 → MF m M M1 → zI M1 m 0 = nI 0 → P (nI 0) M1) : w_X8_noPlace M m (nI ha) (nI t) P := by
  refine thr0 c fun M1 c1 f1 t1 => ?_
  have r := c1.mr hp
  have b := r.sb.b
  have e3 : 3 * sg 0 = sg 0 * 3 := Nat.mul_comm _ _
  simp (disch := omega) only [r.sh, r.v1, e_no_ok r.sh.1.1 t1 h1, e_X8_slotMany r, e3, e_no_ok r.sh.1.1 t1 h2, l_0, l_1, l_2, l_3, l_4, l_5, l_6, l_7, l_8, l_9, l_10, l_20, l_30, l_31, l_34, l_40, l_65, l_100, l_255, l_11, l_12, l_24, l_600, l_689, l_999, l_120, l_32, nI_add, pk_mul, n_sub, n_leT, n_leF, n_ltT, n_ltF, n_eqT, n_eqF, n_cl, n_vp, fa_andq, fa_orq, fa_xorq, n_shl, n_shr, n_t1, n_t0, n_div, n_m1, not_true_eq_false, Bool.false_eq_true, false_and, Bool.not_false, Bool.not_true, Bool.and_true, Bool.and_false, Bool.false_and, Bool.true_and, true_and, and_true, true_or, or_true, not_false_eq_true, Option.some.injEq, exists_eq_left', forall_eq, ↓reduceIte, Nat.add_zero, Nat.zero_add, and_self]
  exact K _ c1 f1 t1
theorem call_fewestDoublings {x : Nat} {s : ST} (ok : OKs s) (a a2 : Int32) : CALL1 x s clB1 (fun M P X => w_X7_fewestDoublings M x a a2 P X) (fun M P => w_X8_fewestDoublings M (x + 149) a a2 P) := by
  obtain ⟨sg, pl, hn, hl, sv, sl, bl, bf, ep, nm⟩ := s
  have ok2 := ok
  obtain ⟨hs, hp, h10, hhl, hsl, hbl, hby, hep, nm1, nm2, nm3, nm4⟩ := ok
  have b := hs.b
  have e3 : 3 * sg 0 = sg 0 * 3 := Nat.mul_comm _ _
  rcases ix a (n := sg 3) (by omega) with h | ⟨w, hw, rfl⟩
  · refine CALL1.no 1 (by decide) ok2 (fun M P X c w K => ?_) (fun M P c K => ?_)
    · have c2 := c
      obtain ⟨c10, sa, sp, hps, hx, hS, hS2, hP, hD, hH, hN, hB, hNm, hKP⟩ := c
      simp (disch := omega) only [w_X7_fewestDoublings, w_X7_requireWork, hx.s, hS.s1, hS.n, e_req_no h, l_0, l_1, l_2, l_3, l_4, l_5, l_6, l_7, l_8, l_9, l_10, l_20, l_30, l_31, l_34, l_40, l_65, l_100, l_255, l_11, l_12, l_24, l_600, l_689, l_999, l_120, l_32, nI_add, pk_mul, n_sub, n_leT, n_leF, n_ltT, n_ltF, n_eqT, n_eqF, n_cl, n_vp, fa_andq, fa_orq, fa_xorq, n_shl, n_shr, n_t1, n_t0, n_div, n_m1, not_true_eq_false, Bool.false_eq_true, false_and, Bool.not_false, Bool.not_true, Bool.and_true, Bool.and_false, Bool.false_and, Bool.true_and, true_and, and_true, true_or, or_true, not_false_eq_true, Option.some.injEq, exists_eq_left', forall_eq, ↓reduceIte, Nat.add_zero, Nat.zero_add, and_self]
      exact fun n1 hn1 => K _ c2.sZ (FrG.sZ hn1)
    · refine thr0 c fun M1 c1 f1 t1 => ?_
      have r := c1.mr hp.1
      simp (disch := omega) only [r.sh, r.v1, e_no_no r.sh.1.1 t1 h, l_0, l_1, l_2, l_3, l_4, l_5, l_6, l_7, l_8, l_9, l_10, l_20, l_30, l_31, l_34, l_40, l_65, l_100, l_255, l_11, l_12, l_24, l_600, l_689, l_999, l_120, l_32, nI_add, pk_mul, n_sub, n_leT, n_leF, n_ltT, n_ltF, n_eqT, n_eqF, n_cl, n_vp, fa_andq, fa_orq, fa_xorq, n_shl, n_shr, n_t1, n_t0, n_div, n_m1, not_true_eq_false, Bool.false_eq_true, false_and, Bool.not_false, Bool.not_true, Bool.and_true, Bool.and_false, Bool.false_and, Bool.true_and, true_and, and_true, true_or, or_true, not_false_eq_true, Option.some.injEq, exists_eq_left', forall_eq, ↓reduceIte, Nat.add_zero, Nat.zero_add, and_self]
      exact K _ _ (c1.mf MF.th) (f1.trans MF.th).o (zI_sI1 _ _ _ _)
  · rcases ix a2 (n := sg 0 * 3) (by omega) with h | ⟨t, ht, rfl⟩
    · refine CALL1.no 1 (by decide) ok2 (fun M P X c w K => ?_) (fun M P c K => ?_)
      · have c2 := c
        obtain ⟨c10, sa, sp, hps, hx, hS, hS2, hP, hD, hH, hN, hB, hNm, hKP⟩ := c
        simp (disch := omega) only [w_X7_fewestDoublings, w_X7_requireWork, w_X7_requireSlot, hx.s, hS.s1, hS.n, e_req_ok hw, e_X6_slotCount hS, e_req_no h, l_0, l_1, l_2, l_3, l_4, l_5, l_6, l_7, l_8, l_9, l_10, l_20, l_30, l_31, l_34, l_40, l_65, l_100, l_255, l_11, l_12, l_24, l_600, l_689, l_999, l_120, l_32, nI_add, pk_mul, n_sub, n_leT, n_leF, n_ltT, n_ltF, n_eqT, n_eqF, n_cl, n_vp, fa_andq, fa_orq, fa_xorq, n_shl, n_shr, n_t1, n_t0, n_div, n_m1, not_true_eq_false, Bool.false_eq_true, false_and, Bool.not_false, Bool.not_true, Bool.and_true, Bool.and_false, Bool.false_and, Bool.true_and, true_and, and_true, true_or, or_true, not_false_eq_true, Option.some.injEq, exists_eq_left', forall_eq, ↓reduceIte, Nat.add_zero, Nat.zero_add, and_self]
        exact fun n1 hn1 => K _ c2.sZ (FrG.sZ hn1)
      · refine thr0 c fun M1 c1 f1 t1 => ?_
        have r := c1.mr hp.1
        simp (disch := omega) only [r.sh, r.v1, e_no_ok r.sh.1.1 t1 hw, e_X8_slotMany r, e3, e_no_no r.sh.1.1 t1 h, l_0, l_1, l_2, l_3, l_4, l_5, l_6, l_7, l_8, l_9, l_10, l_20, l_30, l_31, l_34, l_40, l_65, l_100, l_255, l_11, l_12, l_24, l_600, l_689, l_999, l_120, l_32, nI_add, pk_mul, n_sub, n_leT, n_leF, n_ltT, n_ltF, n_eqT, n_eqF, n_cl, n_vp, fa_andq, fa_orq, fa_xorq, n_shl, n_shr, n_t1, n_t0, n_div, n_m1, not_true_eq_false, Bool.false_eq_true, false_and, Bool.not_false, Bool.not_true, Bool.and_true, Bool.and_false, Bool.false_and, Bool.true_and, true_and, and_true, true_or, or_true, not_false_eq_true, Option.some.injEq, exists_eq_left', forall_eq, ↓reduceIte, Nat.add_zero, Nat.zero_add, and_self]
        exact K _ _ (c1.mf MF.th) (f1.trans MF.th).o (zI_sI1 _ _ _ _)
    · have fl := free_lt (pl := pl) hs t
      refine CALL1.ok _ (nI (ansD sg w (free sg pl t))) ok2 (fun M P X c w K => ?_) (fun M P c K => ?_)
      · have c2 := c
        obtain ⟨c10, sa, sp, hps, hx, hS, hS2, hP, hD, hH, hN, hB, hNm, hKP⟩ := c
        have at_ := hx.at
        simp (disch := omega) only [w_X7_fewestDoublings, w_X7_requireWork, w_X7_requireSlot, hx.s, hx.ko, hS.s1, hS.n, e_req_ok hw, e_X6_slotCount hS, e_req_ok ht, e_X7_freePlayers hs hp.1 hx.xr hS hP, l_0, l_1, l_2, l_3, l_4, l_5, l_6, l_7, l_8, l_9, l_10, l_20, l_30, l_31, l_34, l_40, l_65, l_100, l_255, l_11, l_12, l_24, l_600, l_689, l_999, l_120, l_32, nI_add, pk_mul, n_sub, n_leT, n_leF, n_ltT, n_ltF, n_eqT, n_eqF, n_cl, n_vp, fa_andq, fa_orq, fa_xorq, n_shl, n_shr, n_t1, n_t0, n_div, n_m1, not_true_eq_false, Bool.false_eq_true, false_and, Bool.not_false, Bool.not_true, Bool.and_true, Bool.and_false, Bool.false_and, Bool.true_and, true_and, and_true, true_or, or_true, not_false_eq_true, Option.some.injEq, exists_eq_left', forall_eq, ↓reduceIte, Nat.add_zero, Nat.zero_add, and_self]
        refine s_X0_castWork hs hS hx.ks hKP (by omega) hw fl _ fun M2 f2 kp2 g2 => ?_
        have fk : FK x (RK x) M M2 := ⟨f2, fun _ => kp2⟩
        exact K M2 (c2.dr (RK.g fk)) (RDr.g (RK.g fk))
      · refine thr0 c fun M1 c1 f1 t1 => ?_
        have r := c1.mr hp.1
        simp (disch := omega) only [r.sh, r.v1, e_no_ok r.sh.1.1 t1 hw, e_X8_slotMany r, e3, e_no_ok r.sh.1.1 t1 ht, e_X8_freeAt r, l_0, l_1, l_2, l_3, l_4, l_5, l_6, l_7, l_8, l_9, l_10, l_20, l_30, l_31, l_34, l_40, l_65, l_100, l_255, l_11, l_12, l_24, l_600, l_689, l_999, l_120, l_32, nI_add, pk_mul, n_sub, n_leT, n_leF, n_ltT, n_ltF, n_eqT, n_eqF, n_cl, n_vp, fa_andq, fa_orq, fa_xorq, n_shl, n_shr, n_t1, n_t0, n_div, n_m1, not_true_eq_false, Bool.false_eq_true, false_and, Bool.not_false, Bool.not_true, Bool.and_true, Bool.and_false, Bool.false_and, Bool.true_and, true_and, and_true, true_or, or_true, not_false_eq_true, Option.some.injEq, exists_eq_left', forall_eq, ↓reduceIte, Nat.add_zero, Nat.zero_add, and_self]
        refine s_X8_casts r.q hw fl _ fun M2 f2 g2 k2 => ?_
        have fc : FC (x + 149) M1 M2 := ⟨f2, g2⟩
        have c3 := c1.mf fc.mf
        have t3 : zI M2 (x + 149) 0 = nI 0 := by rw [g2 0 (by omega)]; exact t1
        have K0 := K M2 c3 (f1.trans fc.mf).o t3
        have l := dm_le sg w (oW sg w 4) (free sg pl t)
        unfold ansD at K0
        by_cases q : dm sg w (oW sg w 4) (free sg pl t) < 100
        · rw [if_pos q] at K0
          simp (disch := omega) only [decide_eq_true q, bI_t, c3.k8, (k2 q).1, l_0, l_1, l_2, l_3, l_4, l_5, l_6, l_7, l_8, l_9, l_10, l_20, l_30, l_31, l_34, l_40, l_65, l_100, l_255, l_11, l_12, l_24, l_600, l_689, l_999, l_120, l_32, nI_add, pk_mul, n_sub, n_leT, n_leF, n_ltT, n_ltF, n_eqT, n_eqF, n_cl, n_vp, fa_andq, fa_orq, fa_xorq, n_shl, n_shr, n_t1, n_t0, n_div, n_m1, not_true_eq_false, Bool.false_eq_true, false_and, Bool.not_false, Bool.not_true, Bool.and_true, Bool.and_false, Bool.false_and, Bool.true_and, true_and, and_true, true_or, or_true, not_false_eq_true, Option.some.injEq, exists_eq_left', forall_eq, ↓reduceIte, Nat.add_zero, Nat.zero_add, and_self]
          exact K0
        · rw [if_neg q] at K0
          simp (disch := omega) only [decide_eq_false q, bI_f, l_0, l_1, l_2, l_3, l_4, l_5, l_6, l_7, l_8, l_9, l_10, l_20, l_30, l_31, l_34, l_40, l_65, l_100, l_255, l_11, l_12, l_24, l_600, l_689, l_999, l_120, l_32, nI_add, pk_mul, n_sub, n_leT, n_leF, n_ltT, n_ltF, n_eqT, n_eqF, n_cl, n_vp, fa_andq, fa_orq, fa_xorq, n_shl, n_shr, n_t1, n_t0, n_div, n_m1, not_true_eq_false, Bool.false_eq_true, false_and, Bool.not_false, Bool.not_true, Bool.and_true, Bool.and_false, Bool.false_and, Bool.true_and, true_and, and_true, true_or, or_true, not_false_eq_true, Option.some.injEq, exists_eq_left', forall_eq, ↓reduceIte, Nat.add_zero, Nat.zero_add, and_self]
          exact K0
theorem call_whyNot {x : Nat} {s : ST} (ok : OKs s) (a a2 a3 : Int32) {c : Nat} (hc : c < 2) : CALL1 x s clB (fun M P X => w_X7_whyNot M x a a2 a3 (nI c) P X) (fun M P => w_X8_whyNot M (x + 149) a a2 a3 (nI c) P) := by
  obtain ⟨sg, pl, hn, hl, sv, sl, bl, bf, ep, nm⟩ := s
  have ok2 := ok
  obtain ⟨hs, hp, h10, hhl, hsl, hbl, hby, hep, nm1, nm2, nm3, nm4⟩ := ok
  have b := hs.b
  rcases plc hs a a2 with h | ⟨ha, t, h1, h2, rfl, rfl⟩
  · refine CALL1.no 1 (by decide) ok2 (fun M P X c w K => ?_) (fun M P c K => ?_)
    · have c2 := c
      obtain ⟨c10, sa, sp, hps, hx, hS, hS2, hP, hD, hH, hN, hB, hNm, hKP⟩ := c
      simp (disch := omega) only [w_X7_whyNot, hx.s, e_rpw_p hs hx hS h, not_true_eq_false, Bool.false_eq_true, false_and, Bool.not_false, Bool.not_true, Bool.and_true, Bool.and_false, Bool.false_and, Bool.true_and, true_and, and_true, true_or, or_true, not_false_eq_true, Option.some.injEq, exists_eq_left', forall_eq, ↓reduceIte, Nat.add_zero, Nat.zero_add, and_self]
      exact fun n1 hn1 => K _ c2.sZ (FrG.sZ hn1)
    · refine ⟨c.k8, s_noPlace_no c hp.1 h _ fun M1 c1 f1 t1 => ?_⟩
      simp (disch := omega) only [l_0, l_1, l_2, l_3, l_4, l_5, l_6, l_7, l_8, l_9, l_10, l_20, l_30, l_31, l_34, l_40, l_65, l_100, l_255, l_11, l_12, l_24, l_600, l_689, l_999, l_120, l_32, nI_add, pk_mul, n_sub, n_leT, n_leF, n_ltT, n_ltF, n_eqT, n_eqF, n_cl, n_vp, fa_andq, fa_orq, fa_xorq, n_shl, n_shr, n_t1, n_t0, n_div, n_m1, not_true_eq_false, Bool.false_eq_true, false_and, Bool.not_false, Bool.not_true, Bool.and_true, Bool.and_false, Bool.false_and, Bool.true_and, true_and, and_true, true_or, or_true, not_false_eq_true, Option.some.injEq, exists_eq_left', forall_eq, ↓reduceIte, Nat.add_zero, Nat.zero_add, and_self]
      exact K _ _ c1 f1.o t1
  · rcases setc (sg 3) c a3 with h | ⟨n, g, rfl⟩
    · refine CALL1.no 2 (by decide) ok2 (fun M P X c w K => ?_) (fun M P c K => ?_)
      · have c2 := c
        obtain ⟨c10, sa, sp, hps, hx, hS, hS2, hP, hD, hH, hN, hB, hNm, hKP⟩ := c
        simp (disch := omega) only [w_X7_whyNot, hx.s, e_rpw_s hs hx hS h1 h2 hc h, not_true_eq_false, Bool.false_eq_true, false_and, Bool.not_false, Bool.not_true, Bool.and_true, Bool.and_false, Bool.false_and, Bool.true_and, true_and, and_true, true_or, or_true, not_false_eq_true, Option.some.injEq, exists_eq_left', forall_eq, ↓reduceIte, Nat.add_zero, Nat.zero_add, and_self]
        exact fun n1 hn1 => K _ c2.sZ (FrG.sZ hn1)
      · refine ⟨c.k8, s_noPlace_ok c hp.1 h1 h2 _ fun M1 c1 f1 t1 => ?_⟩
        have r := c1.mr hp.1
        simp (disch := omega) only [r.sh, e_noSet_no r t1 hc h, l_0, l_1, l_2, l_3, l_4, l_5, l_6, l_7, l_8, l_9, l_10, l_20, l_30, l_31, l_34, l_40, l_65, l_100, l_255, l_11, l_12, l_24, l_600, l_689, l_999, l_120, l_32, nI_add, pk_mul, n_sub, n_leT, n_leF, n_ltT, n_ltF, n_eqT, n_eqF, n_cl, n_vp, fa_andq, fa_orq, fa_xorq, n_shl, n_shr, n_t1, n_t0, n_div, n_m1, not_true_eq_false, Bool.false_eq_true, false_and, Bool.not_false, Bool.not_true, Bool.and_true, Bool.and_false, Bool.false_and, Bool.true_and, true_and, and_true, true_or, or_true, not_false_eq_true, Option.some.injEq, exists_eq_left', forall_eq, ↓reduceIte, Nat.add_zero, Nat.zero_add, and_self]
        exact K _ _ (c1.mf MF.th) (f1.trans MF.th).o (zI_sI1 _ _ _ _)
    · have pw := p2le (sg 3) (by omega)
      have n32 : n < 32 := by have := g.1; omega
      refine CALL1.ok _ (nI (whyN sg pl ha t n c)) ok2 (fun M P X ci w K => ?_) (fun M P ci K => ?_)
      · have c2 := ci
        obtain ⟨c10, sa, sp, hps, hx, hS, hS2, hP, hD, hH, hN, hB, hNm, hKP⟩ := ci
        simp (disch := omega) only [w_X7_whyNot, hx.s, e_rpw_ok hs hx hS h1 h2 hc g, not_true_eq_false, Bool.false_eq_true, false_and, Bool.not_false, Bool.not_true, Bool.and_true, Bool.and_false, Bool.false_and, Bool.true_and, true_and, and_true, true_or, or_true, not_false_eq_true, Option.some.injEq, exists_eq_left', forall_eq, ↓reduceIte, Nat.add_zero, Nat.zero_add, and_self]
        refine s_X7_reasonAgainst hs hp.1 hx hKP hS hP h1 (by omega) n32 hc _ fun M2 f2 => ?_
        exact K M2 (c2.dr (RK.g f2)) (RDr.g (RK.g f2))
      · refine ⟨ci.k8, s_noPlace_ok ci hp.1 h1 h2 _ fun M1 c1 f1 t1 => ?_⟩
        have r := c1.mr hp.1
        simp (disch := omega) only [r.sh, e_noSet_ok r t1 hc g, l_0, l_1, l_2, l_3, l_4, l_5, l_6, l_7, l_8, l_9, l_10, l_20, l_30, l_31, l_34, l_40, l_65, l_100, l_255, l_11, l_12, l_24, l_600, l_689, l_999, l_120, l_32, nI_add, pk_mul, n_sub, n_leT, n_leF, n_ltT, n_ltF, n_eqT, n_eqF, n_cl, n_vp, fa_andq, fa_orq, fa_xorq, n_shl, n_shr, n_t1, n_t0, n_div, n_m1, not_true_eq_false, Bool.false_eq_true, false_and, Bool.not_false, Bool.not_true, Bool.and_true, Bool.and_false, Bool.false_and, Bool.true_and, true_and, and_true, true_or, or_true, not_false_eq_true, Option.some.injEq, exists_eq_left', forall_eq, ↓reduceIte, Nat.add_zero, Nat.zero_add, and_self]
        refine s_X8_why r h1 (by omega) n32 hc _ fun M2 f2 => ?_
        exact K M2 (c1.mf f2.mf) (f1.trans f2.mf).o (by rw [f2.2 0 (by omega)]; exact t1)
/-- the first slot from t on without a reason -/
def eaN (sg pl : Nat → Nat) (ha S c t : Nat) : Nat := if fi (fun k => decide (whyN sg pl ha (t + k) S c = 0)) (sg 0 * 3 - t) < sg 0 * 3 - t then t + fi (fun k => decide (whyN sg pl ha (t + k) S c = 0)) (sg 0 * 3 - t) else 4294967295
theorem eaN_at {sg pl : Nat → Nat} {ha S c t k : Nat} (hk : k < sg 0 * 3 - t) (h : whyN sg pl ha (t + k) S c = 0) (h2 : ∀ j, j < k → whyN sg pl ha (t + j) S c ≠ 0) : eaN sg pl ha S c t = t + k := by
  have e : fi (fun k => decide (whyN sg pl ha (t + k) S c = 0)) (sg 0 * 3 - t) = k := fi_eq hk (decide_eq_true h) fun j hj => decide_eq_false (h2 j hj)
  unfold eaN
  rw [e, if_pos hk]
theorem eaN_no {sg pl : Nat → Nat} {ha S c t : Nat} (h2 : ∀ j, j < sg 0 * 3 - t → whyN sg pl ha (t + j) S c ≠ 0) : eaN sg pl ha S c t = 4294967295 := by
  unfold eaN
  refine if_neg fun l => ?_
  have y := fi_yes _ _ l
  exact h2 _ l (of_decide_eq_true y)
theorem call_earliest {x : Nat} {s : ST} (ok : OKs s) (a a2 a3 : Int32) {c : Nat} (hc : c < 2) : CALL1 x s clB (fun M P X => w_X7_earliest M x a a2 a3 (nI c) P X) (fun M P => w_X8_earliest M (x + 149) a a2 a3 (nI c) P) := by
  obtain ⟨sg, pl, hn, hl, sv, sl, bl, bf, ep, nm⟩ := s
  have ok2 := ok
  obtain ⟨hs, hp, h10, hhl, hsl, hbl, hby, hep, nm1, nm2, nm3, nm4⟩ := ok
  have b := hs.b
  have e3 : 3 * sg 0 = sg 0 * 3 := Nat.mul_comm _ _
  rcases plc hs a a2 with h | ⟨ha, t, h1, h2, rfl, rfl⟩
  · refine CALL1.no 1 (by decide) ok2 (fun M P X c w K => ?_) (fun M P c K => ?_)
    · have c2 := c
      obtain ⟨c10, sa, sp, hps, hx, hS, hS2, hP, hD, hH, hN, hB, hNm, hKP⟩ := c
      simp (disch := omega) only [w_X7_earliest, hx.s, e_rpw_p hs hx hS h, not_true_eq_false, Bool.false_eq_true, false_and, Bool.not_false, Bool.not_true, Bool.and_true, Bool.and_false, Bool.false_and, Bool.true_and, true_and, and_true, true_or, or_true, not_false_eq_true, Option.some.injEq, exists_eq_left', forall_eq, ↓reduceIte, Nat.add_zero, Nat.zero_add, and_self]
      exact fun n1 hn1 => K _ c2.sZ (FrG.sZ hn1)
    · refine ⟨c.k8, s_noPlace_no c hp.1 h _ fun M1 c1 f1 t1 => ?_⟩
      simp (disch := omega) only [l_0, l_1, l_2, l_3, l_4, l_5, l_6, l_7, l_8, l_9, l_10, l_20, l_30, l_31, l_34, l_40, l_65, l_100, l_255, l_11, l_12, l_24, l_600, l_689, l_999, l_120, l_32, nI_add, pk_mul, n_sub, n_leT, n_leF, n_ltT, n_ltF, n_eqT, n_eqF, n_cl, n_vp, fa_andq, fa_orq, fa_xorq, n_shl, n_shr, n_t1, n_t0, n_div, n_m1, not_true_eq_false, Bool.false_eq_true, false_and, Bool.not_false, Bool.not_true, Bool.and_true, Bool.and_false, Bool.false_and, Bool.true_and, true_and, and_true, true_or, or_true, not_false_eq_true, Option.some.injEq, exists_eq_left', forall_eq, ↓reduceIte, Nat.add_zero, Nat.zero_add, and_self]
      exact K _ _ c1 f1.o t1
  · rcases setc (sg 3) c a3 with h | ⟨n, g, rfl⟩
    · refine CALL1.no 2 (by decide) ok2 (fun M P X c w K => ?_) (fun M P c K => ?_)
      · have c2 := c
        obtain ⟨c10, sa, sp, hps, hx, hS, hS2, hP, hD, hH, hN, hB, hNm, hKP⟩ := c
        simp (disch := omega) only [w_X7_earliest, hx.s, e_rpw_s hs hx hS h1 h2 hc h, not_true_eq_false, Bool.false_eq_true, false_and, Bool.not_false, Bool.not_true, Bool.and_true, Bool.and_false, Bool.false_and, Bool.true_and, true_and, and_true, true_or, or_true, not_false_eq_true, Option.some.injEq, exists_eq_left', forall_eq, ↓reduceIte, Nat.add_zero, Nat.zero_add, and_self]
        exact fun n1 hn1 => K _ c2.sZ (FrG.sZ hn1)
      · refine ⟨c.k8, s_noPlace_ok c hp.1 h1 h2 _ fun M1 c1 f1 t1 => ?_⟩
        have r := c1.mr hp.1
        simp (disch := omega) only [r.sh, e_noSet_no r t1 hc h, l_0, l_1, l_2, l_3, l_4, l_5, l_6, l_7, l_8, l_9, l_10, l_20, l_30, l_31, l_34, l_40, l_65, l_100, l_255, l_11, l_12, l_24, l_600, l_689, l_999, l_120, l_32, nI_add, pk_mul, n_sub, n_leT, n_leF, n_ltT, n_ltF, n_eqT, n_eqF, n_cl, n_vp, fa_andq, fa_orq, fa_xorq, n_shl, n_shr, n_t1, n_t0, n_div, n_m1, not_true_eq_false, Bool.false_eq_true, false_and, Bool.not_false, Bool.not_true, Bool.and_true, Bool.and_false, Bool.false_and, Bool.true_and, true_and, and_true, true_or, or_true, not_false_eq_true, Option.some.injEq, exists_eq_left', forall_eq, ↓reduceIte, Nat.add_zero, Nat.zero_add, and_self]
        exact K _ _ (c1.mf MF.th) (f1.trans MF.th).o (zI_sI1 _ _ _ _)
    · have pw := p2le (sg 3) (by omega)
      have n32 : n < 32 := by have := g.1; omega
      refine CALL1.ok _ (nI (eaN sg pl ha n c t)) ok2 (fun M P X ci w K => ?_) (fun M P ci K => ?_)
      · have c2 := ci
        obtain ⟨c10, sa, sp, hps, hx, hS, hS2, hP, hD, hH, hN, hB, hNm, hKP⟩ := ci
        have at_ := hx.at
        simp (disch := omega) only [w_X7_earliest, hx.s, e_rpw_ok hs hx hS h1 h2 hc g, l_0, l_1, l_2, l_3, l_4, l_5, l_6, l_7, l_8, l_9, l_10, l_20, l_30, l_31, l_34, l_40, l_65, l_100, l_255, l_11, l_12, l_24, l_600, l_689, l_999, l_120, l_32, n_m1, not_true_eq_false, Bool.false_eq_true, false_and, Bool.not_false, Bool.not_true, Bool.and_true, Bool.and_false, Bool.false_and, Bool.true_and, true_and, and_true, true_or, or_true, not_false_eq_true, Option.some.injEq, exists_eq_left', forall_eq, ↓reduceIte, Nat.add_zero, Nat.zero_add, and_self]
        refine lpI (fun n1 (z : Mm × Int32) => l_X7_earliest_12 P X (fun M6 x5_6 => P x5_6 M6) (fun M7 => P (nI 4294967295) M7) n1 z.1 x (nI ha) (nI n) (nI c) z.2) (fun k z => (FK x (RDr x) M z.1 ∧ ∀ j, j < k → whyN sg pl ha (t + j) n c ≠ 0) ∧ z.2 = nI (t + k)) (sg 0 * 3 - t) ?_ ?_ (M, nI t) ⟨⟨FK.rf, fun j hj => absurd hj (Nat.not_lt_zero j)⟩, rfl⟩
        · rintro n1 ⟨M1, a1⟩ ⟨⟨f, q⟩, e1⟩
          dsimp only at f q e1 ⊢
          subst e1
          have x1 := hx.fr f.1
          have h1' := hS.fr f.1 (by unfold RDr; omega)
          have K0 := K M1 (c2.dr f) (RDr.g f)
          rw [eaN_no q] at K0
          simp (disch := omega) only [l_X7_earliest_12, x1.s, h1'.s1, e_X6_slotCount h1', l_0, l_1, l_2, l_3, l_4, l_5, l_6, l_7, l_8, l_9, l_10, l_20, l_30, l_31, l_34, l_40, l_65, l_100, l_255, l_11, l_12, l_24, l_600, l_689, l_999, l_120, l_32, nI_add, pk_mul, n_sub, n_leT, n_leF, n_ltT, n_ltF, n_eqT, n_eqF, n_cl, n_vp, fa_andq, fa_orq, fa_xorq, n_shl, n_shr, n_t1, n_t0, n_div, n_m1, not_true_eq_false, Bool.false_eq_true, false_and, Bool.not_false, Bool.not_true, Bool.and_true, Bool.and_false, Bool.false_and, Bool.true_and, true_and, and_true, true_or, or_true, not_false_eq_true, Option.some.injEq, exists_eq_left', forall_eq, ↓reduceIte, Nat.add_zero, Nat.zero_add, and_self]
          exact K0
        · rintro n1 k ⟨M1, a1⟩ hk ⟨⟨f, q⟩, e1⟩ L
          dsimp only at f q e1 L ⊢
          subst e1
          have x1 := hx.fr f.1
          have h1' := hS.fr f.1 (by unfold RDr; omega)
          have p1 := hP.fr f.1 (by unfold RDr; omega)
          simp (disch := omega) only [l_X7_earliest_12, x1.s, h1'.s1, e_X6_slotCount h1', l_0, l_1, l_2, l_3, l_4, l_5, l_6, l_7, l_8, l_9, l_10, l_20, l_30, l_31, l_34, l_40, l_65, l_100, l_255, l_11, l_12, l_24, l_600, l_689, l_999, l_120, l_32, nI_add, pk_mul, n_sub, n_leT, n_leF, n_ltT, n_ltF, n_eqT, n_eqF, n_cl, n_vp, fa_andq, fa_orq, fa_xorq, n_shl, n_shr, n_t1, n_t0, n_div, n_m1, not_true_eq_false, Bool.false_eq_true, false_and, Bool.not_false, Bool.not_true, Bool.and_true, Bool.and_false, Bool.false_and, Bool.true_and, true_and, and_true, true_or, or_true, not_false_eq_true, Option.some.injEq, exists_eq_left', forall_eq, ↓reduceIte, Nat.add_zero, Nat.zero_add, and_self]
          refine s_X7_reasonAgainst hs hp.1 x1 (f.2 hKP) h1' p1 h1 (by omega) n32 hc _ fun M2 f2 => ?_
          have f3 := f.trans (RK.g f2)
          have wl := whyN_lt sg pl ha (t + k) n c
          by_cases z : whyN sg pl ha (t + k) n c = 0
          · have K0 := K M2 (c2.dr f3) (RDr.g f3)
            rw [eaN_at hk z q] at K0
            simp (disch := omega) only [z, l_0, l_1, l_2, l_3, l_4, l_5, l_6, l_7, l_8, l_9, l_10, l_20, l_30, l_31, l_34, l_40, l_65, l_100, l_255, l_11, l_12, l_24, l_600, l_689, l_999, l_120, l_32, nI_add, pk_mul, n_sub, n_leT, n_leF, n_ltT, n_ltF, n_eqT, n_eqF, n_cl, n_vp, fa_andq, fa_orq, fa_xorq, n_shl, n_shr, n_t1, n_t0, n_div, n_m1, not_true_eq_false, Bool.false_eq_true, false_and, Bool.not_false, Bool.not_true, Bool.and_true, Bool.and_false, Bool.false_and, Bool.true_and, true_and, and_true, true_or, or_true, not_false_eq_true, Option.some.injEq, exists_eq_left', forall_eq, ↓reduceIte, Nat.add_zero, Nat.zero_add, and_self]
            exact K0
          · simp (disch := omega) only [l_0, l_1, l_2, l_3, l_4, l_5, l_6, l_7, l_8, l_9, l_10, l_20, l_30, l_31, l_34, l_40, l_65, l_100, l_255, l_11, l_12, l_24, l_600, l_689, l_999, l_120, l_32, nI_add, pk_mul, n_sub, n_leT, n_leF, n_ltT, n_ltF, n_eqT, n_eqF, n_cl, n_vp, fa_andq, fa_orq, fa_xorq, n_shl, n_shr, n_t1, n_t0, n_div, n_m1, not_true_eq_false, Bool.false_eq_true, false_and, Bool.not_false, Bool.not_true, Bool.and_true, Bool.and_false, Bool.false_and, Bool.true_and, true_and, and_true, true_or, or_true, not_false_eq_true, Option.some.injEq, exists_eq_left', forall_eq, ↓reduceIte, Nat.add_zero, Nat.zero_add, and_self]
            refine L (M2, _) ⟨⟨f3, fun j hj => ?_⟩, rfl⟩
            by_cases e : j = k
            · subst e; exact z
            · exact q j (by omega)
      · refine ⟨ci.k8, s_noPlace_ok ci hp.1 h1 h2 _ fun M1 c1 f1 t1 => ?_⟩
        have r := c1.mr hp.1
        simp (disch := omega) only [r.sh, e_noSet_ok r t1 hc g, l_0, l_1, l_2, l_3, l_4, l_5, l_6, l_7, l_8, l_9, l_10, l_20, l_30, l_31, l_34, l_40, l_65, l_100, l_255, l_11, l_12, l_24, l_600, l_689, l_999, l_120, l_32, n_m1, n_eqT, n_eqF, not_true_eq_false, Bool.false_eq_true, false_and, Bool.not_false, Bool.not_true, Bool.and_true, Bool.and_false, Bool.false_and, Bool.true_and, true_and, and_true, true_or, or_true, not_false_eq_true, Option.some.injEq, exists_eq_left', forall_eq, ↓reduceIte, Nat.add_zero, Nat.zero_add, and_self]
        refine lpI (fun n1 (z : Mm × Int32) => l_X8_earliest_24 P (fun M6 x5_6 => P x5_6 M6) (fun M7 => P (nI 4294967295) M7) n1 z.1 (x + 149) (nI ha) (nI n) (nI c) z.2) (fun k z => (FC (x + 149) M1 z.1 ∧ ∀ j, j < k → whyN sg pl ha (t + j) n c ≠ 0) ∧ z.2 = nI (t + k)) (sg 0 * 3 - t) ?_ ?_ (M1, nI t) ⟨⟨FC.rf, fun j hj => absurd hj (Nat.not_lt_zero j)⟩, rfl⟩
        · rintro n1 ⟨M2, a1⟩ ⟨⟨f, q⟩, e1⟩
          dsimp only at f q e1 ⊢
          subst e1
          have r2 := r.fc f
          have K0 := K M2 (c1.mf f.mf) (f1.trans f.mf).o (by rw [f.2 0 (by omega)]; exact t1)
          rw [eaN_no q] at K0
          simp (disch := omega) only [l_X8_earliest_24, r2.sh, e_X8_slotMany r2, e3, l_0, l_1, l_2, l_3, l_4, l_5, l_6, l_7, l_8, l_9, l_10, l_20, l_30, l_31, l_34, l_40, l_65, l_100, l_255, l_11, l_12, l_24, l_600, l_689, l_999, l_120, l_32, nI_add, pk_mul, n_sub, n_leT, n_leF, n_ltT, n_ltF, n_eqT, n_eqF, n_cl, n_vp, fa_andq, fa_orq, fa_xorq, n_shl, n_shr, n_t1, n_t0, n_div, n_m1, not_true_eq_false, Bool.false_eq_true, false_and, Bool.not_false, Bool.not_true, Bool.and_true, Bool.and_false, Bool.false_and, Bool.true_and, true_and, and_true, true_or, or_true, not_false_eq_true, Option.some.injEq, exists_eq_left', forall_eq, ↓reduceIte, Nat.add_zero, Nat.zero_add, and_self]
          exact K0
        · rintro n1 k ⟨M2, a1⟩ hk ⟨⟨f, q⟩, e1⟩ L
          dsimp only at f q e1 L ⊢
          subst e1
          have r2 := r.fc f
          simp (disch := omega) only [l_X8_earliest_24, r2.sh, e_X8_slotMany r2, e3, l_0, l_1, l_2, l_3, l_4, l_5, l_6, l_7, l_8, l_9, l_10, l_20, l_30, l_31, l_34, l_40, l_65, l_100, l_255, l_11, l_12, l_24, l_600, l_689, l_999, l_120, l_32, nI_add, pk_mul, n_sub, n_leT, n_leF, n_ltT, n_ltF, n_eqT, n_eqF, n_cl, n_vp, fa_andq, fa_orq, fa_xorq, n_shl, n_shr, n_t1, n_t0, n_div, n_m1, not_true_eq_false, Bool.false_eq_true, false_and, Bool.not_false, Bool.not_true, Bool.and_true, Bool.and_false, Bool.false_and, Bool.true_and, true_and, and_true, true_or, or_true, not_false_eq_true, Option.some.injEq, exists_eq_left', forall_eq, ↓reduceIte, Nat.add_zero, Nat.zero_add, and_self]
          refine s_X8_why r2 h1 (by omega) n32 hc _ fun M3 f2 => ?_
          have f3 := f.trans f2
          have wl := whyN_lt sg pl ha (t + k) n c
          by_cases z : whyN sg pl ha (t + k) n c = 0
          · have K0 := K M3 (c1.mf f3.mf) (f1.trans f3.mf).o (by rw [f3.2 0 (by omega)]; exact t1)
            rw [eaN_at hk z q] at K0
            simp (disch := omega) only [z, l_0, l_1, l_2, l_3, l_4, l_5, l_6, l_7, l_8, l_9, l_10, l_20, l_30, l_31, l_34, l_40, l_65, l_100, l_255, l_11, l_12, l_24, l_600, l_689, l_999, l_120, l_32, nI_add, pk_mul, n_sub, n_leT, n_leF, n_ltT, n_ltF, n_eqT, n_eqF, n_cl, n_vp, fa_andq, fa_orq, fa_xorq, n_shl, n_shr, n_t1, n_t0, n_div, n_m1, not_true_eq_false, Bool.false_eq_true, false_and, Bool.not_false, Bool.not_true, Bool.and_true, Bool.and_false, Bool.false_and, Bool.true_and, true_and, and_true, true_or, or_true, not_false_eq_true, Option.some.injEq, exists_eq_left', forall_eq, ↓reduceIte, Nat.add_zero, Nat.zero_add, and_self]
            exact K0
          · simp (disch := omega) only [l_0, l_1, l_2, l_3, l_4, l_5, l_6, l_7, l_8, l_9, l_10, l_20, l_30, l_31, l_34, l_40, l_65, l_100, l_255, l_11, l_12, l_24, l_600, l_689, l_999, l_120, l_32, nI_add, pk_mul, n_sub, n_leT, n_leF, n_ltT, n_ltF, n_eqT, n_eqF, n_cl, n_vp, fa_andq, fa_orq, fa_xorq, n_shl, n_shr, n_t1, n_t0, n_div, n_m1, not_true_eq_false, Bool.false_eq_true, false_and, Bool.not_false, Bool.not_true, Bool.and_true, Bool.and_false, Bool.false_and, Bool.true_and, true_and, and_true, true_or, or_true, not_false_eq_true, Option.some.injEq, exists_eq_left', forall_eq, ↓reduceIte, Nat.add_zero, Nat.zero_add, and_self]
            refine L (M3, _) ⟨⟨f3, fun j hj => ?_⟩, rfl⟩
            by_cases e : j = k
            · subst e; exact z
            · exact q j (by omega)
