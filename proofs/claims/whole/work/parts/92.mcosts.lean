/-! THE MODEL'S COUNTS AND COSTS; balance and the busiest -/
theorem foxy (x y : Nat → Int32) (A : Int32) : ∀ n, fo (fun p a => (a + x p) + y p) n A = (A + sI32 x n) + sI32 y n
  | 0 => by
    show A = (A + 0) + 0
    rw [Int32.add_zero, Int32.add_zero]
  | n + 1 => by
    rw [fo_s, sI32_s, sI32_s, foxy x y A n]
    ac_rfl
theorem sI32_0 : ∀ n, sI32 (fun _ => nI 0) n = nI 0
  | 0 => rfl
  | n + 1 => by rw [sI32_s, sI32_0 n]; rfl
theorem sI32_ext {f g : Nat → Int32} {n : Nat} (h : ∀ i, i < n → f i = g i) : sI32 f n = sI32 g n := fo_ext (fun i s hi => by rw [h i hi]) _ n (Nat.le_refl n)
theorem sI32_su (f : Nat → Nat) (c : Nat) : ∀ n, sI32 (fun p => nI (f p) * nI c) n = nI (su f n) * nI c
  | 0 => by
    show nI 0 = nI 0 * nI c
    rw [pk_mul, Nat.zero_mul]
  | n + 1 => by rw [sI32_s, sI32_su f c n, su_s, pk_mul, pk_mul, nI_add, pk_mul, Nat.add_mul]
section MC
variable {m : Nat} {sg pl : Nat → Nat} {M : Mm}
theorem e_X8_doublingsIn_19 (h : MR m sg pl M) {s w T v n0 : Nat} (hn : s < pl 0) (hw : w < sg 3) (hT : (v = 4294967295 ∧ T = 255) ∨ (v < 8 ∧ T = 2 ^ v)) (P : Int32 → Mm → Prop) (K : Mm → Nat → Int32 → Int32 → Int32 → Int32 → Prop) : (∃ n, l_X8_doublingsIn_19 P K n M m (nI s) (nI v) (nI n0) (nI w) (nI 0)) ↔ K M m (nI s) (nI v) (nI (dW sg pl s T w n0)) (nI w) := by
  have n := h.pb.n
  have b := h.sb.b
  have c := h.sb.sc hw
  by_cases t : (oS pl s 3).testBit w = true
  · refine lpE (fun n (z : Int32 × Int32) => l_X8_doublingsIn_19 P K n M m (nI s) (nI v) z.1 (nI w) z.2) (fun i => (nI (fo (fun j c => if T.testBit (oS pl s (4 + 6 * w + j)) = true then c + dbo sg (oS pl s (4 + 6 * w + j)) (oW sg w (5 + j)) else c) i n0), nI i)) (oW sg w 4) (fun _ h => h.elim) (fun _ => ?_) (fun n i hi => ?_)
    · simp (disch := omega) only [l_X8_doublingsIn_19, h.sh, e_X8_ofWork h, dW, t, l_0, l_1, l_2, l_3, l_4, l_5, l_6, l_7, l_8, l_9, l_10, l_20, l_30, l_31, l_34, l_40, l_65, l_100, l_255, l_11, l_12, l_24, l_600, l_689, l_999, l_120, l_32, nI_add, pk_mul, n_sub, n_leT, n_leF, n_ltT, n_ltF, n_eqT, n_eqF, n_cl, n_vp, fa_andq, fa_orq, fa_xorq, n_shl, n_shr, n_t1, n_t0, n_div, n_m1, not_true_eq_false, Bool.false_eq_true, false_and, Bool.not_false, Bool.not_true, Bool.and_true, Bool.and_false, Bool.false_and, Bool.true_and, true_and, and_true, true_or, or_true, not_false_eq_true, Option.some.injEq, exists_eq_left', forall_eq, ↓reduceIte, Nat.add_zero, Nat.zero_add, and_self]
    · have d := h.pb.c hn hw t hi
      have k1 := h.sb.p (oS pl s (4 + 6 * w + i)) 3
      have k2 := h.sb.w w (5 + i)
      have go : T.testBit (oS pl s (4 + 6 * w + i)) = true → (v = 4294967295 ∨ oS pl s (4 + 6 * w + i) = v) := fun q => by
        rcases hT with ⟨e1, e2⟩ | ⟨e1, e2⟩
        · exact Or.inl e1
        · right
          rw [e2, Nat.testBit_two_pow] at q
          exact (of_decide_eq_true q).symm
      have no : ¬ T.testBit (oS pl s (4 + 6 * w + i)) = true → (v ≠ 4294967295 ∧ oS pl s (4 + 6 * w + i) ≠ v ∧ v < 8) := fun q => by
        rcases hT with ⟨e1, e2⟩ | ⟨e1, e2⟩
        · exact absurd (by rw [e2]; exact tb255 (by omega)) q
        · refine ⟨by omega, fun z => q ?_, e1⟩
          rw [e2, Nat.testBit_two_pow]; exact decide_eq_true z.symm
      have vl : v < 4294967296 := by rcases hT with e | e <;> omega
      by_cases u : T.testBit (oS pl s (4 + 6 * w + i)) = true
      · rcases go u with q | q
        · by_cases z : oP sg (oS pl s (4 + 6 * w + i)) 3 = oW sg w (5 + i)
          · simp (disch := omega) only [l_X8_doublingsIn_19, h.sh, e_X8_ofWork h, e_X8_hasWork h hn, e_X8_castOf h, e_X8_ofPlayer h, t, u, q, z, bI_t, fo_s, dbo, l_0, l_1, l_2, l_3, l_4, l_5, l_6, l_7, l_8, l_9, l_10, l_20, l_30, l_31, l_34, l_40, l_65, l_100, l_255, l_11, l_12, l_24, l_600, l_689, l_999, l_120, l_32, nI_add, pk_mul, n_sub, n_leT, n_leF, n_ltT, n_ltF, n_eqT, n_eqF, n_cl, n_vp, fa_andq, fa_orq, fa_xorq, n_shl, n_shr, n_t1, n_t0, n_div, n_m1, not_true_eq_false, Bool.false_eq_true, false_and, Bool.not_false, Bool.not_true, Bool.and_true, Bool.and_false, Bool.false_and, Bool.true_and, true_and, and_true, true_or, or_true, not_false_eq_true, Option.some.injEq, exists_eq_left', forall_eq, ↓reduceIte, Nat.add_zero, Nat.zero_add, and_self]
          · simp (disch := omega) only [l_X8_doublingsIn_19, h.sh, e_X8_ofWork h, e_X8_hasWork h hn, e_X8_castOf h, e_X8_ofPlayer h, t, u, q, z, bI_t, fo_s, dbo, l_0, l_1, l_2, l_3, l_4, l_5, l_6, l_7, l_8, l_9, l_10, l_20, l_30, l_31, l_34, l_40, l_65, l_100, l_255, l_11, l_12, l_24, l_600, l_689, l_999, l_120, l_32, nI_add, pk_mul, n_sub, n_leT, n_leF, n_ltT, n_ltF, n_eqT, n_eqF, n_cl, n_vp, fa_andq, fa_orq, fa_xorq, n_shl, n_shr, n_t1, n_t0, n_div, n_m1, not_true_eq_false, Bool.false_eq_true, false_and, Bool.not_false, Bool.not_true, Bool.and_true, Bool.and_false, Bool.false_and, Bool.true_and, true_and, and_true, true_or, or_true, not_false_eq_true, Option.some.injEq, exists_eq_left', forall_eq, ↓reduceIte, Nat.add_zero, Nat.zero_add, and_self]
        · by_cases z : oP sg (oS pl s (4 + 6 * w + i)) 3 = oW sg w (5 + i)
          · simp (disch := omega) only [l_X8_doublingsIn_19, h.sh, e_X8_ofWork h, e_X8_hasWork h hn, e_X8_castOf h, e_X8_ofPlayer h, t, u, z, bI_t, fo_s, dbo, l_0, l_1, l_2, l_3, l_4, l_5, l_6, l_7, l_8, l_9, l_10, l_20, l_30, l_31, l_34, l_40, l_65, l_100, l_255, l_11, l_12, l_24, l_600, l_689, l_999, l_120, l_32, nI_add, pk_mul, n_sub, n_leT, n_leF, n_ltT, n_ltF, n_eqT, n_eqF, n_cl, n_vp, fa_andq, fa_orq, fa_xorq, n_shl, n_shr, n_t1, n_t0, n_div, n_m1, not_true_eq_false, Bool.false_eq_true, false_and, Bool.not_false, Bool.not_true, Bool.and_true, Bool.and_false, Bool.false_and, Bool.true_and, true_and, and_true, true_or, or_true, not_false_eq_true, Option.some.injEq, exists_eq_left', forall_eq, ↓reduceIte, Nat.add_zero, Nat.zero_add, and_self]
          · simp (disch := omega) only [l_X8_doublingsIn_19, h.sh, e_X8_ofWork h, e_X8_hasWork h hn, e_X8_castOf h, e_X8_ofPlayer h, t, u, z, bI_t, fo_s, dbo, l_0, l_1, l_2, l_3, l_4, l_5, l_6, l_7, l_8, l_9, l_10, l_20, l_30, l_31, l_34, l_40, l_65, l_100, l_255, l_11, l_12, l_24, l_600, l_689, l_999, l_120, l_32, nI_add, pk_mul, n_sub, n_leT, n_leF, n_ltT, n_ltF, n_eqT, n_eqF, n_cl, n_vp, fa_andq, fa_orq, fa_xorq, n_shl, n_shr, n_t1, n_t0, n_div, n_m1, not_true_eq_false, Bool.false_eq_true, false_and, Bool.not_false, Bool.not_true, Bool.and_true, Bool.and_false, Bool.false_and, Bool.true_and, true_and, and_true, true_or, or_true, not_false_eq_true, Option.some.injEq, exists_eq_left', forall_eq, ↓reduceIte, Nat.add_zero, Nat.zero_add, and_self]
      · obtain ⟨q1, q2, q3⟩ := no u
        simp (disch := omega) only [l_X8_doublingsIn_19, h.sh, e_X8_ofWork h, e_X8_hasWork h hn, e_X8_castOf h, t, b_no u, bI_t, fo_s, l_0, l_1, l_2, l_3, l_4, l_5, l_6, l_7, l_8, l_9, l_10, l_20, l_30, l_31, l_34, l_40, l_65, l_100, l_255, l_11, l_12, l_24, l_600, l_689, l_999, l_120, l_32, nI_add, pk_mul, n_sub, n_leT, n_leF, n_ltT, n_ltF, n_eqT, n_eqF, n_cl, n_vp, fa_andq, fa_orq, fa_xorq, n_shl, n_shr, n_t1, n_t0, n_div, n_m1, not_true_eq_false, Bool.false_eq_true, false_and, Bool.not_false, Bool.not_true, Bool.and_true, Bool.and_false, Bool.false_and, Bool.true_and, true_and, and_true, true_or, or_true, not_false_eq_true, Option.some.injEq, exists_eq_left', forall_eq, ↓reduceIte, Nat.add_zero, Nat.zero_add, and_self]
  · refine lpE (fun n (z : Int32 × Int32) => l_X8_doublingsIn_19 P K n M m (nI s) (nI v) z.1 (nI w) z.2) (fun i => (nI n0, nI i)) 0 (fun _ h => h.elim) (fun _ => ?_) (fun n i hi => absurd hi (Nat.not_lt_zero i))
    simp (disch := omega) only [l_X8_doublingsIn_19, h.sh, e_X8_ofWork h, e_X8_hasWork h hn, dW, b_no t, bI_f, l_0, l_1, l_2, l_3, l_4, l_5, l_6, l_7, l_8, l_9, l_10, l_20, l_30, l_31, l_34, l_40, l_65, l_100, l_255, l_11, l_12, l_24, l_600, l_689, l_999, l_120, l_32, nI_add, pk_mul, n_sub, n_leT, n_leF, n_ltT, n_ltF, n_eqT, n_eqF, n_cl, n_vp, fa_andq, fa_orq, fa_xorq, n_shl, n_shr, n_t1, n_t0, n_div, n_m1, not_true_eq_false, Bool.false_eq_true, false_and, Bool.not_false, Bool.not_true, Bool.and_true, Bool.and_false, Bool.false_and, Bool.true_and, true_and, and_true, true_or, or_true, not_false_eq_true, Option.some.injEq, exists_eq_left', forall_eq, ↓reduceIte, Nat.add_zero, Nat.zero_add, and_self]
theorem e_X8_doublingsIn (h : MR m sg pl M) {s T v : Nat} (hn : s < pl 0) (hT : (v = 4294967295 ∧ T = 255) ∨ (v < 8 ∧ T = 2 ^ v)) (P : Int32 → Mm → Prop) : w_X8_doublingsIn M m (nI s) (nI v) P ↔ P (nI (dIn sg pl s T)) M := by
  have n := h.pb.n
  have b := h.sb.b
  unfold w_X8_doublingsIn
  refine lpE (fun n (z : Int32 × Int32) => l_X8_doublingsIn_5 P (fun M8 x4_8 => P x4_8 M8) n M m (nI s) (nI v) z.1 z.2) (fun k => (nI (fo (dW sg pl s T) k 0), nI k)) (sg 3) (fun _ h => h.elim) (fun _ => ?_) (fun n k hk => ?_)
  · simp (disch := omega) only [l_X8_doublingsIn_5, h.sh, h.v1, dIn, l_0, l_1, l_2, l_3, l_4, l_5, l_6, l_7, l_8, l_9, l_10, l_20, l_30, l_31, l_34, l_40, l_65, l_100, l_255, l_11, l_12, l_24, l_600, l_689, l_999, l_120, l_32, nI_add, pk_mul, n_sub, n_leT, n_leF, n_ltT, n_ltF, n_eqT, n_eqF, n_cl, n_vp, fa_andq, fa_orq, fa_xorq, n_shl, n_shr, n_t1, n_t0, n_div, n_m1, not_true_eq_false, Bool.false_eq_true, false_and, Bool.not_false, Bool.not_true, Bool.and_true, Bool.and_false, Bool.false_and, Bool.true_and, true_and, and_true, true_or, or_true, not_false_eq_true, Option.some.injEq, exists_eq_left', forall_eq, ↓reduceIte, Nat.add_zero, Nat.zero_add, and_self]
  · simp (disch := omega) only [l_X8_doublingsIn_5, h.sh, h.v1, e_X8_doublingsIn_19 h hn hk hT, fo_s, l_0, l_1, l_2, l_3, l_4, l_5, l_6, l_7, l_8, l_9, l_10, l_20, l_30, l_31, l_34, l_40, l_65, l_100, l_255, l_11, l_12, l_24, l_600, l_689, l_999, l_120, l_32, nI_add, pk_mul, n_sub, n_leT, n_leF, n_ltT, n_ltF, n_eqT, n_eqF, n_cl, n_vp, fa_andq, fa_orq, fa_xorq, n_shl, n_shr, n_t1, n_t0, n_div, n_m1, not_true_eq_false, Bool.false_eq_true, false_and, Bool.not_false, Bool.not_true, Bool.and_true, Bool.and_false, Bool.false_and, Bool.true_and, true_and, and_true, true_or, or_true, not_false_eq_true, Option.some.injEq, exists_eq_left', forall_eq, ↓reduceIte, Nat.add_zero, Nat.zero_add, and_self]
theorem e_X8_doublingsOf (h : MR m sg pl M) {p : Nat} (hp : p < 8) (P : Int32 → Mm → Prop) : w_X8_doublingsOf M m (nI p) P ↔ P (nI (dOf sg pl p)) M := by
  have n := h.pb.n
  unfold w_X8_doublingsOf
  refine lpE (fun n (z : Int32 × Int32) => l_X8_doublingsOf_4 P (fun M8 x4_8 => P x4_8 M8) n M m (nI p) z.1 z.2) (fun k => (nI (fo (fun s n => n + dIn sg pl s (2 ^ p)) k 0), nI k)) (pl 0) (fun _ h => h.elim) (fun _ => ?_) (fun n k hk => ?_)
  · simp (disch := omega) only [l_X8_doublingsOf_4, h.sh, h.v2, dOf, l_0, l_1, l_2, l_3, l_4, l_5, l_6, l_7, l_8, l_9, l_10, l_20, l_30, l_31, l_34, l_40, l_65, l_100, l_255, l_11, l_12, l_24, l_600, l_689, l_999, l_120, l_32, nI_add, pk_mul, n_sub, n_leT, n_leF, n_ltT, n_ltF, n_eqT, n_eqF, n_cl, n_vp, fa_andq, fa_orq, fa_xorq, n_shl, n_shr, n_t1, n_t0, n_div, n_m1, not_true_eq_false, Bool.false_eq_true, false_and, Bool.not_false, Bool.not_true, Bool.and_true, Bool.and_false, Bool.false_and, Bool.true_and, true_and, and_true, true_or, or_true, not_false_eq_true, Option.some.injEq, exists_eq_left', forall_eq, ↓reduceIte, Nat.add_zero, Nat.zero_add, and_self]
  · simp (disch := omega) only [l_X8_doublingsOf_4, h.sh, h.v2, e_X8_doublingsIn h hk (Or.inr ⟨hp, rfl⟩), fo_s, l_0, l_1, l_2, l_3, l_4, l_5, l_6, l_7, l_8, l_9, l_10, l_20, l_30, l_31, l_34, l_40, l_65, l_100, l_255, l_11, l_12, l_24, l_600, l_689, l_999, l_120, l_32, nI_add, pk_mul, n_sub, n_leT, n_leF, n_ltT, n_ltF, n_eqT, n_eqF, n_cl, n_vp, fa_andq, fa_orq, fa_xorq, n_shl, n_shr, n_t1, n_t0, n_div, n_m1, not_true_eq_false, Bool.false_eq_true, false_and, Bool.not_false, Bool.not_true, Bool.and_true, Bool.and_false, Bool.false_and, Bool.true_and, true_and, and_true, true_or, or_true, not_false_eq_true, Option.some.injEq, exists_eq_left', forall_eq, ↓reduceIte, Nat.add_zero, Nat.zero_add, and_self]
theorem e_X8_servicesOf (h : MR m sg pl M) {p : Nat} (hp : p < 32) (P : Int32 → Mm → Prop) : w_X8_servicesOf M m (nI p) P ↔ P (nI (svc sg pl p)) M := by
  have n := h.pb.n
  unfold w_X8_servicesOf
  refine lpE (fun n (z : Int32 × Int32) => l_X8_servicesOf_4 P (fun M8 x4_8 => P x4_8 M8) n M m (nI p) z.1 z.2) (fun k => (nI (fo (fun s n => if (inS sg pl s).testBit p = true then n + 1 else n) k 0), nI k)) (pl 0) (fun _ h => h.elim) (fun _ => ?_) (fun n k hk => ?_)
  · simp (disch := omega) only [l_X8_servicesOf_4, h.sh, h.v2, svc, l_0, l_1, l_2, l_3, l_4, l_5, l_6, l_7, l_8, l_9, l_10, l_20, l_30, l_31, l_34, l_40, l_65, l_100, l_255, l_11, l_12, l_24, l_600, l_689, l_999, l_120, l_32, nI_add, pk_mul, n_sub, n_leT, n_leF, n_ltT, n_ltF, n_eqT, n_eqF, n_cl, n_vp, fa_andq, fa_orq, fa_xorq, n_shl, n_shr, n_t1, n_t0, n_div, n_m1, not_true_eq_false, Bool.false_eq_true, false_and, Bool.not_false, Bool.not_true, Bool.and_true, Bool.and_false, Bool.false_and, Bool.true_and, true_and, and_true, true_or, or_true, not_false_eq_true, Option.some.injEq, exists_eq_left', forall_eq, ↓reduceIte, Nat.add_zero, Nat.zero_add, and_self]
  · have d := inS_lt h.sb h.pb hk
    by_cases c : (inS sg pl k).testBit p = true
    · have e : inS sg pl k >>> p &&& 1 = 1 := by rw [n_bit01, c]; rfl
      simp (disch := omega) only [l_X8_servicesOf_4, h.sh, h.v2, e_X8_inService h hk, e, c, fo_s, l_0, l_1, l_2, l_3, l_4, l_5, l_6, l_7, l_8, l_9, l_10, l_20, l_30, l_31, l_34, l_40, l_65, l_100, l_255, l_11, l_12, l_24, l_600, l_689, l_999, l_120, l_32, nI_add, pk_mul, n_sub, n_leT, n_leF, n_ltT, n_ltF, n_eqT, n_eqF, n_cl, n_vp, fa_andq, fa_orq, fa_xorq, n_shl, n_shr, n_t1, n_t0, n_div, n_m1, not_true_eq_false, Bool.false_eq_true, false_and, Bool.not_false, Bool.not_true, Bool.and_true, Bool.and_false, Bool.false_and, Bool.true_and, true_and, and_true, true_or, or_true, not_false_eq_true, Option.some.injEq, exists_eq_left', forall_eq, ↓reduceIte, Nat.add_zero, Nat.zero_add, and_self]
    · have e : inS sg pl k >>> p &&& 1 = 0 := by rw [n_bit01, b_no c]; rfl
      simp (disch := omega) only [l_X8_servicesOf_4, h.sh, h.v2, e_X8_inService h hk, e, c, fo_s, l_0, l_1, l_2, l_3, l_4, l_5, l_6, l_7, l_8, l_9, l_10, l_20, l_30, l_31, l_34, l_40, l_65, l_100, l_255, l_11, l_12, l_24, l_600, l_689, l_999, l_120, l_32, nI_add, pk_mul, n_sub, n_leT, n_leF, n_ltT, n_ltF, n_eqT, n_eqF, n_cl, n_vp, fa_andq, fa_orq, fa_xorq, n_shl, n_shr, n_t1, n_t0, n_div, n_m1, not_true_eq_false, Bool.false_eq_true, false_and, Bool.not_false, Bool.not_true, Bool.and_true, Bool.and_false, Bool.false_and, Bool.true_and, true_and, and_true, true_or, or_true, not_false_eq_true, Option.some.injEq, exists_eq_left', forall_eq, ↓reduceIte, Nat.add_zero, Nat.zero_add, and_self]
theorem e_X8_beyond (h : MR m sg pl M) {p : Nat} (hp : p < sg 2) (P : Int32 → Mm → Prop) : w_X8_beyond M m (nI p) P ↔ P (bey sg pl p) M := by
  have b := h.sb.b
  simp (disch := omega) only [w_X8_beyond, h.sh, e_X8_servicesOf h, h.v2, n_cl, n_vp, l_1, nI_add, bey, not_true_eq_false, Bool.false_eq_true, false_and, Bool.not_false, Bool.not_true, Bool.and_true, Bool.and_false, Bool.false_and, Bool.true_and, true_and, and_true, true_or, or_true, not_false_eq_true, Option.some.injEq, exists_eq_left', forall_eq, ↓reduceIte, Nat.add_zero, Nat.zero_add, and_self]
theorem e_X8_overtimeOf (h : MR m sg pl M) {p : Nat} (hp : p < sg 2) (P : Int32 → Mm → Prop) : w_X8_overtimeOf M m (nI p) P ↔ P (otI sg pl p) M := by
  have b := h.sb.b
  unfold otI
  have l0 : ∀ x : Int32, x ≤ nI 0 ↔ ¬ nI 0 < x := fun x => by rw [Int32.le_iff_toInt_le, Int32.lt_iff_toInt_lt]; omega
  simp (disch := omega) only [w_X8_overtimeOf, h.sh, e_X8_beyond h, e_X8_ofPlayer h, l_0, not_true_eq_false, Bool.false_eq_true, false_and, Bool.not_false, Bool.not_true, Bool.and_true, Bool.and_false, Bool.false_and, Bool.true_and, true_and, and_true, true_or, or_true, not_false_eq_true, Option.some.injEq, exists_eq_left', forall_eq, ↓reduceIte, Nat.add_zero, Nat.zero_add, and_self]
  by_cases c : nI 0 < bey sg pl p
  · rw [if_pos c, if_neg (fun q => (l0 _).mp q c)]
  · rw [if_neg c, if_pos ((l0 _).mpr c)]
theorem e_X8_servicesWith (h : MR m sg pl M) {w c : Nat} (hw : w < 5) (hc : c < 2) (P : Int32 → Mm → Prop) : w_X8_servicesWith M m (nI w) (nI c) P ↔ P (nI (swt pl w c (sg 0 * 3))) M := by
  have n := h.pb.n
  unfold w_X8_servicesWith
  refine lpE (fun n (z : Int32 × Int32) => l_X8_servicesWith_5 P (fun M8 x4_8 => P x4_8 M8) n M m (nI w) (nI c) z.1 z.2) (fun k => (nI (fo (fun s n => if oS pl s 2 = c ∧ (oS pl s 3).testBit w = true ∧ oS pl s 0 < sg 0 * 3 then n + 1 else n) k 0), nI k)) (pl 0) (fun _ h => h.elim) (fun _ => ?_) (fun n k hk => ?_)
  · simp (disch := omega) only [l_X8_servicesWith_5, h.sh, h.v2, swt, l_0, l_1, l_2, l_3, l_4, l_5, l_6, l_7, l_8, l_9, l_10, l_20, l_30, l_31, l_34, l_40, l_65, l_100, l_255, l_11, l_12, l_24, l_600, l_689, l_999, l_120, l_32, nI_add, pk_mul, n_sub, n_leT, n_leF, n_ltT, n_ltF, n_eqT, n_eqF, n_cl, n_vp, fa_andq, fa_orq, fa_xorq, n_shl, n_shr, n_t1, n_t0, n_div, n_m1, not_true_eq_false, Bool.false_eq_true, false_and, Bool.not_false, Bool.not_true, Bool.and_true, Bool.and_false, Bool.false_and, Bool.true_and, true_and, and_true, true_or, or_true, not_false_eq_true, Option.some.injEq, exists_eq_left', forall_eq, ↓reduceIte, Nat.add_zero, Nat.zero_add, and_self]
  · have d := h.pb.s h.sb hk
    have lt : oS pl k 0 < sg 0 * 3 := by omega
    by_cases c2 : (oS pl k 3).testBit w = true
    · by_cases c1 : oS pl k 2 = c
      · simp (disch := omega) only [l_X8_servicesWith_5, h.sh, h.v2, e_X8_of h, e_X8_hasWork h hk, c1, c2, lt, bI_t, fo_s, l_0, l_1, l_2, l_3, l_4, l_5, l_6, l_7, l_8, l_9, l_10, l_20, l_30, l_31, l_34, l_40, l_65, l_100, l_255, l_11, l_12, l_24, l_600, l_689, l_999, l_120, l_32, nI_add, pk_mul, n_sub, n_leT, n_leF, n_ltT, n_ltF, n_eqT, n_eqF, n_cl, n_vp, fa_andq, fa_orq, fa_xorq, n_shl, n_shr, n_t1, n_t0, n_div, n_m1, not_true_eq_false, Bool.false_eq_true, false_and, Bool.not_false, Bool.not_true, Bool.and_true, Bool.and_false, Bool.false_and, Bool.true_and, true_and, and_true, true_or, or_true, not_false_eq_true, Option.some.injEq, exists_eq_left', forall_eq, ↓reduceIte, Nat.add_zero, Nat.zero_add, and_self]
      · simp (disch := omega) only [l_X8_servicesWith_5, h.sh, h.v2, e_X8_of h, e_X8_hasWork h hk, c1, c2, bI_t, fo_s, l_0, l_1, l_2, l_3, l_4, l_5, l_6, l_7, l_8, l_9, l_10, l_20, l_30, l_31, l_34, l_40, l_65, l_100, l_255, l_11, l_12, l_24, l_600, l_689, l_999, l_120, l_32, nI_add, pk_mul, n_sub, n_leT, n_leF, n_ltT, n_ltF, n_eqT, n_eqF, n_cl, n_vp, fa_andq, fa_orq, fa_xorq, n_shl, n_shr, n_t1, n_t0, n_div, n_m1, not_true_eq_false, Bool.false_eq_true, false_and, Bool.not_false, Bool.not_true, Bool.and_true, Bool.and_false, Bool.false_and, Bool.true_and, true_and, and_true, true_or, or_true, not_false_eq_true, Option.some.injEq, exists_eq_left', forall_eq, ↓reduceIte, Nat.add_zero, Nat.zero_add, and_self]
    · simp (disch := omega) only [l_X8_servicesWith_5, h.sh, h.v2, e_X8_hasWork h hk, b_no c2, bI_f, fo_s, and_false, l_0, l_1, l_2, l_3, l_4, l_5, l_6, l_7, l_8, l_9, l_10, l_20, l_30, l_31, l_34, l_40, l_65, l_100, l_255, l_11, l_12, l_24, l_600, l_689, l_999, l_120, l_32, nI_add, pk_mul, n_sub, n_leT, n_leF, n_ltT, n_ltF, n_eqT, n_eqF, n_cl, n_vp, fa_andq, fa_orq, fa_xorq, n_shl, n_shr, n_t1, n_t0, n_div, n_m1, not_true_eq_false, Bool.false_eq_true, false_and, Bool.not_false, Bool.not_true, Bool.and_true, Bool.and_false, Bool.false_and, Bool.true_and, true_and, and_true, true_or, or_true, not_false_eq_true, Option.some.injEq, exists_eq_left', forall_eq, ↓reduceIte, Nat.add_zero, Nat.zero_add, and_self]
theorem e_X8_rentOf (h : MR m sg pl M) {w : Nat} (hw : w < sg 3) (P : Int32 → Mm → Prop) : w_X8_rentOf M m (nI w) P ↔ P (rentI sg pl w) M := by
  have n := h.pb.n
  have b := h.sb.b
  unfold w_X8_rentOf
  refine lpE (fun n (z : Int32 × Int32 × Int32) => l_X8_rentOf_7 P (fun M7 x0_7 x1_7 x2_7 x3_7 => (if x2_7 = (-1 : Int32) then P (0 : Int32) M7 else zk M7 x0_7 = 8 ∧ w_X8_ofWork M7 x0_7 x1_7 (3 : Int32) (fun r8 M8 => P (((x3_7 - x2_7) + (1 : Int32)) * r8) M8))) n M m (nI w) z.1 z.2.1 z.2.2) (fun k => (nI (fl pl w k).1, nI (fl pl w k).2, nI k)) (pl 0) (fun _ h => h.elim) (fun _ => ?_) (fun n k hk => ?_)
  · unfold rentI
    have f := fl_lt h.sb h.pb w (pl 0) (Nat.le_refl _)
    by_cases c : (fl pl w (pl 0)).1 = 4294967295
    · simp (disch := omega) only [l_X8_rentOf_7, h.sh, h.v2, c, l_0, l_1, l_2, l_3, l_4, l_5, l_6, l_7, l_8, l_9, l_10, l_20, l_30, l_31, l_34, l_40, l_65, l_100, l_255, l_11, l_12, l_24, l_600, l_689, l_999, l_120, l_32, nI_add, pk_mul, n_sub, n_leT, n_leF, n_ltT, n_ltF, n_eqT, n_eqF, n_cl, n_vp, fa_andq, fa_orq, fa_xorq, n_shl, n_shr, n_t1, n_t0, n_div, n_m1, not_true_eq_false, Bool.false_eq_true, false_and, Bool.not_false, Bool.not_true, Bool.and_true, Bool.and_false, Bool.false_and, Bool.true_and, true_and, and_true, true_or, or_true, not_false_eq_true, Option.some.injEq, exists_eq_left', forall_eq, ↓reduceIte, Nat.add_zero, Nat.zero_add, and_self]
    · have f2 : (fl pl w (pl 0)).1 < 30 := by
        rcases f with f | f
        · exact f.1
        · exact absurd (by rw [f]) c
      simp (disch := omega) only [l_X8_rentOf_7, h.sh, h.v2, e_X8_ofWork h, c, n_leT, n_eqF, n_cl, n_vp, l_0, l_1, l_3, n_m1, not_true_eq_false, Bool.false_eq_true, false_and, Bool.not_false, Bool.not_true, Bool.and_true, Bool.and_false, Bool.false_and, Bool.true_and, true_and, and_true, true_or, or_true, not_false_eq_true, Option.some.injEq, exists_eq_left', forall_eq, ↓reduceIte, Nat.add_zero, Nat.zero_add, and_self]
  · have f := fl_lt h.sb h.pb w k (by omega)
    have d := h.pb.s h.sb hk
    by_cases t : (oS pl k 3).testBit w = true
    · by_cases c : (fl pl w k).1 = 4294967295
      · simp (disch := omega) only [l_X8_rentOf_7, h.sh, h.v2, e_X8_of h, e_X8_hasWork h hk, t, bI_t, c, fl_s, l_0, l_1, l_2, l_3, l_4, l_5, l_6, l_7, l_8, l_9, l_10, l_20, l_30, l_31, l_34, l_40, l_65, l_100, l_255, l_11, l_12, l_24, l_600, l_689, l_999, l_120, l_32, nI_add, n_leF, n_eqT, n_eqF, n_cl, n_vp, n_m1, n_div, not_true_eq_false, Bool.false_eq_true, false_and, Bool.not_false, Bool.not_true, Bool.and_true, Bool.and_false, Bool.false_and, Bool.true_and, true_and, and_true, true_or, or_true, not_false_eq_true, Option.some.injEq, exists_eq_left', forall_eq, ↓reduceIte, Nat.add_zero, Nat.zero_add, and_self]
      · have f2 : (fl pl w k).1 < 30 := by
          rcases f with f | f
          · exact f.1
          · exact absurd (by rw [f]) c
        simp (disch := omega) only [l_X8_rentOf_7, h.sh, h.v2, e_X8_of h, e_X8_hasWork h hk, t, bI_t, c, fl_s, l_0, l_1, l_2, l_3, l_4, l_5, l_6, l_7, l_8, l_9, l_10, l_20, l_30, l_31, l_34, l_40, l_65, l_100, l_255, l_11, l_12, l_24, l_600, l_689, l_999, l_120, l_32, nI_add, n_leF, n_eqT, n_eqF, n_cl, n_vp, n_m1, n_div, not_true_eq_false, Bool.false_eq_true, false_and, Bool.not_false, Bool.not_true, Bool.and_true, Bool.and_false, Bool.false_and, Bool.true_and, true_and, and_true, true_or, or_true, not_false_eq_true, Option.some.injEq, exists_eq_left', forall_eq, ↓reduceIte, Nat.add_zero, Nat.zero_add, and_self]
    · simp (disch := omega) only [l_X8_rentOf_7, h.sh, h.v2, e_X8_of h, e_X8_hasWork h hk, b_no t, bI_f, fl_s, l_0, l_1, l_2, l_3, l_4, l_5, l_6, l_7, l_8, l_9, l_10, l_20, l_30, l_31, l_34, l_40, l_65, l_100, l_255, l_11, l_12, l_24, l_600, l_689, l_999, l_120, l_32, nI_add, n_leF, n_eqT, n_eqF, n_cl, n_vp, n_m1, not_true_eq_false, Bool.false_eq_true, false_and, Bool.not_false, Bool.not_true, Bool.and_true, Bool.and_false, Bool.false_and, Bool.true_and, true_and, and_true, true_or, or_true, not_false_eq_true, Option.some.injEq, exists_eq_left', forall_eq, ↓reduceIte, Nat.add_zero, Nat.zero_add, and_self]
def cx (sg pl : Nat → Nat) (k p : Nat) : Int32 := if k = 1 ∨ k = 3 then otI sg pl p else nI 0
def cy (sg pl : Nat → Nat) (k p : Nat) : Int32 := if k = 2 ∨ k = 3 then nI (dOf sg pl p) * nI (sg 5) else nI 0
def cw (sg pl : Nat → Nat) (k w : Nat) : Int32 := if k = 0 ∨ k = 3 then rentI sg pl w else nI 0
theorem e_X8_costOf_43 (h : MR m sg pl M) {k : Nat} (hk : k < 4) (A : Int32) (P : Int32 → Mm → Prop) (K : Mm → Int32 → Prop) : (∃ n, l_X8_costOf_43 P K n M m (nI k) A (nI 0)) ↔ K M (fo (fun p a => (a + cx sg pl k p) + cy sg pl k p) (sg 2) A) := by
  have b := h.sb.b
  refine lpE (fun n (z : Int32 × Int32) => l_X8_costOf_43 P K n M m (nI k) z.1 z.2) (fun i => (fo (fun p a => (a + cx sg pl k p) + cy sg pl k p) i A, nI i)) (sg 2) (fun _ h => h.elim) (fun _ => ?_) (fun n i hi => ?_)
  · simp (disch := omega) only [l_X8_costOf_43, h.sh, h.v1, l_0, l_1, l_2, l_3, l_4, l_5, l_6, l_7, l_8, l_9, l_10, l_20, l_30, l_31, l_34, l_40, l_65, l_100, l_255, l_11, l_12, l_24, l_600, l_689, l_999, l_120, l_32, n_leT, n_cl, n_vp, not_true_eq_false, Bool.false_eq_true, false_and, Bool.not_false, Bool.not_true, Bool.and_true, Bool.and_false, Bool.false_and, Bool.true_and, true_and, and_true, true_or, or_true, not_false_eq_true, Option.some.injEq, exists_eq_left', forall_eq, ↓reduceIte, Nat.add_zero, Nat.zero_add, and_self]
  · rcases (show k = 0 ∨ k = 1 ∨ k = 2 ∨ k = 3 by omega) with rfl | rfl | rfl | rfl
    · have e1 : cx sg pl 0 i = nI 0 := if_neg (by omega)
      have e2 : cy sg pl 0 i = nI 0 := if_neg (by omega)
      simp (disch := omega) only [l_X8_costOf_43, h.sh, h.v1, e_X8_overtimeOf h, e_X8_doublingsOf h, l_0, l_1, l_2, l_3, l_4, l_5, l_6, l_7, l_8, l_9, l_10, l_20, l_30, l_31, l_34, l_40, l_65, l_100, l_255, l_11, l_12, l_24, l_600, l_689, l_999, l_120, l_32, n_leF, n_eqT, n_eqF, n_cl, n_vp, nI_add, fo_s, e1, e2, not_true_eq_false, Bool.false_eq_true, false_and, Bool.not_false, Bool.not_true, Bool.and_true, Bool.and_false, Bool.false_and, Bool.true_and, true_and, and_true, true_or, or_true, not_false_eq_true, Option.some.injEq, exists_eq_left', forall_eq, ↓reduceIte, Nat.add_zero, Nat.zero_add, and_self]
    · have e1 : cx sg pl 1 i = otI sg pl i := if_pos (by omega)
      have e2 : cy sg pl 1 i = nI 0 := if_neg (by omega)
      simp (disch := omega) only [l_X8_costOf_43, h.sh, h.v1, e_X8_overtimeOf h, e_X8_doublingsOf h, l_0, l_1, l_2, l_3, l_4, l_5, l_6, l_7, l_8, l_9, l_10, l_20, l_30, l_31, l_34, l_40, l_65, l_100, l_255, l_11, l_12, l_24, l_600, l_689, l_999, l_120, l_32, n_leF, n_eqT, n_eqF, n_cl, n_vp, nI_add, fo_s, e1, e2, not_true_eq_false, Bool.false_eq_true, false_and, Bool.not_false, Bool.not_true, Bool.and_true, Bool.and_false, Bool.false_and, Bool.true_and, true_and, and_true, true_or, or_true, not_false_eq_true, Option.some.injEq, exists_eq_left', forall_eq, ↓reduceIte, Nat.add_zero, Nat.zero_add, and_self]
    · have e1 : cx sg pl 2 i = nI 0 := if_neg (by omega)
      have e2 : cy sg pl 2 i = nI (dOf sg pl i) * nI (sg 5) := if_pos (by omega)
      simp (disch := omega) only [l_X8_costOf_43, h.sh, h.v1, e_X8_overtimeOf h, e_X8_doublingsOf h, l_0, l_1, l_2, l_3, l_4, l_5, l_6, l_7, l_8, l_9, l_10, l_20, l_30, l_31, l_34, l_40, l_65, l_100, l_255, l_11, l_12, l_24, l_600, l_689, l_999, l_120, l_32, n_leF, n_eqT, n_eqF, n_cl, n_vp, nI_add, fo_s, e1, e2, not_true_eq_false, Bool.false_eq_true, false_and, Bool.not_false, Bool.not_true, Bool.and_true, Bool.and_false, Bool.false_and, Bool.true_and, true_and, and_true, true_or, or_true, not_false_eq_true, Option.some.injEq, exists_eq_left', forall_eq, ↓reduceIte, Nat.add_zero, Nat.zero_add, and_self]
    · have e1 : cx sg pl 3 i = otI sg pl i := if_pos (by omega)
      have e2 : cy sg pl 3 i = nI (dOf sg pl i) * nI (sg 5) := if_pos (by omega)
      simp (disch := omega) only [l_X8_costOf_43, h.sh, h.v1, e_X8_overtimeOf h, e_X8_doublingsOf h, l_0, l_1, l_2, l_3, l_4, l_5, l_6, l_7, l_8, l_9, l_10, l_20, l_30, l_31, l_34, l_40, l_65, l_100, l_255, l_11, l_12, l_24, l_600, l_689, l_999, l_120, l_32, n_leF, n_eqT, n_eqF, n_cl, n_vp, nI_add, fo_s, e1, e2, not_true_eq_false, Bool.false_eq_true, false_and, Bool.not_false, Bool.not_true, Bool.and_true, Bool.and_false, Bool.false_and, Bool.true_and, true_and, and_true, true_or, or_true, not_false_eq_true, Option.some.injEq, exists_eq_left', forall_eq, ↓reduceIte, Nat.add_zero, Nat.zero_add, and_self]
theorem cost_eq (hs : SB sg) (hp : PB sg pl) {k : Nat} (hk : k < 4) : fo (fun p a => (a + cx sg pl k p) + cy sg pl k p) (sg 2) (sI32 (cw sg pl k) (sg 3)) = costI sg pl k := by
  rw [foxy]
  have z1 : ∀ f : Nat → Int32, (∀ i, f i = nI 0) → ∀ n, sI32 f n = nI 0 := fun f hf n => by rw [sI32_ext (g := fun _ => nI 0) (fun i _ => hf i), sI32_0]
  have dd : sI32 (fun p => nI (dOf sg pl p) * nI (sg 5)) (sg 2) = nI (sg 5) * nI (dAll sg pl) := by rw [sI32_su, dOf_all hs hp, Int32.mul_comm]
  have a0 : ∀ x : Int32, x + nI 0 = x := fun x => Int32.add_zero x
  have a1 : ∀ x : Int32, nI 0 + x = x := fun x => Int32.zero_add x
  rcases (show k = 0 ∨ k = 1 ∨ k = 2 ∨ k = 3 by omega) with rfl | rfl | rfl | rfl
  · rw [z1 (cx sg pl 0) (fun i => if_neg (by omega)), z1 (cy sg pl 0) (fun i => if_neg (by omega)), a0, a0]
    exact sI32_ext fun i _ => if_pos (by omega)
  · rw [z1 (cw sg pl 1) (fun i => if_neg (by omega)), z1 (cy sg pl 1) (fun i => if_neg (by omega)), a0, a1]
    exact sI32_ext fun i _ => if_pos (by omega)
  · rw [z1 (cw sg pl 2) (fun i => if_neg (by omega)), z1 (cx sg pl 2) (fun i => if_neg (by omega)), a0, a1]
    exact (sI32_ext fun i _ => if_pos (by omega)).trans dd
  · have e1 : sI32 (cw sg pl 3) (sg 3) = sI32 (rentI sg pl) (sg 3) := sI32_ext fun i _ => if_pos (by omega)
    have e2 : sI32 (cx sg pl 3) (sg 2) = sI32 (otI sg pl) (sg 2) := sI32_ext fun i _ => if_pos (by omega)
    have e3 : sI32 (cy sg pl 3) (sg 2) = nI (sg 5) * nI (dAll sg pl) := (sI32_ext fun i _ => if_pos (by omega)).trans dd
    rw [e1, e2, e3]; rfl
theorem e_X8_costOf (h : MR m sg pl M) {k : Nat} (hk : k < 4) (P : Int32 → Mm → Prop) : w_X8_costOf M m (nI k) P ↔ P (costI sg pl k) M := by
  have b := h.sb.b
  rw [← cost_eq h.sb h.pb hk]
  unfold w_X8_costOf
  refine lpE (fun n (z : Int32 × Int32) => l_X8_costOf_4 P (fun M4 x0_4 x1_4 x2_4 => (∃ n43, l_X8_costOf_43 P (fun M20 x2_20 => P x2_20 M20) n43 M4 x0_4 x1_4 x2_4 (0 : Int32))) n M m (nI k) z.1 z.2) (fun i => (sI32 (cw sg pl k) i, nI i)) (sg 3) (fun _ h => h.elim) (fun _ => ?_) (fun n i hi => ?_)
  · simp (disch := omega) only [l_X8_costOf_4, h.sh, h.v1, l_0, l_1, l_2, l_3, l_4, l_5, l_6, l_7, l_8, l_9, l_10, l_20, l_30, l_31, l_34, l_40, l_65, l_100, l_255, l_11, l_12, l_24, l_600, l_689, l_999, l_120, l_32, n_leT, n_cl, n_vp, e_X8_costOf_43 h hk, not_true_eq_false, Bool.false_eq_true, false_and, Bool.not_false, Bool.not_true, Bool.and_true, Bool.and_false, Bool.false_and, Bool.true_and, true_and, and_true, true_or, or_true, not_false_eq_true, Option.some.injEq, exists_eq_left', forall_eq, ↓reduceIte, Nat.add_zero, Nat.zero_add, and_self]
  · rcases (show k = 0 ∨ k = 1 ∨ k = 2 ∨ k = 3 by omega) with rfl | rfl | rfl | rfl
    · have e1 : cw sg pl 0 i = rentI sg pl i := if_pos (by omega)
      simp (disch := omega) only [l_X8_costOf_4, h.sh, h.v1, e_X8_rentOf h, l_0, l_1, l_2, l_3, l_4, l_5, l_6, l_7, l_8, l_9, l_10, l_20, l_30, l_31, l_34, l_40, l_65, l_100, l_255, l_11, l_12, l_24, l_600, l_689, l_999, l_120, l_32, n_leF, n_eqT, n_eqF, n_cl, n_vp, nI_add, sI32_s, e1, not_true_eq_false, Bool.false_eq_true, false_and, Bool.not_false, Bool.not_true, Bool.and_true, Bool.and_false, Bool.false_and, Bool.true_and, true_and, and_true, true_or, or_true, not_false_eq_true, Option.some.injEq, exists_eq_left', forall_eq, ↓reduceIte, Nat.add_zero, Nat.zero_add, and_self]
    · have e1 : cw sg pl 1 i = nI 0 := if_neg (by omega)
      simp (disch := omega) only [l_X8_costOf_4, h.sh, h.v1, e_X8_rentOf h, l_0, l_1, l_2, l_3, l_4, l_5, l_6, l_7, l_8, l_9, l_10, l_20, l_30, l_31, l_34, l_40, l_65, l_100, l_255, l_11, l_12, l_24, l_600, l_689, l_999, l_120, l_32, n_leF, n_eqT, n_eqF, n_cl, n_vp, nI_add, sI32_s, e1, not_true_eq_false, Bool.false_eq_true, false_and, Bool.not_false, Bool.not_true, Bool.and_true, Bool.and_false, Bool.false_and, Bool.true_and, true_and, and_true, true_or, or_true, not_false_eq_true, Option.some.injEq, exists_eq_left', forall_eq, ↓reduceIte, Nat.add_zero, Nat.zero_add, and_self]
    · have e1 : cw sg pl 2 i = nI 0 := if_neg (by omega)
      simp (disch := omega) only [l_X8_costOf_4, h.sh, h.v1, e_X8_rentOf h, l_0, l_1, l_2, l_3, l_4, l_5, l_6, l_7, l_8, l_9, l_10, l_20, l_30, l_31, l_34, l_40, l_65, l_100, l_255, l_11, l_12, l_24, l_600, l_689, l_999, l_120, l_32, n_leF, n_eqT, n_eqF, n_cl, n_vp, nI_add, sI32_s, e1, not_true_eq_false, Bool.false_eq_true, false_and, Bool.not_false, Bool.not_true, Bool.and_true, Bool.and_false, Bool.false_and, Bool.true_and, true_and, and_true, true_or, or_true, not_false_eq_true, Option.some.injEq, exists_eq_left', forall_eq, ↓reduceIte, Nat.add_zero, Nat.zero_add, and_self]
    · have e1 : cw sg pl 3 i = rentI sg pl i := if_pos (by omega)
      simp (disch := omega) only [l_X8_costOf_4, h.sh, h.v1, e_X8_rentOf h, l_0, l_1, l_2, l_3, l_4, l_5, l_6, l_7, l_8, l_9, l_10, l_20, l_30, l_31, l_34, l_40, l_65, l_100, l_255, l_11, l_12, l_24, l_600, l_689, l_999, l_120, l_32, n_leF, n_eqT, n_eqF, n_cl, n_vp, nI_add, sI32_s, e1, not_true_eq_false, Bool.false_eq_true, false_and, Bool.not_false, Bool.not_true, Bool.and_true, Bool.and_false, Bool.false_and, Bool.true_and, true_and, and_true, true_or, or_true, not_false_eq_true, Option.some.injEq, exists_eq_left', forall_eq, ↓reduceIte, Nat.add_zero, Nat.zero_add, and_self]
end MC
