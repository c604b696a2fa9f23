/-! BYTES AND WORDS: a byte as a number, name codes of both sides -/
def ub (b : Int32) : Nat := (b &&& 255).toBitVec.toNat
theorem ub_all : ∀ v : Fin 256, ub (Int8.ofBitVec (BitVec.ofNat 8 v.val)).toInt32 < 256 ∧ (Int8.ofBitVec (BitVec.ofNat 8 v.val)).toInt32 &&& 255 = nI (ub (Int8.ofBitVec (BitVec.ofNat 8 v.val)).toInt32) ∧
    ((ub (Int8.ofBitVec (BitVec.ofNat 8 v.val)).toInt32 < 128 ∧ (Int8.ofBitVec (BitVec.ofNat 8 v.val)).toInt32 = nI (ub (Int8.ofBitVec (BitVec.ofNat 8 v.val)).toInt32)) ∨ (128 ≤ ub (Int8.ofBitVec (BitVec.ofNat 8 v.val)).toInt32 ∧ (Int8.ofBitVec (BitVec.ofNat 8 v.val)).toInt32 < nI 0)) := by decide +kernel
theorem ub_ok {b : Int32} (h : b.toInt8.toInt32 = b) : ub b < 256 ∧ b &&& nI 255 = nI (ub b) ∧ ((ub b < 128 ∧ b = nI (ub b)) ∨ (128 ≤ ub b ∧ b < nI 0)) := by
  have q := ub_all ⟨b.toInt8.toBitVec.toNat, b.toInt8.toBitVec.isLt⟩
  have e : (Int8.ofBitVec (BitVec.ofNat 8 b.toInt8.toBitVec.toNat)).toInt32 = b := by
    rw [BitVec.ofNat_toNat, BitVec.setWidth_eq]; exact h
  simp only [e] at q
  exact q
def lt (l : Nat) : Bool := decide (97 ≤ l ∧ l ≤ 122)
theorem l_97 : (97 : Int32) = nI 97 := rfl
theorem l_122 : (122 : Int32) = nI 122 := rfl
theorem isL {b : Int32} (h : b.toInt8.toInt32 = b) (M : Mm) (P : Int32 → Mm → Prop) : w_X7_isLetter M b P ↔ P (bI (lt (ub b))) M := by
  obtain ⟨h1, h2, h3⟩ := ub_ok h
  have l97 := l_97
  unfold lt
  rcases h3 with ⟨h3, h4⟩ | ⟨h3, h4⟩
  · generalize ub b = u at *
    subst h4
    by_cases c : u < 97
    · simp (disch := omega) only [w_X7_isLetter, l_97, n_ltT, decide_eq_false (show ¬ (97 ≤ u ∧ u ≤ 122) by omega), bI_f, l_0, l_1, l_2, l_3, l_4, l_5, l_6, l_7, l_8, l_9, l_10, l_20, l_30, l_31, l_34, l_40, l_65, l_100, l_255, l_11, l_12, l_24, l_600, l_689, l_999, l_120, l_32, nI_add, pk_mul, n_sub, n_leT, n_leF, n_ltT, n_ltF, n_eqT, n_eqF, n_cl, n_vp, fa_andq, fa_orq, fa_xorq, n_shl, n_shr, n_t1, n_t0, n_div, n_m1, not_true_eq_false, Bool.false_eq_true, false_and, Bool.not_false, Bool.not_true, Bool.and_true, Bool.and_false, Bool.false_and, Bool.true_and, true_and, and_true, true_or, or_true, not_false_eq_true, Option.some.injEq, exists_eq_left', forall_eq, ↓reduceIte, Nat.add_zero, Nat.zero_add, and_self]
    · by_cases c2 : 122 < u
      · simp (disch := omega) only [w_X7_isLetter, l_97, l_122, decide_eq_false (show ¬ (97 ≤ u ∧ u ≤ 122) by omega), bI_f, l_0, l_1, l_2, l_3, l_4, l_5, l_6, l_7, l_8, l_9, l_10, l_20, l_30, l_31, l_34, l_40, l_65, l_100, l_255, l_11, l_12, l_24, l_600, l_689, l_999, l_120, l_32, nI_add, pk_mul, n_sub, n_leT, n_leF, n_ltT, n_ltF, n_eqT, n_eqF, n_cl, n_vp, fa_andq, fa_orq, fa_xorq, n_shl, n_shr, n_t1, n_t0, n_div, n_m1, not_true_eq_false, Bool.false_eq_true, false_and, Bool.not_false, Bool.not_true, Bool.and_true, Bool.and_false, Bool.false_and, Bool.true_and, true_and, and_true, true_or, or_true, not_false_eq_true, Option.some.injEq, exists_eq_left', forall_eq, ↓reduceIte, Nat.add_zero, Nat.zero_add, and_self]
      · simp (disch := omega) only [w_X7_isLetter, l_97, l_122, decide_eq_true (show 97 ≤ u ∧ u ≤ 122 by omega), bI_t, l_0, l_1, l_2, l_3, l_4, l_5, l_6, l_7, l_8, l_9, l_10, l_20, l_30, l_31, l_34, l_40, l_65, l_100, l_255, l_11, l_12, l_24, l_600, l_689, l_999, l_120, l_32, nI_add, pk_mul, n_sub, n_leT, n_leF, n_ltT, n_ltF, n_eqT, n_eqF, n_cl, n_vp, fa_andq, fa_orq, fa_xorq, n_shl, n_shr, n_t1, n_t0, n_div, n_m1, not_true_eq_false, Bool.false_eq_true, false_and, Bool.not_false, Bool.not_true, Bool.and_true, Bool.and_false, Bool.false_and, Bool.true_and, true_and, and_true, true_or, or_true, not_false_eq_true, Option.some.injEq, exists_eq_left', forall_eq, ↓reduceIte, Nat.add_zero, Nat.zero_add, and_self]
  · have c : b < nI 97 := by
      rw [lt_iff32] at h4 ⊢
      have z : (nI 0).toInt = 0 := rfl
      have z2 : (nI 97).toInt = 97 := rfl
      omega
    simp (disch := omega) only [w_X7_isLetter, l_97, c, decide_eq_false (show ¬ (97 ≤ ub b ∧ ub b ≤ 122) by omega), bI_f, l_0, l_1, l_2, l_3, l_4, l_5, l_6, l_7, l_8, l_9, l_10, l_20, l_30, l_31, l_34, l_40, l_65, l_100, l_255, l_11, l_12, l_24, l_600, l_689, l_999, l_120, l_32, nI_add, pk_mul, n_sub, n_leT, n_leF, n_ltT, n_ltF, n_eqT, n_eqF, n_cl, n_vp, fa_andq, fa_orq, fa_xorq, n_shl, n_shr, n_t1, n_t0, n_div, n_m1, not_true_eq_false, Bool.false_eq_true, false_and, Bool.not_false, Bool.not_true, Bool.and_true, Bool.and_false, Bool.false_and, Bool.true_and, true_and, and_true, true_or, or_true, not_false_eq_true, Option.some.injEq, exists_eq_left', forall_eq, ↓reduceIte, Nat.add_zero, Nat.zero_add, and_self]
theorem is32 {b : Int32} (h : b.toInt8.toInt32 = b) : (b = nI 32) = (ub b = 32) := by
  obtain ⟨h1, h2, h3⟩ := ub_ok h
  refine propext ⟨fun e => by subst e; rfl, fun e => ?_⟩
  rcases h3 with ⟨h3, h4⟩ | ⟨h3, h4⟩
  · rw [h4, e]
  · omega
/-! codes -/
def nB (B d : Nat) (wd : List Nat) : Nat := wd.foldl (fun c l => c * B + (l - d)) 0
theorem nB_s (B d : Nat) (wd : List Nat) (l : Nat) : nB B d (wd ++ [l]) = nB B d wd * B + (l - d) := by
  unfold nB; rw [List.foldl_append]; rfl
theorem nB_inj {B d : Nat} : ∀ (n : Nat) (u v : List Nat), u.length ≤ n → (∀ l, l ∈ u → d < l ∧ l - d < B) → (∀ l, l ∈ v → d < l ∧ l - d < B) → nB B d u = nB B d v → u = v := by
  intro n
  induction n with
  | zero =>
    intro u v h hu hv e
    have : u = [] := List.length_eq_zero_iff.mp (by omega)
    subst this
    rcases List.eq_nil_or_concat v with c | ⟨w, l, c⟩
    · exact c.symm
    · subst c
      rw [List.concat_eq_append] at e hv
      rw [nB_s] at e
      have := hv l (by simp)
      have z : nB B d [] = 0 := rfl
      omega
  | succ n ih =>
    intro u v h hu hv e
    rcases List.eq_nil_or_concat v with c | ⟨w, l, c⟩
    · subst c
      rcases List.eq_nil_or_concat u with c | ⟨w, l, c⟩
      · exact c
      · subst c
        rw [List.concat_eq_append] at e hu
        rw [nB_s] at e
        have := hu l (by simp)
        have z : nB B d [] = 0 := rfl
        omega
    · subst c
      rw [List.concat_eq_append] at e hv ⊢
      rcases List.eq_nil_or_concat u with c | ⟨w2, l2, c⟩
      · subst c
        rw [nB_s] at e
        have := hv l (by simp)
        have z : nB B d [] = 0 := rfl
        omega
      · subst c
        rw [List.concat_eq_append] at e hu h ⊢
        rw [nB_s, nB_s] at e
        have a1 := hu l2 (by simp)
        have a2 := hv l (by simp)
        rw [List.length_append] at h
        have e1 : nB B d w2 = nB B d w := by
          have q1 : (nB B d w2 * B + (l2 - d)) / B = nB B d w2 := by
            rw [Nat.mul_comm, Nat.mul_add_div (by omega), Nat.div_eq_of_lt a1.2, Nat.add_zero]
          have q2 : (nB B d w * B + (l - d)) / B = nB B d w := by
            rw [Nat.mul_comm, Nat.mul_add_div (by omega), Nat.div_eq_of_lt a2.2, Nat.add_zero]
          rw [← q1, ← q2, e]
        have e2 : l2 - d = l - d := by rw [e1] at e; omega
        have e3 : l2 = l := by omega
        have e4 := ih w2 w (by have : [l2].length = 1 := rfl; omega) (fun k hk => hu k (by simp [hk])) (fun k hk => hv k (by simp [hk])) e1
        rw [e3, e4]
theorem j_sh5 : (((5 : Int32).toInt64 &&& 63).toBitVec.smod 64).toNat = 5 := by decide
theorem j_sh8 : (((8 : Int32).toInt64 &&& 63).toBitVec.smod 64).toNat = 8 := by decide
theorem j_st {c s x : Int64} {k n y : Nat} (hs : (s.toBitVec.smod 64).toNat = k) (hc : c.toBitVec.toNat = n) (hx : x.toBitVec.toNat = y) (hy : y < 2 ^ k) (hn : n * 2 ^ k < 2 ^ 64) : ((c <<< s) ||| x).toBitVec.toNat = n * 2 ^ k + y := by
  rw [Int64.toBitVec_or, BitVec.toNat_or, Int64.toBitVec_shiftLeft, BitVec.shiftLeft_eq', BitVec.toNat_shiftLeft, hs, hc, hx, Nat.shiftLeft_eq, Nat.mod_eq_of_lt hn, ← Nat.shiftLeft_eq, Nat.shiftLeft_add_eq_or_of_lt hy]
theorem j_l5 : ∀ l, l < 123 → 97 ≤ l → ((nI l - (97 : Int32)) + (1 : Int32)).toInt64.toBitVec.toNat = l - 96 := by decide +kernel
theorem j_l8 : ∀ l, l < 123 → (nI l).toInt64.toBitVec.toNat = l := by decide +kernel
theorem c5_s (wd : List Nat) (l : Nat) : c5 (wd ++ [l]) = (c5 wd <<< ((5 : Int32).toInt64 &&& 63)) ||| ((nI l - (97 : Int32)) + (1 : Int32)).toInt64 := by
  unfold c5; rw [List.foldl_append]; rfl
theorem c8_s (wd : List Nat) (l : Nat) : c8 (wd ++ [l]) = (c8 wd <<< ((8 : Int32).toInt64 &&& 63)) ||| (nI l).toInt64 := by
  unfold c8; rw [List.foldl_append]; rfl
theorem c5_n : ∀ (n : Nat) (wd : List Nat), wd.length = n → n ≤ 8 → (∀ l, l ∈ wd → 97 ≤ l ∧ l ≤ 122) → (c5 wd).toBitVec.toNat = nB 32 96 wd ∧ nB 32 96 wd < 32 ^ n := by
  intro n
  induction n with
  | zero =>
    intro wd h _ _
    have : wd = [] := List.length_eq_zero_iff.mp h
    subst this
    exact ⟨rfl, by decide⟩
  | succ n ih =>
    intro wd h h8 hl
    rcases List.eq_nil_or_concat wd with c | ⟨w, l, c⟩
    · subst c; exact absurd h (by simp)
    · subst c
      rw [List.concat_eq_append] at h hl ⊢
      rw [List.length_append] at h
      have l1 : [l].length = 1 := rfl
      obtain ⟨i1, i2⟩ := ih w (by omega) (by omega) (fun k hk => hl k (by simp [hk]))
      have hl2 := hl l (by simp)
      have b : 32 ^ n ≤ 32 ^ 7 := Nat.pow_le_pow_right (by omega) (by omega)
      rw [c5_s, nB_s]
      refine ⟨j_st j_sh5 i1 (j_l5 l (by omega) (by omega)) (by omega) (by omega), ?_⟩
      rw [Nat.pow_succ]
      omega
theorem c8_n : ∀ (n : Nat) (wd : List Nat), wd.length = n → n ≤ 8 → (∀ l, l ∈ wd → 97 ≤ l ∧ l ≤ 122) → (c8 wd).toBitVec.toNat = nB 256 0 wd ∧ nB 256 0 wd < 256 ^ n := by
  intro n
  induction n with
  | zero =>
    intro wd h _ _
    have : wd = [] := List.length_eq_zero_iff.mp h
    subst this
    exact ⟨rfl, by decide⟩
  | succ n ih =>
    intro wd h h8 hl
    rcases List.eq_nil_or_concat wd with c | ⟨w, l, c⟩
    · subst c; exact absurd h (by simp)
    · subst c
      rw [List.concat_eq_append] at h hl ⊢
      rw [List.length_append] at h
      have l1 : [l].length = 1 := rfl
      obtain ⟨i1, i2⟩ := ih w (by omega) (by omega) (fun k hk => hl k (by simp [hk]))
      have hl2 := hl l (by simp)
      have b : 256 ^ n ≤ 256 ^ 7 := Nat.pow_le_pow_right (by omega) (by omega)
      rw [c8_s, nB_s]
      refine ⟨j_st j_sh8 i1 (j_l8 l (by omega)) (by omega) (by omega), ?_⟩
      rw [Nat.pow_succ]
      omega
theorem c5_eq {u v : List Nat} (hu : NameOK u) (hv : NameOK v) : (c5 u = c5 v) = (u = v) := by
  refine propext ⟨fun e => ?_, fun e => by rw [e]⟩
  have a := (c5_n _ u rfl hu.2.1 hu.2.2).1
  have b := (c5_n _ v rfl hv.2.1 hv.2.2).1
  rw [e, b] at a
  exact nB_inj _ u v (Nat.le_refl _) (fun l hl => by have := hu.2.2 l hl; omega) (fun l hl => by have := hv.2.2 l hl; omega) a.symm
theorem c8_eq {u v : List Nat} (hu : NameOK u) (hv : NameOK v) : (c8 u = c8 v) = (u = v) := by
  refine propext ⟨fun e => ?_, fun e => by rw [e]⟩
  have a := (c8_n _ u rfl hu.2.1 hu.2.2).1
  have b := (c8_n _ v rfl hv.2.1 hv.2.2).1
  rw [e, b] at a
  exact nB_inj _ u v (Nat.le_refl _) (fun l hl => by have := hu.2.2 l hl; omega) (fun l hl => by have := hv.2.2 l hl; omega) a.symm
theorem c5_0 {u : List Nat} (hu : NameOK u) : (c5 u = 0) = False := by
  refine eq_false fun e => ?_
  have a := (c5_n _ u rfl hu.2.1 hu.2.2).1
  rw [e] at a
  have q := nB_inj (B := 32) (d := 96) _ u [] (Nat.le_refl _) (fun l hl => by have := hu.2.2 l hl; omega) (fun l hl => absurd hl (by simp)) a.symm
  have := hu.1
  rw [q] at this
  exact absurd this (by decide)
theorem lg0 (x y : Int64) : (lg_cmp x y = nI 0) = (x = y) := propext (lg_cmp_eq x y)
/-- the first number below n with p, or -1 -/
def fst (p : Nat → Bool) (n : Nat) : Int32 := nI (if fi p n < n then fi p n else 4294967295)
theorem fi_congr {p q : Nat → Bool} : ∀ n, (∀ k, k < n → p k = q k) → fi p n = fi q n
  | 0, _ => rfl
  | n + 1, h => by
    unfold fi
    rw [fi_congr n fun k hk => h k (by omega), h n (by omega)]
theorem fst_congr {p q : Nat → Bool} {n : Nat} (h : ∀ k, k < n → p k = q k) : fst p n = fst q n := by
  unfold fst; rw [fi_congr n h]
theorem e_X2_numberOf {M : Mm} {a b n N : Nat} {r : Int64} (k0 : zk M a = 2) (hn : zI M a 1 = nI n) (r0 : zR M a 0 = some b) (kb : zk M b = 11) (lb : zl M b = N) (h : n ≤ N) (hN : N < 1000) (P : Int32 → Mm → Prop) : w_X2_numberOf M a r P ↔ P (fst (fun k => decide (zJ M b k = r)) n) M := by
  unfold w_X2_numberOf
  refine lpF (fun m (z : Int32) => l_X2_numberOf_2 P (fun M2 x3_2 => P x3_2 M2) (fun M3 => P (-1 : Int32) M3) m M a r z) nI n (fun k => decide (zJ M b k = r)) (Q := fun k => P (nI (if k < n then k else 4294967295)) M) (fun _ h => h.elim) (fun _ => ?_) (fun m k hk c => ?_) (fun m k hk c => ?_)
  · simp (disch := omega) only [l_X2_numberOf_2, k0, hn, if_neg (Nat.lt_irrefl n), l_0, l_1, l_2, l_3, l_4, l_5, l_6, l_7, l_8, l_9, l_10, l_20, l_30, l_31, l_34, l_40, l_65, l_100, l_255, l_11, l_12, l_24, l_600, l_689, l_999, l_120, l_32, nI_add, pk_mul, n_sub, n_leT, n_leF, n_ltT, n_ltF, n_eqT, n_eqF, n_cl, n_vp, fa_andq, fa_orq, fa_xorq, n_shl, n_shr, n_t1, n_t0, n_div, n_m1, not_true_eq_false, Bool.false_eq_true, false_and, Bool.not_false, Bool.not_true, Bool.and_true, Bool.and_false, Bool.false_and, Bool.true_and, true_and, and_true, true_or, or_true, not_false_eq_true, Option.some.injEq, exists_eq_left', forall_eq, ↓reduceIte, Nat.add_zero, Nat.zero_add, and_self]
  · have c1 : ¬ zJ M b k = r := of_decide_eq_false c
    simp (disch := omega) only [l_X2_numberOf_2, k0, hn, r0, kb, lb, lg0, c1, l_0, l_1, l_2, l_3, l_4, l_5, l_6, l_7, l_8, l_9, l_10, l_20, l_30, l_31, l_34, l_40, l_65, l_100, l_255, l_11, l_12, l_24, l_600, l_689, l_999, l_120, l_32, nI_add, pk_mul, n_sub, n_leT, n_leF, n_ltT, n_ltF, n_eqT, n_eqF, n_cl, n_vp, fa_andq, fa_orq, fa_xorq, n_shl, n_shr, n_t1, n_t0, n_div, n_m1, not_true_eq_false, Bool.false_eq_true, false_and, Bool.not_false, Bool.not_true, Bool.and_true, Bool.and_false, Bool.false_and, Bool.true_and, true_and, and_true, true_or, or_true, not_false_eq_true, Option.some.injEq, exists_eq_left', forall_eq, ↓reduceIte, Nat.add_zero, Nat.zero_add, and_self]
  · have c1 : zJ M b k = r := of_decide_eq_true c
    simp (disch := omega) only [l_X2_numberOf_2, k0, hn, r0, kb, lb, lg0, c1, if_pos hk, l_0, l_1, l_2, l_3, l_4, l_5, l_6, l_7, l_8, l_9, l_10, l_20, l_30, l_31, l_34, l_40, l_65, l_100, l_255, l_11, l_12, l_24, l_600, l_689, l_999, l_120, l_32, nI_add, pk_mul, n_sub, n_leT, n_leF, n_ltT, n_ltF, n_eqT, n_eqF, n_cl, n_vp, fa_andq, fa_orq, fa_xorq, n_shl, n_shr, n_t1, n_t0, n_div, n_m1, not_true_eq_false, Bool.false_eq_true, false_and, Bool.not_false, Bool.not_true, Bool.and_true, Bool.and_false, Bool.false_and, Bool.true_and, true_and, and_true, true_or, or_true, not_false_eq_true, Option.some.injEq, exists_eq_left', forall_eq, ↓reduceIte, Nat.add_zero, Nat.zero_add, and_self]