/-! A CALL on both sides: the same kind thrown, the same answer, states that go on alike -/
def clA : Nat × (Nat → String) := (1, fun _ => "java/lang/IllegalArgumentException")
def clb (k : Nat) : String := if k = 1 then "java/lang/IndexOutOfBoundsException" else if k = 2 then "java/lang/IllegalArgumentException" else "java/lang/IllegalStateException"
def clc (k : Nat) : String := if k = 1 then "java/lang/IndexOutOfBoundsException" else "java/lang/IllegalStateException"
/-- how many kinds a call throws, and the class of each -/
def clB : Nat × (Nat → String) := (2, clb)
def clB1 : Nat × (Nat → String) := (1, clb)
def clB3 : Nat × (Nat → String) := (3, clb)
def clC : Nat × (Nat → String) := (2, clc)
def clC1 : Nat × (Nat → String) := (1, clc)
def RMo (x : Nat) : Nat → Prop := fun b => x + 149 ≤ b ∧ b ≤ x + 162
def CALL1 (x : Nat) (s : ST) (cl : Nat × (Nat → String)) (wC : Mm → (Int32 → Mm → Prop) → (String → Mm → Prop) → Prop) (wM : Mm → (Int32 → Mm → Prop) → Prop) : Prop :=
  ∃ k v s', OKs s' ∧ k ≤ cl.1 ∧ (∀ M P X, CI x s M → WO x M → (∀ M', CI x s' M' → FrG x (x + 149) M M' → if k = 0 then P v M' else X (cl.2 k) M') → wC M P X) ∧
    ∀ M P, MI (x + 149) s M → (∀ M' u, MI (x + 149) s' M' → FrG (x + 149) (x + 163) M M' → zI M' (x + 149) 0 = nI k → (k = 0 → u = v) → P u M') → wM M P
def CALL0 (x : Nat) (s : ST) (wC : Mm → (Int32 → Mm → Prop) → Prop) (wM : Mm → (Int32 → Mm → Prop) → Prop) : Prop :=
  ∃ v s', OKs s' ∧ (∀ M P, CI x s M → WO x M → (∀ M', CI x s' M' → FrG x (x + 149) M M' → P v M') → wC M P) ∧
    ∀ M P, MI (x + 149) s M → (∀ M', MI (x + 149) s' M' → FrI (RMo x) M M' → P v M') → wM M P
theorem RMo.g {x : Nat} {M M' : Mm} (f : FrI (RMo x) M M') : FrG (x + 149) (x + 163) M M' := f.g fun b hb => by unfold RMo at hb; omega
theorem CALL1.okG {x : Nat} {s : ST} {cl : Nat × (Nat → String)} {wC : Mm → (Int32 → Mm → Prop) → (String → Mm → Prop) → Prop} {wM : Mm → (Int32 → Mm → Prop) → Prop} (s' : ST) (v : Int32) (h : OKs s') (hC : ∀ M P X, CI x s M → WO x M → (∀ M', CI x s' M' → FrG x (x + 149) M M' → P v M') → wC M P X)
    (hM : ∀ M P, MI (x + 149) s M → (∀ M', MI (x + 149) s' M' → FrG (x + 149) (x + 163) M M' → zI M' (x + 149) 0 = nI 0 → P v M') → wM M P) : CALL1 x s cl wC wM :=
  ⟨0, v, s', h, Nat.zero_le _, fun M P X h1 h2 K => hC M P X h1 h2 fun M' a b => by have := K M' a b; rw [if_pos rfl] at this; exact this,
    fun M P h1 K => hM M P h1 fun M' a b c => K M' v a b c fun _ => rfl⟩
theorem CALL1.ok {x : Nat} {s : ST} {cl : Nat × (Nat → String)} {wC : Mm → (Int32 → Mm → Prop) → (String → Mm → Prop) → Prop} {wM : Mm → (Int32 → Mm → Prop) → Prop} (s' : ST) (v : Int32) (h : OKs s') (hC : ∀ M P X, CI x s M → WO x M → (∀ M', CI x s' M' → FrG x (x + 149) M M' → P v M') → wC M P X)
    (hM : ∀ M P, MI (x + 149) s M → (∀ M', MI (x + 149) s' M' → FrI (RMo x) M M' → zI M' (x + 149) 0 = nI 0 → P v M') → wM M P) : CALL1 x s cl wC wM :=
  CALL1.okG s' v h hC fun M P h1 K => hM M P h1 fun M' a b c => K M' a (RMo.g b) c
theorem CALL1.no {x : Nat} {s : ST} {cl : Nat × (Nat → String)} {wC : Mm → (Int32 → Mm → Prop) → (String → Mm → Prop) → Prop} {wM : Mm → (Int32 → Mm → Prop) → Prop} (k : Nat) (hk : 1 ≤ k ∧ k ≤ cl.1) (h : OKs s) (hC : ∀ M P X, CI x s M → WO x M → (∀ M', CI x s M' → FrG x (x + 149) M M' → X (cl.2 k) M') → wC M P X)
    (hM : ∀ M P, MI (x + 149) s M → (∀ M' u, MI (x + 149) s M' → FrI (RMo x) M M' → zI M' (x + 149) 0 = nI k → P u M') → wM M P) : CALL1 x s cl wC wM :=
  ⟨k, 0, s, h, hk.2, fun M P X h1 h2 K => hC M P X h1 h2 fun M' a b => by have := K M' a b; rw [if_neg (by omega)] at this; exact this,
    fun M P h1 K => hM M P h1 fun M' u a b c => K M' u a (RMo.g b) c fun e => by omega⟩
/-- an int that is no index below n -/
def bad (a : Int32) (n : Nat) : Prop := a < 0 ∨ nI n ≤ a
theorem ix (a : Int32) {n : Nat} (hn : n < 2 ^ 31) : bad a n ∨ ∃ j, j < n ∧ a = nI j := by
  rcases pk_ix a hn with h | h | h
  · exact Or.inl (Or.inl h)
  · exact Or.inl (Or.inr h)
  · exact Or.inr h
theorem bad_ne {a : Int32} {n j : Nat} (h : bad a n) (hj : j < n) (hn : n < 2 ^ 31) : (a = nI j) = False := eq_false fun e => by
  subst e
  rcases h with h | h
  · exact nI_pos (by omega) h
  · exact nI_ge hj hn h
theorem lt_iff32 (a b : Int32) : a < b ↔ a.toInt < b.toInt := Int32.lt_iff_toInt_lt
theorem le_iff32 (a b : Int32) : a ≤ b ↔ a.toInt ≤ b.toInt := Int32.le_iff_toInt_le
theorem bad_sub {a : Int32} {n : Nat} (h : bad a n) (hn : n < 2 ^ 31) (h0 : ¬ a < nI 0) : nI n - nI 1 < a := by
  have h1 : nI n ≤ a := h.resolve_left h0
  rw [lt_iff32] at h0 ⊢
  rw [le_iff32, nI_toInt hn] at h1
  have z : (nI 0).toInt = 0 := rfl
  by_cases c : n = 0
  · subst c
    have e : (nI 0 - nI 1).toInt = -1 := rfl
    omega
  · rw [n_sub (by omega), nI_toInt (by omega)]
    omega
theorem bad_lt {a : Int32} {n : Nat} (h : bad a (n + 1)) (hn : n + 1 < 2 ^ 31) (h0 : ¬ a < nI 0) : nI n < a := by
  have := bad_sub h hn h0
  rw [n_sub (by omega), Nat.add_sub_cancel] at this
  exact this
section AR
variable {M : Mm}
theorem e_req_ok {j n : Nat} (h : j < n) (hn : n < 2 ^ 31) (P : Mm → Prop) (X : String → Mm → Prop) : w_X7_requireIndex M (nI j) (nI n) P X ↔ P M := by
  simp (disch := omega) only [w_X7_requireIndex, l_0, l_1, l_2, l_3, l_4, l_5, l_6, l_7, l_8, l_9, l_10, l_20, l_30, l_31, l_34, l_40, l_65, l_100, l_255, l_11, l_12, l_24, l_600, l_689, l_999, l_120, l_32, nI_add, pk_mul, n_sub, n_leT, n_leF, n_ltT, n_ltF, n_eqT, n_eqF, n_cl, n_vp, fa_andq, fa_orq, fa_xorq, n_shl, n_shr, n_t1, n_t0, n_div, n_m1, not_true_eq_false, Bool.false_eq_true, false_and, Bool.not_false, Bool.not_true, Bool.and_true, Bool.and_false, Bool.false_and, Bool.true_and, true_and, and_true, true_or, or_true, not_false_eq_true, Option.some.injEq, exists_eq_left', forall_eq, ↓reduceIte, Nat.add_zero, Nat.zero_add, and_self]
theorem e_req_no {a : Int32} {n : Nat} (h : bad a n) (P : Mm → Prop) (X : String → Mm → Prop) : w_X7_requireIndex M a (nI n) P X ↔ ∀ n1, zn M ≤ n1 → X "java/lang/IndexOutOfBoundsException" (sZ M n1) := by
  unfold w_X7_requireIndex
  by_cases c : a < 0
  · rw [if_pos c]
  · rw [if_neg c, if_neg (fun q => by
      have h1 := h.resolve_left c
      rw [lt_iff32] at q
      rw [le_iff32] at h1
      omega)]
theorem e_no_ok {m j n : Nat} (hk : zk M m = 8) (t : zI M m 0 = nI 0) (h : j < n) (hn : n < 2 ^ 31) (P : Int32 → Mm → Prop) : w_X8_no M m (nI j) (nI n) P ↔ P (nI 0) M := by
  simp (disch := omega) only [w_X8_no, w_X8_within, w_X8_throwsIf, hk, t, l_0, l_1, l_2, l_3, l_4, l_5, l_6, l_7, l_8, l_9, l_10, l_20, l_30, l_31, l_34, l_40, l_65, l_100, l_255, l_11, l_12, l_24, l_600, l_689, l_999, l_120, l_32, nI_add, pk_mul, n_sub, n_leT, n_leF, n_ltT, n_ltF, n_eqT, n_eqF, n_cl, n_vp, fa_andq, fa_orq, fa_xorq, n_shl, n_shr, n_t1, n_t0, n_div, n_m1, not_true_eq_false, Bool.false_eq_true, false_and, Bool.not_false, Bool.not_true, Bool.and_true, Bool.and_false, Bool.false_and, Bool.true_and, true_and, and_true, true_or, or_true, not_false_eq_true, Option.some.injEq, exists_eq_left', forall_eq, ↓reduceIte, Nat.add_zero, Nat.zero_add, and_self]
theorem e_throws1 {m k : Nat} (hk : zk M m = 8) (t : zI M m 0 = nI 0) (k1 : 1 ≤ k) (k3 : k < 4) (P : Int32 → Mm → Prop) : w_X8_throwsIf M m (nI 1) (nI k) P ↔ P (nI 1) (sI M m 0 (nI k)) := by
  have e1 := zI_sI1 M m 0 (nI k)
  simp (disch := omega) only [w_X8_throwsIf, hk, t, zk_sI, e1, l_0, l_1, l_2, l_3, l_4, l_5, l_6, l_7, l_8, l_9, l_10, l_20, l_30, l_31, l_34, l_40, l_65, l_100, l_255, l_11, l_12, l_24, l_600, l_689, l_999, l_120, l_32, nI_add, pk_mul, n_sub, n_leT, n_leF, n_ltT, n_ltF, n_eqT, n_eqF, n_cl, n_vp, fa_andq, fa_orq, fa_xorq, n_shl, n_shr, n_t1, n_t0, n_div, n_m1, not_true_eq_false, Bool.false_eq_true, false_and, Bool.not_false, Bool.not_true, Bool.and_true, Bool.and_false, Bool.false_and, Bool.true_and, true_and, and_true, true_or, or_true, not_false_eq_true, Option.some.injEq, exists_eq_left', forall_eq, ↓reduceIte, Nat.add_zero, Nat.zero_add, and_self]
theorem e_throws0 {m k : Nat} (hk : zk M m = 8) (t : zI M m 0 = nI 0) (P : Int32 → Mm → Prop) : w_X8_throwsIf M m (nI 0) (nI k) P ↔ P (nI 0) M := by
  simp (disch := omega) only [w_X8_throwsIf, hk, t, l_0, l_1, l_2, l_3, l_4, l_5, l_6, l_7, l_8, l_9, l_10, l_20, l_30, l_31, l_34, l_40, l_65, l_100, l_255, l_11, l_12, l_24, l_600, l_689, l_999, l_120, l_32, nI_add, pk_mul, n_sub, n_leT, n_leF, n_ltT, n_ltF, n_eqT, n_eqF, n_cl, n_vp, fa_andq, fa_orq, fa_xorq, n_shl, n_shr, n_t1, n_t0, n_div, n_m1, not_true_eq_false, Bool.false_eq_true, false_and, Bool.not_false, Bool.not_true, Bool.and_true, Bool.and_false, Bool.false_and, Bool.true_and, true_and, and_true, true_or, or_true, not_false_eq_true, Option.some.injEq, exists_eq_left', forall_eq, ↓reduceIte, Nat.add_zero, Nat.zero_add, and_self]
theorem e_no_no {m n : Nat} {a : Int32} (hk : zk M m = 8) (t : zI M m 0 = nI 0) (h : bad a n) (hn : n < 2 ^ 31) (P : Int32 → Mm → Prop) : w_X8_no M m a (nI n) P ↔ P (nI 1) (sI M m 0 (nI 1)) := by
  by_cases c : a < nI 0
  · simp (disch := omega) only [w_X8_no, w_X8_within, hk, t, c, e_throws1 hk t, l_0, l_1, l_2, l_3, l_4, l_5, l_6, l_7, l_8, l_9, l_10, l_20, l_30, l_31, l_34, l_40, l_65, l_100, l_255, l_11, l_12, l_24, l_600, l_689, l_999, l_120, l_32, nI_add, pk_mul, n_sub, n_leT, n_leF, n_ltT, n_ltF, n_eqT, n_eqF, n_cl, n_vp, fa_andq, fa_orq, fa_xorq, n_shl, n_shr, n_t1, n_t0, n_div, n_m1, not_true_eq_false, Bool.false_eq_true, false_and, Bool.not_false, Bool.not_true, Bool.and_true, Bool.and_false, Bool.false_and, Bool.true_and, true_and, and_true, true_or, or_true, not_false_eq_true, Option.some.injEq, exists_eq_left', forall_eq, ↓reduceIte, Nat.add_zero, Nat.zero_add, and_self]
  · have d := bad_sub h hn c
    simp (disch := omega) only [w_X8_no, w_X8_within, l_0, l_1, l_2, l_3, l_4, l_5, l_6, l_7, l_8, l_9, l_10, l_20, l_30, l_31, l_34, l_40, l_65, l_100, l_255, l_11, l_12, l_24, l_600, l_689, l_999, l_120, l_32, c, d, e_throws1 hk t, hk, n_eqT, n_eqF, not_true_eq_false, Bool.false_eq_true, false_and, Bool.not_false, Bool.not_true, Bool.and_true, Bool.and_false, Bool.false_and, Bool.true_and, true_and, and_true, true_or, or_true, not_false_eq_true, Option.some.injEq, exists_eq_left', forall_eq, ↓reduceIte, Nat.add_zero, Nat.zero_add, and_self]
theorem e_noWhat_ok {m j n : Nat} (hk : zk M m = 8) (t : zI M m 0 = nI 0) (h : j ≤ n) (hn : n < 1000) (P : Int32 → Mm → Prop) : w_X8_noWhat M m (nI j) (nI n) P ↔ P (nI 0) M := by
  simp (disch := omega) only [w_X8_noWhat, w_X8_within, e_throws0 hk t, hk, l_0, l_1, l_2, l_3, l_4, l_5, l_6, l_7, l_8, l_9, l_10, l_20, l_30, l_31, l_34, l_40, l_65, l_100, l_255, l_11, l_12, l_24, l_600, l_689, l_999, l_120, l_32, nI_add, pk_mul, n_sub, n_leT, n_leF, n_ltT, n_ltF, n_eqT, n_eqF, n_cl, n_vp, fa_andq, fa_orq, fa_xorq, n_shl, n_shr, n_t1, n_t0, n_div, n_m1, not_true_eq_false, Bool.false_eq_true, false_and, Bool.not_false, Bool.not_true, Bool.and_true, Bool.and_false, Bool.false_and, Bool.true_and, true_and, and_true, true_or, or_true, not_false_eq_true, Option.some.injEq, exists_eq_left', forall_eq, ↓reduceIte, Nat.add_zero, Nat.zero_add, and_self]
theorem e_noWhat_no {m n : Nat} {a : Int32} (hk : zk M m = 8) (t : zI M m 0 = nI 0) (h : bad a (n + 1)) (hn : n < 1000) (P : Int32 → Mm → Prop) : w_X8_noWhat M m a (nI n) P ↔ P (nI 1) (sI M m 0 (nI 2)) := by
  by_cases c : a < nI 0
  · simp (disch := omega) only [w_X8_noWhat, w_X8_within, hk, c, e_throws1 hk t, l_0, l_1, l_2, l_3, l_4, l_5, l_6, l_7, l_8, l_9, l_10, l_20, l_30, l_31, l_34, l_40, l_65, l_100, l_255, l_11, l_12, l_24, l_600, l_689, l_999, l_120, l_32, nI_add, pk_mul, n_sub, n_leT, n_leF, n_ltT, n_ltF, n_eqT, n_eqF, n_cl, n_vp, fa_andq, fa_orq, fa_xorq, n_shl, n_shr, n_t1, n_t0, n_div, n_m1, not_true_eq_false, Bool.false_eq_true, false_and, Bool.not_false, Bool.not_true, Bool.and_true, Bool.and_false, Bool.false_and, Bool.true_and, true_and, and_true, true_or, or_true, not_false_eq_true, Option.some.injEq, exists_eq_left', forall_eq, ↓reduceIte, Nat.add_zero, Nat.zero_add, and_self]
  · have d := bad_lt h (by omega) c
    simp (disch := omega) only [w_X8_noWhat, w_X8_within, l_0, l_1, l_2, l_3, l_4, l_5, l_6, l_7, l_8, l_9, l_10, l_20, l_30, l_31, l_34, l_40, l_65, l_100, l_255, l_11, l_12, l_24, l_600, l_689, l_999, l_120, l_32, c, d, e_throws1 hk t, hk, n_eqT, n_eqF, not_true_eq_false, Bool.false_eq_true, false_and, Bool.not_false, Bool.not_true, Bool.and_true, Bool.and_false, Bool.false_and, Bool.true_and, true_and, and_true, true_or, or_true, not_false_eq_true, Option.some.injEq, exists_eq_left', forall_eq, ↓reduceIte, Nat.add_zero, Nat.zero_add, and_self]
end AR
/-- what leaves the model's state as it is: its thrown, what casting writes, aside -/
def RF (m : Nat) : Nat → Prop := fun b => b = m ∨ b = m + 8 ∨ b = m + 9 ∨ b = m + 10
def MF (m : Nat) (M M' : Mm) : Prop := FrI (RF m) M M' ∧ zI M' m 5 = zI M m 5 ∧ zI M' m 13 = zI M m 13 ∧ zI M' m 24 = zI M m 24
theorem MF.rf {m : Nat} {M : Mm} : MF m M M := ⟨FrI.rf, rfl, rfl, rfl⟩
theorem MF.trans {m : Nat} {M M1 M2 : Mm} (h : MF m M M1) (k : MF m M1 M2) : MF m M M2 := ⟨h.1.trans k.1, k.2.1.trans h.2.1, k.2.2.1.trans h.2.2.1, k.2.2.2.trans h.2.2.2⟩
theorem MF.th {m : Nat} {M : Mm} {v : Int32} : MF m M (sI M m 0 v) := ⟨FrI.sI (Or.inl rfl), zI_sI2 _ _ _ _ (by omega), zI_sI2 _ _ _ _ (by omega), zI_sI2 _ _ _ _ (by omega)⟩
theorem FC.mf {m : Nat} {M M' : Mm} (h : FC m M M') : MF m M M' := ⟨h.1.mono fun b hb => by unfold RC at hb; unfold RF; omega, h.2 _ (by omega), h.2 _ (by omega), h.2 _ (by omega)⟩
theorem MF.o {x : Nat} {M M' : Mm} (h : MF (x + 149) M M') : FrI (RMo x) M M' := h.1.mono fun b hb => by unfold RF at hb; unfold RMo; omega
theorem MI.mf {m : Nat} {s : ST} {M M' : Mm} (h : MI m s M) (f : MF m M M') : MI m s M' := by
  obtain ⟨sg, pl, hn, hl, sv, sl, bl, bf, ep, nm⟩ := s
  obtain ⟨mq, mn, mh, ms, mb, mnm⟩ := h
  obtain ⟨g, g5, g13, g24⟩ := f
  refine ⟨mq.fr g (by unfold RF; omega), ⟨mn.1.fr g, by rw [g.i (by unfold RF; omega)]; exact mn.2⟩, ?_, ?_, ?_, ?_⟩
  · unfold MHi at mh ⊢; rw [g24, g.i (by unfold RF; omega)]; exact mh
  · unfold MSn at ms ⊢; rw [g.i (b := m + 13) (by unfold RF; omega), g.i (b := m + 12) (by unfold RF; omega)]; exact ms
  · unfold MBu at mb ⊢; rw [g5, g13, g.i (by unfold RF; omega)]; exact mb
  · unfold MNm at mnm ⊢; rw [g.j]; exact mnm
theorem MI.k8 {m : Nat} {s : ST} {M : Mm} (h : MI m s M) : zk M m = 8 := by
  obtain ⟨sg, pl, hn, hl, sv, sl, bl, bf, ep, nm⟩ := s
  exact h.1.1.1.1
/-- a call begins with nothing thrown -/
theorem thr0 {m : Nat} {s : ST} {M : Mm} {Q : Mm → Prop} (h : MI m s M) (K : ∀ M1, MI m s M1 → MF m M M1 → zI M1 m 0 = nI 0 → Q M1) : zk M m = 8 ∧ ∀ M1, M1 = sI M m 0 (0 : Int32) → Q M1 :=
  ⟨h.k8, fun M1 e => by subst e; exact K _ (h.mf MF.th) MF.th (zI_sI1 _ _ _ _)⟩
theorem MI.mr {m : Nat} {sg pl : Nat → Nat} {hn : Nat} {hl : Nat → Nat → Nat} {sv : Nat → Bool} {sl : Nat → Nat → Nat} {bl : Nat} {bf : Nat → Int32} {ep : Nat} {nm : Nat → List Nat} {M : Mm} (h : MI m (sg, pl, hn, hl, sv, sl, bl, bf, ep, nm) M) (hp : PB sg pl) : MR m sg pl M := ⟨h.1.1, h.1.2.1, h.2.1.2, h.1.2.2, hp⟩
/-- the caster and the draft are nobody's state -/
theorem CI.dr {x : Nat} {s : ST} {M M' : Mm} (h : CI x s M) (g : FK x (RDr x) M M') : CI x s M' := by
  obtain ⟨sg, pl, hn, hl, sv, sl, bl, bf, ep, nm⟩ := s
  obtain ⟨c10, sa, sp, hps, hx, hS, hS2, hP, hD, hH, hN, hB, hNm, hKP⟩ := h
  have at_ := hx.at
  have f := g.1
  refine ⟨c10, sa, sp, hps, hx.fr f, hS.fr f (by unfold RDr; omega), hS2.fr f, hP.fr f (by unfold RDr; omega), hD.fr f, hH.fr c10 f (by unfold RDr; omega) (by rw [f.i (by unfold RDr; omega)]), hN.frx f.x (by unfold RDr; omega) (by unfold RDr; omega), ?_, ?_, g.2 hKP⟩
  · unfold CBu at hB ⊢
    rw [f.i (b := x) (by unfold RDr; omega), f.i (b := x + 1) (by unfold RDr; omega)]; exact hB
  · unfold CNm at hNm ⊢
    rw [f.j]; exact hNm
theorem RDr.g {x : Nat} {M M' : Mm} (f : FK x (RDr x) M M') : FrG x (x + 149) M M' := f.1.g fun b hb => by unfold RDr at hb; omega
theorem RK.g {x : Nat} {M M' : Mm} (f : FK x (RK x) M M') : FK x (RDr x) M M' := f.mono fun b hb => by unfold RK at hb; unfold RDr; omega
theorem call_turn {x : Nat} {s : ST} (ok : OKs s) (a : Int32) : CALL1 x s clB1 (fun M P X => w_X7_turn M x a P X) (fun M P => w_X8_turn M (x + 149) a P) := by
  obtain ⟨sg, pl, hn, hl, sv, sl, bl, bf, ep, nm⟩ := s
  have ok2 := ok
  obtain ⟨hs, hp, h10, hhl, hsl, hbl, hby, hep, nm1, nm2, nm3, nm4⟩ := ok
  have b := hs.b
  rcases ix a (n := sg 1) (by omega) with h | ⟨j, hj, rfl⟩
  · refine CALL1.no 1 (by decide) ok2 (fun M P X c w K => ?_) (fun M P c K => ?_)
    · have c2 := c
      obtain ⟨c10, sa, sp, hps, hx, hS, hS2, hP, hD, hH, hN, hB, hNm, hKP⟩ := c
      simp (disch := omega) only [w_X7_turn, w_X7_requireHall, hx.s, hS.s1, hS.n, e_req_no h, l_0, l_1, l_2, l_3, l_4, l_5, l_6, l_7, l_8, l_9, l_10, l_20, l_30, l_31, l_34, l_40, l_65, l_100, l_255, l_11, l_12, l_24, l_600, l_689, l_999, l_120, l_32, nI_add, pk_mul, n_sub, n_leT, n_leF, n_ltT, n_ltF, n_eqT, n_eqF, n_cl, n_vp, fa_andq, fa_orq, fa_xorq, n_shl, n_shr, n_t1, n_t0, n_div, n_m1, not_true_eq_false, Bool.false_eq_true, false_and, Bool.not_false, Bool.not_true, Bool.and_true, Bool.and_false, Bool.false_and, Bool.true_and, true_and, and_true, true_or, or_true, not_false_eq_true, Option.some.injEq, exists_eq_left', forall_eq, ↓reduceIte, Nat.add_zero, Nat.zero_add, and_self]
      exact fun n1 hn1 => K _ c2.sZ (FrG.sZ hn1)
    · refine thr0 c fun M1 c1 f1 t1 => ?_
      have r := c1.mr hp.1
      simp (disch := omega) only [r.sh, r.v1, e_no_no r.sh.1.1 t1 h, l_0, l_1, l_2, l_3, l_4, l_5, l_6, l_7, l_8, l_9, l_10, l_20, l_30, l_31, l_34, l_40, l_65, l_100, l_255, l_11, l_12, l_24, l_600, l_689, l_999, l_120, l_32, nI_add, pk_mul, n_sub, n_leT, n_leF, n_ltT, n_ltF, n_eqT, n_eqF, n_cl, n_vp, fa_andq, fa_orq, fa_xorq, n_shl, n_shr, n_t1, n_t0, n_div, n_m1, not_true_eq_false, Bool.false_eq_true, false_and, Bool.not_false, Bool.not_true, Bool.and_true, Bool.and_false, Bool.false_and, Bool.true_and, true_and, and_true, true_or, or_true, not_false_eq_true, Option.some.injEq, exists_eq_left', forall_eq, ↓reduceIte, Nat.add_zero, Nat.zero_add, and_self]
      exact K _ _ (c1.mf MF.th) (f1.trans MF.th).o (zI_sI1 _ _ _ _)
  · refine CALL1.ok _ (nI (sg (6 + j))) ok2 (fun M P X c w K => ?_) (fun M P c K => ?_)
    · have c2 := c
      obtain ⟨c10, sa, sp, hps, hx, hS, hS2, hP, hD, hH, hN, hB, hNm, hKP⟩ := c
      simp (disch := omega) only [w_X7_turn, w_X7_requireHall, hx.s, hS.s1, hS.n, e_req_ok hj, hS.h, l_0, l_1, l_2, l_3, l_4, l_5, l_6, l_7, l_8, l_9, l_10, l_20, l_30, l_31, l_34, l_40, l_65, l_100, l_255, l_11, l_12, l_24, l_600, l_689, l_999, l_120, l_32, nI_add, pk_mul, n_sub, n_leT, n_leF, n_ltT, n_ltF, n_eqT, n_eqF, n_cl, n_vp, fa_andq, fa_orq, fa_xorq, n_shl, n_shr, n_t1, n_t0, n_div, n_m1, not_true_eq_false, Bool.false_eq_true, false_and, Bool.not_false, Bool.not_true, Bool.and_true, Bool.and_false, Bool.false_and, Bool.true_and, true_and, and_true, true_or, or_true, not_false_eq_true, Option.some.injEq, exists_eq_left', forall_eq, ↓reduceIte, Nat.add_zero, Nat.zero_add, and_self]
      exact K _ c2 FrG.rf
    · refine thr0 c fun M1 c1 f1 t1 => ?_
      have r := c1.mr hp.1
      simp (disch := omega) only [r.sh, r.v1, e_no_ok r.sh.1.1 t1 hj, l_0, l_1, l_2, l_3, l_4, l_5, l_6, l_7, l_8, l_9, l_10, l_20, l_30, l_31, l_34, l_40, l_65, l_100, l_255, l_11, l_12, l_24, l_600, l_689, l_999, l_120, l_32, nI_add, pk_mul, n_sub, n_leT, n_leF, n_ltT, n_ltF, n_eqT, n_eqF, n_cl, n_vp, fa_andq, fa_orq, fa_xorq, n_shl, n_shr, n_t1, n_t0, n_div, n_m1, not_true_eq_false, Bool.false_eq_true, false_and, Bool.not_false, Bool.not_true, Bool.and_true, Bool.and_false, Bool.false_and, Bool.true_and, true_and, and_true, true_or, or_true, not_false_eq_true, Option.some.injEq, exists_eq_left', forall_eq, ↓reduceIte, Nat.add_zero, Nat.zero_add, and_self]
      exact K _ c1 f1.o t1
