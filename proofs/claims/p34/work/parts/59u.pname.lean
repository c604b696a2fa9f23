/-! PARSE: a new name, in the class -/
theorem fst_m1 {p : Nat → Bool} {n : Nat} (hn : n < 1000) : (fst p n = nI 4294967295) = ¬ fi p n < n := by
  unfold fst
  by_cases c : fi p n < n
  · rw [if_pos c, n_eqF (by omega) (by omega) (by omega), eq_false (show ¬ ¬ fi p n < n from fun q => q c)]
  · rw [if_neg c, n_eqT rfl, eq_true c]
/-- names of one sort in the class: n of them, room for N -/
def NMS (a b N n : Nat) (nf : Nat → List Nat) (M : Mm) : Prop := zk M a = 2 ∧ zR M a 0 = some b ∧ zk M b = 11 ∧ zl M b = N ∧ N < 100 ∧ zI M a 1 = nI n ∧ n ≤ N ∧ a ≠ b ∧ ∀ k, k < n → zJ M b k = c5 (nf k) ∧ NameOK (nf k)
theorem NMS.fr {a b N n : Nat} {nf : Nat → List Nat} {R : Nat → Prop} {M M' : Mm} (h : NMS a b N n nf M) (f : FQ R M M') (ha : ¬ R a) (hb : ¬ R b) : NMS a b N n nf M' := by
  obtain ⟨h1, h2, h3, h4, h5, h6, h7, h8, h9⟩ := h
  exact ⟨by rw [f.k]; exact h1, by rw [f.r]; exact h2, by rw [f.k]; exact h3, by rw [f.l]; exact h4, h5, by rw [f.i ha]; exact h6, h7, h8, by rw [f.j hb]; exact h9⟩
/-- is w one of the n names? -/
def nin (nf : Nat → List Nat) (n : Nat) (w : List Nat) : Nat := fi (fun k => decide (nf k = w)) n
/-- what a new name is wrong by -/
def nmErr (L : Nat) (bf : Nat → Int32) (p n N : Nat) (nf : Nat → List Nat) : Option (Nat × Nat) :=
  if n = N then some (5, tS L bf p) else if tK L bf (tN L bf p) = 1 then (if nin nf n (tW L bf (tN L bf p)) < n then some (2, tS L bf (tN L bf p)) else none) else some (1, tS L bf (tN L bf p))
def addN (nf : Nat → List Nat) (n : Nat) (w : List Nat) : Nat → List Nat := fun k => if k = n then w else nf k
section PB2
variable {x y z sp L : Nat} {bf : Nat → Int32} {M : Mm}
theorem s_X2_find {a b N n : Nat} {nf : Nat → List Nat} (h : NMS a b N n nf M) {w : List Nat} (hw : NameOK w) (P : Int32 → Mm → Prop) : w_X2_numberOf M a (c5 w) P ↔ P (fst (fun k => decide (nf k = w)) n) M := by
  obtain ⟨h1, h2, h3, h4, h5, h6, h7, h8, h9⟩ := h
  rw [e_X2_numberOf h1 h6 h2 h3 h4 h7 (by omega)]
  rw [fst_congr (q := fun k => decide (nf k = w)) fun k hk => decide_eq_decide.mpr (by rw [(h9 k hk).1, c5_eq (h9 k hk).2 hw])]
theorem s_X2_add {a b N n : Nat} {nf : Nat → List Nat} (h : NMS a b N n nf M) (hn : n < N) {w : List Nat} (hw : NameOK w) (P : Int32 → Mm → Prop)
    (K : ∀ M', FQ (fun q => q = a ∨ q = b) M M' → (∀ j, j ≠ 1 → zI M' a j = zI M a j) → zI M' b = zI M b → NMS a b N (n + 1) (addN nf n w) M' → P (nI n) M') : w_X2_add M a (c5 w) P := by
  obtain ⟨h1, h2, h3, h4, h5, h6, h7, h8, h9⟩ := h
  have e1 := zI_sI1 (sJ M b n (c5 w)) a 1 (nI (n + 1))
  simp (disch := omega) only [w_X2_add, h1, h2, h3, h4, h6, zk_sJ, zI_sJ, zk_sI, l_1, nI_add, n_vp, n_cl, e1, n_sub, Nat.add_sub_cancel, not_true_eq_false, Bool.false_eq_true, false_and, Bool.not_false, Bool.not_true, Bool.and_true, Bool.and_false, Bool.false_and, Bool.true_and, true_and, and_true, true_or, or_true, not_false_eq_true, Option.some.injEq, exists_eq_left', forall_eq, ↓reduceIte, Nat.add_zero, Nat.zero_add, and_self]
  refine K _ ((fq_sJ (Or.inr rfl)).trans (fq_sI (Or.inl rfl))) (fun j hj => zI_sI2 _ _ _ _ hj) (zI_sIo _ _ _ _ (fun e => h8 e.symm)) ⟨h1, h2, h3, h4, h5, zI_sI1 _ _ _ _, by omega, h8, fun k hk => ?_⟩
  unfold addN
  show zJ (sJ M b n (c5 w)) b k = _ ∧ _
  by_cases e : k = n
  · subst e
    rw [if_pos rfl]
    exact ⟨zJ_sJ1 _ _ _ _, hw⟩
  · rw [if_neg e]
    refine ⟨?_, (h9 k (by omega)).2⟩
    rw [← (h9 k (by omega)).1]
    exact if_neg fun q => e q.2
theorem e_X2_isFull {a b N n : Nat} {nf : Nat → List Nat} (h : NMS a b N n nf M) (P : Int32 → Mm → Prop) : w_X2_isFull M a P ↔ P (bI (decide (n = N))) M := by
  obtain ⟨h1, h2, h3, h4, h5, h6, h7, h8, h9⟩ := h
  by_cases c : n = N
  · simp (disch := omega) only [w_X2_isFull, h1, h2, h3, h4, h6, decide_eq_true c, bI_t, n_ltF, l_0, l_1, n_eqT, not_true_eq_false, Bool.false_eq_true, false_and, Bool.not_false, Bool.not_true, Bool.and_true, Bool.and_false, Bool.false_and, Bool.true_and, true_and, and_true, true_or, or_true, not_false_eq_true, Option.some.injEq, exists_eq_left', forall_eq, ↓reduceIte, Nat.add_zero, Nat.zero_add, and_self]
  · simp (disch := omega) only [w_X2_isFull, h1, h2, h3, h4, h6, decide_eq_false c, bI_f, n_ltT, l_0, l_1, n_eqT, not_true_eq_false, Bool.false_eq_true, false_and, Bool.not_false, Bool.not_true, Bool.and_true, Bool.and_false, Bool.false_and, Bool.true_and, true_and, and_true, true_or, or_true, not_false_eq_true, Option.some.injEq, exists_eq_left', forall_eq, ↓reduceIte, Nat.add_zero, Nat.zero_add, and_self]
theorem s_X3_readNewName (h : PCx x y z sp L bf M) {p : Nat} (hp : p ≤ L) (t : RT y L bf p M) {a b N n : Nat} {nf : Nat → List Nat} (hN : NMS a b N n nf M) (ia : sp ≤ a ∧ a ≤ sp + 20) (ib : sp ≤ b ∧ b ≤ sp + 20) (P : Int32 → Mm → Prop)
    (K1 : nmErr L bf p n N nf = none → ∀ M', FQ (fun q => q = y ∨ q = a ∨ q = b) M M' → PCx x y z sp L bf M' → RT y L bf (tN L bf (tN L bf p)) M' → NMS a b N (n + 1) (addN nf n (tW L bf (tN L bf p))) M' → (∀ j, j ≠ 1 → zI M' a j = zI M a j) → zI M' b = zI M b → P (nI 1) M')
    (K0 : ∀ c q, nmErr L bf p n N nf = some (c, q) → ∀ M', FQ (RPa y z sp) M M' → CFl z c q M' → P (nI 0) M') : w_X3_readNewName M z a P := by
  have h0 := h
  have hN0 := hN
  obtain ⟨r, ⟨k1, k2, k3⟩, hs, d1, d2, d3, d4⟩ := h
  have hp1 := tN_le L bf hp
  have hp2 := tN_le L bf hp1
  have ka := hN.1
  by_cases c0 : n = N
  · have F := s_X3_fail (c := 5) h0 t (fun r3 M3 => (r3 = nI 0 ∨ r3 = nI 1) ∧ P r3 M3) fun M1 f1 g1 e1 => ⟨Or.inl rfl, K0 5 _ (by unfold nmErr; rw [if_pos c0]) M1 f1 e1⟩
    simp (disch := omega) only [w_X3_readNewName, ka, k1, e_X2_isFull hN, decide_eq_true c0, bI_t, l_0, l_1, l_5, n_eqF, not_true_eq_false, Bool.false_eq_true, false_and, Bool.not_false, Bool.not_true, Bool.and_true, Bool.and_false, Bool.false_and, Bool.true_and, true_and, and_true, true_or, or_true, not_false_eq_true, Option.some.injEq, exists_eq_left', forall_eq, ↓reduceIte, Nat.add_zero, Nat.zero_add, and_self]
    exact F
  · simp (disch := omega) only [w_X3_readNewName, ka, k1, k2, r.1, e_X2_isFull hN, decide_eq_false c0, bI_f, l_0, n_eqT, not_true_eq_false, Bool.false_eq_true, false_and, Bool.not_false, Bool.not_true, Bool.and_true, Bool.and_false, Bool.false_and, Bool.true_and, true_and, and_true, true_or, or_true, not_false_eq_true, Option.some.injEq, exists_eq_left', forall_eq, ↓reduceIte, Nat.add_zero, Nat.zero_add, and_self]
    refine s_P_advance h0 hp t _ fun M1 f1 h1 t1 => ?_
    have F1 : FQ (RPa y z sp) M M1 := fq_J f1 (Or.inl rfl)
    have hN1 : NMS a b N n nf M1 := hN0.fr (fq_J (R := fun q => q = y) f1 rfl) (by omega) (by omega)
    have h1' := h1
    obtain ⟨r1, ⟨k11, k12, k13⟩, hs1, -, -, -, -⟩ := h1
    have t13 := t1.2.1
    have kb := tK_b (L := L) (bf := bf) (p := tN L bf p)
    by_cases c1 : tK L bf (tN L bf p) = 1
    · have t13b : zI M1 y 3 = nI 1 := by rw [t13, c1]
      have j5 := t1.2.2.2.1 c1
      have ok := tK_1 (fun i hi => (r.2.2.2.2.2.2.2 i hi).2) c1
      have ka1 := hN1.1
      simp (disch := omega) only [k11, k12, r1.1, t13b, j5, ka1, s_X2_find hN1 ok, l_1, l_0, l_2, n_m1, n_eqT, fst_m1 (show n < 1000 by have := hN.2.2.2.2.1; have := hN.2.2.2.2.2.2.1; omega), not_true_eq_false, Bool.false_eq_true, false_and, Bool.not_false, Bool.not_true, Bool.and_true, Bool.and_false, Bool.false_and, Bool.true_and, true_and, and_true, true_or, or_true, not_false_eq_true, Option.some.injEq, exists_eq_left', forall_eq, ↓reduceIte, Nat.add_zero, Nat.zero_add, and_self]
      by_cases c2 : nin nf n (tW L bf (tN L bf p)) < n
      · have c2' : ¬ ¬ fi (fun k => decide (nf k = tW L bf (tN L bf p))) n < n := fun q => q c2
        rw [if_neg c2']
        refine s_X3_fail (c := 2) h1' t1 _ fun M2 f2 g2 e2 => ⟨Or.inl rfl, K0 2 _ (by unfold nmErr; rw [if_neg c0, if_pos c1, if_pos c2]) M2 (F1.trans f2) e2⟩
      · rw [if_pos (show ¬ fi (fun k => decide (nf k = tW L bf (tN L bf p))) n < n from c2)]
        refine s_X2_add hN1 (by have := hN.2.2.2.2.2.2.1; omega) ok _ fun M2 f2 g2 g3 n2 => ?_
        have F2 : FQ (RPa y z sp) M1 M2 := by
          refine ⟨f2.1, f2.2.1, f2.2.2.1, f2.2.2.2.1, fun q hq => f2.i ?_, fun q hq => f2.j ?_⟩
          · unfold RPa at hq; omega
          · unfold RPa at hq; omega
        have iy : zI M2 y = zI M1 y := f2.i (by omega)
        have h2 := h1'.fr F2 (by rw [iy])
        have t2 : RT y L bf (tN L bf p) M2 := by
          unfold RT at t1 ⊢
          rw [iy, f2.j (by omega)]
          exact t1
        have h2' := h2
        obtain ⟨r2, ⟨k21, k22, k23⟩, -⟩ := h2
        simp only [k21, k22, r2.1, not_true_eq_false, Bool.false_eq_true, false_and, Bool.not_false, Bool.not_true, Bool.and_true, Bool.and_false, Bool.false_and, Bool.true_and, true_and, and_true, true_or, or_true, not_false_eq_true, Option.some.injEq, exists_eq_left', forall_eq, ↓reduceIte, Nat.add_zero, Nat.zero_add, and_self]
        refine s_P_advance h2' hp1 t2 _ fun M3 f3 h3 t3 => ?_
        have F3 : FQ (fun q => q = y ∨ q = a ∨ q = b) M M3 := by
          refine (fq_J f1 (Or.inl rfl)).trans (FQ.trans (M1 := M2) ?_ (fq_J f3 (Or.inl rfl)))
          exact ⟨f2.1, f2.2.1, f2.2.2.1, f2.2.2.2.1, fun q hq => f2.i (by omega), fun q hq => f2.j (by omega)⟩
        refine K1 (by unfold nmErr; rw [if_neg c0, if_pos c1, if_neg c2]) M3 F3 h3 t3 (n2.fr (fq_J (R := fun q => q = y) f3 rfl) (by omega) (by omega)) (fun j hj => ?_) ?_
        · rw [f3.2.2.2.2.1 a (by omega), g2 j hj, f1.2.2.2.2.1 a (by omega)]
        · rw [f3.2.2.2.2.1 b (by omega), g3, f1.2.2.2.2.1 b (by omega)]
    · have F := s_X3_fail (c := 1) h1' t1 (fun r3 M3 => (r3 = nI 0 ∨ r3 = nI 1) ∧ P r3 M3) fun M2 f2 g2 e2 => ⟨Or.inl rfl, K0 1 _ (by unfold nmErr; rw [if_neg c0, if_neg c1]) M2 (F1.trans f2) e2⟩
      simp (disch := omega) only [k11, k12, r1.1, t13, l_1, l_0, n_eqF, not_true_eq_false, Bool.false_eq_true, false_and, Bool.not_false, Bool.not_true, Bool.and_true, Bool.and_false, Bool.false_and, Bool.true_and, true_and, and_true, true_or, or_true, not_false_eq_true, Option.some.injEq, exists_eq_left', forall_eq, ↓reduceIte, Nat.add_zero, Nat.zero_add, and_self]
      exact F
end PB2
