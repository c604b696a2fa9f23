/-! PARSE: a new name, in the model -/
/-- names of sort c that the model read -/
def MNA (m c n : Nat) (nf : Nat → List Nat) (M : Mm) : Prop := ∀ k, k < n → zJ M (m + 7) (8 * c + k) = c8 (nf k) ∧ NameOK (nf k)
section PM2
variable {m L p : Nat} {bf : Nat → Int32} {M : Mm}
theorem e_M_named (h : PMx m L bf p M) {c n : Nat} {nf : Nat → List Nat} (hN : MNA m c n nf M) (hc : c < 4) (hn : n ≤ 8) {w : List Nat} (hw : NameOK w) (P : Int32 → Mm → Prop) : w_X8_named M (m + 7) (nI c) (nI n) (c8 w) P ↔ P (fst (fun k => decide (nf k = w)) n) M := by
  have s1 := h.1
  unfold MS at s1
  rw [e_X8_named (b := m + 7) (N := 32) (by simp only [s1]) (by simp only [s1]) (by omega) (by omega)]
  rw [fst_congr (q := fun k => decide (nf k = w)) fun k hk => decide_eq_decide.mpr (by rw [(hN k hk).1, c8_eq (hN k hk).2 hw])]
theorem s_X8_nameRead (h : PMx m L bf p M) (hp : p ≤ L) {c n : Nat} {nf : Nat → List Nat} (hN : MNA m c n nf M) (hc : c < 4) (hn : n < 8) (P : Int32 → Mm → Prop)
    (K1 : tK L bf p = 1 → ¬ nin nf n (tW L bf p) < n → ∀ M', FQ (fun b => b = m ∨ b = m + 7) M M' → AF m M M' → PMx m L bf (tN L bf p) M' → (∀ j, zJ M' (m + 7) j = if j = 8 * c + n then c8 (tW L bf p) else zJ M (m + 7) j) → NameOK (tW L bf p) → P (nI 1) M')
    (K0 : ∀ e, (tK L bf p ≠ 1 ∧ e = 1) ∨ (tK L bf p = 1 ∧ nin nf n (tW L bf p) < n ∧ e = 2) → ∀ M', FrI (fun b => b = m) M M' → (∀ j, j ≠ 12 → j ≠ 13 → zI M' m j = zI M m j) → MFl m e (tS L bf p) M' → P (nI 0) M') : w_X8_nameRead M m (nI c) (nI n) P := by
  have h0 := h
  obtain ⟨a, b, t, d⟩ := h
  have k8 := b.1
  have kb := tK_b (L := L) (bf := bf) (p := p)
  have t9 := t.2.1
  have s1 := a
  unfold MS at s1
  by_cases c1 : tK L bf p = 1
  · have t9b : zI M m 9 = nI 1 := by rw [t9, c1]
    have ok := tK_1 (fun i hi => (b.2.2.2.2.2.2 i hi).2) c1
    have j11 := t.2.2.2.1 c1
    simp (disch := omega) only [w_X8_nameRead, k8, s1, t9b, j11, l_0, l_1, l_2, l_8, n_m1, n_eqT, n_eqF, e_M_named h0 hN hc (Nat.le_of_lt hn) ok, fst_m1 (show n < 1000 by omega), pk_mul, nI_add, n_vp, n_cl, not_true_eq_false, Bool.false_eq_true, false_and, Bool.not_false, Bool.not_true, Bool.and_true, Bool.and_false, Bool.false_and, Bool.true_and, true_and, and_true, true_or, or_true, not_false_eq_true, Option.some.injEq, exists_eq_left', forall_eq, ↓reduceIte, Nat.add_zero, Nat.zero_add, and_self]
    by_cases c2 : nin nf n (tW L bf p) < n
    · have c2' : ¬ ¬ fi (fun k => decide (nf k = tW L bf p)) n < n := fun q => q c2
      rw [if_neg c2']
      exact s_X8_starts0 (c := 2) h0 _ fun M1 f1 g1 e1 => ⟨Or.inl rfl, K0 2 (Or.inr ⟨c1, c2, rfl⟩) M1 f1 g1 e1⟩
    · rw [if_pos (show ¬ fi (fun k => decide (nf k = tW L bf p)) n < n from c2)]
      have f2 : FQ (fun b => b = m + 7) M (sJ M (m + 7) (8 * c + n) (c8 (tW L bf p))) := fq_sJ rfl
      refine ⟨k8, s_X8_starts1 (c := 2) (h0.fr f2 (by omega) (by omega)) hp _ fun M1 f1 g1 p1 => ⟨Or.inr rfl, K1 c1 c2 M1 ((fq_sJ (Or.inr rfl)).trans (fq_J f1 (Or.inl rfl))) (fun j a b c d => g1 j a b c d) p1 (fun j => ?_) ok⟩⟩
      rw [f1.2.2.2.2.2 (m + 7) (by omega)]
      by_cases e : j = 8 * c + n
      · subst e
        rw [if_pos rfl]
        exact zJ_sJ1 _ _ _ _
      · rw [if_neg e]
        exact if_neg fun q => e q.2
  · have F := s_X8_fails (c := 1) h0 (fun r3 M3 => (r3 = nI 0 ∨ r3 = nI 1) ∧ P r3 M3) fun M1 f1 g1 e1 => ⟨Or.inl rfl, K0 1 (Or.inl ⟨c1, rfl⟩) M1 f1 g1 e1⟩
    simp (disch := omega) only [w_X8_nameRead, k8, t9, l_0, l_1, l_2, n_eqF, not_true_eq_false, Bool.false_eq_true, false_and, Bool.not_false, Bool.not_true, Bool.and_true, Bool.and_false, Bool.false_and, Bool.true_and, true_and, and_true, true_or, or_true, not_false_eq_true, Option.some.injEq, exists_eq_left', forall_eq, ↓reduceIte, Nat.add_zero, Nat.zero_add, and_self]
    exact F
end PM2
/-! the abstract state of parsing -/
/-- read so far: token position, the model's read[], names, contracts, is double told -/
abbrev PS : Type := Nat × (Nat → Nat) × (Nat → List Nat) × (Nat → Nat) × Bool
/-- bounds of what is read so far -/
def PSok (s : PS) (L : Nat) : Prop := match s with
  | (p, sg, nm, ct, dt) => p ≤ L ∧ SB sg ∧ (∀ k, k < sg 2 → ct k ≤ 40) ∧ (∀ k, k < sg 1 → NameOK (nm k)) ∧ (∀ k, k < sg 2 → NameOK (nm (8 + k))) ∧ (∀ k, k < sg 3 → NameOK (nm (16 + k))) ∧ (∀ k, k < sg 4 → NameOK (nm (24 + k))) ∧
    (∀ k, sg 2 ≤ k → k < 8 → oP sg k 1 = 0 ∧ oP sg k 2 = 0) ∧ ∀ w, sg 3 ≤ w → w < 5 → oW sg w 4 = 0
/-- the class has read s -/
def CPS (x y z sp L : Nat) (bf : Nat → Int32) (s : PS) (M : Mm) : Prop := match s with
  | (p, sg, nm, ct, dt) => PCx x y z sp L bf M ∧ RT y L bf p M ∧ zI M z 2 = nI 0 ∧ zI M z 3 = nI 4294967295 ∧ CSea sp sg M ∧ CNm sp sg nm M ∧ (∀ k, k < sg 2 → zI M (sp + 6) k = nI (ct k)) ∧ zI M sp 2 = bI dt ∧
    (∀ k, sg 2 ≤ k → k < 8 → zI M (sp + 9) k = nI 0 ∧ zI M (sp + 10) k = nI 0) ∧ ∀ w, sg 3 ≤ w → w < 5 → zI M (sp + 19) w = nI 0
/-- the model has read s -/
def MPS (m L : Nat) (bf : Nat → Int32) (s : PS) (M : Mm) : Prop := match s with
  | (p, sg, nm, ct, dt) => PMx m L bf p M ∧ zI M m 13 = nI 4294967295 ∧ (∀ k, k < 120 → zI M (m + 5) k = nI (sg k)) ∧ (∀ k, k < sg 2 → zI M (m + 6) k = nI (ct k)) ∧ zI M m 15 = bI dt ∧ MNA m 0 (sg 1) nm M ∧ MNA m 1 (sg 2) (fun k => nm (8 + k)) M ∧ MNA m 2 (sg 3) (fun k => nm (16 + k)) M ∧ MNA m 3 (sg 4) (fun k => nm (24 + k)) M
