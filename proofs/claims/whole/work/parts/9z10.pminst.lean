/-! PARSE: an instrument of a player's line, in the model -/
def ow (sg : Nat → Nat) (n q k : Nat) : Bool := fo (fun i b => b || decide (oP sg n (3 + i) = q)) k false
theorem ow_s (sg : Nat → Nat) (n q k : Nat) : ow sg n q (k + 1) = (ow sg n q k || decide (oP sg n (3 + k) = q)) := rfl
theorem ow_iff (sg : Nat → Nat) (n q : Nat) : ∀ k, ow sg n q k = true ↔ ∃ i, i < k ∧ oP sg n (3 + i) = q
  | 0 => ⟨fun h => (by have h2 : false = true := h; cases h2), fun ⟨i, h, _⟩ => absurd h (Nat.not_lt_zero i)⟩
  | k + 1 => by
    rw [ow_s, Bool.or_eq_true, ow_iff sg n q k, decide_eq_true_eq]
    constructor
    · rintro (⟨i, a, b⟩ | a)
      · exact ⟨i, by omega, b⟩
      · exact ⟨k, by omega, a⟩
    · rintro ⟨i, a, b⟩
      by_cases e : i = k
      · subst e; exact Or.inr b
      · exact Or.inl ⟨i, by omega, b⟩
/-- the model within the line of player n -/
def MPI (m L : Nat) (bf : Nat → Int32) (n : Nat) (s : PS) (M : Mm) : Prop := match s with
  | (p, sg, nm, ct, dt) => PMx m L bf p M ∧ zI M m 13 = nI 4294967295 ∧ (∀ k, k < 120 → k ≠ 2 → zI M (m + 5) k = nI (sg k)) ∧ zI M (m + 5) 2 = nI n ∧ (∀ k, k < n + 1 → zI M (m + 6) k = nI (ct k)) ∧ zI M m 15 = bI dt ∧ MNA m 0 (sg 1) nm M ∧ MNA m 1 (n + 1) (fun k => nm (8 + k)) M ∧ MNA m 2 (sg 3) (fun k => nm (16 + k)) M ∧ MNA m 3 (sg 4) (fun k => nm (24 + k)) M
section PIM
variable {m L p n t : Nat} {bf : Nat → Int32} {sg ct : Nat → Nat} {nm : Nat → List Nat} {dt : Bool} {M : Mm}
theorem s_own (h : MPI m L bf n (p, sg, nm, ct, dt) M) (iw : Iw L n t (p, sg, nm, ct, dt)) {q : Nat} (hq : q < 4294967296) (P : Int32 → Mm → Prop) (K : Mm → Nat → Int32 → Int32 → Int32 → Prop) : (∃ f, l_X8_ownRead_38 P K f M m (nI (9 + 7 * n)) (nI q) (nI 0) (nI 0)) ↔ K M m (nI (9 + 7 * n)) (nI q) (bI (ow sg n q t)) := by
  obtain ⟨pm, z13, rd, r2, rc, zd, na0, na1, na2, na3⟩ := h
  obtain ⟨i1, i2, i3, i4, i5, i6, i7, i8, i9, i10, i11⟩ := iw
  have sh := pm.1
  unfold MS at sh
  have v2 : zI M (m + 5) (9 + 7 * n + 2) = nI t := by rw [rd _ (by omega) (by omega), ← i7]; rfl
  refine lpE (fun f (u : Int32 × Int32) => l_X8_ownRead_38 P K f M m (nI (9 + 7 * n)) (nI q) u.1 u.2) (fun k => (bI (ow sg n q k), nI k)) t (fun _ h => h.elim) (fun _ => ?_) (fun f k hk => ?_)
  · simp (disch := omega) only [l_X8_ownRead_38, sh, l_2, nI_add, n_vp, n_cl, v2, n_leT, not_true_eq_false, Bool.false_eq_true, false_and, Bool.not_false, Bool.not_true, Bool.and_true, Bool.and_false, Bool.false_and, Bool.true_and, true_and, and_true, true_or, or_true, not_false_eq_true, Option.some.injEq, exists_eq_left', forall_eq, ↓reduceIte, Nat.add_zero, Nat.zero_add, and_self]
  · have v3 : zI M (m + 5) (9 + 7 * n + 3 + k) = nI (oP sg n (3 + k)) := by
      rw [rd _ (by omega) (by omega)]
      unfold oP
      rw [Nat.add_assoc (9 + 7 * n)]
    have b := i9 k hk
    by_cases c : ow sg n q k = true
    · have c2 : ow sg n q (k + 1) = true := by rw [ow_s, c]; rfl
      simp (disch := omega) only [l_X8_ownRead_38, sh, c, c2, bI_t, l_0, l_1, l_2, l_3, nI_add, n_vp, n_cl, v2, n_leF, n_eqF, not_true_eq_false, Bool.false_eq_true, false_and, Bool.not_false, Bool.not_true, Bool.and_true, Bool.and_false, Bool.false_and, Bool.true_and, true_and, and_true, true_or, or_true, not_false_eq_true, Option.some.injEq, exists_eq_left', forall_eq, ↓reduceIte, Nat.add_zero, Nat.zero_add, and_self]
    · have c := b_no c
      by_cases e : q = oP sg n (3 + k)
      · have c2 : ow sg n q (k + 1) = true := by rw [ow_s, c, decide_eq_true e.symm]; rfl
        simp (disch := omega) only [l_X8_ownRead_38, sh, c, c2, bI_t, bI_f, l_0, l_1, l_2, l_3, nI_add, n_vp, n_cl, v2, v3, n_leF, n_eqF, n_eqT, not_true_eq_false, Bool.false_eq_true, false_and, Bool.not_false, Bool.not_true, Bool.and_true, Bool.and_false, Bool.false_and, Bool.true_and, true_and, and_true, true_or, or_true, not_false_eq_true, Option.some.injEq, exists_eq_left', forall_eq, ↓reduceIte, Nat.add_zero, Nat.zero_add, and_self]
      · have c2 : ow sg n q (k + 1) = false := by rw [ow_s, c, decide_eq_false (fun u => e u.symm)]; rfl
        simp (disch := omega) only [l_X8_ownRead_38, sh, c, c2, bI_t, bI_f, l_0, l_1, l_2, l_3, nI_add, n_vp, n_cl, v2, v3, n_leF, n_eqF, n_eqT, not_true_eq_false, Bool.false_eq_true, false_and, Bool.not_false, Bool.not_true, Bool.and_true, Bool.and_false, Bool.false_and, Bool.true_and, true_and, and_true, true_or, or_true, not_false_eq_true, Option.some.injEq, exists_eq_left', forall_eq, ↓reduceIte, Nat.add_zero, Nat.zero_add, and_self]
theorem s_X8_ownRead (h : MPI m L bf n (p, sg, nm, ct, dt) M) (iw : Iw L n t (p, sg, nm, ct, dt)) (P : Int32 → Mm → Prop)
    (K1 : ∀ s2, instL L bf n (p, sg, nm, ct, dt) = Sum.inr s2 → ∀ M', FQ (RPm m) M M' → MFx m M M' → MPI m L bf n s2 M' → P (nI 1) M')
    (K0 : ∀ c q, instL L bf n (p, sg, nm, ct, dt) = Sum.inl (c, q) → ∀ M', FQ (RPm m) M M' → MFx m M M' → MFl m c q M' → P (nI 0) M') : w_X8_ownRead M m (nI (9 + 7 * n)) P := by
  have h0 := h
  have iw0 := iw
  obtain ⟨pm, z13, rd, r2, rc, zd, na0, na1, na2, na3⟩ := h
  obtain ⟨i1, i2, i3, i4, i5, i6, i7, i8, i9, i10, i11⟩ := iw
  have sh := pm.1
  unfold MS at sh
  have t9 := pm.2.2.1.2.1
  have kb := tK_b (L := L) (bf := bf) (p := p)
  have r4 : zI M (m + 5) 4 = nI (sg 4) := rd 4 (by omega) (by omega)
  have v2 : zI M (m + 5) (9 + 7 * n + 2) = nI t := by rw [rd _ (by omega) (by omega), ← i7]; rfl
  by_cases c1 : tK L bf p = 1
  · have t9b : zI M m 9 = nI 1 := by rw [t9, c1]
    have okw := tK_1 (fun i hi => (pm.2.1.2.2.2.2.2.2 i hi).2) c1
    have j11 := pm.2.2.1.2.2.2.1 c1
    have l := nj_le (L := L) (bf := bf) (p := p) (sg := sg) (nm := nm)
    have No : ∀ k, k < 24 → (if nj L bf p sg nm < sg 4 then nm else updN nm (24 + nj L bf p sg nm) (tW L bf p)) k = nm k := fun k hk => instNo hk
    have Nn := instN (sg := sg) (nm := nm) (fun i hi => (pm.2.1.2.2.2.2.2.2 i hi).2) c1 i11
    have en := e_M_named pm na3 (show 3 < 4 by omega) (show sg 4 ≤ 8 by omega) okw
    obtain ⟨j, hj⟩ : ∃ j, nj L bf p sg nm = j := ⟨_, rfl⟩
    have hj2 : fi (fun k => decide (nm (24 + k) = tW L bf p)) (sg 4) = j := hj
    rw [hj] at l No Nn
    have ok_ : ow sg n j t = true ↔ (kinds sg n).testBit j = true := by rw [ow_iff, kinds_tb, i7]
    have eL : ¬ (j < sg 4 ∧ (kinds sg n).testBit j = true) → t ≠ 4 → (j < sg 4 ∨ sg 4 ≠ 8) → instL L bf n (p, sg, nm, ct, dt) = Sum.inr (tN L bf p, instS sg n j, (if j < sg 4 then nm else updN nm (24 + j) (tW L bf p)), ct, dt) := by
      intro a b c
      simp only [instL]
      rw [if_pos c1, hj, if_neg a, if_neg (by omega)]
    have fail5 : ¬ (j < sg 4 ∧ (kinds sg n).testBit j = true) → (t = 4 ∨ ¬ j < sg 4 ∧ sg 4 = 8) → w_X8_fails M m (nI 5) (fun r3 M3 => (r3 = nI 0 ∨ r3 = nI 1) ∧ P r3 M3) := fun a b =>
      s_X8_fails (c := 5) pm _ fun M1 f1 g1 e1 => ⟨Or.inl rfl, K0 5 _ (by simp only [instL]; rw [if_pos c1, hj, if_neg a, if_pos (by omega)]) M1 (fq_I f1 fun b hb => Or.inl hb) (fails_fx g1) e1⟩
    have tail : ¬ (j < sg 4 ∧ (kinds sg n).testBit j = true) → t ≠ 4 → (j < sg 4 ∨ sg 4 ≠ 8) → ∀ M3, FQ (fun q => q = m + 5 ∨ q = m + 7) M M3 → (∀ k, k < 120 → k ≠ 2 → zI M3 (m + 5) k = nI (instS sg n j k)) → zI M3 (m + 5) 2 = nI n → (∀ k, k < 24 → zJ M3 (m + 7) k = zJ M (m + 7) k) →
        (∀ k, k < (if j < sg 4 then sg 4 else sg 4 + 1) → zJ M3 (m + 7) (24 + k) = c8 ((if j < sg 4 then nm else updN nm (24 + j) (tW L bf p)) (24 + k))) → w_X8_advance M3 m (fun M5 => P (nI 1) M5) := by
      intro a b c M3 f3 q1 q2 q3 q4
      refine s_M_advance (pm.fr f3 (by omega) (by omega)) i1 _ fun M5 f5 g5 p5 => ?_
      have f5q : FQ (fun q => q = m) M3 M5 := fq_J f5 rfl
      have kf : ∀ i, i = 0 ∨ i = 5 ∨ i = 24 ∨ i = 13 ∨ i = 15 → zI M5 m i = zI M m i := fun i hi => by
        rw [g5 i (by omega) (by omega) (by omega) (by omega), f3.i (by omega)]
      refine K1 _ (eL a b c) M5 ((f3.mono fun b hb => by unfold RPm; omega).trans (f5q.mono fun b hb => by unfold RPm; omega)) (fun i hi => kf i (by omega)) ⟨p5, ?_, ?_, ?_, ?_, ?_, ?_, ?_, ?_, ?_⟩
      · rw [kf 13 (by omega)]; exact z13
      · rw [f5q.i (by omega)]; exact q1
      · rw [f5q.i (by omega)]; exact q2
      · rw [f5q.i (by omega), f3.i (by omega)]; exact rc
      · rw [kf 15 (by omega)]; exact zd
      · intro k hk
        rw [instS_o n j (by omega) (by omega) (by omega)] at hk
        rw [f5q.j (by omega), q3 _ (by omega), No k (by omega)]; exact na0 k hk
      · intro k hk
        dsimp only
        rw [f5q.j (by omega), q3 _ (by omega), No _ (by omega)]; exact na1 k hk
      · intro k hk
        rw [instS_o n j (by omega) (by omega) (by omega)] at hk
        dsimp only
        rw [f5q.j (by omega), q3 _ (by omega), No _ (by omega)]; exact na2 k hk
      · intro k hk
        rw [instS_4] at hk
        dsimp only
        rw [f5q.j (by omega)]
        exact ⟨q4 k hk, Nn k hk⟩
    have new1 : ∀ M1, (∀ k, k < 120 → k ≠ 2 → zI M1 (m + 5) k = nI (if k = 4 then (if j < sg 4 then sg 4 else sg 4 + 1) else sg k)) → t ≠ 4 → (∀ k, k < 120 → k ≠ 2 → zI (sI (sI M1 (m + 5) (9 + 7 * n + 3 + t) (nI j)) (m + 5) (9 + 7 * n + 2) (nI (t + 1))) (m + 5) k = nI (instS sg n j k)) := by
      intro M1 a b k hk k2
      by_cases e1 : k = 9 + 7 * n + 2
      · subst e1
        rw [zI_sI1, show instS sg n j (9 + 7 * n + 2) = oP sg n 2 + 1 from instS_c n j, i7]
      · rw [zI_sI2 _ _ _ _ e1]
        by_cases e2 : k = 9 + 7 * n + 3 + t
        · subst e2
          rw [zI_sI1]
          have w := instS_j (sg := sg) n j
          unfold oP at w i7
          rw [i7, ← Nat.add_assoc] at w
          rw [w]
        · rw [zI_sI2 _ _ _ _ e2, a k hk k2]
          by_cases e3 : k = 4
          · rw [if_pos e3, e3, instS_4]
          · rw [if_neg e3, instS_o n j e3 e1 (by omega)]
    have k8 := pm.2.1.1
    have q16 : zR M m 16 = some (m + 5) := by simp only [sh]
    have q18 : zR M m 18 = some (m + 7) := by simp only [sh]
    have k5 : zk M (m + 5) = 10 := by simp only [sh]
    have lz : zl M (m + 5) = 120 := by simp only [sh]
    have e2_ : (nI (9 + 7 * n) + (2 : Int32)).toNatClampNeg = 9 + 7 * n + 2 := by rw [l_2, nI_add, n_cl (by omega)]
    have vp2 : vp_in (nI (9 + 7 * n) + (2 : Int32)) (zl M (m + 5)) := by rw [lz, l_2, nI_add]; exact vpn (by omega) (by decide)
    have e4_ : zI M (m + 5) (4 : Int32).toNatClampNeg = nI (sg 4) := by rw [l_4, n_cl (by omega)]; exact r4
    have vp4 : vp_in (4 : Int32) (zl M (m + 5)) := by rw [lz]; exact vpn (n := 4) (by omega) (by decide)
    have t4y : t = 4 → zI M (m + 5) (nI (9 + 7 * n) + (2 : Int32)).toNatClampNeg = (4 : Int32) := fun c => by rw [e2_, v2, c]; rfl
    have t4n : t ≠ 4 → ¬ zI M (m + 5) (nI (9 + 7 * n) + (2 : Int32)).toNatClampNeg = (4 : Int32) := fun c u => by rw [e2_, v2, l_4, n_eqF c (by omega) (by omega)] at u; exact u
    have mm : nI 4294967295 = (-1 : Int32) := by decide
    refine ⟨k8, ifp (by rw [t9b]; rfl) ⟨k8, m + 7, q18, k8, m + 5, q16, k5, vp4, k8, ?_⟩⟩
    rw [e4_, j11]
    refine (en _).mpr ?_
    by_cases c2 : j < sg 4
    · have fe : fst (fun k => decide (nm (24 + k) = tW L bf p)) (sg 4) = nI j := by
        rw [fst_lt (show fi (fun k => decide (nm (24 + k) = tW L bf p)) (sg 4) < sg 4 by rw [hj2]; exact c2), hj2]
      have jm : ¬ nI j = (-1 : Int32) := fun u => by rw [← mm, n_eqF (by omega) (by omega) (by omega)] at u; exact u
      rw [fe]
      refine (s_own h0 iw0 (show j < 4294967296 by omega) P _).mpr ?_
      by_cases c3 : (kinds sg n).testBit j = true
      · have F := s_X8_fails (c := 2) pm (fun r3 M3 => (r3 = nI 0 ∨ r3 = nI 1) ∧ P r3 M3) fun M1 f1 g1 e1 => ⟨Or.inl rfl, K0 2 _ (by simp only [instL]; rw [if_pos c1, hj, if_pos ⟨c2, c3⟩]) M1 (fq_I f1 fun b hb => Or.inl hb) (fails_fx g1) e1⟩
        rw [ok_.mpr c3]
        exact ifn (by decide) ⟨k8, F⟩
      · have o1 : ow sg n j t = false := b_no fun u => c3 (ok_.mp u)
        have na : ¬ (j < sg 4 ∧ (kinds sg n).testBit j = true) := fun u => c3 u.2
        rw [o1]
        refine ifp (by decide) ⟨k8, m + 5, q16, k5, vp2, ?_⟩
        by_cases c5 : t = 4
        · exact ifp (t4y c5) ⟨k8, fail5 na (Or.inl c5)⟩
        · have e4 : (if j < sg 4 then sg 4 else sg 4 + 1) = sg 4 := if_pos c2
          have e6 : (if j < sg 4 then nm else updN nm (24 + j) (tW L bf p)) = nm := if_pos c2
          have w2 : ∀ v, zI (sI M (m + 5) (9 + 7 * n + 3 + t) v) (m + 5) (9 + 7 * n + 2) = nI t := fun v => by rw [zI_sI2 _ _ _ _ (by omega)]; exact v2
          have T := tail na c5 (Or.inl c2) (sI (sI M (m + 5) (9 + 7 * n + 3 + t) (nI j)) (m + 5) (9 + 7 * n + 2) (nI (t + 1))) ((fq_sI (Or.inl rfl)).trans (fq_sI (Or.inl rfl))) (new1 M (fun k hk k2 => by
            rw [rd k hk k2]
            by_cases e : k = 4
            · rw [if_pos e, if_pos c2, e]
            · rw [if_neg e]) c5) (by rw [zI_sI2 _ _ _ _ (by omega), zI_sI2 _ _ _ _ (by omega)]; exact r2) (fun k hk => rfl) (by
            rw [e4, e6]
            exact fun k hk => (na3 k hk).1)
          refine ifn (t4n c5) (ifn jm (ifn jm ?_))
          simp (maxSteps := 2000000) (disch := omega) only [sh, v2, w2, nI_add, l_0, l_1, l_2, l_3, n_eqT, n_eqF, n_vp, n_cl, zk_sI, zl_sI, zR_sI, not_true_eq_false, Bool.false_eq_true, false_and, Bool.not_false, Bool.not_true, Bool.and_true, Bool.and_false, Bool.false_and, Bool.true_and, true_and, and_true, true_or, or_true, not_false_eq_true, Option.some.injEq, exists_eq_left', forall_eq, ↓reduceIte, Nat.add_zero, Nat.zero_add, and_self]
          exact T
    · have fe : fst (fun k => decide (nm (24 + k) = tW L bf p)) (sg 4) = nI 4294967295 := by
        unfold fst
        rw [if_neg (show ¬ fi (fun k => decide (nm (24 + k) = tW L bf p)) (sg 4) < sg 4 by rw [hj2]; exact c2)]
      have o1 : ow sg n 4294967295 t = false := b_no fun u => by
        obtain ⟨i, a, b⟩ := (ow_iff sg n _ t).mp u
        have := i9 i a
        omega
      have na : ¬ (j < sg 4 ∧ (kinds sg n).testBit j = true) := fun u => c2 u.1
      rw [fe]
      refine (s_own h0 iw0 (show 4294967295 < 4294967296 by omega) P _).mpr ?_
      rw [o1]
      refine ifp (by decide) ⟨k8, m + 5, q16, k5, vp2, ?_⟩
      by_cases c5 : t = 4
      · exact ifp (t4y c5) ⟨k8, fail5 na (Or.inl c5)⟩
      · refine ifn (t4n c5) (ifp mm ⟨k8, m + 5, q16, k5, vp4, ?_⟩)
        by_cases c7 : sg 4 = 8
        · exact ifp (by rw [e4_, c7]; rfl) ⟨k8, fail5 na (Or.inr ⟨c2, c7⟩)⟩
        · have je : j = sg 4 := by omega
          have e4 : (if j < sg 4 then sg 4 else sg 4 + 1) = sg 4 + 1 := if_neg c2
          have e6 : (if j < sg 4 then nm else updN nm (24 + j) (tW L bf p)) = updN nm (24 + j) (tW L bf p) := if_neg c2
          have w2 : ∀ v, zI (sI (sJ M (m + 7) (24 + sg 4) (c8 (tW L bf p))) (m + 5) 4 v) (m + 5) (9 + 7 * n + 2) = nI t := fun v => by rw [zI_sI2 _ _ _ _ (by omega)]; exact v2
          have w3 : ∀ v u, zI (sI (sI (sJ M (m + 7) (24 + sg 4) (c8 (tW L bf p))) (m + 5) 4 v) (m + 5) (9 + 7 * n + 3 + t) u) (m + 5) (9 + 7 * n + 2) = nI t := fun v u => by rw [zI_sI2 _ _ _ _ (by omega)]; exact w2 v
          have f1 : FQ (fun q => q = m + 5 ∨ q = m + 7) M (sI (sJ M (m + 7) (24 + sg 4) (c8 (tW L bf p))) (m + 5) 4 (nI (sg 4 + 1))) := (fq_sJ (Or.inr rfl)).trans (fq_sI (Or.inl rfl))
          have T := tail na c5 (Or.inr c7) (sI (sI (sI (sJ M (m + 7) (24 + sg 4) (c8 (tW L bf p))) (m + 5) 4 (nI (sg 4 + 1))) (m + 5) (9 + 7 * n + 3 + t) (nI j)) (m + 5) (9 + 7 * n + 2) (nI (t + 1))) ((f1.trans (fq_sI (Or.inl rfl))).trans (fq_sI (Or.inl rfl))) (new1 _ (fun k hk k2 => by
            by_cases e : k = 4
            · rw [if_pos e, if_neg c2, e]; exact zI_sI1 _ _ _ _
            · rw [if_neg e, zI_sI2 _ _ _ _ e]; exact rd k hk k2) c5) (by rw [zI_sI2 _ _ _ _ (by omega), zI_sI2 _ _ _ _ (by omega), zI_sI2 _ _ _ _ (by omega)]; exact r2) (fun k hk => if_neg fun u => absurd u.2 (by omega)) (by
            rw [e4, e6]
            intro k hk
            unfold updN
            by_cases e : k = sg 4
            · rw [if_pos (by omega), e]; exact zJ_sJ1 _ _ _ _
            · rw [if_neg (by omega), ← (na3 k (by omega)).1]
              exact if_neg fun u => absurd u.2 (by omega))
          rw [je] at T
          refine ifn (fun u => by rw [e4_, l_8, n_eqF c7 (by omega) (by omega)] at u; exact u) (ifp mm ?_)
          simp (maxSteps := 2000000) (disch := omega) only [sh, r4, j11, v2, w2, w3, nI_add, l_0, l_1, l_2, l_3, l_4, l_24, n_eqT, n_eqF, n_vp, n_cl, zk_sI, zl_sI, zR_sI, zk_sJ, zl_sJ, zR_sJ, zI_sJ, not_true_eq_false, Bool.false_eq_true, false_and, Bool.not_false, Bool.not_true, Bool.and_true, Bool.and_false, Bool.false_and, Bool.true_and, true_and, and_true, true_or, or_true, not_false_eq_true, Option.some.injEq, exists_eq_left', forall_eq, ↓reduceIte, Nat.add_zero, Nat.zero_add, and_self]
          exact T
  · have F := s_X8_fails (c := 1) pm (fun r3 M3 => (r3 = nI 0 ∨ r3 = nI 1) ∧ P r3 M3) fun M1 f1 g1 e1 => ⟨Or.inl rfl, K0 1 _ (by simp only [instL]; rw [if_neg c1]) M1 (fq_I f1 fun b hb => Or.inl hb) (fails_fx g1) e1⟩
    simp (maxSteps := 2000000) (disch := omega) only [w_X8_ownRead, sh, t9, l_0, l_1, n_eqF, not_true_eq_false, Bool.false_eq_true, false_and, Bool.not_false, Bool.not_true, Bool.and_true, Bool.and_false, Bool.false_and, Bool.true_and, true_and, and_true, true_or, or_true, not_false_eq_true, Option.some.injEq, exists_eq_left', forall_eq, ↓reduceIte, Nat.add_zero, Nat.zero_add, and_self]
    exact F
end PIM
