/-! find on both sides -/
def wJ (M : Mm) (j : Nat → Nat → Int64) : Mm := (M.1, M.2.1, M.2.2.1, M.2.2.2.1, j, M.2.2.2.2.2)
theorem FrJ.toI {m : Nat} {R : Nat → Prop} {M M' : Mm} (h : FrJ m R M M') : FrI R M (wJ M' (zJ M)) := ⟨h.1, h.2.1, h.2.2.1, rfl, h.2.2.2.1, h.2.2.2.2.1⟩
theorem MI.ofJ {m : Nat} {s : ST} {M M' : Mm} (h : MI m s (wJ M' (zJ M))) (e : ∀ b, b ≠ m → zJ M' b = zJ M b) : MI m s M' := by
  obtain ⟨sg, pl, hn, hl, sv, sl, bl, bf, ep, nm⟩ := s
  obtain ⟨mq, mn, mh, ms, mb, mnm⟩ := h
  refine ⟨mq, mn, mh, ms, mb, ?_⟩
  unfold MNm at mnm ⊢
  rw [e (m + 3) (by omega)]
  exact mnm
def sgc (sg : Nat → Nat) (c : Nat) : Nat := sg (1 + c)
/-- the Season's names of category c -/
theorem CSea.names {sa : Nat} {sg : Nat → Nat} {nm : Nat → List Nat} {M : Mm} (h : CSea sa sg M) (hs : SB sg) (hN : CNm sa sg nm M) {c : Nat} (hc : c < 4) (r : Int64) (P : Int32 → Mm → Prop) : ∀ q : Int64 → Bool, (∀ j, j < sg (1 + c) → q (c5 (nm (8 * c + j))) = decide (c5 (nm (8 * c + j)) = r)) → P (fst (fun j => q (c5 (nm (8 * c + j)))) (sg (1 + c))) M →
    (c = 0 → w_X2_numberOf M (sa + 1) r P) ∧ (c = 1 → w_X2_numberOf M (sa + 4) r P) ∧ (c = 2 → w_X2_numberOf M (sa + 13) r P) ∧ (c = 3 → w_X2_numberOf M (sa + 11) r P) := by
  intro q hq p
  have s := h.1
  have n := h.n
  have b := hs.1
  obtain ⟨-, ⟨a1, a2, a3, a4, a5, a6, a7, a8, b1, b2, b3, b4⟩, -, l1, -, l2, -, -, -, -, -, l3, l4, -⟩ := s
  obtain ⟨n0, n1, n2, n3⟩ := hN
  refine ⟨fun e => ?_, fun e => ?_, fun e => ?_, fun e => ?_⟩
  · subst e
    rw [e_X2_numberOf a1 n.2.2.1 a2 b1 l1 (by omega) (by omega), fst_congr (q := fun j => q (c5 (nm (8 * 0 + j)))) fun k hk => by rw [hq k hk, n0 k hk, Nat.mul_zero, Nat.zero_add]]
    exact p
  · subst e
    rw [e_X2_numberOf a3 n.2.2.2.1 a4 b2 l2 (by omega) (by omega), fst_congr (q := fun j => q (c5 (nm (8 * 1 + j)))) fun k hk => by rw [hq k hk, n1 k hk]]
    exact p
  · subst e
    rw [e_X2_numberOf a7 n.2.2.2.2.1 a8 b4 l4 (by omega) (by omega), fst_congr (q := fun j => q (c5 (nm (8 * 2 + j)))) fun k hk => by rw [hq k hk, n2 k hk]]
    exact p
  · subst e
    rw [e_X2_numberOf a5 n.2.2.2.2.2 a6 b3 l3 (by omega) (by omega), fst_congr (q := fun j => q (c5 (nm (8 * 3 + j)))) fun k hk => by rw [hq k hk, n3 k hk]]
    exact p
theorem nameOK4 {sg : Nat → Nat} {nm : Nat → List Nat} (nm1 : ∀ k, k < sg 1 → NameOK (nm k)) (nm2 : ∀ k, k < sg 2 → NameOK (nm (8 + k))) (nm3 : ∀ k, k < sg 3 → NameOK (nm (16 + k))) (nm4 : ∀ k, k < sg 4 → NameOK (nm (24 + k))) {c : Nat} (hc : c < 4) : ∀ j, j < sg (1 + c) → NameOK (nm (8 * c + j)) := by
  intro j hj
  rcases (show c = 0 ∨ c = 1 ∨ c = 2 ∨ c = 3 by omega) with rfl | rfl | rfl | rfl
  · rw [Nat.mul_zero, Nat.zero_add]; exact nm1 j hj
  · exact nm2 j hj
  · exact nm3 j hj
  · exact nm4 j hj
theorem mnm4 {m : Nat} {sg : Nat → Nat} {nm : Nat → List Nat} {M : Mm} (h : MNm m sg nm M) {c : Nat} (hc : c < 4) : ∀ j, j < sg (1 + c) → zJ M (m + 3) (8 * c + j) = c8 (nm (8 * c + j)) := by
  obtain ⟨n0, n1, n2, n3⟩ := h
  intro j hj
  rcases (show c = 0 ∨ c = 1 ∨ c = 2 ∨ c = 3 by omega) with rfl | rfl | rfl | rfl
  · rw [Nat.mul_zero, Nat.zero_add]; exact n0 j hj
  · exact n1 j hj
  · exact n2 j hj
  · exact n3 j hj
theorem fst_none {p : Nat → Bool} {n : Nat} (h : ∀ k, k < n → p k = false) : fst p n = nI 4294967295 := by
  unfold fst
  have l := fi_le p n
  by_cases c : fi p n < n
  · have y := fi_yes p n c
    rw [h _ c] at y
    cases y
  · rw [if_neg c]
/-- the class's find, when nothing is thrown -/
theorem s_X7_find {x : Nat} {sg pl : Nat → Nat} {hn : Nat} {hl : Nat → Nat → Nat} {sv : Nat → Bool} {sl : Nat → Nat → Nat} {bl : Nat} {bf : Nat → Int32} {ep : Nat} {nm : Nat → List Nat} {M : Mm} (ok : OKs (sg, pl, hn, hl, sv, sl, bl, bf, ep, nm)) (h : CI x (sg, pl, hn, hl, sv, sl, bl, bf, ep, nm) M) {c : Nat} (hc : c < 4) (P : Int32 → Mm → Prop) (X : String → Mm → Prop)
    (K : ∀ M' v, CI x (sg, pl, hn, hl, sv, sl, 0, bf, ep, nm) M' → FrI (fun b => b = x) M M' → (∀ k, WW bl bf k → v = fst (fun j => decide (nm (8 * c + j) = wd bf 0 k)) (sg (1 + c))) → ((∀ k, ¬ WW bl bf k) → v = nI 4294967295) → P v M') : w_X7_find M x (nI c) P X := by
  have h0 := h
  obtain ⟨c10, sa, sp, hps, hx, hS, hS2, hP, hD, hH, hN, hB, hNm, hKP⟩ := h0
  have ok2 := ok
  obtain ⟨hs, hp, h10, hhl, hsl, hbl, hby, hep, nm1, nm2, nm3, nm4⟩ := ok
  have b0 : BS x 7 (x + 1) bl bf M := ⟨hB.1, hB.2.2⟩
  have nk := nameOK4 nm1 nm2 nm3 nm4 hc
  have hb2 : bl ≤ 600 := by assumption
  have hs2 : SB sg := by assumption
  have hby2 : ∀ i, i < bl → (bf i).toInt8.toInt32 = bf i := by assumption
  have f1 : FrI (fun b => b = x) M (sI M x 7 (nI 0)) := FrI.sI rfl
  have c1 : CI x (sg, pl, hn, hl, sv, sl, 0, bf, ep, nm) (sI M x 7 (nI 0)) := h.bu (f1.mono fun b hb => Or.inl hb) (fun j hj => zI_sI2 _ _ _ _ hj) ⟨zI_sI1 _ _ _ _, fun i hi => absurd hi (Nat.not_lt_zero i)⟩
  have S1 : CSea sa sg (sI M x 7 (nI 0)) := hS.fr f1 (by have := hx.at; omega)
  have N1 : CNm sa sg nm (sI M x 7 (nI 0)) := hNm
  have G : ∀ r, ((∃ k, WW bl bf k ∧ r = c5 (wd bf 0 k)) ∨ ((∀ k, ¬ WW bl bf k) ∧ r = 0)) → (c = 0 → w_X2_numberOf (sI M x 7 (nI 0)) (sa + 1) r P) ∧ (c = 1 → w_X2_numberOf (sI M x 7 (nI 0)) (sa + 4) r P) ∧ (c = 2 → w_X2_numberOf (sI M x 7 (nI 0)) (sa + 13) r P) ∧ (c = 3 → w_X2_numberOf (sI M x 7 (nI 0)) (sa + 11) r P) := by
    intro r hr
    refine S1.names hs2 N1 hc r P (fun y => decide (y = r)) (fun j hj => rfl) ?_
    rcases hr with ⟨k, w, rfl⟩ | ⟨w, rfl⟩
    · refine K _ _ c1 f1 (fun k2 w2 => ?_) (fun n => absurd w (n k))
      have e : k2 = k := by
        rcases Nat.lt_trichotomy k k2 with d | d | d
        · exact (lt32 (w2.2.2.2.1 k d) (w.2.2.2.2 k (Nat.le_refl k) (by have := w2.2.2.1; omega))).elim
        · exact d.symm
        · exact (lt32 (w.2.2.2.1 k2 d) (w2.2.2.2.2 k2 (Nat.le_refl k2) (by have := w.2.2.1; omega))).elim
      subst e
      exact fst_congr fun j hj => decide_eq_decide.mpr (by rw [c5_eq (nk j hj) w.ok])
    · refine K _ _ c1 f1 (fun k2 w2 => absurd w2 (w k2)) (fun _ => ?_)
      exact fst_none fun j hj => decide_eq_false (by rw [c5_0 (nk j hj)]; exact fun z => z)

  have q := hx.s
  have z := S1.s1
  rcases (show c = 0 ∨ c = 1 ∨ c = 2 ∨ c = 3 by omega) with e | e | e | e
  · subst e
    simp (disch := omega) only [w_X7_find, w_X7_requireArgument, q, l_0, l_1, l_2, l_3, l_4, l_5, l_6, l_7, l_8, l_9, l_10, l_20, l_30, l_31, l_34, l_40, l_65, l_100, l_255, l_11, l_12, l_24, l_600, l_689, l_999, l_120, l_32, nI_add, pk_mul, n_sub, n_leT, n_leF, n_ltT, n_ltF, n_eqT, n_eqF, n_cl, n_vp, fa_andq, fa_orq, fa_xorq, n_shl, n_shr, n_t1, n_t0, n_div, n_m1, not_true_eq_false, Bool.false_eq_true, false_and, Bool.not_false, Bool.not_true, Bool.and_true, Bool.and_false, Bool.false_and, Bool.true_and, true_and, and_true, true_or, or_true, not_false_eq_true, Option.some.injEq, exists_eq_left', forall_eq, ↓reduceIte, Nat.add_zero, Nat.zero_add, and_self]
    refine s_X7_nameInBuffer q.1.1 q.1.2.1 q.2.1 q.2.2.1 b0 hb2 hby2 _ fun r hr => ?_
    have g := (G r hr).1 rfl
    have z1 := z.1; have z2 := z.2.1
    simp only [zk_sI, zR_sI] at z1 z2
    simp (disch := omega) only [q, z1, z2, zk_sI, zR_sI, l_0, l_1, l_2, l_3, l_4, l_5, l_6, l_7, l_8, l_9, l_10, l_20, l_30, l_31, l_34, l_40, l_65, l_100, l_255, l_11, l_12, l_24, l_600, l_689, l_999, l_120, l_32, nI_add, pk_mul, n_sub, n_leT, n_leF, n_ltT, n_ltF, n_eqT, n_eqF, n_cl, n_vp, fa_andq, fa_orq, fa_xorq, n_shl, n_shr, n_t1, n_t0, n_div, n_m1, not_true_eq_false, Bool.false_eq_true, false_and, Bool.not_false, Bool.not_true, Bool.and_true, Bool.and_false, Bool.false_and, Bool.true_and, true_and, and_true, true_or, or_true, not_false_eq_true, Option.some.injEq, exists_eq_left', forall_eq, ↓reduceIte, Nat.add_zero, Nat.zero_add, and_self]
    exact g
  · subst e
    simp (disch := omega) only [w_X7_find, w_X7_requireArgument, q, l_0, l_1, l_2, l_3, l_4, l_5, l_6, l_7, l_8, l_9, l_10, l_20, l_30, l_31, l_34, l_40, l_65, l_100, l_255, l_11, l_12, l_24, l_600, l_689, l_999, l_120, l_32, nI_add, pk_mul, n_sub, n_leT, n_leF, n_ltT, n_ltF, n_eqT, n_eqF, n_cl, n_vp, fa_andq, fa_orq, fa_xorq, n_shl, n_shr, n_t1, n_t0, n_div, n_m1, not_true_eq_false, Bool.false_eq_true, false_and, Bool.not_false, Bool.not_true, Bool.and_true, Bool.and_false, Bool.false_and, Bool.true_and, true_and, and_true, true_or, or_true, not_false_eq_true, Option.some.injEq, exists_eq_left', forall_eq, ↓reduceIte, Nat.add_zero, Nat.zero_add, and_self]
    refine s_X7_nameInBuffer q.1.1 q.1.2.1 q.2.1 q.2.2.1 b0 hb2 hby2 _ fun r hr => ?_
    have g := (G r hr).2.1 rfl
    have z1 := z.1; have z2 := z.2.1
    simp only [zk_sI, zR_sI] at z1 z2
    simp (disch := omega) only [q, z1, z2, zk_sI, zR_sI, l_0, l_1, l_2, l_3, l_4, l_5, l_6, l_7, l_8, l_9, l_10, l_20, l_30, l_31, l_34, l_40, l_65, l_100, l_255, l_11, l_12, l_24, l_600, l_689, l_999, l_120, l_32, nI_add, pk_mul, n_sub, n_leT, n_leF, n_ltT, n_ltF, n_eqT, n_eqF, n_cl, n_vp, fa_andq, fa_orq, fa_xorq, n_shl, n_shr, n_t1, n_t0, n_div, n_m1, not_true_eq_false, Bool.false_eq_true, false_and, Bool.not_false, Bool.not_true, Bool.and_true, Bool.and_false, Bool.false_and, Bool.true_and, true_and, and_true, true_or, or_true, not_false_eq_true, Option.some.injEq, exists_eq_left', forall_eq, ↓reduceIte, Nat.add_zero, Nat.zero_add, and_self]
    exact g
  · subst e
    simp (disch := omega) only [w_X7_find, w_X7_requireArgument, q, l_0, l_1, l_2, l_3, l_4, l_5, l_6, l_7, l_8, l_9, l_10, l_20, l_30, l_31, l_34, l_40, l_65, l_100, l_255, l_11, l_12, l_24, l_600, l_689, l_999, l_120, l_32, nI_add, pk_mul, n_sub, n_leT, n_leF, n_ltT, n_ltF, n_eqT, n_eqF, n_cl, n_vp, fa_andq, fa_orq, fa_xorq, n_shl, n_shr, n_t1, n_t0, n_div, n_m1, not_true_eq_false, Bool.false_eq_true, false_and, Bool.not_false, Bool.not_true, Bool.and_true, Bool.and_false, Bool.false_and, Bool.true_and, true_and, and_true, true_or, or_true, not_false_eq_true, Option.some.injEq, exists_eq_left', forall_eq, ↓reduceIte, Nat.add_zero, Nat.zero_add, and_self]
    refine s_X7_nameInBuffer q.1.1 q.1.2.1 q.2.1 q.2.2.1 b0 hb2 hby2 _ fun r hr => ?_
    have g := (G r hr).2.2.1 rfl
    have z1 := z.1; have z2 := z.2.1
    simp only [zk_sI, zR_sI] at z1 z2
    simp (disch := omega) only [q, z1, z2, zk_sI, zR_sI, l_0, l_1, l_2, l_3, l_4, l_5, l_6, l_7, l_8, l_9, l_10, l_20, l_30, l_31, l_34, l_40, l_65, l_100, l_255, l_11, l_12, l_24, l_600, l_689, l_999, l_120, l_32, nI_add, pk_mul, n_sub, n_leT, n_leF, n_ltT, n_ltF, n_eqT, n_eqF, n_cl, n_vp, fa_andq, fa_orq, fa_xorq, n_shl, n_shr, n_t1, n_t0, n_div, n_m1, not_true_eq_false, Bool.false_eq_true, false_and, Bool.not_false, Bool.not_true, Bool.and_true, Bool.and_false, Bool.false_and, Bool.true_and, true_and, and_true, true_or, or_true, not_false_eq_true, Option.some.injEq, exists_eq_left', forall_eq, ↓reduceIte, Nat.add_zero, Nat.zero_add, and_self]
    exact g
  · subst e
    simp (disch := omega) only [w_X7_find, w_X7_requireArgument, q, l_0, l_1, l_2, l_3, l_4, l_5, l_6, l_7, l_8, l_9, l_10, l_20, l_30, l_31, l_34, l_40, l_65, l_100, l_255, l_11, l_12, l_24, l_600, l_689, l_999, l_120, l_32, nI_add, pk_mul, n_sub, n_leT, n_leF, n_ltT, n_ltF, n_eqT, n_eqF, n_cl, n_vp, fa_andq, fa_orq, fa_xorq, n_shl, n_shr, n_t1, n_t0, n_div, n_m1, not_true_eq_false, Bool.false_eq_true, false_and, Bool.not_false, Bool.not_true, Bool.and_true, Bool.and_false, Bool.false_and, Bool.true_and, true_and, and_true, true_or, or_true, not_false_eq_true, Option.some.injEq, exists_eq_left', forall_eq, ↓reduceIte, Nat.add_zero, Nat.zero_add, and_self]
    refine s_X7_nameInBuffer q.1.1 q.1.2.1 q.2.1 q.2.2.1 b0 hb2 hby2 _ fun r hr => ?_
    have g := (G r hr).2.2.2 rfl
    have z1 := z.1; have z2 := z.2.1
    simp only [zk_sI, zR_sI] at z1 z2
    simp (disch := omega) only [q, z1, z2, zk_sI, zR_sI, l_0, l_1, l_2, l_3, l_4, l_5, l_6, l_7, l_8, l_9, l_10, l_20, l_30, l_31, l_34, l_40, l_65, l_100, l_255, l_11, l_12, l_24, l_600, l_689, l_999, l_120, l_32, nI_add, pk_mul, n_sub, n_leT, n_leF, n_ltT, n_ltF, n_eqT, n_eqF, n_cl, n_vp, fa_andq, fa_orq, fa_xorq, n_shl, n_shr, n_t1, n_t0, n_div, n_m1, not_true_eq_false, Bool.false_eq_true, false_and, Bool.not_false, Bool.not_true, Bool.and_true, Bool.and_false, Bool.false_and, Bool.true_and, true_and, and_true, true_or, or_true, not_false_eq_true, Option.some.injEq, exists_eq_left', forall_eq, ↓reduceIte, Nat.add_zero, Nat.zero_add, and_self]
    exact g
