/-! THE CLASS'S CASTER, whole -/
theorem zI_sI1 (M : Mm) (a i : Nat) (x : Int32) : zI (sI M a i x) a i = x := if_pos ⟨rfl, rfl⟩
theorem zI_sI2 (M : Mm) (a i : Nat) (x : Int32) {j : Nat} (h : j ≠ i) : zI (sI M a i x) a j = zI M a j := if_neg fun q => h q.2
theorem kr_at (sg : Nat → Nat) (w : Nat) {j : Nat} (h : j < oW sg w 4) : kr sg w (oW sg w 4 - j - 1) = oW sg w (5 + j) := by
  unfold kr
  rw [show oW sg w 4 - (oW sg w 4 - j - 1 + 1) = j by omega]
/-- the table of the fewest -/
def TF (sg : Nat → Nat) (w F y : Nat) (M : Mm) : Prop := ∀ S, S < 256 → sub S F → pc S ≤ oW sg w 4 → zI M (y + 2) S = nI (dm sg w (oW sg w 4 - pc S) (rm F S))
theorem sb_ok {sg : Nat → Nat} {w r F : Nat} (hs : SB sg) (hF : F < 256) (hr : r ≤ 99) (h : dm sg w r F < 100) : ∀ i, i ≤ r → sb sg w r F i < 256 ∧ sub (sb sg w r F i) F ∧ pc (sb sg w r F i) = i
  | 0, _ => ⟨by show 0 < 256; omega, fun i t => absurd t (by rw [show sb sg w r F 0 = 0 from rfl, Nat.zero_testBit]; decide), by show pc 0 = 0; decide⟩
  | i + 1, hi => by
    have b := hs.b
    obtain ⟨h1, h2, h3⟩ := sb_ok hs hF hr h i (by omega)
    obtain ⟨g1, g2, -, g4⟩ := bq_cast hF hr h (i := i) (by omega)
    have n : (sb sg w r F i).testBit (bq sg w r F i) = false := b_no fun t => by
      obtain ⟨j, q1, q2⟩ := (sb_tb sg w r F _ i).mp t
      exact g4 j q1 q2
    obtain ⟨p1, p2, p3⟩ := pc_new _ h1 (bq sg w r F i) (by omega) n
    refine ⟨p2, fun q t => ?_, ?_⟩
    · have t2 : (sb sg w r F i ||| 2 ^ bq sg w r F i).testBit q = true := t
      rw [Nat.testBit_or, Bool.or_eq_true, Nat.testBit_two_pow, decide_eq_true_eq] at t2
      rcases t2 with t2 | t2
      · exact h2 q t2
      · rw [← t2]; exact g2
    · show pc (sb sg w r F i ||| 2 ^ bq sg w r F i) = i + 1
      rw [p3, h3]
theorem sub_or {S F p : Nat} (h : sub S F) (hp : F.testBit p = true) : sub (S ||| 2 ^ p) F := fun q t => by
  rw [Nat.testBit_or, Bool.or_eq_true, Nat.testBit_two_pow, decide_eq_true_eq] at t
  rcases t with t | t
  · exact h q t
  · rw [← t]; exact hp
section CB
variable {y sa : Nat} {sg : Nat → Nat} {M : Mm}
theorem s_X0_chooseFirst (hs : SB sg) (h : CSea sa sg M) (hy : KS y M) (hd : sa + 20 < y ∨ y + 2 < sa) {w F : Nat} (hw : w < sg 3) (hF : F < 256) (hT : TF sg w F y M) (hm : dm sg w (oW sg w 4) F < 100) (P : Mm → Prop)
    (K : ∀ M', FrI (fun b => b = y + 1) M M' → (∀ j, j < oW sg w 4 → zI M' (y + 1) j = nI (bq sg w (oW sg w 4) F j)) → P M') : w_X0_chooseFirst M y sa (nI w) (nI F) P := by
  have b := hs.b
  have c := hs.sc hw
  unfold w_X0_chooseFirst
  refine lpI (fun n (z : Mm × Int32 × Int32) => l_X0_chooseFirst_6 P (fun M6 => P M6) n z.1 y sa (nI w) (nI F) z.2.1 z.2.2) (fun k z => (FrI (fun b => b = y + 1) M z.1 ∧ (∀ j, j < k → zI z.1 (y + 1) j = nI (bq sg w (oW sg w 4) F j))) ∧ z.2.1 = nI (sb sg w (oW sg w 4) F k) ∧ z.2.2 = nI k) (oW sg w 4) ?_ ?_ (M, 0, 0) ⟨⟨FrI.rf, fun j hj => absurd hj (Nat.not_lt_zero j)⟩, rfl, rfl⟩
  · rintro n ⟨M1, a1, a2⟩ ⟨⟨f, g⟩, e1, e2⟩
    dsimp only at f g e1 e2 ⊢
    subst e1 e2
    have h1 := h.fr f (by omega)
    have y1 := hy.fr f
    unfold KS at y1
    simp (disch := omega) only [l_X0_chooseFirst_6, h1.s1, h1.n, h1.w hw, l_0, l_1, l_2, l_3, l_4, l_5, l_6, l_7, l_8, l_9, l_10, l_20, l_30, l_31, l_34, l_40, l_65, l_100, l_255, l_11, l_12, l_24, l_600, l_689, l_999, l_120, l_32, nI_add, pk_mul, n_sub, n_leT, n_leF, n_ltT, n_ltF, n_eqT, n_eqF, n_cl, n_vp, fa_andq, fa_orq, fa_xorq, n_shl, n_shr, n_t1, n_t0, n_div, n_m1, not_true_eq_false, Bool.false_eq_true, false_and, Bool.not_false, Bool.not_true, Bool.and_true, Bool.and_false, Bool.false_and, Bool.true_and, true_and, and_true, true_or, or_true, not_false_eq_true, Option.some.injEq, exists_eq_left', forall_eq, ↓reduceIte, Nat.add_zero, Nat.zero_add, and_self]
    exact K _ f g
  · rintro n k ⟨M1, a1, a2⟩ hk ⟨⟨f, g⟩, e1, e2⟩ L
    dsimp only at f g e1 e2 L ⊢
    subst e1 e2
    have h1 := h.fr f (by omega)
    have y1 := hy.fr f
    have y2 := y1
    unfold KS at y2
    obtain ⟨s1, s2, s3⟩ := sb_ok hs hF (by omega) hm k (by omega)
    obtain ⟨q1, q2, q3, q4⟩ := bq_cast hF (by omega) hm hk
    obtain ⟨z1, z2, z3, z4⟩ := bq_ok sg w (oW sg w 4) F k (by omega) hm hk
    have st := hs.st hw hk
    have T1 : TF sg w F y M1 := fun S a1 a2 a3 => by rw [f.i (by omega)]; exact hT S a1 a2 a3
    have kk := kr_at sg w hk
    have fj := FJ_sb (sg := sg) (w := w) (r := oW sg w 4) hF k
    have e0 := fun P => e_X0_firstFrom (M := M1) hs h1 y1 (k := oW sg w (5 + k)) (C := rm F (sb sg w (oW sg w 4) F k)) (S := sb sg w (oW sg w 4) F k) (u := dm sg w (oW sg w 4 - k) (rm F (sb sg w (oW sg w 4) F k))) st (rm_lt hF) s1 (fun p => dm sg w (oW sg w 4 - k - 1) (rm (rm F (sb sg w (oW sg w 4) F k)) (2 ^ p))) (fun p hp t1 t2 => ⟨by
      have n : (sb sg w (oW sg w 4) F k).testBit p = false := by
        rw [rm_tb hF] at t1
        revert t1; cases (sb sg w (oW sg w 4) F k).testBit p <;> intro t1 <;> first | rfl | (revert t1; cases F.testBit p <;> decide)
      have t3 : F.testBit p = true := by
        rw [rm_tb hF, Bool.and_eq_true] at t1; exact t1.1
      obtain ⟨p1, p2, p3⟩ := pc_new _ s1 p (by omega) n
      rw [T1 _ p2 (sub_or s2 t3) (by omega), p3, s3, rm_rm hF, show oW sg w 4 - (k + 1) = oW sg w 4 - k - 1 by omega], dm_le sg w _ _⟩) (by rw [T1 _ s1 s2 (by omega), s3]) (dm_le sg w _ _) P
    have e3 : fi (fun p => decide (((rm F (sb sg w (oW sg w 4) F k)).testBit p = true ∧ (kinds sg p).testBit (oW sg w (5 + k)) = true) ∧ dbo sg p (oW sg w (5 + k)) + dm sg w (oW sg w 4 - k - 1) (rm (rm F (sb sg w (oW sg w 4) F k)) (2 ^ p)) = dm sg w (oW sg w 4 - k) (rm F (sb sg w (oW sg w 4) F k)))) (sg 2) = bq sg w (oW sg w 4) F k := by
      unfold bq fp ak
      rw [fj, ← dm_s, kk, show oW sg w 4 - k - 1 + 1 = oW sg w 4 - k by omega]
      unfold co
      rw [kk]
    rw [e3] at e0
    simp (disch := omega) only [l_X0_chooseFirst_6, h1.s1, h1.n, h1.w hw, y2, e_X6_instrumentOfSeat hs h1 hw, rm_f, e0, q1, l_0, l_1, l_2, l_3, l_4, l_5, l_6, l_7, l_8, l_9, l_10, l_20, l_30, l_31, l_34, l_40, l_65, l_100, l_255, l_11, l_12, l_24, l_600, l_689, l_999, l_120, l_32, nI_add, pk_mul, n_sub, n_leT, n_leF, n_ltT, n_ltF, n_eqT, n_eqF, n_cl, n_vp, fa_andq, fa_orq, fa_xorq, n_shl, n_shr, n_t1, n_t0, n_div, n_m1, not_true_eq_false, Bool.false_eq_true, false_and, Bool.not_false, Bool.not_true, Bool.and_true, Bool.and_false, Bool.false_and, Bool.true_and, true_and, and_true, true_or, or_true, not_false_eq_true, Option.some.injEq, exists_eq_left', forall_eq, ↓reduceIte, Nat.add_zero, Nat.zero_add, and_self]
    refine L (_, _, _) ⟨⟨f.trans (FrI.sI rfl), fun j hj => ?_⟩, rfl, rfl⟩
    by_cases e : j = k
    · subst e; exact zI_sI1 _ _ _ _
    · exact (zI_sI2 _ _ _ _ e).trans (g j (by omega))
theorem n_neg : (nI 4294967295 < nI 0) = True := eq_true (by decide)
theorem n_pred {a : Nat} (h : 1 ≤ a) : nI (a + 4294967295) = nI (a - 1) := by
  obtain ⟨b, rfl⟩ : ∃ b, a = b + 1 := ⟨a - 1, by omega⟩
  rw [← nI_add, show nI 4294967295 = -1 from (by decide), pk_m1, Nat.add_sub_cancel]
/-- the number of doublings told, or none -/
def ansD (sg : Nat → Nat) (w F : Nat) : Nat := if dm sg w (oW sg w 4) F < 100 then dm sg w (oW sg w 4) F else 4294967295
theorem s_X0_castWork (hs : SB sg) (h : CSea sa sg M) (hy : KS y M) (hd : sa + 20 < y ∨ y + 2 < sa) {w F : Nat} (hw : w < sg 3) (hF : F < 256) (P : Int32 → Mm → Prop)
    (K : ∀ M', FrI (fun b => b = y + 1 ∨ b = y + 2) M M' → (dm sg w (oW sg w 4) F < 100 → ∀ j, j < oW sg w 4 → zI M' (y + 1) j = nI (bq sg w (oW sg w 4) F j)) → P (nI (ansD sg w F)) M') : w_X0_castWork M y sa (nI w) (nI F) P := by
  have b := hs.b
  have c := hs.sc hw
  have pt : (2 : Nat) ^ 8 - 1 = 255 := rfl
  simp (disch := omega) only [w_X0_castWork, h.s1, h.w hw, e_firstBits, pt, l_0, l_1, l_2, l_3, l_4, l_5, l_6, l_7, l_8, l_9, l_10, l_20, l_30, l_31, l_34, l_40, l_65, l_100, l_255, l_11, l_12, l_24, l_600, l_689, l_999, l_120, l_32, nI_add, pk_mul, n_sub, n_leT, n_leF, n_ltT, n_ltF, n_eqT, n_eqF, n_cl, n_vp, fa_andq, fa_orq, fa_xorq, n_shl, n_shr, n_t1, n_t0, n_div, n_m1, not_true_eq_false, Bool.false_eq_true, false_and, Bool.not_false, Bool.not_true, Bool.and_true, Bool.and_false, Bool.false_and, Bool.true_and, true_and, and_true, true_or, or_true, not_false_eq_true, Option.some.injEq, exists_eq_left', forall_eq, ↓reduceIte, Nat.add_zero, Nat.zero_add, and_self]
  refine lpI (fun n (z : Mm × Int32) => l_X0_castWork_15 P _ n z.1 y sa (nI w) (nI F) (nI (oW sg w 4)) z.2) (fun k z => (FrI (fun b => b = y + 2) M z.1 ∧ ∀ S, S < 256 → 256 - k ≤ S → sub S F → pc S ≤ oW sg w 4 → zI z.1 (y + 2) S = nI (dm sg w (oW sg w 4 - pc S) (rm F S))) ∧ z.2 = nI (if k < 256 then 255 - k else 4294967295)) 256 ?_ ?_ (M, nI 255) ⟨⟨FrI.rf, fun S h1 h2 => by omega⟩, rfl⟩
  · rintro n ⟨M1, a1⟩ ⟨⟨f, g⟩, e1⟩
    dsimp only at f g e1 ⊢
    subst e1
    have h1 := h.fr f (by omega)
    have y1 := hy.fr f
    have y2 := y1
    unfold KS at y2
    have T : TF sg w F y M1 := fun S a1 a2 a3 => g S a1 (by omega) a2 a3
    have t0 := T 0 (by omega) (fun i t => absurd t (by rw [Nat.zero_testBit]; decide)) (by rw [show pc 0 = 0 by decide]; omega)
    rw [show pc 0 = 0 by decide, Nat.sub_zero, rm_0 hF] at t0
    have l := dm_le sg w (oW sg w 4) F
    by_cases q : dm sg w (oW sg w 4) F < 100
    · simp (disch := omega) only [l_X0_castWork_15, Nat.lt_irrefl, n_neg, y2, t0, l_0, l_1, l_2, l_3, l_4, l_5, l_6, l_7, l_8, l_9, l_10, l_20, l_30, l_31, l_34, l_40, l_65, l_100, l_255, l_11, l_12, l_24, l_600, l_689, l_999, l_120, l_32, nI_add, pk_mul, n_sub, n_leT, n_leF, n_ltT, n_ltF, n_eqT, n_eqF, n_cl, n_vp, fa_andq, fa_orq, fa_xorq, n_shl, n_shr, n_t1, n_t0, n_div, n_m1, not_true_eq_false, Bool.false_eq_true, false_and, Bool.not_false, Bool.not_true, Bool.and_true, Bool.and_false, Bool.false_and, Bool.true_and, true_and, and_true, true_or, or_true, not_false_eq_true, Option.some.injEq, exists_eq_left', forall_eq, ↓reduceIte, Nat.add_zero, Nat.zero_add, and_self]
      refine s_X0_chooseFirst hs h1 y1 hd hw hF T q _ fun M2 f2 g2 => ?_
      have y3 := y1.fr f2
      unfold KS at y3
      have t1 : zI M2 (y + 2) 0 = nI (dm sg w (oW sg w 4) F) := by rw [f2.i (by omega)]; exact t0
      simp (disch := omega) only [y3, t1, l_0, l_1, l_2, l_3, l_4, l_5, l_6, l_7, l_8, l_9, l_10, l_20, l_30, l_31, l_34, l_40, l_65, l_100, l_255, l_11, l_12, l_24, l_600, l_689, l_999, l_120, l_32, nI_add, pk_mul, n_sub, n_leT, n_leF, n_ltT, n_ltF, n_eqT, n_eqF, n_cl, n_vp, fa_andq, fa_orq, fa_xorq, n_shl, n_shr, n_t1, n_t0, n_div, n_m1, not_true_eq_false, Bool.false_eq_true, false_and, Bool.not_false, Bool.not_true, Bool.and_true, Bool.and_false, Bool.false_and, Bool.true_and, true_and, and_true, true_or, or_true, not_false_eq_true, Option.some.injEq, exists_eq_left', forall_eq, ↓reduceIte, Nat.add_zero, Nat.zero_add, and_self]
      have k2 := K M2 ((f.mono (fun b hb => Or.inr hb)).trans (f2.mono (fun b hb => Or.inl hb))) (fun _ => g2)
      unfold ansD at k2
      rw [if_pos q] at k2
      exact k2
    · simp (disch := omega) only [l_X0_castWork_15, Nat.lt_irrefl, n_neg, y2, t0, l_0, l_1, l_2, l_3, l_4, l_5, l_6, l_7, l_8, l_9, l_10, l_20, l_30, l_31, l_34, l_40, l_65, l_100, l_255, l_11, l_12, l_24, l_600, l_689, l_999, l_120, l_32, nI_add, pk_mul, n_sub, n_leT, n_leF, n_ltT, n_ltF, n_eqT, n_eqF, n_cl, n_vp, fa_andq, fa_orq, fa_xorq, n_shl, n_shr, n_t1, n_t0, n_div, n_m1, not_true_eq_false, Bool.false_eq_true, false_and, Bool.not_false, Bool.not_true, Bool.and_true, Bool.and_false, Bool.false_and, Bool.true_and, true_and, and_true, true_or, or_true, not_false_eq_true, Option.some.injEq, exists_eq_left', forall_eq, ↓reduceIte, Nat.add_zero, Nat.zero_add, and_self]
      have k2 := K M1 (f.mono (fun b hb => Or.inr hb)) (fun z => absurd z q)
      unfold ansD at k2
      rw [if_neg q] at k2
      exact k2
  · rintro n k ⟨M1, a1⟩ hk ⟨⟨f, g⟩, e1⟩ L
    dsimp only at f g e1 L ⊢
    subst e1
    have h1 := h.fr f (by omega)
    have y1 := hy.fr f
    have y2 := y1
    unfold KS at y2
    have pl8 := pc_le (255 - k) (by omega)
    have rl := rm_lt (F := 255 - k) (S := F) (by omega)
    have nx : nI (255 - k + 4294967295) = nI (if k + 1 < 256 then 255 - (k + 1) else 4294967295) := by
      by_cases z : k + 1 < 256
      · rw [if_pos z, n_pred (by omega)]; rfl
      · rw [if_neg z, show k = 255 by omega]
    by_cases s : sub (255 - k) F
    · have s0 := (sub_rm (by omega)).mpr s
      by_cases t : oW sg w 4 < pc (255 - k)
      · simp (disch := omega) only [l_X0_castWork_15, hk, e_bitCount, rm_f, s0, nx, l_0, l_1, l_2, l_3, l_4, l_5, l_6, l_7, l_8, l_9, l_10, l_20, l_30, l_31, l_34, l_40, l_65, l_100, l_255, l_11, l_12, l_24, l_600, l_689, l_999, l_120, l_32, nI_add, pk_mul, n_sub, n_leT, n_leF, n_ltT, n_ltF, n_eqT, n_eqF, n_cl, n_vp, fa_andq, fa_orq, fa_xorq, n_shl, n_shr, n_t1, n_t0, n_div, n_m1, not_true_eq_false, Bool.false_eq_true, false_and, Bool.not_false, Bool.not_true, Bool.and_true, Bool.and_false, Bool.false_and, Bool.true_and, true_and, and_true, true_or, or_true, not_false_eq_true, Option.some.injEq, exists_eq_left', forall_eq, ↓reduceIte, Nat.add_zero, Nat.zero_add, and_self]
        refine L (_, _) ⟨⟨f, fun S q1 q2 q3 q4 => ?_⟩, rfl⟩
        by_cases e : S = 255 - k
        · subst e; omega
        · exact g S q1 (by omega) q3 q4
      · by_cases u : pc (255 - k) = oW sg w 4
        · simp (disch := omega) only [l_X0_castWork_15, hk, e_bitCount, rm_f, s0, nx, y2, u, l_0, l_1, l_2, l_3, l_4, l_5, l_6, l_7, l_8, l_9, l_10, l_20, l_30, l_31, l_34, l_40, l_65, l_100, l_255, l_11, l_12, l_24, l_600, l_689, l_999, l_120, l_32, nI_add, pk_mul, n_sub, n_leT, n_leF, n_ltT, n_ltF, n_eqT, n_eqF, n_cl, n_vp, fa_andq, fa_orq, fa_xorq, n_shl, n_shr, n_t1, n_t0, n_div, n_m1, not_true_eq_false, Bool.false_eq_true, false_and, Bool.not_false, Bool.not_true, Bool.and_true, Bool.and_false, Bool.false_and, Bool.true_and, true_and, and_true, true_or, or_true, not_false_eq_true, Option.some.injEq, exists_eq_left', forall_eq, ↓reduceIte, Nat.add_zero, Nat.zero_add, and_self]
          refine L (_, _) ⟨⟨f.trans (FrI.sI rfl), fun S q1 q2 q3 q4 => ?_⟩, rfl⟩
          by_cases e : S = 255 - k
          · subst e
            refine (zI_sI1 _ _ _ _).trans ?_
            rw [u, Nat.sub_self, dm]
          · exact (zI_sI2 _ _ _ _ e).trans (g S q1 (by omega) q3 q4)
        · have st := hs.st hw (j := pc (255 - k)) (by omega)
          have kk := kr_at sg w (j := pc (255 - k)) (by omega)
          have e0 := fun P => e_X0_fewestFrom (M := M1) hs h1 y1 (k := oW sg w (5 + pc (255 - k))) (C := rm F (255 - k)) (S := 255 - k) st (rm_lt hF) (by omega) (fun p => dm sg w (oW sg w 4 - pc (255 - k) - 1) (rm (rm F (255 - k)) (2 ^ p))) (fun p hp t1 t2 => ⟨by
            have n : (255 - k).testBit p = false := by
              rw [rm_tb hF] at t1
              revert t1; cases (255 - k).testBit p <;> intro t1 <;> first | rfl | (revert t1; cases F.testBit p <;> decide)
            have t3 : F.testBit p = true := by
              rw [rm_tb hF, Bool.and_eq_true] at t1; exact t1.1
            obtain ⟨p1, p2, p3⟩ := pc_new _ (show 255 - k < 256 by omega) p (by omega) n
            rw [g _ p2 (by omega) (sub_or s t3) (by omega), p3, rm_rm hF, show oW sg w 4 - (pc (255 - k) + 1) = oW sg w 4 - pc (255 - k) - 1 by omega], dm_le sg w _ _⟩) P
          have e3 : ff sg (oW sg w (5 + pc (255 - k))) (rm F (255 - k)) (fun p => dm sg w (oW sg w 4 - pc (255 - k) - 1) (rm (rm F (255 - k)) (2 ^ p))) (sg 2) = dm sg w (oW sg w 4 - pc (255 - k)) (rm F (255 - k)) := by
            rw [show oW sg w 4 - pc (255 - k) = oW sg w 4 - pc (255 - k) - 1 + 1 by omega, dm_s]
            unfold ff dk
            rw [kk]
            rfl
          rw [e3] at e0
          simp (disch := omega) only [l_X0_castWork_15, hk, e_bitCount, rm_f, s0, nx, h1.s1, y2, e_X6_instrumentOfSeat hs h1 hw, e0, l_0, l_1, l_2, l_3, l_4, l_5, l_6, l_7, l_8, l_9, l_10, l_20, l_30, l_31, l_34, l_40, l_65, l_100, l_255, l_11, l_12, l_24, l_600, l_689, l_999, l_120, l_32, nI_add, pk_mul, n_sub, n_leT, n_leF, n_ltT, n_ltF, n_eqT, n_eqF, n_cl, n_vp, fa_andq, fa_orq, fa_xorq, n_shl, n_shr, n_t1, n_t0, n_div, n_m1, not_true_eq_false, Bool.false_eq_true, false_and, Bool.not_false, Bool.not_true, Bool.and_true, Bool.and_false, Bool.false_and, Bool.true_and, true_and, and_true, true_or, or_true, not_false_eq_true, Option.some.injEq, exists_eq_left', forall_eq, ↓reduceIte, Nat.add_zero, Nat.zero_add, and_self]
          refine L (_, _) ⟨⟨f.trans (FrI.sI rfl), fun S q1 q2 q3 q4 => ?_⟩, rfl⟩
          by_cases e : S = 255 - k
          · subst e
            exact zI_sI1 _ _ _ _
          · exact (zI_sI2 _ _ _ _ e).trans (g S q1 (by omega) q3 q4)
    · have s0 : rm (255 - k) F ≠ 0 := fun z => s ((sub_rm (by omega)).mp z)
      simp (disch := omega) only [l_X0_castWork_15, hk, e_bitCount, rm_f, nx, l_0, l_1, l_2, l_3, l_4, l_5, l_6, l_7, l_8, l_9, l_10, l_20, l_30, l_31, l_34, l_40, l_65, l_100, l_255, l_11, l_12, l_24, l_600, l_689, l_999, l_120, l_32, nI_add, pk_mul, n_sub, n_leT, n_leF, n_ltT, n_ltF, n_eqT, n_eqF, n_cl, n_vp, fa_andq, fa_orq, fa_xorq, n_shl, n_shr, n_t1, n_t0, n_div, n_m1, not_true_eq_false, Bool.false_eq_true, false_and, Bool.not_false, Bool.not_true, Bool.and_true, Bool.and_false, Bool.false_and, Bool.true_and, true_and, and_true, true_or, or_true, not_false_eq_true, Option.some.injEq, exists_eq_left', forall_eq, ↓reduceIte, Nat.add_zero, Nat.zero_add, and_self]
      refine L (_, _) ⟨⟨f, fun S q1 q2 q3 q4 => ?_⟩, rfl⟩
      by_cases e : S = 255 - k
      · subst e; exact absurd q3 s
      · exact g S q1 (by omega) q3 q4
end CB
