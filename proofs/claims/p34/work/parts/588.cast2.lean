/-! THE CLASS'S CASTER, whole -/
theorem kr_at (sg : Nat → Nat) (w : Nat) {j : Nat} (h : j < oW sg w 4) : kr sg w (oW sg w 4 - j - 1) = oW sg w (5 + j) := by
  unfold kr
  rw [show oW sg w 4 - (oW sg w 4 - j - 1 + 1) = j by omega]
theorem sb_ok {sg : Nat → Nat} {w r F : Nat} (hs : SB sg) (hF : F < 256) (hr : r ≤ 99) (h : dm sg w r F < 100) : ∀ i, i ≤ r → sb sg w r F i < 256 ∧ sub (sb sg w r F i) F ∧ pc (sb sg w r F i) = i
  | 0, _ => ⟨by show 0 < 256; omega, fun i t => absurd t (by rw [show sb sg w r F 0 = 0 from rfl, Nat.zero_testBit]; decide), by show pc 0 = 0; decide⟩
  | i + 1, hi => by
    have b := hs.b
    obtain ⟨h1, h2, h3⟩ := sb_ok hs hF hr h i (by omega)
    obtain ⟨g1, g2, -, g4⟩ := bq_cast hF hr h (i := i) (by omega)
    have n : (sb sg w r F i).testBit (bq sg w r F i) = false := b_no fun t => by
      obtain ⟨j, q1, q2⟩ := (sb_tb sg w r F _ i).mp t
      exact g4 j q1 q2
    obtain ⟨p1, p2, p3⟩ := pc_new _ h1 (bq sg w r F i) (by omega) n
    refine ⟨p2, fun q t => ?_, ?_⟩
    · have t2 : (sb sg w r F i ||| 2 ^ bq sg w r F i).testBit q = true := t
      rw [Nat.testBit_or, Bool.or_eq_true, Nat.testBit_two_pow, decide_eq_true_eq] at t2
      rcases t2 with t2 | t2
      · exact h2 q t2
      · rw [← t2]; exact g2
    · show pc (sb sg w r F i ||| 2 ^ bq sg w r F i) = i + 1
      rw [p3, h3]
theorem sub_or {S F p : Nat} (h : sub S F) (hp : F.testBit p = true) : sub (S ||| 2 ^ p) F := fun q t => by
  rw [Nat.testBit_or, Bool.or_eq_true, Nat.testBit_two_pow, decide_eq_true_eq] at t
  rcases t with t | t
  · exact h q t
  · rw [← t]; exact hp
section CB
variable {y sa : Nat} {sg : Nat → Nat} {M : Mm}
theorem n_neg : (nI 4294967295 < nI 0) = True := eq_true (by decide)
theorem n_pred {a : Nat} (h : 1 ≤ a) : nI (a + 4294967295) = nI (a - 1) := by
  obtain ⟨b, rfl⟩ : ∃ b, a = b + 1 := ⟨a - 1, by omega⟩
  rw [← nI_add, show nI 4294967295 = -1 from (by decide), pk_m1, Nat.add_sub_cancel]
/-- the number of doublings told, or none -/
def ansD (sg : Nat → Nat) (w F : Nat) : Nat := if dm sg w (oW sg w 4) F < 100 then dm sg w (oW sg w 4) F else 4294967295
/-- the tables of the fewest, and of who is next, from a set on -/
def TF1 (sg : Nat → Nat) (w F y a : Nat) (M : Mm) : Prop := ∀ S, S < 256 → a ≤ S → sub S F → pc S ≤ oW sg w 4 → zI M (y + 2) S = nI (dm sg w (oW sg w 4 - pc S) (rm F S))
def TF2 (sg : Nat → Nat) (w F y a : Nat) (M : Mm) : Prop := ∀ S, S < 256 → a ≤ S → sub S F → pc S < oW sg w 4 → dm sg w (oW sg w 4 - pc S) (rm F S) < 100 → zI M (y + 3) S = nI (fp sg w (oW sg w 4 - pc S - 1) (rm F S))
theorem s_X0_castWork (hs : SB sg) (h : CSea sa sg M) (hy : KS y M) (hp : KP y M) (hd : sa + 20 < y ∨ y + 3 < sa) {w F : Nat} (hw : w < sg 3) (hF : F < 256) (P : Int32 → Mm → Prop)
    (K : ∀ M', FrI (fun b => b = y + 1 ∨ b = y + 2 ∨ b = y + 3) M M' → KP y M' → (dm sg w (oW sg w 4) F < 100 → ∀ j, j < oW sg w 4 → zI M' (y + 1) j = nI (bq sg w (oW sg w 4) F j)) → P (nI (ansD sg w F)) M') : w_X0_castWork M y sa (nI w) (nI F) P := by
  have b := hs.b
  have c := hs.sc hw
  have pt : (2 : Nat) ^ 8 - 1 = 255 := rfl
  simp (disch := omega) only [w_X0_castWork, h.s1, h.w hw, e_firstBits, pt, l_0, l_1, l_2, l_3, l_4, l_5, l_6, l_7, l_8, l_9, l_10, l_20, l_30, l_31, l_34, l_40, l_65, l_100, l_255, l_11, l_12, l_24, l_600, l_689, l_999, l_120, l_32, nI_add, pk_mul, n_sub, n_leT, n_leF, n_ltT, n_ltF, n_eqT, n_eqF, n_cl, n_vp, fa_andq, fa_orq, fa_xorq, n_shl, n_shr, n_t1, n_t0, n_div, n_m1, not_true_eq_false, Bool.false_eq_true, false_and, Bool.not_false, Bool.not_true, Bool.and_true, Bool.and_false, Bool.false_and, Bool.true_and, true_and, and_true, true_or, or_true, not_false_eq_true, Option.some.injEq, exists_eq_left', forall_eq, ↓reduceIte, Nat.add_zero, Nat.zero_add, and_self]
  refine lpI (fun n (z : Mm × Int32) => l_X0_castWork_15 P _ n z.1 y sa (nI w) (nI F) (nI (oW sg w 4)) z.2) (fun k z => (FrI (fun b => b = y + 2 ∨ b = y + 3) M z.1 ∧ KP y z.1 ∧ TF1 sg w F y (256 - k) z.1 ∧ TF2 sg w F y (256 - k) z.1) ∧ z.2 = nI (if k < 256 then 255 - k else 4294967295)) 256 ?_ ?_ (M, nI 255) ⟨⟨FrI.rf, hp, fun S h1 h2 => by omega, fun S h1 h2 => by omega⟩, rfl⟩
  · rintro n ⟨M1, a1⟩ ⟨⟨f, kp, g1, g2⟩, e1⟩
    dsimp only at f kp g1 g2 e1 ⊢
    subst e1
    have y1 := hy.fr f
    have t0 := g1 0 (by omega) (by omega) (fun i t => absurd t (by rw [Nat.zero_testBit]; decide)) (by rw [show pc 0 = 0 by decide]; omega)
    rw [show pc 0 = 0 by decide, Nat.sub_zero, rm_0 hF] at t0
    have l := dm_le sg w (oW sg w 4) F
    simp (disch := omega) only [l_X0_castWork_15, Nat.lt_irrefl, n_neg, l_0, l_1, l_2, l_3, l_4, l_5, l_6, l_7, l_8, l_9, l_10, l_20, l_30, l_31, l_34, l_40, l_65, l_100, l_255, l_11, l_12, l_24, l_600, l_689, l_999, l_120, l_32, nI_add, pk_mul, n_sub, n_leT, n_leF, n_ltT, n_ltF, n_eqT, n_eqF, n_cl, n_vp, fa_andq, fa_orq, fa_xorq, n_shl, n_shr, n_t1, n_t0, n_div, n_m1, not_true_eq_false, Bool.false_eq_true, false_and, Bool.not_false, Bool.not_true, Bool.and_true, Bool.and_false, Bool.false_and, Bool.true_and, true_and, and_true, true_or, or_true, not_false_eq_true, Option.some.injEq, exists_eq_left', forall_eq, ↓reduceIte, Nat.add_zero, Nat.zero_add, and_self]
    refine lpI (fun n (z : Mm × Int32 × Int32) => l_X0_castWork_86 P _ n z.1 y (nI (oW sg w 4)) z.2.1 z.2.2) (fun k z => ∃ T, T < 256 ∧ (FrI (fun b => b = y + 1) M1 z.1 ∧ (dm sg w (oW sg w 4) F < 100 → T = sb sg w (oW sg w 4) F k ∧ ∀ j, j < k → zI z.1 (y + 1) j = nI (bq sg w (oW sg w 4) F j))) ∧ z.2.1 = nI T ∧ z.2.2 = nI k) (oW sg w 4) ?_ ?_ (M1, nI 0, nI 0) ⟨0, by omega, ⟨FrI.rf, fun _ => ⟨rfl, fun j hj => absurd hj (Nat.not_lt_zero j)⟩⟩, rfl, rfl⟩
    · rintro n ⟨M2, a1, a2⟩ ⟨T, hT, ⟨f2, g⟩, e1, e2⟩
      dsimp only at f2 g e1 e2 ⊢
      subst e1 e2
      have y2 := y1.fr f2
      unfold KS at y2
      have t1 : zI M2 (y + 2) 0 = nI (dm sg w (oW sg w 4) F) := by rw [f2.i (by omega)]; exact t0
      have k2 := K M2 ((f.mono (fun b hb => Or.inr hb)).trans (f2.mono (fun b hb => Or.inl hb))) (kp.fr f2 (by omega)) (fun q => (g q).2)
      unfold ansD at k2
      by_cases q : dm sg w (oW sg w 4) F < 100
      · simp (disch := omega) only [l_X0_castWork_86, y2, t1, l_0, l_1, l_2, l_3, l_4, l_5, l_6, l_7, l_8, l_9, l_10, l_20, l_30, l_31, l_34, l_40, l_65, l_100, l_255, l_11, l_12, l_24, l_600, l_689, l_999, l_120, l_32, nI_add, pk_mul, n_sub, n_leT, n_leF, n_ltT, n_ltF, n_eqT, n_eqF, n_cl, n_vp, fa_andq, fa_orq, fa_xorq, n_shl, n_shr, n_t1, n_t0, n_div, n_m1, not_true_eq_false, Bool.false_eq_true, false_and, Bool.not_false, Bool.not_true, Bool.and_true, Bool.and_false, Bool.false_and, Bool.true_and, true_and, and_true, true_or, or_true, not_false_eq_true, Option.some.injEq, exists_eq_left', forall_eq, ↓reduceIte, Nat.add_zero, Nat.zero_add, and_self]
        rw [if_pos q] at k2
        exact k2
      · simp (disch := omega) only [l_X0_castWork_86, y2, t1, l_0, l_1, l_2, l_3, l_4, l_5, l_6, l_7, l_8, l_9, l_10, l_20, l_30, l_31, l_34, l_40, l_65, l_100, l_255, l_11, l_12, l_24, l_600, l_689, l_999, l_120, l_32, nI_add, pk_mul, n_sub, n_leT, n_leF, n_ltT, n_ltF, n_eqT, n_eqF, n_cl, n_vp, fa_andq, fa_orq, fa_xorq, n_shl, n_shr, n_t1, n_t0, n_div, n_m1, not_true_eq_false, Bool.false_eq_true, false_and, Bool.not_false, Bool.not_true, Bool.and_true, Bool.and_false, Bool.false_and, Bool.true_and, true_and, and_true, true_or, or_true, not_false_eq_true, Option.some.injEq, exists_eq_left', forall_eq, ↓reduceIte, Nat.add_zero, Nat.zero_add, and_self]
        rw [if_neg q] at k2
        exact k2
    · rintro n k ⟨M2, a1, a2⟩ hk ⟨T, hT, ⟨f2, g⟩, e1, e2⟩ L
      dsimp only at f2 g e1 e2 L ⊢
      subst e1 e2
      have y2 := y1.fr f2
      unfold KS at y2
      obtain ⟨p, p8, ep, eb⟩ : ∃ p, p < 8 ∧ zI M2 (y + 3) T = nI p ∧ (dm sg w (oW sg w 4) F < 100 → p = bq sg w (oW sg w 4) F k) := by
        by_cases q : dm sg w (oW sg w 4) F < 100
        · obtain ⟨rfl, -⟩ := g q
          obtain ⟨s1, s2, s3⟩ := sb_ok hs hF (by omega) q k (by omega)
          obtain ⟨q1, -, -, -⟩ := bq_cast hF (by omega) q hk
          obtain ⟨-, -, z3, -⟩ := bq_ok sg w (oW sg w 4) F k (by omega) q hk
          have fj := FJ_sb (sg := sg) (w := w) (r := oW sg w 4) hF k
          refine ⟨bq sg w (oW sg w 4) F k, by omega, ?_, fun _ => rfl⟩
          rw [f2.i (by omega)]
          rw [fj] at z3
          have e := g2 _ s1 (by omega) s2 (by omega) (by rw [s3]; exact z3)
          rw [s3] at e
          unfold bq
          rw [fj]
          exact e
        · obtain ⟨p, p1, p2⟩ := kp T hT
          exact ⟨p, p1, by rw [f2.i (by omega)]; exact p2, fun z => absurd z q⟩
      have o := or_lt hT p8
      have e3 := zI_sI1 M2 (y + 1) k (nI p)
      simp (disch := omega) only [l_X0_castWork_86, y2, ep, e3, zk_sI, zl_sI, zR_sI, l_0, l_1, l_2, l_3, l_4, l_5, l_6, l_7, l_8, l_9, l_10, l_20, l_30, l_31, l_34, l_40, l_65, l_100, l_255, l_11, l_12, l_24, l_600, l_689, l_999, l_120, l_32, nI_add, pk_mul, n_sub, n_leT, n_leF, n_ltT, n_ltF, n_eqT, n_eqF, n_cl, n_vp, fa_andq, fa_orq, fa_xorq, n_shl, n_shr, n_t1, n_t0, n_div, n_m1, not_true_eq_false, Bool.false_eq_true, false_and, Bool.not_false, Bool.not_true, Bool.and_true, Bool.and_false, Bool.false_and, Bool.true_and, true_and, and_true, true_or, or_true, not_false_eq_true, Option.some.injEq, exists_eq_left', forall_eq, ↓reduceIte, Nat.add_zero, Nat.zero_add, and_self]
      refine L (sI M2 (y + 1) k (nI p), nI (T ||| 2 ^ p), nI (k + 1)) ⟨T ||| 2 ^ p, o, ⟨f2.trans (FrI.sI rfl), fun q => ?_⟩, rfl, rfl⟩
      obtain ⟨g3, g4⟩ := g q
      have e4 := eb q
      refine ⟨by rw [g3, e4]; rfl, fun j hj => ?_⟩
      by_cases e : j = k
      · subst e; rw [zI_sI1, e4]
      · rw [zI_sI2 _ _ _ _ e]; exact g4 j (by omega)
  · rintro n k ⟨M1, a1⟩ hk ⟨⟨f, kp, g1, g2⟩, e1⟩ L
    dsimp only at f kp g1 g2 e1 L ⊢
    subst e1
    have h1 := h.fr f (by omega)
    have y1 := hy.fr f
    have y2 := y1
    unfold KS at y2
    have pl8 := pc_le (255 - k) (by omega)
    have rl := rm_lt (F := 255 - k) (S := F) (by omega)
    have nx : nI (255 - k + 4294967295) = nI (if k + 1 < 256 then 255 - (k + 1) else 4294967295) := by
      by_cases z : k + 1 < 256
      · rw [if_pos z, n_pred (by omega)]; rfl
      · rw [if_neg z, show k = 255 by omega]
    by_cases t : oW sg w 4 ≤ pc (255 - k)
    · simp (disch := omega) only [l_X0_castWork_15, hk, e_bitCount, nx, y2, l_0, l_1, l_2, l_3, l_4, l_5, l_6, l_7, l_8, l_9, l_10, l_20, l_30, l_31, l_34, l_40, l_65, l_100, l_255, l_11, l_12, l_24, l_600, l_689, l_999, l_120, l_32, nI_add, pk_mul, n_sub, n_leT, n_leF, n_ltT, n_ltF, n_eqT, n_eqF, n_cl, n_vp, fa_andq, fa_orq, fa_xorq, n_shl, n_shr, n_t1, n_t0, n_div, n_m1, not_true_eq_false, Bool.false_eq_true, false_and, Bool.not_false, Bool.not_true, Bool.and_true, Bool.and_false, Bool.false_and, Bool.true_and, true_and, and_true, true_or, or_true, not_false_eq_true, Option.some.injEq, exists_eq_left', forall_eq, ↓reduceIte, Nat.add_zero, Nat.zero_add, and_self]
      refine L (sI M1 (y + 2) (255 - k) (nI 0), _) ⟨⟨f.trans (FrI.sI (Or.inl rfl)), kp.e (zI_sIo _ _ _ _ (by omega)), fun S q1 q2 q3 q4 => ?_, fun S q1 q2 q3 q4 q5 => ?_⟩, rfl⟩
      · by_cases e : S = 255 - k
        · subst e
          rw [zI_sI1, show oW sg w 4 - pc (255 - k) = 0 by omega, dm]
        · rw [zI_sI2 _ _ _ _ e]; exact g1 S q1 (by omega) q3 q4
      · rw [zI_sIo _ _ _ _ (by omega)]
        by_cases e : S = 255 - k
        · subst e; omega
        · exact g2 S q1 (by omega) q3 q4 q5
    · by_cases s : sub (255 - k) F
      · have s0 := (sub_rm (by omega)).mpr s
        have st := hs.st hw (j := pc (255 - k)) (by omega)
        have kk := kr_at sg w (j := pc (255 - k)) (by omega)
        have e0 := fun P K => s_X0_fillNextSeat (M := M1) hs h1 y1 hd (w := w) (r := oW sg w 4 - pc (255 - k) - 1) (C := rm F (255 - k)) (S := 255 - k) (by rw [kk]; exact st) (rm_lt hF) (by omega) (fun p hp2 t1 => by
          have n : (255 - k).testBit p = false := by
            rw [rm_tb hF] at t1
            revert t1; cases (255 - k).testBit p <;> intro t1 <;> first | rfl | (revert t1; cases F.testBit p <;> decide)
          have t3 : F.testBit p = true := by
            rw [rm_tb hF, Bool.and_eq_true] at t1; exact t1.1
          obtain ⟨p1, p2, p3⟩ := pc_new _ (show 255 - k < 256 by omega) p (by omega) n
          exact ⟨n, by rw [g1 _ p2 (by omega) (sub_or s t3) (by omega), p3, rm_rm hF, show oW sg w 4 - (pc (255 - k) + 1) = oW sg w 4 - pc (255 - k) - 1 by omega]⟩) P K
        rw [kk] at e0
        simp (disch := omega) only [l_X0_castWork_15, hk, e_bitCount, rm_f, s0, nx, h1.s1, y2, e_X6_instrumentOfSeat hs h1 hw, l_0, l_1, l_2, l_3, l_4, l_5, l_6, l_7, l_8, l_9, l_10, l_20, l_30, l_31, l_34, l_40, l_65, l_100, l_255, l_11, l_12, l_24, l_600, l_689, l_999, l_120, l_32, nI_add, pk_mul, n_sub, n_leT, n_leF, n_ltT, n_ltF, n_eqT, n_eqF, n_cl, n_vp, fa_andq, fa_orq, fa_xorq, n_shl, n_shr, n_t1, n_t0, n_div, n_m1, not_true_eq_false, Bool.false_eq_true, false_and, Bool.not_false, Bool.not_true, Bool.and_true, Bool.and_false, Bool.false_and, Bool.true_and, true_and, and_true, true_or, or_true, not_false_eq_true, Option.some.injEq, exists_eq_left', forall_eq, ↓reduceIte, Nat.add_zero, Nat.zero_add, and_self]
        refine e0 _ fun M2 f2 v1 v2 v3 v4 => ?_
        have ed : dk sg w (oW sg w 4 - pc (255 - k) - 1) (rm F (255 - k)) (sg 2) = dm sg w (oW sg w 4 - pc (255 - k)) (rm F (255 - k)) := by
          rw [← dm_s, show oW sg w 4 - pc (255 - k) - 1 + 1 = oW sg w 4 - pc (255 - k) by omega]
        rw [ed] at v2 v3
        refine L (M2, _) ⟨⟨f.trans f2, v4 kp, fun S q1 q2 q3 q4 => ?_, fun S q1 q2 q3 q4 q5 => ?_⟩, rfl⟩
        · by_cases e : S = 255 - k
          · subst e; exact v2
          · rw [(v1 S e).1]; exact g1 S q1 (by omega) q3 q4
        · by_cases e : S = 255 - k
          · subst e; exact v3 q5
          · rw [(v1 S e).2]; exact g2 S q1 (by omega) q3 q4 q5
      · have s0 : rm (255 - k) F ≠ 0 := fun z => s ((sub_rm (by omega)).mp z)
        simp (disch := omega) only [l_X0_castWork_15, hk, e_bitCount, rm_f, nx, l_0, l_1, l_2, l_3, l_4, l_5, l_6, l_7, l_8, l_9, l_10, l_20, l_30, l_31, l_34, l_40, l_65, l_100, l_255, l_11, l_12, l_24, l_600, l_689, l_999, l_120, l_32, nI_add, pk_mul, n_sub, n_leT, n_leF, n_ltT, n_ltF, n_eqT, n_eqF, n_cl, n_vp, fa_andq, fa_orq, fa_xorq, n_shl, n_shr, n_t1, n_t0, n_div, n_m1, not_true_eq_false, Bool.false_eq_true, false_and, Bool.not_false, Bool.not_true, Bool.and_true, Bool.and_false, Bool.false_and, Bool.true_and, true_and, and_true, true_or, or_true, not_false_eq_true, Option.some.injEq, exists_eq_left', forall_eq, ↓reduceIte, Nat.add_zero, Nat.zero_add, and_self]
        refine L (M1, _) ⟨⟨f, kp, fun S q1 q2 q3 q4 => ?_, fun S q1 q2 q3 q4 q5 => ?_⟩, rfl⟩
        · by_cases e : S = 255 - k
          · subst e; exact absurd q3 s
          · exact g1 S q1 (by omega) q3 q4
        · by_cases e : S = 255 - k
          · subst e; exact absurd q3 s
          · exact g2 S q1 (by omega) q3 q4 q5
end CB
