/-! THE DRAFT AGAIN: a new service cast; a move; the class's draftMove -/
theorem cs_cong {sg A B : Nat → Nat} {s q : Nat} (hs : SB sg) (h : ∀ f, f < 34 → oS A s f = oS B q f) {i : Nat} (hi : i < 30) : cs sg A s i = cs sg B q i := by
  have b := hs.b
  unfold cs
  rw [h 3 (by omega), h (4 + 6 * (i / 6) + i % 6) (by omega)]
theorem raw_cm {sg pl : Nat → Nat} (hs : SB sg) {at_ t ha S c F : Nat} (hat : at_ ≤ pl 0) {q f : Nat} (hq : q < pl 0 + 1) (hf : f < 34) : rawP sg (cm sg pl at_ t ha S c F) q f = castR sg (insB (rawP sg pl) at_ t ha c S) at_ F (sg 3) q f := by
  have b := hs.b
  have r3 : insB (rawP sg pl) at_ t ha c S at_ 3 = S := by
    unfold insB blk
    rw [if_neg (Nat.lt_irrefl _), if_pos rfl, if_neg (by omega), if_neg (by omega), if_neg (by omega), if_pos rfl]
  by_cases c0 : f < 4
  · rw [rawP_lo _ _ _ c0, castR_3 _ _ _ _ _ _ c0]
    unfold insB
    rw [cm_S sg pl hq hf]
    by_cases c1 : q < at_
    · rw [if_pos c1, if_pos c1, rawP_lo _ _ _ c0]
    · rw [if_neg c1, if_neg c1]
      by_cases c2 : q = at_
      · rw [if_pos c2, if_pos c2]
        unfold nb blk
        by_cases d0 : f = 0
        · rw [if_pos d0, if_pos d0]
        · rw [if_neg d0, if_neg d0]
          by_cases d1 : f = 1
          · rw [if_pos d1, if_pos d1]
          · rw [if_neg d1, if_neg d1]
            by_cases d2 : f = 2
            · rw [if_pos d2, if_pos d2]
            · rw [if_neg d2, if_neg d2, if_pos (by omega), if_pos (by omega)]
      · rw [if_neg c2, if_neg c2, rawP_lo _ _ _ c0]
  · obtain ⟨i, rfl⟩ : ∃ i, f = 4 + i := ⟨f - 4, by omega⟩
    rw [rawP_hi]
    by_cases c2 : q = at_
    · subst c2
      unfold castR
      rw [r3, Nat.add_sub_cancel_left]
      unfold cs
      rw [cm_at hat (by omega), cm_at hat (by omega)]
      have n3 : nb sg pl q t ha S c F 3 = S := rfl
      rw [n3]
      by_cases d : i / 6 < sg 3
      · rw [nb_at d (by omega)]
        unfold nv
        by_cases e : (S.testBit (i / 6) = true ∧ dm sg (i / 6) (oW sg (i / 6) 4) F < 100) ∧ i % 6 < oW sg (i / 6) 4
        · rw [if_pos ⟨d, e.1.1, e.2⟩, if_pos e, if_pos ⟨rfl, by omega, by omega, e⟩]
        · rw [if_neg e, ite_self, if_neg (fun z => e z.2.2.2)]
          unfold insB blk
          rw [if_neg (Nat.lt_irrefl _), if_pos rfl, if_neg (by omega), if_neg (by omega), if_neg (by omega), if_neg (by omega)]
      · rw [if_neg (fun z => d z.1), if_neg (fun z => by omega)]
        unfold insB blk
        rw [if_neg (Nat.lt_irrefl _), if_pos rfl, if_neg (by omega), if_neg (by omega), if_neg (by omega), if_neg (by omega)]
    · unfold castR
      rw [if_neg (fun z => c2 z.1)]
      unfold insB
      by_cases c1 : q < at_
      · rw [if_pos c1, rawP_hi]
        refine cs_cong hs (fun f hf => ?_) (by omega)
        rw [cm_S sg pl hq hf, if_pos c1]
      · rw [if_neg c1, if_neg c2, rawP_hi]
        refine cs_cong hs (fun f hf => ?_) (by omega)
        rw [cm_S sg pl hq hf, if_neg c1, if_neg c2]
/-- the cells of the draft and of the caster -/
def RDr (x : Nat) : Nat → Prop := fun b => b = x + 2 + 1 ∨ b = x + 2 + 2 ∨ b = x + 2 + 3 ∨ (x + 13 ≤ b ∧ b ≤ x + 19)
section AD
variable {x sa sp : Nat} {sg pl : Nat → Nat} {M : Mm}
theorem s_castNew (hs : SB sg) (hx : XS x sa sp M) (kq : KP (x + 2) M) (h : CSea sa sg M) (hp : PB sg pl) (hn : pl 0 < 20) {at_ t ha S c : Nat} (hat : at_ ≤ pl 0) (ht : t < 90) (hha : ha < 3) (hc : c < 2) (hS : S < 32) (h4 : RPl (x + 13) (pl 0 + 1) (insB (rawP sg pl) at_ t ha c S) (fun p => pl (1 + p)) (sg 2) M) (P : Mm → Prop)
    (K : ∀ M', FK x (RDr x) M M' → CPl (x + 13) sg (cm sg pl at_ t ha S c (free sg pl t)) M' → P M') : w_X7_castInDraft M x (nI at_) P := by
  have b := hs.b
  have r0 : insB (rawP sg pl) at_ t ha c S at_ 0 = t := by
    unfold insB blk
    rw [if_neg (Nat.lt_irrefl _), if_pos rfl, if_pos rfl]
  refine s_X7_castInDraft hs hx kq h ((RB.of hs hp).ins hat ht hha hc hS) (by omega) h4 (by omega) P fun M2 f g => ?_
  rw [r0] at g
  have e : freeR sg (insB (rawP sg pl) at_ t ha c S) (pl 0 + 1) t = free sg pl t := by
    unfold freeR
    rw [atR_ins hs hp hat]; rfl
  rw [e] at g
  refine K M2 (f.mono fun q hq => by unfold RD at hq; unfold RDr; omega) (RPl.cpl (g.of (fun q f hq hf => raw_cm hs hat hq hf) fun p hp2 => cm_k _ _ _ _ _ _ _ _ (by omega) (by omega)))
theorem psR_raw {n : Nat} (hn : n = pl 0) (ha t : Nat) : psR (rawP sg pl) n ha t = psn pl ha t := by
  subst hn
  exact fi_cong _ fun i _ => by rw [rawP_lo _ _ _ (by omega), rawP_lo _ _ _ (by omega)]
theorem s_X7_addToDraft (hs : SB sg) (hx : XS x sa sp M) (kq : KP (x + 2) M) (h : CSea sa sg M) (hp : PB sg pl) (h4 : CPl (x + 13) sg pl M) (hn : pl 0 < 20) {t ha S c : Nat} (ht : t < 90) (hha : ha < 3) (hc : c < 2) (hS : S < 32) (P : Int32 → Mm → Prop)
    (K : ∀ M', FK x (RDr x) M M' → CPl (x + 13) sg (cm sg pl (psn pl ha t) t ha S c (free sg pl t)) M' → P (nI (psn pl ha t)) M') : w_X7_addToDraft M x (nI ha) (nI t) (nI S) (nI c) P := by
  have b := hs.b
  have at_ := hx.at
  simp (disch := omega) only [w_X7_addToDraft, hx.s, h4.sh, l_0, l_1, l_2, l_3, l_4, l_5, l_6, l_7, l_8, l_9, l_10, l_20, l_30, l_31, l_34, l_40, l_65, l_100, l_255, l_11, l_12, l_24, l_600, l_689, l_999, l_120, l_32, nI_add, pk_mul, n_sub, n_leT, n_leF, n_ltT, n_ltF, n_eqT, n_eqF, n_cl, n_vp, fa_andq, fa_orq, fa_xorq, n_shl, n_shr, n_t1, n_t0, n_div, n_m1, not_true_eq_false, Bool.false_eq_true, false_and, Bool.not_false, Bool.not_true, Bool.and_true, Bool.and_false, Bool.false_and, Bool.true_and, true_and, and_true, true_or, or_true, not_false_eq_true, Option.some.injEq, exists_eq_left', forall_eq, ↓reduceIte, Nat.add_zero, Nat.zero_add, and_self]
  have rb := RB.of hs hp
  refine s_X4_insert h4.raw hn (fun s q => ⟨(rb s q).1, (rb s q).2.1⟩) hha ht hc _ fun M2 f g => ?_
  rw [psR_raw rfl] at g ⊢
  have x2 := hx.fr f
  have h2 := h.fr f (by unfold RP; omega)
  simp (disch := omega) only [x2.s, not_true_eq_false, Bool.false_eq_true, false_and, Bool.not_false, Bool.not_true, Bool.and_true, Bool.and_false, Bool.false_and, Bool.true_and, true_and, and_true, true_or, or_true, not_false_eq_true, Option.some.injEq, exists_eq_left', forall_eq, ↓reduceIte, Nat.add_zero, Nat.zero_add, and_self]
  refine s_castNew hs x2 (kq.fr f (by unfold RP; omega)) h2 hp hn (fi_le _ _) ht hha hc hS g _ fun M3 f3 g3 => K M3 (((FK.of f (by unfold RP; omega)).mono fun q hq => ?_).trans f3) g3
  unfold RP at hq; unfold RDr; omega
theorem CPl.off (h4 : CPl (x + 13) sg pl M) (hs : SB sg) {s : Nat} (hsn : s < pl 0) (hn : pl 0 ≤ 20) (P : Mm → Prop) (K : ∀ M', FrI (RP (x + 13)) M M' → CPl (x + 13) sg (off pl s) M' → P M') : w_X4_remove M (x + 13) (nI s) P := by
  have b := hs.b
  refine s_X4_remove h4.raw hsn hn P fun M2 f g => K M2 f (RPl.cpl (g.of (fun q f hq hf => ?_) fun p hp => off_k _ _ (by omega) (by omega)))
  try dsimp only
  by_cases c0 : f < 4
  · rw [rawP_lo _ _ _ c0, rawP_lo _ _ _ c0, rawP_lo _ _ _ c0, off_S pl hq hf]
  · obtain ⟨i, rfl⟩ : ∃ i, f = 4 + i := ⟨f - 4, by omega⟩
    rw [rawP_hi, rawP_hi, rawP_hi]
    by_cases c : q < s
    · rw [if_pos c]
      exact cs_cong hs (fun f hf => by rw [off_S pl hq hf, if_pos c]) (by omega)
    · rw [if_neg c]
      exact cs_cong hs (fun f hf => by rw [off_S pl hq hf, if_neg c]) (by omega)
/-- a plan with a service moved; why that cannot be -/
def mvP (sg pl : Nat → Nat) (s t : Nat) : Nat → Nat := cm sg (off pl s) (psn (off pl s) (oS pl s 1) t) t (oS pl s 1) (oS pl s 3) (oS pl s 2) (free sg (off pl s) t)
def mvN (sg pl : Nat → Nat) (s t : Nat) : Nat := if whyN sg (off pl s) (oS pl s 1) t (oS pl s 3) (oS pl s 2) = 0 then (if rehd sg (mvP sg pl s t) = true then 0 else 6) else whyN sg (off pl s) (oS pl s 1) t (oS pl s 3) (oS pl s 2)
theorem PGmv (hs : SB sg) (h : PG sg pl) {s t : Nat} (hsn : s < pl 0) (ht : t < 3 * sg 0) (h0 : whyN sg (off pl s) (oS pl s 1) t (oS pl s 3) (oS pl s 2) = 0) : PG sg (mvP sg pl s t) := by
  have g := PGoff hs h hsn
  obtain ⟨w1, w2, w3⟩ := why0 h0 g.1
  obtain ⟨⟨a1, a2, a3, a4⟩, -⟩ := h.1.2.2 s hsn
  exact PGcm hs g w1 ht a2 a3 a4 w2 w3
theorem s_X7_draftMove (hs : SB sg) (hx : XS x sa sp M) (kq : KP (x + 2) M) (h : CSea sa sg M) (hp : PG sg pl) (h4 : CPl (x + 6) sg pl M) (hd : PlanSh M (x + 13)) {s t : Nat} (hsn : s < pl 0) (ht : t < 3 * sg 0) (P : Int32 → Mm → Prop)
    (K : ∀ M', FK x (RDr x) M M' → (mvN sg pl s t = 0 → CPl (x + 13) sg (mvP sg pl s t) M') → P (nI (mvN sg pl s t)) M') : w_X7_draftMove M x (nI s) (nI t) P := by
  have b := hs.b
  have n := hp.1.n
  have d := hp.1.s hs hsn
  have at_ := hx.at
  have g := PGoff hs hp hsn
  have cb : bI (decide (oS pl s 2 = 1)) = nI (oS pl s 2) := by
    by_cases q : oS pl s 2 = 1
    · rw [decide_eq_true q, q]; rfl
    · rw [decide_eq_false q, show oS pl s 2 = 0 by omega]; rfl
  simp (disch := omega) only [w_X7_draftMove, hx.s, h4.sh, h4.s hsn, e_X4_isConcert hs hp.1 h4 hsn, cb, hd.u, l_0, l_1, l_2, l_3, l_4, l_5, l_6, l_7, l_8, l_9, l_10, l_20, l_30, l_31, l_34, l_40, l_65, l_100, l_255, l_11, l_12, l_24, l_600, l_689, l_999, l_120, l_32, nI_add, pk_mul, n_sub, n_leT, n_leF, n_ltT, n_ltF, n_eqT, n_eqF, n_cl, n_vp, fa_andq, fa_orq, fa_xorq, n_shl, n_shr, n_t1, n_t0, n_div, n_m1, not_true_eq_false, Bool.false_eq_true, false_and, Bool.not_false, Bool.not_true, Bool.and_true, Bool.and_false, Bool.false_and, Bool.true_and, true_and, and_true, true_or, or_true, not_false_eq_true, Option.some.injEq, exists_eq_left', forall_eq, ↓reduceIte, Nat.add_zero, Nat.zero_add, and_self]
  refine s_X4_copyFrom hd h4.raw (by omega) n (by omega) _ fun M1 f1 g1 => ?_
  have x1 := hx.fr f1
  have h1 := h.fr f1 (by unfold RP; omega)
  simp (disch := omega) only [x1.s, g1.sh, l_0, l_1, l_2, l_3, l_4, l_5, l_6, l_7, l_8, l_9, l_10, l_20, l_30, l_31, l_34, l_40, l_65, l_100, l_255, l_11, l_12, l_24, l_600, l_689, l_999, l_120, l_32, nI_add, pk_mul, n_sub, n_leT, n_leF, n_ltT, n_ltF, n_eqT, n_eqF, n_cl, n_vp, fa_andq, fa_orq, fa_xorq, n_shl, n_shr, n_t1, n_t0, n_div, n_m1, not_true_eq_false, Bool.false_eq_true, false_and, Bool.not_false, Bool.not_true, Bool.and_true, Bool.and_false, Bool.false_and, Bool.true_and, true_and, and_true, true_or, or_true, not_false_eq_true, Option.some.injEq, exists_eq_left', forall_eq, ↓reduceIte, Nat.add_zero, Nat.zero_add, and_self]
  refine CPl.off g1.cpl hs hsn n _ fun M2 f2 g2 => ?_
  have x2 := x1.fr f2
  have h2 := h1.fr f2 (by unfold RP; omega)
  simp (disch := omega) only [x2.s, l_0, l_1, l_2, l_3, l_4, l_5, l_6, l_7, l_8, l_9, l_10, l_20, l_30, l_31, l_34, l_40, l_65, l_100, l_255, l_11, l_12, l_24, l_600, l_689, l_999, l_120, l_32, nI_add, pk_mul, n_sub, n_leT, n_leF, n_ltT, n_ltF, n_eqT, n_eqF, n_cl, n_vp, fa_andq, fa_orq, fa_xorq, n_shl, n_shr, n_t1, n_t0, n_div, n_m1, not_true_eq_false, Bool.false_eq_true, false_and, Bool.not_false, Bool.not_true, Bool.and_true, Bool.and_false, Bool.false_and, Bool.true_and, true_and, and_true, true_or, or_true, not_false_eq_true, Option.some.injEq, exists_eq_left', forall_eq, ↓reduceIte, Nat.add_zero, Nat.zero_add, and_self]
  have kq2 := (kq.fr f1 (by unfold RP; omega)).fr f2 (by unfold RP; omega)
  refine s_X7_reasonAgainst hs g.1 x2 kq2 h2 g2 (by omega) (by omega) (by omega) (by omega) _ fun M3 f3 => ?_
  have f03 : FK x (RDr x) M M3 := (((FK.of f1 (by unfold RP; omega)).mono fun q hq => by unfold RP at hq; unfold RDr; omega).trans ((FK.of f2 (by unfold RP; omega)).mono fun q hq => by unfold RP at hq; unfold RDr; omega)).trans (f3.mono fun q hq => by unfold RK at hq; unfold RDr; omega)
  have wl := whyN_lt sg (off pl s) (oS pl s 1) t (oS pl s 3) (oS pl s 2)
  have K0 := K M3 f03
  unfold mvN at K K0
  by_cases c : whyN sg (off pl s) (oS pl s 1) t (oS pl s 3) (oS pl s 2) = 0
  · obtain ⟨w1, w2, w3⟩ := why0 c g.1
    rw [if_pos c] at K K0
    have x3 := x2.fr f3.1
    have h3 := h2.fr f3.1 (by unfold RK; omega)
    have g3 := g2.fr f3.1 (by unfold RK; omega)
    simp (disch := omega) only [c, x3.s, l_0, l_1, l_2, l_3, l_4, l_5, l_6, l_7, l_8, l_9, l_10, l_20, l_30, l_31, l_34, l_40, l_65, l_100, l_255, l_11, l_12, l_24, l_600, l_689, l_999, l_120, l_32, nI_add, pk_mul, n_sub, n_leT, n_leF, n_ltT, n_ltF, n_eqT, n_eqF, n_cl, n_vp, fa_andq, fa_orq, fa_xorq, n_shl, n_shr, n_t1, n_t0, n_div, n_m1, not_true_eq_false, Bool.false_eq_true, false_and, Bool.not_false, Bool.not_true, Bool.and_true, Bool.and_false, Bool.false_and, Bool.true_and, true_and, and_true, true_or, or_true, not_false_eq_true, Option.some.injEq, exists_eq_left', forall_eq, ↓reduceIte, Nat.add_zero, Nat.zero_add, and_self]
    refine s_X7_addToDraft hs x3 (f3.2 kq2) h3 g.1 g3 w1 (by omega) (by omega) (by omega) (by omega) _ fun M4 f4 g4 => ?_
    have x4 := x3.fr f4.1
    have h4' := h3.fr f4.1 (by unfold RDr; omega)
    have pm : PG sg (mvP sg pl s t) := PGmv hs hp hsn ht c
    have K1 := K M4 (f03.trans f4) (fun _ => g4)
    simp (disch := omega) only [x4.s, e_X7_isEveryConcertRehearsed hs pm.1 x4.xr h4' (show CPl (x + 13) sg (mvP sg pl s t) M4 from g4), l_0, l_1, l_2, l_3, l_4, l_5, l_6, l_7, l_8, l_9, l_10, l_20, l_30, l_31, l_34, l_40, l_65, l_100, l_255, l_11, l_12, l_24, l_600, l_689, l_999, l_120, l_32, nI_add, pk_mul, n_sub, n_leT, n_leF, n_ltT, n_ltF, n_eqT, n_eqF, n_cl, n_vp, fa_andq, fa_orq, fa_xorq, n_shl, n_shr, n_t1, n_t0, n_div, n_m1, not_true_eq_false, Bool.false_eq_true, false_and, Bool.not_false, Bool.not_true, Bool.and_true, Bool.and_false, Bool.false_and, Bool.true_and, true_and, and_true, true_or, or_true, not_false_eq_true, Option.some.injEq, exists_eq_left', forall_eq, ↓reduceIte, Nat.add_zero, Nat.zero_add, and_self]
    by_cases c2 : rehd sg (mvP sg pl s t) = true
    · rw [if_pos c2] at K1
      simp (disch := omega) only [c2, bI_t, l_0, l_1, l_2, l_3, l_4, l_5, l_6, l_7, l_8, l_9, l_10, l_20, l_30, l_31, l_34, l_40, l_65, l_100, l_255, l_11, l_12, l_24, l_600, l_689, l_999, l_120, l_32, nI_add, pk_mul, n_sub, n_leT, n_leF, n_ltT, n_ltF, n_eqT, n_eqF, n_cl, n_vp, fa_andq, fa_orq, fa_xorq, n_shl, n_shr, n_t1, n_t0, n_div, n_m1, not_true_eq_false, Bool.false_eq_true, false_and, Bool.not_false, Bool.not_true, Bool.and_true, Bool.and_false, Bool.false_and, Bool.true_and, true_and, and_true, true_or, or_true, not_false_eq_true, Option.some.injEq, exists_eq_left', forall_eq, ↓reduceIte, Nat.add_zero, Nat.zero_add, and_self]
      exact K1
    · rw [if_neg c2] at K1
      simp (disch := omega) only [b_no c2, bI_f, l_0, l_1, l_2, l_3, l_4, l_5, l_6, l_7, l_8, l_9, l_10, l_20, l_30, l_31, l_34, l_40, l_65, l_100, l_255, l_11, l_12, l_24, l_600, l_689, l_999, l_120, l_32, nI_add, pk_mul, n_sub, n_leT, n_leF, n_ltT, n_ltF, n_eqT, n_eqF, n_cl, n_vp, fa_andq, fa_orq, fa_xorq, n_shl, n_shr, n_t1, n_t0, n_div, n_m1, not_true_eq_false, Bool.false_eq_true, false_and, Bool.not_false, Bool.not_true, Bool.and_true, Bool.and_false, Bool.false_and, Bool.true_and, true_and, and_true, true_or, or_true, not_false_eq_true, Option.some.injEq, exists_eq_left', forall_eq, ↓reduceIte, Nat.add_zero, Nat.zero_add, and_self]
      exact K1
  · rw [if_neg c] at K0
    simp (disch := omega) only [l_0, l_1, l_2, l_3, l_4, l_5, l_6, l_7, l_8, l_9, l_10, l_20, l_30, l_31, l_34, l_40, l_65, l_100, l_255, l_11, l_12, l_24, l_600, l_689, l_999, l_120, l_32, nI_add, pk_mul, n_sub, n_leT, n_leF, n_ltT, n_ltF, n_eqT, n_eqF, n_cl, n_vp, fa_andq, fa_orq, fa_xorq, n_shl, n_shr, n_t1, n_t0, n_div, n_m1, not_true_eq_false, Bool.false_eq_true, false_and, Bool.not_false, Bool.not_true, Bool.and_true, Bool.and_false, Bool.false_and, Bool.true_and, true_and, and_true, true_or, or_true, not_false_eq_true, Option.some.injEq, exists_eq_left', forall_eq, ↓reduceIte, Nat.add_zero, Nat.zero_add, and_self]
    exact K0 (fun z => absurd z c)
end AD
