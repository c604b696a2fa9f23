/-! CHANGES: rehearse, concert, cancel, move, recast, setContract -/
section CH
variable {x : Nat} {sg pl pl2 : Nat → Nat} {hn : Nat} {hl : Nat → Nat → Nat} {sv : Nat → Bool} {sl : Nat → Nat → Nat} {bl : Nat} {bf : Nat → Int32} {ep : Nat} {nm : Nat → List Nat} {M : Mm}
theorem push_ok {G : (Nat → Nat) → Prop} (h10 : hn ≤ 10) (hp : G pl) (h : ∀ i, i < hn → G (hl i)) : ∀ i, i < pushn hn → G (push hn hl pl i) := fun i hi => by
  unfold pushn at hi
  unfold push
  by_cases c : hn = 10
  · rw [if_pos c] at hi
    simp only [if_pos c]
    by_cases d : i = 9
    · simp only [if_pos d]; exact hp
    · simp only [if_neg d]; exact h (i + 1) (by omega)
  · rw [if_neg c] at hi
    simp only [if_neg c]
    by_cases d : i = hn
    · simp only [if_pos d]; exact hp
    · simp only [if_neg d]; exact h i (by omega)
theorem pushn_le (h10 : hn ≤ 10) : pushn hn ≤ 10 := by unfold pushn; split <;> omega
theorem OKs.push (ok : OKs (sg, pl, hn, hl, sv, sl, bl, bf, ep, nm)) (h : PG sg pl2) : OKs (sg, pl2, pushn hn, push hn hl pl, sv, sl, bl, bf, ep, nm) := by
  obtain ⟨hs, hp, h10, hhl, hsl, hbl, hby, hep, nm1, nm2, nm3, nm4⟩ := ok
  exact ⟨hs, h, pushn_le h10, push_ok h10 hp hhl, hsl, hbl, hby, hep, nm1, nm2, nm3, nm4⟩
theorem s_accCI (ok : OKs (sg, pl, hn, hl, sv, sl, bl, bf, ep, nm)) (c : CI x (sg, pl, hn, hl, sv, sl, bl, bf, ep, nm) M) (hd : CPl (x + 13) sg pl2 M) (hb2 : PB sg pl2) (P : Mm → Prop)
    (K : ∀ M', CI x (sg, pl2, pushn hn, push hn hl pl, sv, sl, bl, bf, ep, nm) M' → FrG x (x + 149) M M' → P M') : w_X7_acceptDraft M x P := by
  obtain ⟨hs, hp, h10, hhl, hsl, hbl, hby, hep, nm1, nm2, nm3, nm4⟩ := ok
  obtain ⟨c10, sa, sp, hps, hx, hS, hS2, hP, hD, hH, hN, hB, hNm, hKP⟩ := c
  have at_ := hx.at
  refine s_X7_acceptDraft hs hx hP hd hp.1 hb2 hH h10 P fun M2 hp2 f g k1 k2 => ?_
  refine K M2 ⟨pushn_le h10, sa, sp, hp2, hx.frx f, hS.frx f (by omega) (by unfold RA; omega), hS2.frx f (by omega), k1, hD.frx f (by omega), k2, hN.frx f (by unfold RA; omega) (by unfold RA; omega), ?_, ?_, hKP.e (f.i (by unfold RA; omega))⟩ (f.g (fun b hb => by unfold RA at hb; omega) (by omega))
  · unfold CBu at hB ⊢
    rw [g 7 (by omega), g 8 (by omega), f.i (b := x + 1) (by unfold RA; omega)]; exact hB
  · unfold CNm at hNm ⊢
    rw [f.j]; exact hNm
/-- adding a service: class -/
theorem s_addService_ok (ok : OKs (sg, pl, hn, hl, sv, sl, bl, bf, ep, nm)) (c : CI x (sg, pl, hn, hl, sv, sl, bl, bf, ep, nm) M) {ha t S k : Nat} (h1 : ha < sg 1) (h2 : t < sg 0 * 3) (hS5 : S < 2 ^ sg 3) (hk : k < 2) (w0 : whyN sg pl ha t S k = 0) (P : Int32 → Mm → Prop) (X : String → Mm → Prop)
    (K : ∀ M', CI x (sg, cm sg pl (psn pl ha t) t ha S k (free sg pl t), pushn hn, push hn hl pl, sv, sl, bl, bf, ep, nm) M' → FrG x (x + 149) M M' → P (nI (psn pl ha t)) M') : w_X7_addService M x (nI ha) (nI t) (nI S) (nI k) P X := by
  have ok2 := ok
  obtain ⟨hs, hp, h10, hhl, hsl, hbl, hby, hep, nm1, nm2, nm3, nm4⟩ := ok
  have c2 := c
  obtain ⟨c10, sa, sp, hps, hx, hS, hS2, hP, hD, hH, hN, hB, hNm, hKP⟩ := c
  have b := hs.b
  have at_ := hx.at
  have pw := p2le (sg 3) (by omega)
  obtain ⟨w1, w2, w3⟩ := why0 w0 hp.1
  have pc2 : PG sg (cm sg pl (psn pl ha t) t ha S k (free sg pl t)) := PGcm hs hp w1 (by omega) h1 (by omega) hS5 w2 w3
  simp (disch := omega) only [w_X7_addService, hx.s, not_true_eq_false, Bool.false_eq_true, false_and, Bool.not_false, Bool.not_true, Bool.and_true, Bool.and_false, Bool.false_and, Bool.true_and, true_and, and_true, true_or, or_true, not_false_eq_true, Option.some.injEq, exists_eq_left', forall_eq, ↓reduceIte, Nat.add_zero, Nat.zero_add, and_self]
  refine s_X7_reasonAgainst hs hp.1 hx hKP hS hP h1 (by omega) (by omega) hk _ fun M2 f2 => ?_
  have x2 := hx.fr f2.1
  have S2 := hS.fr f2.1 (by unfold RK; omega)
  have P2 := hP.fr f2.1 (by unfold RK; omega)
  have D2 := hD.fr f2.1
  simp (disch := omega) only [w0, w_X7_requireState, x2.s, D2.u, l_0, l_1, l_2, l_3, l_4, l_5, l_6, l_7, l_8, l_9, l_10, l_20, l_30, l_31, l_34, l_40, l_65, l_100, l_255, l_11, l_12, l_24, l_600, l_689, l_999, l_120, l_32, nI_add, pk_mul, n_sub, n_leT, n_leF, n_ltT, n_ltF, n_eqT, n_eqF, n_cl, n_vp, fa_andq, fa_orq, fa_xorq, n_shl, n_shr, n_t1, n_t0, n_div, n_m1, not_true_eq_false, Bool.false_eq_true, false_and, Bool.not_false, Bool.not_true, Bool.and_true, Bool.and_false, Bool.false_and, Bool.true_and, true_and, and_true, true_or, or_true, not_false_eq_true, Option.some.injEq, exists_eq_left', forall_eq, ↓reduceIte, Nat.add_zero, Nat.zero_add, and_self]
  refine s_X4_copyFrom D2 P2.raw (by omega) hp.1.n (by omega) _ fun M3 f3 g3 => ?_
  have x3 := x2.fr f3
  have S3 := S2.fr f3 (by unfold RP; omega)
  simp (disch := omega) only [x3.s, not_true_eq_false, Bool.false_eq_true, false_and, Bool.not_false, Bool.not_true, Bool.and_true, Bool.and_false, Bool.false_and, Bool.true_and, true_and, and_true, true_or, or_true, not_false_eq_true, Option.some.injEq, exists_eq_left', forall_eq, ↓reduceIte, Nat.add_zero, Nat.zero_add, and_self]
  refine s_X7_addToDraft hs x3 ((f2.2 hKP).fr f3 (by unfold RP; omega)) S3 hp.1 g3.cpl w1 (by omega) (by omega) hk (by omega) _ fun M4 f4 g4 => ?_
  have x4 := x3.fr f4.1
  have F : FK x (RDr x) M M4 := ((RK.g f2).trans ((FK.of f3 (by unfold RP; omega)).mono fun q hq => by unfold RP at hq; unfold RDr; omega)).trans f4
  simp (disch := omega) only [x4.s, not_true_eq_false, Bool.false_eq_true, false_and, Bool.not_false, Bool.not_true, Bool.and_true, Bool.and_false, Bool.false_and, Bool.true_and, true_and, and_true, true_or, or_true, not_false_eq_true, Option.some.injEq, exists_eq_left', forall_eq, ↓reduceIte, Nat.add_zero, Nat.zero_add, and_self]
  exact s_accCI ok2 (c2.dr F) g4 pc2.1 _ fun M5 c5 g5 => K M5 c5 ((RDr.g F).trans g5)
theorem s_addService_no (ok : OKs (sg, pl, hn, hl, sv, sl, bl, bf, ep, nm)) (c : CI x (sg, pl, hn, hl, sv, sl, bl, bf, ep, nm) M) {ha t S k : Nat} (h1 : ha < sg 1) (h2 : t < sg 0 * 3) (hS5 : S < 2 ^ sg 3) (hk : k < 2) (w0 : whyN sg pl ha t S k ≠ 0) (P : Int32 → Mm → Prop) (X : String → Mm → Prop)
    (K : ∀ M', CI x (sg, pl, hn, hl, sv, sl, bl, bf, ep, nm) M' → FrG x (x + 149) M M' → X "java/lang/IllegalStateException" M') : w_X7_addService M x (nI ha) (nI t) (nI S) (nI k) P X := by
  obtain ⟨hs, hp, h10, hhl, hsl, hbl, hby, hep, nm1, nm2, nm3, nm4⟩ := ok
  have c2 := c
  obtain ⟨c10, sa, sp, hps, hx, hS, hS2, hP, hD, hH, hN, hB, hNm, hKP⟩ := c
  have b := hs.b
  have pw := p2le (sg 3) (by omega)
  have wl := whyN_lt sg pl ha t S k
  simp (disch := omega) only [w_X7_addService, hx.s, not_true_eq_false, Bool.false_eq_true, false_and, Bool.not_false, Bool.not_true, Bool.and_true, Bool.and_false, Bool.false_and, Bool.true_and, true_and, and_true, true_or, or_true, not_false_eq_true, Option.some.injEq, exists_eq_left', forall_eq, ↓reduceIte, Nat.add_zero, Nat.zero_add, and_self]
  refine s_X7_reasonAgainst hs hp.1 hx hKP hS hP h1 (by omega) (by omega) hk _ fun M2 f2 => ?_
  simp (disch := omega) only [w_X7_requireState, l_0, l_1, l_2, l_3, l_4, l_5, l_6, l_7, l_8, l_9, l_10, l_20, l_30, l_31, l_34, l_40, l_65, l_100, l_255, l_11, l_12, l_24, l_600, l_689, l_999, l_120, l_32, nI_add, pk_mul, n_sub, n_leT, n_leF, n_ltT, n_ltF, n_eqT, n_eqF, n_cl, n_vp, fa_andq, fa_orq, fa_xorq, n_shl, n_shr, n_t1, n_t0, n_div, n_m1, not_true_eq_false, Bool.false_eq_true, false_and, Bool.not_false, Bool.not_true, Bool.and_true, Bool.and_false, Bool.false_and, Bool.true_and, true_and, and_true, true_or, or_true, not_false_eq_true, Option.some.injEq, exists_eq_left', forall_eq, ↓reduceIte, Nat.add_zero, Nat.zero_add, and_self]
  exact fun n1 hn1 => K _ ((c2.dr (RK.g f2)).sZ) ((RDr.g (RK.g f2)).trans (FrG.sZ hn1))
end CH