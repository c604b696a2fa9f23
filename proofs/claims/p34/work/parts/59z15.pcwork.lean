/-! PARSE: the line of a work, in the class -/
section PCS
variable {x y z sp L p w t : Nat} {bf : Nat → Int32} {sg ct : Nat → Nat} {nm : Nat → List Nat} {dt : Bool} {M : Mm}
theorem seat_cps (h : CPS x y z sp L bf (p, sg, nm, ct, dt) M) (ww : Ww L w t (p, sg, nm, ct, dt)) {j : Nat} {M4 : Mm}
    (F : FQ (fun q => q = y ∨ q = sp + 19 ∨ q = sp + 20) M M4) (h4 : PCx x y z sp L bf M4) (t4 : RT y L bf (tN L bf p) M4) (ht : t < 6)
    (e19 : ∀ k, zI M4 (sp + 19) k = if k = w then nI (t + 1) else zI M (sp + 19) k) (e20 : ∀ k, zI M4 (sp + 20) k = if k = w * 6 + t then nI j else zI M (sp + 20) k) :
    CPS x y z sp L bf (tN L bf p, seatS sg w j, nm, ct, dt) M4 := by
  obtain ⟨hc, tt, z2, z3, hS, hNm, hct, hdt, hf1, hf2⟩ := h
  obtain ⟨i1, i2, i3, i4, i5, i6, i7, i8, i9, i10, i11, i12⟩ := ww
  have nn := hS.n
  have d := hc.2.2.2
  have G : ∀ q, q ≠ y → q ≠ sp + 19 → q ≠ sp + 20 → zI M4 q = zI M q ∧ zJ M4 q = zJ M q := fun q a b c => ⟨F.i (by omega), F.j (by omega)⟩
  have o_ : ∀ k, k < 65 → seatS sg w j k = sg k := fun k a => seatS_o w j (by omega) (by omega)
  have oPe : ∀ q f, q < 8 → f < 7 → oP (seatS sg w j) q f = oP sg q f := fun q f h1 h2 => o_ _ (by omega)
  have oWe : ∀ q f, q ≠ w → f < 11 → oW (seatS sg w j) q f = oW sg q f := fun q f h1 h2 => seatS_o w j (by omega) (by omega)
  have oWw : ∀ f, f < 4 → oW (seatS sg w j) w f = oW sg w f := fun f h2 => seatS_o w j (by omega) (by omega)
  have sea : CSea sp (seatS sg w j) M4 := by
    refine ⟨h4.2.2.1, ?_, ?_, ?_, ?_, ?_⟩
    · rw [o_ 0 (by omega), o_ 5 (by omega), o_ 1 (by omega), o_ 2 (by omega), o_ 3 (by omega), o_ 4 (by omega), (G sp (by omega) (by omega) (by omega)).1, (G (sp + 1) (by omega) (by omega) (by omega)).1, (G (sp + 4) (by omega) (by omega) (by omega)).1, (G (sp + 13) (by omega) (by omega) (by omega)).1, (G (sp + 11) (by omega) (by omega) (by omega)).1]
      exact nn
    · intro k hk
      rw [o_ 1 (by omega)] at hk
      rw [o_ _ (by omega), (G (sp + 3) (by omega) (by omega) (by omega)).1]; exact hS.h k hk
    · intro q hq
      rw [o_ 2 (by omega)] at hq
      have l4 := i11 q hq
      have kE : kinds (seatS sg w j) q = kinds sg q := by
        unfold kinds
        rw [oPe q 2 (by omega) (by omega)]
        exact fo_ext (N := oP sg q 2) (fun i a hi => by rw [oPe q (3 + i) (by omega) (by omega)]) 0 _ (Nat.le_refl _)
      rw [kE, oPe q 0 (by omega) (by omega), oPe q 3 (by omega) (by omega), oPe q 1 (by omega) (by omega), (G (sp + 7) (by omega) (by omega) (by omega)).1, (G (sp + 8) (by omega) (by omega) (by omega)).1, (G (sp + 9) (by omega) (by omega) (by omega)).1, (G (sp + 10) (by omega) (by omega) (by omega)).1]
      exact hS.p hq
    · intro q hq
      rw [o_ 3 (by omega)] at hq
      have old := hS.w hq
      rw [(G (sp + 15) (by omega) (by omega) (by omega)).1, (G (sp + 16) (by omega) (by omega) (by omega)).1, (G (sp + 17) (by omega) (by omega) (by omega)).1, (G (sp + 18) (by omega) (by omega) (by omega)).1, e19]
      by_cases e : q = w
      · subst e
        rw [if_pos rfl, oWw 0 (by omega), oWw 1 (by omega), oWw 2 (by omega), oWw 3 (by omega), seatS_c, i7]
        exact ⟨old.1, old.2.1, old.2.2.1, old.2.2.2.1, rfl⟩
      · rw [if_neg e, oWe q 0 e (by omega), oWe q 1 e (by omega), oWe q 2 e (by omega), oWe q 3 e (by omega), oWe q 4 e (by omega)]
        exact old
    · intro q hq i hi
      rw [o_ 3 (by omega)] at hq
      rw [e20]
      by_cases e : q = w
      · subst e
        rw [seatS_c, i7] at hi
        by_cases e2 : i = t
        · subst e2
          have v := seatS_j (sg := sg) q j
          rw [i7] at v
          rw [if_pos rfl, v]
        · rw [if_neg (by omega), show oW (seatS sg q j) q (5 + i) = oW sg q (5 + i) from seatS_o q j (by omega) (by omega)]
          exact hS.st hq (by omega)
      · rw [oWe q 4 e (by omega)] at hi
        have l6 := i10 q (by omega)
        rw [if_neg (by omega), oWe q (5 + i) e (by omega)]
        exact hS.st hq hi
  have names : CNm sp (seatS sg w j) nm M4 := by
    unfold CNm
    rw [o_ 1 (by omega), o_ 2 (by omega), o_ 3 (by omega), o_ 4 (by omega), (G (sp + 2) (by omega) (by omega) (by omega)).2, (G (sp + 5) (by omega) (by omega) (by omega)).2, (G (sp + 14) (by omega) (by omega) (by omega)).2, (G (sp + 12) (by omega) (by omega) (by omega)).2]
    exact hNm
  refine ⟨h4, t4, ?_, ?_, sea, names, ?_, ?_, ?_, ?_⟩
  · rw [(G z (by omega) (by omega) (by omega)).1]; exact z2
  · rw [(G z (by omega) (by omega) (by omega)).1]; exact z3
  · rw [o_ 2 (by omega), (G (sp + 6) (by omega) (by omega) (by omega)).1]; exact hct
  · rw [(G sp (by omega) (by omega) (by omega)).1]; exact hdt
  · rw [o_ 2 (by omega), (G (sp + 9) (by omega) (by omega) (by omega)).1, (G (sp + 10) (by omega) (by omega) (by omega)).1]; exact hf1
  · rw [o_ 3 (by omega)]
    intro q a b
    rw [e19, if_neg (by omega)]; exact hf2 q a b
theorem s_X3_readSeat (h : CPS x y z sp L bf (p, sg, nm, ct, dt) M) (ww : Ww L w t (p, sg, nm, ct, dt)) (P : Int32 → Mm → Prop)
    (K1 : ∀ s2, seatL L bf w (p, sg, nm, ct, dt) = Sum.inr s2 → ∀ M', FQ (RPa y z sp) M M' → CPS x y z sp L bf s2 M' → P (nI 1) M')
    (K0 : ∀ c q, seatL L bf w (p, sg, nm, ct, dt) = Sum.inl (c, q) → ∀ M', FQ (RPa y z sp) M M' → CFl z c q M' → P (nI 0) M') : w_X3_readSeat M z (nI w) P := by
  have h0 := h
  have ww0 := ww
  obtain ⟨hc, tt, z2, z3, hS, hNm, hct, hdt, hf1, hf2⟩ := h
  obtain ⟨i1, i2, i3, i4, i5, i6, i7, i8, i9, i10, i11, i12⟩ := ww
  have sh := hS.1
  obtain ⟨s1, ⟨-, -, -, -, a5, a6, -, -, -, -, b3, -⟩, ⟨-, -, -, -, -, -, -, -, -, -, m19, m20⟩, -, -, -, -, -, -, -, -, l12, -, -, -, -, -, l19, l20⟩ := sh
  have nn := hS.n
  have d := hc.2.2.2
  have hz := hc.2.1
  have r := hc.1
  have t3 := tt.2.1
  have kb := tK_b (L := L) (bf := bf) (p := p)
  have hN : NMS (sp + 11) (sp + 12) 8 (sg 4) (fun k => nm (24 + k)) M := ⟨a5, a6, b3, l12, by omega, nn.2.2.2.2.2, i4, by omega, fun k hk => ⟨hNm.2.2.2 k hk, i12 k hk⟩⟩
  by_cases c1 : tK L bf p = 1
  · have t3b : zI M y 3 = nI 1 := by rw [t3, c1]
    have j5 := tt.2.2.2.1 c1
    have okw := tK_1 (fun i hi => (r.2.2.2.2.2.2.2 i hi).2) c1
    obtain ⟨j, hj⟩ : ∃ j, nj L bf p sg nm = j := ⟨_, rfl⟩
    have hj2 : fi (fun k => decide (nm (24 + k) = tW L bf p)) (sg 4) = j := hj
    have q11 : zR M sp 11 = some (sp + 11) := by simp only [s1]
    have q17 : zR M sp 17 = some (sp + 19) := by simp only [s1]
    have vp19 : vp_in (nI w) (zl M (sp + 19)) := by rw [l19]; exact vpn i6 (by decide)
    have cn : (nI w).toNatClampNeg = w := n_cl (by omega)
    have mm : nI 4294967295 = (-1 : Int32) := by decide
    have v19 : zI M (sp + 19) w = nI t := by rw [← i7]; exact (hS.w (by omega)).2.2.2.2
    refine ⟨hz.1, y, hz.2.1, r.1, ifp (by rw [t3b]; rfl) ⟨hz.1, sp, hz.2.2, s1.1, sp + 11, q11, hz.1, y, hz.2.1, r.1, a5, ?_⟩⟩
    rw [j5]
    refine (s_X2_find hN okw _).mpr ?_
    by_cases c2 : j < sg 4
    · have fe : fst (fun k => decide (nm (24 + k) = tW L bf p)) (sg 4) = nI j := by
        rw [fst_lt (show fi (fun k => decide (nm (24 + k) = tW L bf p)) (sg 4) < sg 4 by rw [hj2]; exact c2), hj2]
      have jm : ¬ nI j = (-1 : Int32) := fun u => by rw [← mm, n_eqF (by omega) (by omega) (by omega)] at u; exact u
      rw [fe]
      refine ifn jm ⟨hz.1, sp, hz.2.2, s1.1, sp + 19, q17, m19, vp19, ?_⟩
      rw [cn, v19]
      by_cases c3 : t = 6
      · refine ifn (nI_nlt (b := 6) (show 6 ≤ t by omega) (by omega)) ⟨hz.1, ?_⟩
        exact s_X3_fail (c := 5) hc tt _ fun M1 f1 g1 e1 => ⟨Or.inl rfl, K0 5 _ (by simp only [seatL]; rw [if_pos c1, hj, if_pos c2, if_pos (by omega)]) M1 f1 e1⟩
      · refine ifp (nI_lt (b := 6) (show t < 6 by omega) (by decide)) ⟨hz.1, sp, hz.2.2, s1.1, ?_⟩
        have v19b : ∀ v, zI (sI M (sp + 20) (w * 6 + t) v) (sp + 19) w = nI t := fun v => by rw [zI_sIo _ _ _ _ (by omega)]; exact v19
        simp (disch := omega) only [w_X6_addSeat, hz, r.1, s1, m19, l19, m20, l20, v19, v19b, pk_mul, nI_add, l_0, l_1, l_6, n_eqT, n_vp, n_cl, zk_sI, zl_sI, zR_sI, not_true_eq_false, Bool.false_eq_true, false_and, Bool.not_false, Bool.not_true, Bool.and_true, Bool.and_false, Bool.false_and, Bool.true_and, true_and, and_true, true_or, or_true, not_false_eq_true, Option.some.injEq, exists_eq_left', forall_eq, ↓reduceIte, Nat.add_zero, Nat.zero_add, and_self]
        have F3 : FQ (fun q => q = sp + 19 ∨ q = sp + 20) M (sI (sI M (sp + 20) (w * 6 + t) (nI j)) (sp + 19) w (nI (t + 1))) := (fq_sI (Or.inr rfl)).trans (fq_sI (Or.inl rfl))
        refine s_P_advance (hc.fq F3 (by omega) (fun b hb => by unfold RPa; omega)) i1 (tt.fq F3 (by omega)) _ fun M5 f5 h5 t5 => ?_
        have f5q : FQ (fun q => q = y) (sI (sI M (sp + 20) (w * 6 + t) (nI j)) (sp + 19) w (nI (t + 1))) M5 := fq_J f5 rfl
        have F5 : FQ (fun q => q = y ∨ q = sp + 19 ∨ q = sp + 20) M M5 := (F3.mono fun b hb => by omega).trans (f5q.mono fun b hb => by omega)
        refine K1 _ (by simp only [seatL]; rw [if_pos c1, hj, if_pos c2, if_neg (by omega)]) M5 (F5.mono fun b hb => by unfold RPa; omega) (seat_cps h0 ww0 F5 h5 t5 (by omega) (fun k => ?_) fun k => ?_)
        · rw [f5q.i (by omega)]
          by_cases e : k = w
          · rw [e, zI_sI1, if_pos rfl]
          · rw [zI_sI2 _ _ _ _ e, if_neg e, zI_sIo _ _ _ _ (by omega)]
        · rw [f5q.i (by omega), zI_sIo _ _ _ _ (by omega)]
          by_cases e : k = w * 6 + t
          · rw [e, zI_sI1, if_pos rfl]
          · rw [zI_sI2 _ _ _ _ e, if_neg e]
    · have fe : fst (fun k => decide (nm (24 + k) = tW L bf p)) (sg 4) = nI 4294967295 := by
        unfold fst
        rw [if_neg (show ¬ fi (fun k => decide (nm (24 + k) = tW L bf p)) (sg 4) < sg 4 by rw [hj2]; exact c2)]
      rw [fe]
      refine ifp mm ⟨hz.1, ?_⟩
      exact s_X3_fail (c := 4) hc tt _ fun M1 f1 g1 e1 => ⟨Or.inl rfl, K0 4 _ (by simp only [seatL]; rw [if_pos c1, hj, if_neg c2]) M1 f1 e1⟩
  · have F := s_X3_fail (c := 1) hc tt (fun r3 M3 => (r3 = nI 0 ∨ r3 = nI 1) ∧ P r3 M3) fun M1 f1 g1 e1 => ⟨Or.inl rfl, K0 1 _ (by simp only [seatL]; rw [if_neg c1]) M1 f1 e1⟩
    exact ⟨hz.1, y, hz.2.1, r.1, ifn (fun u => by rw [t3, l_1, n_eqF c1 (by omega) (by omega)] at u; exact u) ⟨hz.1, F⟩⟩
end PCS
section PCW
variable {x y z sp L w : Nat} {bf : Nat → Int32} {P : Int32 → Mm → Prop} {K109 K117 : Mm → Prop}
theorem s_C_seats : ∀ (f t : Nat) (s : PS) (M : Mm), t + f = 7 → CPS x y z sp L bf s M → Ww L w t s → (t = 0 ∨ tK L bf s.1 = 1) →
    (∀ s2, seatsL L bf w f s = Sum.inr s2 → ∀ M', FQ (RPa y z sp) M M' → CPS x y z sp L bf s2 M' → K117 M') →
    (∀ c q, seatsL L bf w f s = Sum.inl (c, q) → ∀ M', FQ (RPa y z sp) M M' → CFl z c q M' → K109 M') → l_X3_readWork_150 P K109 K117 (f + 1) M z (nI w) (nI t) := by
  intro f
  induction f with
  | zero =>
    intro t s M e h iw
    obtain ⟨p, sg, nm, ct, dt⟩ := s
    obtain ⟨-, -, -, -, -, -, -, i8, -⟩ := iw
    omega
  | succ f ih =>
    intro t s M e h iw ht K1 K0
    obtain ⟨p, sg, nm, ct, dt⟩ := s
    have hc := h.1
    have tt := h.2.1
    have hz := hc.2.1
    have R : w_X3_readSeat M z (nI w) (fun r16 M16 => if r16 = nI 0 then K109 M16 else l_X3_readWork_150 P K109 K117 (f + 1) M16 z (nI w) (nI (t + 1))) := by
      refine s_X3_readSeat h iw _ (fun s2 e2 M2 f2 c2 => ifn (by decide) ?_) (fun c q e2 M2 f2 k2 => ifp rfl (K0 c q (by simp only [seatsL, e2]) M2 f2 k2))
      obtain ⟨iw2, t4⟩ := seatL_ww iw e2
      obtain ⟨p2, sg2, nm2, ct2, dt2⟩ := s2
      by_cases ck : tK L bf p2 = 1
      · refine ih (t + 1) (p2, sg2, nm2, ct2, dt2) M2 (by omega) c2 iw2 (Or.inr ck) (fun s3 e3 M3 f3 c3 => K1 s3 ?_ M3 (f2.trans f3) c3) (fun c q e3 M3 f3 k3 => K0 c q ?_ M3 (f2.trans f3) k3)
        · simp only [seatsL, e2, ck, if_true]; exact e3
        · simp only [seatsL, e2, ck, if_true]; exact e3
      · have k := K1 _ (by simp only [seatsL, e2, ck, if_false]) M2 f2 c2
        have hz2 := c2.1.2.1
        have r2 := c2.1.1
        have t3 := c2.2.1.2.1
        have kb := tK_b (L := L) (bf := bf) (p := p2)
        simp (disch := omega) only [l_X3_readWork_150, hz2, r2.1, t3, l_0, l_1, l_600, n_eqF, n_leF, not_true_eq_false, Bool.false_eq_true, false_and, Bool.not_false, Bool.not_true, Bool.and_true, Bool.and_false, Bool.false_and, Bool.true_and, true_and, and_true, true_or, or_true, not_false_eq_true, Option.some.injEq, exists_eq_left', forall_eq, ↓reduceIte, Nat.add_zero, Nat.zero_add, and_self]
        exact k
    rw [l_X3_readWork_150, nI_1']
    by_cases c0 : t = 0
    · subst c0
      exact ifp rfl ⟨hz.1, R⟩
    · have c1 : tK L bf p = 1 := by
        rcases ht with q | q
        · exact absurd q c0
        · exact q
      obtain ⟨-, -, -, -, -, -, -, i8, -⟩ := iw
      exact ifn (fun u => by rw [l_0, n_eqF c0 (by omega) (by omega)] at u; exact u) (ifn (nI_ge (b := 600) (show t < 600 by omega) (by decide)) ⟨hz.1, y, hz.2.1, hc.1.1, ifp (by rw [tt.2.1, c1]; rfl) ⟨hz.1, R⟩⟩)
/-- a number told, tried and laid into field f, place i -/
theorem s_C_num {p f c i N lo hi : Nat} {M : Mm} {lo' hi' i' : Int32} {FAIL REST : Mm → Prop} (h : PCx x y z sp L bf M) (hp : p ≤ L) (t : RT y L bf p M) (hr : zR M sp f = some (sp + c)) (hk : zk M (sp + c) = 10) (hl : zl M (sp + c) = N) (hi_ : i < N) (hN : N < 1000) (c1 : 1 ≤ c) (c2 : c ≤ 20) (e1 : lo' = nI lo) (e2 : hi' = nI hi) (e3 : i' = nI i) (b1 : lo < 2000) (b2 : hi < 2000)
    (K1 : nerr L bf p lo hi = 0 → ∀ M', FQ (fun q => q = y ∨ q = sp + c) M M' → PCx x y z sp L bf M' → RT y L bf (tN L bf p) M' → (∀ k, zI M' (sp + c) k = if k = i then nI (tV L bf p) else zI M (sp + c) k) → REST M')
    (K0 : nerr L bf p lo hi ≠ 0 → ∀ M', FQ (RPa y z sp) M M' → CFl z (nerr L bf p lo hi) (tS L bf p) M' → FAIL M') :
    w_X3_isNumber M z lo' hi' (fun r6 M6 => (if r6 = 0 then FAIL M6 else (zk M6 z = 3 ∧ ∃ a7, zR M6 z 1 = some a7 ∧ (zk M6 a7 = 6 ∧ ∃ a8, zR M6 a7 f = some a8 ∧ zk M6 z = 3 ∧ w_X3_takeNumber M6 z (fun r9 M9 => zk M9 a8 = 10 ∧ vp_in i' (zl M9 a8) ∧ (∀ M10, M10 = sI M9 a8 i'.toNatClampNeg r9 → REST M10)))))) := by
  subst e1 e2 e3
  have hz := h.2.1
  have d := h.2.2.2
  refine s_X3_isNumber h t b1 b2 _ (fun n0 i6 => ifn (by decide) ⟨hz.1, sp, hz.2.2, h.2.2.1.1.1, sp + c, hr, hz.1, ?_⟩) fun n0 M2 f2 k2 => ifp rfl (K0 n0 M2 f2 k2)
  refine s_X3_takeNumber h hp t i6 _ fun M2 f2 h2 t2 => ?_
  have f2q : FQ (fun q => q = y) M M2 := fq_J f2 rfl
  refine ⟨by rw [f2q.k]; exact hk, by rw [f2q.l, hl]; exact vpn hi_ (by omega), fun M10 e10 => ?_⟩
  rw [n_cl (by omega)] at e10
  have f3 : FQ (fun q => q = sp + c) M2 M10 := by rw [e10]; exact fq_sI rfl
  refine K1 n0 M10 ((f2q.mono fun b hb => by omega).trans (f3.mono fun b hb => by omega)) (h2.fq f3 (by omega) (fun b hb => by unfold RPa; omega)) (t2.fq f3 (by omega)) fun k => ?_
  rw [e10]
  by_cases e : k = i
  · rw [e, zI_sI1, if_pos rfl]
  · rw [zI_sI2 _ _ _ _ e, if_neg e, f2q.i (by omega)]
end PCW
