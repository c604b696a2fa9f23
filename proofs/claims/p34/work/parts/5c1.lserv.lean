/-! ALL SERVICES are asked -/
section SV
variable {x ga e G : Nat} {sg pl : Nat → Nat} {hn : Nat} {hl : Nat → Nat → Nat} {sv : Nat → Bool} {sl : Nat → Nat → Nat} {bl : Nat} {bf : Nat → Int32} {ep : Nat} {nm : Nat → List Nat} {M : Mm}
theorem s_L_services_44 (h : WD x ga e (sg, pl, hn, hl, sv, sl, bl, bf, ep, nm) pl G M) {s w a t0 : Nat} (hsn : s < pl 0) (hw : w < sg 3) {P : Int32 → Mm → Prop} {K101 : Mm → Prop} {K125 : Mm → Nat → Nat → Int32 → Int32 → Int32 → Int32 → Prop}
    (K : ∀ M', WD x ga e (sg, pl, hn, hl, sv, sl, bl, bf, ep, nm) pl G M' → K125 M' x e (nI s) (nI (inW sg pl s w a)) (nI t0) (nI w)) : ∃ n, l_L_services_44 P K101 K125 n M x e (nI s) (nI a) (nI t0) (nI w) (0 : Int32) := by
  have hs : SB sg := h.ok.1
  have hb : PG sg pl := h.ok.2.1
  have b9 := hs.b
  have n9 := hb.1.n
  have sc := hs.sc hw
  rw [l_0]
  by_cases t : (oS pl s 3).testBit w = true
  · refine lpI (fun n (z : Mm × Int32 × Int32) => l_L_services_44 P K101 K125 n z.1 x e (nI s) z.2.1 (nI t0) (nI w) z.2.2) (fun j z => WD x ga e (sg, pl, hn, hl, sv, sl, bl, bf, ep, nm) pl G z.1 ∧ z.2.1 = nI (fo (fun j b => b ||| 2 ^ oS pl s (4 + 6 * w + j)) j a) ∧ z.2.2 = nI j) (oW sg w 4) (fun n z hz => ?_) (fun n j z hj hz LL => ?_) (M, nI a, nI 0) ⟨h, rfl, rfl⟩
    · obtain ⟨M1, x3, x6⟩ := z
      obtain ⟨w1, e1, e2⟩ := hz
      simp only at e1 e2
      subst e1 e2
      have h1 := w1.lt
      obtain ⟨st, s1, -, ⟨s2, s3⟩, s4⟩ := (h1.w hw).2
      have k := K M1 w1
      unfold inW at k
      rw [if_pos t] at k
      simp (disch := omega) only [l_L_services_44, h1.s, s1, s2, s3, l_0, l_1, l_2, l_3, l_4, l_5, l_6, l_7, l_8, l_9, l_10, l_20, l_30, l_31, l_34, l_40, l_65, l_100, l_255, l_11, l_12, l_24, l_600, l_689, l_999, l_120, l_32, nI_add, pk_mul, n_sub, n_leT, n_leF, n_ltT, n_ltF, n_eqT, n_eqF, n_cl, n_vp, fa_andq, fa_orq, fa_xorq, n_shl, n_shr, n_t1, n_t0, n_div, n_m1, not_true_eq_false, Bool.false_eq_true, false_and, Bool.not_false, Bool.not_true, Bool.and_true, Bool.and_false, Bool.false_and, Bool.true_and, true_and, and_true, true_or, or_true, not_false_eq_true, Option.some.injEq, exists_eq_left', forall_eq, ↓reduceIte, Nat.add_zero, Nat.zero_add, and_self]
      exact k
    · obtain ⟨M1, x3, x6⟩ := z
      obtain ⟨w1, e1, e2⟩ := hz
      simp only at e1 e2
      subst e1 e2
      have h1 := w1.lt
      obtain ⟨st, s1, -, ⟨s2, s3⟩, s4⟩ := (h1.w hw).2
      obtain ⟨c, q1, -, ⟨q3, q4⟩, q5⟩ := w1.dt.c hsn
      obtain ⟨r, u1, -, ⟨u2, u3⟩, u4⟩ := (q5 w (by omega)).1 ⟨hw, t⟩
      have u4j : zI M1 r j = nI (oS pl s (4 + 6 * w + j)) := u4 j hj
      have d := hb.1.c hsn hw t hj
      simp (disch := omega) only [l_L_services_44, h1.s, w1.xk, s1, s2, s3, q1, q3, q4, soN, forall_eq', u1, u2, u3, u4j, l_0, l_1, l_2, l_3, l_4, l_5, l_6, l_7, l_8, l_9, l_10, l_20, l_30, l_31, l_34, l_40, l_65, l_100, l_255, l_11, l_12, l_24, l_600, l_689, l_999, l_120, l_32, nI_add, pk_mul, n_sub, n_leT, n_leF, n_ltT, n_ltF, n_eqT, n_eqF, n_cl, n_vp, fa_andq, fa_orq, fa_xorq, n_shl, n_shr, n_t1, n_t0, n_div, n_m1, not_true_eq_false, Bool.false_eq_true, false_and, Bool.not_false, Bool.not_true, Bool.and_true, Bool.and_false, Bool.false_and, Bool.true_and, true_and, and_true, true_or, or_true, not_false_eq_true, Option.some.injEq, exists_eq_left', forall_eq, ↓reduceIte, Nat.add_zero, Nat.zero_add, and_self]
      refine cc_cast h.ok hsn hw hj M1 _ _ w1.ci fun M2 c2 f2 => ?_
      rw [cs_in (by omega) hw t hj]
      refine ifp rfl (LL (M2, _, _) ⟨w1.c f2 c2, ?_, rfl⟩)
      rfl
  · have ea : inW sg pl s w a = a := if_neg t
    rw [ea] at K
    refine lpI (fun n (z : Mm × Int32 × Int32) => l_L_services_44 P K101 K125 n z.1 x e (nI s) z.2.1 (nI t0) (nI w) z.2.2) (fun j z => WD x ga e (sg, pl, hn, hl, sv, sl, bl, bf, ep, nm) pl G z.1 ∧ z.2.1 = nI a ∧ z.2.2 = nI j) (oW sg w 4) (fun n z hz => ?_) (fun n j z hj hz LL => ?_) (M, nI a, nI 0) ⟨h, rfl, rfl⟩
    · obtain ⟨M1, x3, x6⟩ := z
      obtain ⟨w1, e1, e2⟩ := hz
      simp only at e1 e2
      subst e1 e2
      have h1 := w1.lt
      obtain ⟨st, s1, -, ⟨s2, s3⟩, s4⟩ := (h1.w hw).2
      have k := K M1 w1
      simp (disch := omega) only [l_L_services_44, h1.s, s1, s2, s3, l_0, l_1, l_2, l_3, l_4, l_5, l_6, l_7, l_8, l_9, l_10, l_20, l_30, l_31, l_34, l_40, l_65, l_100, l_255, l_11, l_12, l_24, l_600, l_689, l_999, l_120, l_32, nI_add, pk_mul, n_sub, n_leT, n_leF, n_ltT, n_ltF, n_eqT, n_eqF, n_cl, n_vp, fa_andq, fa_orq, fa_xorq, n_shl, n_shr, n_t1, n_t0, n_div, n_m1, not_true_eq_false, Bool.false_eq_true, false_and, Bool.not_false, Bool.not_true, Bool.and_true, Bool.and_false, Bool.false_and, Bool.true_and, true_and, and_true, true_or, or_true, not_false_eq_true, Option.some.injEq, exists_eq_left', forall_eq, ↓reduceIte, Nat.add_zero, Nat.zero_add, and_self]
      exact k
    · obtain ⟨M1, x3, x6⟩ := z
      obtain ⟨w1, e1, e2⟩ := hz
      simp only at e1 e2
      subst e1 e2
      have h1 := w1.lt
      obtain ⟨st, s1, -, ⟨s2, s3⟩, s4⟩ := (h1.w hw).2
      obtain ⟨c, q1, -, ⟨q3, q4⟩, q5⟩ := w1.dt.c hsn
      have u1 := (q5 w (by omega)).2 (fun z => t z.2)
      simp (disch := omega) only [l_L_services_44, h1.s, w1.xk, s1, s2, s3, q1, q3, q4, onN u1, Nat.or_zero, l_0, l_1, l_2, l_3, l_4, l_5, l_6, l_7, l_8, l_9, l_10, l_20, l_30, l_31, l_34, l_40, l_65, l_100, l_255, l_11, l_12, l_24, l_600, l_689, l_999, l_120, l_32, nI_add, pk_mul, n_sub, n_leT, n_leF, n_ltT, n_ltF, n_eqT, n_eqF, n_cl, n_vp, fa_andq, fa_orq, fa_xorq, n_shl, n_shr, n_t1, n_t0, n_div, n_m1, not_true_eq_false, Bool.false_eq_true, false_and, Bool.not_false, Bool.not_true, Bool.and_true, Bool.and_false, Bool.false_and, Bool.true_and, true_and, and_true, true_or, or_true, not_false_eq_true, Option.some.injEq, exists_eq_left', forall_eq, ↓reduceIte, Nat.add_zero, Nat.zero_add, and_self]
      refine cc_cast h.ok hsn hw hj M1 _ _ w1.ci fun M2 c2 f2 => ?_
      rw [cs_out (by omega) (fun z => t z.2.1)]
      exact ifp rfl (LL (M2, _, _) ⟨w1.c f2 c2, rfl, rfl⟩)
theorem s_L_services_32 (h : WD x ga e (sg, pl, hn, hl, sv, sl, bl, bf, ep, nm) pl G M) {s : Nat} (hsn : s < pl 0) {P : Int32 → Mm → Prop} {K101 : Mm → Prop} {K163 : Mm → Nat → Nat → Int32 → Int32 → Int32 → Prop}
    (K : ∀ M', WD x ga e (sg, pl, hn, hl, sv, sl, bl, bf, ep, nm) pl G M' → K163 M' x e (nI s) (nI (inS sg pl s)) (nI (dIn sg pl s 255))) : ∃ n, l_L_services_32 P K101 K163 n M x e (nI s) (0 : Int32) (0 : Int32) (0 : Int32) := by
  have hs : SB sg := h.ok.1
  have hb : PG sg pl := h.ok.2.1
  have b9 := hs.b
  have n9 := hb.1.n
  rw [l_0]
  refine lpI (fun n (z : Mm × Int32 × Int32 × Int32) => l_L_services_32 P K101 K163 n z.1 x e (nI s) z.2.1 z.2.2.1 z.2.2.2) (fun w z => WD x ga e (sg, pl, hn, hl, sv, sl, bl, bf, ep, nm) pl G z.1 ∧ z.2.1 = nI (fo (inW sg pl s) w 0) ∧ z.2.2.1 = nI (fo (dW sg pl s 255) w 0) ∧ z.2.2.2 = nI w) (sg 3) (fun n z hz => ?_) (fun n w z hw hz LL => ?_) (M, nI 0, nI 0, nI 0) ⟨h, rfl, rfl, rfl⟩
  · obtain ⟨M1, x3, x4, x5⟩ := z
    obtain ⟨w1, e1, e2, e3⟩ := hz
    simp only at e1 e2 e3
    subst e1 e2 e3
    have h1 := w1.lt
    simp (disch := omega) only [l_L_services_32, h1.s, h1.n, l_0, l_1, l_2, l_3, l_4, l_5, l_6, l_7, l_8, l_9, l_10, l_20, l_30, l_31, l_34, l_40, l_65, l_100, l_255, l_11, l_12, l_24, l_600, l_689, l_999, l_120, l_32, nI_add, pk_mul, n_sub, n_leT, n_leF, n_ltT, n_ltF, n_eqT, n_eqF, n_cl, n_vp, fa_andq, fa_orq, fa_xorq, n_shl, n_shr, n_t1, n_t0, n_div, n_m1, not_true_eq_false, Bool.false_eq_true, false_and, Bool.not_false, Bool.not_true, Bool.and_true, Bool.and_false, Bool.false_and, Bool.true_and, true_and, and_true, true_or, or_true, not_false_eq_true, Option.some.injEq, exists_eq_left', forall_eq, ↓reduceIte, Nat.add_zero, Nat.zero_add, and_self]
    exact K M1 w1
  · obtain ⟨M1, x3, x4, x5⟩ := z
    obtain ⟨w1, e1, e2, e3⟩ := hz
    simp only at e1 e2 e3
    subst e1 e2 e3
    have h1 := w1.lt
    rw [l_L_services_32]
    refine ⟨h1.s.1.1, ifn (by rw [h1.n.2.2.2.1, n_leF (by omega) (by omega)]; exact not_false) (s_L_services_44 w1 hsn hw fun M2 w2 => ?_)⟩
    have h2 := w2.lt
    obtain ⟨c, q1, -, ⟨q3, q4⟩, q5⟩ := w2.dt.c hsn
    by_cases t : (oS pl s 3).testBit w = true
    · obtain ⟨r, u1, -, ⟨u2, u3⟩, u4⟩ := (q5 w (by omega)).1 ⟨hw, t⟩
      have ed := e_X8_doublings hs h2 hw (a := r) (f := fun j => oS pl s (4 + 6 * w + j)) u2 u3 u4 (fun j hj => hb.1.c hsn hw t hj) (fun r23 M23 => l_L_services_32 P K101 K163 n M23 x e (nI s) (nI (inW sg pl s w (fo (inW sg pl s) w 0))) (nI (fo (dW sg pl s 255) w 0) + r23) (nI w + nI 1))
      simp (disch := omega) only [h2.s, q1, q3, q4, soN, forall_eq', u1, n_vp, n_cl, l_1, not_true_eq_false, Bool.false_eq_true, false_and, Bool.not_false, Bool.not_true, Bool.and_true, Bool.and_false, Bool.false_and, Bool.true_and, true_and, and_true, true_or, or_true, not_false_eq_true, Option.some.injEq, exists_eq_left', forall_eq, ↓reduceIte, Nat.add_zero, Nat.zero_add, and_self]
      refine ed.mpr (LL (M2, _, _, _) ⟨w2, rfl, ?_, by show nI w + nI 1 = nI (w + 1); rw [nI_add]⟩)
      show nI (fo (dW sg pl s 255) w 0) + nI (dbl sg w (fun j => oS pl s (4 + 6 * w + j)) (oW sg w 4)) = nI (fo (dW sg pl s 255) (w + 1) 0)
      rw [nI_add, fo_s, dW_255 hs hb.1 hsn hw t]
    · have u1 := (q5 w (by omega)).2 (fun z => t z.2)
      have e5 : fo (dW sg pl s 255) (w + 1) 0 = fo (dW sg pl s 255) w 0 := dW_no t _
      simp (disch := omega) only [h2.s, q1, q3, q4, onN u1, n_vp, n_cl, l_1, not_true_eq_false, Bool.false_eq_true, false_and, Bool.not_false, Bool.not_true, Bool.and_true, Bool.and_false, Bool.false_and, Bool.true_and, true_and, and_true, true_or, or_true, not_false_eq_true, Option.some.injEq, exists_eq_left', forall_eq, ↓reduceIte, Nat.add_zero, Nat.zero_add, and_self]
      exact LL (M2, _, _, _) ⟨w2, rfl, congrArg nI e5.symm, by show nI w + nI 1 = nI (w + 1); rw [nI_add]⟩
theorem s_L_services_166 (h : WD x ga e (sg, pl, hn, hl, sv, sl, bl, bf, ep, nm) pl G M) {s : Nat} (hsn : s < pl 0) {x3 x4 : Int32} {P : Int32 → Mm → Prop} {K191 : Mm → Prop} {K199 : Mm → Nat → Nat → Int32 → Int32 → Int32 → Prop}
    (K : ∀ M', WD x ga e (sg, pl, hn, hl, sv, sl, bl, bf, ep, nm) pl G M' → K199 M' x e (nI s) x3 x4) : ∃ n, l_L_services_166 P K191 K199 n M x e (nI s) x3 x4 (0 : Int32) := by
  have hs : SB sg := h.ok.1
  have hb : PG sg pl := h.ok.2.1
  have b9 := hs.b
  have n9 := hb.1.n
  rw [l_0]
  refine lpI (fun n (z : Mm × Int32) => l_L_services_166 P K191 K199 n z.1 x e (nI s) x3 x4 z.2) (fun k z => WD x ga e (sg, pl, hn, hl, sv, sl, bl, bf, ep, nm) pl G z.1 ∧ z.2 = nI k) 4 (fun n z hz => ?_) (fun n k z hk hz LL => ?_) (M, nI 0) ⟨h, rfl⟩
  · obtain ⟨M1, x5⟩ := z
    obtain ⟨w1, e1⟩ := hz
    simp only at e1
    subst e1
    simp (disch := omega) only [l_L_services_166, l_0, l_1, l_2, l_3, l_4, l_5, l_6, l_7, l_8, l_9, l_10, l_20, l_30, l_31, l_34, l_40, l_65, l_100, l_255, l_11, l_12, l_24, l_600, l_689, l_999, l_120, l_32, nI_add, pk_mul, n_sub, n_leT, n_leF, n_ltT, n_ltF, n_eqT, n_eqF, n_cl, n_vp, fa_andq, fa_orq, fa_xorq, n_shl, n_shr, n_t1, n_t0, n_div, n_m1, not_true_eq_false, Bool.false_eq_true, false_and, Bool.not_false, Bool.not_true, Bool.and_true, Bool.and_false, Bool.false_and, Bool.true_and, true_and, and_true, true_or, or_true, not_false_eq_true, Option.some.injEq, exists_eq_left', forall_eq, ↓reduceIte, Nat.add_zero, Nat.zero_add, and_self]
    exact K M1 w1
  · obtain ⟨M1, x5⟩ := z
    obtain ⟨w1, e1⟩ := hz
    simp only at e1
    subst e1
    rw [l_L_services_166]
    refine ifn (by rw [l_4, n_leF (by omega) (by omega)]; exact not_false) ⟨w1.xk, cc_service h.ok hsn (show k < 6 by omega) M1 _ _ w1.ci fun M2 c2 f2 => ?_⟩
    have w2 := w1.c f2 c2
    have h2 := w2.lt
    obtain ⟨a, r1, -, ⟨r2, r3⟩, r4⟩ := w2.dt.s hsn
    have r4k : zI M2 a k = nI (oS pl s k) := r4 k hk
    have ea : seA sg pl s k = nI (oS pl s k) := if_pos hk
    simp (disch := omega) only [h2.s, r1, r2, r3, r4k, ea, n_vp, n_cl, l_1, not_true_eq_false, Bool.false_eq_true, false_and, Bool.not_false, Bool.not_true, Bool.and_true, Bool.and_false, Bool.false_and, Bool.true_and, true_and, and_true, true_or, or_true, not_false_eq_true, Option.some.injEq, exists_eq_left', forall_eq, ↓reduceIte, Nat.add_zero, Nat.zero_add, and_self]
    exact LL (M2, _) ⟨w2, by rw [nI_add]⟩
theorem s_L_services (h : WD x ga e (sg, pl, hn, hl, sv, sl, bl, bf, ep, nm) pl G M) (P : Int32 → Mm → Prop) (K : ∀ M', WD x ga e (sg, pl, hn, hl, sv, sl, bl, bf, ep, nm) pl G M' → P (nI 1) M') : w_L_services M x e P := by
  have hs : SB sg := h.ok.1
  have hb : PG sg pl := h.ok.2.1
  have b9 := hs.b
  have n9 := hb.1.n
  unfold w_L_services
  refine ⟨h.xk, cc_size h.ok (j := 5) (by omega) M _ _ h.ci fun M1 c1 f1 => ?_⟩
  have w1 := h.c f1 c1
  have h1 := w1.lt
  refine ⟨h1.s.1.1, ifp (by rw [w1.dt.n]; rfl) ?_⟩
  refine lpI (fun n (z : Mm × Int32) => l_L_services_16 P (fun M38 => ((0 : Int32) = 0 ∨ (0 : Int32) = 1) ∧ P (0 : Int32) M38) (fun M39 => ((0 : Int32) = 0 ∨ (0 : Int32) = 1) ∧ P (0 : Int32) M39) (fun M40 => ((0 : Int32) = 0 ∨ (0 : Int32) = 1) ∧ P (0 : Int32) M40) (fun M41 x0_41 => zk M41 x0_41 = 7 ∧ w_X7_isWithoutClash M41 x0_41 (fun r42 M42 => (r42 = 0 ∨ r42 = 1) ∧ P r42 M42)) n z.1 x e z.2) (fun s z => WD x ga e (sg, pl, hn, hl, sv, sl, bl, bf, ep, nm) pl G z.1 ∧ z.2 = nI s) (pl 0) (fun n z hz => ?_) (fun n s z hsn hz LL => ?_) (M1, (0 : Int32)) ⟨w1, rfl⟩
  · obtain ⟨M2, x2⟩ := z
    obtain ⟨w2, e1⟩ := hz
    simp only at e1
    subst e1
    have h2 := w2.lt
    rw [l_L_services_16]
    refine ⟨h2.s.1.1, ifp (by rw [w2.dt.n]; exact nI_le (Nat.le_refl _) (by omega)) ⟨w2.xk, cc_isWithoutClash h.ok M2 _ w2.ci fun M3 c3 f3 => ⟨Or.inr rfl, K M3 (w2.c f3 c3)⟩⟩⟩
  · obtain ⟨M2, x2⟩ := z
    obtain ⟨w2, e1⟩ := hz
    simp only at e1
    subst e1
    have h2 := w2.lt
    have d := hb.1.s hs hsn
    rw [l_L_services_16]
    refine ⟨h2.s.1.1, ifn (by rw [w2.dt.n, n_leF (by omega) (by omega)]; exact not_false) (s_L_services_32 w2 hsn fun M3 w3 => s_L_services_166 w3 hsn fun M4 w4 => ⟨w4.xk, ?_⟩)⟩
    refine cc_service h.ok hsn (k := 4) (by omega) M4 _ _ w4.ci fun M5 c5 f5 => ?_
    have w5 := w4.c f5 c5
    refine ifp rfl ⟨w5.xk, cc_service h.ok hsn (k := 5) (by omega) M5 _ _ w5.ci fun M6 c6 f6 => ?_⟩
    have w6 := w5.c f6 c6
    have h6 := w6.lt
    obtain ⟨a, r1, -, ⟨r2, r3⟩, r4⟩ := w6.dt.s hsn
    have r40 : zI M6 a 0 = nI (oS pl s 0) := r4 0 (by omega)
    have r41 : zI M6 a 1 = nI (oS pl s 1) := r4 1 (by omega)
    refine ifp rfl ⟨h6.s.1.1, e + 8, h6.s.1.2.2.2.2.2.2.2.2.1, h6.s.2.1.2.2.2.2.2.2.2.1, ?_, a, ?_, r2, ?_, h6.s.1.1, e + 8, h6.s.1.2.2.2.2.2.2.2.2.1, h6.s.2.1.2.2.2.2.2.2.2.1, ?_, a, ?_, r2, ?_, w6.xk, ?_⟩
    · rw [h6.s.2.2.2.2.2.2.2.2.2.1]; exact vp_in_nI (by omega) (by omega)
    · rw [n_cl (by omega)]; exact r1
    · rw [r3]; exact vp_in_nI (n := 1) (by omega) (by omega)
    · rw [h6.s.2.2.2.2.2.2.2.2.2.1]; exact vp_in_nI (by omega) (by omega)
    · rw [n_cl (by omega)]; exact r1
    · rw [r3]; exact vp_in_nI (n := 0) (by omega) (by omega)
    · rw [show (0 : Int32).toNatClampNeg = 0 from rfl, show (1 : Int32).toNatClampNeg = 1 from rfl, r40, r41]
      refine cc_serviceAt h.ok d.2.2.2.2.2.1 (by omega) M6 _ _ w6.ci fun M7 c7 f7 => ?_
      rw [nAt_me hb.2 hsn]
      exact ifp rfl (LL (M7, _) ⟨w6.c f7 c7, by rw [l_1, nI_add]⟩)
end SV
