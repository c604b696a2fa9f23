/-! PARSE: the class reads a text -/
theorem sgi_0 (d : Nat) : sgi d 0 = d := if_pos rfl
section PRD
variable {x y z sp L : Nat} {bf : Nat → Int32} {M : Mm}
theorem s_X3_read (hc : PCx x y z sp L bf M) (y2 : zI M y 2 = nI 0) (z2 : zI M z 2 = nI 0) (z3 : zI M z 3 = nI 4294967295) (P : Mm → Prop)
    (K1 : ∀ s2, parseL L bf = Sum.inr s2 → ∀ M', FQ (RPa y z sp) M M' → CPS x y z sp L bf s2 M' → P M')
    (K0 : ∀ c q, parseL L bf = Sum.inl (c, q) → ∀ M', FQ (RPa y z sp) M M' → CFl z c q M' → P M') : w_X3_read M z P := by
  have hz := hc.2.1
  have d := hc.2.2.2
  refine ⟨hz.1, sp, hz.2.2, hc.2.2.1.1.1, s_X6_clear hc.2.2.1 _ fun M1 f1 c0 c1 c2 c3 => ?_⟩
  have F1 : FQ (fun b => sp ≤ b ∧ b ≤ sp + 20) M M1 := fq_I f1 fun b hb => by unfold RSe at hb; omega
  have h1 := hc.fq F1 (by omega) (fun b hb => by unfold RPa; omega)
  refine ⟨h1.2.1.1, y, h1.2.1.2.1, h1.1.1, ?_⟩
  refine s_X5_advance h1.1 (Nat.zero_le L) (by rw [F1.i (by omega)]; exact y2) _ fun M2 f2 r2 t2 => ?_
  have f2q : FQ (fun b => b = y) M1 M2 := fq_J f2 rfl
  have h2 : PCx x y z sp L bf M2 := h1.fr (fq_J f2 (Or.inl rfl)) (by rw [r2.2.2.1, h1.1.2.2.1])
  have F2 : FQ (RPa y z sp) M M2 := (F1.mono fun b hb => by unfold RPa; omega).trans (f2q.mono fun b hb => by unfold RPa; omega)
  refine ⟨h2.2.1.1, s_X3_readDays h2 (Nat.zero_le L) t2 _ (fun q dd e M3 f3 h3 t3 d3 o3 => ?_) fun c q e M3 f3 k3 => ?_⟩
  · have F3 : FQ (RPa y z sp) M M3 := F2.trans (f3.mono fun b hb => by unfold RPa; omega)
    have G : ∀ b, b ≠ y → b ≠ sp → zI M3 b = zI M1 b := fun b i1 i2 => by rw [f3.i (by omega), f2q.i (by omega)]
    have S : ∀ i, i ≠ 0 → zI M3 sp i = zI M1 sp i := fun i hi => by rw [o3 i hi, f2q.i (by omega)]
    have z1 := sgi_o dd (k := 1) (by omega)
    have z2_ := sgi_o dd (k := 2) (by omega)
    have z3_ := sgi_o dd (k := 3) (by omega)
    have z4 := sgi_o dd (k := 4) (by omega)
    have z5 := sgi_o dd (k := 5) (by omega)
    have Z : ∀ b, b = z → zI M3 b = zI M b := fun b hb => by rw [G b (by omega) (by omega), F1.i (by omega)]
    have cps : CPS x y z sp L bf (q, sgi dd, fun _ => [], fun _ => 0, false) M3 := by
      refine ⟨h3, t3, ?_, ?_, ⟨h3.2.2.1, ?_, ?_, ?_, ?_, ?_⟩, ⟨?_, ?_, ?_, ?_⟩, ?_, ?_, ?_, ?_⟩
      · rw [Z z rfl]; exact z2
      · rw [Z z rfl]; exact z3
      · rw [sgi_0, z1, z2_, z3_, z4, z5, S 1 (by omega), G (sp + 1) (by omega) (by omega), G (sp + 4) (by omega) (by omega), G (sp + 13) (by omega) (by omega), G (sp + 11) (by omega) (by omega)]
        exact ⟨d3, c1.1, c1.2.2.1, c1.2.2.2.1, c1.2.2.2.2.2, c1.2.2.2.2.1⟩
      · intro k hk; omega
      · intro k hk; omega
      · intro k hk; omega
      · intro k hk; omega
      · intro k hk; omega
      · intro k hk; omega
      · intro k hk; omega
      · intro k hk; omega
      · intro k hk; omega
      · rw [S 2 (by omega)]; exact c1.2.1
      · intro k a b
        rw [G (sp + 9) (by omega) (by omega), G (sp + 10) (by omega) (by omega)]; exact c2 k b
      · intro w a b
        rw [G (sp + 19) (by omega) (by omega)]; exact c3 w b
    refine ⟨L + 2, s_C_stmts (L + 1) 0 _ M3 cps (sgi_ok e) (by dsimp only; omega) (Nat.zero_le _) (fun s2 e2 M4 f4 c4 => K1 s2 ?_ M4 (F3.trans f4) c4) (fun c q2 e2 M4 f4 k4 => K0 c q2 ?_ M4 (F3.trans f4) k4)⟩
    · unfold parseL; rw [e]; exact e2
    · unfold parseL; rw [e]; exact e2
  · refine ⟨1, ?_⟩
    rw [l_X3_read_21]
    exact ifn (by decide) (ifp rfl (K0 c q (by unfold parseL; rw [e]) M3 (F2.trans f3) k3))
end PRD
/-! the class takes over what it read -/
section PBG
variable {x sa sp : Nat} {M : Mm}
theorem s_X7_begin (h : XS x sa sp M) (hk : zk M sp = 6 ∧ zR M sp 6 = some (sp + 6) ∧ zk M (sp + 6) = 10 ∧ zl M (sp + 6) = 8) (hP : PlanSh M (x + 6)) (P : Mm → Prop)
    (K : ∀ M', zn M' = zn M → zk M' = zk M → zl M' = zl M → zJ M' = zJ M → (∀ b, b ≠ x → zR M' b = zR M b) → (∀ i, zR M' x i = if i = 10 then some sp else if i = 11 then some sa else zR M x i) →
      (∀ b, b ≠ x → b ≠ x + 6 → b ≠ x + 12 → b ≠ x + 22 → zI M' b = zI M b) → (∀ i, i ≠ 9 → zI M' x i = zI M x i) → zI M' x 9 = nI 0 → zI M' (x + 6) 0 = nI 0 → (∀ k, k < 8 → zI M' (x + 12) k = zI M (sp + 6) k) → (∀ i, i < 2 → zI M' (x + 22) i = nI 0) → P M') : w_X7_begin M x P := by
  obtain ⟨⟨⟨k7, r0, r1, r2, r3, r4, r5, r6, r10, r11⟩, k1, l1, k19, l19, k20, l20, k21, l21⟩, hk2, at_⟩ := h
  obtain ⟨p4, ⟨-, -, -, -, -, pr6⟩, ⟨-, -, -, -, -, pk6⟩, -, -, -, -, -, pl6⟩ := hP
  have d : x + 23 ≤ sa ∧ sa ≤ x + 44 ∧ x + 23 ≤ sp ∧ sp ≤ x + 44 := by omega
  refine ⟨k7, sp, r11, k7, sa, r10, k7, fun M3 e3 => ⟨by rw [e3]; exact k7, fun M4 e4 => ?_⟩⟩
  have n4 : zn M4 = zn M := by rw [e4, e3]; rfl
  have kk4 : zk M4 = zk M := by rw [e4, e3]; rfl
  have ll4 : zl M4 = zl M := by rw [e4, e3]; rfl
  have ii4 : zI M4 = zI M := by rw [e4, e3]; rfl
  have jj4 : zJ M4 = zJ M := by rw [e4, e3]; rfl
  have rr4 : ∀ b, b ≠ x → zR M4 b = zR M b := fun b hb => by rw [e4, zR_sRo _ _ _ _ hb, e3, zR_sRo _ _ _ _ hb]
  have rx4 : ∀ i, zR M4 x i = if i = 10 then some sp else if i = 11 then some sa else zR M x i := fun i => by
    rw [e4, zR_sR, e3, zR_sR]
    by_cases c : i = 10
    · rw [if_pos ⟨rfl, c⟩, if_pos c]
    · rw [if_neg (fun u => c u.2), if_neg c]
      by_cases c2 : i = 11
      · rw [if_pos ⟨rfl, c2⟩, if_pos c2]
      · rw [if_neg (fun u => c2 u.2), if_neg c2]
  have q2 : zR M4 x 2 = some (x + 6) := by rw [rx4]; exact r2
  have q6 : zR M4 x 6 = some (x + 22) := by rw [rx4]; exact r6
  have q10 : zR M4 x 10 = some sp := by rw [rx4]; rfl
  refine ⟨by rw [kk4]; exact k7, x + 6, q2, by rw [kk4]; exact k7, sp, q10, by rw [kk4]; exact hk.1, sp + 6, by rw [rr4 _ (by omega)]; exact hk.2.1, by rw [kk4]; exact p4, ?_⟩
  refine ⟨by rw [kk4]; exact p4, fun M5 e5 => ?_⟩
  have q56 : zR M5 (x + 6) 6 = some (x + 12) := by
    rw [e5, zR_sI, rr4 _ (by omega)]; exact pr6
  refine ⟨by rw [e5, zk_sI, kk4]; exact p4, x + 12, q56, by rw [e5, zk_sI, kk4]; exact hk.2.2.1, by rw [e5, zk_sI, kk4]; exact pk6, by decide, by decide, by decide, ?_, ?_, fun M6 e6 => ?_⟩
  · rw [e5, zl_sI, ll4, hk.2.2.2]; decide
  · rw [e5, zl_sI, ll4, show x + 12 = x + 6 + 6 by omega, pl6]; decide
  have k6 : zk M6 = zk M := by rw [e6]; show zk M5 = zk M; rw [e5]; exact kk4
  have n6 : zn M6 = zn M := by rw [e6]; show zn M5 = zn M; rw [e5]; exact n4
  have l6 : zl M6 = zl M := by rw [e6]; show zl M5 = zl M; rw [e5]; exact ll4
  have j6 : zJ M6 = zJ M := by rw [e6]; show zJ M5 = zJ M; rw [e5]; exact jj4
  have r6_ : zR M6 = zR M4 := by rw [e6]; show zR M5 = zR M4; rw [e5]; rfl
  have i6 : ∀ b, b ≠ x + 6 → b ≠ x + 12 → zI M6 b = zI M b := fun b h1 h2 => by
    rw [e6]
    funext i
    rw [zI_sC, if_neg (fun u => h2 u.1), e5, zI_sIo _ _ _ _ h1, ii4]
  have i65 : zI M6 (x + 6) 0 = nI 0 := by
    rw [e6, zI_sC, if_neg (fun u => by have := u.1; omega), e5, zI_sI1]; rfl
  have i611 : ∀ k, k < 8 → zI M6 (x + 12) k = zI M (sp + 6) k := fun k hk8 => by
    rw [e6, zI_sC, if_pos ⟨rfl, Nat.zero_le _, by show k < 0 + 8; omega⟩, e5, zI_sIo _ _ _ _ (by omega), ii4]
    show zI M (sp + 6) (0 + (k - 0)) = zI M (sp + 6) k
    rw [Nat.zero_add, Nat.sub_zero]
  refine ⟨by rw [k6]; exact k7, fun M7 e7 => ?_⟩
  have q6b : zR M7 x 6 = some (x + 22) := by rw [e7, zR_sI, r6_]; exact q6
  have k7b : zk M7 x = 7 := by rw [e7, zk_sI, k6]; exact k7
  have k21b : zk M7 (x + 22) = 12 := by rw [e7, zk_sI, k6]; exact k21
  have l21b : zl M7 (x + 22) = 2 := by rw [e7, zl_sI, l6]; exact l21
  refine lpI (fun n (u : Mm × Int32) => l_X7_begin_39 P (fun M12 => P M12) n u.1 x u.2) (fun k u => (FrI (fun b => b = x + 22) M7 u.1 ∧ ∀ i, i < k → zI u.1 (x + 22) i = nI 0) ∧ u.2 = nI k) 2 ?_ ?_ (M7, nI 0) ⟨⟨FrI.rf, fun i hi => absurd hi (Nat.not_lt_zero i)⟩, rfl⟩
  · rintro n ⟨M8, x8⟩ ⟨⟨f, g⟩, e8⟩
    dsimp only at f g e8 ⊢
    subst e8
    simp (disch := omega) only [l_X7_begin_39, l_2, n_leT, not_true_eq_false, Bool.false_eq_true, false_and, Bool.not_false, Bool.not_true, Bool.and_true, Bool.and_false, Bool.false_and, Bool.true_and, true_and, and_true, true_or, or_true, not_false_eq_true, Option.some.injEq, exists_eq_left', forall_eq, ↓reduceIte, Nat.add_zero, Nat.zero_add, and_self]
    refine K M8 ?_ ?_ ?_ ?_ (fun b hb => ?_) (fun i => ?_) (fun b h1 h2 h3 h4 => ?_) (fun i hi => ?_) ?_ ?_ (fun k hk8 => ?_) g
    · rw [f.n, e7]; exact n6
    · rw [f.k, e7, zk_sI]; exact k6
    · rw [f.l, e7, zl_sI]; exact l6
    · rw [f.j, e7, zJ_sI]; exact j6
    · rw [f.r, e7, zR_sI, r6_]; exact rr4 b hb
    · rw [f.r, e7, zR_sI, r6_]; exact rx4 i
    · rw [f.i h4, e7, zI_sIo _ _ _ _ h1]; exact i6 b h2 h3
    · rw [f.i (by omega), e7, zI_sI2 _ _ _ _ hi, i6 x (by omega) (by omega)]
    · rw [f.i (by omega), e7, zI_sI1]; rfl
    · rw [f.i (by omega), e7, zI_sIo _ _ _ _ (by omega)]; exact i65
    · rw [f.i (by omega), e7, zI_sIo _ _ _ _ (by omega)]; exact i611 k hk8
  · rintro n k ⟨M8, x8⟩ hk2 ⟨⟨f, g⟩, e8⟩ LL
    dsimp only at f g e8 LL ⊢
    subst e8
    simp (disch := omega) only [l_X7_begin_39, f.k, f.l, f.r, k7b, q6b, k21b, l21b, l_0, l_1, l_2, n_leF, n_vp, n_cl, nar0, nI_add, not_true_eq_false, Bool.false_eq_true, false_and, Bool.not_false, Bool.not_true, Bool.and_true, Bool.and_false, Bool.false_and, Bool.true_and, true_and, and_true, true_or, or_true, not_false_eq_true, Option.some.injEq, exists_eq_left', forall_eq, ↓reduceIte, Nat.add_zero, Nat.zero_add, and_self]
    refine LL (sI M8 (x + 22) k (nI 0), nI (k + 1)) ⟨⟨f.trans (FrI.sI rfl), fun j hj => ?_⟩, rfl⟩
    by_cases e : j = k
    · subst e; exact zI_sI1 _ _ _ _
    · exact (zI_sI2 _ _ _ _ e).trans (g j (by omega))
end PBG
