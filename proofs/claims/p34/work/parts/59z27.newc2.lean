/-! A NEW OBJECT OF THE CLASS, whole -/
theorem st_objk {M2 M3 M4 : Mm} {x c kd : Nat} (e3 : M3 = sN M2 kd 0) (F : FrG c (c + 1) M3 M4) (hn : zn M2 = c) (hx : x < c) : zk M4 x = zk M2 x := by
  have n3 : zn M3 = c + 1 := by rw [e3, zn_sN, hn]
  refine (F.2 x (by omega) (by omega)).1.trans ?_
  rw [e3]; exact kN_o (by omega)
/-- a fact that omega shall not look at -/
def KE (p : Prop) : Prop := p
def st0 : ST := (sgi 1, fun _ => 0, 0, fun _ _ => 0, fun _ => false, fun _ _ => 0, 0, fun _ => 0, 4294967295, fun _ => [])
theorem st0_ok : OKs st0 := by
  have z : ∀ k, k ≠ 0 → sgi 1 k = 0 := fun k hk => sgi_o 1 hk
  have z0 : sgi 1 0 = 1 := rfl
  have z1 := z 1 (by omega)
  have z2 := z 2 (by omega)
  have z3 := z 3 (by omega)
  have z4 := z 4 (by omega)
  have sb : SB (sgi 1) := ⟨⟨by omega, by omega, by omega, by omega, by omega, by omega⟩, fun k => by
    by_cases e : k = 0
    · rw [e, z0]; omega
    · rw [z k e]; omega, fun w hw => by omega, fun q hq => by omega⟩
  exact ⟨sb, ⟨⟨Nat.zero_le _, fun p hp => by omega, fun s hs => absurd hs (Nat.not_lt_zero s)⟩, fun s q h1 h2 => absurd h2 (Nat.not_lt_zero q), fun s hs => absurd hs (Nat.not_lt_zero s), fun s q h1 h2 => absurd h1 (Nat.not_lt_zero s)⟩, Nat.zero_le _, fun i hi => absurd hi (Nat.not_lt_zero i), fun i hi e => (by cases e), Nat.zero_le _, fun i hi => absurd hi (Nat.not_lt_zero i), by omega, fun k hk => by omega, fun k hk => by omega, fun k hk => by omega, fun k hk => by omega⟩
/-- cells lo .. lo + n of a new object, up to the end -/
theorem tcell {x lo n : Nat} {U S Z : Mm} (o : ∀ b, b ≠ x → SM b U S) (g : FrG x (x + 1) S Z) (h0 : x < lo) (h1 : lo + n < zn S) : ∀ i, i ≤ n → SM (lo + i) U Z := fun i hi =>
  (o (lo + i) (by omega)).trans (g.2 (lo + i) (by omega) (by omega))
theorem ihx {w a d : Nat} (h : w = a + d) (hd : 0 < d) : a < w := by omega
theorem ihc {w a c d : Nat} (h : w = a + d) (hd : c < d) : a + c < w := by omega
theorem ihn {w a c n d : Nat} (h : w = a + d) (hd : c + n < d) : a + c + n < w := by omega
theorem sgi_n {i : Nat} (h : i ≠ 0) (k : Nat) : ¬ k < sgi 1 i := by rw [sgi_o 1 h]; exact Nat.not_lt_zero k
/-- the class before its history -/
def N10 (x : Nat) (r0 : Nat → Option Nat) (S : Mm) : Prop := zn S = x + 65 ∧ zk S x = 7 ∧ (∀ i, zR S x i = if i = 11 then some (x + 44) else if i = 10 then some (x + 23) else if i = 6 then some (x + 22) else if i = 5 then some (x + 21) else if i = 4 then some (x + 20) else if i = 3 then some (x + 13) else if i = 2 then some (x + 6) else if i = 1 then some (x + 2) else if i = 0 then some (x + 1) else r0 i) ∧
  (∀ j, zI S x j = if j = 8 then (-1 : Int32) else nI 0) ∧ (zk S (x + 1) = 9 ∧ zl S (x + 1) = 600) ∧ KS (x + 2) S ∧ PlanSh S (x + 6) ∧ zI S (x + 6) 0 = nI 0 ∧ PlanSh S (x + 13) ∧ (zk S (x + 20) = 13 ∧ zl S (x + 20) = 10) ∧ (zk S (x + 21) = 13 ∧ zl S (x + 21) = 2) ∧ (zk S (x + 22) = 12 ∧ zl S (x + 22) = 2) ∧ (∀ j, zI S (x + 22) j = nI 0) ∧
  CSea (x + 23) (sgi 1) S ∧ SeaSh (x + 44) S ∧ KP (x + 2) S
theorem FrT.c {x lo n : Nat} {S Z : Mm} (g : FrT x S Z) (h1 : lo + n < zn S) (h0 : x < lo) (h2 : lo + n < x + 20 ∨ x + 21 < lo) : ∀ i, i ≤ n → SM (lo + i) S Z := fun i hi => g.2 (lo + i) (by omega) (by omega) (by omega) (by omega)
theorem s_new3 {x : Nat} {r0 : Nat → Option Nat} {S : Mm} {P : Mm → Prop} (h : N10 x r0 S) (KK : ∀ M', zn M' = x + 149 → FrT x S M' → CI x st0 M' → P M') : ∃ n99, n99 ≤ 11 ∧ l_X7_init_99 P (fun M29 x0_29 => (∃ n126, n126 ≤ 3 ∧ l_X7_init_126 P (fun M34 => P M34) n126 M29 x0_29 (0 : Int32))) n99 S x (0 : Int32) := by
  obtain ⟨h1, h2, h3, h4, h5, h6, h7, h8, h9, h10, h11, h12, h13, h14, h15, h16⟩ := h
  refine ⟨11, Nat.le_refl _, s_new1 h1 h2 (by rw [h3]; rfl) (fun S11 i11 => ?_) 10 0 S rfl ⟨h1, FrG.rf, h10.1, h10.2, fun i hi => absurd hi (Nat.not_lt_zero i)⟩⟩
  obtain ⟨n11_, f11, k11, l11, p11⟩ := i11
  have n11 : zn S11 = x + 135 := by omega
  have sx11 : SM x S S11 := f11.2 x (ihx h1 (by decide)) (by omega)
  have s20 : SM (x + 21) S S11 := f11.2 (x + 21) (ihc h1 (by decide)) (by omega)
  refine ⟨3, Nat.le_refl _, s_new2 n11 (sx11.1.trans h2) (by rw [congrFun sx11.2.2.2.2 5, h3]; rfl) (fun S12 i12 => ?_) 2 0 S11 rfl ⟨n11, FrG.rf, s20.1.trans h11.1, s20.2.1.trans h11.2, fun i hi => absurd hi (Nat.not_lt_zero i)⟩⟩
  obtain ⟨n12_, f12, k12, l12, p12⟩ := i12
  have n12 : zn S12 = x + 149 := by omega
  have sx : SM x S S12 := sx11.trans (f12.2 x (ihx n11 (by decide)) (by omega))
  have s19 : SM (x + 20) S11 S12 := f12.2 (x + 20) (ihc n11 (by decide)) (by omega)
  have g11 : FrT x S11 S12 := f12.t2
  have g10 : FrT x S S12 := f11.t1.trans g11
  have rx : ∀ i, zR S12 x i = zR S x i := fun i => congrFun sx.2.2.2.2 i
  have ix_ : ∀ j, zI S12 x j = zI S x j := fun j => congrFun sx.2.2.1 j
  have c1 := g10.c (lo := x + 1) (n := 0) (ihn h1 (by decide)) (by omega) (by omega) 0 (by omega)
  have c2 := g10.c (lo := x + 2) (n := 3) (ihn h1 (by decide)) (by omega) (by omega)
  have c5_ := g10.c (lo := x + 6) (n := 6) (ihn h1 (by decide)) (by omega) (by omega)
  have c12 := g10.c (lo := x + 13) (n := 6) (ihn h1 (by decide)) (by omega) (by omega)
  have c21 := g10.c (lo := x + 22) (n := 0) (ihn h1 (by decide)) (by omega) (by omega) 0 (by omega)
  have c22 := g10.c (lo := x + 23) (n := 20) (ihn h1 (by decide)) (by omega) (by omega)
  have c43 := g10.c (lo := x + 44) (n := 20) (ihn h1 (by decide)) (by omega) (by omega)
  have x5 : zI S12 (x + 6) 0 = nI 0 := (congrFun (c5_ 0 (by omega)).2.2.1 0).trans h8
  have hi_ : ∀ i, i < 10 → zR S12 (x + 20) i = some (x + 65 + 7 * i) ∧ PlanSh S12 (x + 65 + 7 * i) ∧ ∃ j, j < 10 ∧ x + 65 + 7 * i = x + 65 + 7 * j := fun i hi => by
    obtain ⟨u1, u2⟩ := p11 i hi
    exact ⟨(congrFun s19.2.2.2.2 i).trans u1, u2.sm (fun j hj => (g11.2 _ (by omega) (by omega) (by omega) (by omega)).sh), i, hi, rfl⟩
  have sn_ : ∀ i, i < 2 → zR S12 (x + 21) i = some (x + 135 + 7 * i) ∧ PlanSh S12 (x + 135 + 7 * i) ∧ zI S12 (x + 22) i = bI false ∧ (false = true → CPl (x + 135 + 7 * i) (sgi 1) (fun _ => 0) S12) := fun i hi => by
    obtain ⟨u1, u2⟩ := p12 i hi
    exact ⟨u1, u2, (congrFun c21.2.2.1 i).trans (h13 i), fun e => by cases e⟩
  have xs : XS x (x + 23) (x + 44) S12 := by
    refine ⟨⟨⟨sx.1.trans h2, ?_, ?_, ?_, ?_, ?_, ?_, ?_, ?_, ?_⟩, c1.1.trans h5.1, c1.2.1.trans h5.2, s19.1.trans k11, s19.2.1.trans l11, k12, l12, c21.1.trans h12.1, c21.2.1.trans h12.2⟩, h6.sm (fun i hi => (c2 i hi).sh), Or.inl ⟨rfl, rfl⟩⟩
    · rw [rx, h3]; rfl
    · rw [rx, h3]; rfl
    · rw [rx, h3]; rfl
    · rw [rx, h3]; rfl
    · rw [rx, h3]; rfl
    · rw [rx, h3]; rfl
    · rw [rx, h3]; rfl
    · rw [rx, h3]; rfl
    · rw [rx, h3]; rfl
  have d : ∀ i j : Nat, i < 10 → j < 10 → i ≠ j → x + 65 + 7 * i ≠ x + 65 + 7 * j := fun i j _ _ hij => by omega
  refine KK S12 n12 g10 ⟨Nat.zero_le _, x + 23, x + 44, fun i => x + 65 + 7 * i, xs, h14.sm c22, h15.sm (fun i hi => (c43 i hi).sh), ⟨h7.sm (fun i hi => (c5_ i hi).sh), x5, fun s hs => absurd hs (Nat.not_lt_zero s), fun p hp => absurd hp (sgi_n (by decide) p)⟩, h9.sm (fun i hi => (c12 i hi).sh), ⟨hi_, d, fun i hi => absurd hi (Nat.not_lt_zero i), ?_⟩, sn_, ⟨?_, ?_, fun i hi => absurd hi (Nat.not_lt_zero i)⟩, ⟨fun k hk => absurd hk (sgi_n (by decide) k), fun k hk => absurd hk (sgi_n (by decide) k), fun k hk => absurd hk (sgi_n (by decide) k), fun k hk => absurd hk (sgi_n (by decide) k)⟩, h16.e (c2 3 (by omega)).2.2.1⟩
  · rw [ix_, h4]; rfl
  · rw [ix_, h4]; rfl
  · rw [ix_, h4]; decide
section N7
variable {x : Nat} {M : Mm} {P : Mm → Prop}
theorem s_X7_init (hk : zk M x = 7) (hn : zn M = x + 1) (hz : ∀ j, zI M x j = nI 0) (KK : ∀ M', zn M' = x + 149 → FrG x (x + 1) M M' → CI x st0 M' → P M') : w_X7_init M x P := by
  refine ⟨by decide, by decide, fun a1 T1 q1 d1 => ?_⟩
  rw [show (600 : Int32).toNatClampNeg = 600 by decide] at d1
  obtain rfl : a1 = x + 1 := q1.trans hn
  refine ⟨by rw [d1, kN_o (by omega)]; exact hk, fun S1 e1 => ?_⟩
  obtain ⟨n1, c1, r1, k1, i1, f1, z1⟩ := st_arr d1 e1 hn (by omega)
  replace c1 : KE _ := c1
  replace n1 : zn S1 = x + 2 := n1
  have k1' : KE (zk S1 x = 7) := k1.trans hk
  clear k1
  -- the caster
  intro a3 T2 q2 d2
  obtain rfl : a3 = x + 2 := q2.trans n1
  have nT2 : zn T2 = x + 2 + 1 := by rw [d2, zn_sN, n1]
  refine s_X0_init (by rw [d2]; exact kN_n n1.symm) nT2 _ fun U2 nU2 fU2 uz2 kU2 iU2 => ?_
  refine ⟨(st_objk d2 fU2 n1 (by omega)).trans k1', fun S2 e2 => ?_⟩
  obtain ⟨f2, r2, k2, i2, n2, o2⟩ := st_obj d2 fU2 e2 n1 (by omega)
  have k2' : KE (zk S2 x = 7) := k2.trans k1'
  clear k2
  have n2' : zn S2 = x + 6 := n2.trans nU2
  -- the plan
  intro a6 T3 q3 d3
  obtain rfl : a6 = x + 6 := q3.trans n2'
  have nT3 : zn T3 = x + 6 + 1 := by rw [d3, zn_sN, n2']
  refine s_X4_init (by rw [d3]; exact kN_n n2'.symm) nT3 _ fun U3 nU3 fU3 uz3 pU3 iU3 => ?_
  refine ⟨(st_objk d3 fU3 n2' (by omega)).trans k2', fun S3 e3 => ?_⟩
  obtain ⟨f3, r3, k3, i3, n3, o3⟩ := st_obj d3 fU3 e3 n2' (by omega)
  have k3' : KE (zk S3 x = 7) := k3.trans k2'
  clear k3
  have n3' : zn S3 = x + 13 := n3.trans nU3
  -- the draft
  intro a9 T4 q4 d4
  obtain rfl : a9 = x + 13 := q4.trans n3'
  have nT4 : zn T4 = x + 13 + 1 := by rw [d4, zn_sN, n3']
  refine s_X4_init (by rw [d4]; exact kN_n n3'.symm) nT4 _ fun U4 nU4 fU4 uz4 pU4 iU4 => ?_
  refine ⟨(st_objk d4 fU4 n3' (by omega)).trans k3', fun S4 e4 => ?_⟩
  obtain ⟨f4, r4, k4, i4, n4, o4⟩ := st_obj d4 fU4 e4 n3' (by omega)
  have k4' : KE (zk S4 x = 7) := k4.trans k3'
  clear k4
  have n4' : zn S4 = x + 20 := n4.trans nU4
  -- history, snapshots, isSaved
  refine ⟨by decide, by decide, fun a12 T5 q5 d5 => ?_⟩
  rw [show (10 : Int32).toNatClampNeg = 10 by decide] at d5
  obtain rfl : a12 = x + 20 := q5.trans n4'
  refine ⟨by rw [d5, kN_o (by omega)]; exact k4', fun S5 e5 => ?_⟩
  obtain ⟨n5, c5_, r5, k5, i5, f5, z5⟩ := st_arr d5 e5 n4' (by omega)
  replace c5_ : KE _ := c5_
  replace n5 : zn S5 = x + 21 := n5
  have k5' : KE (zk S5 x = 7) := k5.trans k4'
  clear k5
  refine ⟨by decide, by decide, fun a14 T6 q6 d6 => ?_⟩
  rw [show (2 : Int32).toNatClampNeg = 2 by decide] at d6
  obtain rfl : a14 = x + 21 := q6.trans n5
  refine ⟨by rw [d6, kN_o (by omega)]; exact k5', fun S6 e6 => ?_⟩
  obtain ⟨n6, c6, r6, k6, i6, f6, z6⟩ := st_arr d6 e6 n5 (by omega)
  replace c6 : KE _ := c6
  replace n6 : zn S6 = x + 22 := n6
  have k6' : KE (zk S6 x = 7) := k6.trans k5'
  clear k6
  refine ⟨by decide, by decide, fun a16 T7 q7 d7 => ?_⟩
  rw [show (2 : Int32).toNatClampNeg = 2 by decide] at d7
  obtain rfl : a16 = x + 22 := q7.trans n6
  refine ⟨by rw [d7, kN_o (by omega)]; exact k6', fun S7 e7 => ?_⟩
  obtain ⟨n7, c7, r7, k7, i7, f7, z7⟩ := st_arr d7 e7 n6 (by omega)
  replace c7 : KE _ := c7
  replace n7 : zn S7 = x + 23 := n7
  have k7' : KE (zk S7 x = 7) := k7.trans k6'
  clear k7
  have y21 : ∀ j, zI S7 (x + 22) j = nI 0 := fun j => by rw [e7, zI_sR, d7]; exact iN_n n6.symm
  refine ⟨k7', fun S8 e8 => ?_⟩
  obtain ⟨n8, r8, k8, i8, f8, z8⟩ := st_int e8
  have n8' : zn S8 = x + 23 := n8.trans n7
  have k8' : KE (zk S8 x = 7) := k8.trans k7'
  clear k8
  -- the season
  intro a19 T9 q9 d9
  obtain rfl : a19 = x + 23 := q9.trans n8'
  have nT9 : zn T9 = x + 23 + 1 := by rw [d9, zn_sN, n8']
  refine s_X6_init (by rw [d9]; exact kN_n n8'.symm) nT9 _ fun U9 nU9 fU9 uz9 pU9 iU9 => ?_
  refine ⟨(st_objk d9 fU9 n8' (by omega)).trans k8', fun S9 e9 => ?_⟩
  obtain ⟨f9, r9, k9, i9, n9, o9⟩ := st_obj d9 fU9 e9 n8' (by omega)
  have k9' : KE (zk S9 x = 7) := k9.trans k8'
  clear k9
  have n9' : zn S9 = x + 44 := n9.trans nU9
  -- the spare season
  intro a22 T10 q10 d10
  obtain rfl : a22 = x + 44 := q10.trans n9'
  have nT10 : zn T10 = x + 44 + 1 := by rw [d10, zn_sN, n9']
  refine s_X6_init (by rw [d10]; exact kN_n n9'.symm) nT10 _ fun U10 nU10 fU10 uz10 pU10 iU10 => ?_
  refine ⟨(st_objk d10 fU10 n9' (by omega)).trans k9', fun S10 e10 => ?_⟩
  obtain ⟨f10, r10, k10, i10, n10, o10⟩ := st_obj d10 fU10 e10 n9' (by omega)
  have k10' : KE (zk S10 x = 7) := k10.trans k9'
  clear k10
  have n10' : zn S10 = x + 65 := n10.trans nU10
  have g9 : FrG x (x + 1) S9 S10 := f10
  have g8 : FrG x (x + 1) S8 S10 := f9.trans g9
  have g7 : FrG x (x + 1) S7 S10 := f8.trans g8
  have g6 : FrG x (x + 1) S6 S10 := f7.trans g7
  have g5 : FrG x (x + 1) S5 S10 := f6.trans g6
  have g4 : FrG x (x + 1) S4 S10 := f5.trans g5
  have g3 : FrG x (x + 1) S3 S10 := f4.trans g4
  have g2 : FrG x (x + 1) S2 S10 := f3.trans g3
  have g1 : FrG x (x + 1) S1 S10 := f2.trans g2
  have g0 : FrG x (x + 1) M S10 := f1.trans g1
  have id1 : ∀ {S : Mm} (b : Nat), b ≠ x → SM b S S := fun b _ => ⟨rfl, rfl, rfl, rfl, rfl⟩
  have b1 := tcell (lo := x + 1) (n := 0) id1 g1 (ih1 (by decide)) (ihn n1 (by decide)) 0 (Nat.zero_le _)
  have b2 := tcell (lo := x + 2) (n := 3) o2 g2 (ih1 (by decide)) (ihn n2' (by decide))
  have b5 := tcell (lo := x + 6) (n := 6) o3 g3 (ih1 (by decide)) (ihn n3' (by decide))
  have b12 := tcell (lo := x + 13) (n := 6) o4 g4 (ih1 (by decide)) (ihn n4' (by decide))
  have b19 := tcell (lo := x + 20) (n := 0) id1 g5 (ih1 (by decide)) (ihn n5 (by decide)) 0 (Nat.zero_le _)
  have b20 := tcell (lo := x + 21) (n := 0) id1 g6 (ih1 (by decide)) (ihn n6 (by decide)) 0 (Nat.zero_le _)
  have b21 := tcell (lo := x + 22) (n := 0) id1 g7 (ih1 (by decide)) (ihn n7 (by decide)) 0 (Nat.zero_le _)
  have b22 := tcell (lo := x + 23) (n := 20) o9 g9 (ih1 (by decide)) (ihn n9' (by decide))
  have b43 := tcell (lo := x + 44) (n := 20) o10 (FrG.rf) (ih1 (by decide)) (ihn n10' (by decide))
  have rr : ∀ i, zR S10 x i = if i = 11 then some (x + 44) else if i = 10 then some (x + 23) else if i = 6 then some (x + 22) else if i = 5 then some (x + 21) else if i = 4 then some (x + 20) else if i = 3 then some (x + 13) else if i = 2 then some (x + 6) else if i = 1 then some (x + 2) else if i = 0 then some (x + 1) else zR M x i := fun i => by
    rw [r10, r9, r8, r7, r6, r5, r4, r3, r2, r1]
  have xi : ∀ j, zI S10 x j = if j = 8 then (-1 : Int32) else nI 0 := fun j => by
    rw [i10, i9, i8, i7, i6, i5, i4, i3, i2, i1, hz]
  have x5 : zI S10 (x + 6) 0 = nI 0 := by
    refine (congrFun (b5 0 (Nat.zero_le _)).2.2.1 0).trans ?_
    show zI U3 (x + 6) 0 = nI 0
    rw [iU3, d3]; exact iN_n n2'.symm
  have S0 : ∀ j, zI S10 (x + 23) j = if j = 0 then nI 1 else nI 0 := fun j => by
    refine (congrFun (b22 0 (Nat.zero_le _)).2.2.1 j).trans ?_
    show zI U9 (x + 23) j = _
    rw [iU9, d9]
    by_cases c : j = 0
    · rw [if_pos c, if_pos c]
    · rw [if_neg c, if_neg c]; exact iN_n n8'.symm
  have Sn : ∀ i, 1 ≤ i → i ≤ 20 → ∀ j, zI S10 (x + 23 + i) j = nI 0 := fun i h1 h2 j => (congrFun (b22 i h2).2.2.1 j).trans (uz9 (x + 23 + i) (Nat.add_le_add_left h1 _) (by rw [nU9]; exact Nat.add_lt_add_left (Nat.lt_succ_of_le h2) _) j)
  have sea : CSea (x + 23) (sgi 1) S10 := by
    refine ⟨pU9.sm (fun i hi => (b22 i hi).sh), ⟨?_, ?_, ?_, ?_, ?_, ?_⟩, fun k hk => absurd hk (sgi_n (by decide) k), fun q hq => absurd hq (sgi_n (by decide) q), fun w hw => absurd hw (sgi_n (by decide) w), fun w hw => absurd hw (sgi_n (by decide) w)⟩
    · rw [S0]; rfl
    · rw [S0, sgi_o 1 (by decide)]; rfl
    · rw [Sn 1 (by decide) (by decide), sgi_o 1 (by decide)]
    · rw [Sn 4 (by decide) (by decide), sgi_o 1 (by decide)]
    · rw [Sn 13 (by decide) (by decide), sgi_o 1 (by decide)]
    · rw [Sn 11 (by decide) (by decide), sgi_o 1 (by decide)]
  refine s_new3 (r0 := zR M x) ⟨n10', k10', rr, xi, ⟨b1.1.trans c1.1, b1.2.1.trans c1.2⟩, kU2.sm (fun i hi => (b2 i hi).sh), pU3.sm (fun i hi => (b5 i hi).sh), x5, pU4.sm (fun i hi => (b12 i hi).sh), ⟨b19.1.trans c5_.1, b19.2.1.trans c5_.2⟩, ⟨b20.1.trans c6.1, b20.2.1.trans c6.2⟩, ⟨b21.1.trans c7.1, b21.2.1.trans c7.2⟩, fun j => (congrFun b21.2.2.1 j).trans (y21 j), sea, pU10.sm (fun i hi => (b43 i hi).sh), fun S _ => ⟨0, by decide, (congrFun (b2 3 (Nat.le_refl _)).2.2.1 S).trans (uz2 (x + 2 + 3) (Nat.add_le_add_left (show 1 ≤ 3 by decide) (x + 2)) (by rw [nU2]; exact Nat.add_lt_add_left (by decide) _) S)⟩⟩ fun S12 m12 g12 ci => ?_
  refine KK S12 m12 ⟨Nat.le_trans g0.1 g12.1, fun b hb h => ?_⟩ ci
  have hb1 : b < x + 1 := by rw [← hn]; exact hb
  have hbx : b < x := Nat.lt_of_le_of_ne (Nat.le_of_lt_succ hb1) fun e => h ⟨Nat.le_of_eq e.symm, hb1⟩
  have nb : ∀ c, b ≠ x + c := fun c e => absurd hbx (Nat.not_lt.mpr (by rw [e]; exact Nat.le_add_right x c))
  exact SM.trans (g0.2 b hb h) (g12.2 b (Nat.lt_of_lt_of_le hb g0.1) (nb 0) (nb 20) (nb 21))
end N7
