/-! CONSTRUCTORS over a fresh store (written by wip/whole/gen_init.py) -/
section INI
variable {M : Mm} {k n : Nat}
theorem kN_n {b : Nat} (h : b = zn M) : zk (sN M k n) b = k := if_pos h
theorem kN_o {b : Nat} (h : b ≠ zn M) : zk (sN M k n) b = zk M b := if_neg h
theorem lN_n {b : Nat} (h : b = zn M) : zl (sN M k n) b = n := if_pos h
theorem lN_o {b : Nat} (h : b ≠ zn M) : zl (sN M k n) b = zl M b := if_neg h
theorem iN_o {b : Nat} (h : b ≠ zn M) : zI (sN M k n) b = zI M b := by funext j; exact if_neg h
theorem rN_o {b : Nat} (h : b ≠ zn M) : zR (sN M k n) b = zR M b := by funext j; exact if_neg h
theorem iN_n {b j : Nat} (h : b = zn M) : zI (sN M k n) b j = nI 0 := if_pos h
theorem zn_sN : zn (sN M k n) = zn M + 1 := rfl
theorem zn_sR {a i : Nat} {v : Option Nat} : zn (sR M a i v) = zn M := rfl
end INI
/-- from lo on all ints are 0 -/
def ZR (lo : Nat) (M : Mm) : Prop := ∀ b, lo ≤ b → b < zn M → ∀ j, zI M b j = nI 0
theorem ZR.new {lo k n : Nat} {M : Mm} (h : ZR lo M) : ZR lo (sN M k n) := fun b h1 h2 j => by
  by_cases e : b = zn M
  · exact iN_n e
  · rw [zn_sN] at h2
    rw [iN_o e]; exact h b h1 (by omega) j
theorem ZR.ref {lo a i : Nat} {v : Option Nat} {M : Mm} (h : ZR lo M) : ZR lo (sR M a i v) := h
theorem ZR.int {lo a i : Nat} {v : Int32} {M : Mm} (h : ZR lo M) (ha : a < lo) : ZR lo (sI M a i v) := fun b h1 h2 j => by
  rw [zI_sIo _ _ _ _ (by omega)]; exact h b h1 h2 j
theorem ih1 {a c : Nat} (h : 1 ≤ c) : a < a + c := by omega
theorem ih2 {w a c d : Nat} (h : w = a + d) (hd : c < d) : a + c < w := by omega
theorem ih3 {a c : Nat} (h : 1 ≤ c) : ¬ (a ≤ a + c ∧ a + c < a + 1) := by omega
theorem ih4 {w a c : Nat} (h : w = a + c) (hc : 1 ≤ c) : a ≠ w := by omega
theorem ih5 {w a c d : Nat} (h : w = a + c) (hc : d < c) : a + d ≠ w := by omega
theorem ih6 {w w2 b : Nat} (h : w2 = b) (e : w = w2 + 1) : w = b + 1 := by omega
theorem zr_0 {a : Nat} {M : Mm} (hn : zn M = a + 1) : ZR (a + 1) M := fun b h1 h2 => by omega
/-- a new array in a field of a -/
theorem st_arr {M M1 M2 : Mm} {a c f kd N : Nat} (e1 : M1 = sN M kd N) (e2 : M2 = sR M1 a f (some c)) (hn : zn M = c) (ha : a < c) :
    zn M2 = c + 1 ∧ (zk M2 c = kd ∧ zl M2 c = N) ∧ (∀ i, zR M2 a i = if i = f then some c else zR M a i) ∧ zk M2 a = zk M a ∧ zI M2 a = zI M a ∧ FrG a (a + 1) M M2 ∧ ∀ lo, ZR lo M → ZR lo M2 := by
  subst e2 e1
  refine ⟨by show zn M + 1 = c + 1; omega, ⟨kN_n (n := N) hn.symm, lN_n (k := kd) hn.symm⟩, fun i => ?_, kN_o (k := kd) (n := N) (by omega), iN_o (k := kd) (n := N) (by omega), FrG.trans frg_N (frg_R (by omega)), fun lo h => h.new.ref⟩
  rw [zR_sR, rN_o (by omega)]
  by_cases e : i = f
  · rw [if_pos ⟨rfl, e⟩, if_pos e]
  · rw [if_neg (fun u => e u.2), if_neg e]
/-- new names in a field of a -/
theorem st_nam {M M1 M2 M3 M4 : Mm} {a c f N : Nat} (e1 : M1 = sN M 2 0) (e2 : M2 = sN M1 11 N) (e3 : M3 = sR M2 c 0 (some (c + 1))) (e4 : M4 = sR M3 a f (some c)) (hn : zn M = c) (ha : a < c) :
    zn M4 = c + 2 ∧ (zk M4 c = 2 ∧ zR M4 c 0 = some (c + 1) ∧ zk M4 (c + 1) = 11 ∧ zl M4 (c + 1) = N) ∧ (∀ i, zR M4 a i = if i = f then some c else zR M a i) ∧ zk M4 a = zk M a ∧ zI M4 a = zI M a ∧ FrG a (a + 1) M M4 ∧ ∀ lo, ZR lo M → ZR lo M4 := by
  have n1 : zn M1 = c + 1 := by rw [e1, zn_sN, hn]
  subst e4 e3 e2
  refine ⟨by show zn M1 + 1 = c + 2; omega, ⟨?_, ?_, kN_n (n := N) (M := M1) (by omega), lN_n (k := 11) (M := M1) (by omega)⟩, fun i => ?_, ?_, ?_, ⟨?_, fun b hb hx => ?_⟩, fun lo h => ?_⟩
  · refine (kN_o (M := M1) (k := 11) (n := N) (by omega)).trans ?_
    rw [e1]; exact kN_n (by omega)
  · rw [zR_sRo _ _ _ _ (by omega), zR_sR1]
  · rw [zR_sR, zR_sRo _ _ _ _ (by omega), rN_o (by omega), e1, rN_o (by omega)]
    by_cases e : i = f
    · rw [if_pos ⟨rfl, e⟩, if_pos e]
    · rw [if_neg (fun u => e u.2), if_neg e]
  · refine (kN_o (M := M1) (k := 11) (n := N) (by omega)).trans ?_
    rw [e1]; exact kN_o (by omega)
  · refine (iN_o (M := M1) (k := 11) (n := N) (by omega)).trans ?_
    rw [e1]; exact iN_o (by omega)
  · show zn M ≤ zn M1 + 1
    omega
  · have g : FrG a (a + 1) M (sN M1 11 N) := by rw [e1]; exact frg_N.trans frg_N
    obtain ⟨g1, g2, g3, g4, g5⟩ := g.2 b hb hx
    exact ⟨g1, g2, g3, g4, by rw [zR_sRo _ _ _ _ (by omega), zR_sRo _ _ _ _ (by omega)]; exact g5⟩
  · have g : ZR lo (sN M1 11 N) := by rw [e1]; exact h.new.new
    exact g
/-- an int in a field of a -/
theorem st_int {M M1 : Mm} {a f : Nat} {v : Int32} (e1 : M1 = sI M a f v) :
    zn M1 = zn M ∧ (∀ i, zR M1 a i = zR M a i) ∧ zk M1 a = zk M a ∧ (∀ i, zI M1 a i = if i = f then v else zI M a i) ∧ FrG a (a + 1) M M1 ∧ ∀ lo, a < lo → ZR lo M → ZR lo M1 := by
  subst e1
  refine ⟨rfl, fun _ => rfl, rfl, fun i => ?_, frg_I (by omega), fun lo hl h => h.int hl⟩
  rw [zI_sIq]
  by_cases e : i = f
  · rw [if_pos ⟨rfl, e⟩, if_pos e]
  · rw [if_neg (fun u => e u.2), if_neg e]
theorem s_X4_init {M : Mm} {a : Nat} (hk : zk M a = 4) (hn : zn M = a + 1) (P : Mm → Prop)
    (KK : ∀ M', zn M' = a + 7 → FrG a (a + 1) M M' → ZR (a + 1) M' → PlanSh M' a → zI M' a = zI M a → P M') : w_X4_init M a P := by
  have Z0 : ZR (a + 1) M := zr_0 hn
  refine ⟨by decide, by decide, fun b1 T1 q1 d1 => ?_⟩
  rw [show (20 : Int32).toNatClampNeg = 20 by decide] at d1
  obtain rfl : b1 = a + 1 := q1.trans hn
  refine ⟨by rw [d1, kN_o (ih4 hn (by decide))]; exact hk, fun S1 e1 => ?_⟩
  obtain ⟨n1, c1, r1, k1, i1, f1, z1⟩ := st_arr d1 e1 hn (ih1 (by decide))
  have p1 : zn S1 = a + 2 := n1
  have k1' := k1.trans hk
  have z1' := z1 (a + 1) Z0
  refine ⟨by decide, by decide, fun b2 T2 q2 d2 => ?_⟩
  rw [show (20 : Int32).toNatClampNeg = 20 by decide] at d2
  obtain rfl : b2 = a + 2 := q2.trans p1
  refine ⟨by rw [d2, kN_o (ih4 p1 (by decide))]; exact k1', fun S2 e2 => ?_⟩
  obtain ⟨n2, c2, r2, k2, i2, f2, z2⟩ := st_arr d2 e2 p1 (ih1 (by decide))
  have p2 : zn S2 = a + 3 := n2
  have k2' := k2.trans k1'
  have z2' := z2 (a + 1) z1'
  refine ⟨by decide, by decide, fun b3 T3 q3 d3 => ?_⟩
  rw [show (20 : Int32).toNatClampNeg = 20 by decide] at d3
  obtain rfl : b3 = a + 3 := q3.trans p2
  refine ⟨by rw [d3, kN_o (ih4 p2 (by decide))]; exact k2', fun S3 e3 => ?_⟩
  obtain ⟨n3, c3, r3, k3, i3, f3, z3⟩ := st_arr d3 e3 p2 (ih1 (by decide))
  have p3 : zn S3 = a + 4 := n3
  have k3' := k3.trans k2'
  have z3' := z3 (a + 1) z2'
  refine ⟨by decide, by decide, fun b4 T4 q4 d4 => ?_⟩
  rw [show (20 : Int32).toNatClampNeg = 20 by decide] at d4
  obtain rfl : b4 = a + 4 := q4.trans p3
  refine ⟨by rw [d4, kN_o (ih4 p3 (by decide))]; exact k3', fun S4 e4 => ?_⟩
  obtain ⟨n4, c4, r4, k4, i4, f4, z4⟩ := st_arr d4 e4 p3 (ih1 (by decide))
  have p4 : zn S4 = a + 5 := n4
  have k4' := k4.trans k3'
  have z4' := z4 (a + 1) z3'
  refine ⟨by decide, by decide, fun b5 T5 q5 d5 => ?_⟩
  rw [show (600 : Int32).toNatClampNeg = 600 by decide] at d5
  obtain rfl : b5 = a + 5 := q5.trans p4
  refine ⟨by rw [d5, kN_o (ih4 p4 (by decide))]; exact k4', fun S5 e5 => ?_⟩
  obtain ⟨n5, c5, r5, k5, i5, f5, z5⟩ := st_arr d5 e5 p4 (ih1 (by decide))
  have p5 : zn S5 = a + 6 := n5
  have k5' := k5.trans k4'
  have z5' := z5 (a + 1) z4'
  refine ⟨by decide, by decide, fun b6 T6 q6 d6 => ?_⟩
  rw [show (8 : Int32).toNatClampNeg = 8 by decide] at d6
  obtain rfl : b6 = a + 6 := q6.trans p5
  refine ⟨by rw [d6, kN_o (ih4 p5 (by decide))]; exact k5', fun S6 e6 => ?_⟩
  obtain ⟨n6, c6, r6, k6, i6, f6, z6⟩ := st_arr d6 e6 p5 (ih1 (by decide))
  have p6 : zn S6 = a + 7 := n6
  have k6' := k6.trans k5'
  have z6' := z6 (a + 1) z5'
  have g6 : FrG a (a + 1) S6 S6 := FrG.rf
  have g5 : FrG a (a + 1) S5 S6 := f6.trans g6
  have g4 : FrG a (a + 1) S4 S6 := f5.trans g5
  have g3 : FrG a (a + 1) S3 S6 := f4.trans g4
  have g2 : FrG a (a + 1) S2 S6 := f3.trans g3
  have g1 : FrG a (a + 1) S1 S6 := f2.trans g2
  have g0 : FrG a (a + 1) M S6 := f1.trans g1
  have x1 := g1.2 (a + 1) (ih2 p1 (by decide)) (ih3 (by decide))
  have y1 : zk S6 (a + 1) = 10 ∧ zl S6 (a + 1) = 20 := ⟨x1.1.trans c1.1, x1.2.1.trans c1.2⟩
  have x2 := g2.2 (a + 2) (ih2 p2 (by decide)) (ih3 (by decide))
  have y2 : zk S6 (a + 2) = 10 ∧ zl S6 (a + 2) = 20 := ⟨x2.1.trans c2.1, x2.2.1.trans c2.2⟩
  have x3 := g3.2 (a + 3) (ih2 p3 (by decide)) (ih3 (by decide))
  have y3 : zk S6 (a + 3) = 10 ∧ zl S6 (a + 3) = 20 := ⟨x3.1.trans c3.1, x3.2.1.trans c3.2⟩
  have x4 := g4.2 (a + 4) (ih2 p4 (by decide)) (ih3 (by decide))
  have y4 : zk S6 (a + 4) = 10 ∧ zl S6 (a + 4) = 20 := ⟨x4.1.trans c4.1, x4.2.1.trans c4.2⟩
  have x5 := g5.2 (a + 5) (ih2 p5 (by decide)) (ih3 (by decide))
  have y5 : zk S6 (a + 5) = 10 ∧ zl S6 (a + 5) = 600 := ⟨x5.1.trans c5.1, x5.2.1.trans c5.2⟩
  have x6 := g6.2 (a + 6) (ih2 p6 (by decide)) (ih3 (by decide))
  have y6 : zk S6 (a + 6) = 10 ∧ zl S6 (a + 6) = 8 := ⟨x6.1.trans c6.1, x6.2.1.trans c6.2⟩
  have w1 : zR S6 a 1 = some (a + 1) := by simp (decide := true) only [r6, r5, r4, r3, r2, r1, if_true, if_false]
  have w2 : zR S6 a 2 = some (a + 2) := by simp (decide := true) only [r6, r5, r4, r3, r2, r1, if_true, if_false]
  have w3 : zR S6 a 3 = some (a + 3) := by simp (decide := true) only [r6, r5, r4, r3, r2, r1, if_true, if_false]
  have w4 : zR S6 a 4 = some (a + 4) := by simp (decide := true) only [r6, r5, r4, r3, r2, r1, if_true, if_false]
  have w5 : zR S6 a 5 = some (a + 5) := by simp (decide := true) only [r6, r5, r4, r3, r2, r1, if_true, if_false]
  have w6 : zR S6 a 6 = some (a + 6) := by simp (decide := true) only [r6, r5, r4, r3, r2, r1, if_true, if_false]
  refine KK S6 p6 g0 z6' ?_ ?_
  · unfold PlanSh
    simp only [k6', w1, w2, w3, w4, w5, w6, y1, y2, y3, y4, y5, y6, and_self]
  · rw [i6, i5, i4, i3, i2, i1]
theorem s_X0_init {M : Mm} {a : Nat} (hk : zk M a = 1) (hn : zn M = a + 1) (P : Mm → Prop)
    (KK : ∀ M', zn M' = a + 4 → FrG a (a + 1) M M' → ZR (a + 1) M' → KS a M' → zI M' a = zI M a → P M') : w_X0_init M a P := by
  have Z0 : ZR (a + 1) M := zr_0 hn
  refine ⟨by decide, by decide, fun b1 T1 q1 d1 => ?_⟩
  rw [show (6 : Int32).toNatClampNeg = 6 by decide] at d1
  obtain rfl : b1 = a + 1 := q1.trans hn
  refine ⟨by rw [d1, kN_o (ih4 hn (by decide))]; exact hk, fun S1 e1 => ?_⟩
  obtain ⟨n1, c1, r1, k1, i1, f1, z1⟩ := st_arr d1 e1 hn (ih1 (by decide))
  have p1 : zn S1 = a + 2 := n1
  have k1' := k1.trans hk
  have z1' := z1 (a + 1) Z0
  refine ⟨by decide, by decide, fun b2 T2 q2 d2 => ?_⟩
  rw [show (256 : Int32).toNatClampNeg = 256 by decide] at d2
  obtain rfl : b2 = a + 2 := q2.trans p1
  refine ⟨by rw [d2, kN_o (ih4 p1 (by decide))]; exact k1', fun S2 e2 => ?_⟩
  obtain ⟨n2, c2, r2, k2, i2, f2, z2⟩ := st_arr d2 e2 p1 (ih1 (by decide))
  have p2 : zn S2 = a + 3 := n2
  have k2' := k2.trans k1'
  have z2' := z2 (a + 1) z1'
  refine ⟨by decide, by decide, fun b3 T3 q3 d3 => ?_⟩
  rw [show (256 : Int32).toNatClampNeg = 256 by decide] at d3
  obtain rfl : b3 = a + 3 := q3.trans p2
  refine ⟨by rw [d3, kN_o (ih4 p2 (by decide))]; exact k2', fun S3 e3 => ?_⟩
  obtain ⟨n3, c3, r3, k3, i3, f3, z3⟩ := st_arr d3 e3 p2 (ih1 (by decide))
  have p3 : zn S3 = a + 4 := n3
  have k3' := k3.trans k2'
  have z3' := z3 (a + 1) z2'
  have g3 : FrG a (a + 1) S3 S3 := FrG.rf
  have g2 : FrG a (a + 1) S2 S3 := f3.trans g3
  have g1 : FrG a (a + 1) S1 S3 := f2.trans g2
  have g0 : FrG a (a + 1) M S3 := f1.trans g1
  have x1 := g1.2 (a + 1) (ih2 p1 (by decide)) (ih3 (by decide))
  have y1 : zk S3 (a + 1) = 10 ∧ zl S3 (a + 1) = 6 := ⟨x1.1.trans c1.1, x1.2.1.trans c1.2⟩
  have x2 := g2.2 (a + 2) (ih2 p2 (by decide)) (ih3 (by decide))
  have y2 : zk S3 (a + 2) = 10 ∧ zl S3 (a + 2) = 256 := ⟨x2.1.trans c2.1, x2.2.1.trans c2.2⟩
  have x3 := g3.2 (a + 3) (ih2 p3 (by decide)) (ih3 (by decide))
  have y3 : zk S3 (a + 3) = 10 ∧ zl S3 (a + 3) = 256 := ⟨x3.1.trans c3.1, x3.2.1.trans c3.2⟩
  have w0 : zR S3 a 0 = some (a + 1) := by simp (decide := true) only [r3, r2, r1, if_true, if_false]
  have w1 : zR S3 a 1 = some (a + 2) := by simp (decide := true) only [r3, r2, r1, if_true, if_false]
  have w2 : zR S3 a 2 = some (a + 3) := by simp (decide := true) only [r3, r2, r1, if_true, if_false]
  refine KK S3 p3 g0 z3' ?_ ?_
  · unfold KS
    simp only [k3', w0, w1, w2, y1, y2, y3, and_self]
  · rw [i3, i2, i1]
set_option maxHeartbeats 20000000 in
theorem s_X6_init {M : Mm} {a : Nat} (hk : zk M a = 6) (hn : zn M = a + 1) (P : Mm → Prop)
    (KK : ∀ M', zn M' = a + 21 → FrG a (a + 1) M M' → ZR (a + 1) M' → SeaSh a M' → (∀ j, zI M' a j = if j = 0 then nI 1 else zI M a j) → P M') : w_X6_init M a P := by
  have Z0 : ZR (a + 1) M := zr_0 hn
  refine ⟨hk, fun S1 e1 => ?_⟩
  obtain ⟨n1, r1, k1, i1, f1, z1⟩ := st_int e1
  have p1 : zn S1 = a + 1 := n1.trans hn
  have k1' := k1.trans hk
  have z1' := z1 (a + 1) (ih1 (by decide)) Z0
  intro b2 T2 q2 d2
  obtain rfl : b2 = a + 1 := q2.trans p1
  have nT2 : zn T2 = a + 2 := ih6 p1 (by rw [d2, zn_sN])
  refine ⟨by decide, by decide, fun bb2 U2 qq2 u2 => ?_⟩
  rw [show (3 : Int32).toNatClampNeg = 3 by decide] at u2
  obtain rfl : bb2 = a + 2 := qq2.trans nT2
  refine ⟨by rw [u2, kN_o (ih5 nT2 (by decide)), d2]; exact kN_n p1.symm, fun V2 v2 => ?_⟩
  refine ⟨by rw [v2, zk_sR, u2, kN_o (ih4 nT2 (by decide)), d2, kN_o (ih4 p1 (by decide))]; exact k1', fun S2 e2 => ?_⟩
  obtain ⟨n2, c2, r2, k2, i2, f2, z2⟩ := st_nam d2 u2 v2 e2 p1 (ih1 (by decide))
  have p2 : zn S2 = a + 3 := n2
  have k2' := k2.trans k1'
  have z2' := z2 (a + 1) z1'
  refine ⟨by decide, by decide, fun b3 T3 q3 d3 => ?_⟩
  rw [show (3 : Int32).toNatClampNeg = 3 by decide] at d3
  obtain rfl : b3 = a + 3 := q3.trans p2
  refine ⟨by rw [d3, kN_o (ih4 p2 (by decide))]; exact k2', fun S3 e3 => ?_⟩
  obtain ⟨n3, c3, r3, k3, i3, f3, z3⟩ := st_arr d3 e3 p2 (ih1 (by decide))
  have p3 : zn S3 = a + 4 := n3
  have k3' := k3.trans k2'
  have z3' := z3 (a + 1) z2'
  intro b4 T4 q4 d4
  obtain rfl : b4 = a + 4 := q4.trans p3
  have nT4 : zn T4 = a + 5 := ih6 p3 (by rw [d4, zn_sN])
  refine ⟨by decide, by decide, fun bb4 U4 qq4 u4 => ?_⟩
  rw [show (8 : Int32).toNatClampNeg = 8 by decide] at u4
  obtain rfl : bb4 = a + 5 := qq4.trans nT4
  refine ⟨by rw [u4, kN_o (ih5 nT4 (by decide)), d4]; exact kN_n p3.symm, fun V4 v4 => ?_⟩
  refine ⟨by rw [v4, zk_sR, u4, kN_o (ih4 nT4 (by decide)), d4, kN_o (ih4 p3 (by decide))]; exact k3', fun S4 e4 => ?_⟩
  obtain ⟨n4, c4, r4, k4, i4, f4, z4⟩ := st_nam d4 u4 v4 e4 p3 (ih1 (by decide))
  have p4 : zn S4 = a + 6 := n4
  have k4' := k4.trans k3'
  have z4' := z4 (a + 1) z3'
  refine ⟨by decide, by decide, fun b5 T5 q5 d5 => ?_⟩
  rw [show (8 : Int32).toNatClampNeg = 8 by decide] at d5
  obtain rfl : b5 = a + 6 := q5.trans p4
  refine ⟨by rw [d5, kN_o (ih4 p4 (by decide))]; exact k4', fun S5 e5 => ?_⟩
  obtain ⟨n5, c5, r5, k5, i5, f5, z5⟩ := st_arr d5 e5 p4 (ih1 (by decide))
  have p5 : zn S5 = a + 7 := n5
  have k5' := k5.trans k4'
  have z5' := z5 (a + 1) z4'
  refine ⟨by decide, by decide, fun b6 T6 q6 d6 => ?_⟩
  rw [show (8 : Int32).toNatClampNeg = 8 by decide] at d6
  obtain rfl : b6 = a + 7 := q6.trans p5
  refine ⟨by rw [d6, kN_o (ih4 p5 (by decide))]; exact k5', fun S6 e6 => ?_⟩
  obtain ⟨n6, c6, r6, k6, i6, f6, z6⟩ := st_arr d6 e6 p5 (ih1 (by decide))
  have p6 : zn S6 = a + 8 := n6
  have k6' := k6.trans k5'
  have z6' := z6 (a + 1) z5'
  refine ⟨by decide, by decide, fun b7 T7 q7 d7 => ?_⟩
  rw [show (8 : Int32).toNatClampNeg = 8 by decide] at d7
  obtain rfl : b7 = a + 8 := q7.trans p6
  refine ⟨by rw [d7, kN_o (ih4 p6 (by decide))]; exact k6', fun S7 e7 => ?_⟩
  obtain ⟨n7, c7, r7, k7, i7, f7, z7⟩ := st_arr d7 e7 p6 (ih1 (by decide))
  have p7 : zn S7 = a + 9 := n7
  have k7' := k7.trans k6'
  have z7' := z7 (a + 1) z6'
  refine ⟨by decide, by decide, fun b8 T8 q8 d8 => ?_⟩
  rw [show (8 : Int32).toNatClampNeg = 8 by decide] at d8
  obtain rfl : b8 = a + 9 := q8.trans p7
  refine ⟨by rw [d8, kN_o (ih4 p7 (by decide))]; exact k7', fun S8 e8 => ?_⟩
  obtain ⟨n8, c8, r8, k8, i8, f8, z8⟩ := st_arr d8 e8 p7 (ih1 (by decide))
  have p8 : zn S8 = a + 10 := n8
  have k8' := k8.trans k7'
  have z8' := z8 (a + 1) z7'
  refine ⟨by decide, by decide, fun b9 T9 q9 d9 => ?_⟩
  rw [show (8 : Int32).toNatClampNeg = 8 by decide] at d9
  obtain rfl : b9 = a + 10 := q9.trans p8
  refine ⟨by rw [d9, kN_o (ih4 p8 (by decide))]; exact k8', fun S9 e9 => ?_⟩
  obtain ⟨n9, c9, r9, k9, i9, f9, z9⟩ := st_arr d9 e9 p8 (ih1 (by decide))
  have p9 : zn S9 = a + 11 := n9
  have k9' := k9.trans k8'
  have z9' := z9 (a + 1) z8'
  intro b10 T10 q10 d10
  obtain rfl : b10 = a + 11 := q10.trans p9
  have nT10 : zn T10 = a + 12 := ih6 p9 (by rw [d10, zn_sN])
  refine ⟨by decide, by decide, fun bb10 U10 qq10 u10 => ?_⟩
  rw [show (8 : Int32).toNatClampNeg = 8 by decide] at u10
  obtain rfl : bb10 = a + 12 := qq10.trans nT10
  refine ⟨by rw [u10, kN_o (ih5 nT10 (by decide)), d10]; exact kN_n p9.symm, fun V10 v10 => ?_⟩
  refine ⟨by rw [v10, zk_sR, u10, kN_o (ih4 nT10 (by decide)), d10, kN_o (ih4 p9 (by decide))]; exact k9', fun S10 e10 => ?_⟩
  obtain ⟨n10, c10, r10, k10, i10, f10, z10⟩ := st_nam d10 u10 v10 e10 p9 (ih1 (by decide))
  have p10 : zn S10 = a + 13 := n10
  have k10' := k10.trans k9'
  have z10' := z10 (a + 1) z9'
  intro b11 T11 q11 d11
  obtain rfl : b11 = a + 13 := q11.trans p10
  have nT11 : zn T11 = a + 14 := ih6 p10 (by rw [d11, zn_sN])
  refine ⟨by decide, by decide, fun bb11 U11 qq11 u11 => ?_⟩
  rw [show (5 : Int32).toNatClampNeg = 5 by decide] at u11
  obtain rfl : bb11 = a + 14 := qq11.trans nT11
  refine ⟨by rw [u11, kN_o (ih5 nT11 (by decide)), d11]; exact kN_n p10.symm, fun V11 v11 => ?_⟩
  refine ⟨by rw [v11, zk_sR, u11, kN_o (ih4 nT11 (by decide)), d11, kN_o (ih4 p10 (by decide))]; exact k10', fun S11 e11 => ?_⟩
  obtain ⟨n11, c11, r11, k11, i11, f11, z11⟩ := st_nam d11 u11 v11 e11 p10 (ih1 (by decide))
  have p11 : zn S11 = a + 15 := n11
  have k11' := k11.trans k10'
  have z11' := z11 (a + 1) z10'
  refine ⟨by decide, by decide, fun b12 T12 q12 d12 => ?_⟩
  rw [show (5 : Int32).toNatClampNeg = 5 by decide] at d12
  obtain rfl : b12 = a + 15 := q12.trans p11
  refine ⟨by rw [d12, kN_o (ih4 p11 (by decide))]; exact k11', fun S12 e12 => ?_⟩
  obtain ⟨n12, c12, r12, k12, i12, f12, z12⟩ := st_arr d12 e12 p11 (ih1 (by decide))
  have p12 : zn S12 = a + 16 := n12
  have k12' := k12.trans k11'
  have z12' := z12 (a + 1) z11'
  refine ⟨by decide, by decide, fun b13 T13 q13 d13 => ?_⟩
  rw [show (5 : Int32).toNatClampNeg = 5 by decide] at d13
  obtain rfl : b13 = a + 16 := q13.trans p12
  refine ⟨by rw [d13, kN_o (ih4 p12 (by decide))]; exact k12', fun S13 e13 => ?_⟩
  obtain ⟨n13, c13, r13, k13, i13, f13, z13⟩ := st_arr d13 e13 p12 (ih1 (by decide))
  have p13 : zn S13 = a + 17 := n13
  have k13' := k13.trans k12'
  have z13' := z13 (a + 1) z12'
  refine ⟨by decide, by decide, fun b14 T14 q14 d14 => ?_⟩
  rw [show (5 : Int32).toNatClampNeg = 5 by decide] at d14
  obtain rfl : b14 = a + 17 := q14.trans p13
  refine ⟨by rw [d14, kN_o (ih4 p13 (by decide))]; exact k13', fun S14 e14 => ?_⟩
  obtain ⟨n14, c14, r14, k14, i14, f14, z14⟩ := st_arr d14 e14 p13 (ih1 (by decide))
  have p14 : zn S14 = a + 18 := n14
  have k14' := k14.trans k13'
  have z14' := z14 (a + 1) z13'
  refine ⟨by decide, by decide, fun b15 T15 q15 d15 => ?_⟩
  rw [show (5 : Int32).toNatClampNeg = 5 by decide] at d15
  obtain rfl : b15 = a + 18 := q15.trans p14
  refine ⟨by rw [d15, kN_o (ih4 p14 (by decide))]; exact k14', fun S15 e15 => ?_⟩
  obtain ⟨n15, c15, r15, k15, i15, f15, z15⟩ := st_arr d15 e15 p14 (ih1 (by decide))
  have p15 : zn S15 = a + 19 := n15
  have k15' := k15.trans k14'
  have z15' := z15 (a + 1) z14'
  refine ⟨by decide, by decide, fun b16 T16 q16 d16 => ?_⟩
  rw [show (5 : Int32).toNatClampNeg = 5 by decide] at d16
  obtain rfl : b16 = a + 19 := q16.trans p15
  refine ⟨by rw [d16, kN_o (ih4 p15 (by decide))]; exact k15', fun S16 e16 => ?_⟩
  obtain ⟨n16, c16, r16, k16, i16, f16, z16⟩ := st_arr d16 e16 p15 (ih1 (by decide))
  have p16 : zn S16 = a + 20 := n16
  have k16' := k16.trans k15'
  have z16' := z16 (a + 1) z15'
  refine ⟨by decide, by decide, fun b17 T17 q17 d17 => ?_⟩
  rw [show (30 : Int32).toNatClampNeg = 30 by decide] at d17
  obtain rfl : b17 = a + 20 := q17.trans p16
  refine ⟨by rw [d17, kN_o (ih4 p16 (by decide))]; exact k16', fun S17 e17 => ?_⟩
  obtain ⟨n17, c17, r17, k17, i17, f17, z17⟩ := st_arr d17 e17 p16 (ih1 (by decide))
  have p17 : zn S17 = a + 21 := n17
  have k17' := k17.trans k16'
  have z17' := z17 (a + 1) z16'
  have g17 : FrG a (a + 1) S17 S17 := FrG.rf
  have g16 : FrG a (a + 1) S16 S17 := f17.trans g17
  have g15 : FrG a (a + 1) S15 S17 := f16.trans g16
  have g14 : FrG a (a + 1) S14 S17 := f15.trans g15
  have g13 : FrG a (a + 1) S13 S17 := f14.trans g14
  have g12 : FrG a (a + 1) S12 S17 := f13.trans g13
  have g11 : FrG a (a + 1) S11 S17 := f12.trans g12
  have g10 : FrG a (a + 1) S10 S17 := f11.trans g11
  have g9 : FrG a (a + 1) S9 S17 := f10.trans g10
  have g8 : FrG a (a + 1) S8 S17 := f9.trans g9
  have g7 : FrG a (a + 1) S7 S17 := f8.trans g8
  have g6 : FrG a (a + 1) S6 S17 := f7.trans g7
  have g5 : FrG a (a + 1) S5 S17 := f6.trans g6
  have g4 : FrG a (a + 1) S4 S17 := f5.trans g5
  have g3 : FrG a (a + 1) S3 S17 := f4.trans g4
  have g2 : FrG a (a + 1) S2 S17 := f3.trans g3
  have g1 : FrG a (a + 1) S1 S17 := f2.trans g2
  have g0 : FrG a (a + 1) M S17 := f1.trans g1
  have x1 := g2.2 (a + 1) (ih2 p2 (by decide)) (ih3 (by decide))
  have x2 := g2.2 (a + 2) (ih2 p2 (by decide)) (ih3 (by decide))
  have y1 : zk S17 (a + 1) = 2 ∧ zR S17 (a + 1) 0 = some (a + 2) ∧ zk S17 (a + 2) = 11 ∧ zl S17 (a + 2) = 3 := ⟨x1.1.trans c2.1, (congrFun x1.2.2.2.2 0).trans c2.2.1, x2.1.trans c2.2.2.1, x2.2.1.trans c2.2.2.2⟩
  have x3 := g3.2 (a + 3) (ih2 p3 (by decide)) (ih3 (by decide))
  have y3 : zk S17 (a + 3) = 10 ∧ zl S17 (a + 3) = 3 := ⟨x3.1.trans c3.1, x3.2.1.trans c3.2⟩
  have x4 := g4.2 (a + 4) (ih2 p4 (by decide)) (ih3 (by decide))
  have x5 := g4.2 (a + 5) (ih2 p4 (by decide)) (ih3 (by decide))
  have y4 : zk S17 (a + 4) = 2 ∧ zR S17 (a + 4) 0 = some (a + 5) ∧ zk S17 (a + 5) = 11 ∧ zl S17 (a + 5) = 8 := ⟨x4.1.trans c4.1, (congrFun x4.2.2.2.2 0).trans c4.2.1, x5.1.trans c4.2.2.1, x5.2.1.trans c4.2.2.2⟩
  have x6 := g5.2 (a + 6) (ih2 p5 (by decide)) (ih3 (by decide))
  have y6 : zk S17 (a + 6) = 10 ∧ zl S17 (a + 6) = 8 := ⟨x6.1.trans c5.1, x6.2.1.trans c5.2⟩
  have x7 := g6.2 (a + 7) (ih2 p6 (by decide)) (ih3 (by decide))
  have y7 : zk S17 (a + 7) = 10 ∧ zl S17 (a + 7) = 8 := ⟨x7.1.trans c6.1, x7.2.1.trans c6.2⟩
  have x8 := g7.2 (a + 8) (ih2 p7 (by decide)) (ih3 (by decide))
  have y8 : zk S17 (a + 8) = 10 ∧ zl S17 (a + 8) = 8 := ⟨x8.1.trans c7.1, x8.2.1.trans c7.2⟩
  have x9 := g8.2 (a + 9) (ih2 p8 (by decide)) (ih3 (by decide))
  have y9 : zk S17 (a + 9) = 10 ∧ zl S17 (a + 9) = 8 := ⟨x9.1.trans c8.1, x9.2.1.trans c8.2⟩
  have x10 := g9.2 (a + 10) (ih2 p9 (by decide)) (ih3 (by decide))
  have y10 : zk S17 (a + 10) = 10 ∧ zl S17 (a + 10) = 8 := ⟨x10.1.trans c9.1, x10.2.1.trans c9.2⟩
  have x11 := g10.2 (a + 11) (ih2 p10 (by decide)) (ih3 (by decide))
  have x12 := g10.2 (a + 12) (ih2 p10 (by decide)) (ih3 (by decide))
  have y11 : zk S17 (a + 11) = 2 ∧ zR S17 (a + 11) 0 = some (a + 12) ∧ zk S17 (a + 12) = 11 ∧ zl S17 (a + 12) = 8 := ⟨x11.1.trans c10.1, (congrFun x11.2.2.2.2 0).trans c10.2.1, x12.1.trans c10.2.2.1, x12.2.1.trans c10.2.2.2⟩
  have x13 := g11.2 (a + 13) (ih2 p11 (by decide)) (ih3 (by decide))
  have x14 := g11.2 (a + 14) (ih2 p11 (by decide)) (ih3 (by decide))
  have y13 : zk S17 (a + 13) = 2 ∧ zR S17 (a + 13) 0 = some (a + 14) ∧ zk S17 (a + 14) = 11 ∧ zl S17 (a + 14) = 5 := ⟨x13.1.trans c11.1, (congrFun x13.2.2.2.2 0).trans c11.2.1, x14.1.trans c11.2.2.1, x14.2.1.trans c11.2.2.2⟩
  have x15 := g12.2 (a + 15) (ih2 p12 (by decide)) (ih3 (by decide))
  have y15 : zk S17 (a + 15) = 10 ∧ zl S17 (a + 15) = 5 := ⟨x15.1.trans c12.1, x15.2.1.trans c12.2⟩
  have x16 := g13.2 (a + 16) (ih2 p13 (by decide)) (ih3 (by decide))
  have y16 : zk S17 (a + 16) = 10 ∧ zl S17 (a + 16) = 5 := ⟨x16.1.trans c13.1, x16.2.1.trans c13.2⟩
  have x17 := g14.2 (a + 17) (ih2 p14 (by decide)) (ih3 (by decide))
  have y17 : zk S17 (a + 17) = 10 ∧ zl S17 (a + 17) = 5 := ⟨x17.1.trans c14.1, x17.2.1.trans c14.2⟩
  have x18 := g15.2 (a + 18) (ih2 p15 (by decide)) (ih3 (by decide))
  have y18 : zk S17 (a + 18) = 10 ∧ zl S17 (a + 18) = 5 := ⟨x18.1.trans c15.1, x18.2.1.trans c15.2⟩
  have x19 := g16.2 (a + 19) (ih2 p16 (by decide)) (ih3 (by decide))
  have y19 : zk S17 (a + 19) = 10 ∧ zl S17 (a + 19) = 5 := ⟨x19.1.trans c16.1, x19.2.1.trans c16.2⟩
  have x20 := g17.2 (a + 20) (ih2 p17 (by decide)) (ih3 (by decide))
  have y20 : zk S17 (a + 20) = 10 ∧ zl S17 (a + 20) = 30 := ⟨x20.1.trans c17.1, x20.2.1.trans c17.2⟩
  have w3 : zR S17 a 3 = some (a + 1) := by simp (decide := true) only [r17, r16, r15, r14, r13, r12, r11, r10, r9, r8, r7, r6, r5, r4, r3, r2, r1, if_true, if_false]
  have w4 : zR S17 a 4 = some (a + 3) := by simp (decide := true) only [r17, r16, r15, r14, r13, r12, r11, r10, r9, r8, r7, r6, r5, r4, r3, r2, r1, if_true, if_false]
  have w5 : zR S17 a 5 = some (a + 4) := by simp (decide := true) only [r17, r16, r15, r14, r13, r12, r11, r10, r9, r8, r7, r6, r5, r4, r3, r2, r1, if_true, if_false]
  have w6 : zR S17 a 6 = some (a + 6) := by simp (decide := true) only [r17, r16, r15, r14, r13, r12, r11, r10, r9, r8, r7, r6, r5, r4, r3, r2, r1, if_true, if_false]
  have w7 : zR S17 a 7 = some (a + 7) := by simp (decide := true) only [r17, r16, r15, r14, r13, r12, r11, r10, r9, r8, r7, r6, r5, r4, r3, r2, r1, if_true, if_false]
  have w8 : zR S17 a 8 = some (a + 8) := by simp (decide := true) only [r17, r16, r15, r14, r13, r12, r11, r10, r9, r8, r7, r6, r5, r4, r3, r2, r1, if_true, if_false]
  have w9 : zR S17 a 9 = some (a + 9) := by simp (decide := true) only [r17, r16, r15, r14, r13, r12, r11, r10, r9, r8, r7, r6, r5, r4, r3, r2, r1, if_true, if_false]
  have w10 : zR S17 a 10 = some (a + 10) := by simp (decide := true) only [r17, r16, r15, r14, r13, r12, r11, r10, r9, r8, r7, r6, r5, r4, r3, r2, r1, if_true, if_false]
  have w11 : zR S17 a 11 = some (a + 11) := by simp (decide := true) only [r17, r16, r15, r14, r13, r12, r11, r10, r9, r8, r7, r6, r5, r4, r3, r2, r1, if_true, if_false]
  have w12 : zR S17 a 12 = some (a + 13) := by simp (decide := true) only [r17, r16, r15, r14, r13, r12, r11, r10, r9, r8, r7, r6, r5, r4, r3, r2, r1, if_true, if_false]
  have w13 : zR S17 a 13 = some (a + 15) := by simp (decide := true) only [r17, r16, r15, r14, r13, r12, r11, r10, r9, r8, r7, r6, r5, r4, r3, r2, r1, if_true, if_false]
  have w14 : zR S17 a 14 = some (a + 16) := by simp (decide := true) only [r17, r16, r15, r14, r13, r12, r11, r10, r9, r8, r7, r6, r5, r4, r3, r2, r1, if_true, if_false]
  have w15 : zR S17 a 15 = some (a + 17) := by simp (decide := true) only [r17, r16, r15, r14, r13, r12, r11, r10, r9, r8, r7, r6, r5, r4, r3, r2, r1, if_true, if_false]
  have w16 : zR S17 a 16 = some (a + 18) := by simp (decide := true) only [r17, r16, r15, r14, r13, r12, r11, r10, r9, r8, r7, r6, r5, r4, r3, r2, r1, if_true, if_false]
  have w17 : zR S17 a 17 = some (a + 19) := by simp (decide := true) only [r17, r16, r15, r14, r13, r12, r11, r10, r9, r8, r7, r6, r5, r4, r3, r2, r1, if_true, if_false]
  have w18 : zR S17 a 18 = some (a + 20) := by simp (decide := true) only [r17, r16, r15, r14, r13, r12, r11, r10, r9, r8, r7, r6, r5, r4, r3, r2, r1, if_true, if_false]
  refine KK S17 p17 g0 z17' ?_ ?_
  · unfold SeaSh
    simp only [k17', w3, w4, w5, w6, w7, w8, w9, w10, w11, w12, w13, w14, w15, w16, w17, w18, y1, y3, y4, y6, y7, y8, y9, y10, y11, y13, y15, y16, y17, y18, y19, y20, and_self]
  · intro j
    rw [i17, i16, i15, i14, i13, i12, i11, i10, i9, i8, i7, i6, i5, i4, i3, i2, i1]
    rfl