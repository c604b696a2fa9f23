/-! PARSE: the class's call -/
/-- cell b is as it was -/
def SM (b : Nat) (M M' : Mm) : Prop := zk M' b = zk M b ∧ zl M' b = zl M b ∧ zI M' b = zI M b ∧ zJ M' b = zJ M b ∧ zR M' b = zR M b
/-- cell b's shape is as it was -/
def SH (b : Nat) (M M' : Mm) : Prop := zk M' b = zk M b ∧ zl M' b = zl M b ∧ zR M' b = zR M b
theorem SM.sh {b : Nat} {M M' : Mm} (h : SM b M M') : SH b M M' := ⟨h.1, h.2.1, h.2.2.2.2⟩
section SMS
variable {M M' : Mm}
theorem SeaSh.sm {a : Nat} (q : SeaSh a M) (e : ∀ i, i ≤ 20 → SH (a + i) M M') : SeaSh a M' := by
  unfold SeaSh at q ⊢
  have k0 : zk M' a = zk M a ∧ zl M' a = zl M a ∧ zR M' a = zR M a := e 0 (by omega)
  rw [k0.1, k0.2.2, (e 1 (by omega)).1, (e 2 (by omega)).1, (e 3 (by omega)).1, (e 4 (by omega)).1, (e 5 (by omega)).1, (e 6 (by omega)).1, (e 7 (by omega)).1, (e 8 (by omega)).1, (e 9 (by omega)).1, (e 10 (by omega)).1, (e 11 (by omega)).1, (e 12 (by omega)).1, (e 13 (by omega)).1, (e 14 (by omega)).1, (e 15 (by omega)).1, (e 16 (by omega)).1, (e 17 (by omega)).1, (e 18 (by omega)).1, (e 19 (by omega)).1, (e 20 (by omega)).1,
    (e 2 (by omega)).2.1, (e 3 (by omega)).2.1, (e 5 (by omega)).2.1, (e 6 (by omega)).2.1, (e 7 (by omega)).2.1, (e 8 (by omega)).2.1, (e 9 (by omega)).2.1, (e 10 (by omega)).2.1, (e 12 (by omega)).2.1, (e 14 (by omega)).2.1, (e 15 (by omega)).2.1, (e 16 (by omega)).2.1, (e 17 (by omega)).2.1, (e 18 (by omega)).2.1, (e 19 (by omega)).2.1, (e 20 (by omega)).2.1,
    (e 1 (by omega)).2.2, (e 4 (by omega)).2.2, (e 11 (by omega)).2.2, (e 13 (by omega)).2.2]
  exact q
theorem CSea.sm {a : Nat} {sg : Nat → Nat} (q : CSea a sg M) (e : ∀ i, i ≤ 20 → SM (a + i) M M') : CSea a sg M' := by
  refine ⟨q.1.sm fun i hi => (e i hi).sh, ?_⟩
  have k : ∀ i, i ≤ 20 → zI M' (a + i) = zI M (a + i) := fun i hi => (e i hi).2.2.1
  rw [show zI M' a = zI M a from k 0 (by omega), k 1 (by omega), k 3 (by omega), k 4 (by omega), k 7 (by omega), k 8 (by omega), k 9 (by omega), k 10 (by omega), k 11 (by omega), k 13 (by omega), k 15 (by omega), k 16 (by omega), k 17 (by omega), k 18 (by omega), k 19 (by omega), k 20 (by omega)]
  exact q.2
theorem CNm.sm {a : Nat} {sg : Nat → Nat} {nm : Nat → List Nat} (q : CNm a sg nm M) (e : ∀ i, i ≤ 20 → SM (a + i) M M') : CNm a sg nm M' := by
  unfold CNm at q ⊢
  rw [(e 2 (by omega)).2.2.2.1, (e 5 (by omega)).2.2.2.1, (e 14 (by omega)).2.2.2.1, (e 12 (by omega)).2.2.2.1]
  exact q
theorem PlanSh.sm {a : Nat} (q : PlanSh M a) (e : ∀ i, i ≤ 6 → SH (a + i) M M') : PlanSh M' a := by
  unfold PlanSh at q ⊢
  have k0 : zk M' a = zk M a ∧ zl M' a = zl M a ∧ zR M' a = zR M a := e 0 (by omega)
  rw [k0.1, k0.2.2, (e 1 (by omega)).1, (e 2 (by omega)).1, (e 3 (by omega)).1, (e 4 (by omega)).1, (e 5 (by omega)).1, (e 6 (by omega)).1, (e 1 (by omega)).2.1, (e 2 (by omega)).2.1, (e 3 (by omega)).2.1, (e 4 (by omega)).2.1, (e 5 (by omega)).2.1, (e 6 (by omega)).2.1]
  exact q
theorem CPl.sm {a : Nat} {sg pl : Nat → Nat} (q : CPl a sg pl M) (e : ∀ i, i ≤ 6 → SM (a + i) M M') : CPl a sg pl M' := by
  refine ⟨q.1.sm fun i hi => (e i hi).sh, ?_⟩
  have k : ∀ i, i ≤ 6 → zI M' (a + i) = zI M (a + i) := fun i hi => (e i hi).2.2.1
  rw [show zI M' a = zI M a from k 0 (by omega), k 1 (by omega), k 2 (by omega), k 3 (by omega), k 4 (by omega), k 5 (by omega), k 6 (by omega)]
  exact q.2
theorem KS.sm {a : Nat} (q : KS a M) (e : ∀ i, i ≤ 3 → SH (a + i) M M') : KS a M' := by
  unfold KS at q ⊢
  have k0 : zk M' a = zk M a ∧ zl M' a = zl M a ∧ zR M' a = zR M a := e 0 (by omega)
  rw [k0.1, k0.2.2, (e 1 (by omega)).1, (e 1 (by omega)).2.1, (e 2 (by omega)).1, (e 2 (by omega)).2.1, (e 3 (by omega)).1, (e 3 (by omega)).2.1]
  exact q
theorem XS.sm {x sa sp : Nat} (q : XS x sa sp M) (e : ∀ b, x ≤ b → b < x + 149 → SH b M M') : XS x sa sp M' := by
  obtain ⟨q1, q2, q3⟩ := q
  refine ⟨?_, q2.sm fun i hi => e _ (by omega) (by omega), q3⟩
  rw [(e x (by omega) (by omega)).1, (e x (by omega) (by omega)).2.2, (e (x + 1) (by omega) (by omega)).1, (e (x + 1) (by omega) (by omega)).2.1, (e (x + 20) (by omega) (by omega)).1, (e (x + 20) (by omega) (by omega)).2.1, (e (x + 21) (by omega) (by omega)).1, (e (x + 21) (by omega) (by omega)).2.1, (e (x + 22) (by omega) (by omega)).1, (e (x + 22) (by omega) (by omega)).2.1]
  exact q1
end SMS
/-- new cells alone are not as they were -/
theorem frg_N {lo hi : Nat} {M : Mm} {k n : Nat} : FrG lo hi M (sN M k n) := by
  refine ⟨Nat.le_succ _, fun b hb _ => ?_⟩
  have e : b ≠ M.1 := fun u => by
    have : zn M = M.1 := rfl
    omega
  exact ⟨if_neg e, if_neg e, by funext j; exact if_neg e, by funext j; exact if_neg e, by funext j; exact if_neg e⟩
theorem frg_I {lo hi : Nat} {M : Mm} {a i : Nat} {v : Int32} (h : lo ≤ a ∧ a < hi) : FrG lo hi M (sI M a i v) :=
  (FrI.sI (R := fun b => b = a) rfl).g fun b hb => by omega
theorem frg_R {lo hi : Nat} {M : Mm} {a i : Nat} {v : Option Nat} (h : lo ≤ a ∧ a < hi) : FrG lo hi M (sR M a i v) :=
  ⟨Nat.le_refl _, fun b _ hn => ⟨rfl, rfl, rfl, rfl, zR_sRo _ _ _ _ (fun e => hn (by omega))⟩⟩
theorem zR_sR1 (M : Mm) (a i : Nat) (v : Option Nat) : zR (sR M a i v) a i = v := if_pos ⟨rfl, rfl⟩
theorem zR_sR2 (M : Mm) (a i : Nat) (v : Option Nat) {j : Nat} (h : j ≠ i) : zR (sR M a i v) a j = zR M a j := if_neg fun q => h q.2
/-- the plan after a good text -/
def plC (ct : Nat → Nat) : Nat → Nat := fun k => if 1 ≤ k ∧ k ≤ 8 then ct (k - 1) else 0
def stO (hl : Nat → Nat → Nat) (sl : Nat → Nat → Nat) (bf : Nat → Int32) (s : PS) : ST := (s.2.1, plC s.2.2.2.1, 0, hl, fun _ => false, sl, 0, bf, 4294967295, s.2.2.1)
section PPC
variable {x bl j : Nat} {sg pl : Nat → Nat} {hn : Nat} {hl : Nat → Nat → Nat} {sv : Nat → Bool} {sl : Nat → Nat → Nat} {bf : Nat → Int32} {ep : Nat} {nm : Nat → List Nat} {M : Mm}
theorem parse_C (ok : OKs (sg, pl, hn, hl, sv, sl, bl, bf, ep, nm)) (hj : j ≤ bl) (h : CI x (sg, pl, hn, hl, sv, sl, bl, bf, ep, nm) M) (w : x + 164 ≤ zn M) (P : Int32 → Mm → Prop) (X : String → Mm → Prop)
    (K1 : ∀ s2, parseL j bf = Sum.inr s2 → ∀ M', CI x (stO hl sl bf s2) M' → FrG x (x + 149) M M' → P (nI 0) M')
    (K0 : ∀ c q, parseL j bf = Sum.inl (c, q) → ∀ M', CI x (sg, pl, hn, hl, sv, sl, 0, bf, q, nm) M' → FrG x (x + 149) M M' → P (nI c) M') : w_X7_parse M x (nI j) P X := by
  have hz : x + 164 ≤ zn M := w
  obtain ⟨hs, hp, h10, hhl, hsl, hbl, hby, hep, nm1, nm2, nm3, nm4⟩ := ok
  have h0 := h
  obtain ⟨_, sa0, sp0, hp0, hx0, _, _, _, _, _, _, hB0, _⟩ := h0
  have k7 : zk M x = 7 := hx0.1.1.1
  have b7 : zI M x 7 = nI bl := hB0.1
  refine ifn (nI_pos (by omega)) ⟨k7, ifn (by rw [b7]; exact nI_nlt hj (by omega)) (ifn (by decide) ?_)⟩
  intro z M1 ez e1 y M2 ey e2
  have ny : y = zn M + 1 := by rw [ey, e1]; rfl
  have frg2 : FrG (zn M) (zn M + 2) M M2 := by rw [e2, e1]; exact frg_N.trans frg_N
  have h2 : CI x (sg, pl, hn, hl, sv, sl, bl, bf, ep, nm) M2 := h.frg frg2 (by omega) (by omega)
  obtain ⟨c10, sa, sp, hps, hx, hS, hS2, hP, hD, hH, hN, hB, hNm, hKP⟩ := h2
  have at_ := hx.at
  have zk2 : zk M2 y = 5 ∧ zk M2 z = 3 := by
    rw [e2]
    refine ⟨if_pos ey, ?_⟩
    have : z ≠ M1.1 := fun u => by rw [ez, e1] at u; exact absurd u (Nat.ne_of_lt (Nat.lt_succ_self _))
    refine (if_neg this).trans ?_
    rw [e1]
    exact if_pos ez
  have io2 : (∀ i, zI M2 y i = nI 0) ∧ ∀ i, zI M2 z i = nI 0 := by
    rw [e2]
    refine ⟨fun i => if_pos ey, fun i => ?_⟩
    have : z ≠ M1.1 := fun u => by rw [ez, e1] at u; exact absurd u (Nat.ne_of_lt (Nat.lt_succ_self _))
    refine (if_neg this).trans ?_
    rw [e1]
    exact if_pos ez
  refine ⟨hx.1.1.1, x + 1, hx.1.1.2.1, zk2.1, fun M3 e3 => ⟨by rw [e3]; exact zk2.1, fun M4 e4 => ?_⟩⟩
  have r4 : zR M4 x = zR M2 x := by rw [e4, zR_sI, e3]; exact zR_sRo _ _ _ _ (by omega)
  have kk4 : zk M4 = zk M2 := by rw [e4, e3]; rfl
  refine ⟨by rw [kk4]; exact hx.1.1.1, sp, by rw [r4]; exact hx.1.1.2.2.2.2.2.2.2.2.2, by rw [kk4]; exact zk2.2, fun M5 e5 => ⟨by rw [e5, zk_sI, kk4]; exact zk2.2, fun M6 e6 => ⟨by rw [e6, zk_sR, e5, zk_sI, kk4]; exact zk2.2, fun M7 e7 => ?_⟩⟩⟩
  have k7_ : zk M7 = zk M2 := by rw [e7, zk_sR, e6, zk_sR, e5, zk_sI, kk4]
  have frg7 : FrG (zn M) (zn M + 2) M2 M7 := by
    rw [e7, e6, e5, e4, e3]
    exact ((((frg_R (by omega)).trans (frg_I (by omega))).trans (frg_I (by omega))).trans (frg_R (by omega))).trans (frg_R (by omega))
  have n2 : zn M2 = zn M + 2 := by rw [e2, e1]; rfl
  have sm7 : ∀ b, b < zn M → SM b M2 M7 := fun b hb => frg7.2 b (by omega) (by omega)
  have y0 : zR M7 y 0 = some (x + 1) := by
    rw [e7, zR_sRo _ _ _ _ (by omega), e6, zR_sRo _ _ _ _ (by omega), e5, zR_sI, e4, zR_sI, e3, zR_sR1]
  have z0 : zR M7 z 0 = some y := by rw [e7, zR_sR2 _ _ _ _ (by omega), e6, zR_sR1]
  have z1 : zR M7 z 1 = some sp := by rw [e7, zR_sR1]
  have yI : zI M7 y 1 = nI j ∧ zI M7 y 2 = nI 0 := by
    rw [e7, zI_sR, e6, zI_sR, e5, zI_sIo _ _ _ _ (by omega), e4]
    refine ⟨zI_sI1 _ _ _ _, ?_⟩
    rw [zI_sI2 _ _ _ _ (by omega), e3, zI_sR]; exact io2.1 2
  have io7 : zI M7 z 2 = nI 0 ∧ zI M7 z 3 = nI 4294967295 := by
    rw [e7, zI_sR, e6, zI_sR, e5]
    refine ⟨?_, (zI_sI1 _ _ _ _).trans (by decide)⟩
    rw [zI_sI2 _ _ _ _ (by omega), e4, zI_sIo _ _ _ _ (by omega), e3, zI_sR]; exact io2.2 2
  have hS27 : SeaSh sp M7 := hS2.sm fun i hi => (sm7 _ (by omega)).sh
  have pc : PCx x y z sp j bf M7 := by
    refine ⟨⟨by rw [k7_]; exact zk2.1, y0, yI.1, ?_, ?_, by omega, by omega, fun i hi => ⟨?_, hby i (by omega)⟩⟩, ⟨by rw [k7_]; exact zk2.2, z0, z1⟩, hS27, by omega, by omega, by omega, by omega⟩
    · rw [k7_]; exact hx.1.2.1
    · rw [(sm7 (x + 1) (by omega)).2.1]; exact hx.1.2.2.1
    · rw [(sm7 (x + 1) (by omega)).2.2.1]; exact hB.2.2 i (by omega)
  refine ⟨by rw [k7_]; exact zk2.2, ?_⟩
  -- the frame of the whole
  have frE : ∀ M8 M9, FQ (RPa y z sp) M7 M8 → zn M9 = zn M8 → (∀ b, b < zn M → ¬ (x ≤ b ∧ b < x + 149) → SM b M8 M9) → FrG x (x + 149) M M9 := by
    intro M8 M9 f8 n9 s9
    refine ⟨by rw [n9, f8.n]; exact Nat.le_trans (Nat.le_trans (Nat.le_add_right _ 2) (Nat.le_of_eq n2.symm)) frg7.1, fun b hb hn => ?_⟩
    have a1 := frg2.2 b hb (by omega)
    have a2 := sm7 b hb
    have a3 := s9 b hb hn
    have nR : ¬ RPa y z sp b := by unfold RPa; omega
    exact ⟨a3.1.trans ((congrFun f8.k b).trans (a2.1.trans a1.1)), a3.2.1.trans ((congrFun f8.l b).trans (a2.2.1.trans a1.2.1)), a3.2.2.1.trans ((f8.i nR).trans (a2.2.2.1.trans a1.2.2.1)), a3.2.2.2.1.trans ((f8.j nR).trans (a2.2.2.2.1.trans a1.2.2.2.1)), a3.2.2.2.2.trans ((congrFun f8.r b).trans (a2.2.2.2.2.trans a1.2.2.2.2))⟩
  refine s_X3_read pc yI.2 io7.1 io7.2 _ (fun s2 eL M8 f8 cps => ?_) fun c q eL M8 f8 kf => ?_
  · -- a good text
    obtain ⟨p2, sg2, nm2, ct2, dt2⟩ := s2
    obtain ⟨hc8, t8, z28, z38, hS8, hNm8, hct8, -⟩ := cps
    have okp := parseL_ok (fun i hi => hby i (by omega)) eL
    refine ⟨hc8.2.1.1, by rw [f8.k, k7_]; exact hx.1.1.1, fun M9 e9 => ⟨by rw [e9, zk_sI, f8.k, k7_]; exact hx.1.1.1, fun M10 e10 => ⟨by rw [e10, zk_sI, e9, zk_sI]; exact hc8.2.1.1, ?_⟩⟩⟩
    have i10 : ∀ b, b ≠ x → zI M10 b = zI M8 b := fun b hb => by rw [e10, zI_sIo _ _ _ _ hb, e9, zI_sIo _ _ _ _ hb]
    have o10 : ∀ b, b ≠ x → SM b M8 M10 := fun b hb => ⟨by rw [e10, e9]; rfl, by rw [e10, e9]; rfl, i10 b hb, by rw [e10, e9]; rfl, by rw [e10, e9]; rfl⟩
    have h10 : ∀ b, SH b M8 M10 := fun b => ⟨by rw [e10, e9]; rfl, by rw [e10, e9]; rfl, by rw [e10, e9]; rfl⟩
    have sh8 : ∀ b, b < zn M → SH b M2 M8 := fun b hb => ⟨(congrFun f8.k b).trans (sm7 b hb).1, (congrFun f8.l b).trans (sm7 b hb).2.1, (congrFun f8.r b).trans (sm7 b hb).2.2.2.2⟩
    have sh10 : ∀ b, b < zn M → SH b M2 M10 := fun b hb => ⟨(h10 b).1.trans (sh8 b hb).1, (h10 b).2.1.trans (sh8 b hb).2.1, (h10 b).2.2.trans (sh8 b hb).2.2⟩
    have hx10 : XS x sa sp M10 := hx.sm fun b _ _ => sh10 b (by omega)
    have z2b : zI M10 z 2 = nI 0 := by rw [i10 z (by omega)]; exact z28
    refine ifp z2b ⟨hx10.1.1.1, ?_⟩
    have sw8 := hc8.2.2.1
    have sw10 : SeaSh sp M10 := sw8.sm fun i hi => h10 _
    obtain ⟨s61, ⟨-, -, -, -, -, -, -, -, -, -, -, -⟩, ⟨-, m6, -⟩, -, -, -, l6, -⟩ := sw10
    have pl10 : PlanSh M10 (x + 6) := hP.1.sm fun i hi => sh10 _ (by omega)
    refine s_X7_begin hx10 ⟨s61.1, by simp only [s61], m6, l6⟩ pl10 _ fun M11 an ak al aj ar arx ai aix a9 a50 a11 a21 => ?_
    refine ⟨by rw [ak, (h10 z).1]; exact hc8.2.1.1, ?_⟩
    have z2c : zI M11 z 2 = nI 0 := by rw [ai z (by omega) (by omega) (by omega) (by omega)]; exact z2b
    rw [z2c]
    have sh11 : ∀ b, b ≠ x → SH b M10 M11 := fun b hb => ⟨by rw [ak], by rw [al], ar b hb⟩
    have sm11 : ∀ b, b ≠ x → b ≠ x + 6 → b ≠ x + 12 → b ≠ x + 22 → SM b M8 M11 := fun b h1 h2 h3 h4 => by
      have u := o10 b h1
      have v := sh11 b h1
      exact ⟨v.1.trans u.1, v.2.1.trans u.2.1, (ai b h1 h2 h3 h4).trans u.2.2.1, (congrFun aj b).trans u.2.2.2.1, v.2.2.trans u.2.2.2.2⟩
    have sh28 : ∀ b, b < zn M → b ≠ x → SH b M2 M11 := fun b hb hn => ⟨(sh11 b hn).1.trans (sh10 b hb).1, (sh11 b hn).2.1.trans (sh10 b hb).2.1, (sh11 b hn).2.2.trans (sh10 b hb).2.2⟩
    refine K1 (p2, sg2, nm2, ct2, dt2) eL M11 ?_ (frE M8 M11 f8 ?_ fun b hb hn => sm11 b (by omega) (by omega) (by omega) (by omega))
    · refine ⟨Nat.zero_le _, sp, sa, hps, ?_, hS8.sm (fun i hi => sm11 _ (by omega) (by omega) (by omega) (by omega)), hS.1.sm (fun i hi => sh28 _ (by omega) (by omega)), ⟨hP.1.sm (fun i hi => sh28 _ (by omega) (by omega)), a50, fun s hs => absurd hs (Nat.not_lt_zero s), fun p (hp : p < sg2 2) => ?_⟩, hD.sm (fun i hi => sh28 _ (by omega) (by omega)), ⟨fun i hi => ?_, hH.2.1, fun i hi => absurd hi (Nat.not_lt_zero i), a9⟩, fun i hi => ?_, ⟨?_, ?_, fun i hi => absurd hi (Nat.not_lt_zero i)⟩, hNm8.sm (fun i hi => sm11 _ (by omega) (by omega) (by omega) (by omega)), hKP.e ((sm11 (x + 2 + 3) (by omega) (by omega) (by omega) (by omega)).2.2.1.trans ((f8.i (by unfold RPa; omega)).trans (sm7 (x + 2 + 3) (by omega)).2.2.1))⟩
      · obtain ⟨⟨⟨q0, q1, q2, q3, q4, q5, q6, q7, q10, q11⟩, q20⟩, q21, q22⟩ := hx10
        refine ⟨⟨⟨by rw [ak]; exact q0, by rw [arx]; exact q1, by rw [arx]; exact q2, by rw [arx]; exact q3, by rw [arx]; exact q4, by rw [arx]; exact q5, by rw [arx]; exact q6, by rw [arx]; exact q7, by rw [arx]; rfl, by rw [arx]; rfl⟩, ?_⟩, q21.sm (fun i hi => sh11 _ (by omega)), q22.symm.imp (fun u => ⟨u.2, u.1⟩) (fun u => ⟨u.2, u.1⟩)⟩
        rw [ak, al]; exact q20
      · have e := a11 p (by have := okp.2.1.1; omega)
        show zI M11 (x + 6 + 6) p = nI (plC ct2 (1 + p))
        have pp : p < 8 := by have := okp.2.1.1; omega
        rw [show x + 6 + 6 = x + 12 by omega, e, i10 _ (by omega), hct8 p hp]
        unfold plC
        rw [if_pos (by omega), show 1 + p - 1 = p by omega]
      · obtain ⟨u1, u2, i2, u3, u4⟩ := hH.1 i hi
        exact ⟨by rw [(sh28 (x + 20) (by omega) (by omega)).2.2]; exact u1, u2.sm (fun k hk => sh28 _ (by omega) (by omega)), i2, u3, u4⟩
      · obtain ⟨u1, u2, u3, u4⟩ := hN i hi
        exact ⟨by rw [(sh28 (x + 21) (by omega) (by omega)).2.2]; exact u1, u2.sm (fun k hk => sh28 _ (by omega) (by omega)), a21 i hi, fun e => by cases e⟩
      · rw [aix 7 (by omega), e10, zI_sI1]; rfl
      · rw [aix 8 (by omega), e10, zI_sI2 _ _ _ _ (by omega), e9, zI_sI1]; exact z38
    · rw [an, e10, e9]; rfl
  · -- a fault
    have hb := parseL_e (fun i hi => hby i (by omega)) c q eL
    have kz : zk M8 z = 3 := by rw [f8.k, k7_]; exact zk2.2
    refine ⟨kz, by rw [f8.k, k7_]; exact hx.1.1.1, fun M9 e9 => ⟨by rw [e9, zk_sI, f8.k, k7_]; exact hx.1.1.1, fun M10 e10 => ⟨by rw [e10, zk_sI, e9, zk_sI]; exact kz, ?_⟩⟩⟩
    have i10 : ∀ b, b ≠ x → zI M10 b = zI M8 b := fun b hb => by rw [e10, zI_sIo _ _ _ _ hb, e9, zI_sIo _ _ _ _ hb]
    have o10 : ∀ b, b ≠ x → SM b M8 M10 := fun b hb => ⟨by rw [e10, e9]; rfl, by rw [e10, e9]; rfl, i10 b hb, by rw [e10, e9]; rfl, by rw [e10, e9]; rfl⟩
    have h10 : ∀ b, SH b M8 M10 := fun b => ⟨by rw [e10, e9]; rfl, by rw [e10, e9]; rfl, by rw [e10, e9]; rfl⟩
    have z2b : zI M10 z 2 = nI c := by rw [i10 z (by omega)]; exact kf.1
    refine ifn (fun u => by rw [z2b, l_0, n_eqF (by omega) (by omega) (by omega)] at u; exact u) ⟨by rw [(h10 z).1]; exact kz, ?_⟩
    rw [z2b]
    have sh8 : ∀ b, b < zn M → SH b M2 M8 := fun b hb => ⟨(congrFun f8.k b).trans (sm7 b hb).1, (congrFun f8.l b).trans (sm7 b hb).2.1, (congrFun f8.r b).trans (sm7 b hb).2.2.2.2⟩
    have sh10 : ∀ b, b < zn M → SH b M2 M10 := fun b hb => ⟨(h10 b).1.trans (sh8 b hb).1, (h10 b).2.1.trans (sh8 b hb).2.1, (h10 b).2.2.trans (sh8 b hb).2.2⟩
    have sm10 : ∀ b, b < zn M → b ≠ x → ¬ (sp ≤ b ∧ b ≤ sp + 20) → SM b M2 M10 := fun b h1 h2 h3 => by
      have u := o10 b h2
      have v := sm7 b h1
      have nR : ¬ RPa y z sp b := by unfold RPa; omega
      exact ⟨u.1.trans ((congrFun f8.k b).trans v.1), u.2.1.trans ((congrFun f8.l b).trans v.2.1), u.2.2.1.trans ((f8.i nR).trans v.2.2.1), u.2.2.2.1.trans ((f8.j nR).trans v.2.2.2.1), u.2.2.2.2.trans ((congrFun f8.r b).trans v.2.2.2.2)⟩
    have x10 : ∀ i, i ≠ 7 → i ≠ 8 → zI M10 x i = zI M2 x i := fun i h1 h2 => by
      rw [e10, zI_sI2 _ _ _ _ h1, e9, zI_sI2 _ _ _ _ h2, f8.i (by unfold RPa; omega), (sm7 x (by omega)).2.2.1]
    refine K0 c q eL M10 ⟨c10, sa, sp, hps, hx.sm (fun b _ _ => sh10 b (by omega)), hS.sm (fun i hi => sm10 _ (by omega) (by omega) (by omega)), hS2.sm (fun i hi => sh10 _ (by omega)), hP.sm (fun i hi => sm10 _ (by omega) (by omega) (by omega)), hD.sm (fun i hi => sh10 _ (by omega)), ⟨fun i hi => ?_, hH.2.1, fun i hi => ?_, by rw [x10 9 (by omega) (by omega)]; exact hH.2.2.2⟩, fun i hi => ?_, ⟨?_, ?_, fun i hi => absurd hi (Nat.not_lt_zero i)⟩, hNm.sm (fun i hi => sm10 _ (by omega) (by omega) (by omega)), hKP.e (sm10 (x + 2 + 3) (by omega) (by omega) (by omega)).2.2.1⟩ (frE M8 M10 f8 ?_ fun b hb hn => o10 b (by omega))
    · obtain ⟨u1, u2, i2, u3, u4⟩ := hH.1 i hi
      exact ⟨by rw [(sh10 (x + 20) (by omega)).2.2]; exact u1, u2.sm (fun k hk => sh10 _ (by omega)), i2, u3, u4⟩
    · obtain ⟨-, -, i2, u3, u4⟩ := hH.1 i (by omega)
      exact (hH.2.2.1 i hi).sm (fun k hk => sm10 _ (by omega) (by omega) (by omega))
    · obtain ⟨u1, u2, u3, u4⟩ := hN i hi
      exact ⟨by rw [(sh10 (x + 21) (by omega)).2.2]; exact u1, u2.sm (fun k hk => sh10 _ (by omega)), by rw [(sm10 (x + 22) (by omega) (by omega) (by omega)).2.2.1]; exact u3, fun t => (u4 t).sm (fun k hk => sm10 _ (by omega) (by omega) (by omega))⟩
    · rw [e10, zI_sI1]; rfl
    · rw [e10, zI_sI2 _ _ _ _ (by omega), e9, zI_sI1]; exact kf.2
    · rw [e10, e9]; rfl
end PPC
