/-! A NEW OBJECT OF THE CLASS, over a fresh store -/
/-- old cells but x, x + 20, x + 21 are as they were -/
def FrT (x : Nat) (M M' : Mm) : Prop := zn M ≤ zn M' ∧ ∀ b, b < zn M → b ≠ x → b ≠ x + 20 → b ≠ x + 21 → SM b M M'
theorem FrT.rf {x : Nat} {M : Mm} : FrT x M M := ⟨Nat.le_refl _, fun _ _ _ _ _ => ⟨rfl, rfl, rfl, rfl, rfl⟩⟩
theorem SM.trans {b : Nat} {M M1 M2 : Mm} (h : SM b M M1) (k : SM b M1 M2) : SM b M M2 := ⟨k.1.trans h.1, k.2.1.trans h.2.1, k.2.2.1.trans h.2.2.1, k.2.2.2.1.trans h.2.2.2.1, k.2.2.2.2.trans h.2.2.2.2⟩
theorem FrT.trans {x : Nat} {M M1 M2 : Mm} (h : FrT x M M1) (k : FrT x M1 M2) : FrT x M M2 :=
  ⟨Nat.le_trans h.1 k.1, fun b hb h1 h2 h3 => (h.2 b hb h1 h2 h3).trans (k.2 b (Nat.lt_of_lt_of_le hb h.1) h1 h2 h3)⟩
theorem FrG.t0 {x : Nat} {M M' : Mm} (h : FrG x (x + 1) M M') : FrT x M M' := ⟨h.1, fun b hb h1 _ _ => h.2 b hb (by omega)⟩
theorem FrG.t1 {x : Nat} {M M' : Mm} (h : FrG (x + 20) (x + 21) M M') : FrT x M M' := ⟨h.1, fun b hb _ h2 _ => h.2 b hb (by omega)⟩
theorem FrG.t2 {x : Nat} {M M' : Mm} (h : FrG (x + 21) (x + 22) M M') : FrT x M M' := ⟨h.1, fun b hb _ _ h3 => h.2 b hb (by omega)⟩
/-- a new object in a field of x -/
theorem st_obj {M2 M3 M4 M5 : Mm} {x c f kd : Nat} (e3 : M3 = sN M2 kd 0) (F : FrG c (c + 1) M3 M4) (e5 : M5 = sR M4 x f (some c)) (hn : zn M2 = c) (hx : x < c) :
    FrG x (x + 1) M2 M5 ∧ (∀ i, zR M5 x i = if i = f then some c else zR M2 x i) ∧ zk M5 x = zk M2 x ∧ zI M5 x = zI M2 x ∧ zn M5 = zn M4 ∧ ∀ b, b ≠ x → SM b M4 M5 := by
  have n3 : zn M3 = c + 1 := by rw [e3, zn_sN, hn]
  have g : ∀ b, b < c → SM b M2 M4 := fun b hb => by
    obtain ⟨q1, q2, q3, q4, q5⟩ := F.2 b (by omega) (by omega)
    have p : FrG x (x + 1) M2 M3 := by rw [e3]; exact frg_N
    have p0 : zk M3 b = zk M2 b ∧ zl M3 b = zl M2 b ∧ zI M3 b = zI M2 b ∧ zJ M3 b = zJ M2 b ∧ zR M3 b = zR M2 b := by
      rw [e3]
      exact ⟨kN_o (by omega), lN_o (by omega), iN_o (by omega), by funext j; exact if_neg (show ¬ b = zn M2 by omega), rN_o (by omega)⟩
    exact ⟨q1.trans p0.1, q2.trans p0.2.1, q3.trans p0.2.2.1, q4.trans p0.2.2.2.1, q5.trans p0.2.2.2.2⟩
  have gx := g x hx
  subst e5
  refine ⟨⟨?_, fun b hb h => ?_⟩, fun i => ?_, gx.1, gx.2.2.1, rfl, fun b hb => ⟨rfl, rfl, rfl, rfl, zR_sRo _ _ _ _ hb⟩⟩
  · have := F.1
    show zn M2 ≤ zn M4
    omega
  · obtain ⟨q1, q2, q3, q4, q5⟩ := g b (by omega)
    exact ⟨q1, q2, q3, q4, (zR_sRo _ _ _ _ (by omega)).trans q5⟩
  · rw [zR_sR, gx.2.2.2.2]
    by_cases e : i = f
    · rw [if_pos ⟨rfl, e⟩, if_pos e]
    · rw [if_neg (fun u => e u.2), if_neg e]
section NC
variable {x : Nat} {P : Mm → Prop}
/-- the plans of the history -/
def IN1 (x : Nat) (Mb : Mm) (k : Nat) (M : Mm) : Prop := zn M = x + 65 + 7 * k ∧ FrG (x + 20) (x + 21) Mb M ∧ zk M (x + 20) = 13 ∧ zl M (x + 20) = 10 ∧ ∀ i, i < k → zR M (x + 20) i = some (x + 65 + 7 * i) ∧ PlanSh M (x + 65 + 7 * i)
theorem s_new1 {K : Mm → Nat → Prop} {Mb : Mm} (hb : zn Mb = x + 65) (kx : zk Mb x = 7) (r4 : zR Mb x 4 = some (x + 20)) (KK : ∀ M, IN1 x Mb 10 M → K M x) : ∀ d k M, k + d = 10 → IN1 x Mb k M → l_X7_init_99 P K (d + 1) M x (nI k) := by
  intro d
  induction d with
  | zero =>
    intro k M hk h
    obtain rfl : k = 10 := by omega
    rw [l_X7_init_99]
    exact ifp (by decide) (KK M h)
  | succ d ih =>
    intro k M hk h
    obtain ⟨h1, h2, h3, h4, h5⟩ := h
    have sx := h2.2 x (by omega) (by omega)
    rw [l_X7_init_99, nI_1']
    refine ifn (nI_ge (b := 10) (show k < 10 by omega) (by decide)) ⟨sx.1.trans kx, x + 20, (congrFun sx.2.2.2.2 4).trans r4, fun a26 M26 ea e26 => ?_⟩
    obtain rfl : a26 = x + 65 + 7 * k := ea.trans h1
    have n26 : zn M26 = x + 65 + 7 * k + 1 := by rw [e26, zn_sN, h1]
    refine s_X4_init (by rw [e26]; exact kN_n h1.symm) n26 _ fun M27 n27 f27 z27 p27 i27 => ?_
    have g : ∀ b, b < x + 65 + 7 * k → SM b M M27 := fun b hb => by
      have q := f27.2 b (by omega) (by omega)
      have p : FrG (x + 20) (x + 20) M M26 := by rw [e26]; exact frg_N
      exact SM.trans (p.2 b (by omega) (by omega)) q
    refine ⟨(g (x + 20) (by omega)).1.trans h3, p27.1, ?_, fun M28 e28 => ?_⟩
    · rw [(g (x + 20) (by omega)).2.1, h4]; exact vpn (by omega) (by decide)
    rw [n_cl (by omega)] at e28
    have o28 : ∀ b, b ≠ x + 20 → SM b M27 M28 := fun b hb => by rw [e28]; exact ⟨rfl, rfl, rfl, rfl, zR_sRo _ _ _ _ hb⟩
    refine ih (k + 1) M28 (by omega) ⟨?_, ?_, ?_, ?_, fun i hi => ?_⟩
    · rw [e28, zn_sR, n27]; omega
    · refine ⟨by rw [e28, zn_sR, n27]; omega, fun b hb hn => ?_⟩
      exact ((show SM b Mb M from h2.2 b hb hn).trans (g b (by omega))).trans (o28 b (by omega))
    · rw [e28, zk_sR]; exact (g (x + 20) (by omega)).1.trans h3
    · rw [e28, zl_sR]; exact (g (x + 20) (by omega)).2.1.trans h4
    · by_cases e : i = k
      · subst e
        refine ⟨by rw [e28, zR_sR1], p27.sm fun j hj => (o28 _ (by omega)).sh⟩
      · obtain ⟨q1, q2⟩ := h5 i (by omega)
        refine ⟨?_, q2.sm fun j hj => ((g _ (by omega)).trans (o28 _ (by omega))).sh⟩
        rw [e28, zR_sR2 _ _ _ _ e, (g (x + 20) (by omega)).2.2.2.2]; exact q1
/-- the plans of the slots -/
def IN2 (x : Nat) (Mb : Mm) (k : Nat) (M : Mm) : Prop := zn M = x + 135 + 7 * k ∧ FrG (x + 21) (x + 22) Mb M ∧ zk M (x + 21) = 13 ∧ zl M (x + 21) = 2 ∧ ∀ i, i < k → zR M (x + 21) i = some (x + 135 + 7 * i) ∧ PlanSh M (x + 135 + 7 * i)
theorem s_new2 {K : Mm → Prop} {Mb : Mm} (hb : zn Mb = x + 135) (kx : zk Mb x = 7) (r4 : zR Mb x 5 = some (x + 21)) (KK : ∀ M, IN2 x Mb 2 M → K M) : ∀ d k M, k + d = 2 → IN2 x Mb k M → l_X7_init_126 P K (d + 1) M x (nI k) := by
  intro d
  induction d with
  | zero =>
    intro k M hk h
    obtain rfl : k = 2 := by omega
    rw [l_X7_init_126]
    exact ifp (by decide) (KK M h)
  | succ d ih =>
    intro k M hk h
    obtain ⟨h1, h2, h3, h4, h5⟩ := h
    have sx := h2.2 x (by omega) (by omega)
    rw [l_X7_init_126, nI_1']
    refine ifn (nI_ge (b := 2) (show k < 2 by omega) (by decide)) ⟨sx.1.trans kx, x + 21, (congrFun sx.2.2.2.2 5).trans r4, fun a26 M26 ea e26 => ?_⟩
    obtain rfl : a26 = x + 135 + 7 * k := ea.trans h1
    have n26 : zn M26 = x + 135 + 7 * k + 1 := by rw [e26, zn_sN, h1]
    refine s_X4_init (by rw [e26]; exact kN_n h1.symm) n26 _ fun M27 n27 f27 z27 p27 i27 => ?_
    have g : ∀ b, b < x + 135 + 7 * k → SM b M M27 := fun b hb => by
      have q := f27.2 b (by omega) (by omega)
      have p : FrG (x + 20) (x + 20) M M26 := by rw [e26]; exact frg_N
      exact SM.trans (p.2 b (by omega) (by omega)) q
    refine ⟨(g (x + 21) (by omega)).1.trans h3, p27.1, ?_, fun M28 e28 => ?_⟩
    · rw [(g (x + 21) (by omega)).2.1, h4]; exact vpn (by omega) (by decide)
    rw [n_cl (by omega)] at e28
    have o28 : ∀ b, b ≠ x + 21 → SM b M27 M28 := fun b hb => by rw [e28]; exact ⟨rfl, rfl, rfl, rfl, zR_sRo _ _ _ _ hb⟩
    refine ih (k + 1) M28 (by omega) ⟨?_, ?_, ?_, ?_, fun i hi => ?_⟩
    · rw [e28, zn_sR, n27]; omega
    · refine ⟨by rw [e28, zn_sR, n27]; omega, fun b hb hn => ?_⟩
      exact ((show SM b Mb M from h2.2 b hb hn).trans (g b (by omega))).trans (o28 b (by omega))
    · rw [e28, zk_sR]; exact (g (x + 21) (by omega)).1.trans h3
    · rw [e28, zl_sR]; exact (g (x + 21) (by omega)).2.1.trans h4
    · by_cases e : i = k
      · subst e
        refine ⟨by rw [e28, zR_sR1], p27.sm fun j hj => (o28 _ (by omega)).sh⟩
      · obtain ⟨q1, q2⟩ := h5 i (by omega)
        refine ⟨?_, q2.sm fun j hj => ((g _ (by omega)).trans (o28 _ (by omega))).sh⟩
        rw [e28, zR_sR2 _ _ _ _ e, (g (x + 21) (by omega)).2.2.2.2]; exact q1
end NC
