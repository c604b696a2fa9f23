/-! THE SEASON IS BUILT -/
section LN
variable {x ga a e z G : Nat} {st : ST} {n sg ct : Nat → Nat} {M : Mm}
/-- what was built is the law's season of the numbers drawn -/
theorem BSw.si (h : BSw e z n sg ct M) (h0 : n 0 = sg 0) (h1 : n 1 = sg 1) (h2 : n 2 = sg 2) (h3 : n 3 = sg 3) (h5 : n 5 = sg 5) (h6 : n 6 = 0) (hp7 : sg 2 ≤ 7) : SI e sg (plC ct) M := by
  obtain ⟨a1, a4, a5, a6, a7, a8⟩ := h
  have pc : ∀ p, p < sg 2 → plC ct (1 + p) = ct p := fun p hp => by
    unfold plC
    rw [if_pos (by omega), Nat.add_sub_cancel_left]
  have p0 : plC ct 0 = 0 := by
    unfold plC
    rw [if_neg (by omega)]
  refine ⟨by omega, ⟨a1.2.2, ⟨by rw [a4 0 (by omega), h0], by rw [a4 1 (by omega), h1], by rw [a4 2 (by omega), h2], by rw [a4 3 (by omega), h3], by rw [a4 5 (by omega), h5]⟩, a5, fun p hp => ?_, fun w hw => ?_⟩, by rw [a4 6 (by omega), h6, p0], fun p hp => by rw [pc p hp]; exact (a7 p hp).1.2, fun s hs => by rw [p0] at hs; exact absurd hs (Nat.not_lt_zero _)⟩
  · obtain ⟨⟨b1, b2⟩, r, b3, b4, b5⟩ := a7 p hp
    exact ⟨⟨b1, a6 p (by omega)⟩, r, b3, b5⟩
  · obtain ⟨⟨r, b3, b4, b5⟩, q, b6, b7, b8⟩ := a8 w hw
    exact ⟨⟨r, b3, b5⟩, q, b6, b8⟩
/-- an empty season -/
theorem bsw_0 {dd : Nat} (hl : LSh e M) (hz : zn M = e + 10) (hr : ZR e M) : BSw e (e + 10) (fun _ => 0) (sgi dd) (fun _ => 0) M := by
  have s1 : sgi dd 1 = 0 := sgi_o _ (by omega)
  have s2 : sgi dd 2 = 0 := sgi_o _ (by omega)
  have s3 : sgi dd 3 = 0 := sgi_o _ (by omega)
  refine ⟨⟨by omega, Nat.le_refl _, hl⟩, fun i hi => hr e (by omega) (by omega) i, fun k hk => ?_, fun p hp => ?_, fun p hp => ?_, fun w hw => ?_⟩
  · rw [s1] at hk; exact absurd hk (Nat.not_lt_zero _)
  · have e1 : oP (sgi dd) p 1 = 0 := sgi_o _ (by omega)
    rw [e1]; exact hr (e + 4) (by omega) (by omega) p
  · rw [s2] at hp; exact absurd hp (Nat.not_lt_zero _)
  · rw [s3] at hw; exact absurd hw (Nat.not_lt_zero _)
theorem s_L_season_g {s0 s1 s2 s3 s4 s5 : DS} {dd hh pp ww : Nat} {tx : List Nat} {bf : Nat → Int32} {q0 : Nat} {S0 : P4} (j0 : JS tx bf q0 S0 s0 false 0 9) (x0 : JX s0) (hdd : 2 + drw G 6 = dd) (a1 : s0.1 = sgi dd) (a2 : s0.2.2.1 = fun _ => 0) (a3 : s0.2.2.2.1 = daysT dd) (a4 : dG s0 = nx (nx G)) (eh : 1 + drw (nx G) 3 = hh) (e1 : dN dH hh s0 = s1) (ep : 2 + drw (dG s1) 6 = pp) (e2 : dN dP pp (dnx s1) = s2) (ew : 1 + drw (dG s2) 4 = ww) (e3 : dN dW_ ww (dnx s2) = s3) (e4 : dAs pp s3 = s4) (e5 : dE s4 = s5)
    (hC : CI x st M) (ok : OKs st) (h1 : x + 149 ≤ ga) (h2 : ga < a) (h3 : a < zn M) (hG : GA ga G M) (hs : SBd a [] M) {B S1 : Nat} (hB : 336 ≤ B) (hS1 : 293020 ≤ S1) {P : Option Nat → Mm → Prop}
    (K : ∀ M', YL x ga a (zn M) st s5.2.2.2.1 (dG s5) M' → SI (zn M) s5.1 (plC s5.2.2.1) M' → P (some (zn M)) M') : w_L_season M a ga P B S1 := by
  have d6 := drw_lt G (show 1 ≤ 6 by omega)
  have d3 := drw_lt (nx G) (show 1 ≤ 3 by omega)
  have d6b := drw_lt (dG s1) (show 1 ≤ 6 by omega)
  have d4 := drw_lt (dG s2) (show 1 ≤ 4 by omega)
  have o0 : ∀ k, k ≠ 0 → s0.1 k = 0 := fun k hk => by rw [a1]; exact sgi_o _ hk
  have z0 : s0.1 0 = dd := by rw [a1]; rfl
  obtain ⟨⟨m1, i1, x1, A0, A1, A2, A3, A4, A5⟩, ⟨m2, i2, x2, B0, B1, B2, B3, B4, B5⟩, ⟨m3, i3, x3, C0, C3⟩, ⟨m4, i4, D0⟩, m5, dt5, i5, E0⟩ := dS_g j0 x0 z0 (o0 1 (by omega)) (o0 2 (by omega)) (o0 3 (by omega)) (o0 4 (by omega)) (o0 5 (by omega)) (by omega) (by omega) (by omega) (by omega) e1 e2 e3 e4 e5
  -- the object
  unfold w_L_season
  refine ⟨by omega, by omega, fun a1' M1 ea eM => ⟨9, 85, by omega, by omega, ?_⟩⟩
  have k8 : zk M1 (zn M) = 8 := by rw [eM]; exact sNk _ _ _
  have n1 : zn M1 = zn M + 1 := by rw [eM]; rfl
  have r1 : ZR (zn M) M1 := fun b hb1 hb2 j => by
    have : b = zn M := by omega
    rw [eM, this]; exact iN_n rfl
  have f1 : FrG (zn M) (zn M + 1) M M1 := by rw [eM]; exact frg_N
  subst ea
  clear eM
  refine s_X8_init n1 k8 r1 (Nat.le_refl _) (Nat.le_refl _) _ fun M2 l2 n2 r2 f2 => ?_
  have f12 := f1.trans f2
  have z12 := f12.1
  have y2 : YL x ga a (zn M) st [] G M2 := ⟨⟨hC.frg f12 (by omega) (by omega), ok⟩, ⟨h1, h2, h3, by omega⟩, hG.fr f12 (by omega) (by omega), hs.sm f12.1 fun b hb _ => f12.2 b hb (by omega)⟩
  obtain ⟨n0, hn0, g2⟩ : ∃ n0 : Nat → Nat, (∀ i, n0 i = 0) ∧ BSw (zn M) (zn M + 10) n0 (sgi dd) (fun _ => 0) M2 := ⟨fun _ => 0, fun _ => rfl, bsw_0 l2 n2 r2⟩
  generalize zn M = e at y2 g2 K ⊢
  clear f12 f1 f2 r1 r2 k8 n1 n2 l2 hC ok hG hs h1 h2 h3 z12
  -- the days
  rw [show (6 : Int32) = nI 6 from rfl]
  refine y2.dr (by omega) (by omega) _ fun M3 y3 f3 => ?_
  have g3 := g2.kb f3
  have ed : (2 : Int32) + nI (drw G 6) = nI dd := by rw [show (2 : Int32) = nI 2 from rfl, nI_add, hdd]
  rw [ed]
  refine ⟨g3.sh.1.1, fun M4 hM => ?_⟩
  have y4 := y3.I (c := e) (j := 0) (v := nI dd) (Nat.le_refl _) (g3.row9 0 (by omega))
  have g4 := g3.num (i := 0) (v := dd)
  rw [← hM] at y4 g4
  clear hM ed y3 g3 f3 y2 g2
  refine ⟨by omega, by omega, y4.k16, y4.aS (by omega) (by omega) (by decide) _ fun M5 y5 f5 => ⟨a, rfl, ?_⟩⟩
  have g5 := g4.kb f5
  refine ⟨g5.sh.1.1, by omega, by omega, y5.k16, ?_⟩
  rw [g5.2.1 0 (by omega), ups_1]
  refine y5.aI (by omega) (by decide) _ fun M6 y6 f6 => ⟨a, rfl, by omega, by omega, y6.k16, ?_⟩
  have ld := dig3 (v := dd) (by omega)
  have t6 : (([] ++ tc 6) ++ dig dd).length ≤ 10 := by
    rw [List.length_append]
    show 5 + _ ≤ _
    omega
  rw [show (59 : Int32) = nI 59 from rfl]
  refine y6.aC (by omega) (by omega) _ fun M7 y7 f7 => ⟨a, rfl, ?_⟩
  have g7 := g5.kb (f6.trans f7)
  rw [daysT_e, ← a3] at y7
  rw [← a1, ← a2] at g7
  clear y4 y5 y6 g4 g5 f5 f6 f7 ld t6
  -- halls, players, works, absences, the fee
  have HH := hh_halls (N := hh) j0 x0 (o0 1 (by omega)) (by omega)
  refine s_sB y7 g7 eh a4.symm e1 HH (by omega) (by omega) fun M8 b8 s8 c8 v8 y8 g8 => ?_
  show w_L_draw _ _ _ _
  have n84 : ups (ups n0 0 dd) 1 hh 4 = s1.1 4 := by
    rw [ups_o _ _ _ (by omega), ups_o _ _ _ (by omega), hn0, A4]
  have HP := hh_plays (N := pp) i1.nxt x1.nxt (by rw [dnx_1]; exact A2) (by rw [dnx_1]; exact A3) (by omega)
  refine s_sC y8 g8 ep e2 A2 n84 HP (by omega) (by omega) fun M9 b9 s9 c9 v9 y9 g9 q9 => ?_
  show w_L_draw _ _ _ _
  obtain ⟨z9, g9⟩ := g9
  have q9b : Q2 (dnx s2).1 := by rw [dnx_1]; exact q9
  have HW := hh_works (N := ww) (m := ups (ups (ups (ups (ups n0 0 dd) 1 hh) 2 pp) 4 (s2.1 4)) 3 ww) i2.nxt x2.nxt (by rw [dnx_1]; exact B3) (by rw [dnx_1]; exact B4) q9b (by omega) (by
    rw [dnx_1, B0, ups_o _ _ _ (by omega), ups_o _ _ _ (by omega), ups_o _ _ _ (by omega), ups_o _ _ _ (by omega), ups_1]) (by
    rw [dnx_1, ups_o _ _ _ (by omega), ups_1])
  refine s_sD y9 g9 ew e3 HW (by omega) (by omega) fun M10 b10 s10 c10 v10 y10 g10 => ?_
  obtain ⟨z10, g10⟩ := g10
  have q3 : Q2 s3.1 := by
    have u := (HW ww (Nat.le_refl _)).2.2.2.2.2.2.2.2.1
    rw [e3] at u
    exact u
  have N0 : ups (ups (ups (ups (ups n0 0 dd) 1 hh) 2 pp) 4 (s2.1 4)) 3 ww 0 = dd := by
    rw [ups_o _ _ _ (by omega), ups_o _ _ _ (by omega), ups_o _ _ _ (by omega), ups_o _ _ _ (by omega), ups_1]
  have N1 : ups (ups (ups (ups (ups n0 0 dd) 1 hh) 2 pp) 4 (s2.1 4)) 3 ww 1 = hh := by
    rw [ups_o _ _ _ (by omega), ups_o _ _ _ (by omega), ups_o _ _ _ (by omega), ups_1]
  have N2 : ups (ups (ups (ups (ups n0 0 dd) 1 hh) 2 pp) 4 (s2.1 4)) 3 ww 2 = pp := by
    rw [ups_o _ _ _ (by omega), ups_o _ _ _ (by omega), ups_1]
  have N3 : ups (ups (ups (ups (ups n0 0 dd) 1 hh) 2 pp) 4 (s2.1 4)) 3 ww 3 = ww := ups_1 _ _ _
  have N5 : ups (ups (ups (ups (ups n0 0 dd) 1 hh) 2 pp) 4 (s2.1 4)) 3 ww 5 = 0 := by
    rw [ups_o _ _ _ (by omega), ups_o _ _ _ (by omega), ups_o _ _ _ (by omega), ups_o _ _ _ (by omega), ups_o _ _ _ (by omega), hn0]
  have N6 : ups (ups (ups (ups (ups n0 0 dd) 1 hh) 2 pp) 4 (s2.1 4)) 3 ww 6 = 0 := by
    rw [ups_o _ _ _ (by omega), ups_o _ _ _ (by omega), ups_o _ _ _ (by omega), ups_o _ _ _ (by omega), ups_o _ _ _ (by omega), hn0]
  generalize ups (ups (ups (ups (ups n0 0 dd) 1 hh) 2 pp) 4 (s2.1 4)) 3 ww = nn at g10 N0 N1 N2 N3 N5 N6
  have F0 : s3.1 0 = dd := (C0 0 (by omega) (by omega)).trans B0
  have F1 : s3.1 1 = hh := (C0 1 (by omega) (by omega)).trans B1
  have F2 : s3.1 2 = pp := (C0 2 (by omega) (by omega)).trans B2
  have F5 : s3.1 5 = 0 := (C0 5 (by omega) (by omega)).trans B5
  have G0 : s4.1 0 = dd := (D0 0 fun j hj => by omega).trans F0
  have G1 : s4.1 1 = hh := (D0 1 fun j hj => by omega).trans F1
  have G2 : s4.1 2 = pp := (D0 2 fun j hj => by omega).trans F2
  have G3 : s4.1 3 = ww := (D0 3 fun j hj => by omega).trans C3
  have G5 : s4.1 5 = 0 := (D0 5 fun j hj => by omega).trans F5
  have HA := hh_abss (N := pp) (m := nn) i3 x3 q3 (by omega) (by omega) (by rw [N0, F0])
  refine s_sE y10 g10 e4 e5 N2 (by omega) HA (by rw [N5, G5]) (by omega) (by omega) fun M11 y11 g11 => ?_
  obtain ⟨z11, n11, g11, O1, O5⟩ := g11
  have I2 := (E0 2 (by omega)).trans G2
  refine K M11 y11 (g11.si ?_ ?_ ?_ ?_ O5 ?_ (by omega))
  · rw [O1 0 (by omega), N0, E0 0 (by omega), G0]
  · rw [O1 1 (by omega), N1, E0 1 (by omega), G1]
  · rw [O1 2 (by omega), N2, E0 2 (by omega), G2]
  · rw [O1 3 (by omega), N3, E0 3 (by omega), G3]
  · rw [O1 6 (by omega), N6]
end LN
