/-! A SEASON IS PLAYED: drawn, told, read, and its steps -/
def CT (s : DS) : Prop := ∀ k, s.2.2.1 k ≤ 40
section CTS
variable {sg ct : Nat → Nat} {nm : Nat → List Nat} {t : List Nat} {G : Nat}
theorem CT.mk (h : ∀ k, ct k ≤ 40) : CT (sg, nm, ct, t, G) := h
theorem CT.un (h : CT (sg, nm, ct, t, G)) : ∀ k, ct k ≤ 40 := h
theorem CT.nxt {s : DS} (h : CT s) : CT (dnx s) := by
  unfold CT
  rw [dnx_c]
  exact h
theorem CT.h {s : DS} (h : CT s) : ∀ k, CT (dN dH k s) := by
  intro k
  induction k with
  | zero => rw [dN_0]; exact h
  | succ k ih =>
    rw [dN_s]
    generalize dN dH k s = s1 at ih ⊢
    obtain ⟨sg, nm, ct, t, G⟩ := s1
    rw [dH_eq]
    exact CT.mk ih.un
theorem CT.p {s : DS} (h : CT s) : ∀ k, CT (dN dP k s) := by
  intro k
  induction k with
  | zero => rw [dN_0]; exact h
  | succ k ih =>
    rw [dN_s]
    generalize dN dP k s = s1 at ih ⊢
    obtain ⟨sg, nm, ct, t, G⟩ := s1
    have ih := ih.un
    have d := drw_lt G (show 1 ≤ 6 by omega)
    rw [dP_eq]
    refine CT.mk fun p => ?_
    generalize drw G 6 = v at d ⊢
    by_cases c : p = sg 2
    · rw [c, ups_1]; omega
    · rw [ups_o _ _ _ c]; exact ih p
theorem CT.w {s : DS} (h : CT s) : ∀ k, CT (dN dW_ k s) := by
  intro k
  induction k with
  | zero => rw [dN_0]; exact h
  | succ k ih =>
    rw [dN_s]
    generalize dN dW_ k s = s1 at ih ⊢
    obtain ⟨sg, nm, ct, t, G⟩ := s1
    rw [dW_e0]
    exact CT.mk ih.un
theorem CT.a {s : DS} (h : CT s) : ∀ k, CT (dAs k s) := by
  intro k
  induction k with
  | zero => rw [dAs_0]; exact h
  | succ k ih =>
    rw [dAs_s]
    generalize dAs k s = s1 at ih ⊢
    obtain ⟨sg, nm, ct, t, G⟩ := s1
    by_cases q : drw G 4 = 0
    · rw [dA_y q]; exact CT.mk ih.un
    · rw [dA_n q]; exact CT.mk ih.un
theorem CT.e {s : DS} (ih : CT s) : CT (dE s) := by
  obtain ⟨sg, nm, ct, t, G⟩ := s
  by_cases q : drw G 2 = 0
  · rw [dE_y q]; exact CT.mk ih.un
  · rw [dE_n q]; exact CT.mk ih.un
theorem plC_ok {sg ct : Nat → Nat} (h8 : sg 2 ≤ 8) (h : ∀ k, ct k ≤ 40) : PG sg (plC ct) := by
  have z0 : plC ct 0 = 0 := if_neg (by omega)
  refine ⟨⟨by rw [z0]; omega, fun p hp => ?_, fun s hs => ?_⟩, fun s q h1 h2 => ?_, fun s hs => ?_, fun s q h1 h2 => ?_⟩
  · unfold plC
    rw [if_pos (by omega)]; exact h _
  · rw [z0] at hs; exact absurd hs (Nat.not_lt_zero _)
  · rw [z0] at h2; exact absurd h2 (Nat.not_lt_zero _)
  · rw [z0] at hs; exact absurd hs (Nat.not_lt_zero _)
  · rw [z0] at h1; exact absurd h1 (Nat.not_lt_zero _)
end CTS
theorem SBd.frl {a lo hi : Nat} {tx : List Nat} {M M' : Mm} (h : SBd a tx M) (f : FrG lo hi M M') (hh : hi ≤ a) : SBd a tx M' := by
  obtain ⟨v, ⟨h1, h2, h3, h4⟩, ⟨h5, h6, h7, h8, h9⟩, h10, h11⟩ := h
  obtain ⟨a1, a2, a3, a4, a5⟩ := f.2 a (by omega) (by omega)
  obtain ⟨b1, b2, b3, b4, b5⟩ := f.2 v h9 (by omega)
  have z := f.1
  exact ⟨v, ⟨by rw [a1]; exact h1, by rw [a5]; exact h2, by rw [a3]; exact h3, by rw [a3]; exact h4⟩, ⟨by rw [b1]; exact h5, by rw [b2]; exact h6, by rw [b2]; exact h7, h8, by omega⟩, by rw [b2, b3]; exact h10, by rw [b3]; exact h11⟩
section PLY
variable {x ga a G : Nat} {sg pl : Nat → Nat} {hn : Nat} {hl : Nat → Nat → Nat} {sv : Nat → Bool} {sl : Nat → Nat → Nat} {bf : Nat → Int32} {ep : Nat} {nm : Nat → List Nat} {M : Mm}
/-- a new text builder -/
theorem s_J4_init (hz : zn M = a + 1) (k16 : zk M a = 16) (i0 : ∀ j, zI M a j = nI 0) (P : Mm → Prop) (K : ∀ M', SBd a [] M' → FrG a (a + 1) M M' → zn M' = a + 2 → P M') : w_J4_init_da8c8 M a P := by
  unfold w_J4_init_da8c8 w_J5_init_d00df
  refine ⟨by decide, by decide, fun v M1 hv hM1 => ?_⟩
  rw [show (16 : Int32).toNatClampNeg = 16 from rfl] at hM1
  have va : v = a + 1 := by omega
  have ka : zk M1 a = 16 := by rw [hM1, kN_o (by omega)]; exact k16
  refine ⟨ka, fun M2 hM2 => ⟨by rw [hM2]; exact ka, ⟨narz, rfl⟩, fun M3 hM3 => ?_⟩⟩
  have f1 : FrG a (a + 1) M M1 := by rw [hM1]; exact frg_N
  have f2 : FrG a (a + 1) M1 M2 := by rw [hM2]; exact frg_R (by omega)
  have f3 : FrG a (a + 1) M2 M3 := by rw [hM3]; exact frg_I (by omega)
  have n1 : zn M1 = a + 2 := by rw [hM1, zn_sN]; omega
  have i1 : ∀ j, zI M3 v j = nI 0 := fun j => by
    rw [hM3, zI_sIo _ _ _ _ (by omega), hM2]
    show zI M1 v j = nI 0
    rw [hM1]; exact iN_n hv
  refine K M3 ⟨v, ⟨by rw [hM3, hM2]; exact ka, ?_, ?_, ?_⟩, ⟨?_, Nat.zero_le _, ?_, by omega, ?_⟩, fun j hj => ⟨0, by omega, i1 j⟩, fun j hj => absurd hj (Nat.not_lt_zero _)⟩ (f1.trans (f2.trans f3)) (by rw [hM3, hM2]; exact n1)
  · rw [hM3, zR_sI, hM2]; exact zR_sR1 _ _ _ _
  · rw [hM3, zI_sI1]; rfl
  · rw [hM3, zI_sI2 _ _ _ _ (by omega), hM2]
    show zI M1 a 3 = nI 0
    rw [hM1, iN_o (by omega)]; exact i0 3
  · rw [hM3, hM2]
    show zk M1 v = 9
    rw [hM1]; exact kN_n hv
  · rw [hM3, hM2]
    show zl M1 v ≤ 1300
    rw [hM1, lN_n hv]; omega
  · rw [hM3, hM2]
    show v < zn M1
    omega
theorem s_J4_len {t : List Nat} (h : SBd a t M) (P : Int32 → Mm → Prop) (K : P (nI t.length) M) : w_J4_length_8abf5 M a P := by
  obtain ⟨v, ⟨h1, h2, h3, h4⟩, -⟩ := h
  refine ⟨h1, h1, ?_⟩
  rw [h4]
  exact K
theorem pad_b {t : List Nat} {j : Nat} (h : j < t.length) : pad t j = t.getD j 0 := if_pos h
theorem s_L_plays_g {s0 s1 s2 s3 s4 s5 : DS} {dd hh pp ww c : Nat} (jj : ∀ bf, JS s5.2.2.2.1 bf (daysT dd).length (sgi dd, fun _ => [], fun _ => 0, false) s0 false 0 9) (x0 : JX s0) (hdd : 2 + drw G 6 = dd) (a1 : s0.1 = sgi dd) (a2 : s0.2.2.1 = fun _ => 0) (a3 : s0.2.2.2.1 = daysT dd) (a4 : dG s0 = nx (nx G)) (eh : 1 + drw (nx G) 3 = hh) (e1 : dN dH hh s0 = s1) (ep' : 2 + drw (dG s1) 6 = pp) (e2 : dN dP pp (dnx s1) = s2) (ew : 1 + drw (dG s2) 4 = ww) (e3 : dN dW_ ww (dnx s2) = s3) (e4 : dAs pp s3 = s4) (e5 : dE s4 = s5)
    (hC : CI x (sg, pl, hn, hl, sv, sl, 0, bf, ep, nm) M) (ok : OKs (sg, pl, hn, hl, sv, sl, 0, bf, ep, nm)) (h1 : x + 149 ≤ ga) (h2 : ga < zn M) (hG : GA ga G M) (hc : stS s5.1 (plC s5.2.2.1, dG s5) 26 ≤ c) {B S1 : Nat} (hB : 363 + c ≤ B) (hS1 : 294000 + 5 * c ≤ S1) {P : Int32 → Mm → Prop}
    (K : ∀ M', (∃ (sg pl : Nat → Nat) (hn : Nat) (hl : Nat → Nat → Nat) (sv : Nat → Bool) (sl : Nat → Nat → Nat) (bf : Nat → Int32) (ep : Nat) (nm : Nat → List Nat), CI x (sg, pl, hn, hl, sv, sl, 0, bf, ep, nm) M' ∧ OKs (sg, pl, hn, hl, sv, sl, 0, bf, ep, nm)) → x + 149 ≤ zn M' → P (1 : Int32) M') : w_L_plays M x ga P B S1 := by
  have d6 := drw_lt G (show 1 ≤ 6 by omega)
  have d3 := drw_lt (nx G) (show 1 ≤ 3 by omega)
  have d6b := drw_lt (dG s1) (show 1 ≤ 6 by omega)
  have d4 := drw_lt (dG s2) (show 1 ≤ 4 by omega)
  have o0 : ∀ k, k ≠ 0 → s0.1 k = 0 := fun k hk => by rw [a1]; exact sgi_o _ hk
  have z0 : s0.1 0 = dd := by rw [a1]; rfl
  have SG := fun bf => dS_g (jj bf) x0 z0 (o0 1 (by omega)) (o0 2 (by omega)) (o0 3 (by omega)) (o0 4 (by omega)) (o0 5 (by omega)) (by omega) (by omega) (by omega) (by omega) e1 e2 e3 e4 e5
  have pre0 : Pre dd s0 := ⟨[], by rw [a3, List.append_nil]⟩
  have ct0 : CT s0 := fun k => by rw [a2]; exact Nat.zero_le 40
  have pre1 := pre0.h hh
  have ct1 := ct0.h hh
  rw [e1] at pre1 ct1
  have pre2 := pre1.nxt.p pp
  have ct2 := ct1.nxt.p pp
  rw [e2] at pre2 ct2
  have pre3 := pre2.nxt.w ww
  have ct3 := ct2.nxt.w ww
  rw [e3] at pre3 ct3
  have pre4 := pre3.a pp
  have ct4 := ct3.a pp
  rw [e4] at pre4 ct4
  have pre5 := pre4.e
  have ct5 := ct4.e
  rw [e5] at pre5 ct5
  clear pre0 pre1 pre2 pre3 pre4 ct0 ct1 ct2 ct3 ct4
  have ct5 : ∀ k, s5.2.2.1 k ≤ 40 := ct5
  unfold w_L_plays
  refine ⟨by omega, by omega, fun a M1 ea eM => ⟨by omega, by omega, ?_⟩⟩
  have k16 : zk M1 a = 16 := by rw [eM, kN_n ea]
  have n1 : zn M1 = a + 1 := by rw [eM, zn_sN, ea]
  have i1 : ∀ j, zI M1 a j = nI 0 := fun j => by rw [eM]; exact iN_n ea
  have f1 : FrG a (a + 1) M M1 := by rw [eM]; exact frg_N
  clear eM
  refine s_J4_init n1 k16 i1 _ fun M2 b2 f2 n2 => ⟨336, 293020, by omega, by omega, ?_⟩
  have f12 := f1.trans f2
  have c2 := hC.frg f12 (by omega) (by omega)
  have g2 := hG.fr f12 h2 (by omega)
  refine s_L_season_g (jj (fun _ => 0)) x0 hdd a1 a2 a3 a4 eh e1 ep' e2 ew e3 e4 e5 c2 ok (by omega) (by omega) (by omega) g2 b2 (Nat.le_refl _) (Nat.le_refl _) fun M3 y3 i3 => ⟨zn M2, rfl, by omega, by omega, y3.k16, ?_⟩
  obtain ⟨⟨c3, -⟩, -, g3, b3⟩ := y3
  obtain ⟨m5, dt5, i5, E0⟩ := (SG (fun _ => 0)).2.2.2.2
  have tl := i5.2.1
  have t128 := i5.1.2.2
  have iz := i3.1
  have p1 : 1 ≤ s5.1 2 := by
    obtain ⟨-, ⟨m2, i2, x2, B0, B1, B2, -⟩, ⟨m3, i3', x3, C0, -⟩, ⟨m4, i4', D0⟩, -⟩ := SG (fun _ => 0)
    have q := (E0 2 (by omega)).trans ((D0 2 fun j hj => by omega).trans ((C0 2 (by omega) (by omega)).trans B2))
    omega
  have zr : zn M2 + 11 ≤ zn M3 := by
    obtain ⟨-, r, -, q⟩ := i3.2.1.p p1
    have := q.1
    omega
  refine s_toString b3 (by omega) t128 _ fun cs M4 st4 f4 hc4 hu4 hcz4 b4 => ⟨cs, rfl, (s5.2.2.2.1.length + 19) / 20, 5 * ((s5.2.2.2.1.length + 19) / 20), by omega, by omega, ?_⟩
  have f4b : FrG (zn M3) (zn M3 + 2) M3 M4 := f4
  have f40 : FrG 0 0 M3 M4 := ⟨f4.1, fun b hb _ => f4.2 b hb (by omega)⟩
  have c4 := c3.frg f4b (by omega) (by omega)
  have g4 := g3.fr f4b (by omega) (by omega)
  have i4 := i3.fr f40 (by omega)
  refine s_L_feeds ok c4 st4 (by omega) ⟨by omega, hcz4⟩ (fun u hu => by obtain ⟨u2, q1, q2, q3⟩ := hu4; rw [q1] at hu; cases hu; omega) (Nat.le_refl _) (Nat.le_refl _) _ fun M5 bf5 c5 ok5 v5 f5 => ifn (by decide) ?_
  have z45 := f5.1
  have g5 := g4.fr f5 (by omega) (by omega)
  have i5b := i4.fr f5 (by omega)
  have b5 : SBd a s5.2.2.2.1 M5 := b4.frl f5 (by omega)
  have xk : zk M5 x = 7 := by
    obtain ⟨c10, sa, sp, hps, hx7, -⟩ := c5
    exact hx7.s.1.1
  have k5 : zk M5 a = 16 := by
    obtain ⟨v, ⟨q, -⟩, -⟩ := b5
    exact q
  refine ⟨k5, s_J4_len b5 _ ⟨by omega, by omega, xk, ?_⟩⟩
  obtain ⟨S1', S2', S3', S4', n5', dt5', j5, E5⟩ := SG bf5
  have bts : Bts s5.2.2.2.1 bf5 := ⟨t128, fun j hj => by rw [v5 j (by omega), pad_b hj]⟩
  have pg := parse_g (by omega) (by omega) bts j5 pre5
  have hby := ok5.2.2.2.2.2.2.1
  refine parse_C ok5 (by omega) c5 (by omega) _ _ (fun t2 et2 M6 c6 f6 => ?_) (fun c q e => by rw [pg] at e; cases e)
  have et3 := et2
  rw [pg] at et2
  have et2 := (Sum.inr.inj et2).symm
  subst et2
  have psok := parseL_ok (fun i hi => hby i (by omega)) et3
  obtain ⟨q1, q2, q3, q4, q5, q6, q7, q8, q9⟩ := psok
  refine ifp rfl ?_
  obtain ⟨-, m2, i2, x2, B0, B1, B2, B3, B4, B5⟩ := And.intro S1' S2'
  obtain ⟨m3, i3', x3, C0, C3⟩ := S3'
  obtain ⟨m4, i4', D0⟩ := S4'
  have F : ∀ i, i < 65 → i ≠ 3 → i ≠ 5 → (∀ j, j < 7 → i ≠ 9 + 7 * j + 1) → s5.1 i = s2.1 i := fun i r1 r2 r3 r4 => (E5 i r3).trans ((D0 i r4).trans (C0 i r1 r2))
  have F3 : s5.1 3 = ww := (E5 3 (by omega)).trans ((D0 3 fun j hj => by omega).trans C3)
  have F0 := F 0 (by omega) (by omega) (by omega) fun j hj => by omega
  have F1 := F 1 (by omega) (by omega) (by omega) fun j hj => by omega
  have F2 := F 2 (by omega) (by omega) (by omega) fun j hj => by omega
  have ok6 : OKs (s5.1, plC s5.2.2.1, 0, hl, fun _ => false, sl, 0, bf5, 4294967295, s5.2.1) := ⟨q2, plC_ok (by omega) ct5, Nat.zero_le _, fun i hi => absurd hi (Nat.not_lt_zero _), fun i _ hi => (by cases hi), Nat.zero_le _, fun i hi => absurd hi (Nat.not_lt_zero _), by decide, q4, q5, q6, q7⟩
  have c6 : CI x (s5.1, plC s5.2.2.1, 0, hl, fun _ => false, sl, 0, bf5, 4294967295, s5.2.1) M6 := c6
  have g6 := g5.fr f6 (by omega) (by omega)
  have i6 := i5b.fr f6 (by omega)
  have we : WE 0 x ga (zn M2) s5.1 (plC s5.2.2.1) (dG s5) M6 := ⟨0, hl, fun _ => false, sl, bf5, 4294967295, s5.2.1, ⟨c6, ok6⟩, ⟨by omega, by omega⟩, g6, i6⟩
  have lb : LB s5.1 := by
    refine ⟨⟨by omega, by omega, by omega, by omega⟩, fun w hw => ?_, by omega, by omega⟩
    have q := x3.2 w (by omega)
    show s5.1 (65 + 11 * w + 4) ≤ 4
    rw [E5 _ (by omega), D0 _ fun j hj => by omega]
    exact q
  refine s_L_plays_41 (z := (plC s5.2.2.1, dG s5)) we lb (by omega) (by omega) fun M7 s7 w7 => ⟨Or.inr rfl, K M7 ?_ ?_⟩
  · obtain ⟨hn, hl, sv, sl, bf, ep, nm, w⟩ := w7
    exact ⟨_, _, hn, hl, sv, sl, bf, ep, nm, w.ci, w.ok⟩
  · obtain ⟨hn, hl, sv, sl, bf, ep, nm, w⟩ := w7
    have r1 := w.2.1
    have r2 := w.si.1
    omega
end PLY
