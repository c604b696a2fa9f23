/-! THE SEASON IS BUILT: players -/
theorem sNk (M : Mm) (k n : Nat) : zk (sN M k n) (zn M) = k := if_pos rfl
theorem sNl (M : Mm) (k n : Nat) : zl (sN M k n) (zn M) = n := if_pos rfl
theorem upsups (f : Nat → Nat) (i a b : Nat) : ups (ups f i a) i b = ups f i b := by
  funext k
  by_cases c : k = i
  · rw [c, ups_1, ups_1]
  · rw [ups_o _ _ _ c, ups_o _ _ _ c, ups_o _ _ _ c]
section LP
variable {x ga a e z G : Nat} {st : ST} {n sg ct : Nat → Nat} {t : List Nat} {M : Mm}
theorem playT_1 (t : List Nat) (k c f m o : Nat) : ((((((((((t ++ tc 8) ++ [97 + k]) ++ [32]) ++ dig c) ++ [32]) ++ dig f) ++ [32]) ++ [97 + m])) ++ [59]) = t ++ playT k c f m o false := by
  unfold playT
  simp only [List.append_assoc]
  rfl
theorem playT_2 (t : List Nat) (k c f m o : Nat) : (((((((((((((t ++ tc 8) ++ [97 + k]) ++ [32]) ++ dig c) ++ [32]) ++ dig f) ++ [32]) ++ [97 + m])) ++ [32]) ++ [97 + o]) ++ [59])) = t ++ playT k c f m o true := by
  unfold playT
  simp only [List.append_assoc]
  rfl
theorem mi4_i {k : Nat} (h : k ≤ 4) : (if nI k + (1 : Int32) < (4 : Int32) then nI k + (1 : Int32) else (4 : Int32)) = nI (mi4 k) := by
  rw [show (1 : Int32) = nI 1 from rfl, show (4 : Int32) = nI 4 from rfl, nI_add]
  unfold mi4
  by_cases c : k + 1 < 4
  · rw [if_pos (nI_lt c (by omega)), if_pos c]
  · rw [if_neg (nI_nlt (by omega) (by omega)), if_neg c]
theorem kd_i {k m : Nat} (h : k ≤ 4) (hm : m ≤ k) (hm4 : m < 4) : (if nI k < nI m + (1 : Int32) then nI m + (1 : Int32) else nI k) = nI (if m < k then k else k + 1) := by
  rw [show (1 : Int32) = nI 1 from rfl, nI_add]
  by_cases c : m < k
  · rw [if_neg (nI_nlt (by omega) (by omega)), if_pos c]
  · have e : m = k := by omega
    rw [if_pos (nI_lt (by omega) (by omega)), if_neg c, e]
theorem pBoth_t {sg : Nat → Nat} {G : Nat} (h : pOther sg G ≠ pMain sg G) (h2 : drw (nx (nx (nx (nx G)))) 2 = 0) : pBoth sg G = true := decide_eq_true ⟨h, h2⟩
theorem pBoth_1 {sg : Nat → Nat} {G : Nat} (h : pOther sg G = pMain sg G) : pBoth sg G = false := decide_eq_false fun q => q.1 h
theorem pBoth_2 {sg : Nat → Nat} {G : Nat} (h : drw (nx (nx (nx (nx G)))) 2 ≠ 0) : pBoth sg G = false := decide_eq_false fun q => h q.2
theorem pG_1 {sg : Nat → Nat} {G : Nat} (h : pOther sg G = pMain sg G) : pG sg G = nx (nx (nx (nx G))) := if_pos h
theorem pG_2 {sg : Nat → Nat} {G : Nat} (h : pOther sg G ≠ pMain sg G) : pG sg G = nx (nx (nx (nx (nx G)))) := if_neg h
/-- a player more -/
theorem BSw.play (h : BSw e z n sg ct M) {f m o c r : Nat} {both : Bool} (h7 : sg 2 < 7) (h13 : sg 1 ≤ 3) (hf : zI M (e + 2) (sg 2) = nI f) (hc : zI M (e + 3) (sg 2) = nI c) (hr : zR M (e + 5) (sg 2) = some r) (hr2 : Row e r (if both = true then 2 else 1) (fun j => if j = 0 then m else o) M) (z1 : oP sg (sg 2) 1 = 0) (z2 : oP sg (sg 2) 2 = 0) (hq : ∀ p, p < sg 2 → oP sg p 2 ≤ 2) : BSw e (zn M) n (pyS sg f m o both) (ups ct (sg 2) c) M := by
  obtain ⟨v2, v0, v1, vc, vm, vo, v4⟩ := pyS_v (f := f) (m := m) (o := o) (both := both) z1 z2
  have ko : ∀ k, k ≠ 2 → k ≠ 4 → (k < 9 + 7 * sg 2 ∨ 9 + 7 * sg 2 + 5 ≤ k) → pyS sg f m o both k = sg k := fun k a1 a2 a3 => pyS_o a1 a2 a3 z2
  generalize pyS sg f m o both = sq at v2 v0 v1 vc vm vo v4 ko ⊢
  have h := h.mono (z2 := zn M) h.1.1 (Nat.le_refl _)
  obtain ⟨a1, a4, a5, a6, a7, a8⟩ := h
  refine ⟨a1, a4, fun k hk => ?_, fun p hp => ?_, fun p hp => ?_, fun w hw => ?_⟩
  · rw [ko 1 (by omega) (by omega) (by omega)] at hk
    rw [ko _ (by omega) (by omega) (by omega)]; exact a5 k hk
  · by_cases c1 : p = sg 2
    · rw [c1, v1, ← z1]; exact a6 (sg 2) (by omega)
    · show _ = nI (sq (9 + 7 * p + 1))
      rw [ko _ (by omega) (by omega) (by omega)]; exact a6 p hp
  · rw [v2] at hp
    by_cases c1 : p = sg 2
    · subst c1
      rw [v0, ups_1]
      refine ⟨⟨hf, hc⟩, r, hr, hr2.1.2, ?_⟩
      rw [vc]
      refine hr2.ext fun j hj => ?_
      by_cases cj : j = 0
      · rw [if_pos cj, cj]; exact vm.symm
      · have b2 : both = true := by
          by_cases q : both = true
          · exact q
          · rw [if_neg q] at hj; omega
        have j1 : j = 1 := by rw [if_pos b2] at hj; omega
        rw [if_neg cj, j1]; exact (vo b2).symm
    · obtain ⟨⟨b1, b2⟩, r, b3, b4, b5⟩ := a7 p (by omega)
      refine ⟨⟨?_, by rw [ups_o _ _ _ c1]; exact b2⟩, r, b3, b4, ?_⟩
      · show _ = nI (sq (9 + 7 * p + 0))
        rw [ko _ (by omega) (by omega) (by omega)]; exact b1
      · have c2 : oP sq p 2 = oP sg p 2 := ko _ (by omega) (by omega) (by omega)
        rw [c2]
        have c5 := hq p (by omega)
        exact b5.ext fun j hj => (ko (9 + 7 * p + (3 + j)) (by omega) (by omega) (by omega)).symm
  · rw [ko 3 (by omega) (by omega) (by omega)] at hw
    obtain ⟨⟨r, b3, b4, b5⟩, q, b6, b7, b8⟩ := a8 w hw
    have c4 : oW sq w 4 = oW sg w 4 := ko _ (by omega) (by omega) (by omega)
    rw [c4]
    exact ⟨⟨r, b3, b4, b5.ext fun j _ => (ko (65 + 11 * w + j) (by omega) (by omega) (by omega)).symm⟩, q, b6, b7, b8.ext fun j _ => (ko (65 + 11 * w + (5 + j)) (by omega) (by omega) (by omega)).symm⟩
/-- the row of instruments is laid and the player told -/
theorem s_play1 {G2 : Nat} {t2 : List Nat} (y : YL x ga a e st t2 G2 M) (h : BSw e z n sg ct M) {f m o c : Nat} (h7 : sg 2 < 7) (h13 : sg 1 ≤ 3) (hf : zI M (e + 2) (sg 2) = nI f) (hc : zI M (e + 3) (sg 2) = nI c) (z1 : oP sg (sg 2) 1 = 0) (z2 : oP sg (sg 2) 2 = 0) (hq : ∀ p, p < sg 2 → oP sg p 2 ≤ 2) {M2 M3 : Mm} (e2 : M2 = sI (sN M 10 1) (zn M) 0 (nI m)) (e3 : M3 = sR M2 (e + 5) (sg 2) (some (zn M))) : YL x ga a e st t2 G2 M3 ∧ BSw e (zn M3) n (pyS sg f m o false) (ups ct (sg 2) c) M3 := by
  subst e2 e3
  have h0 := h.1
  have h1 := h.sh
  have g1 : BSw e z n sg ct (sN M 10 1) := h.N
  have y1 : YL x ga a e st t2 G2 (sN M 10 1) := y.N
  have k1 : zk (sN M 10 1) (zn M) = 10 := sNk _ _ _
  have y2 := y1.I (c := zn M) (j := 0) (v := nI m) (by omega) (by rw [k1]; decide)
  have g2 := g1.I (c := zn M) (j := 0) (v := nI m) (by omega)
  have y3 := y2.R (c := e + 5) (j := sg 2) (v := some (zn M)) (by omega) (g2.row9 5 (by omega))
  have g3 := g2.R5 (j := sg 2) (v := some (zn M)) (Nat.le_refl _)
  have f1 : FrG (zn M) (zn M) M (sN M 10 1) := frg_N
  have f2 := (f1.sm (b := e + 2) (by omega) (by omega)).2.2.1
  have f3 := (f1.sm (b := e + 3) (by omega) (by omega)).2.2.1
  refine ⟨y3, g3.play (r := zn M) (both := false) h7 h13 ?_ ?_ (zR_sR1 _ _ _ _) ⟨⟨by omega, Nat.lt_succ_self _⟩, ⟨k1, sNl M 10 1⟩, fun j hj => ?_⟩ z1 z2 hq⟩
  · show zI (sI (sN M 10 1) (zn M) 0 (nI m)) (e + 2) (sg 2) = nI f
    rw [zI_sIo _ _ _ _ (by omega), f2]; exact hf
  · show zI (sI (sN M 10 1) (zn M) 0 (nI m)) (e + 3) (sg 2) = nI c
    rw [zI_sIo _ _ _ _ (by omega), f3]; exact hc
  · have hj : j < 1 := hj
    have j0 : j = 0 := by omega
    subst j0
    exact zI_sI1 _ _ _ _
theorem s_play2 {G2 : Nat} {t2 : List Nat} (y : YL x ga a e st t2 G2 M) (h : BSw e z n sg ct M) {f m o c : Nat} (h7 : sg 2 < 7) (h13 : sg 1 ≤ 3) (hf : zI M (e + 2) (sg 2) = nI f) (hc : zI M (e + 3) (sg 2) = nI c) (z1 : oP sg (sg 2) 1 = 0) (z2 : oP sg (sg 2) 2 = 0) (hq : ∀ p, p < sg 2 → oP sg p 2 ≤ 2) {M2 M3 : Mm} (e2 : M2 = sI (sI (sN M 10 2) (zn M) 0 (nI m)) (zn M) 1 (nI o)) (e3 : M3 = sR M2 (e + 5) (sg 2) (some (zn M))) : YL x ga a e st t2 G2 M3 ∧ BSw e (zn M3) n (pyS sg f m o true) (ups ct (sg 2) c) M3 := by
  subst e2 e3
  have h0 := h.1
  have h1 := h.sh
  have g1 : BSw e z n sg ct (sN M 10 2) := h.N
  have y1 : YL x ga a e st t2 G2 (sN M 10 2) := y.N
  have k1 : zk (sN M 10 2) (zn M) = 10 := sNk _ _ _
  have y2 := (y1.I (c := zn M) (j := 0) (v := nI m) (by omega) (by rw [k1]; decide)).I (c := zn M) (j := 1) (v := nI o) (by omega) (by rw [zk_sI, k1]; decide)
  have g2 := (g1.I (c := zn M) (j := 0) (v := nI m) (by omega)).I (c := zn M) (j := 1) (v := nI o) (by omega)
  have y3 := y2.R (c := e + 5) (j := sg 2) (v := some (zn M)) (by omega) (g2.row9 5 (by omega))
  have g3 := g2.R5 (j := sg 2) (v := some (zn M)) (Nat.le_refl _)
  have f1 : FrG (zn M) (zn M) M (sN M 10 2) := frg_N
  have f2 := (f1.sm (b := e + 2) (by omega) (by omega)).2.2.1
  have f3 := (f1.sm (b := e + 3) (by omega) (by omega)).2.2.1
  refine ⟨y3, g3.play (r := zn M) (both := true) h7 h13 ?_ ?_ (zR_sR1 _ _ _ _) ⟨⟨by omega, Nat.lt_succ_self _⟩, ⟨k1, sNl M 10 2⟩, fun j hj => ?_⟩ z1 z2 hq⟩
  · show zI (sI (sI (sN M 10 2) (zn M) 0 (nI m)) (zn M) 1 (nI o)) (e + 2) (sg 2) = nI f
    rw [zI_sIo _ _ _ _ (by omega), zI_sIo _ _ _ _ (by omega), f2]; exact hf
  · show zI (sI (sI (sN M 10 2) (zn M) 0 (nI m)) (zn M) 1 (nI o)) (e + 3) (sg 2) = nI c
    rw [zI_sIo _ _ _ _ (by omega), zI_sIo _ _ _ _ (by omega), f3]; exact hc
  · have hj : j < 2 := hj
    by_cases j0 : j = 0
    · subst j0
      show zI (sI (sI (sN M 10 2) (zn M) 0 (nI m)) (zn M) 1 (nI o)) (zn M) 0 = nI m
      rw [zI_sI2 _ _ _ _ (by omega)]
      exact zI_sI1 _ _ _ _
    · have j1 : j = 1 := by omega
      subst j1
      exact zI_sI1 _ _ _ _
theorem s_play1w {G2 : Nat} {t2 : List Nat} (y : YL x ga a e st t2 G2 M) (h : BSw e z n sg ct M) {f m o c : Nat} (h7 : sg 2 < 7) (h13 : sg 1 ≤ 3) (hf : zI M (e + 2) (sg 2) = nI f) (hc : zI M (e + 3) (sg 2) = nI c) (z1 : oP sg (sg 2) 1 = 0) (z2 : oP sg (sg 2) 2 = 0) (hq : ∀ p, p < sg 2 → oP sg p 2 ≤ 2) (ht : t2.length ≤ 600) {X1 X2 X3 X4 : Prop} (x1 : X1) (x2 : X2) (x3 : X3) (x4 : X4) {P0 : Option Nat → Mm → Prop}
    (K : ∀ M', YL x ga a e st (t2 ++ [59]) G2 M' → (∃ z', BSw e z' n (pyS sg f m o false) (ups ct (sg 2) c) M') → P0 (some a) M') : zk M e = 8 ∧ ∃ a50, zR M e 11 = some a50 ∧ X1 ∧ X2 ∧ ¬ (1 : Int32) < 0 ∧ (1 : Int32).toNatClampNeg ≤ 1 ∧ ∀ a51 M51, a51 = zn M → M51 = sN M 10 (1 : Int32).toNatClampNeg → zk M51 a51 = 10 ∧ vp_in (0 : Int32) (zl M51 a51) ∧ ∀ M52, M52 = sI M51 a51 (0 : Int32).toNatClampNeg (nI m) → zk M52 a50 = 14 ∧ zk M52 a51 = 10 ∧ vp_in (nI (sg 2)) (zl M52 a50) ∧ ∀ M53, M53 = sR M52 a50 (sg 2) (some a51) → X3 ∧ X4 ∧ zk M53 a = 16 ∧ w_J4_append_cf468 M53 a (59 : Int32) P0 := by
  have h1 := h.sh
  have h0 := h.1
  refine ⟨h1.1.1, e + 5, h1.1.2.2.2.2.2.1, x1, x2, by decide, by decide, fun a51 M51 ha hM => ?_⟩
  subst ha hM
  have kk : zk (sN M 10 (1 : Int32).toNatClampNeg) (zn M) = 10 := sNk _ _ _
  have g1 : BSw e z n sg ct (sN M 10 (1 : Int32).toNatClampNeg) := h.N
  have s1 := g1.sh
  refine ⟨kk, by rw [sNl]; exact vp_in_nI (n := 0) (by decide) (by decide), fun M52 hM => ?_⟩
  have k5 : zk M52 (e + 5) = 14 ∧ zk M52 (zn M) = 10 ∧ zl M52 (e + 5) = 8 := by
    rw [hM, zk_sI, zl_sI]
    exact ⟨s1.2.1.2.2.2.2.1, kk, s1.2.2.2.2.2.2.1⟩
  refine ⟨k5.1, k5.2.1, by rw [k5.2.2]; exact vp_in_nI (by omega) (by omega), fun M53 hM3 => ?_⟩
  obtain ⟨y3, g3⟩ := s_play1 (m := m) (o := o) y h h7 h13 hf hc z1 z2 hq hM hM3
  refine ⟨x3, x4, y3.k16, ?_⟩
  rw [show (59 : Int32) = nI 59 from rfl]
  exact y3.aC (by omega) ht _ fun M' y4 f4 => K M' y4 ⟨_, g3.kb f4⟩
theorem s_play2w {G2 : Nat} {t2 : List Nat} (y : YL x ga a e st t2 G2 M) (h : BSw e z n sg ct M) {f m o c : Nat} (h7 : sg 2 < 7) (h13 : sg 1 ≤ 3) (hf : zI M (e + 2) (sg 2) = nI f) (hc : zI M (e + 3) (sg 2) = nI c) (z1 : oP sg (sg 2) 1 = 0) (z2 : oP sg (sg 2) 2 = 0) (hq : ∀ p, p < sg 2 → oP sg p 2 ≤ 2) (ht : t2.length ≤ 600) {X1 X2 X3 X4 : Prop} (x1 : X1) (x2 : X2) (x3 : X3) (x4 : X4) {P0 : Option Nat → Mm → Prop}
    (K : ∀ M', YL x ga a e st (t2 ++ [59]) G2 M' → (∃ z', BSw e z' n (pyS sg f m o true) (ups ct (sg 2) c) M') → P0 (some a) M') : zk M e = 8 ∧ ∃ a50, zR M e 11 = some a50 ∧ X1 ∧ X2 ∧ ¬ (2 : Int32) < 0 ∧ (2 : Int32).toNatClampNeg ≤ 2 ∧ ∀ a51 M51, a51 = zn M → M51 = sN M 10 (2 : Int32).toNatClampNeg → zk M51 a51 = 10 ∧ vp_in (0 : Int32) (zl M51 a51) ∧ ∀ M52, M52 = sI M51 a51 (0 : Int32).toNatClampNeg (nI m) → zk M52 a51 = 10 ∧ vp_in (1 : Int32) (zl M52 a51) ∧ ∀ M54, M54 = sI M52 a51 (1 : Int32).toNatClampNeg (nI o) → zk M54 a50 = 14 ∧ zk M54 a51 = 10 ∧ vp_in (nI (sg 2)) (zl M54 a50) ∧ ∀ M53, M53 = sR M54 a50 (sg 2) (some a51) → X3 ∧ X4 ∧ zk M53 a = 16 ∧ w_J4_append_cf468 M53 a (59 : Int32) P0 := by
  have h1 := h.sh
  have h0 := h.1
  refine ⟨h1.1.1, e + 5, h1.1.2.2.2.2.2.1, x1, x2, by decide, by decide, fun a51 M51 ha hM => ?_⟩
  subst ha hM
  have kk : zk (sN M 10 (2 : Int32).toNatClampNeg) (zn M) = 10 := sNk _ _ _
  have g1 : BSw e z n sg ct (sN M 10 (2 : Int32).toNatClampNeg) := h.N
  have s1 := g1.sh
  have ll : zl (sN M 10 (2 : Int32).toNatClampNeg) (zn M) = 2 := sNl _ _ _
  refine ⟨kk, by rw [ll]; exact vp_in_nI (n := 0) (by decide) (by decide), fun M52 hM => ⟨by rw [hM, zk_sI]; exact kk, by rw [hM, zl_sI, ll]; exact vp_in_nI (n := 1) (by decide) (by decide), fun M54 hM4 => ?_⟩⟩
  rw [hM] at hM4
  have k5 : zk M54 (e + 5) = 14 ∧ zk M54 (zn M) = 10 ∧ zl M54 (e + 5) = 8 := by
    rw [hM4, zk_sI, zl_sI, zk_sI, zl_sI]
    exact ⟨s1.2.1.2.2.2.2.1, kk, s1.2.2.2.2.2.2.1⟩
  refine ⟨k5.1, k5.2.1, by rw [k5.2.2]; exact vp_in_nI (by omega) (by omega), fun M53 hM3 => ?_⟩
  obtain ⟨y3, g3⟩ := s_play2 (m := m) (o := o) y h h7 h13 hf hc z1 z2 hq hM4 hM3
  refine ⟨x3, x4, y3.k16, ?_⟩
  rw [show (59 : Int32) = nI 59 from rfl]
  exact y3.aC (by omega) ht _ fun M' y4 f4 => K M' y4 ⟨_, g3.kb f4⟩
theorem kd1_e (sg : Nat → Nat) (m : Nat) : kd1 sg m = if m < sg 4 then sg 4 else sg 4 + 1 := rfl
theorem pMain_e (sg : Nat → Nat) (G : Nat) : drw (nx (nx G)) (mi4 (sg 4)) = pMain sg G := rfl
theorem pOther_e (sg : Nat → Nat) (G : Nat) : drw (nx (nx (nx G))) (mi4 (kd1 sg (pMain sg G))) = pOther sg G := rfl
theorem pyS_41 {f m o : Nat} (z1 : oP sg (sg 2) 1 = 0) (z2 : oP sg (sg 2) 2 = 0) : pyS sg f m o false 4 = kd1 sg m := by
  have q := (pyS_v (f := f) (m := m) (o := o) (both := false) z1 z2).2.2.2.2.2.2
  rw [if_neg (by decide)] at q
  exact q
theorem pyS_42 {f m o : Nat} (z1 : oP sg (sg 2) 1 = 0) (z2 : oP sg (sg 2) 2 = 0) : pyS sg f m o true 4 = if o < kd1 sg m then kd1 sg m else kd1 sg m + 1 := by
  have q := (pyS_v (f := f) (m := m) (o := o) (both := true) z1 z2).2.2.2.2.2.2
  rw [if_pos rfl] at q
  rw [q, kd1_e sg m, ← py_4b (sg := sg) (f := f) (m := m)]
  rfl
theorem s_play3w {G2 kd : Nat} {t2 : List Nat} (y : YL x ga a e st t2 G2 M) (h : BSw e z (ups n 4 kd) sg ct M) {f m o c : Nat} (k4 : kd ≤ 4) (ho : o ≤ kd) (ho4 : o < 4) (h7 : sg 2 < 7) (h13 : sg 1 ≤ 3) (hf : zI M (e + 2) (sg 2) = nI f) (hc : zI M (e + 3) (sg 2) = nI c) (z1 : oP sg (sg 2) 1 = 0) (z2 : oP sg (sg 2) 2 = 0) (hq : ∀ p, p < sg 2 → oP sg p 2 ≤ 2) (ht : t2.length ≤ 590) {X1 X2 X3 X4 X5 X6 X7 X8 X9 X10 : Prop} (x1 : X1) (x2 : X2) (x3 : X3) (x4 : X4) (x5 : X5) (x6 : X6) (x7 : X7) (x8 : X8) (x9 : X9) (x10 : X10) {P0 : Option Nat → Mm → Prop}
    (K : ∀ M', YL x ga a e st (((t2 ++ [32]) ++ [97 + o]) ++ [59]) G2 M' → (∃ z', BSw e z' (ups n 4 (if o < kd then kd else kd + 1)) (pyS sg f m o true) (ups ct (sg 2) c) M') → P0 (some a) M') : zk M e = 8 ∧ zk M e = 8 ∧ ∀ M62, M62 = sI M e 4 (if zI M e 4 < nI o + (1 : Int32) then nI o + (1 : Int32) else zI M e 4) → X1 ∧ X2 ∧ zk M62 a = 16 ∧ w_J4_append_cf468 M62 a (nI 32) (fun r63 M63 => ∃ a63, r63 = some a63 ∧ X3 ∧ X4 ∧ w_L_name M63 (nI o) (fun r64 M64 => ∃ a64, r64 = some a64 ∧ X5 ∧ X6 ∧ zk M64 a63 = 16 ∧ w_J4_append_15ec4_AA M64 a63 a64 (fun r65 M65 => ∃ a65, r65 = some a65 ∧ (zk M65 e = 8 ∧ ∃ a50, zR M65 e 11 = some a50 ∧ X7 ∧ X8 ∧ ¬ (2 : Int32) < 0 ∧ (2 : Int32).toNatClampNeg ≤ 2 ∧ ∀ a51 M51, a51 = zn M65 → M51 = sN M65 10 (2 : Int32).toNatClampNeg → zk M51 a51 = 10 ∧ vp_in (0 : Int32) (zl M51 a51) ∧ ∀ M52, M52 = sI M51 a51 (0 : Int32).toNatClampNeg (nI m) → zk M52 a51 = 10 ∧ vp_in (1 : Int32) (zl M52 a51) ∧ ∀ M54, M54 = sI M52 a51 (1 : Int32).toNatClampNeg (nI o) → zk M54 a50 = 14 ∧ zk M54 a51 = 10 ∧ vp_in (nI (sg 2)) (zl M54 a50) ∧ ∀ M53, M53 = sR M54 a50 (sg 2) (some a51) → X9 ∧ X10 ∧ zk M53 a = 16 ∧ w_J4_append_cf468 M53 a (59 : Int32) P0)))) := by
  have s16 := h.sh
  have h0 := h.1
  refine ⟨s16.1.1, s16.1.1, fun M17 hM => ?_⟩
  rw [h.2.1 4 (by omega), ups_1, kd_i k4 ho ho4] at hM
  generalize (if o < kd then kd else kd + 1) = kd2 at hM K
  subst hM
  have y17 := y.I (c := e) (j := 4) (v := nI kd2) (Nat.le_refl _) (h.row9 0 (by omega))
  have g17 := h.num (i := 4) (v := kd2)
  rw [upsups] at g17
  have q17 : zI (sI M e 4 (nI kd2)) (e + 2) (sg 2) = nI f ∧ zI (sI M e 4 (nI kd2)) (e + 3) (sg 2) = nI c := by
    rw [zI_sIo _ _ _ _ (by omega), zI_sIo _ _ _ _ (by omega)]; exact ⟨hf, hc⟩
  generalize sI M e 4 (nI kd2) = M17 at y17 g17 q17 ⊢
  refine ⟨x1, x2, y17.k16, y17.aC (by omega) (by omega) _ fun M18 y18 f18 => ⟨a, rfl, x3, x4, ?_⟩⟩
  refine y18.aN (by omega) ?_ x5 x6 _ fun M19 y19 f19 => ⟨a, rfl, ?_⟩
  · rw [List.length_append]
    show _ + 1 ≤ _
    omega
  have f1819 := f18.trans f19
  have g19 := g17.kb f1819
  have s17 := f1819.s g17.sh (by have := g17.1; omega)
  refine s_play2w y19 g19 h7 h13 (by rw [(s17 2 (by omega)).2.2.1]; exact q17.1) (by rw [(s17 3 (by omega)).2.2.1]; exact q17.2) z1 z2 hq ?_ x7 x8 x9 x10 fun M' y20 g20 => K M' y20 g20
  rw [List.length_append, List.length_append]
  show _ + 1 + 1 ≤ _
  omega
def PlB (B S : Nat) (P : Option Nat → Mm → Prop) (K365 : Mm → Nat → Nat → Nat → Nat → Nat → Prop) (n b s a ga e k mm : Nat) (M : Mm) : Prop := zk M e = 8 ∧ w_L_draw M ga (if ((zI M e 4) + (1 : Int32)) < (4 : Int32) then ((zI M e 4) + (1 : Int32)) else (4 : Int32)) (fun r49 M49 => (if r49 = (nI mm) then (zk M49 e = 8 ∧ ∃ a50, zR M49 e 11 = some a50 ∧ ((((((((((b + 1) + 2) + 1) + 1) + 1) + 1) + 1) + 1) + 2) + 1) + 1 ≤ B ∧ ((((((((((s + 1400) + 5) + 1400) + 1400) + 1400) + 1400) + 1400) + 1400) + 5) + 1400) + 1 ≤ S ∧ ¬ (1 : Int32) < 0 ∧ (1 : Int32).toNatClampNeg ≤ 1 ∧ (∀ a51 M51, a51 = zn M49 → M51 = sN M49 10 (1 : Int32).toNatClampNeg → zk M51 a51 = 10 ∧ vp_in (0 : Int32) (zl M51 a51) ∧ (∀ M52, M52 = sI M51 a51 (0 : Int32).toNatClampNeg (nI mm) → zk M52 a50 = 14 ∧ zk M52 a51 = 10 ∧ vp_in (nI k) (zl M52 a50) ∧ (∀ M53, M53 = sR M52 a50 k (some a51) → (((((((((((b + 1) + 2) + 1) + 1) + 1) + 1) + 1) + 1) + 2) + 1) + 1) + 1 ≤ B ∧ (((((((((((s + 1400) + 5) + 1400) + 1400) + 1400) + 1400) + 1400) + 1400) + 5) + 1400) + 1) + 1400 ≤ S ∧ zk M53 a = 16 ∧ w_J4_append_cf468 M53 a (59 : Int32) (fun r54 M54 => ∃ a54, r54 = some a54 ∧ l_L_season_124 B S P K365 n M54 ((((((((((((b + 1) + 2) + 1) + 1) + 1) + 1) + 1) + 1) + 2) + 1) + 1) + 1) ((((((((((((s + 1400) + 5) + 1400) + 1400) + 1400) + 1400) + 1400) + 1400) + 5) + 1400) + 1) + 1400) a ga e (nI k + (1 : Int32))))))) else w_L_draw M49 ga (2 : Int32) (fun r55 M55 => (if r55 = 0 then zk M55 e = 8 ∧ zk M55 e = 8 ∧ (∀ M62, M62 = sI M55 e 4 (if (zI M55 e 4) < (r49 + (1 : Int32)) then (r49 + (1 : Int32)) else (zI M55 e 4)) → ((((((((((b + 1) + 2) + 1) + 1) + 1) + 1) + 1) + 1) + 2) + 1) + 1 ≤ B ∧ ((((((((((s + 1400) + 5) + 1400) + 1400) + 1400) + 1400) + 1400) + 1400) + 5) + 1400) + 1400 ≤ S ∧ zk M62 a = 16 ∧ w_J4_append_cf468 M62 a (nI 32) (fun r63 M63 => ∃ a63, r63 = some a63 ∧ (((((((((((b + 1) + 2) + 1) + 1) + 1) + 1) + 1) + 1) + 2) + 1) + 1) + 2 ≤ B ∧ (((((((((((s + 1400) + 5) + 1400) + 1400) + 1400) + 1400) + 1400) + 1400) + 5) + 1400) + 1400) + 5 ≤ S ∧ w_L_name M63 r49 (fun r64 M64 => ∃ a64, r64 = some a64 ∧ ((((((((((((b + 1) + 2) + 1) + 1) + 1) + 1) + 1) + 1) + 2) + 1) + 1) + 2) + 1 ≤ B ∧ ((((((((((((s + 1400) + 5) + 1400) + 1400) + 1400) + 1400) + 1400) + 1400) + 5) + 1400) + 1400) + 5) + 1400 ≤ S ∧ zk M64 a63 = 16 ∧ w_J4_append_15ec4_AA M64 a63 a64 (fun r65 M65 => ∃ a65, r65 = some a65 ∧ (zk M65 e = 8 ∧ ∃ a66, zR M65 e 11 = some a66 ∧ (((((((((((((b + 1) + 2) + 1) + 1) + 1) + 1) + 1) + 1) + 2) + 1) + 1) + 2) + 1) + 1 ≤ B ∧ (((((((((((((s + 1400) + 5) + 1400) + 1400) + 1400) + 1400) + 1400) + 1400) + 5) + 1400) + 1400) + 5) + 1400) + 2 ≤ S ∧ ¬ (2 : Int32) < 0 ∧ (2 : Int32).toNatClampNeg ≤ 2 ∧ (∀ a67 M67, a67 = zn M65 → M67 = sN M65 10 (2 : Int32).toNatClampNeg → zk M67 a67 = 10 ∧ vp_in (0 : Int32) (zl M67 a67) ∧ (∀ M68, M68 = sI M67 a67 (0 : Int32).toNatClampNeg (nI mm) → zk M68 a67 = 10 ∧ vp_in (1 : Int32) (zl M68 a67) ∧ (∀ M69, M69 = sI M68 a67 (1 : Int32).toNatClampNeg r49 → zk M69 a66 = 14 ∧ zk M69 a67 = 10 ∧ vp_in (nI k) (zl M69 a66) ∧ (∀ M70, M70 = sR M69 a66 k (some a67) → ((((((((((((((b + 1) + 2) + 1) + 1) + 1) + 1) + 1) + 1) + 2) + 1) + 1) + 2) + 1) + 1) + 1 ≤ B ∧ ((((((((((((((s + 1400) + 5) + 1400) + 1400) + 1400) + 1400) + 1400) + 1400) + 5) + 1400) + 1400) + 5) + 1400) + 2) + 1400 ≤ S ∧ zk M70 a = 16 ∧ w_J4_append_cf468 M70 a (59 : Int32) (fun r71 M71 => ∃ a71, r71 = some a71 ∧ l_L_season_124 B S P K365 n M71 (((((((((((((((b + 1) + 2) + 1) + 1) + 1) + 1) + 1) + 1) + 2) + 1) + 1) + 2) + 1) + 1) + 1) (((((((((((((((s + 1400) + 5) + 1400) + 1400) + 1400) + 1400) + 1400) + 1400) + 5) + 1400) + 1400) + 5) + 1400) + 2) + 1400) a ga e (nI k + (1 : Int32)))))))))))) else (zk M55 e = 8 ∧ ∃ a56, zR M55 e 11 = some a56 ∧ ((((((((((b + 1) + 2) + 1) + 1) + 1) + 1) + 1) + 1) + 2) + 1) + 1 ≤ B ∧ ((((((((((s + 1400) + 5) + 1400) + 1400) + 1400) + 1400) + 1400) + 1400) + 5) + 1400) + 1 ≤ S ∧ ¬ (1 : Int32) < 0 ∧ (1 : Int32).toNatClampNeg ≤ 1 ∧ (∀ a57 M57, a57 = zn M55 → M57 = sN M55 10 (1 : Int32).toNatClampNeg → zk M57 a57 = 10 ∧ vp_in (0 : Int32) (zl M57 a57) ∧ (∀ M58, M58 = sI M57 a57 (0 : Int32).toNatClampNeg (nI mm) → zk M58 a56 = 14 ∧ zk M58 a57 = 10 ∧ vp_in (nI k) (zl M58 a56) ∧ (∀ M59, M59 = sR M58 a56 k (some a57) → (((((((((((b + 1) + 2) + 1) + 1) + 1) + 1) + 1) + 1) + 2) + 1) + 1) + 1 ≤ B ∧ (((((((((((s + 1400) + 5) + 1400) + 1400) + 1400) + 1400) + 1400) + 1400) + 5) + 1400) + 1) + 1400 ≤ S ∧ zk M59 a = 16 ∧ w_J4_append_cf468 M59 a (59 : Int32) (fun r60 M60 => ∃ a60, r60 = some a60 ∧ l_L_season_124 B S P K365 n M60 ((((((((((((b + 1) + 2) + 1) + 1) + 1) + 1) + 1) + 1) + 2) + 1) + 1) + 1) ((((((((((((s + 1400) + 5) + 1400) + 1400) + 1400) + 1400) + 1400) + 1400) + 5) + 1400) + 1) + 1400) a ga e (nI k + (1 : Int32)))))))))))
theorem playT_e (t : List Nat) (k c f m o : Nat) (both : Bool) : ((((((((t ++ tc 8) ++ [97 + k]) ++ [32]) ++ dig c) ++ [32]) ++ dig f) ++ [32]) ++ [97 + m]) ++ endT o both = t ++ playT k c f m o both := by
  unfold playT
  simp only [List.append_assoc]
  rfl
theorem s_PlB {t14 : List Nat} {M14 : Mm} {f c : Nat} (y14 : YL x ga a e st t14 (nx (nx (nx G))) M14) (g14 : BSw e z (ups n 4 (kd1 sg (pMain sg G))) sg ct M14) (q14 : zI M14 (e + 2) (sg 2) = nI f ∧ zI M14 (e + 3) (sg 2) = nI c) (h7 : sg 2 < 7) (h4 : sg 4 ≤ 4) (h13 : sg 1 ≤ 3) (z1 : oP sg (sg 2) 1 = 0) (z2 : oP sg (sg 2) 2 = 0) (hq : ∀ p, p < sg 2 → oP sg p 2 ≤ 2) (ht : t14.length ≤ 580) {B S1 b s m : Nat} {P : Option Nat → Mm → Prop} {K365 : Mm → Nat → Nat → Nat → Nat → Nat → Prop} (hB : b + 18 ≤ B) (hS1 : s + 15417 ≤ S1)
    (K : ∀ M' b' s', b' ≤ b + 18 → s' ≤ s + 15417 → YL x ga a e st (t14 ++ endT (pOther sg G) (pBoth sg G)) (pG sg G) M' → (∃ z', BSw e z' (ups n 4 (pyS sg f (pMain sg G) (pOther sg G) (pBoth sg G) 4)) (pyS sg f (pMain sg G) (pOther sg G) (pBoth sg G)) (ups ct (sg 2) c) M') → l_L_season_124 B S1 P K365 m M' b' s' a ga e (nI (sg 2 + 1))) : PlB B S1 P K365 m b s a ga e (sg 2) (pMain sg G) M14 := by
  have hm := pMain_lt sg G
  have ho := pOther_lt sg G
  have e4 : kd1 sg (pMain sg G) = if pMain sg G < sg 4 then sg 4 else sg 4 + 1 := kd1_e _ _
  have keep : ∀ {N N' : Mm} {nn : Nat → Nat}, BSw e z nn sg ct N → KBw e N N' → (zI N (e + 2) (sg 2) = nI f ∧ zI N (e + 3) (sg 2) = nI c) → (zI N' (e + 2) (sg 2) = nI f ∧ zI N' (e + 3) (sg 2) = nI c) := fun hN f q => by
    have hz := hN.1
    have s := f.s hN.sh (by omega)
    rw [(s 2 (by omega)).2.2.1, (s 3 (by omega)).2.2.1]
    exact q
  have s14 := g14.sh
  have k4 : kd1 sg (pMain sg G) ≤ 4 := by
    rw [e4]
    split <;> omega
  have l5 := (mi4_1 (kd1 sg (pMain sg G)))
  unfold PlB
  refine ⟨s14.1.1, ?_⟩
  rw [g14.2.1 4 (by omega), ups_1, mi4_i k4]
  refine y14.dr l5.1 (by omega) _ fun M15 y15 f15 => ?_
  rw [pOther_e]
  have g15 := g14.kb f15
  have q15 := keep g14 f15 q14
  have pv1 : pyS sg (f) (pMain sg G) (pOther sg G) false 4 = kd1 sg (pMain sg G) := pyS_41 z1 z2
  have pv2 : pyS sg (f) (pMain sg G) (pOther sg G) true 4 = if pOther sg G < kd1 sg (pMain sg G) then kd1 sg (pMain sg G) else kd1 sg (pMain sg G) + 1 := pyS_42 z1 z2
  by_cases eo : pOther sg G = pMain sg G
  · refine ifp (by rw [eo]) ?_
    rw [pG_1 eo, pBoth_1 eo, pv1] at K
    refine s_play1w (o := pOther sg G) y15 g15 h7 h13 q15.1 q15.2 z1 z2 hq (by omega) ?_ ?_ ?_ ?_ ?_
    · omega
    · omega
    · omega
    · omega
    · intro M' y16 g16
      refine ⟨a, rfl, ?_⟩
      rw [show [59] = endT (pOther sg G) false from rfl] at y16
      rw [show (1 : Int32) = nI 1 from rfl, nI_add]
      exact K M' _ _ (by omega) (by omega) y16 g16
  · refine ifn (by rw [n_eqF eo (by omega) (by omega)]; exact not_false) ?_
    rw [show (2 : Int32) = nI 2 from rfl]
    refine y15.dr (by omega) (by omega) _ fun M16 y16 f16 => ?_
    rw [show nI 2 = (2 : Int32) from rfl]
    have g16 := g15.kb f16
    have q16 := keep g15 f16 q15
    have s16 := g16.sh
    rw [pG_2 eo] at K
    have d2 := drw_lt (nx (nx (nx (nx G)))) (show 1 ≤ 2 by omega)
    by_cases e2 : drw (nx (nx (nx (nx G)))) 2 = 0
    · rw [pBoth_t eo e2, pv2] at K
      rw [e2]
      refine ifp rfl ?_
      have ho1 := ho.1
      have ho2 := ho.2
      clear pv1 pv2 eo ho keep e2 d2 l5 e4 hm y15 g15 q15 f15 f16 y14 g14 q14 s14
      generalize pOther sg G = o at ho1 ho2 K ⊢
      generalize kd1 sg (pMain sg G) = kd at k4 ho1 K g16 ⊢
      generalize pMain sg G = mm at K ⊢
      generalize nx (nx (nx (nx (nx G)))) = G5 at y16 K
      refine s_play3w y16 g16 k4 ho1 ho2 h7 h13 q16.1 q16.2 z1 z2 hq (by omega) ?_ ?_ ?_ ?_ ?_ ?_ ?_ ?_ ?_ ?_ ?_
      · simp only [Nat.add_assoc, Nat.reduceAdd]; omega
      · simp only [Nat.add_assoc, Nat.reduceAdd]; omega
      · simp only [Nat.add_assoc, Nat.reduceAdd]; omega
      · simp only [Nat.add_assoc, Nat.reduceAdd]; omega
      · simp only [Nat.add_assoc, Nat.reduceAdd]; omega
      · simp only [Nat.add_assoc, Nat.reduceAdd]; omega
      · simp only [Nat.add_assoc, Nat.reduceAdd]; omega
      · simp only [Nat.add_assoc, Nat.reduceAdd]; omega
      · simp only [Nat.add_assoc, Nat.reduceAdd]; omega
      · simp only [Nat.add_assoc, Nat.reduceAdd]; omega
      · intro M' y20 g20
        refine ⟨a, rfl, ?_⟩
        rw [List.append_assoc, List.append_assoc, show [32] ++ ([97 + o] ++ [59]) = endT o true from rfl] at y20
        rw [show (1 : Int32) = nI 1 from rfl, nI_add]
        refine K M' _ _ ?_ ?_ y20 g20
        · simp only [Nat.add_assoc, Nat.reduceAdd]
          first | done | omega
        · simp only [Nat.add_assoc, Nat.reduceAdd]
          first | done | omega
    · rw [pBoth_2 e2, pv1] at K
      refine ifn (by rw [show (0 : Int32) = nI 0 from rfl, n_eqF e2 (by omega) (by omega)]; exact not_false) ?_
      refine s_play1w (o := pOther sg G) y16 g16 h7 h13 q16.1 q16.2 z1 z2 hq (by omega) ?_ ?_ ?_ ?_ ?_
      · omega
      · omega
      · omega
      · omega
      · intro M' y17 g17
        refine ⟨a, rfl, ?_⟩
        rw [show [59] = endT (pOther sg G) false from rfl] at y17
        rw [show (1 : Int32) = nI 1 from rfl, nI_add]
        exact K M' _ _ (by omega) (by omega) y17 g17
theorem s_play (y : YL x ga a e st t G M) (h : BSw e z n sg ct M) (h7 : sg 2 < 7) (hn : sg 2 < n 2) (hn7 : n 2 ≤ 7) (hn4 : n 4 = sg 4) (h4 : sg 4 ≤ 4) (h13 : sg 1 ≤ 3) (z1 : oP sg (sg 2) 1 = 0) (z2 : oP sg (sg 2) 2 = 0) (hq : ∀ p, p < sg 2 → oP sg p 2 ≤ 2) (ht : t.length ≤ 500) {B S1 b s m : Nat} {P : Option Nat → Mm → Prop} {K365 : Mm → Nat → Nat → Nat → Nat → Nat → Prop} (hB : b + 18 ≤ B) (hS1 : s + 15417 ≤ S1)
    (K : ∀ M' b' s', b' ≤ b + 18 → s' ≤ s + 15417 → YL x ga a e st (t ++ playT (sg 2) (drw G 6) (drw (nx G) 90) (pMain sg G) (pOther sg G) (pBoth sg G)) (pG sg G) M' → (∃ z', BSw e z' (ups n 4 (pyS sg (drw (nx G) 90) (pMain sg G) (pOther sg G) (pBoth sg G) 4)) (pyS sg (drw (nx G) 90) (pMain sg G) (pOther sg G) (pBoth sg G)) (ups ct (sg 2) (drw G 6)) M') → l_L_season_124 B S1 P K365 m M' b' s' a ga e (nI (sg 2 + 1))) : l_L_season_124 B S1 P K365 (m + 1) M b s a ga e (nI (sg 2)) := by
  have h1 := h.sh
  have a0 := h.1
  have d6 := drw_lt G (show 1 ≤ 6 by omega)
  have d90 := drw_lt (nx G) (show 1 ≤ 90 by omega)
  have lc := dig3 (v := drw G 6) (by omega)
  have lf := dig3 (v := drw (nx G) 90) (by omega)
  have hm := pMain_lt sg G
  have ho := pOther_lt sg G
  have e4 : kd1 sg (pMain sg G) = if pMain sg G < sg 4 then sg 4 else sg 4 + 1 := kd1_e _ _
  rw [l_L_season_124, h.2.1 2 (by omega)]
  refine ⟨h1.1.1, ifn (nI_ge hn (by omega)) ⟨h1.1.1, e + 3, h1.1.2.2.2.1, ?_⟩⟩
  rw [show (6 : Int32) = nI 6 from rfl]
  refine y.dr (by omega) (by omega) _ fun M1 y1 f1 => ?_
  have g1 := h.kb f1
  have s1 := g1.sh
  refine ⟨s1.2.1.2.2.1, by rw [s1.2.2.2.2.1]; exact vp_in_nI (by omega) (by omega), fun M2 hM => ?_⟩
  rw [nI_clamp (by omega)] at hM
  subst hM
  have y2 := y1.I (c := e + 3) (j := sg 2) (v := nI (drw G 6)) (by omega) (g1.row9 3 (by omega))
  have g2 := g1.I3 (j := sg 2) (v := nI (drw G 6)) (Nat.le_refl _)
  have c2 : zI (sI M1 (e + 3) (sg 2) (nI (drw G 6))) (e + 3) (sg 2) = nI (drw G 6) := zI_sI1 _ _ _ _
  generalize sI M1 (e + 3) (sg 2) (nI (drw G 6)) = M2 at y2 g2 c2 ⊢
  have s2 := g2.sh
  refine ⟨s2.1.1, e + 2, s2.1.2.2.1, ?_⟩
  rw [show (90 : Int32) = nI 90 from rfl]
  refine y2.dr (by omega) (by omega) _ fun M3 y3 f3 => ?_
  have g3 := g2.kb f3
  have s3 := g3.sh
  have c3 : zI M3 (e + 3) (sg 2) = nI (drw G 6) := by rw [(f3.s s2 (by have := g2.1; omega) 3 (by omega)).2.2.1]; exact c2
  refine ⟨s3.2.1.2.1, by rw [s3.2.2.2.1]; exact vp_in_nI (by omega) (by omega), fun M4 hM => ?_⟩
  rw [nI_clamp (by omega)] at hM
  subst hM
  have y4 := y3.I (c := e + 2) (j := sg 2) (v := nI (drw (nx G) 90)) (by omega) (g3.row9 2 (by omega))
  have g4 := g3.I2 (j := sg 2) (v := nI (drw (nx G) 90)) (Nat.le_refl _)
  have v4 : zI (sI M3 (e + 2) (sg 2) (nI (drw (nx G) 90))) (e + 2) (sg 2) = nI (drw (nx G) 90) := zI_sI1 _ _ _ _
  have c4 : zI (sI M3 (e + 2) (sg 2) (nI (drw (nx G) 90))) (e + 3) (sg 2) = nI (drw G 6) := by rw [zI_sIo _ _ _ _ (by omega)]; exact c3
  generalize sI M3 (e + 2) (sg 2) (nI (drw (nx G) 90)) = M4 at y4 g4 v4 c4 ⊢
  clear y1 y2 y3 g1 g2 g3 f1 f3 c2 c3 s1 s2 s3
  -- what stays told
  have keep : ∀ {N N' : Mm} {nn : Nat → Nat}, BSw e z nn sg ct N → KBw e N N' → (zI N (e + 2) (sg 2) = nI (drw (nx G) 90) ∧ zI N (e + 3) (sg 2) = nI (drw G 6)) → (zI N' (e + 2) (sg 2) = nI (drw (nx G) 90) ∧ zI N' (e + 3) (sg 2) = nI (drw G 6)) := fun hN f q => by
    have hz := hN.1
    have s := f.s hN.sh (by omega)
    rw [(s 2 (by omega)).2.2.1, (s 3 (by omega)).2.2.1]
    exact q
  refine ⟨by omega, by omega, y4.k16, y4.aS (by omega) (by omega) (by omega) _ fun M5 y5 f5 => ⟨a, rfl, by omega, by omega, ?_⟩⟩
  have t5 : (t ++ tc 8).length = t.length + 7 := by rw [List.length_append]; rfl
  refine y5.aN (by omega) (by omega) (by omega) (by omega) _ fun M6 y6 f6 => ⟨a, rfl, by omega, by omega, y6.k16, ?_⟩
  have t6 : ((t ++ tc 8) ++ [97 + sg 2]).length = t.length + 8 := by rw [List.length_append, t5]; rfl
  rw [show (32 : Int32) = nI 32 from rfl]
  refine y6.aC (by omega) (by omega) _ fun M7 y7 f7 => ⟨a, rfl, ?_⟩
  have t7 : (((t ++ tc 8) ++ [97 + sg 2]) ++ [32]).length = t.length + 9 := by rw [List.length_append, t6]; rfl
  have f57 := f5.trans (f6.trans f7)
  have g7 := g4.kb f57
  have q7 := keep g4 f57 ⟨v4, c4⟩
  have s7 := g7.sh
  refine ⟨s7.1.1, e + 3, s7.1.2.2.2.1, s7.2.1.2.2.1, by rw [s7.2.2.2.2.1]; exact vp_in_nI (by omega) (by omega), by omega, by omega, y7.k16, ?_⟩
  rw [nI_clamp (by omega), q7.2]
  refine y7.aI (by omega) (by omega) _ fun M8 y8 f8 => ⟨a, rfl, by omega, by omega, y8.k16, ?_⟩
  have t8 : ((((t ++ tc 8) ++ [97 + sg 2]) ++ [32]) ++ dig (drw G 6)).length ≤ t.length + 12 := by rw [List.length_append, t7]; omega
  refine y8.aC (by omega) (by omega) _ fun M9 y9 f9 => ⟨a, rfl, ?_⟩
  have t9 : (((((t ++ tc 8) ++ [97 + sg 2]) ++ [32]) ++ dig (drw G 6)) ++ [32]).length ≤ t.length + 13 := by
    rw [List.length_append]
    show _ + 1 ≤ _
    omega
  have f79 := f8.trans f9
  have g9 := g7.kb f79
  have q9 := keep g7 f79 q7
  have s9 := g9.sh
  refine ⟨s9.1.1, e + 2, s9.1.2.2.1, s9.2.1.2.1, by rw [s9.2.2.2.1]; exact vp_in_nI (by omega) (by omega), by omega, by omega, y9.k16, ?_⟩
  rw [q9.1]
  refine y9.aI (by omega) (by omega) _ fun M10 y10 f10 => ⟨a, rfl, ?_⟩
  have t10 : ((((((t ++ tc 8) ++ [97 + sg 2]) ++ [32]) ++ dig (drw G 6)) ++ [32]) ++ dig (drw (nx G) 90)).length ≤ t.length + 16 := by
    rw [List.length_append]
    omega
  have g10 := g9.kb f10
  have q10 := keep g9 f10 q9
  have s10 := g10.sh
  have l4 := (mi4_1 (sg 4))
  refine ⟨s10.1.1, ?_⟩
  rw [g10.2.1 4 (by omega), hn4, mi4_i h4]
  refine y10.dr l4.1 (by omega) _ fun M11 y11 f11 => ?_
  rw [pMain_e]
  have g11 := g10.kb f11
  have q11 := keep g10 f11 q10
  have s11 := g11.sh
  refine ⟨s11.1.1, s11.1.1, fun M12 hM => ?_⟩
  rw [g11.2.1 4 (by omega), hn4, kd_i h4 hm.1 hm.2, ← e4] at hM
  subst hM
  have y12 := y11.I (c := e) (j := 4) (v := nI (kd1 sg (pMain sg G))) (Nat.le_refl _) (g11.row9 0 (by omega))
  have g12 := g11.num (i := 4) (v := kd1 sg (pMain sg G))
  have q12 : zI (sI M11 e 4 (nI (kd1 sg (pMain sg G)))) (e + 2) (sg 2) = nI (drw (nx G) 90) ∧ zI (sI M11 e 4 (nI (kd1 sg (pMain sg G)))) (e + 3) (sg 2) = nI (drw G 6) := by
    rw [zI_sIo _ _ _ _ (by omega), zI_sIo _ _ _ _ (by omega)]; exact q11
  generalize sI M11 e 4 (nI (kd1 sg (pMain sg G))) = M12 at y12 g12 q12 ⊢
  clear y4 y5 y6 y7 y8 y9 y10 y11 f5 f6 f7 f8 f9 f10 f11 g4 g7 g9 g10 g11 q7 q9 q10 q11
  refine ⟨by omega, by omega, y12.k16, y12.aC (by omega) (by omega) _ fun M13 y13 f13 => ⟨a, rfl, by omega, by omega, ?_⟩⟩
  refine y13.aN (by omega) ?_ (by omega) (by omega) _ fun M14 y14 f14 => ?_
  · rw [List.length_append]
    show _ + 1 ≤ _
    omega
  have f1314 := f13.trans f14
  have g14 := g12.kb f1314
  have q14 := keep g12 f1314 q12
  have s14 := g14.sh
  have t14 : ((((((((t ++ tc 8) ++ [97 + sg 2]) ++ [32]) ++ dig (drw G 6)) ++ [32]) ++ dig (drw (nx G) 90)) ++ [32]) ++ [97 + pMain sg G]).length ≤ t.length + 18 := by
    rw [List.length_append, List.length_append]
    show _ + 1 + 1 ≤ _
    omega
  refine ⟨a, rfl, ?_⟩
  refine s_PlB (f := drw (nx G) 90) (c := drw G 6) y14 g14 q14 h7 h4 h13 z1 z2 hq (by omega) hB hS1 fun M' b' s' u1 u2 u3 u4 => K M' b' s' u1 u2 ?_ u4
  rw [playT_e] at u3
  exact u3
end LP
section LP2
variable {x ga a e z G : Nat} {st : ST} {n sg ct : Nat → Nat} {t : List Nat} {M : Mm}
theorem dP_eq (sg : Nat → Nat) (nm : Nat → List Nat) (ct : Nat → Nat) (t : List Nat) (G : Nat) : dP (sg, nm, ct, t, G) = (pyS sg (drw (nx G) 90) (pMain sg G) (pOther sg G) (pBoth sg G), pyN sg nm (drw (nx G) 90) (pMain sg G) (pOther sg G) (pBoth sg G), ups ct (sg 2) (drw G 6), t ++ playT (sg 2) (drw G 6) (drw (nx G) 90) (pMain sg G) (pOther sg G) (pBoth sg G), pG sg G) := rfl
/-- two instruments at most -/
def Q2 (sg : Nat → Nat) : Prop := ∀ p, p < sg 2 → oP sg p 2 ≤ 2
theorem pyS_q {f m o : Nat} {both : Bool} (h : Q2 sg) (z1 : oP sg (sg 2) 1 = 0) (z2 : oP sg (sg 2) 2 = 0) : Q2 (pyS sg f m o both) := by
  obtain ⟨v2, v0, v1, vc, -⟩ := pyS_v (f := f) (m := m) (o := o) (both := both) z1 z2
  intro p hp
  rw [v2] at hp
  by_cases c : p = sg 2
  · rw [c, vc]; split <;> omega
  · have := h p (by omega)
    show pyS sg f m o both (9 + 7 * p + 2) ≤ 2
    rw [pyS_o (by omega) (by omega) (by omega) z2]; exact this
theorem ups_self (n : Nat → Nat) {i v : Nat} (h : n i = v) : ups n i v = n := by
  funext k
  by_cases c : k = i
  · rw [c, ups_1, h]
  · exact ups_o _ _ _ c
theorem s_plays {d : DS} {N : Nat} (y : YL x ga a e st d.2.2.2.1 (dG d) M) (h : BSw e z n d.1 d.2.2.1 M) (hN : n 2 = N) (hn4 : n 4 = d.1 4) (hN7 : N ≤ 7) (hq : Q2 d.1) (hh : ∀ k, k ≤ N → (dN dP k d).1 2 = k ∧ (dN dP k d).2.2.2.1.length ≤ 500 ∧ (dN dP k d).1 4 ≤ 4 ∧ (dN dP k d).1 1 ≤ 3 ∧ (k < N → oP (dN dP k d).1 k 1 = 0 ∧ oP (dN dP k d).1 k 2 = 0)) {B S1 b s : Nat} {P : Option Nat → Mm → Prop} {K365 : Mm → Nat → Nat → Nat → Nat → Nat → Prop} (hB : b + 18 * N ≤ B) (hS1 : s + 15417 * N ≤ S1)
    (K : ∀ M' b' s', b' ≤ b + 18 * N → s' ≤ s + 15417 * N → YL x ga a e st (dN dP N d).2.2.2.1 (dG (dN dP N d)) M' → (∃ z', BSw e z' (ups n 4 ((dN dP N d).1 4)) (dN dP N d).1 (dN dP N d).2.2.1 M') → Q2 (dN dP N d).1 → K365 M' b' s' a ga e) : ∃ m, l_L_season_124 B S1 P K365 m M b s a ga e (0 : Int32) := by
  refine lpI (fun m (z : Mm × Nat × Nat × Int32) => l_L_season_124 B S1 P K365 m z.1 z.2.1 z.2.2.1 a ga e z.2.2.2) (fun k q => YL x ga a e st (dN dP k d).2.2.2.1 (dG (dN dP k d)) q.1 ∧ ((∃ z', BSw e z' (ups n 4 ((dN dP k d).1 4)) (dN dP k d).1 (dN dP k d).2.2.1 q.1) ∧ Q2 (dN dP k d).1) ∧ q.2.1 ≤ b + 18 * k ∧ q.2.2.1 ≤ s + 15417 * k ∧ q.2.2.2 = nI k) N (fun m q hq => ?_) (fun m k q hk hq LL => ?_) (M, b, s, 0) ⟨by rw [dN_0]; exact y, ⟨⟨z, by rw [dN_0, ups_self n hn4]; exact h⟩, by rw [dN_0]; exact hq⟩, Nat.le_refl _, Nat.le_refl _, rfl⟩
  · obtain ⟨M1, b1, s1, x3⟩ := q
    obtain ⟨y1, ⟨⟨z1, g1⟩, q1⟩, e1, e2, e3⟩ := hq
    simp only at y1 g1 e1 e2 e3
    subst e3
    have k := K M1 b1 s1 e1 e2 y1 ⟨z1, g1⟩ q1
    have h1 := g1.sh
    have n2 := g1.2.1 2 (by omega)
    rw [ups_o _ _ _ (by omega), hN] at n2
    show l_L_season_124 B S1 P K365 (m + 1) M1 b1 s1 a ga e (nI N)
    rw [l_L_season_124, n2]
    exact ⟨h1.1.1, ifp (nI_le (Nat.le_refl _) (by omega)) k⟩
  · obtain ⟨M1, b1, s1, x3⟩ := q
    obtain ⟨y1, ⟨⟨z1, g1⟩, q1⟩, e1, e2, e3⟩ := hq
    simp only at y1 g1 e1 e2 e3
    subst e3
    obtain ⟨c1, c2, c3, c4, c5⟩ := hh k (by omega)
    have c5 := c5 hk
    show l_L_season_124 B S1 P K365 (m + 1) M1 b1 s1 a ga e (nI k)
    have LL : ∀ M' b' s', YL x ga a e st (dN dP (k + 1) d).2.2.2.1 (dG (dN dP (k + 1) d)) M' → (∃ z', BSw e z' (ups n 4 ((dN dP (k + 1) d).1 4)) (dN dP (k + 1) d).1 (dN dP (k + 1) d).2.2.1 M') → Q2 (dN dP (k + 1) d).1 → b' ≤ b + 18 * (k + 1) → s' ≤ s + 15417 * (k + 1) → l_L_season_124 B S1 P K365 m M' b' s' a ga e (nI (k + 1)) := fun M' b' s' u1 u2 u3 u4 u5 => LL (M', b', s', nI (k + 1)) ⟨u1, ⟨u2, u3⟩, u4, u5, rfl⟩
    rw [dN_s] at LL
    generalize dN dP k d = d1 at y1 g1 q1 c1 c2 c3 c4 c5 LL
    obtain ⟨sg, nm, ct, t, G⟩ := d1
    rw [dP_eq] at LL
    simp only [dG_mk] at LL y1 g1 q1 c1 c2 c3 c4 c5
    have o2 : ups n 4 (sg 4) 2 = n 2 := ups_o _ _ _ (by omega)
    have r := s_play (P := P) (K365 := K365) (B := B) (S1 := S1) (b := b1) (s := s1) (m := m) y1 g1 (by omega) (by rw [o2]; omega) (by rw [o2]; omega) (ups_1 _ _ _) c3 c4 (by rw [c1]; exact c5.1) (by rw [c1]; exact c5.2) q1 c2 (by omega) (by omega) fun M' b' s' u3 u4 u1 u2 => by
      rw [c1]
      rw [upsups] at u2
      exact LL M' _ _ u1 u2 (pyS_q q1 (by rw [c1]; exact c5.1) (by rw [c1]; exact c5.2)) (by omega) (Nat.le_trans u4 (by rw [Nat.mul_succ, ← Nat.add_assoc]; exact Nat.add_le_add_right e2 _))
    rw [c1] at r
    exact r
end LP2
