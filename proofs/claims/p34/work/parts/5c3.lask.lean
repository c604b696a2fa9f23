/-! THE LAW'S QUESTIONS -/
theorem gset2 {W a b : Nat} (hW : W ≤ 4) (ha : a < W) (hb : b < W) : gset W 1 (2 ^ a ||| 2 ^ b) := by
  have k : ∀ W, W < 5 → ∀ a, a < W → ∀ b, b < W → (2 ^ a ||| 2 ^ b < 2 ^ W ∧ 1 ≤ pc (2 ^ a ||| 2 ^ b) ∧ pc (2 ^ a ||| 2 ^ b) ≤ 3) := by decide +kernel
  exact k W (by omega) a ha b hb
theorem gset1 {W a c : Nat} (hW : W ≤ 4) (ha : a < W) : gset W c (2 ^ a) := by
  have k : ∀ W, W < 5 → ∀ a, a < W → (2 ^ a < 2 ^ W ∧ 1 ≤ pc (2 ^ a) ∧ pc (2 ^ a) ≤ 1) := by decide +kernel
  obtain ⟨k1, k2, k3⟩ := k W (by omega) a ha
  refine ⟨k1, k2, ?_⟩
  split <;> omega
theorem gset_lt {W c n : Nat} (hW : W ≤ 4) (h : gset W c n) : n < 32 := Nat.lt_of_lt_of_le h.1 (Nat.le_trans (p2m hW) (by decide))
theorem dbl_dm {sg : Nat → Nat} {w F : Nat} (hF : F < 256) (h90 : oW sg w 4 ≤ 90) (h : dm sg w (oW sg w 4) F < 100) : dbl sg w (bq sg w (oW sg w 4) F) (oW sg w 4) = dm sg w (oW sg w 4) F := by
  have key : ∀ i, i ≤ oW sg w 4 → dbl sg w (bq sg w (oW sg w 4) F) i + dm sg w (oW sg w 4 - i) (FJ sg w i (oW sg w 4) F) = dm sg w (oW sg w 4) F := by
    intro i
    induction i with
    | zero => intro _; exact Nat.zero_add _
    | succ i ih =>
      intro hi
      obtain ⟨a1, a2, a3, a4⟩ := bq_ok sg w (oW sg w 4) F i (by omega) h (by omega)
      have e1 : co sg w (oW sg w 4 - i - 1) (FJ sg w i (oW sg w 4) F) (bq sg w (oW sg w 4) F i) = dbo sg (bq sg w (oW sg w 4) F i) (kr sg w (oW sg w 4 - i - 1)) + dm sg w (oW sg w 4 - i - 1) (rm (FJ sg w i (oW sg w 4) F) (2 ^ bq sg w (oW sg w 4) F i)) := rfl
      have e2 : kr sg w (oW sg w 4 - i - 1) = oW sg w (5 + i) := by unfold kr; congr 1; omega
      have i1 := ih (by omega)
      rw [dbl_s, FJ_b, show oW sg w 4 - (i + 1) = oW sg w 4 - i - 1 by omega]
      rw [e2] at e1
      omega
  have k := key (oW sg w 4) (Nat.le_refl _)
  rw [Nat.sub_self, dm] at k
  exact k
theorem SI.same {e : Nat} {sg pl pl2 : Nat → Nat} {M : Mm} (h : SI e sg pl M) (hs : SB sg) (n : pl 0 = pl2 0) (k : ∀ p, p < sg 2 → pl (1 + p) = pl2 (1 + p)) (o : ∀ s, s < pl 0 → ∀ f, f < 34 → oS pl s f = oS pl2 s f) : SI e sg pl2 M := by
  obtain ⟨h1, h2, h3, h4, h5⟩ := h
  refine ⟨h1, h2, by rw [← n]; exact h3, fun p hp => by rw [← k p hp]; exact h4 p hp, fun s hsn => ?_⟩
  rw [← n] at hsn
  obtain ⟨⟨a, r1, r2⟩, c, r3, r4⟩ := h5 s hsn
  exact ⟨⟨a, r1, r2.ext fun f hf => o s hsn f (by omega)⟩, c, r3, r4.ext hs fun f hf => o s hsn f hf⟩
def AkC (B S : Nat) (P : Int32 → Mm → Prop) (x0 x1 b s : Nat) (ha t st cc r wth : Int32) (M : Mm) : Prop := ∃ b119 s119, b + b119 ≤ B ∧ s + s119 ≤ S ∧ zk M x1 = 8 ∧ w_X8_cast M x1 r t (-1 : Int32) (fun r119 M119 => (∀ a119, r119 = some a119 → zk M119 x0 = 7 ∧ w_X7_costsWith M119 x0 ha t st cc (fun r120 M120 => (if r120 = wth then zk M120 x0 = 7 ∧ w_X7_fewestDoublings M120 x0 r t (fun r121 M121 => zk M121 x1 = 8 ∧ w_X8_doublings M121 x1 r a119 (fun r122 M122 => (if r121 = r122 then ((1 : Int32) = 0 ∨ (1 : Int32) = 1) ∧ P (1 : Int32) M122 else ((0 : Int32) = 0 ∨ (0 : Int32) = 1) ∧ P (0 : Int32) M122))) (fun _ _ => False) else ((0 : Int32) = 0 ∨ (0 : Int32) = 1) ∧ P (0 : Int32) M120)) (fun _ _ => False)) ∧ (r119 = none → zk M119 x0 = 7 ∧ w_X7_costsWith M119 x0 ha t st cc (fun r123 M123 => (if r123 = wth then zk M123 x0 = 7 ∧ w_X7_fewestDoublings M123 x0 r t (fun r124 M124 => (if r124 = (-1 : Int32) then ((1 : Int32) = 0 ∨ (1 : Int32) = 1) ∧ P (1 : Int32) M124 else ((0 : Int32) = 0 ∨ (0 : Int32) = 1) ∧ P (0 : Int32) M124)) (fun _ _ => False) else ((0 : Int32) = 0 ∨ (0 : Int32) = 1) ∧ P (0 : Int32) M123)) (fun _ _ => False))) b119 s119
def AkB (B S : Nat) (P : Int32 → Mm → Prop) (x0 x1 x2 b s : Nat) (ha t st cc why : Int32) (M : Mm) : Prop := if why = 0 then ∃ b114 s114, b + b114 ≤ B ∧ s + s114 ≤ S ∧ zk M x1 = 8 ∧ w_X8_comes M x1 ha t st cc (fun r114 M114 => zk M114 x1 = 8 ∧ w_X8_costs M114 x1 (3 : Int32) (fun r115 M115 => zk M115 x1 = 8 ∧ w_X8_takesOff M115 x1 r114 (fun M116 => zk M116 x1 = 8 ∧ w_L_draw M116 x2 (zI M116 x1 3) (fun r118 M118 => AkC B S P x0 x1 (b + b114) (s + s114) ha t st cc r118 r115 M118)))) b114 s114 else zk M x1 = 8 ∧ w_L_draw M x2 (zI M x1 3) (fun r107 M107 => AkC B S P x0 x1 b s ha t st cc r107 (-1 : Int32) M107)
def AkL (B S : Nat) (P : Int32 → Mm → Prop) (M : Mm) (b s x0 x1 x2 : Nat) (ha t cc st why x8 : Int32) : Prop := zk M x0 = 7 ∧ w_X7_earliest M x0 ha t st cc (fun r104 M104 => zk M104 x1 = 8 ∧ (if ((3 : Int32) * (zI M104 x1 0)) ≤ x8 then (if r104 = (-1 : Int32) then AkB B S P x0 x1 x2 b s ha t st cc why M104 else ((0 : Int32) = 0 ∨ (0 : Int32) = 1) ∧ P (0 : Int32) M104) else (if r104 = x8 then AkB B S P x0 x1 x2 b s ha t st cc why M104 else ((0 : Int32) = 0 ∨ (0 : Int32) = 1) ∧ P (0 : Int32) M104))) (fun _ _ => False)
def AkE (B S : Nat) (P : Int32 → Mm → Prop) (x0 x1 x2 : Nat) (ha t st cc : Int32) (M : Mm) : Prop := ∃ b101 s101, 0 + b101 ≤ B ∧ 0 + s101 ≤ S ∧ zk M x1 = 8 ∧ w_X8_why M x1 ha t st cc (-1 : Int32) (fun r101 M101 => zk M101 x0 = 7 ∧ w_X7_whyNot M101 x0 ha t st cc (fun r102 M102 => (if r102 = r101 then (∃ n112, l_L_asks_112 B S P (AkL B S P) n112 M102 (0 + b101) (0 + s101) x0 x1 x2 ha t cc st r101 t) else ((0 : Int32) = 0 ∨ (0 : Int32) = 1) ∧ P (0 : Int32) M102)) (fun _ _ => False)) b101 s101
/-- what looking for the earliest slot costs, and a question -/
def eaF (sg pl : Nat → Nat) (ha S c t : Nat) : Nat := fi (fun k => decide (whyN sg pl ha (t + k) S c = 0)) (sg 0 * 3 - t)
def eaC (sg pl : Nat → Nat) (ha S c t : Nat) : Nat := su (fun k => if k < sg 0 * 3 - t then whyC sg pl ha (t + k) S c 4294967295 else 0) (eaF sg pl ha S c t + 1)
def askC (sg pl : Nat → Nat) (ha t S c w : Nat) : Nat := whyC sg pl ha t S c 4294967295 + eaC sg pl ha S c t + (if whyN sg pl ha t S c = 0 then comC sg pl t S else 0) + ncs sg pl w t 4294967295
section AQ
variable {x ga e G : Nat} {sg pl : Nat → Nat} {hn : Nat} {hl : Nat → Nat → Nat} {sv : Nat → Bool} {sl : Nat → Nat → Nat} {bl : Nat} {bf : Nat → Int32} {ep : Nat} {nm : Nat → List Nat} {M : Mm}
theorem s_AkC (h : WD x ga e (sg, pl, hn, hl, sv, sl, bl, bf, ep, nm) pl G M) (hL : LB sg) {B S1 b s ha t st c w : Nat} {wth : Int32} (hha : ha < sg 1) (ht : t < sg 0 * 3) (hS : gset (sg 3) c st) (hc : c < 2) (hw : w < sg 3) (hB : b + ncs sg pl w t 4294967295 ≤ B) (hS1 : s + 5 * ncs sg pl w t 4294967295 ≤ S1) (hwth : wth = if whyN sg pl ha t st c = 0 then costI sg (cm sg pl (psn pl ha t) t ha st c (free sg pl t)) 3 else nI 4294967295) (P : Int32 → Mm → Prop) (K : ∀ M', WD x ga e (sg, pl, hn, hl, sv, sl, bl, bf, ep, nm) pl G M' → P (nI 1) M') : AkC B S1 P x e b s (nI ha) (nI t) (nI st) (nI c) (nI w) wth M := by
  have hs : SB sg := h.ok.1
  have hb : PG sg pl := h.ok.2.1
  have b9 := hs.b
  have L4 := hL.2.1 w hw
  have cw : ∀ M1, WD x ga e (sg, pl, hn, hl, sv, sl, bl, bf, ep, nm) pl G M1 → ∀ Q : Int32 → Mm → Prop, (∀ M2, WD x ga e (sg, pl, hn, hl, sv, sl, bl, bf, ep, nm) pl G M2 → FrG x (x + 149) M1 M2 → Q wth M2) → w_X7_costsWith M1 x (nI ha) (nI t) (nI st) (nI c) Q (fun _ _ => False) := by
    intro M1 w1 Q k
    by_cases q : whyN sg pl ha t st c = 0
    · rw [if_pos q] at hwth
      rw [hwth] at k
      exact cc_costsWith h.ok hha ht hS hc q M1 _ _ w1.ci fun M2 c2 f2 => k M2 (w1.c f2 c2) f2
    · rw [if_neg q] at hwth
      rw [hwth] at k
      exact cc_costsWith_no h.ok hha ht hS hc q M1 _ _ w1.ci fun M2 c2 f2 => k M2 (w1.c f2 c2) f2
  refine ⟨_, _, hB, hS1, h.lt.s.1.1, s_X8_cast (b0 := 4294967295) hs hb.1 h.st hw (by omega) (by omega) (by omega) (Nat.le_refl _) (Nat.le_refl _) _ fun o M1 k1 c1 => ?_⟩
  have w1 := h.k k1
  rw [plb_no hb.1] at c1
  refine ⟨fun a ha1 => ⟨w1.xk, cw M1 w1 _ fun M2 w2 f2 => ifp rfl ⟨w2.xk, cc_fewestDoublings h.ok hw ht M2 _ _ w2.ci fun M3 c3 f3 => ?_⟩⟩, fun hn1 => ⟨w1.xk, cw M1 w1 _ fun M2 w2 f2 => ifp rfl ⟨w2.xk, cc_fewestDoublings h.ok hw ht M2 _ _ w2.ci fun M3 c3 f3 => ?_⟩⟩⟩
  · subst ha1
    have w3 := w2.c f3 c3
    have xe : x + 149 ≤ e + 10 := by have := h.2.1; omega
    obtain ⟨-, ⟨r2, r3⟩, r4⟩ := (c1.2.fr f2 xe).fr f3 xe
    have hF : free sg pl t < 256 := and_lt256 (pres_lt hs (t / 3))
    have cast := fun j (hj : j < oW sg w 4) => bq_cast (sg := sg) (w := w) hF (by omega) c1.1 hj
    refine ⟨w3.lt.s.1.1, (e_X8_doublings hs w3.lt hw (f := bq sg w (oW sg w 4) (free sg pl t)) r2 r3 r4 (fun j hj => (cast j hj).1) _).mpr (ifp ?_ ⟨Or.inr rfl, K M3 w3⟩)⟩
    rw [ansD, if_pos c1.1, dbl_dm hF (by omega) c1.1]
  · subst hn1
    have w3 := w2.c f3 c3
    refine ifp ?_ ⟨Or.inr rfl, K M3 w3⟩
    rw [ansD, if_neg c1]; rfl
theorem s_AkB (h : WD x ga e (sg, pl, hn, hl, sv, sl, bl, bf, ep, nm) pl G M) (hL : LB sg) {B S1 b s ha t st c : Nat} (hha : ha < sg 1) (ht : t < sg 0 * 3) (hS : gset (sg 3) c st) (hc : c < 2) (hB : b + (if whyN sg pl ha t st c = 0 then comC sg pl t st else 0) + ncs sg pl (drw G (sg 3)) t 4294967295 ≤ B) (hS1 : s + 5 * (if whyN sg pl ha t st c = 0 then comC sg pl t st else 0) + 5 * ncs sg pl (drw G (sg 3)) t 4294967295 ≤ S1) (P : Int32 → Mm → Prop) (K : ∀ M', WD x ga e (sg, pl, hn, hl, sv, sl, bl, bf, ep, nm) pl (nx G) M' → P (nI 1) M') : AkB B S1 P x e ga b s (nI ha) (nI t) (nI st) (nI c) (nI (whyN sg pl ha t st c)) M := by
  have hs : SB sg := h.ok.1
  have hb : PG sg pl := h.ok.2.1
  have b9 := hs.b
  have L9 := hL.1
  have s32 := gset_lt L9.2.2.2 hS
  have dw := drw_lt G L9.2.2.1
  have y6 := whyN_lt sg pl ha t st c
  by_cases q : whyN sg pl ha t st c = 0
  · rw [if_pos q] at hB hS1
    obtain ⟨q1, q2, q3⟩ := why0 q hb.1
    refine ifp (by rw [q]; rfl) ⟨comC sg pl t st, 5 * comC sg pl t st, by omega, by omega, h.lt.s.1.1, s_X8_comes hs hb h.st (fun w hw => Nat.le_succ_of_le (hL.2.1 w hw)) (by omega) (by omega) s32 hc q1 q2 q3 (Nat.le_refl _) (Nat.le_refl _) _ fun M1 k1 i1 => ?_⟩
    have w1 := h.l k1 i1
    have g1 := PGcm hs hb q1 (show t < 3 * sg 0 by omega) hha (show c ≤ 1 by omega) hS.1 q2 q3
    have hat : psn pl ha t ≤ pl 0 := fi_le _ _
    refine ⟨w1.lt.s.1.1, (e_X8_costs hs g1 w1.lt w1.dt (k := 3) (by omega) _).mpr ⟨w1.lt.s.1.1, s_X8_takesOff hs g1.1 i1 (show psn pl ha t < pl 0 + 1 by omega) _ fun M2 k2 z2 i2 => ?_⟩⟩
    have i3 : SI e sg pl M2 := i2.same hs (by show pl 0 + 1 - 1 = pl 0; omega) (fun p hp => by rw [off_k _ _ (by omega) (by omega), cm_k _ _ _ _ _ _ _ _ (by omega) (by omega)]) fun k hk f hf => by
      have hk2 : k < pl 0 := by have : off (cm sg pl (psn pl ha t) t ha st c (free sg pl t)) (psn pl ha t) 0 = pl 0 + 1 - 1 := rfl; omega
      rw [off_up (show k < cm sg pl (psn pl ha t) t ha st c (free sg pl t) 0 - 1 by show k < pl 0 + 1 - 1; omega) hf, cm_dn (up_lt (show k < pl 0 + 1 - 1 by omega)) (up_ne _ _) hf]
      congr 1
      unfold up dn; split <;> (try split) <;> omega
    have w2 := w1.l k2 i3
    refine ⟨w2.lt.s.1.1, ?_⟩
    rw [w2.lt.n.2.2.2.1]
    refine w2.d L9.2.2.1 (by omega) _ fun M3 w3 => ?_
    exact s_AkC w3 hL hha ht hS hc dw hB (by omega) (by rw [if_pos q]) P K
  · rw [if_neg q] at hB hS1
    refine ifn (by rw [l_0, n_eqF q (by omega) (by omega)]; exact not_false) ⟨h.lt.s.1.1, ?_⟩
    rw [h.lt.n.2.2.2.1]
    refine h.d L9.2.2.1 (by omega) _ fun M3 w3 => ?_
    exact s_AkC w3 hL hha ht hS hc dw hB (by omega) (by rw [if_neg q]; rfl) P K
theorem s_L_asks_112 (h : WD x ga e (sg, pl, hn, hl, sv, sl, bl, bf, ep, nm) pl G M) (hL : LB sg) {B S1 b s ha t st c : Nat} {r : Int32} (hha : ha < sg 1) (ht : t < sg 0 * 3) (hS : gset (sg 3) c st) (hc : c < 2) (hB : b + eaC sg pl ha st c t ≤ B) (hS1 : s + 5 * eaC sg pl ha st c t ≤ S1) {P : Int32 → Mm → Prop} {K144 : Mm → Nat → Nat → Nat → Nat → Nat → Int32 → Int32 → Int32 → Int32 → Int32 → Int32 → Prop}
    (K : ∀ M', WD x ga e (sg, pl, hn, hl, sv, sl, bl, bf, ep, nm) pl G M' → K144 M' (b + eaC sg pl ha st c t) (s + 5 * eaC sg pl ha st c t) x e ga (nI ha) (nI t) (nI c) (nI st) r (nI (t + eaF sg pl ha st c t))) : ∃ n, l_L_asks_112 B S1 P K144 n M b s x e ga (nI ha) (nI t) (nI c) (nI st) r (nI t) := by
  have hs : SB sg := h.ok.1
  have hb : PG sg pl := h.ok.2.1
  have b9 := hs.b
  have L9 := hL.1
  have s32 := gset_lt L9.2.2.2 hS
  have e0 : plb pl 4294967295 = pl := plb_no hb.1
  have l5 : ∀ w, w < sg 3 → oW sg w 4 ≤ 5 := fun w hw => Nat.le_succ_of_le (hL.2.1 w hw)
  have fl := fi_le (fun k => decide (whyN sg pl ha (t + k) st c = 0)) (sg 0 * 3 - t)
  have fn := fi_no (fun k => decide (whyN sg pl ha (t + k) st c = 0)) (sg 0 * 3 - t)
  have fy := fi_yes (fun k => decide (whyN sg pl ha (t + k) st c = 0)) (sg 0 * 3 - t)
  have ef : fi (fun k => decide (whyN sg pl ha (t + k) st c = 0)) (sg 0 * 3 - t) = eaF sg pl ha st c t := rfl
  rw [ef] at fl fn fy
  have ec : eaC sg pl ha st c t = su (fun k => if k < sg 0 * 3 - t then whyC sg pl ha (t + k) st c 4294967295 else 0) (eaF sg pl ha st c t + 1) := rfl
  generalize eaF sg pl ha st c t = m at *
  have key : ∀ j k, k + j = m → ∀ M', WD x ga e (sg, pl, hn, hl, sv, sl, bl, bf, ep, nm) pl G M' → l_L_asks_112 B S1 P K144 (j + 1) M' (b + su (fun k => if k < sg 0 * 3 - t then whyC sg pl ha (t + k) st c 4294967295 else 0) k) (s + 5 * su (fun k => if k < sg 0 * 3 - t then whyC sg pl ha (t + k) st c 4294967295 else 0) k) x e ga (nI ha) (nI t) (nI c) (nI st) r (nI (t + k)) := by
    intro j
    induction j with
    | zero =>
      intro k hk M' w
      have ek : k = m := by omega
      subst ek
      rw [l_L_asks_112]
      refine ⟨w.lt.s.1.1, ?_⟩
      rw [w.lt.n.1, l_3, pk_mul]
      rw [su_s] at ec
      by_cases q : k = sg 0 * 3 - t
      · rw [if_neg (by omega), Nat.add_zero] at ec
        rw [ec] at K
        exact ifp (nI_le (by omega) (by omega)) (K M' w)
      · rw [if_pos (by omega)] at ec
        rw [ec] at K hB hS1
        have y := of_decide_eq_true (fy (by omega))
        refine ifn (by rw [n_leF (by omega) (by omega)]; exact not_false) ⟨whyC sg pl ha (t + k) st c 4294967295, 5 * whyC sg pl ha (t + k) st c 4294967295, by omega, by omega, w.lt.s.1.1, s_X8_why hs hb.1 w.st l5 (by omega) hha s32 hc (Or.inl rfl) _ (Nat.le_refl _) (Nat.le_refl _) fun M2 k2 => ?_⟩
        rw [e0, y]
        have kk := K M2 (w.k k2)
        rw [Nat.mul_add, ← Nat.add_assoc, ← Nat.add_assoc] at kk
        exact ifp (by decide) kk
    | succ j ih =>
      intro k hk M' w
      have f := of_decide_eq_false (fn k (by omega))
      have y6 := whyN_lt sg pl ha (t + k) st c
      have mono : su (fun k => if k < sg 0 * 3 - t then whyC sg pl ha (t + k) st c 4294967295 else 0) (k + 1) ≤ eaC sg pl ha st c t := by rw [ec]; exact su_mono (by omega)
      have st1 := fun M2 w2 => ih (k + 1) (by omega) M2 w2
      rw [su_s, if_pos (by omega)] at mono
      rw [su_s, if_pos (by omega)] at st1
      generalize hm : j + 1 = m2 at st1 ⊢
      rw [l_L_asks_112]
      refine ⟨w.lt.s.1.1, ?_⟩
      rw [w.lt.n.1, l_3, pk_mul]
      refine ifn (by rw [n_leF (by omega) (by omega)]; exact not_false) ⟨whyC sg pl ha (t + k) st c 4294967295, 5 * whyC sg pl ha (t + k) st c 4294967295, by omega, by omega, w.lt.s.1.1, s_X8_why hs hb.1 w.st l5 (by omega) hha s32 hc (Or.inl rfl) _ (Nat.le_refl _) (Nat.le_refl _) fun M2 k2 => ?_⟩
      rw [e0]
      have kk := st1 M2 (w.k k2)
      rw [Nat.mul_add, ← Nat.add_assoc, ← Nat.add_assoc] at kk
      refine ifn (by rw [l_0, n_leF (by omega) (by omega)]; exact not_false) ?_
      rw [l_1, nI_add]
      exact kk
  exact ⟨m + 1, key m 0 (by omega) M h⟩
theorem s_AkE (h : WD x ga e (sg, pl, hn, hl, sv, sl, bl, bf, ep, nm) pl G M) (hL : LB sg) {B S1 ha t st c : Nat} (hha : ha < sg 1) (ht : t < sg 0 * 3) (hS : gset (sg 3) c st) (hc : c < 2) (hB : askC sg pl ha t st c (drw G (sg 3)) ≤ B) (hS1 : 5 * askC sg pl ha t st c (drw G (sg 3)) ≤ S1) (P : Int32 → Mm → Prop) (K : ∀ M', WD x ga e (sg, pl, hn, hl, sv, sl, bl, bf, ep, nm) pl (nx G) M' → P (nI 1) M') : AkE B S1 P x e ga (nI ha) (nI t) (nI st) (nI c) M := by
  have hs : SB sg := h.ok.1
  have hb : PG sg pl := h.ok.2.1
  have b9 := hs.b
  have L9 := hL.1
  have s32 := gset_lt L9.2.2.2 hS
  have e0 : plb pl 4294967295 = pl := plb_no hb.1
  have l5 : ∀ w, w < sg 3 → oW sg w 4 ≤ 5 := fun w hw => Nat.le_succ_of_le (hL.2.1 w hw)
  unfold askC at hB hS1
  have fl := fi_le (fun k => decide (whyN sg pl ha (t + k) st c = 0)) (sg 0 * 3 - t)
  have ef : fi (fun k => decide (whyN sg pl ha (t + k) st c = 0)) (sg 0 * 3 - t) = eaF sg pl ha st c t := rfl
  rw [ef] at fl
  refine ⟨whyC sg pl ha t st c 4294967295, 5 * whyC sg pl ha t st c 4294967295, by omega, by omega, h.lt.s.1.1, s_X8_why (b0 := 4294967295) hs hb.1 h.st l5 (by omega) hha s32 hc (Or.inl rfl) _ (Nat.le_refl _) (Nat.le_refl _) fun M1 k1 => ?_⟩
  have w1 := h.k k1
  rw [e0]
  refine ⟨w1.xk, cc_whyNot h.ok hha ht hS hc M1 _ _ w1.ci fun M2 c2 f2 => ifp rfl ?_⟩
  have w2 := w1.c f2 c2
  refine s_L_asks_112 w2 hL hha ht hS hc (by omega) (by omega) fun M3 w3 => ⟨w3.xk, cc_earliest h.ok hha ht hS hc M3 _ _ w3.ci fun M4 c4 f4 => ?_⟩
  have w4 := w3.c f4 c4
  have ak := s_AkB (b := 0 + whyC sg pl ha t st c 4294967295 + eaC sg pl ha st c t) (s := 0 + 5 * whyC sg pl ha t st c 4294967295 + 5 * eaC sg pl ha st c t) (B := B) (S1 := S1) w4 hL hha ht hS hc (by omega) (by omega) P K
  refine ⟨w4.lt.s.1.1, ?_⟩
  rw [w4.lt.n.1, l_3, pk_mul]
  unfold eaN
  rw [ef]
  by_cases q : eaF sg pl ha st c t < sg 0 * 3 - t
  · rw [if_pos q]
    exact ifn (by rw [n_leF (by omega) (by omega)]; exact not_false) (ifp rfl ak)
  · rw [if_neg q]
    exact ifp (nI_le (by omega) (by omega)) (ifp rfl ak)
end AQ
