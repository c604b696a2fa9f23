/-! THE LAW'S CHANGES: moved, cast anew, new -/
def cmC (sg pl : Nat → Nat) (ha t S c : Nat) : Nat := whyC sg pl ha t S c 4294967295 + (if whyN sg pl ha t S c = 0 then comC sg pl t S else 0)
def cmP (sg pl : Nat → Nat) (ha t S c : Nat) : Nat → Nat := if whyN sg pl ha t S c = 0 then cm sg pl (psn pl ha t) t ha S c (free sg pl t) else pl
def mvC (sg pl : Nat → Nat) (s t : Nat) : Nat := whyC sg pl (oS pl s 1) t (oS pl s 3) (oS pl s 2) s + (if whyN sg (off pl s) (oS pl s 1) t (oS pl s 3) (oS pl s 2) = 0 then comC sg (off pl s) t (oS pl s 3) else 0)
section CK
variable {x ga e G : Nat} {sg pl : Nat → Nat} {hn : Nat} {hl : Nat → Nat → Nat} {sv : Nat → Bool} {sl : Nat → Nat → Nat} {bl : Nat} {bf : Nat → Int32} {ep : Nat} {nm : Nat → List Nat} {M : Mm}
theorem s_CdC (h : WD x ga e (sg, pl, hn, hl, sv, sl, bl, bf, ep, nm) pl G M) (hL : LB sg) {B S1 ha t st : Nat} (hha : ha < sg 1) (ht : t < sg 0 * 3) (hS : gset (sg 3) 1 st) (hB : cmC sg pl ha t st 1 ≤ B) (hS1 : 5 * cmC sg pl ha t st 1 ≤ S1) (P : Int32 → Mm → Prop) (K : ∀ M', WE bl x ga e sg (cmP sg pl ha t st 1) G M' → P (nI 1) M') : CdC B S1 P x e (nI ha) (nI t) (nI st) M := by
  have hs : SB sg := h.ok.1
  have hb : PG sg pl := h.ok.2.1
  have b9 := hs.b
  have L9 := hL.1
  have s32 := gset_lt L9.2.2.2 hS
  have e0 : plb pl 4294967295 = pl := plb_no hb.1
  have l5 : ∀ w, w < sg 3 → oW sg w 4 ≤ 5 := fun w hw => Nat.le_succ_of_le (hL.2.1 w hw)
  have y6 := whyN_lt sg pl ha t st 1
  unfold cmC at hB hS1
  unfold cmP at K
  refine ⟨whyC sg pl ha t st 1 4294967295, 5 * whyC sg pl ha t st 1 4294967295, by omega, by omega, h.lt.s.1.1, s_X8_why (b0 := 4294967295) (c := 1) hs hb.1 h.st l5 (by omega) hha s32 (by omega) (Or.inl rfl) _ (Nat.le_refl _) (Nat.le_refl _) fun M1 k1 => ?_⟩
  have w1 := h.k k1
  rw [e0]
  by_cases q : whyN sg pl ha t st 1 = 0
  · rw [if_pos q] at hB hS1 K
    obtain ⟨q1, q2, q3⟩ := why0 q hb.1
    have g1 := PGcm hs hb q1 (show t < 3 * sg 0 by omega) hha (show 1 ≤ 1 by omega) hS.1 q2 q3
    refine ifp (by rw [q]; decide) ⟨comC sg pl t st, 5 * comC sg pl t st, by omega, by omega, w1.lt.s.1.1, s_X8_comes (c := 1) hs hb w1.st l5 (by omega) (by omega) s32 (by omega) q1 q2 q3 (Nat.le_refl _) (Nat.le_refl _) _ fun M2 k2 i2 => ?_⟩
    have w2 := w1.l k2 i2
    refine ⟨w2.xk, cc_concert h.ok hha ht hS q M2 _ _ w2.ci fun M3 c3 f3 => ?_⟩
    exact ifp rfl ⟨Or.inr rfl, K M3 (w2.cl f3 c3 (h.ok.push g1) rfl).we⟩
  · rw [if_neg q] at K
    exact ifn (by rw [l_0, n_leF (by omega) (by omega)]; exact not_false) ⟨Or.inr rfl, K M1 w1.we⟩
theorem s_CdR (h : WD x ga e (sg, pl, hn, hl, sv, sl, bl, bf, ep, nm) pl G M) (hL : LB sg) {B S1 ha t w : Nat} (hha : ha < sg 1) (ht : t < sg 0 * 3) (hw : w < sg 3) (hB : cmC sg pl ha t (2 ^ w) 0 ≤ B) (hS1 : 5 * cmC sg pl ha t (2 ^ w) 0 ≤ S1) (P : Int32 → Mm → Prop) (K : ∀ M', WE bl x ga e sg (cmP sg pl ha t (2 ^ w) 0) G M' → P (nI 1) M') : CdR B S1 P x e (nI ha) (nI t) (nI (2 ^ w)) (nI w) M := by
  have hs : SB sg := h.ok.1
  have hb : PG sg pl := h.ok.2.1
  have b9 := hs.b
  have L9 := hL.1
  have hS : gset (sg 3) 0 (2 ^ w) := gset1 L9.2.2.2 hw
  have s32 := gset_lt L9.2.2.2 hS
  have e0 : plb pl 4294967295 = pl := plb_no hb.1
  have l5 : ∀ w, w < sg 3 → oW sg w 4 ≤ 5 := fun w hw => Nat.le_succ_of_le (hL.2.1 w hw)
  have y6 := whyN_lt sg pl ha t (2 ^ w) 0
  unfold cmC at hB hS1
  unfold cmP at K
  refine ⟨whyC sg pl ha t (2 ^ w) 0 4294967295, 5 * whyC sg pl ha t (2 ^ w) 0 4294967295, by omega, by omega, h.lt.s.1.1, s_X8_why (b0 := 4294967295) (c := 0) hs hb.1 h.st l5 (by omega) hha s32 (by omega) (Or.inl rfl) _ (Nat.le_refl _) (Nat.le_refl _) fun M1 k1 => ?_⟩
  have w1 := h.k k1
  rw [e0]
  by_cases q : whyN sg pl ha t (2 ^ w) 0 = 0
  · rw [if_pos q] at hB hS1 K
    obtain ⟨q1, q2, q3⟩ := why0 q hb.1
    have g1 := PGcm hs hb q1 (show t < 3 * sg 0 by omega) hha (show 0 ≤ 1 by omega) hS.1 q2 q3
    refine ifp (by rw [q]; decide) ⟨comC sg pl t (2 ^ w), 5 * comC sg pl t (2 ^ w), by omega, by omega, w1.lt.s.1.1, s_X8_comes (c := 0) hs hb w1.st l5 (by omega) (by omega) s32 (by omega) q1 q2 q3 (Nat.le_refl _) (Nat.le_refl _) _ fun M2 k2 i2 => ?_⟩
    have w2 := w1.l k2 i2
    refine ⟨w2.xk, cc_rehearse h.ok hha ht hw q M2 _ _ w2.ci fun M3 c3 f3 => ?_⟩
    exact ifp rfl ⟨Or.inr rfl, K M3 (w2.cl f3 c3 (h.ok.push g1) rfl).we⟩
  · rw [if_neg q] at K
    exact ifn (by rw [l_0, n_leF (by omega) (by omega)]; exact not_false) ⟨Or.inr rfl, K M1 w1.we⟩
/-- the default: what is drawn -/
def cdC (sg pl : Nat → Nat) (t H : Nat) : Nat := if drw (nx H) 2 = 0 then (if drw (nx (nx (nx H))) 3 = 0 then cmC sg pl (drw H (sg 1)) t (2 ^ drw (nx (nx H)) (sg 3) ||| 2 ^ drw (nx (nx (nx (nx H)))) (sg 3)) 1 else cmC sg pl (drw H (sg 1)) t (2 ^ drw (nx (nx H)) (sg 3)) 1) else cmC sg pl (drw H (sg 1)) t (2 ^ drw (nx (nx H)) (sg 3)) 0
def cdP (sg pl : Nat → Nat) (t H : Nat) : Nat → Nat := if drw (nx H) 2 = 0 then (if drw (nx (nx (nx H))) 3 = 0 then cmP sg pl (drw H (sg 1)) t (2 ^ drw (nx (nx H)) (sg 3) ||| 2 ^ drw (nx (nx (nx (nx H)))) (sg 3)) 1 else cmP sg pl (drw H (sg 1)) t (2 ^ drw (nx (nx H)) (sg 3)) 1) else cmP sg pl (drw H (sg 1)) t (2 ^ drw (nx (nx H)) (sg 3)) 0
def cdG (H : Nat) : Nat := if drw (nx H) 2 = 0 then (if drw (nx (nx (nx H))) 3 = 0 then nx (nx (nx (nx (nx H)))) else nx (nx (nx (nx H)))) else nx (nx (nx H))
theorem st_1 {w : Nat} (hw : w < 5) : ((1 : Int32) <<< (nI w &&& 31)) ||| (0 : Int32) = nI (2 ^ w) := by
  rw [l_1, l_0, l_31, fa_andq, n_shl (by omega), fa_orq, Nat.or_zero]
theorem st_2 {w v : Nat} (hw : w < 5) (hv : v < 5) : ((1 : Int32) <<< (nI w &&& 31)) ||| ((1 : Int32) <<< (nI v &&& 31)) = nI (2 ^ w ||| 2 ^ v) := by
  rw [l_1, l_31, fa_andq, fa_andq, n_shl (by omega), n_shl (by omega), fa_orq]
theorem s_Chd (h : WD x ga e (sg, pl, hn, hl, sv, sl, bl, bf, ep, nm) pl G M) (hL : LB sg) {B S1 t : Nat} (ht : t < sg 0 * 3) (hB : cdC sg pl t G ≤ B) (hS1 : 5 * cdC sg pl t G ≤ S1) (P : Int32 → Mm → Prop) (K : ∀ M', WE bl x ga e sg (cdP sg pl t G) (cdG G) M' → P (nI 1) M') : Chd B S1 P x e ga (nI t) M := by
  have hs : SB sg := h.ok.1
  have b9 := hs.b
  have L9 := hL.1
  have d0 := drw_lt G L9.1
  have d2 := drw_lt (nx (nx G)) L9.2.2.1
  have d4 := drw_lt (nx (nx (nx (nx G)))) L9.2.2.1
  have two : (2 : Int32) = nI 2 := rfl
  unfold cdC at hB hS1
  unfold cdP cdG at K
  refine ⟨h.lt.s.1.1, ?_⟩
  rw [h.lt.n.2.1]
  refine h.d L9.1 (by omega) _ fun M1 w1 => ?_
  rw [two]
  refine w1.d (by omega) (by omega) _ fun M2 w2 => ?_
  have dd := drw_lt (nx G) (show 1 ≤ 2 by omega)
  by_cases q : drw (nx G) 2 = 0
  · rw [if_pos q] at hB hS1
    rw [if_pos q, if_pos q] at K
    refine ifp (by rw [q]; rfl) ⟨w2.lt.s.1.1, ?_⟩
    rw [w2.lt.n.2.2.2.1]
    refine w2.d L9.2.2.1 (by omega) _ fun M3 w3 => ?_
    rw [show (3 : Int32) = nI 3 from rfl]
    refine w3.d (by omega) (by omega) _ fun M4 w4 => ?_
    have d3 := drw_lt (nx (nx (nx G))) (show 1 ≤ 3 by omega)
    by_cases q2 : drw (nx (nx (nx G))) 3 = 0
    · rw [if_pos q2] at hB hS1
      rw [if_pos q2, if_pos q2] at K
      refine ifp (by rw [q2]; rfl) ⟨w4.lt.s.1.1, ?_⟩
      rw [w4.lt.n.2.2.2.1]
      refine w4.d L9.2.2.1 (by omega) _ fun M5 w5 => ?_
      have g := s_CdC w5 hL d0 ht (gset2 L9.2.2.2 d2 d4) hB hS1 P K
      rw [← st_2 (show drw (nx (nx G)) (sg 3) < 5 by omega) (show drw (nx (nx (nx (nx G)))) (sg 3) < 5 by omega)] at g
      exact g
    · rw [if_neg q2] at hB hS1
      rw [if_neg q2, if_neg q2] at K
      refine ifn (by rw [l_0, n_eqF q2 (by omega) (by omega)]; exact not_false) ?_
      have g := s_CdC w4 hL d0 ht (gset1 L9.2.2.2 d2) hB hS1 P K
      rw [← st_1 (show drw (nx (nx G)) (sg 3) < 5 by omega)] at g
      exact g
  · rw [if_neg q] at hB hS1
    rw [if_neg q, if_neg q] at K
    refine ifn (by rw [l_0, n_eqF q (by omega) (by omega)]; exact not_false) ⟨w2.lt.s.1.1, ?_⟩
    rw [w2.lt.n.2.2.2.1]
    refine w2.d L9.2.2.1 (by omega) _ fun M3 w3 => ?_
    have g := s_CdR w3 hL d0 ht d2 hB hS1 P K
    rw [← st_1 (show drw (nx (nx G)) (sg 3) < 5 by omega)] at g
    exact g
theorem s_L_changes_450 {q : Nat → Nat} (h : WD x ga e (sg, pl, hn, hl, sv, sl, bl, bf, ep, nm) q G M) (hs : SB sg) (hb : PG sg q) {B S1 b s x4 at_ : Nat} (hat : at_ < q 0) {P : Int32 → Mm → Prop} {K499 : Mm → Nat → Nat → Nat → Int32 → Int32 → Int32 → Prop}
    (K : K499 M b s x (nI x4) (nI at_) (nI (dIn sg q at_ 255))) : ∃ n, l_L_changes_450 B S1 P K499 n M b s x e (nI x4) (nI at_) (0 : Int32) (0 : Int32) := by
  have b9 := hs.b
  have n9 := hb.1.n
  have h1 := h.lt
  obtain ⟨c, q1, -, ⟨q3, q4⟩, q5⟩ := h.dt.c hat
  refine lpI (fun n (z : Int32 × Int32) => l_L_changes_450 B S1 P K499 n M b s x e (nI x4) (nI at_) z.1 z.2) (fun w z => z.1 = nI (fo (dW sg q at_ 255) w 0) ∧ z.2 = nI w) (sg 3) (fun n z hz => ?_) (fun n w z hw hz LL => ?_) ((0 : Int32), (0 : Int32)) ⟨rfl, rfl⟩
  · obtain ⟨x7, x8⟩ := z
    obtain ⟨e1, e2⟩ := hz
    simp only at e1 e2
    subst e1 e2
    show l_L_changes_450 B S1 P K499 (n + 1) M b s x e (nI x4) (nI at_) (nI (fo (dW sg q at_ 255) (sg 3) 0)) (nI (sg 3))
    rw [l_L_changes_450]
    exact ⟨h1.s.1.1, ifp (by rw [h1.n.2.2.2.1]; exact nI_le (Nat.le_refl _) (by omega)) K⟩
  · obtain ⟨x7, x8⟩ := z
    obtain ⟨e1, e2⟩ := hz
    simp only at e1 e2
    subst e1 e2
    by_cases t : (oS q at_ 3).testBit w = true
    · obtain ⟨r, u1, -, ⟨u2, u3⟩, u4⟩ := (q5 w (by omega)).1 ⟨hw, t⟩
      have ed := e_X8_doublings hs h1 hw (a := r) (f := fun j => oS q at_ (4 + 6 * w + j)) u2 u3 u4 (fun j hj => hb.1.c hat hw t hj) (fun r98 M98 => l_L_changes_450 B S1 P K499 n M98 b s x e (nI x4) (nI at_) (nI (fo (dW sg q at_ 255) w 0) + r98) (nI w + nI 1))
      simp (disch := omega) only [l_L_changes_450, h1.s, h1.n, q1, q3, q4, soN, forall_eq', u1, n_vp, n_cl, n_leF, l_1, not_true_eq_false, Bool.false_eq_true, false_and, Bool.not_false, Bool.not_true, Bool.and_true, Bool.and_false, Bool.false_and, Bool.true_and, true_and, and_true, true_or, or_true, not_false_eq_true, Option.some.injEq, exists_eq_left', forall_eq, ↓reduceIte, Nat.add_zero, Nat.zero_add, and_self]
      refine ed.mpr (LL (_, _) ⟨?_, by show nI w + nI 1 = nI (w + 1); rw [nI_add]⟩)
      show nI (fo (dW sg q at_ 255) w 0) + nI (dbl sg w (fun j => oS q at_ (4 + 6 * w + j)) (oW sg w 4)) = nI (fo (dW sg q at_ 255) (w + 1) 0)
      rw [nI_add, fo_s, dW_255 hs hb.1 hat hw t]
    · have u1 := (q5 w (by omega)).2 (fun z => t z.2)
      have e5 : fo (dW sg q at_ 255) (w + 1) 0 = fo (dW sg q at_ 255) w 0 := dW_no t _
      simp (disch := omega) only [l_L_changes_450, h1.s, h1.n, q1, q3, q4, onN u1, n_vp, n_cl, n_leF, l_1, not_true_eq_false, Bool.false_eq_true, false_and, Bool.not_false, Bool.not_true, Bool.and_true, Bool.and_false, Bool.false_and, Bool.true_and, true_and, and_true, true_or, or_true, not_false_eq_true, Option.some.injEq, exists_eq_left', forall_eq, ↓reduceIte, Nat.add_zero, Nat.zero_add, and_self]
      exact LL (_, _) ⟨congrArg nI e5.symm, by show nI w + nI 1 = nI (w + 1); rw [nI_add]⟩
theorem s_Ch3 (h : WD x ga e (sg, pl, hn, hl, sv, sl, bl, bf, ep, nm) pl G M) (hL : LB sg) {B S1 s : Nat} (hsn : pl 0 = 0 ∨ s < pl 0) (hB : pl 0 = 0 ∨ comC sg (off pl s) (oS pl s 0) (oS pl s 3) ≤ B) (hS1 : pl 0 = 0 ∨ 5 * comC sg (off pl s) (oS pl s 0) (oS pl s 3) ≤ S1) (P : Int32 → Mm → Prop) (K : ∀ M', WE bl x ga e sg (if pl 0 ≠ 0 then rcP sg pl s else pl) G M' → P (nI 1) M') : Ch3 B S1 P x e (nI s) M := by
  have hs : SB sg := h.ok.1
  have hb : PG sg pl := h.ok.2.1
  have b9 := hs.b
  have n9 := hb.1.n
  have L9 := hL.1
  have l5 : ∀ w, w < sg 3 → oW sg w 4 ≤ 5 := fun w hw => Nat.le_succ_of_le (hL.2.1 w hw)
  have h1 := h.lt
  refine ⟨h1.s.1.1, ?_⟩
  rw [h.dt.n]
  by_cases q : pl 0 = 0
  · rw [if_neg (fun z => z q)] at K
    exact ifp (by rw [q]; rfl) ⟨Or.inr rfl, K M h.we⟩
  · have hsn : s < pl 0 := hsn.resolve_left q
    have hB := hB.resolve_left q
    have hS1 := hS1.resolve_left q
    rw [if_pos q] at K
    have d := hb.1.s hs hsn
    obtain ⟨a, r1, r2⟩ := h.dt.s hsn
    obtain ⟨g1, g2, g3⟩ := again hs hb hsn
    have po := PGoff hs hb hsn
    refine ifn (by rw [l_0, n_eqF q (by omega) (by omega)]; exact not_false) ⟨h1.s.1.1, e + 8, h1.s.1.2.2.2.2.2.2.2.2.1, h1.s.2.1.2.2.2.2.2.2.2.1, by rw [h1.s.2.2.2.2.2.2.2.2.2.1]; exact vp_in_nI (by omega) (by omega), a, by rw [n_cl (by omega)]; exact r1, h1.s.1.1, s_X8_takesOff hs hb.1 h.st hsn _ fun M2 k2 z2 i2 => ?_⟩
    have w2 := h.l k2 i2
    obtain ⟨-, ⟨t1, t2⟩, t3⟩ := r2.fr k2.1 (Nat.le_refl _)
    have t30 : zI M2 a 0 = nI (oS pl s 0) := t3 0 (by omega)
    have t31 : zI M2 a 1 = nI (oS pl s 1) := t3 1 (by omega)
    have t32 : zI M2 a 2 = nI (oS pl s 2) := t3 2 (by omega)
    have t33 : zI M2 a 3 = nI (oS pl s 3) := t3 3 (by omega)
    have v4 : ∀ i, i < 4 → vp_in (nI i) (zl M2 a) := fun i hi => by rw [t2]; exact vp_in_nI hi (by omega)
    have fin : ∀ M3, KpS e M2 M3 → SI e sg (cm sg (off pl s) (psn (off pl s) (oS pl s 1) (oS pl s 0)) (oS pl s 0) (oS pl s 1) (oS pl s 3) (oS pl s 2) (free sg (off pl s) (oS pl s 0))) M3 → ∀ b1 s1, ∃ n450, l_L_changes_450 B S1 P (RcK P) n450 M3 b1 s1 x e (nI s) (nI (psn (off pl s) (oS pl s 1) (oS pl s 0))) (0 : Int32) (0 : Int32) := by
      intro M3 k3 i3 b1 s1
      rw [g3] at i3 ⊢
      have w3 := w2.l (pl2 := rcP sg pl s) k3 i3
      refine s_L_changes_450 w3 hs (PGrc hs hb hsn) (show s < pl 0 - 1 + 1 by omega) ?_
      refine ifp rfl ⟨w3.xk, cc_recast h.ok hsn M3 _ _ w3.ci fun M4 c4 f4 => ?_⟩
      exact ifp rfl ⟨Or.inr rfl, K M4 (w3.cl f4 c4 (h.ok.push (PGrc hs hb hsn)) rfl).we⟩
    refine ⟨t1, v4 1 (by omega), t1, v4 0 (by omega), t1, v4 3 (by omega), t1, v4 2 (by omega), ?_⟩
    rw [show (0 : Int32).toNatClampNeg = 0 from rfl, show (1 : Int32).toNatClampNeg = 1 from rfl, show (2 : Int32).toNatClampNeg = 2 from rfl, show (3 : Int32).toNatClampNeg = 3 from rfl, t30, t31, t32, t33]
    by_cases c1 : oS pl s 2 = 1
    · refine ifp (by rw [c1]; rfl) ⟨_, _, by rw [Nat.zero_add]; exact hB, by rw [Nat.zero_add]; exact hS1, w2.lt.s.1.1, ?_⟩
      rw [c1] at fin
      exact s_X8_comes (c := 1) hs po i2 l5 d.1 d.2.1 d.2.2.2.1 (by omega) (show pl 0 - 1 < 20 by omega) g1 g2 (Nat.le_refl _) (Nat.le_refl _) _ fun M3 k3 i3 => fin M3 k3 i3 _ _
    · have c0 : oS pl s 2 = 0 := by omega
      refine ifn (by rw [c0]; decide) ⟨_, _, by rw [Nat.zero_add]; exact hB, by rw [Nat.zero_add]; exact hS1, w2.lt.s.1.1, ?_⟩
      rw [c0] at fin
      exact s_X8_comes (c := 0) hs po i2 l5 d.1 d.2.1 d.2.2.2.1 (by omega) (show pl 0 - 1 < 20 by omega) g1 g2 (Nat.le_refl _) (Nat.le_refl _) _ fun M3 k3 i3 => fin M3 k3 i3 _ _
end CK
