/-! THE LAW'S CHANGES: moved -/
section CM
variable {x ga e G s t : Nat} {sg pl : Nat → Nat} {hn : Nat} {hl : Nat → Nat → Nat} {sv : Nat → Bool} {sl : Nat → Nat → Nat} {bl : Nat} {bf : Nat → Int32} {ep : Nat} {nm : Nat → List Nat} {M : Mm}
/-- the end behind a new place was found -/
theorem s_MvC (h : WD x ga e (sg, pl, hn, hl, sv, sl, bl, bf, ep, nm) (mvP sg pl s t) G M) {a c : Nat} (hsn : s < pl 0) (ht : t < sg 0 * 3) (h0 : whyN sg (off pl s) (oS pl s 1) t (oS pl s 3) (oS pl s 2) = 0) (ra : Row e a 4 (fun f => oS pl s f) M) (rc : Cv e c sg pl s M) (P : Int32 → Mm → Prop) (K : ∀ M', WE bl x ga e sg (if mvN sg pl s t = 0 then mvP sg pl s t else pl) G M' → P (nI 1) M') : MvC P x e a c (nI t) (nI s) (nI 0) (nI (psn (off pl s) (oS pl s 1) t)) M := by
  have hs : SB sg := h.ok.1
  have hb : PG sg pl := h.ok.2.1
  have b9 := hs.b
  have n9 := hb.1.n
  have gm := PGmv hs hb hsn (show t < 3 * sg 0 by omega) h0
  have pg := PGoff hs hb hsn
  have m0 : mvP sg pl s t 0 = pl 0 - 1 + 1 := rfl
  have o0 : off pl s 0 = pl 0 - 1 := rfl
  have hat : psn (off pl s) (oS pl s 1) t ≤ pl 0 - 1 := fi_le _ _
  refine ⟨h.lt.s.1.1, (e_X8_isRehearsed hs gm.1 h.lt h.dt _).mpr ?_⟩
  by_cases v : rehd sg (mvP sg pl s t) = true
  · have mv0 : mvN sg pl s t = 0 := by unfold mvN; rw [if_pos h0, if_pos v]
    rw [if_pos mv0] at K
    rw [v]
    refine ifn (by decide) (ifp (by decide) ⟨h.xk, cc_whyNotMove h.ok hsn ht M _ _ h.ci fun M1 c1 f1 => ?_⟩)
    have w1 := h.c f1 c1
    rw [mv0]
    refine ifp rfl (ifn (by decide) ⟨w1.xk, cc_move h.ok hsn ht mv0 M1 _ _ w1.ci fun M2 c2 f2 => ?_⟩)
    exact ifp rfl ⟨Or.inr rfl, K M2 (w1.cl f2 c2 (h.ok.push gm) rfl).we⟩
  · have mv6 : mvN sg pl s t = 6 := by unfold mvN; rw [if_pos h0, if_neg v]
    rw [if_neg (by omega)] at K
    rw [b_no v]
    refine ifp (by decide) ⟨h.lt.s.1.1, s_X8_takesOff hs gm.1 h.st (show psn (off pl s) (oS pl s 1) t < mvP sg pl s t 0 by omega) _ fun M1 k1 z1 i1 => ?_⟩
    have i2 : SI e sg (off pl s) M1 := i1.same hs (by show mvP sg pl s t 0 - 1 = pl 0 - 1; omega) (fun p hp => by rw [off_k _ _ (by omega) (by omega)]; exact cm_k _ _ _ _ _ _ _ _ (by omega) (by omega)) fun k hk f hf => by
      have hk2 : k < pl 0 - 1 := by have : off (mvP sg pl s t) (psn (off pl s) (oS pl s 1) t) 0 = mvP sg pl s t 0 - 1 := rfl; omega
      rw [off_up (show k < mvP sg pl s t 0 - 1 by omega) hf]
      refine (cm_dn (pl := off pl s) (show up (psn (off pl s) (oS pl s 1) t) k < off pl s 0 + 1 from up_lt (by omega)) (up_ne _ _) hf).trans ?_
      congr 1
      unfold up dn; split <;> (try split) <;> omega
    refine s_backW hs hb i2 hsn (ra.fr k1.1 (Nat.le_refl _)) (rc.fr k1.1 (Nat.le_refl _)) _ fun M2 k2 i3 => ifp rfl ?_
    have w2 := (h.l k1 i2).l k2 i3
    refine ⟨w2.xk, cc_whyNotMove h.ok hsn ht M2 _ _ w2.ci fun M3 c3 f3 => ?_⟩
    rw [mv6]
    exact ifp rfl ⟨Or.inr rfl, K M3 (w2.c f3 c3).we⟩
theorem s_MvX (h : WD x ga e (sg, pl, hn, hl, sv, sl, bl, bf, ep, nm) (off pl s) G M) {a c : Nat} (hsn : s < pl 0) (ht : t < sg 0 * 3) (h0 : ¬ whyN sg (off pl s) (oS pl s 1) t (oS pl s 3) (oS pl s 2) = 0) (ra : Row e a 4 (fun f => oS pl s f) M) (rc : Cv e c sg pl s M) (P : Int32 → Mm → Prop) (K : ∀ M', WE bl x ga e sg pl G M' → P (nI 1) M') : MvX P x e a c (nI t) (nI s) (nI (whyN sg (off pl s) (oS pl s 1) t (oS pl s 3) (oS pl s 2))) M := by
  have hs : SB sg := h.ok.1
  have hb : PG sg pl := h.ok.2.1
  have y6 := whyN_lt sg (off pl s) (oS pl s 1) t (oS pl s 3) (oS pl s 2)
  have mv : mvN sg pl s t = whyN sg (off pl s) (oS pl s 1) t (oS pl s 3) (oS pl s 2) := by unfold mvN; rw [if_neg h0]
  refine ifn (by rw [l_0, n_leF (by omega) (by omega)]; exact not_false) (s_backW hs hb h.st hsn ra rc _ fun M2 k2 i3 => ifp rfl ?_)
  have w2 := h.l k2 i3
  refine ⟨w2.xk, cc_whyNotMove h.ok hsn ht M2 _ _ w2.ci fun M3 c3 f3 => ?_⟩
  rw [mv]
  exact ifp rfl (ifp (by rw [l_0, n_ltT (by omega) (by omega)]; exact True.intro) ⟨Or.inr rfl, K M3 (w2.c f3 c3).we⟩)
theorem s_MvT (h : WD x ga e (sg, pl, hn, hl, sv, sl, bl, bf, ep, nm) (off pl s) G M) (hL : LB sg) {a c B S1 b1 s1 : Nat} (hsn : s < pl 0) (ht : t < sg 0 * 3) (ra : Row e a 4 (fun f => oS pl s f) M) (rc : Cv e c sg pl s M) (hB : b1 + (if whyN sg (off pl s) (oS pl s 1) t (oS pl s 3) (oS pl s 2) = 0 then comC sg (off pl s) t (oS pl s 3) else 0) ≤ B) (hS1 : s1 + 5 * (if whyN sg (off pl s) (oS pl s 1) t (oS pl s 3) (oS pl s 2) = 0 then comC sg (off pl s) t (oS pl s 3) else 0) ≤ S1) (P : Int32 → Mm → Prop) (K : ∀ M', WE bl x ga e sg (if mvN sg pl s t = 0 then mvP sg pl s t else pl) G M' → P (nI 1) M') : MvT B S1 P x e a c b1 s1 (nI t) (nI s) (nI (whyN sg (off pl s) (oS pl s 1) t (oS pl s 3) (oS pl s 2))) M := by
  have hs : SB sg := h.ok.1
  have hb : PG sg pl := h.ok.2.1
  have b9 := hs.b
  have n9 := hb.1.n
  have d := hb.1.s hs hsn
  have pg := PGoff hs hb hsn
  have l5 : ∀ w, w < sg 3 → oW sg w 4 ≤ 5 := fun w hw => Nat.le_succ_of_le (hL.2.1 w hw)
  have y6 := whyN_lt sg (off pl s) (oS pl s 1) t (oS pl s 3) (oS pl s 2)
  by_cases q : whyN sg (off pl s) (oS pl s 1) t (oS pl s 3) (oS pl s 2) = 0
  · rw [if_pos q] at hB hS1
    obtain ⟨q1, q2, q3⟩ := why0 q pg.1
    have ra2 := ra
    obtain ⟨-, ⟨t1, t2⟩, t3⟩ := ra2
    have t31 : zI M a 1 = nI (oS pl s 1) := t3 1 (by omega)
    have t32 : zI M a 2 = nI (oS pl s 2) := t3 2 (by omega)
    have t33 : zI M a 3 = nI (oS pl s 3) := t3 3 (by omega)
    have v4 : ∀ i, i < 4 → vp_in (nI i) (zl M a) := fun i hi => by rw [t2]; exact vp_in_nI hi (by omega)
    have fin : ∀ M3, KpS e M M3 → SI e sg (mvP sg pl s t) M3 → MvC P x e a c (nI t) (nI s) (nI 0) (nI (psn (off pl s) (oS pl s 1) t)) M3 := fun M3 k3 i3 =>
      s_MvC (h.l k3 i3) hsn ht q (ra.fr k3.1 (Nat.le_refl _)) (rc.fr k3.1 (Nat.le_refl _)) P K
    rw [q]
    refine ifp rfl ⟨t1, v4 1 (by omega), t1, v4 3 (by omega), t1, v4 2 (by omega), ?_⟩
    rw [show (1 : Int32).toNatClampNeg = 1 from rfl, show (2 : Int32).toNatClampNeg = 2 from rfl, show (3 : Int32).toNatClampNeg = 3 from rfl, t31, t32, t33]
    by_cases c1 : oS pl s 2 = 1
    · have fin2 : ∀ M3, KpS e M M3 → SI e sg (cm sg (off pl s) (psn (off pl s) (oS pl s 1) t) t (oS pl s 1) (oS pl s 3) 1 (free sg (off pl s) t)) M3 → MvC P x e a c (nI t) (nI s) (nI 0) (nI (psn (off pl s) (oS pl s 1) t)) M3 := by
        intro M3 k3 i3
        refine fin M3 k3 ?_
        unfold mvP; rw [c1]; exact i3
      refine ifp (by rw [c1]; rfl) ⟨comC sg (off pl s) t (oS pl s 3), 5 * comC sg (off pl s) t (oS pl s 3), by omega, by omega, h.lt.s.1.1, ?_⟩
      exact s_X8_comes (c := 1) hs pg h.st l5 (by omega) d.2.1 d.2.2.2.1 (by omega) q1 q2 q3 (Nat.le_refl _) (Nat.le_refl _) _ fun M3 k3 i3 => fin2 M3 k3 i3
    · have c0 : oS pl s 2 = 0 := by omega
      have fin2 : ∀ M3, KpS e M M3 → SI e sg (cm sg (off pl s) (psn (off pl s) (oS pl s 1) t) t (oS pl s 1) (oS pl s 3) 0 (free sg (off pl s) t)) M3 → MvC P x e a c (nI t) (nI s) (nI 0) (nI (psn (off pl s) (oS pl s 1) t)) M3 := by
        intro M3 k3 i3
        refine fin M3 k3 ?_
        unfold mvP; rw [c0]; exact i3
      refine ifn (by rw [c0]; decide) ⟨comC sg (off pl s) t (oS pl s 3), 5 * comC sg (off pl s) t (oS pl s 3), by omega, by omega, h.lt.s.1.1, ?_⟩
      exact s_X8_comes (c := 0) hs pg h.st l5 (by omega) d.2.1 d.2.2.2.1 (by omega) q1 q2 q3 (Nat.le_refl _) (Nat.le_refl _) _ fun M3 k3 i3 => fin2 M3 k3 i3
  · have mv : ¬ mvN sg pl s t = 0 := by unfold mvN; rw [if_neg q]; exact q
    rw [if_neg mv] at K
    exact ifn (by rw [l_0, n_eqF q (by omega) (by omega)]; exact not_false) (s_MvX h hsn ht q ra rc P K)
theorem s_Ch2 (h : WD x ga e (sg, pl, hn, hl, sv, sl, bl, bf, ep, nm) pl G M) (hL : LB sg) {B S1 : Nat} (ht : t < sg 0 * 3) (hsn : pl 0 = 0 ∨ s < pl 0) (hB : pl 0 = 0 ∨ mvC sg pl s t ≤ B) (hS1 : pl 0 = 0 ∨ 5 * mvC sg pl s t ≤ S1) (P : Int32 → Mm → Prop) (K : ∀ M', WE bl x ga e sg (if pl 0 ≠ 0 ∧ mvN sg pl s t = 0 then mvP sg pl s t else pl) G M' → P (nI 1) M') : Ch2 B S1 P x e (nI t) (nI s) M := by
  have hs : SB sg := h.ok.1
  have hb : PG sg pl := h.ok.2.1
  have b9 := hs.b
  have n9 := hb.1.n
  have l5 : ∀ w, w < sg 3 → oW sg w 4 ≤ 5 := fun w hw => Nat.le_succ_of_le (hL.2.1 w hw)
  have h1 := h.lt
  refine ⟨h1.s.1.1, ?_⟩
  rw [h.dt.n]
  by_cases q : pl 0 = 0
  · rw [if_neg (fun z => z.1 q)] at K
    exact ifp (by rw [q]; rfl) ⟨Or.inr rfl, K M h.we⟩
  · have hsn : s < pl 0 := hsn.resolve_left q
    have hB := hB.resolve_left q
    have hS1 := hS1.resolve_left q
    have K : ∀ M', WE bl x ga e sg (if mvN sg pl s t = 0 then mvP sg pl s t else pl) G M' → P (nI 1) M' := fun M' w => K M' (by
      by_cases y : mvN sg pl s t = 0
      · rw [if_pos ⟨q, y⟩]; rw [if_pos y] at w; exact w
      · rw [if_neg (fun z => y z.2)]; rw [if_neg y] at w; exact w)
    unfold mvC at hB hS1
    have d := hb.1.s hs hsn
    obtain ⟨a, r1, r2⟩ := h.dt.s hsn
    obtain ⟨c, r3, r4⟩ := h.dt.c hsn
    have ra := r2
    obtain ⟨-, ⟨t1, t2⟩, t3⟩ := r2
    have t31 : zI M a 1 = nI (oS pl s 1) := t3 1 (by omega)
    have t32 : zI M a 2 = nI (oS pl s 2) := t3 2 (by omega)
    have t33 : zI M a 3 = nI (oS pl s 3) := t3 3 (by omega)
    have v4 : ∀ i, i < 4 → vp_in (nI i) (zl M a) := fun i hi => by rw [t2]; exact vp_in_nI hi (by omega)
    have ep_ : plb pl s = off pl s := by unfold plb; rw [if_pos hsn]
    refine ifn (by rw [l_0, n_eqF q (by omega) (by omega)]; exact not_false) ⟨h1.s.1.1, e + 8, h1.s.1.2.2.2.2.2.2.2.2.1, h1.s.2.1.2.2.2.2.2.2.2.1, by rw [h1.s.2.2.2.2.2.2.2.2.2.1]; exact vp_in_nI (by omega) (by omega), a, by rw [n_cl (by omega)]; exact r1, h1.s.1.1, e + 9, h1.s.1.2.2.2.2.2.2.2.2.2, h1.s.2.1.2.2.2.2.2.2.2.2, by rw [h1.s.2.2.2.2.2.2.2.2.2.2]; exact vp_in_nI (by omega) (by omega), c, by rw [n_cl (by omega)]; exact r3, t1, v4 1 (by omega), t1, v4 3 (by omega), t1, v4 2 (by omega), ?_⟩
    rw [show (1 : Int32).toNatClampNeg = 1 from rfl, show (2 : Int32).toNatClampNeg = 2 from rfl, show (3 : Int32).toNatClampNeg = 3 from rfl, t31, t32, t33]
    have fin : ∀ M1, KpC e M M1 → ∀ r59, r59 = nI (whyN sg (off pl s) (oS pl s 1) t (oS pl s 3) (oS pl s 2)) → w_X8_takesOff M1 e (nI s) (fun M60 => MvT B S1 P x e a c (whyC sg pl (oS pl s 1) t (oS pl s 3) (oS pl s 2) s) (5 * whyC sg pl (oS pl s 1) t (oS pl s 3) (oS pl s 2) s) (nI t) (nI s) r59 M60) := by
      intro M1 k1 r59 e59
      subst e59
      have w1 := h.k k1
      refine s_X8_takesOff hs hb.1 w1.st hsn _ fun M2 k2 z2 i2 => ?_
      have kk := k1.1.trans k2
      exact s_MvT (w1.l k2 i2) hL hsn ht (ra.fr kk.1 (Nat.le_refl _)) (r4.fr kk.1 (Nat.le_refl _)) hB (by omega) P K
    by_cases c1 : oS pl s 2 = 1
    · refine ifp (by rw [c1]; rfl) ⟨whyC sg pl (oS pl s 1) t (oS pl s 3) (oS pl s 2) s, 5 * whyC sg pl (oS pl s 1) t (oS pl s 3) (oS pl s 2) s, by omega, by omega, h1.s.1.1, ?_⟩
      refine s_X8_why (b0 := s) (c := 1) hs hb.1 h.st l5 (by omega) d.2.2.2.2.2.1 d.2.2.2.1 (by omega) (Or.inr hsn) _ (by rw [c1]; exact Nat.le_refl _) (by rw [c1]; exact Nat.le_refl _) fun M1 k1 => ?_
      exact ⟨(h.k k1).lt.s.1.1, fin M1 k1 _ (by rw [ep_, c1])⟩
    · have c0 : oS pl s 2 = 0 := by omega
      refine ifn (by rw [c0]; decide) ⟨whyC sg pl (oS pl s 1) t (oS pl s 3) (oS pl s 2) s, 5 * whyC sg pl (oS pl s 1) t (oS pl s 3) (oS pl s 2) s, by omega, by omega, h1.s.1.1, ?_⟩
      refine s_X8_why (b0 := s) (c := 0) hs hb.1 h.st l5 (by omega) d.2.2.2.2.2.1 d.2.2.2.1 (by omega) (Or.inr hsn) _ (by rw [c0]; exact Nat.le_refl _) (by rw [c0]; exact Nat.le_refl _) fun M1 k1 => ?_
      exact ⟨(h.k k1).lt.s.1.1, fin M1 k1 _ (by rw [ep_, c0])⟩
end CM
