/-! THE LAW'S CHANGES -/
def WE (bl x ga e : Nat) (sg pl : Nat → Nat) (G : Nat) (M : Mm) : Prop := ∃ (hn : Nat) (hl : Nat → Nat → Nat) (sv : Nat → Bool) (sl : Nat → Nat → Nat) (bf : Nat → Int32) (ep : Nat) (nm : Nat → List Nat), WD x ga e (sg, pl, hn, hl, sv, sl, bl, bf, ep, nm) pl G M
section CH
variable {x ga e G : Nat} {sg pl : Nat → Nat} {hn : Nat} {hl : Nat → Nat → Nat} {sv : Nat → Bool} {sl : Nat → Nat → Nat} {bl : Nat} {bf : Nat → Int32} {ep : Nat} {nm : Nat → List Nat} {M : Mm}
theorem WD.we (h : WD x ga e (sg, pl, hn, hl, sv, sl, bl, bf, ep, nm) pl G M) : WE bl x ga e sg pl G M := ⟨hn, hl, sv, sl, bf, ep, nm, h⟩
theorem s_backW (hs : SB sg) (hb : PG sg pl) {s a c : Nat} (h : SI e sg (off pl s) M) (hsn : s < pl 0) (ra : Row e a 4 (fun f => oS pl s f) M) (rc : Cv e c sg pl s M) (P : Int32 → Mm → Prop) (K : ∀ M', KpS e M M' → SI e sg pl M' → P (nI s) M') : w_L_back M e a c P := by
  have d := hb.1.s hs hsn
  have n9 := hb.1.n
  have o0 : off pl s 0 = pl 0 - 1 := rfl
  refine s_L_back hs (PBoff hs hb.1 hsn) h (by omega) (by omega) d.1 d.2.1 (fun k hk => ?_) (fun k h1 h2 => ?_) (by omega) (fun p hp => (off_k pl s (by have := hs.b; omega) (by omega)).symm) (fun k hk hne f hf => ?_) ra rc P K
  · rw [off_up (by omega) (by omega), off_up (by omega) (by omega)]
    have eu : up s k = k := by unfold up; rw [if_pos hk]
    rw [eu]
    exact hb.2.1 k s hk hsn
  · rw [off_up (by omega) (by omega), off_up (by omega) (by omega)]
    have eu : up s k = k + 1 := by unfold up; rw [if_neg (by omega)]
    rw [eu]
    exact hb.2.1 s (k + 1) (by omega) (by omega)
  · have h1 : dn s k < pl 0 - 1 := by unfold dn; split <;> omega
    rw [off_up h1 hf]
    congr 1
    unfold up dn; split <;> (try split) <;> omega
theorem s_Ch0 (h : WD x ga e (sg, pl, hn, hl, sv, sl, bl, bf, ep, nm) pl G M) (hL : LB sg) (P : Int32 → Mm → Prop) (K : ∀ M', WE bl x ga e sg (ctP pl (drw G (sg 2)) (drw (nx G) 8)) (nx (nx G)) M' → P (nI 1) M') : Ch0 P x e ga M := by
  have hs : SB sg := h.ok.1
  have hb : PG sg pl := h.ok.2.1
  have b9 := hs.b
  have L9 := hL.1
  have dp := drw_lt G L9.2.1
  have dk := drw_lt (nx G) (show 1 ≤ 8 by omega)
  refine ⟨h.lt.s.1.1, ?_⟩
  rw [h.lt.n.2.2.1]
  refine h.d L9.2.1 (by omega) _ fun M8 w8 => ?_
  have h8 := w8.lt
  refine ⟨h8.s.1.1, e + 3, h8.s.1.2.2.2.1, h8.s.2.1.2.2.1, ?_, h8.s.1.1, e + 3, h8.s.1.2.2.2.1, ?_⟩
  · rw [h8.s.2.2.2.2.1]; exact vp_in_nI (by omega) (by omega)
  rw [n_cl (show drw G (sg 2) < 2 ^ 31 by omega), w8.dt.k dp]
  rw [show (8 : Int32) = nI 8 from rfl]
  refine w8.d (by omega) (by omega) _ fun M11 w11 => ?_
  have h11 := w11.lt
  have hz := w11.st.1
  refine ⟨h11.s.2.1.2.2.1, by rw [h11.s.2.2.2.2.1]; exact vp_in_nI (by omega) (by omega), fun M12 hM => ?_⟩
  have k12 : KpS e M11 M12 := by
    subst hM
    exact ⟨frg_I (by omega), ⟨rfl, fun i _ _ => by rw [zI_sIo _ _ _ _ (by omega)], fun _ _ => rfl⟩, fun _ _ _ => ⟨rfl, rfl⟩, fun k h1 h2 h3 => ⟨zI_sIo _ _ _ _ (by omega), rfl⟩⟩
  have i12 : SI e sg (ctP pl (drw G (sg 2)) (drw (nx G) 8)) M12 := by
    have o := ct_S pl (p := drw G (sg 2)) (k := drw (nx G) 8) (by omega)
    obtain ⟨y1, y2, y3, y4, y5⟩ := w11.st
    refine ⟨Nat.le_trans y1 k12.1.1, y2.kp k12, ?_, fun p hp => ?_, fun s hsn => ?_⟩
    · subst hM; rw [zI_sIo _ _ _ _ (by omega), ct_0]; exact y3
    · subst hM
      unfold ctP
      by_cases q : p = drw G (sg 2)
      · rw [if_pos (by omega), q, zI_sI1]
      · rw [if_neg (by omega), zI_sI2 _ _ _ _ q]; exact y4 p hp
    · rw [ct_0] at hsn
      obtain ⟨⟨a, r1, r2⟩, c, r3, r4⟩ := y5 s hsn
      refine ⟨⟨a, by subst hM; exact r1, (r2.fr k12.1 (Nat.le_refl _)).ext fun f hf => by rw [o]⟩, c, by subst hM; exact r3, (r4.fr k12.1 (Nat.le_refl _)).ext hs fun f hf => by rw [o]⟩
  have w12 := w11.l k12 i12
  have h12 := w12.lt
  refine ⟨h12.s.1.1, e + 3, h12.s.1.2.2.2.1, h12.s.2.1.2.2.1, by rw [h12.s.2.2.2.2.1]; exact vp_in_nI (by omega) (by omega), w12.xk, ?_⟩
  have ek : ctP pl (drw G (sg 2)) (drw (nx G) 8) (1 + drw G (sg 2)) = drw (nx G) 8 := if_pos rfl
  rw [w12.dt.k dp, ek]
  refine cc_setContract h.ok dp (by omega) M12 _ _ w12.ci fun M14 c14 f14 => ?_
  exact ifp rfl ⟨Or.inr rfl, K M14 (w12.cl f14 c14 (h.ok.push (PGct hb (by omega) (by omega))) rfl).we⟩
theorem s_Ch1 (h : WD x ga e (sg, pl, hn, hl, sv, sl, bl, bf, ep, nm) pl G M) {s : Nat} (hsn : pl 0 = 0 ∨ s < pl 0) (P : Int32 → Mm → Prop) (K : ∀ M', WE bl x ga e sg (if pl 0 ≠ 0 ∧ rehd sg (off pl s) = true then off pl s else pl) G M' → P (nI 1) M') : Ch1 P x e (nI s) M := by
  have hs : SB sg := h.ok.1
  have hb : PG sg pl := h.ok.2.1
  have n9 := hb.1.n
  have h1 := h.lt
  refine ⟨h1.s.1.1, ?_⟩
  rw [h.dt.n]
  by_cases q : pl 0 = 0
  · rw [if_neg (fun z => z.1 q)] at K
    exact ifp (by rw [q]; rfl) ⟨Or.inr rfl, K M h.we⟩
  · have hsn : s < pl 0 := hsn.resolve_left q
    obtain ⟨a, r1, r2⟩ := h.dt.s hsn
    obtain ⟨c, r3, r4⟩ := h.dt.c hsn
    refine ifn (by rw [l_0, n_eqF q (by omega) (by omega)]; exact not_false) ⟨h1.s.1.1, e + 8, h1.s.1.2.2.2.2.2.2.2.2.1, h1.s.2.1.2.2.2.2.2.2.2.1, by rw [h1.s.2.2.2.2.2.2.2.2.2.1]; exact vp_in_nI (by omega) (by omega), a, by rw [n_cl (by omega)]; exact r1, h1.s.1.1, e + 9, h1.s.1.2.2.2.2.2.2.2.2.2, h1.s.2.1.2.2.2.2.2.2.2.2, by rw [h1.s.2.2.2.2.2.2.2.2.2.2]; exact vp_in_nI (by omega) (by omega), c, by rw [n_cl (by omega)]; exact r3, h1.s.1.1, s_X8_takesOff hs hb.1 h.st hsn _ fun M2 k2 z2 i2 => ?_⟩
    have w2 := h.l k2 i2
    have po := PBoff hs hb.1 hsn
    refine ⟨w2.lt.s.1.1, (e_X8_isRehearsed hs po w2.lt w2.dt _).mpr ?_⟩
    by_cases v : rehd sg (off pl s) = true
    · rw [v]
      rw [if_pos ⟨q, v⟩] at K
      refine ifn (by decide) ⟨w2.xk, cc_cancel h.ok hsn v M2 _ _ w2.ci fun M3 c3 f3 => ?_⟩
      have w3 := w2.cl f3 c3 (h.ok.push (PGoff hs hb hsn)) rfl
      refine ⟨w3.lt.s.1.1, ifp ?_ ⟨Or.inr rfl, K M3 w3.we⟩⟩
      rw [w3.dt.n]; rfl
    · rw [b_no v]
      rw [if_neg (fun z => v z.2)] at K
      refine ifp (by decide) (s_backW hs hb i2 hsn (r2.fr k2.1 (Nat.le_refl _)) (r4.fr k2.1 (Nat.le_refl _)) _ fun M3 k3 i3 => ifp rfl ?_)
      have w3 := w2.l k3 i3
      refine ⟨w3.xk, cc_size h.ok (j := 5) (by omega) M3 _ _ w3.ci fun M4 c4 f4 => ?_⟩
      have w4 := w3.c f4 c4
      refine ⟨w4.lt.s.1.1, ifp ?_ ⟨Or.inr rfl, K M4 w4.we⟩⟩
      rw [w4.dt.n]; rfl
end CH
