/-! A STEP OF THE LAW: a change, all services, all players, a question -/
def slS (pl : Nat → Nat) (G : Nat) : Nat := if pl 0 = 0 then 0 else drw (nx G) (pl 0)
def slH (pl : Nat → Nat) (G : Nat) : Nat := if pl 0 = 0 then nx G else nx (nx G)
def chP (sg pl : Nat → Nat) (t s k H : Nat) : Nat → Nat := if k = 0 then ctP pl (drw H (sg 2)) (drw (nx H) 8) else if k = 1 then (if pl 0 ≠ 0 ∧ rehd sg (off pl s) = true then off pl s else pl) else if k = 2 then (if pl 0 ≠ 0 ∧ mvN sg pl s t = 0 then mvP sg pl s t else pl) else if k = 3 then (if pl 0 ≠ 0 then rcP sg pl s else pl) else cdP sg pl t H
def chG (k H : Nat) : Nat := if k = 0 then nx (nx H) else if k = 1 then H else if k = 2 then H else if k = 3 then H else cdG H
def chC (sg pl : Nat → Nat) (t s k H : Nat) : Nat := if k = 0 then 0 else if k = 1 then 0 else if k = 2 then (if pl 0 = 0 then 0 else mvC sg pl s t) else if k = 3 then (if pl 0 = 0 then 0 else comC sg (off pl s) (oS pl s 0) (oS pl s 3)) else cdC sg pl t H
/-- the question: its cost, the drawing behind it -/
def asC (sg pl : Nat → Nat) (G : Nat) : Nat := if drw (nx (nx G)) 2 = 0 then (if drw (nx (nx (nx (nx G)))) 2 = 0 then askC sg pl (drw G (sg 1)) (drw (nx G) (3 * sg 0)) (2 ^ drw (nx (nx (nx G))) (sg 3) ||| 2 ^ drw (nx (nx (nx (nx (nx G))))) (sg 3)) 1 (drw (nx (nx (nx (nx (nx (nx G)))))) (sg 3)) else askC sg pl (drw G (sg 1)) (drw (nx G) (3 * sg 0)) (2 ^ drw (nx (nx (nx G))) (sg 3)) 1 (drw (nx (nx (nx (nx (nx G))))) (sg 3))) else askC sg pl (drw G (sg 1)) (drw (nx G) (3 * sg 0)) (2 ^ drw (nx (nx (nx G))) (sg 3)) 0 (drw (nx (nx (nx (nx G)))) (sg 3))
def asG (G : Nat) : Nat := if drw (nx (nx G)) 2 = 0 then (if drw (nx (nx (nx (nx G)))) 2 = 0 then nx (nx (nx (nx (nx (nx (nx G)))))) else nx (nx (nx (nx (nx (nx G)))))) else nx (nx (nx (nx (nx G))))
abbrev Sz : Type := (Nat → Nat) × Nat
def stP (sg : Nat → Nat) (z : Sz) : Nat → Nat := chP sg z.1 (drw z.2 (3 * sg 0)) (slS z.1 z.2) (drw (slH z.1 z.2) 9) (nx (slH z.1 z.2))
def stG (sg : Nat → Nat) (z : Sz) : Nat := chG (drw (slH z.1 z.2) 9) (nx (slH z.1 z.2))
def stN (sg : Nat → Nat) (z : Sz) : Sz := (stP sg z, asG (nx (nx (stG sg z))))
def stC (sg : Nat → Nat) (z : Sz) : Nat := chC sg z.1 (drw z.2 (3 * sg 0)) (slS z.1 z.2) (drw (slH z.1 z.2) 9) (nx (slH z.1 z.2)) + asC sg (stP sg z) (nx (nx (stG sg z)))
def zs (sg : Nat → Nat) (z : Sz) : Nat → Sz
  | 0 => z
  | n + 1 => stN sg (zs sg z n)
section ST
variable {bl x ga e G : Nat} {sg pl : Nat → Nat} {M : Mm}
theorem s_L_changes (h : WE bl x ga e sg pl G M) (hL : LB sg) {B S1 : Nat} (hB : chC sg pl (drw G (3 * sg 0)) (slS pl G) (drw (slH pl G) 9) (nx (slH pl G)) ≤ B) (hS1 : 5 * chC sg pl (drw G (3 * sg 0)) (slS pl G) (drw (slH pl G) 9) (nx (slH pl G)) ≤ S1) (P : Int32 → Mm → Prop) (K : ∀ M', WE bl x ga e sg (chP sg pl (drw G (3 * sg 0)) (slS pl G) (drw (slH pl G) 9) (nx (slH pl G))) (chG (drw (slH pl G) 9) (nx (slH pl G))) M' → P (nI 1) M') : w_L_changes M x e ga P B S1 := by
  obtain ⟨hn, hl, sv, sl, bf, ep, nm, h⟩ := h
  have hs : SB sg := h.ok.1
  have hb : PG sg pl := h.ok.2.1
  have b9 := hs.b
  have n9 := hb.1.n
  have dt := drw_lt G (show 1 ≤ 3 * sg 0 by omega)
  have nine : (9 : Int32) = nI 9 := rfl
  have d9 : ∀ H, drw H 9 < 9 := fun H => drw_lt H (by omega)
  unfold w_L_changes
  refine ⟨h.lt.s.1.1, ?_⟩
  rw [h.lt.n.1, l_3, pk_mul]
  refine h.d (by omega) (by omega) _ fun M1 w1 => ⟨w1.lt.s.1.1, ?_⟩
  rw [w1.dt.n]
  have five : ∀ k r, (nI k = nI r) = (k = r) ∨ 9 ≤ k ∨ 9 ≤ r := fun k r => by
    rcases Nat.lt_or_ge k 9 with a | a
    · rcases Nat.lt_or_ge r 9 with b | b
      · refine Or.inl ?_
        by_cases c : k = r
        · rw [n_eqT c, eq_true c]
        · rw [n_eqF c (by omega) (by omega), eq_false c]
      · exact Or.inr (Or.inr b)
    · exact Or.inr (Or.inl a)
  have eqk : ∀ k r, k < 9 → r < 9 → (nI k = nI r) = (k = r) := fun k r a b => by
    rcases five k r with c | c | c
    · exact c
    · omega
    · omega
  -- what both ways share, behind the kind's draw
  have tail : ∀ s k H, k < 9 → (pl 0 = 0 ∨ s < pl 0) → chC sg pl (drw G (3 * sg 0)) s k H ≤ B → 5 * chC sg pl (drw G (3 * sg 0)) s k H ≤ S1 → (∀ M', WE bl x ga e sg (chP sg pl (drw G (3 * sg 0)) s k H) (chG k H) M' → P (nI 1) M') → ∀ M6, WD x ga e (sg, pl, hn, hl, sv, sl, bl, bf, ep, nm) pl H M6 → (if nI k = (0 : Int32) then Ch0 P x e ga M6 else (if nI k = (1 : Int32) then Ch1 P x e (nI s) M6 else (if nI k = (2 : Int32) then Ch2 B S1 P x e (nI (drw G (3 * sg 0))) (nI s) M6 else (if nI k = (3 : Int32) then Ch3 B S1 P x e (nI s) M6 else Chd B S1 P x e ga (nI (drw G (3 * sg 0))) M6)))) := by
    intro s k H k9 hsn hB hS1 K M6 w6
    unfold chC at hB hS1
    unfold chP chG at K
    by_cases k0 : k = 0
    · rw [if_pos k0, if_pos k0] at K
      exact ifp (by rw [k0]; rfl) (s_Ch0 w6 hL P K)
    · rw [if_neg k0] at hB hS1
      rw [if_neg k0, if_neg k0] at K
      refine ifn (by rw [l_0, eqk k 0 k9 (by omega)]; exact k0) ?_
      by_cases k1 : k = 1
      · rw [if_pos k1, if_pos k1] at K
        exact ifp (by rw [k1]; rfl) (s_Ch1 w6 hsn P K)
      · rw [if_neg k1] at hB hS1
        rw [if_neg k1, if_neg k1] at K
        refine ifn (by rw [l_1, eqk k 1 k9 (by omega)]; exact k1) ?_
        by_cases k2 : k = 2
        · rw [if_pos k2] at hB hS1
          rw [if_pos k2, if_pos k2] at K
          refine ifp (by rw [k2]; rfl) (s_Ch2 w6 hL (by omega) hsn ?_ ?_ P K)
          · by_cases q : pl 0 = 0
            · exact Or.inl q
            · rw [if_neg q] at hB; exact Or.inr hB
          · by_cases q : pl 0 = 0
            · exact Or.inl q
            · rw [if_neg q] at hS1; exact Or.inr hS1
        · rw [if_neg k2] at hB hS1
          rw [if_neg k2, if_neg k2] at K
          refine ifn (by rw [show (2 : Int32) = nI 2 from rfl, eqk k 2 k9 (by omega)]; exact k2) ?_
          by_cases k3 : k = 3
          · rw [if_pos k3] at hB hS1
            rw [if_pos k3, if_pos k3] at K
            refine ifp (by rw [k3]; rfl) (s_Ch3 w6 hL hsn ?_ ?_ P K)
            · by_cases q : pl 0 = 0
              · exact Or.inl q
              · rw [if_neg q] at hB; exact Or.inr hB
            · by_cases q : pl 0 = 0
              · exact Or.inl q
              · rw [if_neg q] at hS1; exact Or.inr hS1
          · rw [if_neg k3] at hB hS1
            rw [if_neg k3, if_neg k3] at K
            refine ifn (by rw [l_3, eqk k 3 k9 (by omega)]; exact k3) ?_
            exact s_Chd w6 hL (by omega) hB hS1 P K
  unfold slS slH at hB hS1 K
  by_cases q : pl 0 = 0
  · rw [if_pos q, if_pos q] at hB hS1
    rw [if_pos q, if_pos q] at K
    refine ifp (by rw [q]; rfl) ?_
    rw [nine]
    refine w1.d (by omega) (by omega) _ fun M6 w6 => ?_
    exact tail 0 (drw (nx G) 9) (nx (nx G)) (d9 _) (Or.inl q) hB hS1 K M6 w6
  · rw [if_neg q, if_neg q] at hB hS1
    rw [if_neg q, if_neg q] at K
    refine ifn (by rw [l_0, n_eqF q (by omega) (by omega)]; exact not_false) ⟨w1.lt.s.1.1, ?_⟩
    refine w1.d (by omega) (by omega) _ fun M5 w5 => ?_
    rw [nine]
    refine w5.d (by omega) (by omega) _ fun M6 w6 => ?_
    exact tail (drw (nx G) (pl 0)) (drw (nx (nx G)) 9) (nx (nx (nx G))) (d9 _) (Or.inr (drw_lt _ (by omega))) hB hS1 K M6 w6
theorem s_L_asks (h : WE bl x ga e sg pl G M) (hL : LB sg) {B S1 : Nat} (hB : asC sg pl G ≤ B) (hS1 : 5 * asC sg pl G ≤ S1) (P : Int32 → Mm → Prop) (K : ∀ M', WE bl x ga e sg pl (asG G) M' → P (nI 1) M') : w_L_asks M x e ga P B S1 := by
  obtain ⟨hn, hl, sv, sl, bf, ep, nm, h⟩ := h
  have hs : SB sg := h.ok.1
  have b9 := hs.b
  have L9 := hL.1
  have two : (2 : Int32) = nI 2 := rfl
  have d0 := drw_lt G L9.1
  have d1 := drw_lt (nx G) (show 1 ≤ 3 * sg 0 by omega)
  have d3 := drw_lt (nx (nx (nx G))) L9.2.2.1
  have d5 := drw_lt (nx (nx (nx (nx (nx G))))) L9.2.2.1
  have c2 := drw_lt (nx (nx G)) (show 1 ≤ 2 by omega)
  have c4 := drw_lt (nx (nx (nx (nx G)))) (show 1 ≤ 2 by omega)
  unfold asC at hB hS1
  unfold asG at K
  unfold w_L_asks
  refine ⟨h.lt.s.1.1, ?_⟩
  rw [h.lt.n.2.1]
  refine h.d L9.1 (by omega) _ fun M1 w1 => ⟨w1.lt.s.1.1, ?_⟩
  rw [w1.lt.n.1, l_3, pk_mul]
  refine w1.d (by omega) (by omega) _ fun M2 w2 => ?_
  rw [two]
  refine w2.d (by omega) (by omega) _ fun M3 w3 => ?_
  by_cases q : drw (nx (nx G)) 2 = 0
  · rw [if_pos q] at hB hS1 K
    refine ifp (by rw [q]; rfl) ⟨w3.lt.s.1.1, ?_⟩
    rw [w3.lt.n.2.2.2.1]
    refine w3.d L9.2.2.1 (by omega) _ fun M4 w4 => ?_
    refine w4.d (by omega) (by omega) _ fun M5 w5 => ?_
    by_cases q2 : drw (nx (nx (nx (nx G)))) 2 = 0
    · rw [if_pos q2] at hB hS1 K
      refine ifp (by rw [q2]; rfl) ⟨w5.lt.s.1.1, ?_⟩
      rw [w5.lt.n.2.2.2.1]
      refine w5.d L9.2.2.1 (by omega) _ fun M6 w6 => ?_
      have g := s_AkE w6 hL d0 (show drw (nx G) (3 * sg 0) < sg 0 * 3 by omega) (gset2 L9.2.2.2 d3 d5) (show 1 < 2 by omega) hB hS1 P fun M7 w7 => K M7 w7.we
      rw [← st_2 (show drw (nx (nx (nx G))) (sg 3) < 5 by omega) (show drw (nx (nx (nx (nx (nx G))))) (sg 3) < 5 by omega)] at g
      exact g
    · rw [if_neg q2] at hB hS1 K
      refine ifn (by rw [l_0, n_eqF q2 (by omega) (by omega)]; exact not_false) ?_
      have g := s_AkE w5 hL d0 (show drw (nx G) (3 * sg 0) < sg 0 * 3 by omega) (gset1 L9.2.2.2 d3) (show 1 < 2 by omega) hB hS1 P fun M7 w7 => K M7 w7.we
      rw [← st_1 (show drw (nx (nx (nx G))) (sg 3) < 5 by omega)] at g
      exact g
  · rw [if_neg q] at hB hS1 K
    refine ifn (by rw [l_0, n_eqF q (by omega) (by omega)]; exact not_false) ⟨w3.lt.s.1.1, ?_⟩
    rw [w3.lt.n.2.2.2.1]
    refine w3.d L9.2.2.1 (by omega) _ fun M4 w4 => ?_
    have g := s_AkE w4 hL d0 (show drw (nx G) (3 * sg 0) < sg 0 * 3 by omega) (gset1 L9.2.2.2 d3) (show 0 < 2 by omega) hB hS1 P fun M7 w7 => K M7 w7.we
    rw [← st_1 (show drw (nx (nx (nx G))) (sg 3) < 5 by omega)] at g
    exact g
/-- what the first n steps cost -/
def stS (sg : Nat → Nat) (z : Sz) (n : Nat) : Nat := su (fun m => stC sg (zs sg z m)) n
theorem s_L_plays_41 {z : Sz} (h : WE bl x ga e sg z.1 z.2 M) (hL : LB sg) {B S1 b s : Nat} (hB : b + stS sg z 26 ≤ B) (hS1 : s + 5 * stS sg z 26 ≤ S1) {P : Int32 → Mm → Prop} {K83 K91 : Mm → Nat → Nat → Prop} (K : ∀ M' s1, WE bl x ga e sg (zs sg z 26).1 (zs sg z 26).2 M' → K91 M' (b + stS sg z 26) s1) : ∃ n, l_L_plays_41 B S1 P K83 K91 n M b s x ga e (0 : Int32) := by
  refine lpI (fun n (y : Mm × Nat × Nat × Int32) => l_L_plays_41 B S1 P K83 K91 n y.1 y.2.1 y.2.2.1 x ga e y.2.2.2) (fun m y => WE bl x ga e sg (zs sg z m).1 (zs sg z m).2 y.1 ∧ y.2.1 = b + stS sg z m ∧ y.2.2.1 = s + 5 * stS sg z m ∧ y.2.2.2 = nI m) 26 (fun n y hy => ?_) (fun n m y hm hy LL => ?_) (M, b, s, (0 : Int32)) ⟨h, rfl, rfl, rfl⟩
  · obtain ⟨M1, b1, s1, x4⟩ := y
    obtain ⟨w, e1, e2, e3⟩ := hy
    simp only at e1 e2 e3
    subst e1 e2 e3
    show l_L_plays_41 B S1 P K83 K91 (n + 1) M1 (b + stS sg z 26) (s + 5 * stS sg z 26) x ga e (nI 26)
    rw [l_L_plays_41]
    exact ifp (by decide) (K M1 _ w)
  · obtain ⟨M1, b1, s1, x4⟩ := y
    obtain ⟨w, e1, e2, e3⟩ := hy
    simp only at e1 e2 e3
    subst e1 e2 e3
    have mono : stS sg z (m + 1) ≤ stS sg z 26 := su_mono (by omega)
    have ss : stS sg z (m + 1) = stS sg z m + stC sg (zs sg z m) := rfl
    have sc : stC sg (zs sg z m) = chC sg (zs sg z m).1 (drw (zs sg z m).2 (3 * sg 0)) (slS (zs sg z m).1 (zs sg z m).2) (drw (slH (zs sg z m).1 (zs sg z m).2) 9) (nx (slH (zs sg z m).1 (zs sg z m).2)) + asC sg (stP sg (zs sg z m)) (nx (nx (stG sg (zs sg z m)))) := rfl
    show l_L_plays_41 B S1 P K83 K91 (n + 1) M1 (b + stS sg z m) (s + 5 * stS sg z m) x ga e (nI m)
    rw [l_L_plays_41]
    refine ifn (by rw [show (26 : Int32) = nI 26 from rfl, n_leF (by omega) (by omega)]; exact not_false) ⟨_, _, ?_, ?_, s_L_changes w hL (Nat.le_refl _) (Nat.le_refl _) _ fun M2 w2 => ifn (by decide) ?_⟩
    · omega
    · omega
    obtain ⟨hn, hl, sv, sl, bf, ep, nm, w2⟩ := w2
    refine s_L_services w2 _ fun M3 w3 => ifn (by decide) (s_L_players w3 hL _ fun M4 w4 => ifn (by decide) ⟨asC sg (stP sg (zs sg z m)) (nx (nx (stG sg (zs sg z m)))), 5 * asC sg (stP sg (zs sg z m)) (nx (nx (stG sg (zs sg z m)))), ?_, ?_, s_L_asks w4.we hL (Nat.le_refl _) (Nat.le_refl _) _ fun M5 w5 => ifn (by decide) ?_⟩)
    · omega
    · omega
    refine LL (M5, _, _, _) ⟨w5, ?_, ?_, by show nI m + (1 : Int32) = nI (m + 1); rw [l_1, nI_add]⟩
    · show b + stS sg z m + _ + _ = b + stS sg z (m + 1)
      omega
    · show s + 5 * stS sg z m + _ + _ = s + 5 * stS sg z (m + 1)
      omega
end ST
