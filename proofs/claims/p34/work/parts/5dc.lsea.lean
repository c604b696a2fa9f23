/-! THE SEASON IS BUILT: halls -/
section LS
variable {x ga a e z G : Nat} {st : ST} {n sg ct : Nat → Nat} {t : List Nat} {M : Mm}
theorem hallT_e (t : List Nat) (k v : Nat) : ((((t ++ tc 7) ++ [97 + k]) ++ [32]) ++ dig v) ++ [59] = t ++ hallT k v := by
  unfold hallT
  rw [List.append_assoc, List.append_assoc, List.append_assoc, List.append_assoc, List.append_assoc]
  rfl
theorem hallS_11 {v : Nat} : hallS sg v 1 = sg 1 + 1 := ups_1 _ _ _
theorem s_hall (y : YL x ga a e st t G M) (h : BSw e z n sg ct M) (hk : sg 1 < 3) (hn : sg 1 < n 1) (hn3 : n 1 ≤ 3) (ht : t.length ≤ 500) {B S1 b s m : Nat} {P : Option Nat → Mm → Prop} {K110 : Mm → Nat → Nat → Nat → Nat → Nat → Prop} (hB : b + 7 ≤ B) (hS1 : s + 7005 ≤ S1)
    (K : ∀ M', YL x ga a e st (t ++ hallT (sg 1) (drw G 3)) (nx G) M' → BSw e z n (hallS sg (drw G 3)) ct M' → l_L_season_52 B S1 P K110 m M' (b + 7) (s + 7005) a ga e (nI (sg 1 + 1))) : l_L_season_52 B S1 P K110 (m + 1) M b s a ga e (nI (sg 1)) := by
  have h1 := h.sh
  have d3 := drw_lt G (show 1 ≤ 3 by omega)
  have l3 := dig3 (v := drw G 3) (by omega)
  have a0 := h.1
  rw [l_L_season_52, show (7 : Nat) = 7 from rfl, h.2.1 1 (by omega)]
  refine ⟨h1.1.1, ifn (nI_ge hn (by omega)) ⟨h1.1.1, e + 1, h1.1.2.1, ?_⟩⟩
  rw [show (3 : Int32) = nI 3 from rfl]
  refine y.dr (by omega) (by omega) _ fun M1 y1 f1 => ?_
  have g1 := h.kb f1
  have s1 := g1.sh
  refine ⟨s1.2.1.1, by rw [s1.2.2.1]; exact vp_in_nI (by omega) (by omega), fun M2 hM => ?_⟩
  rw [nI_clamp (by omega)] at hM
  subst hM
  have y2 := y1.I (c := e + 1) (j := sg 1) (v := nI (drw G 3)) (by omega) (by rw [s1.2.1.1]; decide)
  have g2 := g1.I1 (j := sg 1) (v := nI (drw G 3)) (Nat.le_refl _)
  have g3 := g2.hall (v := drw G 3) (zI_sI1 _ _ _ _) hk
  refine ⟨by omega, by omega, y2.k16, y2.aS (by omega) (by omega) (by omega) _ fun M3 y3 f3 => ⟨a, rfl, by omega, by omega, ?_⟩⟩
  have t3 : (t ++ tc 7).length = t.length + 5 := by rw [List.length_append]; rfl
  refine y3.aN (by omega) (by omega) (by omega) (by omega) _ fun M4 y4 f4 => ⟨a, rfl, by omega, by omega, y4.k16, ?_⟩
  have t4 : ((t ++ tc 7) ++ [97 + sg 1]).length = t.length + 6 := by rw [List.length_append, t3]; rfl
  rw [show (32 : Int32) = nI 32 from rfl]
  refine y4.aC (by omega) (by omega) _ fun M5 y5 f5 => ⟨a, rfl, ?_⟩
  have t5 : (((t ++ tc 7) ++ [97 + sg 1]) ++ [32]).length = t.length + 7 := by rw [List.length_append, t4]; rfl
  have g5 := g3.kb (f3.trans (f4.trans f5))
  have s5 := g5.sh
  have v5 : zI M5 (e + 1) (sg 1) = nI (drw G 3) := by
    have q := g5.2.2.1 (sg 1) (by rw [hallS_11]; omega)
    rw [q]
    congr 1
    unfold hallS
    rw [ups_o _ _ _ (by omega), ups_1]
  refine ⟨s5.1.1, e + 1, s5.1.2.1, s5.2.1.1, by rw [s5.2.2.1]; exact vp_in_nI (by omega) (by omega), by omega, by omega, y5.k16, ?_⟩
  rw [nI_clamp (by omega), v5]
  refine y5.aI (by omega) (by omega) _ fun M6 y6 f6 => ⟨a, rfl, by omega, by omega, y6.k16, ?_⟩
  have t6 : ((((t ++ tc 7) ++ [97 + sg 1]) ++ [32]) ++ dig (drw G 3)).length ≤ t.length + 10 := by rw [List.length_append, t5]; omega
  rw [show (59 : Int32) = nI 59 from rfl]
  refine y6.aC (by omega) (by omega) _ fun M7 y7 f7 => ⟨a, rfl, ?_⟩
  rw [hallT_e] at y7
  have k := K M7 y7 (g5.kb (f6.trans f7))
  rw [show (1 : Int32) = nI 1 from rfl, nI_add]
  exact k
end LS
