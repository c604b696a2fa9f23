/-! THE ROOM: a season that is walked -/
section RMW
variable {sg K : Nat → Nat} {M : Nat → Nat → Nat}
theorem as_pair {Q : Nat → Nat → Nat} {pl : Nat → Nat} (hK : KBn sg K) (hM : MBn sg M) (hP : PT sg pl) (h3 : 1 ≤ sg 3) (h0 : 1 ≤ sg 0) (hQ : ∀ a c w t, a < sg 3 → c < sg 3 → w < sg 3 → t < sg 0 * 3 → qP sg K M a c w t ≤ Q a c) (G2 : Nat) : asC sg pl G2 ≤ Q (apA sg G2) (apC sg G2) := by
  have dt := drw_lt (nx G2) (show 1 ≤ 3 * sg 0 by omega)
  have a1 := drw_lt (nx (nx (nx G2))) h3
  have a2 := drw_lt (nx (nx (nx (nx (nx G2))))) h3
  have a3 := drw_lt (nx (nx (nx (nx (nx (nx G2)))))) h3
  have a4 := drw_lt (nx (nx (nx (nx G2)))) h3
  unfold asC apC apA
  generalize drw G2 (sg 1) = ha
  generalize drw (nx G2) (3 * sg 0) = t at dt ⊢
  generalize drw (nx (nx (nx G2))) (sg 3) = a at a1 ⊢
  generalize drw (nx (nx (nx (nx (nx G2))))) (sg 3) = c at a2 ⊢
  generalize drw (nx (nx (nx (nx (nx (nx G2)))))) (sg 3) = w at a3 ⊢
  generalize drw (nx (nx (nx (nx G2)))) (sg 3) = w4 at a4 ⊢
  generalize drw (nx (nx (nx (nx G2)))) 2 = d2
  generalize drw (nx (nx G2)) 2 = d1
  have one : ∀ w cc, w < sg 3 → askC sg pl ha t (2 ^ a) cc w ≤ Q a a := fun w cc hw => by
    have q := qP_ok (ha := ha) (cc := cc) hK hM hP (show t < sg 0 * 3 by omega) a1 a1 hw (Or.inl rfl)
    rw [Nat.or_self] at q
    exact Nat.le_trans q (hQ a a w t a1 a1 hw (by omega))
  by_cases c1 : d1 = 0
  · rw [if_pos c1]
    by_cases c2 : d2 = 0
    · rw [if_pos c2, if_pos ⟨c1, c2⟩]
      exact Nat.le_trans (qP_ok (ha := ha) (cc := 1) hK hM hP (show t < sg 0 * 3 by omega) a1 a2 a3 (Or.inr rfl)) (hQ a c w t a1 a2 a3 (by omega))
    · rw [if_neg c2, if_neg fun z => c2 z.2]
      exact one _ _ a2
  · rw [if_neg c1, if_neg fun z => c1 z.1]
    exact one _ _ a4
theorem room_W {th den base bA lam g2 f2 k1 w3 d3 Ge : Nat} {ct : Nat → Nat} {ph : Bool → Nat → Nat} {hit : Nat → Nat → Nat} {gf : Nat → Nat → Nat} {qf : Nat → Nat → Nat → Nat → Nat} {okf : Nat → Nat → Nat → Nat} (h3 : sg 3 = w3) (hd : 3 * sg 0 = d3) (h1 : 1 ≤ w3) (h2 : 1 ≤ sg 2 ∧ sg 2 ≤ 8) (h0 : 1 ≤ sg 0) (hK : KBn sg K) (hM : MBn sg M) (hg2 : ∀ a c, a < sg 3 → c < sg 3 → gP K a c ≤ g2) (hf2 : ∀ a c, a < sg 3 → c < sg 3 → fP M a c ≤ f2) (hk1 : ∀ w, w < sg 3 → K w ≤ k1)
    (hq : ∀ a c w t, a < sg 3 → c < sg 3 → w < sg 3 → t < sg 0 * 3 → qP sg K M a c w t ≤ qf a c w t ∧ qP sg K M a c w t ≤ bA + hit a c) (hgf : ∀ a c, a < sg 3 → c < sg 3 → 2 * gP K a c + 2 ≤ gf a c) (hden : 1 ≤ den) (hb : base = 2 * g2 + 2 + bA) (hp : PotP sg den lam ph hit) (ho : OkS sg okf)
    (h : Wk th w3 d3 (2 * g2 + 2) (2 + g2) gf qf (orW w3 d3 okf) (stpW den base lam th ph) 26 Ge false 0 = true) : stS sg (plC ct, Ge) 26 ≤ th := by
  subst h3
  have PT0 := PT_0 sg ct
  have bd : Bds sg K g2 f2 k1 := ⟨hK, fun a c ha hc => Nat.le_trans (gS_2 K a c) (hg2 a c ha hc), fun a c ha hc F hF => Nat.le_trans (fb_2 hK hM ha hc F hF) (hf2 a c ha hc), hk1⟩
  have hc : ∀ z : Sz, PT sg z.1 → stC sg z ≤ base + hit (apA sg (nx (nx (stG sg z)))) (apC sg (nx (nx (stG sg z)))) := fun z hz => by
    have c1 := bd.ch hz h1 (t := drw z.2 (3 * sg 0)) (s := slS z.1 z.2) (k := drw (slH z.1 z.2) 9) (H := nx (slH z.1 z.2)) slS_lt
    have c2 := as_pair (Q := fun a c => bA + hit a c) hK hM (PT_st hz h1 h2) h1 h0 (fun a c w t ha hc hw ht => (hq a c w t ha hc hw ht).2) (nx (nx (stG sg z)))
    rw [stC_e, hb]
    generalize chC sg z.1 (drw z.2 (3 * sg 0)) (slS z.1 z.2) (drw (slH z.1 z.2) 9) (nx (slH z.1 z.2)) = X at c1 ⊢
    generalize asC sg (stP sg z) (nx (nx (stG sg z))) = Y at c2 ⊢
    have c2 : Y ≤ bA + hit (apA sg (nx (nx (stG sg z)))) (apC sg (nx (nx (stG sg z)))) := c2
    generalize hit (apA sg (nx (nx (stG sg z)))) (apC sg (nx (nx (stG sg z)))) = Z at c2 ⊢
    omega
  have p0 : plC ct 0 = 0 := if_neg (by omega)
  have r := Wk_ok (mv := 2 * g2 + 2) (rc := 2 + g2) (gf := gf) (qf := qf) (orf := orW (sg 3) d3 okf) (stop := stpW den base lam th ph) rfl hd h1 h2 h0 (stpW_ok hden h1 h2 hp hc) (fun pl hP ha t a c cc w ht ha3 hc3 hw hcc => Nat.le_trans (qP_ok hK hM hP ht ha3 hc3 hw hcc) (hq a c w t ha3 hc3 hw ht).1) (fun pl ha t a c cc ha3 hc3 => Nat.le_trans (gf_ok hK ha3 hc3) (hgf a c ha3 hc3)) (fun pl hP s t hs => mv_ok hK hg2 hP hs) (fun pl G hP h0 => orW_ok rfl h1 hd ho h0) 26 (plC ct, Ge) false 0 PT0 ⟨fun q => (by cases q), fun q => absurd p0 q⟩ h
  omega
end RMW
