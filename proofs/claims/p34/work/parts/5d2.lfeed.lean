/-! THE TEXT IS MADE A STRING AND FED TO THE CLASS -/
theorem nar_c : ∀ k, k < 128 → narrow .char (.int (nI k)) = .int (nI k) := by decide +kernel
theorem b255 : ∀ k, k < 128 → ((nI k &&& (255 : Int32)).toUInt32 % 65536).toInt32 = nI k := by decide +kernel
/-- the text, spaces behind it -/
def pad (tx : List Nat) (j : Nat) : Nat := if j < tx.length then tx.getD j 0 else 32
theorem pad_lt {tx : List Nat} (h : ∀ k, k ∈ tx → k < 128) (j : Nat) : pad tx j < 128 := by
  unfold pad
  split
  · refine h _ ?_
    rw [List.getD_eq_getElem?_getD, List.getElem?_eq_getElem (by assumption)]
    exact List.getElem_mem _
  · omega
/-- m bytes of a word -/
def pk4 (f : Nat → Nat) (i m : Nat) : Int32 := fo (fun q z => (z <<< ((8 : Int32) &&& 31)) ||| nI (f (4 * i + q))) m 0
theorem pk4_s (f : Nat → Nat) (i m : Nat) : pk4 f i (m + 1) = (pk4 f i m <<< ((8 : Int32) &&& 31)) ||| nI (f (4 * i + m)) := rfl
section FE
variable {a : Nat} {tx : List Nat} {M : Mm}
theorem s_toString (h : SBd a tx M) (ht : tx.length ≤ 600) (hk : ∀ k, k ∈ tx → k < 128) (P : Option Nat → Mm → Prop) (K : ∀ c M', STr c tx M' → FrG (zn M) (zn M + 2) M M' → zn M ≤ c → (∃ u, zR M' c 0 = some u ∧ zn M ≤ u ∧ u < zn M') → c < zn M' → SBd a tx M' → P (some c) M') : w_J4_toString_0e30d M a P := by
  obtain ⟨v, h⟩ := h
  unfold w_J4_toString_0e30d
  intro c M1 hc hM1
  have n1 : zn M1 = zn M + 1 := by subst hM1; rfl
  have f1 : FrG (zn M) (zn M + 2) M M1 := by subst hM1; exact frg_N
  have s1 := h.fr f1 (Nat.le_refl _)
  have s0 := s1
  obtain ⟨⟨h1, h2, h3, h4⟩, ⟨g1, g2, g3, g4, g5⟩, k1, k2⟩ := s1
  have g6 := h.2.1.2.2.2.2
  have kc : zk M1 c = 17 := by subst hM1; exact kN_n hc
  unfold w_J0_init_81219_AA w_J0_init_db425_AA0 w_J5_getValue_6d5f1 w_J4_length_8abf5 w_J5_length_8abf5 w_J5_isLatin1_aae02
  refine ⟨h1, h1, v, h2, v, rfl, h1, h1, h1, h1, h1, ifp h3 ⟨Or.inr rfl, ifn (by decide) ⟨kc, ⟨narz, rfl⟩, fun M8 hM8 => ?_⟩⟩⟩
  rw [h4]
  have n8 : zn M8 = zn M + 1 := by subst hM8; exact n1
  have i8 : ∀ b, b ≠ c → zI M8 b = zI M1 b := fun b hb => by subst hM8; exact zI_sIo _ _ _ _ hb
  have k8 : zk M8 = zk M1 := by subst hM8; rfl
  have l8 : zl M8 = zl M1 := by subst hM8; rfl
  have v8 : zI M8 v = zI M1 v := i8 v (by omega)
  have f8 : FrG (zn M) (zn M + 2) M M8 := by subst hM8; exact f1.trans (frg_I (by omega))
  have fit : ∀ i, i < zl M1 v → fits .byte (.int (zI M8 v i)) = true := fun i hi => by rw [v8]; exact s0.fit hi
  have fin : ∀ u M9, u = zn M + 1 → zn M9 = zn M + 2 → FrG (zn M) (zn M + 2) M M9 → zk M9 u = 9 → zl M9 u = tx.length → (∀ j, j < tx.length → zI M9 u j = nI (tx.getD j 0)) → zk M9 c = 17 → zI M9 c 1 = nI 0 → zk M9 c = 17 ∧ ∀ M10, M10 = sR M9 c 0 (some u) → P (some c) M10 := by
    intro u M9 hu n9 f9 y1 y2 y3 y4 y5
    refine ⟨y4, fun M10 hM => ?_⟩
    have f10 : FrG (zn M) (zn M + 2) M M10 := by subst hM; exact f9.trans (frg_R (by omega))
    have c0 : zR M10 c 0 = some u := by subst hM; exact zR_sR1 _ _ _ _
    refine K c M10 ⟨u, ⟨by subst hM; exact y4, c0, by subst hM; exact y5⟩, ⟨by subst hM; exact y1, by subst hM; exact y2⟩, by subst hM; exact y3, hk⟩ f10 (by omega) ⟨u, c0, by omega, ?_⟩ ?_ ⟨v, h.fr f10 (Nat.le_refl _)⟩
    · have : zn M10 = zn M9 := by subst hM; rfl
      omega
    · have : zn M10 = zn M9 := by subst hM; rfl
      omega
  have c81 : zI M8 c 1 = nI 0 := by subst hM8; exact zI_sI1 _ _ _ _
  unfold w_J7_copyOfRange_39247
  refine ifp rfl ⟨by rw [k8]; exact g1, ?_⟩
  by_cases q : tx.length = zl M1 v
  · refine ifp (by rw [l8, q]) ⟨by rw [k8]; exact g1, by rw [l8]; omega, by rw [l8]; exact fit, fun u M2 hu hM2 => ⟨?_, u, rfl, fin u M2 (by omega) (by subst hM2; show zn M8 + 1 = _; omega) ?_ ?_ ?_ (fun j hj => ?_) ?_ ?_⟩⟩
    · subst hM2; exact (if_pos hu).trans (by rw [k8]; exact g1)
    · refine f8.trans ⟨by subst hM2; show zn M8 ≤ zn M8 + 1; omega, fun b hb hn => ?_⟩
      have e : ¬ b = M8.1 := by have : zn M8 = M8.1 := rfl; omega
      subst hM2
      exact ⟨if_neg e, if_neg e, by funext j; exact if_neg e, by funext j; exact if_neg e, by funext j; exact if_neg e⟩
    · subst hM2; exact (if_pos hu).trans (by rw [k8]; exact g1)
    · subst hM2; exact (if_pos hu).trans (by rw [l8, q])
    · have e9 : zI M2 u j = zI M8 v j := by subst hM2; exact if_pos hu
      rw [e9, v8]; exact k2 j hj
    · have e : ¬ c = M8.1 := by have : zn M8 = M8.1 := rfl; omega
      subst hM2; exact (if_neg e).trans (by rw [k8]; exact kc)
    · have e : ¬ c = M8.1 := by have : zn M8 = M8.1 := rfl; omega
      subst hM2; exact (if_neg e).trans c81
  · refine ifn (by rw [l8, n_eqF q (by omega) (by omega)]; exact not_false) ?_
    have e0 : nI tx.length - (0 : Int32) = nI tx.length := by rw [l_0, n_sub (Nat.zero_le _), Nat.sub_zero]
    unfold w_J7_copyOfRangeByte_39247 w_J7_checkLength_df160
    refine ifp (nI_le (Nat.zero_le _) (by omega)) ?_
    rw [e0]
    refine ⟨by rw [l_0, n_ltF (by omega) (by omega)]; exact not_false, by rw [n_cl (by omega)]; omega, fun u M2 hu hM2 => ?_⟩
    rw [n_cl (by omega)] at hM2
    have vo : v ≠ zn M8 := by omega
    have kv : zk M2 v = 9 := by subst hM2; rw [kN_o vo, k8]; exact g1
    have lv : zl M2 v = zl M1 v := by subst hM2; rw [lN_o vo, l8]
    have iv : zI M2 v = zI M1 v := by subst hM2; rw [iN_o vo, v8]
    have ku : zk M2 u = 9 ∧ zl M2 u = tx.length := by subst hM2; exact ⟨kN_n hu, lN_n hu⟩
    have e1 : (if nI tx.length < nI (zl M2 v) - (0 : Int32) then nI tx.length else nI (zl M2 v) - (0 : Int32)) = nI tx.length := by
      rw [lv, l_0, n_sub (Nat.zero_le _), Nat.sub_zero, if_pos (nI_lt (by omega) (by omega))]
    rw [e1, n_cl (by omega), show (0 : Int32).toNatClampNeg = 0 from rfl]
    refine ⟨kv, kv, ku.1, by decide, by decide, by rw [l_0, n_ltF (by omega) (by omega)]; exact not_false, by rw [lv]; omega, by rw [ku.2]; omega, fun i hi => ?_, fun M3 hM3 => ⟨u, rfl, u, rfl, fin u M3 (by omega) ?_ ?_ ?_ ?_ (fun j hj => ?_) ?_ ?_⟩⟩
    · rw [iv, Nat.zero_add]; exact s0.fit (by omega)
    · subst hM3 hM2; show zn M8 + 1 = _; omega
    · have f2 : FrG (zn M) (zn M + 2) M M2 := by subst hM2; exact f8.trans frg_N
      refine f2.trans ⟨by subst hM3; exact Nat.le_refl _, fun b hb hn => ?_⟩
      subst hM3
      exact ⟨rfl, rfl, by funext j; exact if_neg (fun z => by omega), rfl, rfl⟩
    · subst hM3; exact ku.1
    · subst hM3; exact ku.2
    · have e3 : zI M3 u j = zI M2 v (0 + (j - 0)) := by subst hM3; exact if_pos ⟨rfl, by omega, by omega⟩
      rw [e3, Nat.zero_add, Nat.sub_zero, iv]; exact k2 j hj
    · have e : c ≠ zn M8 := by omega
      subst hM3
      show zk M2 c = 17
      subst hM2; rw [kN_o e, k8]; exact kc
    · have e : c ≠ zn M8 := by omega
      have e3 : zI M3 c 1 = zI M2 c 1 := by subst hM3; exact if_neg (fun z => by omega)
      rw [e3]
      subst hM2; rw [iN_o e]; exact c81
/-- a char of a String that was built -/
theorem s_charAt {c : Nat} {t : List Nat} (h : STr c t M) {j : Nat} (hj : j < t.length) (hl : t.length < 2 ^ 31) (P : Int32 → Mm → Prop) (K : P (nI (t.getD j 0)) M) : w_J0_charAt_5068e_AI M c (nI j) P := by
  obtain ⟨u, ⟨h1, h2, h3⟩, ⟨h4, h5⟩, h6, h7⟩ := h
  have k128 : t.getD j 0 < 128 := h7 _ (by
    rw [List.getD_eq_getElem?_getD, List.getElem?_eq_getElem hj]
    exact List.getElem_mem _)
  refine ⟨h1, h1, ifp h3 ⟨Or.inr rfl, ifn (by decide) ⟨h1, u, h2, h4, ?_⟩⟩⟩
  rw [h5]
  refine ⟨nI_pos (by omega), nI_lt hj hl, h4, by rw [h5]; exact vp_in_nI hj hl, ?_⟩
  rw [n_cl (by omega), h6 j hj, b255 _ k128]
  exact ⟨nar_c _ k128, nar_c _ k128, K⟩
theorem STr.fr {c lo hi : Nat} {t : List Nat} {M' : Mm} (h : STr c t M) (f : FrG lo hi M M') (hc : c < zn M) (hcl : ¬ (lo ≤ c ∧ c < hi)) (hu : ∀ u, zR M c 0 = some u → u < zn M ∧ ¬ (lo ≤ u ∧ u < hi)) : STr c t M' := by
  obtain ⟨u, ⟨h1, h2, h3⟩, ⟨h4, h5⟩, h6, h7⟩ := h
  obtain ⟨g1, g2⟩ := hu u h2
  obtain ⟨a1, a2, a3, -, a5⟩ := f.2 c hc hcl
  obtain ⟨b1, b2, b3, -, -⟩ := f.2 u g1 g2
  exact ⟨u, ⟨by rw [a1]; exact h1, by rw [a5]; exact h2, by rw [a3]; exact h3⟩, ⟨by rw [b1]; exact h4, by rw [b2]; exact h5⟩, by rw [b3]; exact h6, h7⟩
/-- twenty bytes are packed -/
theorem s_feeds_20 {c v k : Nat} {t : List Nat} (h : STr c t M) (hl : t.length ≤ 600) (hk : k ≤ 600) (hv : (zk M v = 10 ∧ zl M v = 5) ∧ v < zn M) (h0 : ∀ i, i < 5 → zI M v i = 0) (hcv : c < zn M ∧ c ≠ v ∧ ∀ u, zR M c 0 = some u → u < zn M ∧ u ≠ v) {B S1 b s x0 : Nat} {x2 : Int32} {P : Int32 → Mm → Prop} {K75 : Mm → Nat → Nat → Nat → Nat → Int32 → Int32 → Nat → Prop}
    (K : ∀ M', FrG v (v + 1) M M' → (zk M' v = 10 ∧ zl M' v = 5) → (∀ i, i < 5 → zI M' v i = pk4 (fun j => pad t (k + j)) i 4) → STr c t M' → K75 M' b s x0 c x2 (nI k) v) : ∃ n, l_L_feeds_AA_20 B S1 P K75 n M b s x0 c x2 (nI k) v (0 : Int32) := by
  obtain ⟨⟨k1, k2⟩, k3⟩ := hv
  obtain ⟨c1, c2, c3⟩ := hcv
  have hst : ∀ M', FrG v (v + 1) M M' → STr c t M' := fun M' f => h.fr f c1 (by omega) fun u hu => by have := c3 u hu; omega
  refine lpI (fun n (z : Mm × Int32) => l_L_feeds_AA_20 B S1 P K75 n z.1 b s x0 c x2 (nI k) v z.2) (fun j z => (FrG v (v + 1) M z.1 ∧ (zk z.1 v = 10 ∧ zl z.1 v = 5) ∧ ∀ i, i < 5 → zI z.1 v i = pk4 (fun j => pad t (k + j)) i (min (j - 4 * i) 4)) ∧ z.2 = nI j) 20 (fun n z hz => ?_) (fun n j z hj hz LL => ?_) (M, (0 : Int32)) ⟨⟨FrG.rf, ⟨k1, k2⟩, fun i hi => by rw [show min (0 - 4 * i) 4 = 0 by omega]; exact h0 i hi⟩, rfl⟩
  · obtain ⟨M1, x5⟩ := z
    obtain ⟨⟨w1, w2, w3⟩, e1⟩ := hz
    simp only at e1 w1 w2 w3
    subst e1
    show l_L_feeds_AA_20 B S1 P K75 (n + 1) M1 b s x0 c x2 (nI k) v (nI 20)
    rw [l_L_feeds_AA_20]
    refine ifp (by decide) (K M1 w1 w2 (fun i hi => ?_) (hst M1 w1))
    rw [w3 i hi, show min (20 - 4 * i) 4 = 4 by omega]
  · obtain ⟨M1, x5⟩ := z
    obtain ⟨⟨w1, w2, w3⟩, e1⟩ := hz
    simp only at e1 w1 w2 w3
    subst e1
    have s1 := hst M1 w1
    have d4 : nI j / (4 : Int32) = nI (j / 4) := n_div (d := 4) (by omega) (by omega) (by omega)
    have j5 : j / 4 < 5 := by omega
    have vp : vp_in (nI (j / 4)) (zl M1 v) := by rw [w2.2]; exact vp_in_nI j5 (by omega)
    have nxt : ∀ M2, M2 = sI M1 v (j / 4) ((zI M1 v (j / 4) <<< ((8 : Int32) &&& 31)) ||| nI (pad t (k + j))) → l_L_feeds_AA_20 B S1 P K75 n M2 b s x0 c x2 (nI k) v (nI j + (1 : Int32)) := by
      intro M2 hM
      refine LL (M2, _) ⟨⟨by subst hM; exact w1.trans (frg_I (by omega)), by subst hM; exact w2, fun i hi => ?_⟩, by show nI j + (1 : Int32) = nI (j + 1); rw [l_1, nI_add]⟩
      show zI M2 v i = _
      subst hM
      by_cases e : i = j / 4
      · subst e
        rw [zI_sI1, w3 _ hi]
        have ev : min (j + 1 - 4 * (j / 4)) 4 = min (j - 4 * (j / 4)) 4 + 1 := by omega
        have ej : 4 * (j / 4) + min (j - 4 * (j / 4)) 4 = j := by omega
        rw [ev, pk4_s, ej]
      · rw [zI_sI2 _ _ _ _ e, w3 i hi]
        congr 1
        omega
    show l_L_feeds_AA_20 B S1 P K75 (n + 1) M1 b s x0 c x2 (nI k) v (nI j)
    rw [l_L_feeds_AA_20]
    refine ifn (by rw [l_20, n_leF (by omega) (by omega)]; exact not_false) ⟨by decide, by decide, w2.1, by rw [d4]; exact vp, ?_, ?_⟩
    · obtain ⟨u, ⟨y1, -⟩, -⟩ := s1; exact y1
    rw [d4, nI_add]
    refine s_len_A s1 (by omega) _ ?_
    by_cases q : k + j < t.length
    · have ep : pad t (k + j) = t.getD (k + j) 0 := if_pos q
      refine ifn (by rw [n_leF q (by omega)]; exact not_false) ⟨?_, s_charAt s1 q (by omega) _ ⟨w2.1, vp, fun M2 hM => nxt M2 ?_⟩⟩
      · obtain ⟨u, ⟨y1, -⟩, -⟩ := s1; exact y1
      · rw [n_cl (by omega)] at hM; rw [ep]; exact hM
    · have ep : pad t (k + j) = 32 := if_neg q
      refine ifp (nI_le (by omega) (by omega)) ⟨w2.1, vp, fun M2 hM => nxt M2 ?_⟩
      rw [n_cl (by omega)] at hM; rw [ep]; exact hM
end FE
