/-! THE JDK'S StringBuilder: texts, numbers, names, the String built -/
def tc (i : Nat) : List Nat := [[100, 97, 121, 115, 32], [104, 97, 108, 108, 32], [112, 108, 97, 121, 101, 114, 32], [119, 111, 114, 107, 32], [97, 98, 115, 101, 110, 116, 32], [100, 111, 117, 98, 108, 101, 32]].getD (i - 6) []
theorem tc_ok : ∀ i, i < 12 → 6 ≤ i → zLen.getD i 0 = (tc i).length ∧ (tc i).length ≤ 7 ∧ (∀ j, j < (tc i).length → (zByt.getD i []).getD j 0 = nI ((tc i).getD j 0)) ∧ ∀ k, k ∈ tc i → k < 128 := by decide +kernel
theorem narz : narrow .byte (.int (0 : Int32)) = .int (0 : Int32) := rfl
theorem narzz : narrow .byte (.int (nI 0)) = .int (nI 0) := rfl
/-- a String that was built -/
def STr (c : Nat) (tx : List Nat) (M : Mm) : Prop := ∃ u, (zk M c = 17 ∧ zR M c 0 = some u ∧ zI M c 1 = nI 0) ∧ (zk M u = 9 ∧ zl M u = tx.length) ∧ (∀ j, j < tx.length → zI M u j = nI (tx.getD j 0)) ∧ ∀ k, k ∈ tx → k < 128
section SB2
variable {a : Nat} {tx : List Nat} {M : Mm}
theorem s_len_S {i : Nat} (hi : i < 12) (h6 : 6 ≤ i) (P : Int32 → Mm → Prop) (K : P (nI (tc i).length) M) : w_J0_length_8abf5_S M i P := by
  obtain ⟨t1, t2, t3, t4⟩ := tc_ok i hi h6
  refine ⟨hi, hi, hi, hi, narz, ?_⟩
  show P (nI (zLen.getD i 0) >>> (nI 0 &&& 31)) M
  rw [sh0 (by omega), t1]
  exact K
/-- a constant -/
theorem s_appS (h : SBd a tx M) {i : Nat} (hi : i < 12) (h6 : 6 ≤ i) (hn : tx.length ≤ 600) (P : Option Nat → Mm → Prop) (K : ∀ M', SBd a (tx ++ tc i) M' → FrB a M M' → P (some a) M') : w_J4_append_15ec4_AS M a i P := by
  obtain ⟨v, h⟩ := h
  have h0 := h
  obtain ⟨⟨h1, h2, h3, h4⟩, -⟩ := h
  obtain ⟨t1, t2, t3, t4⟩ := tc_ok i hi h6
  unfold w_J4_append_15ec4_AS w_J5_append_cf1ce_AS
  refine ⟨h1, hi, s_len_S hi h6 _ ⟨h1, h1, ?_⟩⟩
  rw [h4, nI_add]
  refine s_ens h0 (by omega) _ fun M1 v1 s1 c1 f1 => ?_
  have s0 := s1
  obtain ⟨⟨h1, h2, h3, h4⟩, ⟨g1, g2, g3, g4, g5⟩, -, -⟩ := s1
  refine ⟨h1, h1, h1, ⟨h1, hi, hi, narz, ifp h3 ⟨h1, v1, h2, h1, hi, hi, hi, narz, ?_⟩⟩⟩
  rw [h3, h4, shl0, n_cl (show tx.length < 2 ^ 31 by omega), t1, n_cl (show (tc i).length < 2 ^ 31 by omega)]
  refine ifp rfl ⟨hi, hi, hi, hi, g1, by decide, by rw [l_0, n_ltF (by omega) (by omega)]; exact not_false, by rw [l_0, n_ltF (by omega) (by omega)]; exact not_false, by rw [show (0 : Int32).toNatClampNeg = 0 from rfl]; omega, by omega, fun M2 hM2 => ?_⟩
  rw [show (0 : Int32).toNatClampNeg = 0 from rfl] at hM2
  obtain ⟨q1, q2⟩ := s0.put (w := tc i) t4 (by omega) (M2 := M2) (by subst hM2; rfl) (by subst hM2; rfl) (by subst hM2; rfl) (by subst hM2; rfl) (by subst hM2; rfl) (fun b hb => by subst hM2; funext j; exact if_neg (fun q => hb q.1)) (fun j => by
    subst hM2
    show (if v1 = v1 ∧ tx.length ≤ j ∧ j < tx.length + (tc i).length then (zByt.getD i []).getD (0 + (j - tx.length)) 0 else zI M1 v1 j) = _
    by_cases q : tx.length ≤ j ∧ j < tx.length + (tc i).length
    · rw [if_pos ⟨rfl, q⟩, if_pos q, Nat.zero_add, t3 _ (by omega)]
    · rw [if_neg (fun z => q z.2), if_neg q])
  have k2 : zk M2 = zk M1 := by subst hM2; rfl
  have e3 : zI M2 a 3 = nI tx.length := by
    subst hM2
    show (if a = v1 ∧ tx.length ≤ 3 ∧ 3 < tx.length + (tc i).length then (zByt.getD i []).getD (0 + (3 - tx.length)) 0 else zI M1 a 3) = _
    rw [if_neg (by omega)]; exact h4
  refine ⟨by rw [k2]; exact h1, by rw [k2]; exact h1, fun M7 hM7 => ⟨a, rfl, ?_⟩⟩
  rw [e3, nI_add] at hM7
  subst hM7
  exact K _ ⟨v1, q1⟩ (f1.b.trans q2)
theorem s_len_A {c : Nat} {t : List Nat} (h : STr c t M) (hl : t.length < 2 ^ 31) (P : Int32 → Mm → Prop) (K : P (nI t.length) M) : w_J0_length_8abf5_A M c P := by
  obtain ⟨u, ⟨h1, h2, h3⟩, ⟨h4, h5⟩, -⟩ := h
  refine ⟨h1, u, h2, h4, h1, h1, by rw [h3]; exact narzz, ?_⟩
  rw [h3]
  show P (nI (zl M u) >>> (nI 0 &&& 31)) M
  rw [sh0 (by omega), h5]
  exact K
/-- a String that was built, behind the builder's cells -/
theorem s_appA (h : SBd a tx M) {c : Nat} {t : List Nat} (hs : STr c t M) (ht : t.length ≤ 20) (hn : tx.length ≤ 600) (hc : a < c) (hd : ∀ v, zR M a 0 = some v → ∀ u, zR M c 0 = some u → u < zn M ∧ u ≠ a ∧ u ≠ v) (hcz : c < zn M) (P : Option Nat → Mm → Prop) (K : ∀ M', SBd a (tx ++ t) M' → FrB a M M' → P (some a) M') : w_J4_append_15ec4_AA M a c P := by
  obtain ⟨v, h⟩ := h
  have h0 := h
  obtain ⟨⟨h1, h2, h3, h4⟩, -⟩ := h
  unfold w_J4_append_15ec4_AA w_J5_append_cf1ce_AA
  have hs0 := hs
  obtain ⟨u, ⟨y1, y2, y3⟩, ⟨y4, y5⟩, y6, y7⟩ := hs
  obtain ⟨d1, d2, d3⟩ := hd v h2 u y2
  refine ⟨h1, y1, s_len_A hs0 (by omega) _ ⟨h1, h1, ?_⟩⟩
  rw [h4, nI_add]
  refine s_ens h0 (by omega) _ fun M1 v1 s1 c1 f1 => ?_
  have s0 := s1
  obtain ⟨⟨h1, h2, h3, h4⟩, ⟨g1, g2, g3, g4, g5⟩, -, -⟩ := s1
  obtain ⟨m1, m2, m3, m4, m5⟩ := f1.2 c hcz (by omega)
  obtain ⟨n1, n2, n3, n4⟩ := f1.2 u d1 (by omega)
  refine ⟨h1, h1, h1, ⟨h1, by rw [m1]; exact y1, by rw [m1]; exact y1, by rw [m3, y3]; exact narzz, ifp (by rw [h3, m3, y3]) ⟨h1, v1, h2, h1, by rw [m1]; exact y1, by rw [m1]; exact y1, by rw [m1]; exact y1, by rw [m3, y3]; exact narzz, ?_⟩⟩⟩
  rw [h3, h4, m3, y3, shl0, n_cl (show tx.length < 2 ^ 31 by omega)]
  have lu : zl M1 u = t.length := by rw [n2]; exact y5
  refine ifp rfl ⟨by rw [m1]; exact y1, u, by rw [m5]; exact y2, by rw [m1]; exact y1, u, by rw [m5]; exact y2, by rw [n1]; exact y4, by rw [n1]; exact y4, g1, by decide, by rw [l_0, n_ltF (by omega) (by omega)]; exact not_false, by rw [lu, l_0, n_ltF (by omega) (by omega)]; exact not_false, by rw [lu, n_cl (by omega), show (0 : Int32).toNatClampNeg = 0 from rfl]; omega, by rw [lu, n_cl (by omega)]; omega, fun i hi => ?_, fun M2 hM2 => ?_⟩
  · rw [lu, n_cl (by omega)] at hi
    rw [n3, show (0 : Int32).toNatClampNeg = 0 from rfl, Nat.zero_add, y6 i hi]
    refine fit_b _ (y7 _ ?_)
    rw [List.getD_eq_getElem?_getD, List.getElem?_eq_getElem hi]
    exact List.getElem_mem _
  rw [lu, n_cl (by omega), show (0 : Int32).toNatClampNeg = 0 from rfl] at hM2
  obtain ⟨q1, q2⟩ := s0.put (w := t) y7 (by omega) (M2 := M2) (by subst hM2; rfl) (by subst hM2; rfl) (by subst hM2; rfl) (by subst hM2; rfl) (by subst hM2; rfl) (fun b hb => by subst hM2; funext j; exact if_neg (fun q => hb q.1)) (fun j => by
    subst hM2
    show (if v1 = v1 ∧ tx.length ≤ j ∧ j < tx.length + t.length then zI M1 u (0 + (j - tx.length)) else zI M1 v1 j) = _
    by_cases q : tx.length ≤ j ∧ j < tx.length + t.length
    · rw [if_pos ⟨rfl, q⟩, if_pos q, Nat.zero_add, n3, y6 _ (by omega)]
    · rw [if_neg (fun z => q z.2), if_neg q])
  have k2 : zk M2 = zk M1 := by subst hM2; rfl
  have e3 : zI M2 a 3 = nI tx.length := by
    subst hM2
    show (if a = v1 ∧ tx.length ≤ 3 ∧ 3 < tx.length + t.length then zI M1 u (0 + (3 - tx.length)) else zI M1 a 3) = _
    rw [if_neg (by omega)]; exact h4
  refine ⟨by rw [k2]; exact h1, by rw [k2]; exact h1, fun M7 hM7 => ⟨a, rfl, ?_⟩⟩
  rw [e3, nI_add] at hM7
  subst hM7
  exact K _ ⟨v1, q1⟩ (f1.b.trans q2)
/-- a name of one letter -/
theorem s_name {k : Nat} (hk : k < 20) (hz : a < zn M) (hs : SBd a tx M) (P : Option Nat → Mm → Prop) (K : ∀ c M', STr c [97 + k] M' → FrB a M M' → SBd a tx M' → a < c → c < zn M' → (∀ v, zR M' a 0 = some v → ∀ u, zR M' c 0 = some u → u < zn M' ∧ u ≠ a ∧ u ≠ v) → P (some c) M') : w_L_name M (nI k) P := by
  have e1 : (((97 : Int32) + nI k).toUInt32 % 65536).toInt32 = nI (97 + k) := (show ∀ k, k < 20 → (((97 : Int32) + nI k).toUInt32 % 65536).toInt32 = nI (97 + k) from by decide +kernel) k hk
  unfold w_L_name
  rw [e1]
  unfold w_J0_valueOf_756af w_J1_canEncode_fc78d
  refine ifn (by rw [l_255, n_ltF (by omega) (by omega)]; exact not_false) ⟨Or.inr rfl, ifn (by decide) fun c M3 hc hM3 => ⟨by decide, by decide, fun u M1 hu hM1 => ?_⟩⟩
  have n3 : zn M3 = zn M + 1 := by subst hM3; rfl
  have n1 : zn M1 = zn M + 2 := by subst hM1; show zn M3 + 1 = _; omega
  have f1 : FrB a M M1 := by
    refine ⟨by omega, fun b hb _ => ?_⟩
    have f : FrG (zn M) (zn M + 2) M M1 := by subst hM1 hM3; exact frg_N.trans frg_N
    exact f.2 b hb (by omega)
  have kc : zk M1 c = 17 := by subst hM1; rw [kN_o (by omega)]; subst hM3; exact kN_n hc
  have ku : zk M1 u = 9 ∧ zl M1 u = 1 := by subst hM1; exact ⟨kN_n hu, lN_n hu⟩
  refine ⟨ku.1, by rw [ku.2]; exact vp_in_nI (n := 0) (by omega) (by omega), fun M2 hM2 => ⟨u, rfl, ?_⟩⟩
  rw [nar_b (97 + k) (by omega), show (0 : Int32).toNatClampNeg = 0 from rfl] at hM2
  have uc : u ≠ c := by omega
  refine ⟨by subst hM2; exact kc, fun M4 hM4 => ⟨by subst hM4 hM2; exact kc, ⟨narz, rfl⟩, fun M5 hM5 => ⟨c, rfl, ?_⟩⟩⟩
  have fz : FrG (zn M) (zn M + 2) M M5 := by
    subst hM5 hM4 hM2 hM1 hM3
    exact (((frg_N.trans frg_N).trans (frg_I (by omega))).trans (frg_R (by omega))).trans (frg_I (by omega))
  obtain ⟨v, sv⟩ := hs
  have s5 := sv.fr fz (Nat.le_refl _)
  have v5 := sv.2.1.2.2.2.2
  have z5 : zn M5 = zn M + 2 := by subst hM5 hM4 hM2; exact n1
  have c0 : zR M5 c 0 = some u := by subst hM5 hM4; exact zR_sR1 _ _ _ _
  refine K c M5 ⟨u, ⟨by subst hM5 hM4 hM2; exact kc, c0, by subst hM5; exact zI_sI1 _ _ _ _⟩, ⟨by subst hM5 hM4 hM2; exact ku.1, by subst hM5 hM4 hM2; exact ku.2⟩, fun j hj => ?_, fun y hy => by rw [List.mem_singleton] at hy; omega⟩ (fz.nb (Nat.le_refl _)) ⟨v, s5⟩ (by omega) (by omega) (fun v2 hv2 u2 hu2 => ?_)
  · have j0 : j = 0 := Nat.lt_one_iff.mp hj
    subst j0 hM5
    rw [zI_sIo _ _ _ _ uc]
    subst hM4
    show zI M2 u 0 = _
    subst hM2
    exact zI_sI1 _ _ _ _
  · rw [c0] at hu2
    rw [s5.1.2.1] at hv2
    cases hu2
    cases hv2
    omega
/-- the digits of a number below 1000 -/
def dig (v : Nat) : List Nat := if v < 10 then [48 + v] else if v < 100 then [48 + v / 10, 48 + v % 10] else [48 + v / 100, 48 + v / 10 % 10, 48 + v % 10]
theorem dig_len {v : Nat} (h : v < 1000) : 1 ≤ (dig v).length ∧ (dig v).length ≤ 3 ∧ ∀ k, k ∈ dig v → k < 128 := by
  unfold dig
  split
  · exact ⟨Nat.le_refl 1, (by show 1 ≤ 3; omega), fun k hk => by rw [List.mem_singleton] at hk; omega⟩
  · split
    · exact ⟨(by show 1 ≤ 2; omega), (by show 2 ≤ 3; omega), fun k hk => by simp only [List.mem_cons, List.not_mem_nil, or_false] at hk; omega⟩
    · exact ⟨(by show 1 ≤ 3; omega), (by show 3 ≤ 3; omega), fun k hk => by simp only [List.mem_cons, List.not_mem_nil, or_false] at hk; omega⟩
theorem s_size {v : Nat} (hv : v < 1000) (P : Int32 → Mm → Prop) (K : P (nI (dig v).length) M) : w_J6_stringSize_0f7a4 M (nI v) P := by
  have c1 : ∀ v, v < 1000 → (-nI v ≤ (-10 : Int32) ↔ 10 ≤ v) ∧ (-nI v ≤ (10 : Int32) * (-10 : Int32) ↔ 100 ≤ v) ∧ ¬ (-nI v ≤ (10 : Int32) * ((10 : Int32) * (-10 : Int32))) := by decide +kernel
  obtain ⟨a1, a2, a3⟩ := c1 v hv
  unfold w_J6_stringSize_0f7a4
  refine ifn (nI_pos (by omega)) ⟨4, ?_⟩
  unfold dig at K
  rw [l_J6_stringSize_0f7a4_16]
  refine ifn (by decide) ?_
  by_cases q1 : v < 10
  · rw [if_pos q1] at K
    exact ifn (fun z => by have := a1.mp z; omega) K
  · rw [if_neg q1] at K
    refine ifp (a1.mpr (by omega)) ?_
    rw [l_J6_stringSize_0f7a4_16]
    refine ifn (by decide) ?_
    by_cases q2 : v < 100
    · rw [if_pos q2] at K
      exact ifn (fun z => by have := a2.mp z; omega) K
    · rw [if_neg q2] at K
      refine ifp (a2.mpr (by omega)) ?_
      rw [l_J6_stringSize_0f7a4_16]
      exact ifn (by decide) (ifn a3 K)
/-- the digits are laid from behind -/
theorem s_chars {v u n : Nat} (hv : v < 1000) (ku : zk M u = 9) (hn : n < 1000) (hc : n + (dig v).length ≤ zl M u) (hl : zl M u < 2 ^ 30) (P : Int32 → Mm → Prop) (K : ∀ r M2, zn M2 = zn M → zk M2 = zk M → zl M2 = zl M → zJ M2 = zJ M → zR M2 = zR M → (∀ b, b ≠ u → zI M2 b = zI M b) → (∀ j, zI M2 u j = if n ≤ j ∧ j < n + (dig v).length then nI ((dig v).getD (j - n) 0) else zI M u j) → P r M2) : w_J6_getChars_ba4f3 M (nI v) (nI (n + (dig v).length)) u P := by
  have c0 : ∀ v, v < 1000 → ((-100 : Int32) < -nI v ↔ v < 100) ∧ ((-9 : Int32) ≤ -nI v ↔ v < 10) ∧ -(-nI v) = nI v ∧ (100 ≤ v → (-nI v) / (100 : Int32) = -nI (v / 100) ∧ ((-nI v) / (100 : Int32) * (100 : Int32)) - (-nI v) = nI (v % 100)) := by decide +kernel
  have c1 : ∀ v, v < 1000 → ((-100 : Int32) < -nI v ↔ v < 100) ∧ ((-9 : Int32) ≤ -nI v ↔ v < 10) ∧ (-(-nI v)).toNatClampNeg = v ∧ (v < 100 → vp_in (-(-nI v)) 100) ∧ (100 ≤ v → (-nI v) / (100 : Int32) = -nI (v / 100) ∧ vp_in (((-nI v) / (100 : Int32) * (100 : Int32)) - (-nI v)) 100 ∧ (((-nI v) / (100 : Int32) * (100 : Int32)) - (-nI v)).toNatClampNeg = v % 100) := fun v hv => by
    obtain ⟨y1, y2, y3, y4⟩ := c0 v hv
    have r100 : v % 100 < 100 := Nat.mod_lt _ (by omega)
    refine ⟨y1, y2, by rw [y3, n_cl (by omega)], fun h => by rw [y3]; exact vp_in_nI h (by omega), fun h => ?_⟩
    obtain ⟨x1, x2⟩ := y4 h
    exact ⟨x1, by rw [x2]; exact vp_in_nI r100 (by omega), by rw [x2, n_cl (by omega)]⟩
  have cd : ∀ r, r < 100 → vp_nar .byte (zDig true r) = nI (48 + r % 10) ∧ vp_nar .byte (zDig false r) = nI (48 + r / 10) := by decide +kernel
  obtain ⟨a1, a2, a3, a4, a5⟩ := c1 v hv
  have m1 : ∀ k, nI (k + 1) + (-1 : Int32) = nI k := fun k => by rw [x_m1, n_sub (by omega)]; rfl
  unfold w_J6_getChars_ba4f3
  refine ifp (nI_le (Nat.zero_le _) (by omega)) ?_
  unfold dig at K hc ⊢
  by_cases q1 : v < 10
  · rw [if_pos q1] at K hc ⊢
    refine ⟨1, ?_⟩
    rw [l_J6_getChars_ba4f3_22]
    refine ifp (a1.mpr (by omega)) ⟨a4 (by omega), ku, ?_, fun M7 hM7 => ?_⟩
    · rw [show n + [48 + v].length = n + 1 from rfl, m1]; exact vp_in_nI (by have : [48 + v].length = 1 := rfl; omega) (by omega)
    rw [show n + [48 + v].length = n + 1 from rfl, m1, n_cl (by omega), a3, (cd v (by omega)).1] at hM7
    refine ifp (a2.mpr q1) (ifp rfl ?_)
    subst hM7
    refine K _ _ rfl rfl rfl rfl rfl (fun b hb => zI_sIo _ _ _ _ hb) fun j => ?_
    by_cases e : j = n
    · rw [e, zI_sI1, if_pos ⟨Nat.le_refl _, Nat.lt_succ_self _⟩, Nat.sub_self, Nat.mod_eq_of_lt q1]; rfl
    · rw [zI_sI2 _ _ _ _ e, if_neg (by rw [List.length_singleton]; omega)]
  · rw [if_neg q1] at K hc ⊢
    by_cases q2 : v < 100
    · rw [if_pos q2] at K hc ⊢
      have hc2 : n + 2 ≤ zl M u := hc
      refine ⟨1, ?_⟩
      rw [l_J6_getChars_ba4f3_22]
      refine ifp (a1.mpr (by omega)) ⟨a4 (by omega), ku, ?_, fun M7 hM7 => ?_⟩
      · rw [show n + [48 + v / 10, 48 + v % 10].length = n + 1 + 1 from rfl, m1]; exact vp_in_nI (by omega) (by omega)
      rw [show n + [48 + v / 10, 48 + v % 10].length = n + 1 + 1 from rfl, m1, n_cl (by omega), a3, (cd v (by omega)).1] at hM7
      refine ifn (fun z => q1 (a2.mp z)) ⟨a4 (by omega), by subst hM7; exact ku, ?_, fun M10 hM10 => ?_⟩
      · rw [show n + [48 + v / 10, 48 + v % 10].length = n + 1 + 1 from rfl, m1, m1]
        subst hM7
        show vp_in _ (zl M u)
        exact vp_in_nI (by omega) (by omega)
      rw [show n + [48 + v / 10, 48 + v % 10].length = n + 1 + 1 from rfl, m1, m1, n_cl (by omega), a3, (cd v (by omega)).2] at hM10
      refine ifp rfl ?_
      subst hM10 hM7
      refine K _ _ rfl rfl rfl rfl rfl (fun b hb => by rw [zI_sIo _ _ _ _ hb, zI_sIo _ _ _ _ hb]) fun j => ?_
      by_cases e : j = n
      · rw [e, zI_sI1, if_pos ⟨Nat.le_refl _, by show n < n + 2; omega⟩, Nat.sub_self]; rfl
      · rw [zI_sI2 _ _ _ _ e]
        by_cases e2 : j = n + 1
        · rw [e2, zI_sI1, if_pos ⟨by omega, by show n + 1 < n + 2; omega⟩, Nat.add_sub_cancel_left]; rfl
        · rw [zI_sI2 _ _ _ _ e2, if_neg (by show ¬ (n ≤ j ∧ j < n + 2); omega)]
    · rw [if_neg q2] at K hc ⊢
      have hc2 : n + 3 ≤ zl M u := hc
      obtain ⟨b1, b2, b3⟩ := a5 (by omega)
      have hv2 : v / 100 < 10 := by omega
      obtain ⟨d1, d2, d3, d4, -⟩ := c1 (v / 100) (by omega)
      have r100 : v % 100 < 100 := Nat.mod_lt _ (by omega)
      refine ⟨2, ?_⟩
      rw [l_J6_getChars_ba4f3_22]
      refine ifn (fun z => q2 (a1.mp z)) ⟨by decide, b2, ku, ?_, fun M2 hM2 => ?_⟩
      · rw [show n + [48 + v / 100, 48 + v / 10 % 10, 48 + v % 10].length = n + 2 + 1 from rfl, m1]; exact vp_in_nI (by omega) (by omega)
      rw [show n + [48 + v / 100, 48 + v / 10 % 10, 48 + v % 10].length = n + 1 + 1 + 1 from rfl, m1, n_cl (by omega), b3, (cd _ r100).1] at hM2
      refine ⟨b2, by subst hM2; exact ku, ?_, fun M4 hM4 => ?_⟩
      · rw [show n + [48 + v / 100, 48 + v / 10 % 10, 48 + v % 10].length = n + 1 + 1 + 1 from rfl, m1, m1]
        subst hM2
        show vp_in _ (zl M u)
        exact vp_in_nI (by omega) (by omega)
      rw [show n + [48 + v / 100, 48 + v / 10 % 10, 48 + v % 10].length = n + 1 + 1 + 1 from rfl, m1, m1, n_cl (by omega), b3, (cd _ r100).2] at hM4
      rw [show n + [48 + v / 100, 48 + v / 10 % 10, 48 + v % 10].length = n + 1 + 1 + 1 from rfl, m1, m1, b1, l_J6_getChars_ba4f3_22]
      refine ifp (d1.mpr (by omega)) ⟨d4 (by omega), by subst hM4 hM2; exact ku, ?_, fun M7 hM7 => ?_⟩
      · rw [m1]
        subst hM4 hM2
        show vp_in _ (zl M u)
        exact vp_in_nI (by omega) (by omega)
      rw [m1, n_cl (by omega), d3, (cd _ (by omega)).1] at hM7
      refine ifp (d2.mpr hv2) (ifp rfl ?_)
      subst hM7 hM4 hM2
      refine K _ _ rfl rfl rfl rfl rfl (fun b hb => by rw [zI_sIo _ _ _ _ hb, zI_sIo _ _ _ _ hb, zI_sIo _ _ _ _ hb]) fun j => ?_
      by_cases e : j = n
      · rw [e, zI_sI1, if_pos ⟨Nat.le_refl _, by show n < n + 3; omega⟩, Nat.sub_self, Nat.mod_eq_of_lt hv2]; rfl
      · rw [zI_sI2 _ _ _ _ e]
        by_cases e2 : j = n + 1
        · rw [e2, zI_sI1, if_pos ⟨by omega, by show n + 1 < n + 3; omega⟩, Nat.add_sub_cancel_left]
          show nI (48 + v % 100 / 10) = nI (48 + v / 10 % 10)
          congr 1; omega
        · rw [zI_sI2 _ _ _ _ e2]
          by_cases e3 : j = n + 1 + 1
          · rw [e3, zI_sI1, if_pos ⟨by omega, by show n + 1 + 1 < n + 3; omega⟩, show n + 1 + 1 - n = 2 by omega]
            show nI (48 + v % 100 % 10) = nI (48 + v % 10)
            congr 1; omega
          · rw [zI_sI2 _ _ _ _ e3, if_neg (by show ¬ (n ≤ j ∧ j < n + 3); omega)]
/-- a number -/
theorem s_appI (h : SBd a tx M) {k : Nat} (hk : k < 1000) (hn : tx.length ≤ 600) (P : Option Nat → Mm → Prop) (K : ∀ M', SBd a (tx ++ dig k) M' → FrB a M M' → P (some a) M') : w_J4_append_bf812 M a (nI k) P := by
  obtain ⟨v, h⟩ := h
  have h0 := h
  obtain ⟨⟨h1, h2, h3, h4⟩, -⟩ := h
  obtain ⟨l1, l2, l3⟩ := dig_len hk
  unfold w_J4_append_bf812 w_J5_append_c97b9
  refine ⟨h1, h1, s_size hk _ ⟨h1, ?_⟩⟩
  rw [h4, nI_add]
  refine s_ens h0 (by omega) _ fun M1 v1 s1 c1 f1 => ?_
  have s0 := s1
  obtain ⟨⟨h1, h2, h3, h4⟩, ⟨g1, g2, g3, g4, g5⟩, -, -⟩ := s1
  unfold w_J5_isLatin1_aae02
  refine ⟨h1, h1, ifp h3 ⟨Or.inr rfl, ifn (by decide) ⟨h1, v1, h2, s_chars hk g1 (by omega) (by omega) (by omega) _ fun r M2 z2 k2 l2 j2 r2 i2 i3 => ?_⟩⟩⟩
  obtain ⟨q1, q2⟩ := s0.put (w := dig k) l3 (by omega) z2 k2 l2 j2 r2 i2 i3
  refine ⟨by rw [k2]; exact h1, fun M8 hM8 => ⟨a, rfl, ?_⟩⟩
  subst hM8
  exact K _ ⟨v1, q1⟩ (f1.b.trans q2)
end SB2
