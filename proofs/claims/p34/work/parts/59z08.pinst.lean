/-! PARSE: an instrument of a player's line, told by numbers -/
theorem nI_x (x : Int32) : nI x.toBitVec.toNat = x := by
  apply Int32.toBitVec_inj.mp
  show BitVec.ofNat 32 x.toBitVec.toNat = x.toBitVec
  apply BitVec.eq_of_toNat_eq
  rw [BitVec.toNat_ofNat]
  exact Nat.mod_eq_of_lt x.toBitVec.isLt
def instS (sg : Nat → Nat) (n j : Nat) : Nat → Nat := ups (ups (ups sg 4 (if j < sg 4 then sg 4 else sg 4 + 1)) (9 + 7 * n + 3 + oP sg n 2) j) (9 + 7 * n + 2) (oP sg n 2 + 1)
/-- the number of the instrument told at p: its own, or the next one -/
def nj (L : Nat) (bf : Nat → Int32) (p : Nat) (sg : Nat → Nat) (nm : Nat → List Nat) : Nat := nin (fun k => nm (24 + k)) (sg 4) (tW L bf p)
def instL (L : Nat) (bf : Nat → Int32) (n : Nat) : PS → Sum (Nat × Nat) PS
  | (p, sg, nm, ct, dt) => if tK L bf p = 1 then
      (if nj L bf p sg nm < sg 4 ∧ (kinds sg n).testBit (nj L bf p sg nm) = true then Sum.inl (2, tS L bf p)
       else if oP sg n 2 = 4 ∨ (¬ nj L bf p sg nm < sg 4 ∧ sg 4 = 8) then Sum.inl (5, tS L bf p)
       else Sum.inr (tN L bf p, instS sg n (nj L bf p sg nm), (if nj L bf p sg nm < sg 4 then nm else updN nm (24 + nj L bf p sg nm) (tW L bf p)), ct, dt))
    else Sum.inl (1, tS L bf p)
section PIP
variable {L p n t : Nat} {bf : Nat → Int32} {sg ct : Nat → Nat} {nm : Nat → List Nat} {dt : Bool}
theorem nj_le : nj L bf p sg nm ≤ sg 4 := fi_le _ _
theorem instS_4 (n j : Nat) : instS sg n j 4 = if j < sg 4 then sg 4 else sg 4 + 1 := by
  unfold instS
  rw [ups_o _ _ _ (by omega), ups_o _ _ _ (by omega), ups_1]
theorem instS_c (n j : Nat) : oP (instS sg n j) n 2 = oP sg n 2 + 1 := ups_1 _ _ _
theorem instS_j (n j : Nat) : oP (instS sg n j) n (3 + oP sg n 2) = j := by
  show instS sg n j (9 + 7 * n + (3 + oP sg n 2)) = j
  unfold instS
  rw [ups_o _ _ _ (by omega), show 9 + 7 * n + (3 + oP sg n 2) = 9 + 7 * n + 3 + oP sg n 2 by omega, ups_1]
theorem instS_o (n j : Nat) {k : Nat} (h1 : k ≠ 4) (h2 : k ≠ 9 + 7 * n + 2) (h3 : k ≠ 9 + 7 * n + 3 + oP sg n 2) : instS sg n j k = sg k := by
  unfold instS
  rw [ups_o _ _ _ h2, ups_o _ _ _ h3, ups_o _ _ _ h1]
theorem kinds_inst (n j : Nat) : kinds (instS sg n j) n = kinds sg n ||| 2 ^ j := by
  unfold kinds
  rw [instS_c, fo_s, instS_j]
  rw [fo_ext (h := fun k a => a ||| 2 ^ oP sg n (3 + k)) (N := oP sg n 2) (fun i a hi => by
    have e : oP (instS sg n j) n (3 + i) = oP sg n (3 + i) := instS_o n j (by omega) (by omega) (by omega)
    rw [e]) 0 _ (Nat.le_refl _)]
theorem kinds_insto {n j q : Nat} (h : q < n) (h4 : oP sg q 2 ≤ 4) : kinds (instS sg n j) q = kinds sg q := by
  unfold kinds
  rw [show oP (instS sg n j) q 2 = oP sg q 2 from instS_o n j (by omega) (by omega) (by omega)]
  exact fo_ext (N := oP sg q 2) (fun i a hi => by
    have e : oP (instS sg n j) q (3 + i) = oP sg q (3 + i) := instS_o n j (by omega) (by omega) (by omega)
    rw [e]) 0 _ (Nat.le_refl _)
theorem kinds_l8 {q : Nat} (h : ∀ j, j < oP sg q 2 → oP sg q (3 + j) < 8) : kinds sg q < 256 := by
  refine lt256 (n := 8) (Nat.le_refl 8) fun k t => ?_
  obtain ⟨i, h1, h2⟩ := (kinds_tb sg q k).mp t
  rw [← h2]; exact h i h1
/-- the bounds that an instrument of player n, the t-th, needs -/
def Iw (L n t : Nat) (s : PS) : Prop := match s with
  | (p, sg, nm, ct, dt) => p ≤ L ∧ sg 1 ≤ 3 ∧ sg 3 ≤ 5 ∧ sg 4 ≤ 8 ∧ sg 2 = n + 1 ∧ n < 8 ∧ oP sg n 2 = t ∧ t ≤ 4 ∧ (∀ j, j < t → oP sg n (3 + j) < 8) ∧ (∀ k, k < n → oP sg k 2 ≤ 4) ∧ ∀ k, k < sg 4 → NameOK (nm (24 + k))
/-- all bounds within a player's line -/
def Iok (L n t : Nat) (s : PS) : Prop := match s with
  | (p, sg, nm, ct, dt) => Iw L n t (p, sg, nm, ct, dt) ∧ SB (ups sg 2 n) ∧ (∀ k, k < n + 1 → ct k ≤ 40) ∧ (∀ k, k < sg 1 → NameOK (nm k)) ∧ (∀ k, k < n + 1 → NameOK (nm (8 + k))) ∧ (∀ k, k < sg 3 → NameOK (nm (16 + k))) ∧
    (∀ k, n + 1 ≤ k → k < 8 → oP sg k 1 = 0 ∧ oP sg k 2 = 0) ∧ ∀ w, sg 3 ≤ w → w < 5 → oW sg w 4 = 0
theorem instL_in {s2 : PS} (h : instL L bf n (p, sg, nm, ct, dt) = Sum.inr s2) : tK L bf p = 1 ∧ oP sg n 2 ≠ 4 ∧ (nj L bf p sg nm < sg 4 ∨ sg 4 ≠ 8) ∧ s2 = (tN L bf p, instS sg n (nj L bf p sg nm), (if nj L bf p sg nm < sg 4 then nm else updN nm (24 + nj L bf p sg nm) (tW L bf p)), ct, dt) := by
  simp only [instL] at h
  by_cases c1 : tK L bf p = 1
  · rw [if_pos c1] at h
    by_cases c2 : nj L bf p sg nm < sg 4 ∧ (kinds sg n).testBit (nj L bf p sg nm) = true
    · rw [if_pos c2] at h; cases h
    · rw [if_neg c2] at h
      by_cases c3 : oP sg n 2 = 4 ∨ (¬ nj L bf p sg nm < sg 4 ∧ sg 4 = 8)
      · rw [if_pos c3] at h; cases h
      · rw [if_neg c3] at h
        cases h
        exact ⟨c1, by omega, by omega, rfl⟩
  · rw [if_neg c1] at h; cases h
theorem instN (hby : ∀ i, i < L → (bf i).toInt8.toInt32 = bf i) (c1 : tK L bf p = 1) (h4 : ∀ k, k < sg 4 → NameOK (nm (24 + k))) : ∀ k, k < (if nj L bf p sg nm < sg 4 then sg 4 else sg 4 + 1) → NameOK ((if nj L bf p sg nm < sg 4 then nm else updN nm (24 + nj L bf p sg nm) (tW L bf p)) (24 + k)) := by
  intro k hk
  have l := nj_le (L := L) (bf := bf) (p := p) (sg := sg) (nm := nm)
  by_cases c : nj L bf p sg nm < sg 4
  · rw [if_pos c] at hk ⊢
    exact h4 k hk
  · rw [if_neg c] at hk ⊢
    by_cases e : k = nj L bf p sg nm
    · rw [show updN nm (24 + nj L bf p sg nm) (tW L bf p) (24 + k) = tW L bf p from if_pos (by omega)]
      exact tK_1 hby c1
    · rw [show updN nm (24 + nj L bf p sg nm) (tW L bf p) (24 + k) = nm (24 + k) from if_neg (by omega)]
      exact h4 k (by omega)
theorem instNo {k : Nat} (hk : k < 24) : (if nj L bf p sg nm < sg 4 then nm else updN nm (24 + nj L bf p sg nm) (tW L bf p)) k = nm k := by
  by_cases c : nj L bf p sg nm < sg 4
  · rw [if_pos c]
  · rw [if_neg c]; exact if_neg (by omega)
theorem instL_iw (hby : ∀ i, i < L → (bf i).toInt8.toInt32 = bf i) (h : Iw L n t (p, sg, nm, ct, dt)) {s2 : PS} (e : instL L bf n (p, sg, nm, ct, dt) = Sum.inr s2) : Iw L n (t + 1) s2 ∧ t < 4 := by
  obtain ⟨h1, h2, h3, h4, h5, h6, h7, h8, h9, h10, h11⟩ := h
  obtain ⟨e1, e2, e3, e4⟩ := instL_in e
  have l := nj_le (L := L) (bf := bf) (p := p) (sg := sg) (nm := nm)
  have N := instN (sg := sg) hby e1 h11
  subst e4
  obtain ⟨j, hj⟩ : ∃ j, nj L bf p sg nm = j := ⟨_, rfl⟩
  rw [hj] at l e3 N ⊢
  have s4 : instS sg n j 4 ≤ 8 := by rw [instS_4]; split <;> omega
  refine ⟨⟨tN_le L bf h1, ?_, ?_, s4, ?_, h6, ?_, by omega, fun k hk => ?_, fun k hk => ?_, ?_⟩, by omega⟩
  · rw [instS_o n j (by omega) (by omega) (by omega)]; exact h2
  · rw [instS_o n j (by omega) (by omega) (by omega)]; exact h3
  · rw [instS_o n j (by omega) (by omega) (by omega)]; exact h5
  · rw [instS_c]; omega
  · by_cases c : k = t
    · subst c
      rw [← h7, instS_j]; omega
    · rw [show oP (instS sg n j) n (3 + k) = oP sg n (3 + k) from instS_o n j (by omega) (by omega) (by omega)]
      exact h9 k (by omega)
  · rw [show oP (instS sg n j) k 2 = oP sg k 2 from instS_o n j (by omega) (by omega) (by omega)]
    exact h10 k hk
  · rw [instS_4]; exact N
theorem instL_ok (hby : ∀ i, i < L → (bf i).toInt8.toInt32 = bf i) (h : Iok L n t (p, sg, nm, ct, dt)) {s2 : PS} (e : instL L bf n (p, sg, nm, ct, dt) = Sum.inr s2) : Iok L n (t + 1) s2 := by
  obtain ⟨iw, sb, k1, k2, k3, k4, k5, k6⟩ := h
  have iw2 := (instL_iw hby iw e).1
  have t4 := (instL_iw hby iw e).2
  obtain ⟨h1, h2, h3, h4, h5, h6, h7, h8, h9, h10, h11⟩ := iw
  obtain ⟨e1, e2, e3, e4⟩ := instL_in e
  have l := nj_le (L := L) (bf := bf) (p := p) (sg := sg) (nm := nm)
  subst e4
  have No : ∀ k, k < 24 → (if nj L bf p sg nm < sg 4 then nm else updN nm (24 + nj L bf p sg nm) (tW L bf p)) k = nm k := fun k hk => instNo hk
  obtain ⟨j, hj⟩ : ∃ j, nj L bf p sg nm = j := ⟨_, rfl⟩
  rw [hj] at l e3 No iw2 ⊢
  obtain ⟨g1, g2, g3, g4⟩ := sb
  have u : ∀ (sg : Nat → Nat) k, k ≠ 2 → ups sg 2 n k = sg k := fun sg k hk => if_neg hk
  have s4 : instS sg n j 4 ≤ 8 := by rw [instS_4]; split <;> omega
  have o1 : instS sg n j 1 = sg 1 := instS_o n j (by omega) (by omega) (by omega)
  have o3 : instS sg n j 3 = sg 3 := instS_o n j (by omega) (by omega) (by omega)
  have oPe : ∀ q f, q ≠ n → f < 7 → oP (instS sg n j) q f = oP sg q f := fun q f h1 h2 => instS_o n j (by omega) (by omega) (by omega)
  have oWe : ∀ w f, oW (instS sg n j) w f = oW sg w f := fun w f => instS_o n j (by omega) (by omega) (by omega)
  have uW : ∀ (sg : Nat → Nat) w f, oW (ups sg 2 n) w f = oW sg w f := fun sg w f => if_neg (by omega)
  have uP : ∀ (sg : Nat → Nat) q f, oP (ups sg 2 n) q f = oP sg q f := fun sg q f => if_neg (by omega)
  rw [u sg 0 (by omega), u sg 1 (by omega), u sg 3 (by omega), u sg 4 (by omega), ups_1] at g1
  refine ⟨iw2, ⟨?_, fun k => ?_, fun w hw => ?_, fun q hq => ?_⟩, k1, ?_, fun k hk => ?_, ?_, fun k a b => ?_, ?_⟩
  · rw [u _ 0 (by omega), u _ 1 (by omega), u _ 3 (by omega), u _ 4 (by omega), ups_1, o1, o3, show instS sg n j 0 = sg 0 from instS_o n j (by omega) (by omega) (by omega)]
    exact ⟨g1.1, g1.2.1, g1.2.2.1, g1.2.2.2.1, g1.2.2.2.2.1, s4⟩
  · by_cases c2 : k = 2
    · subst c2; rw [ups_1]; omega
    · rw [u _ k c2]
      by_cases c4 : k = 4
      · subst c4; omega
      · by_cases c5 : k = 9 + 7 * n + 2
        · subst c5
          rw [show instS sg n j (9 + 7 * n + 2) = oP sg n 2 + 1 from instS_c n j]; omega
        · by_cases c6 : k = 9 + 7 * n + 3 + oP sg n 2
          · have := instS_j (sg := sg) n j
            rw [show instS sg n j k = oP (instS sg n j) n (3 + oP sg n 2) by rw [c6]; unfold oP; rw [Nat.add_assoc (9 + 7 * n)], this]
            omega
          · rw [instS_o n j c4 c5 c6]
            have := g2 k
            rw [u _ k c2] at this
            exact this
  · rw [u _ 3 (by omega), o3] at hw
    have := g3 w (by rw [u _ 3 (by omega)]; exact hw)
    simp only [uW, oWe] at this ⊢
    exact this
  · rw [ups_1] at hq
    have := g4 q (by rw [ups_1]; exact hq)
    simp only [uP] at this ⊢
    rw [oPe q 2 (by omega) (by omega)]
    refine ⟨this.1, this.2.1, fun i hi => ?_⟩
    rw [oPe q (3 + i) (by omega) (by omega)]
    exact this.2.2 i hi
  · rw [o1]
    intro k hk
    rw [No k (by omega)]; exact k2 k hk
  · rw [No _ (by omega)]; exact k3 k hk
  · rw [o3]
    intro k hk
    rw [No _ (by omega)]; exact k4 k hk
  · rw [oPe k 1 (by omega) (by omega), oPe k 2 (by omega) (by omega)]; exact k5 k a b
  · rw [o3]
    intro w a b
    rw [oWe]; exact k6 w a b
theorem Iok.ps (h : Iok L n t (p, sg, nm, ct, dt)) (ht : 1 ≤ t) : PSok (p, sg, nm, ct, dt) L := by
  obtain ⟨⟨h1, h2, h3, h4, h5, h6, h7, h8, h9, h10, h11⟩, ⟨g1, g2, g3, g4⟩, k1, k2, k3, k4, k5, k6⟩ := h
  have u : ∀ k, k ≠ 2 → ups sg 2 n k = sg k := fun k hk => if_neg hk
  have uW : ∀ w f, oW (ups sg 2 n) w f = oW sg w f := fun w f => if_neg (by omega)
  have uP : ∀ q f, oP (ups sg 2 n) q f = oP sg q f := fun q f => if_neg (by omega)
  rw [u 0 (by omega), u 1 (by omega), u 3 (by omega), u 4 (by omega), ups_1] at g1
  refine ⟨h1, ⟨⟨g1.1, g1.2.1, g1.2.2.1, by omega, g1.2.2.2.2.1, h4⟩, fun k => ?_, fun w hw => ?_, fun q hq => ?_⟩, ?_, k2, ?_, k4, h11, ?_, k6⟩
  · by_cases c : k = 2
    · subst c; omega
    · have := g2 k
      rw [u k c] at this; exact this
  · have := g3 w (by rw [u 3 (by omega)]; exact hw)
    simp only [uW] at this
    exact this
  · by_cases c : q = n
    · subst c
      exact ⟨by omega, by omega, fun i hi => h9 i (by omega)⟩
    · have := g4 q (by rw [ups_1]; omega)
      simp only [uP] at this
      exact this
  · rw [h5]; exact k1
  · rw [h5]; exact k3
  · rw [h5]; exact k5
/-- the instruments of a player's line -/
def instsL (L : Nat) (bf : Nat → Int32) (n : Nat) : Nat → PS → Sum (Nat × Nat) PS
  | 0, _ => Sum.inl (1, 0)
  | f + 1, s => match instL L bf n s with
    | Sum.inl e => Sum.inl e
    | Sum.inr s2 => if tK L bf s2.1 = 1 then instsL L bf n f s2 else Sum.inr s2
theorem instL_v (h : oP sg n 2 = 0) (v : Nat) : instL L bf n (p, ups sg (9 + 7 * n + 3) v, nm, ct, dt) = instL L bf n (p, sg, nm, ct, dt) := by
  have u4 : ups sg (9 + 7 * n + 3) v 4 = sg 4 := if_neg (by omega)
  have u2 : oP (ups sg (9 + 7 * n + 3) v) n 2 = oP sg n 2 := if_neg (by omega)
  have un : nj L bf p (ups sg (9 + 7 * n + 3) v) nm = nj L bf p sg nm := by unfold nj; rw [u4]
  have uk : kinds (ups sg (9 + 7 * n + 3) v) n = kinds sg n := by
    unfold kinds
    rw [u2, h]; rfl
  have us : ∀ j, instS (ups sg (9 + 7 * n + 3) v) n j = instS sg n j := fun j => by
    funext k
    unfold instS
    rw [u4, u2, h]
    unfold ups
    by_cases c1 : k = 9 + 7 * n + 2
    · rw [if_pos c1, if_pos c1]
    · rw [if_neg c1, if_neg c1]
      by_cases c2 : k = 9 + 7 * n + 3 + 0
      · rw [if_pos c2, if_pos c2]
      · rw [if_neg c2, if_neg c2, if_neg c2]
  simp only [instL, un, u4, u2, uk, us]
end PIP
