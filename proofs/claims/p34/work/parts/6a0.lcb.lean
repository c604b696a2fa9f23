/-! THE ROOM: what a step costs at most -/
section CB
variable {sg pl : Nat → Nat}
theorem su_le {f g : Nat → Nat} : ∀ {n}, (∀ i, i < n → f i ≤ g i) → su f n ≤ su g n
  | 0, _ => Nat.le_refl _
  | n + 1, h => by
    rw [su_s, su_s]
    exact Nat.add_le_add (su_le fun i hi => h i (by omega)) (h n (by omega))
theorem su_ex {f : Nat → Nat} : ∀ {n}, su f n ≠ 0 → ∃ i, i < n ∧ f i ≠ 0
  | 0, h => absurd rfl h
  | n + 1, h => by
    rw [su_s] at h
    by_cases c : f n = 0
    · obtain ⟨i, h1, h2⟩ := su_ex (n := n) (f := f) (by omega)
      exact ⟨i, by omega, h2⟩
    · exact ⟨n, by omega, c⟩
theorem su_0 {f : Nat → Nat} {n : Nat} (h : ∀ i, i < n → f i = 0) : su f n = 0 := by
  by_cases c : su f n = 0
  · exact c
  · obtain ⟨i, h1, h2⟩ := su_ex c
    exact absurd (h i h1) h2
/-- who has a cast, counted, has one -/
theorem nc_dm (sg : Nat → Nat) (w : Nat) : ∀ r F, r ≤ 99 → nc sg w r F ≠ 0 → dm sg w r F < 100
  | 0, F, _, _ => by rw [dm]; omega
  | r + 1, F, hr, h => by
    rw [nc] at h
    obtain ⟨p, hp, h2⟩ := su_ex h
    by_cases e : F.testBit p = true ∧ (kinds sg p).testBit (kr sg w r) = true
    · rw [if_pos e] at h2
      have ih := nc_dm sg w r _ (by omega) h2
      have d1 := dm_01 sg w r (rm F (2 ^ p)) (by omega)
      have d2 := dbo_le sg p (kr sg w r)
      have d3 := dk_low sg w r F (sg 2) p hp e
      have d4 : co sg w r F p = dbo sg p (kr sg w r) + dm sg w r (rm F (2 ^ p)) := rfl
      rw [dm_s]
      omega
    · rw [if_neg e] at h2
      exact absurd rfl h2
/-- no more casts than this -/
def KBn (sg K : Nat → Nat) : Prop := ∀ w, w < sg 3 → oW sg w 4 ≤ 99 ∧ ∀ F, nc sg w (oW sg w 4) F ≤ K w
/-- no more casts of the one while the other has none -/
def MBn (sg : Nat → Nat) (M : Nat → Nat → Nat) : Prop := ∀ a c, a < c → c < sg 3 → ∀ F, ¬ dm sg c (oW sg c 4) F < 100 → nc sg a (oW sg a 4) F ≤ M a c
def gS (sg K : Nat → Nat) (S : Nat) : Nat := su (fun w => if S.testBit w = true then 1 + K w else 0) (sg 3)
theorem cW_le {K : Nat → Nat} (h : KBn sg K) {S t b n : Nat} (hS : S.testBit (sg 3) = false) (hn : n ≤ sg 3 + 1) : cW sg pl S t b n ≤ gS sg K S := by
  have key : cW sg pl S t b (sg 3) ≤ gS sg K S := su_le fun w hw => by
    by_cases c : S.testBit w = true
    · rw [if_pos c, if_pos c]
      exact Nat.add_le_add_left ((h w hw).2 _) 1
    · rw [if_neg c, if_neg c]; exact Nat.le_refl _
  rcases Nat.lt_or_ge n (sg 3 + 1) with c | c
  · exact Nat.le_trans (su_mono (by omega)) key
  · have e : n = sg 3 + 1 := by omega
    rw [e, cW_s, hS, if_neg (by decide)]
    exact key
theorem fw_le (sg : Nat → Nat) (S F : Nat) : fw sg S F ≤ sg 3 := fi_le _ _
theorem whyC_le {K : Nat → Nat} (h : KBn sg K) {ha t S c b : Nat} (hS : S.testBit (sg 3) = false) : whyC sg pl ha t S c b ≤ gS sg K S := by
  have f := fw_le sg S (free sg (plb pl b) t)
  have q := cW_le (pl := pl) (t := t) (b := b) h hS (show fw sg S (free sg (plb pl b) t) + 1 ≤ sg 3 + 1 by omega)
  unfold whyC
  split
  · exact Nat.zero_le _
  · split
    · exact Nat.zero_le _
    · split
      · exact Nat.zero_le _
      · split
        · exact Nat.zero_le _
        · exact q
/-- what a search costs that fails -/
def FBn (sg : Nat → Nat) (S f : Nat) : Prop := ∀ F, fw sg S F < sg 3 → su (fun w => if S.testBit w = true then 1 + nc sg w (oW sg w 4) F else 0) (fw sg S F + 1) ≤ f
theorem whyC_f {ha t S c b f : Nat} (hf : FBn sg S f) (h : whyN sg (plb pl b) ha t S c ≠ 0) : whyC sg pl ha t S c b ≤ f := by
  unfold whyN at h
  unfold whyC
  by_cases c1 : plb pl b 0 = 20
  · rw [if_pos c1]; exact Nat.zero_le _
  rw [if_neg c1] at h ⊢
  by_cases c2 : ¬ rented sg S (t / 3) = true
  · rw [if_pos c2]; exact Nat.zero_le _
  rw [if_neg c2] at h ⊢
  by_cases c3 : ¬ hFree (plb pl b) ha t (sg (6 + ha)) = true
  · rw [if_pos c3]; exact Nat.zero_le _
  rw [if_neg c3] at h ⊢
  by_cases c4 : c = 1 ∧ ¬ ready sg (plb pl b) S t = true
  · rw [if_pos c4]; exact Nat.zero_le _
  rw [if_neg c4] at h ⊢
  by_cases c5 : hasC sg S (free sg (plb pl b) t) = true
  · rw [if_pos c5] at h; exact absurd rfl h
  · rw [hasC_fw, decide_eq_true_eq] at c5
    have l := fw_le sg S (free sg (plb pl b) t)
    exact hf _ (by omega)
theorem whyC_r {ha t S c b : Nat} (h : ¬ rented sg S (t / 3) = true) : whyC sg pl ha t S c b = 0 := by
  unfold whyC
  by_cases c1 : plb pl b 0 = 20
  · rw [if_pos c1]
  · rw [if_neg c1, if_pos h]
theorem plb_noK (h : pl 0 ≤ 20) : plb pl 4294967295 = pl := by
  unfold plb
  rw [if_neg (by omega)]
/-- the earliest slot is looked for: f for a slot that fails, g at the end -/
theorem eaC_le {K : Nat → Nat} (h : KBn sg K) (hp : pl 0 ≤ 20) {ha S c t f : Nat} (hS : S.testBit (sg 3) = false) (hf : FBn sg S f) : eaC sg pl ha S c t ≤ (sg 0 * 3 - t) * f ∨ (eaC sg pl ha S c t ≤ (sg 0 * 3 - t - 1) * f + gS sg K S ∧ 1 ≤ sg 0 * 3 - t) := by
  have le : eaF sg pl ha S c t ≤ sg 0 * 3 - t := fi_le _ _
  have key : ∀ n, n ≤ eaF sg pl ha S c t → su (fun k => if k < sg 0 * 3 - t then whyC sg pl ha (t + k) S c 4294967295 else 0) n ≤ n * f := by
    intro n
    induction n with
    | zero => exact fun _ => Nat.zero_le _
    | succ n ih =>
      intro hn
      have q := ih (by omega)
      have no := fi_no _ (sg 0 * 3 - t) n (show n < eaF sg pl ha S c t by omega)
      have no : ¬ whyN sg pl ha (t + n) S c = 0 := of_decide_eq_false no
      rw [su_s, if_pos (by omega), Nat.succ_mul]
      refine Nat.add_le_add q (whyC_f hf ?_)
      rw [plb_noK hp]; exact no
  have k1 := key _ (Nat.le_refl _)
  have e : eaC sg pl ha S c t = su (fun k => if k < sg 0 * 3 - t then whyC sg pl ha (t + k) S c 4294967295 else 0) (eaF sg pl ha S c t) + (if eaF sg pl ha S c t < sg 0 * 3 - t then whyC sg pl ha (t + eaF sg pl ha S c t) S c 4294967295 else 0) := rfl
  rw [e]
  by_cases c1 : eaF sg pl ha S c t < sg 0 * 3 - t
  · rw [if_pos c1]
    refine Or.inr ⟨Nat.add_le_add (Nat.le_trans k1 (Nat.mul_le_mul_right _ (by omega))) (whyC_le h hS), by omega⟩
  · rw [if_neg c1, Nat.add_zero]
    exact Or.inl (Nat.le_trans k1 (Nat.mul_le_mul_right _ le))
theorem comC_le {K : Nat → Nat} (h : KBn sg K) {t S : Nat} (hS : S.testBit (sg 3) = false) : comC sg pl t S ≤ 2 + gS sg K S := Nat.add_le_add_left (cW_le h hS (by omega)) 2
theorem ncs_le {K : Nat → Nat} (h : KBn sg K) {w t b : Nat} (hw : w < sg 3) : ncs sg pl w t b ≤ 1 + K w := Nat.add_le_add_left ((h w hw).2 _) 1
/-- a question -/
def mxA (f g : Nat) : Nat := if 3 * g + 2 < 21 * f + g then (if 21 * f + g < 22 * f then 22 * f else 21 * f + g) else (if 3 * g + 2 < 22 * f then 22 * f else 3 * g + 2)
theorem mxA_le (f g : Nat) : 3 * g + 2 ≤ mxA f g ∧ 21 * f + g ≤ mxA f g ∧ 22 * f ≤ mxA f g := by
  unfold mxA
  split <;> split <;> omega
theorem askC_le {K : Nat → Nat} (h : KBn sg K) (hp : pl 0 ≤ 20) (h7 : sg 0 ≤ 7) {ha t S c w f : Nat} (hS : S.testBit (sg 3) = false) (hf : FBn sg S f) (hw : w < sg 3) (ht : t < sg 0 * 3) : askC sg pl ha t S c w ≤ mxA f (gS sg K S) + 1 + K w := by
  have m := mxA_le f (gS sg K S)
  have n := ncs_le (pl := pl) (t := t) (b := 4294967295) h hw
  have w1 := whyC_le (pl := pl) (ha := ha) (t := t) (c := c) (b := 4294967295) h hS
  have c1 := comC_le (pl := pl) (t := t) h hS
  generalize hg : gS sg K S = g at m w1 c1 ⊢
  have ae : askC sg pl ha t S c w = whyC sg pl ha t S c 4294967295 + eaC sg pl ha S c t + (if whyN sg pl ha t S c = 0 then comC sg pl t S else 0) + ncs sg pl w t 4294967295 := rfl
  rw [ae]
  by_cases z : whyN sg pl ha t S c = 0
  · rw [if_pos z]
    have f0 : eaF sg pl ha S c t = 0 := by
      have q := fi_eq (p := fun k => decide (whyN sg pl ha (t + k) S c = 0)) (n := sg 0 * 3 - t) (k := 0) (by omega) (decide_eq_true z) fun j hj => absurd hj (Nat.not_lt_zero _)
      exact q
    have e : eaC sg pl ha S c t ≤ g := by
      unfold eaC
      rw [f0]
      show 0 + (if 0 < sg 0 * 3 - t then whyC sg pl ha (t + 0) S c 4294967295 else 0) ≤ g
      rw [Nat.zero_add, Nat.add_zero]
      split
      · exact w1
      · exact Nat.zero_le _
    omega
  · rw [if_neg z]
    have w2 := whyC_f (pl := pl) (b := 4294967295) hf (by rw [plb_noK hp]; exact z)
    have e := eaC_le (pl := pl) (ha := ha) (c := c) (t := t) h hp hS hf
    rw [hg] at e
    rcases e with e | ⟨e, -⟩
    · have q : (sg 0 * 3 - t) * f ≤ 21 * f := Nat.mul_le_mul_right _ (by omega)
      omega
    · have q : (sg 0 * 3 - t - 1) * f ≤ 20 * f := Nat.mul_le_mul_right _ (by omega)
      omega
/-- a rehearsal or concert, a move -/
theorem cmC_le {K : Nat → Nat} (h : KBn sg K) {ha t S c : Nat} (hS : S.testBit (sg 3) = false) : cmC sg pl ha t S c ≤ 2 * gS sg K S + 2 := by
  have w1 := whyC_le (pl := pl) (ha := ha) (t := t) (c := c) (b := 4294967295) h hS
  have c1 := comC_le (pl := pl) (t := t) h hS
  unfold cmC
  split <;> omega
theorem mvC_le {K : Nat → Nat} (h : KBn sg K) {s t : Nat} (hS : (oS pl s 3).testBit (sg 3) = false) : mvC sg pl s t ≤ 2 * gS sg K (oS pl s 3) + 2 := by
  have w1 := whyC_le (pl := pl) (ha := oS pl s 1) (t := t) (c := oS pl s 2) (b := s) h hS
  have c1 := comC_le (pl := off pl s) (t := t) h hS
  unfold mvC
  split <;> omega
end CB
