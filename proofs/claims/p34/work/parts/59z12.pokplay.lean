/-! PARSE: what the line of a player keeps within bounds; lines go on -/
theorem tS_ge (L : Nat) (bf : Nat → Int32) (p : Nat) : p ≤ tS L bf p := Nat.le_add_right _ _
theorem run_pos (f : Nat → Bool) (hf : f 4294967295 = false) (L : Nat) (bf : Nat → Int32) (p : Nat) (h : f (bt L bf p) = true) : 1 ≤ run f L bf p := by
  by_cases c : run f L bf p = 0
  · have w := run_no f hf L bf p
    rw [c, Nat.add_zero, h] at w
    cases w
  · omega
theorem lt_m : lt 4294967295 = false := by decide
theorem tN_ge (L : Nat) (bf : Nat → Int32) (p : Nat) : p ≤ tN L bf p := by
  have h := tS_ge L bf p
  unfold tN
  by_cases c1 : L ≤ tS L bf p
  · rw [if_pos c1]; exact h
  · rw [if_neg c1]
    by_cases c2 : lt (bt L bf (tS L bf p)) = true
    · rw [if_pos c2]; omega
    · rw [if_neg c2]
      by_cases c3 : dgt (bt L bf (tS L bf p)) = true
      · rw [if_pos c3]; omega
      · rw [if_neg c3]; omega
theorem tN_gt {L : Nat} {bf : Nat → Int32} {p : Nat} (k : tK L bf p ≠ 0) : p < tN L bf p := by
  have h := tS_ge L bf p
  unfold tK at k
  unfold tN
  by_cases c1 : L ≤ tS L bf p
  · rw [if_pos c1] at k; exact absurd rfl k
  · rw [if_neg c1]
    by_cases c2 : lt (bt L bf (tS L bf p)) = true
    · have := run_pos lt lt_m L bf (tS L bf p) c2
      rw [if_pos c2]; omega
    · rw [if_neg c2]
      by_cases c3 : dgt (bt L bf (tS L bf p)) = true
      · have := run_pos dgt dgt_m L bf (tS L bf p) c3
        rw [if_pos c3]; omega
      · rw [if_neg c3]; omega
section POP
variable {L p n t : Nat} {bf : Nat → Int32} {sg ct : Nat → Nat} {nm : Nat → List Nat} {dt : Bool}
theorem playS_ok (ok : PSok (p, sg, nm, ct, dt) L) {p2 fee cv : Nat} {w : List Nat} (hp2 : p2 ≤ L) (h8 : sg 2 < 8) (hw : NameOK w) (hf : fee ≤ 999) (hc : cv ≤ 40) : Iok L (sg 2) 0 (p2, playS sg fee, updN nm (8 + sg 2) w, ups ct (sg 2) cv, dt) := by
  obtain ⟨hp, sb, hct2, n1, n2, n3, n4, g1, g2⟩ := ok
  have b := sb.1
  have gn := g1 (sg 2) (Nat.le_refl _) h8
  have o_ : ∀ k, k ≠ 2 → k ≠ 9 + 7 * sg 2 → playS sg fee k = sg k := fun k h1 h2 => playS_o sg fee h1 h2
  have oPe : ∀ q f, q ≠ sg 2 → f < 7 → oP (playS sg fee) q f = oP sg q f := fun q f h1 h2 => o_ _ (by omega) (by omega)
  have oWe : ∀ w f, oW (playS sg fee) w f = oW sg w f := fun w f => o_ _ (by omega) (by omega)
  have o1n : oP (playS sg fee) (sg 2) 1 = 0 := (o_ (9 + 7 * sg 2 + 1) (by omega) (by omega)).trans gn.1
  have o2n : oP (playS sg fee) (sg 2) 2 = 0 := (o_ (9 + 7 * sg 2 + 2) (by omega) (by omega)).trans gn.2
  have u : ∀ k, k ≠ 2 → ups (playS sg fee) 2 (sg 2) k = playS sg fee k := fun k hk => if_neg hk
  have uW : ∀ w f, oW (ups (playS sg fee) 2 (sg 2)) w f = oW sg w f := fun w f => (if_neg (by omega)).trans (oWe w f)
  have uP : ∀ q f, q ≠ sg 2 → f < 7 → oP (ups (playS sg fee) 2 (sg 2)) q f = oP sg q f := fun q f h1 h2 => (if_neg (by omega)).trans (oPe q f h1 h2)
  refine ⟨⟨hp2, ?_, ?_, ?_, playS_2 sg fee, h8, o2n, by omega, fun j hj => absurd hj (Nat.not_lt_zero j), fun k hk => ?_, ?_⟩, ⟨?_, fun k => ?_, fun w hw => ?_, fun q hq => ?_⟩, fun k hk => ?_, ?_, fun k hk => ?_, ?_, fun k a b => ?_, ?_⟩
  · rw [o_ 1 (by omega) (by omega)]; omega
  · rw [o_ 3 (by omega) (by omega)]; omega
  · rw [o_ 4 (by omega) (by omega)]; omega
  · rw [oPe k 2 (by omega) (by omega)]; exact (sb.2.2.2 k hk).2.1
  · rw [o_ 4 (by omega) (by omega)]
    intro k hk
    rw [show updN nm (8 + sg 2) w (24 + k) = nm (24 + k) from if_neg (by omega)]; exact n4 k hk
  · rw [u 0 (by omega), u 1 (by omega), u 3 (by omega), u 4 (by omega), ups_1, o_ 0 (by omega) (by omega), o_ 1 (by omega) (by omega), o_ 3 (by omega) (by omega), o_ 4 (by omega) (by omega)]
    exact ⟨b.1, b.2.1, b.2.2.1, b.2.2.2.1, b.2.2.2.2.1, b.2.2.2.2.2⟩
  · by_cases e : k = 2
    · rw [e, ups_1]; omega
    · rw [u k e]
      by_cases e2 : k = 9 + 7 * sg 2
      · rw [e2, playS_f]; omega
      · rw [o_ k e e2]; exact sb.2.1 k
  · rw [u 3 (by omega), o_ 3 (by omega) (by omega)] at hw
    have q := sb.2.2.1 w hw
    simp only [uW]
    exact q
  · rw [ups_1] at hq
    have q2 := sb.2.2.2 q hq
    rw [uP q 2 (by omega) (by omega)]
    refine ⟨q2.1, q2.2.1, fun j hj => ?_⟩
    rw [uP q (3 + j) (by omega) (by omega)]; exact q2.2.2 j hj
  · unfold ups
    by_cases e : k = sg 2
    · rw [if_pos e]; exact hc
    · rw [if_neg e]; exact hct2 k (by omega)
  · rw [o_ 1 (by omega) (by omega)]
    intro k hk
    rw [show updN nm (8 + sg 2) w k = nm k from if_neg (by omega)]; exact n1 k hk
  · unfold updN
    by_cases e : k = sg 2
    · rw [if_pos (by omega)]; exact hw
    · rw [if_neg (by omega)]; exact n2 k (by omega)
  · rw [o_ 3 (by omega) (by omega)]
    intro k hk
    rw [show updN nm (8 + sg 2) w (16 + k) = nm (16 + k) from if_neg (by omega)]; exact n3 k hk
  · rw [oPe k 1 (by omega) (by omega), oPe k 2 (by omega) (by omega)]; exact g1 k (by omega) b
  · rw [o_ 3 (by omega) (by omega)]
    intro w a b
    rw [oWe]; exact g2 w a b
theorem instsL_ok (hby : ∀ i, i < L → (bf i).toInt8.toInt32 = bf i) : ∀ (f t : Nat) (s s2 : PS), t + f = 5 → Iok L n t s → instsL L bf n f s = Sum.inr s2 → (∃ t2, 1 ≤ t2 ∧ Iok L n t2 s2) ∧ s.1 ≤ s2.1 := by
  intro f
  induction f with
  | zero => intro t s s2 e h k; cases k
  | succ f ih =>
    intro t s s2 e h k
    obtain ⟨p, sg, nm, ct, dt⟩ := s
    simp only [instsL] at k
    obtain ⟨r, hr⟩ : ∃ r, instL L bf n (p, sg, nm, ct, dt) = r := ⟨_, rfl⟩
    rw [hr] at k
    match r, hr, k with
    | Sum.inl e1, hr, k => cases k
    | Sum.inr s3, hr, k =>
      have o3 := instL_ok hby h hr
      have t4 := (instL_iw hby h.1 hr).2
      have l3 : p ≤ s3.1 := by
        rw [(instL_in hr).2.2.2]
        exact tN_ge L bf p
      dsimp only at k
      by_cases c : tK L bf s3.1 = 1
      · rw [if_pos c] at k
        obtain ⟨a, b⟩ := ih (t + 1) s3 s2 (by omega) o3 k
        exact ⟨a, Nat.le_trans l3 b⟩
      · rw [if_neg c] at k
        cases k
        exact ⟨⟨t + 1, by omega, o3⟩, l3⟩
theorem playerL_ok (hby : ∀ i, i < L → (bf i).toInt8.toInt32 = bf i) (ok : PSok (p, sg, nm, ct, dt) L) {s2 : PS} (h : playerL L bf (p, sg, nm, ct, dt) = Sum.inr s2) : PSok s2 L ∧ tN L bf p ≤ s2.1 := by
  have ok0 := ok
  obtain ⟨hp, sb, hct2, n1, n2, n3, n4, g1, g2⟩ := ok
  have b := sb.1
  have hp1 := tN_le L bf hp
  have hp2 := tN_le L bf hp1
  have hp3 := tN_le L bf hp2
  simp only [playerL] at h
  obtain ⟨o, ho⟩ : ∃ o, nmErr L bf p (sg 2) 8 (fun k => nm (8 + k)) = o := ⟨_, rfl⟩
  rw [ho] at h
  match o, ho, h with
  | some e, ho, h => cases h
  | none, ho, h =>
    obtain ⟨a1, a2, a3⟩ := nmErr_n ho
    dsimp only at h
    by_cases c1 : nerr L bf (tN L bf (tN L bf p)) 0 40 = 0
    · rw [if_pos c1] at h
      by_cases c2 : nerr L bf (tN L bf (tN L bf (tN L bf p))) 0 999 = 0
      · rw [if_pos c2] at h
        obtain ⟨⟨t2, ht, ok2⟩, l⟩ := instsL_ok hby 5 0 _ s2 rfl (playS_ok ok0 (tN_le L bf hp3) (by omega) (tK_1 hby a2) (nerr0 c2).2.2 (nerr0 c1).2.2) h
        refine ⟨?_, ?_⟩
        · obtain ⟨p2, sg2, nm2, ct2, dt2⟩ := s2
          exact ok2.ps ht
        · have := tN_ge L bf (tN L bf p)
          have := tN_ge L bf (tN L bf (tN L bf p))
          have := tN_ge L bf (tN L bf (tN L bf (tN L bf p)))
          dsimp only at l
          omega
      · rw [if_neg c2] at h; cases h
    · rw [if_neg c1] at h; cases h
end POP
