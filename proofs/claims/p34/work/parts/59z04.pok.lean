/-! PARSE: what the lines keep within bounds -/
theorem SB.ups {sg sg2 : Nat → Nat} (h : SB sg) (e0 : sg2 0 = sg 0) (e1 : sg2 1 ≤ 3) (e2 : sg2 2 = sg 2) (e3 : sg2 3 = sg 3) (e4 : sg2 4 = sg 4) (b : ∀ k, sg2 k < 2 ^ 30) (w : ∀ w f, f ≥ 4 → w < 5 → f < 11 → oW sg2 w f = oW sg w f) (q : ∀ p f, f ≥ 2 → p < 8 → f < 7 → oP sg2 p f = oP sg p f) : SB sg2 := by
  obtain ⟨⟨a0, a00, a1, a2, a3, a4⟩, a5, a6, a7⟩ := h
  refine ⟨⟨by omega, by omega, e1, by omega, by omega, by omega⟩, b, fun k hk => ?_, fun k hk => ?_⟩
  · obtain ⟨r1, r2, r3⟩ := a6 k (by omega)
    rw [w k 4 (by omega) (by omega) (by omega)]
    exact ⟨r1, r2, fun j hj => by rw [w k (5 + j) (by omega) (by omega) (by omega)]; exact r3 j hj⟩
  · obtain ⟨r1, r2, r3⟩ := a7 k (by omega)
    rw [q k 2 (by omega) (by omega) (by omega)]
    exact ⟨r1, r2, fun j hj => by rw [q k (3 + j) (by omega) (by omega) (by omega)]; exact r3 j hj⟩
section POK
variable {L p : Nat} {bf : Nat → Int32} {sg ct : Nat → Nat} {nm : Nat → List Nat} {dt : Bool}
theorem doubleL_ok (ok : PSok (p, sg, nm, ct, dt) L) {s2 : PS} (h : doubleL L bf (p, sg, nm, ct, dt) = Sum.inr s2) : PSok s2 L := by
  obtain ⟨hp, sb, hct2, n1, n2, n3, n4, g1, g2⟩ := ok
  have b := sb.1
  simp only [doubleL] at h
  by_cases c : dt = true
  · rw [if_pos c] at h; cases h
  · rw [if_neg c] at h
    by_cases c2 : nerr L bf (tN L bf p) 0 999 = 0
    · rw [if_pos c2] at h
      cases h
      have v := tK_2 (nerr0 c2).1
      have o_ : ∀ k, k ≠ 5 → ups sg 5 (tV L bf (tN L bf p)) k = sg k := fun k hk => if_neg hk
      refine ⟨tN_le L bf (tN_le L bf hp), sb.ups (o_ 0 (by omega)) ?_ (o_ 2 (by omega)) (o_ 3 (by omega)) (o_ 4 (by omega)) (fun k => ?_) (fun w f h1 h2 h3 => o_ _ (by omega)) (fun w f h1 h2 h3 => o_ _ (by omega)), ?_, ?_, ?_, ?_, ?_, ?_, ?_⟩
      · rw [o_ 1 (by omega)]; exact b.2.2.1
      · by_cases e : k = 5
        · rw [e, ups_1]; omega
        · rw [o_ k e]; exact sb.2.1 k
      · rw [o_ 2 (by omega)]; exact hct2
      · rw [o_ 1 (by omega)]; exact n1
      · rw [o_ 2 (by omega)]; exact n2
      · rw [o_ 3 (by omega)]; exact n3
      · rw [o_ 4 (by omega)]; exact n4
      · rw [o_ 2 (by omega)]
        intro k h1 h2
        unfold oP
        rw [o_ _ (by omega), o_ _ (by omega)]; exact g1 k h1 h2
      · rw [o_ 3 (by omega)]
        intro w h1 h2
        unfold oW
        rw [o_ _ (by omega)]; exact g2 w h1 h2
    · rw [if_neg c2] at h; cases h
theorem hallL_ok (hby : ∀ i, i < L → (bf i).toInt8.toInt32 = bf i) (ok : PSok (p, sg, nm, ct, dt) L) {s2 : PS} (h : hallL L bf (p, sg, nm, ct, dt) = Sum.inr s2) : PSok s2 L := by
  obtain ⟨hp, sb, hct2, n1, n2, n3, n4, g1, g2⟩ := ok
  have b := sb.1
  simp only [hallL] at h
  by_cases c0 : sg 1 = 3
  · rw [show nmErr L bf p (sg 1) 3 nm = some (5, tS L bf p) by unfold nmErr; rw [if_pos c0]] at h
    cases h
  · by_cases c1 : tK L bf (tN L bf p) = 1
    · by_cases c2 : nin nm (sg 1) (tW L bf (tN L bf p)) < sg 1
      · rw [nmErr_bad c0 (Or.inr ⟨c1, c2, rfl⟩)] at h
        cases h
      · rw [nmErr_new c0 c1 c2] at h
        dsimp only at h
        by_cases c3 : nerr L bf (tN L bf (tN L bf p)) 0 9 = 0
        · rw [if_pos c3] at h
          cases h
          have v := (nerr0 c3).2.2
          have okw := tK_1 hby c1
          have o_ : ∀ k, k ≠ 1 → k ≠ 6 + sg 1 → hallS sg (tV L bf (tN L bf (tN L bf p))) k = sg k := fun k h1 h2 => hallS_o _ _ h1 h2
          have nmE : ∀ k, k ≠ sg 1 → updN nm (sg 1) (tW L bf (tN L bf p)) k = nm k := fun k hk => if_neg hk
          refine ⟨tN_le L bf (tN_le L bf (tN_le L bf hp)), sb.ups (o_ 0 (by omega) (by omega)) ?_ (o_ 2 (by omega) (by omega)) (o_ 3 (by omega) (by omega)) (o_ 4 (by omega) (by omega)) (fun k => ?_) (fun w f h1 h2 h3 => o_ _ (by omega) (by omega)) (fun w f h1 h2 h3 => o_ _ (by omega) (by omega)), ?_, ?_, ?_, ?_, ?_, ?_, ?_⟩
          · rw [hallS_1]; omega
          · by_cases e : k = 1
            · rw [e, hallS_1]; omega
            · by_cases e2 : k = 6 + sg 1
              · rw [e2, hallS_h]; omega
              · rw [o_ k e e2]; exact sb.2.1 k
          · rw [o_ 2 (by omega) (by omega)]; exact hct2
          · rw [hallS_1]
            intro k hk
            by_cases e : k = sg 1
            · have e3 : updN nm (sg 1) (tW L bf (tN L bf p)) k = tW L bf (tN L bf p) := if_pos e
              rw [e3]; exact okw
            · rw [nmE k e]; exact n1 k (by omega)
          · rw [o_ 2 (by omega) (by omega)]
            intro k hk
            rw [nmE _ (by omega)]; exact n2 k hk
          · rw [o_ 3 (by omega) (by omega)]
            intro k hk
            rw [nmE _ (by omega)]; exact n3 k hk
          · rw [o_ 4 (by omega) (by omega)]
            intro k hk
            rw [nmE _ (by omega)]; exact n4 k hk
          · rw [o_ 2 (by omega) (by omega)]
            intro k h1 h2
            unfold oP
            rw [o_ _ (by omega) (by omega), o_ _ (by omega) (by omega)]; exact g1 k h1 h2
          · rw [o_ 3 (by omega) (by omega)]
            intro w h1 h2
            unfold oW
            rw [o_ _ (by omega) (by omega)]; exact g2 w h1 h2
        · rw [if_neg c3] at h; cases h
    · rw [nmErr_bad c0 (Or.inl ⟨c1, rfl⟩)] at h
      cases h
theorem absentL_ok (ok : PSok (p, sg, nm, ct, dt) L) {s2 : PS} (h : absentL L bf (p, sg, nm, ct, dt) = Sum.inr s2) : PSok s2 L := by
  obtain ⟨hp, sb, hct2, n1, n2, n3, n4, g1, g2⟩ := ok
  have b := sb.1
  simp only [absentL] at h
  by_cases c1 : tK L bf (tN L bf p) = 1
  · rw [if_pos c1] at h
    obtain ⟨k, hk⟩ : ∃ k, nin (fun k => nm (8 + k)) (sg 2) (tW L bf (tN L bf p)) = k := ⟨_, rfl⟩
    rw [hk] at h
    by_cases c2 : k < sg 2
    · rw [if_pos c2] at h
      by_cases c3 : nerr L bf (tN L bf (tN L bf p)) 0 (sg 0 - 1) = 0
      · rw [if_pos c3] at h
        by_cases c4 : (oP sg k 1).testBit (tV L bf (tN L bf (tN L bf p))) = true
        · rw [if_pos c4] at h; cases h
        · rw [if_neg c4] at h
          cases h
          have v := (nerr0 c3).2.2
          have o_ : ∀ j, j ≠ 9 + 7 * k + 1 → ups sg (9 + 7 * k + 1) (oP sg k 1 ||| 2 ^ tV L bf (tN L bf (tN L bf p))) j = sg j := fun j hj => if_neg hj
          refine ⟨tN_le L bf (tN_le L bf (tN_le L bf hp)), sb.ups (o_ 0 (by omega)) ?_ (o_ 2 (by omega)) (o_ 3 (by omega)) (o_ 4 (by omega)) (fun j => ?_) (fun w f h1 h2 h3 => o_ _ (by omega)) (fun w f h1 h2 h3 => o_ _ (by omega)), ?_, ?_, ?_, ?_, ?_, ?_, ?_⟩
          · rw [o_ 1 (by omega)]; exact b.2.2.1
          · by_cases e : j = 9 + 7 * k + 1
            · rw [e, ups_1]
              exact Nat.or_lt_two_pow (sb.2.1 _) (Nat.pow_lt_pow_right (by omega) (by omega))
            · rw [o_ j e]; exact sb.2.1 j
          · rw [o_ 2 (by omega)]; exact hct2
          · rw [o_ 1 (by omega)]; exact n1
          · rw [o_ 2 (by omega)]; exact n2
          · rw [o_ 3 (by omega)]; exact n3
          · rw [o_ 4 (by omega)]; exact n4
          · rw [o_ 2 (by omega)]
            intro j h1 h2
            exact ⟨(o_ (9 + 7 * j + 1) (by omega)).trans (g1 j h1 h2).1, (o_ (9 + 7 * j + 2) (by omega)).trans (g1 j h1 h2).2⟩
          · rw [o_ 3 (by omega)]
            intro w h1 h2
            exact (o_ (65 + 11 * w + 4) (by omega)).trans (g2 w h1 h2)
      · rw [if_neg c3] at h; cases h
    · rw [if_neg c2] at h; cases h
  · rw [if_neg c1] at h; cases h
end POK
