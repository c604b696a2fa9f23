/-! PARSE: the seats of a work's line, told by numbers -/
def seatS (sg : Nat → Nat) (w j : Nat) : Nat → Nat := ups (ups sg (65 + 11 * w + 5 + oW sg w 4) j) (65 + 11 * w + 4) (oW sg w 4 + 1)
def seatL (L : Nat) (bf : Nat → Int32) (w : Nat) : PS → Sum (Nat × Nat) PS
  | (p, sg, nm, ct, dt) => if tK L bf p = 1 then
      (if nj L bf p sg nm < sg 4 then
        (if oW sg w 4 = 6 then Sum.inl (5, tS L bf p) else Sum.inr (tN L bf p, seatS sg w (nj L bf p sg nm), nm, ct, dt))
       else Sum.inl (4, tS L bf p))
    else Sum.inl (1, tS L bf p)
def seatsL (L : Nat) (bf : Nat → Int32) (w : Nat) : Nat → PS → Sum (Nat × Nat) PS
  | 0, _ => Sum.inl (1, 0)
  | f + 1, s => match seatL L bf w s with
    | Sum.inl e => Sum.inl e
    | Sum.inr s2 => if tK L bf s2.1 = 1 then seatsL L bf w f s2 else Sum.inr s2
def workS (sg : Nat → Nat) (a b c d : Nat) : Nat → Nat := ups (ups (ups (ups (ups sg 3 (sg 3 + 1)) (65 + 11 * sg 3) a) (65 + 11 * sg 3 + 1) b) (65 + 11 * sg 3 + 2) c) (65 + 11 * sg 3 + 3) d
def workN (L : Nat) (bf : Nat → Int32) (q : Nat) (sg : Nat → Nat) (nm : Nat → List Nat) (ct : Nat → Nat) (dt : Bool) : Sum (Nat × Nat) PS :=
  if nerr L bf q 0 9 = 0 then
    (if nerr L bf (tN L bf q) 0 (sg 0 - 1) = 0 then
      (if nerr L bf (tN L bf (tN L bf q)) (tV L bf (tN L bf q)) (sg 0 - 1) = 0 then
        (if nerr L bf (tN L bf (tN L bf (tN L bf q))) 0 999 = 0 then seatsL L bf (sg 3) 7 (tN L bf (tN L bf (tN L bf (tN L bf q))), workS sg (tV L bf q) (tV L bf (tN L bf q)) (tV L bf (tN L bf (tN L bf q))) (tV L bf (tN L bf (tN L bf (tN L bf q)))), nm, ct, dt)
         else Sum.inl (nerr L bf (tN L bf (tN L bf (tN L bf q))) 0 999, tS L bf (tN L bf (tN L bf (tN L bf q)))))
       else Sum.inl (nerr L bf (tN L bf (tN L bf q)) (tV L bf (tN L bf q)) (sg 0 - 1), tS L bf (tN L bf (tN L bf q))))
     else Sum.inl (nerr L bf (tN L bf q) 0 (sg 0 - 1), tS L bf (tN L bf q)))
  else Sum.inl (nerr L bf q 0 9, tS L bf q)
def workL (L : Nat) (bf : Nat → Int32) : PS → Sum (Nat × Nat) PS
  | (p, sg, nm, ct, dt) => match nmErr L bf p (sg 3) 5 (fun k => nm (16 + k)) with
    | some e => Sum.inl e
    | none => workN L bf (tN L bf (tN L bf p)) sg (updN nm (16 + sg 3) (tW L bf (tN L bf p))) ct dt
section PSP
variable {L p w t : Nat} {bf : Nat → Int32} {sg ct : Nat → Nat} {nm : Nat → List Nat} {dt : Bool}
theorem seatS_c (w j : Nat) : oW (seatS sg w j) w 4 = oW sg w 4 + 1 := ups_1 _ _ _
theorem seatS_j (w j : Nat) : oW (seatS sg w j) w (5 + oW sg w 4) = j := by
  show seatS sg w j (65 + 11 * w + (5 + oW sg w 4)) = j
  unfold seatS
  rw [ups_o _ _ _ (by omega), ← Nat.add_assoc, ups_1]
theorem seatS_o (w j : Nat) {k : Nat} (h2 : k ≠ 65 + 11 * w + 4) (h3 : k ≠ 65 + 11 * w + 5 + oW sg w 4) : seatS sg w j k = sg k := by
  unfold seatS
  rw [ups_o _ _ _ h2, ups_o _ _ _ h3]
theorem workS_3 (sg : Nat → Nat) (a b c d : Nat) : workS sg a b c d 3 = sg 3 + 1 := by
  unfold workS
  rw [ups_o _ _ _ (by omega), ups_o _ _ _ (by omega), ups_o _ _ _ (by omega), ups_o _ _ _ (by omega), ups_1]
theorem workS_o (sg : Nat → Nat) (a b c d : Nat) {k : Nat} (h : k ≠ 3) (h2 : k < 65 + 11 * sg 3 ∨ 65 + 11 * sg 3 + 3 < k) : workS sg a b c d k = sg k := by
  unfold workS
  rw [ups_o _ _ _ (by omega), ups_o _ _ _ (by omega), ups_o _ _ _ (by omega), ups_o _ _ _ (by omega), ups_o _ _ _ h]
theorem workS_f (sg : Nat → Nat) (a b c d : Nat) : oW (workS sg a b c d) (sg 3) 0 = a ∧ oW (workS sg a b c d) (sg 3) 1 = b ∧ oW (workS sg a b c d) (sg 3) 2 = c ∧ oW (workS sg a b c d) (sg 3) 3 = d := by
  unfold oW workS
  refine ⟨?_, ?_, ?_, ?_⟩
  · rw [ups_o _ _ _ (by omega), ups_o _ _ _ (by omega), ups_o _ _ _ (by omega)]; exact ups_1 _ _ _
  · rw [ups_o _ _ _ (by omega), ups_o _ _ _ (by omega), ups_1]
  · rw [ups_o _ _ _ (by omega), ups_1]
  · rw [ups_1]
/-- the bounds that a seat of work w, the t-th, needs -/
def Ww (L w t : Nat) (s : PS) : Prop := match s with
  | (p, sg, nm, ct, dt) => p ≤ L ∧ sg 1 ≤ 3 ∧ sg 2 ≤ 8 ∧ sg 4 ≤ 8 ∧ sg 3 = w + 1 ∧ w < 5 ∧ oW sg w 4 = t ∧ t ≤ 6 ∧ (∀ j, j < t → oW sg w (5 + j) < 8) ∧ (∀ k, k < w → oW sg k 4 ≤ 6) ∧ (∀ k, k < sg 2 → oP sg k 2 ≤ 4) ∧ ∀ k, k < sg 4 → NameOK (nm (24 + k))
/-- all bounds within a work's line -/
def Wok (L w t : Nat) (s : PS) : Prop := match s with
  | (p, sg, nm, ct, dt) => Ww L w t (p, sg, nm, ct, dt) ∧ SB (ups sg 3 w) ∧ (∀ k, k < sg 2 → ct k ≤ 40) ∧ (∀ k, k < sg 1 → NameOK (nm k)) ∧ (∀ k, k < sg 2 → NameOK (nm (8 + k))) ∧ (∀ k, k < w + 1 → NameOK (nm (16 + k))) ∧
    (∀ k, sg 2 ≤ k → k < 8 → oP sg k 1 = 0 ∧ oP sg k 2 = 0) ∧ ∀ k, w + 1 ≤ k → k < 5 → oW sg k 4 = 0
theorem seatL_in {s2 : PS} (h : seatL L bf w (p, sg, nm, ct, dt) = Sum.inr s2) : tK L bf p = 1 ∧ nj L bf p sg nm < sg 4 ∧ oW sg w 4 ≠ 6 ∧ s2 = (tN L bf p, seatS sg w (nj L bf p sg nm), nm, ct, dt) := by
  simp only [seatL] at h
  by_cases c1 : tK L bf p = 1
  · rw [if_pos c1] at h
    by_cases c2 : nj L bf p sg nm < sg 4
    · rw [if_pos c2] at h
      by_cases c3 : oW sg w 4 = 6
      · rw [if_pos c3] at h; cases h
      · rw [if_neg c3] at h
        cases h
        exact ⟨c1, c2, c3, rfl⟩
    · rw [if_neg c2] at h; cases h
  · rw [if_neg c1] at h; cases h
theorem seatL_ww (h : Ww L w t (p, sg, nm, ct, dt)) {s2 : PS} (e : seatL L bf w (p, sg, nm, ct, dt) = Sum.inr s2) : Ww L w (t + 1) s2 ∧ t < 6 := by
  obtain ⟨h1, h2, h3, h4, h5, h6, h7, h8, h9, h10, h11, h12⟩ := h
  obtain ⟨e1, e2, e3, e4⟩ := seatL_in e
  subst e4
  obtain ⟨j, hj⟩ : ∃ j, nj L bf p sg nm = j := ⟨_, rfl⟩
  rw [hj] at e2 ⊢
  refine ⟨⟨tN_le L bf h1, ?_, ?_, ?_, ?_, h6, ?_, by omega, fun k hk => ?_, fun k hk => ?_, ?_, ?_⟩, by omega⟩
  · rw [seatS_o w j (by omega) (by omega)]; exact h2
  · rw [seatS_o w j (by omega) (by omega)]; exact h3
  · rw [seatS_o w j (by omega) (by omega)]; exact h4
  · rw [seatS_o w j (by omega) (by omega)]; exact h5
  · rw [seatS_c]; omega
  · by_cases c : k = t
    · subst c
      rw [← h7, seatS_j]; omega
    · rw [show oW (seatS sg w j) w (5 + k) = oW sg w (5 + k) from seatS_o w j (by omega) (by omega)]
      exact h9 k (by omega)
  · rw [show oW (seatS sg w j) k 4 = oW sg k 4 from seatS_o w j (by omega) (by omega)]
    exact h10 k hk
  · rw [seatS_o w j (by omega) (by omega)]
    intro k hk
    rw [show oP (seatS sg w j) k 2 = oP sg k 2 from seatS_o w j (by omega) (by omega)]
    exact h11 k hk
  · rw [seatS_o w j (by omega) (by omega)]; exact h12
theorem seatL_ok (h : Wok L w t (p, sg, nm, ct, dt)) {s2 : PS} (e : seatL L bf w (p, sg, nm, ct, dt) = Sum.inr s2) : Wok L w (t + 1) s2 := by
  obtain ⟨ww, sb, k1, k2, k3, k4, k5, k6⟩ := h
  have ww2 := (seatL_ww ww e).1
  have t6 := (seatL_ww ww e).2
  obtain ⟨h1, h2, h3, h4, h5, h6, h7, h8, h9, h10, h11, h12⟩ := ww
  obtain ⟨e1, e2, e3, e4⟩ := seatL_in e
  subst e4
  obtain ⟨j, hj⟩ : ∃ j, nj L bf p sg nm = j := ⟨_, rfl⟩
  rw [hj] at e2 ww2 ⊢
  obtain ⟨g1, g2, g3, g4⟩ := sb
  have u : ∀ (sg : Nat → Nat) k, k ≠ 3 → ups sg 3 w k = sg k := fun sg k hk => if_neg hk
  have o_ : ∀ k, k < 65 → seatS sg w j k = sg k := fun k hk => seatS_o w j (by omega) (by omega)
  have oPe : ∀ q f, q < 8 → f < 7 → oP (seatS sg w j) q f = oP sg q f := fun q f h1 h2 => o_ _ (by omega)
  have oWe : ∀ q f, q ≠ w → f < 11 → oW (seatS sg w j) q f = oW sg q f := fun q f h1 h2 => seatS_o w j (by omega) (by omega)
  have uW : ∀ (sg : Nat → Nat) q f, oW (ups sg 3 w) q f = oW sg q f := fun sg q f => if_neg (by omega)
  have uP : ∀ (sg : Nat → Nat) q f, oP (ups sg 3 w) q f = oP sg q f := fun sg q f => if_neg (by omega)
  rw [u sg 0 (by omega), u sg 1 (by omega), u sg 2 (by omega), u sg 4 (by omega), ups_1] at g1
  refine ⟨ww2, ⟨?_, fun k => ?_, fun q hq => ?_, fun q hq => ?_⟩, ?_, ?_, ?_, k4, ?_, fun q a b => ?_⟩
  · rw [u _ 0 (by omega), u _ 1 (by omega), u _ 2 (by omega), u _ 4 (by omega), ups_1, o_ 0 (by omega), o_ 1 (by omega), o_ 2 (by omega), o_ 4 (by omega)]
    exact g1
  · by_cases c2 : k = 3
    · subst c2; rw [ups_1]; omega
    · rw [u _ k c2]
      by_cases c5 : k = 65 + 11 * w + 4
      · subst c5
        rw [show seatS sg w j (65 + 11 * w + 4) = oW sg w 4 + 1 from seatS_c w j]; omega
      · by_cases c6 : k = 65 + 11 * w + 5 + oW sg w 4
        · have := seatS_j (sg := sg) w j
          rw [show seatS sg w j k = oW (seatS sg w j) w (5 + oW sg w 4) by rw [c6]; unfold oW; rw [Nat.add_assoc (65 + 11 * w)], this]
          omega
        · rw [seatS_o w j c5 c6]
          have := g2 k
          rw [u _ k c2] at this
          exact this
  · rw [ups_1] at hq
    have := g3 q (by rw [ups_1]; exact hq)
    simp only [uW] at this ⊢
    rw [oWe q 4 (by omega) (by omega)]
    refine ⟨this.1, this.2.1, fun i hi => ?_⟩
    rw [oWe q (5 + i) (by omega) (by omega)]
    exact this.2.2 i hi
  · rw [u _ 2 (by omega), o_ 2 (by omega)] at hq
    have := g4 q (by rw [u _ 2 (by omega)]; exact hq)
    simp only [uP] at this ⊢
    rw [oPe q 2 (by omega) (by omega)]
    refine ⟨this.1, this.2.1, fun i hi => ?_⟩
    rw [oPe q (3 + i) (by omega) (by omega)]
    exact this.2.2 i hi
  · rw [o_ 2 (by omega)]; exact k1
  · rw [o_ 1 (by omega)]; exact k2
  · rw [o_ 2 (by omega)]; exact k3
  · rw [o_ 2 (by omega)]
    intro q a b
    rw [oPe q 1 (by omega) (by omega), oPe q 2 (by omega) (by omega)]; exact k5 q a b
  · rw [oWe q 4 (by omega) (by omega)]; exact k6 q a b
theorem Wok.ps (h : Wok L w t (p, sg, nm, ct, dt)) (ht : 1 ≤ t) : PSok (p, sg, nm, ct, dt) L := by
  obtain ⟨⟨h1, h2, h3, h4, h5, h6, h7, h8, h9, h10, h11, h12⟩, ⟨g1, g2, g3, g4⟩, k1, k2, k3, k4, k5, k6⟩ := h
  have u : ∀ k, k ≠ 3 → ups sg 3 w k = sg k := fun k hk => if_neg hk
  have uW : ∀ q f, oW (ups sg 3 w) q f = oW sg q f := fun q f => if_neg (by omega)
  have uP : ∀ q f, oP (ups sg 3 w) q f = oP sg q f := fun q f => if_neg (by omega)
  rw [u 0 (by omega), u 1 (by omega), u 2 (by omega), u 4 (by omega), ups_1] at g1
  refine ⟨h1, ⟨⟨g1.1, g1.2.1, h2, h3, by omega, h4⟩, fun k => ?_, fun q hq => ?_, fun q hq => ?_⟩, k1, k2, k3, ?_, h12, k5, ?_⟩
  · by_cases c : k = 3
    · subst c; omega
    · have := g2 k
      rw [u k c] at this; exact this
  · by_cases c : q = w
    · subst c
      exact ⟨by omega, by omega, fun i hi => h9 i (by omega)⟩
    · have := g3 q (by rw [ups_1]; omega)
      simp only [uW] at this
      exact this
  · have := g4 q (by rw [u 2 (by omega)]; exact hq)
    simp only [uP] at this
    exact this
  · rw [h5]; exact k4
  · rw [h5]; exact k6
theorem seatsL_ok : ∀ (f t : Nat) (s s2 : PS), t + f = 7 → Wok L w t s → seatsL L bf w f s = Sum.inr s2 → (∃ t2, 1 ≤ t2 ∧ Wok L w t2 s2) ∧ s.1 ≤ s2.1 := by
  intro f
  induction f with
  | zero => intro t s s2 e h k; cases k
  | succ f ih =>
    intro t s s2 e h k
    obtain ⟨p, sg, nm, ct, dt⟩ := s
    simp only [seatsL] at k
    obtain ⟨r, hr⟩ : ∃ r, seatL L bf w (p, sg, nm, ct, dt) = r := ⟨_, rfl⟩
    rw [hr] at k
    match r, hr, k with
    | Sum.inl e1, hr, k => cases k
    | Sum.inr s3, hr, k =>
      have o3 := seatL_ok h hr
      have t4 := (seatL_ww h.1 hr).2
      have l3 : p ≤ s3.1 := by
        rw [(seatL_in hr).2.2.2]
        exact tN_ge L bf p
      dsimp only at k
      by_cases c : tK L bf s3.1 = 1
      · rw [if_pos c] at k
        obtain ⟨a, b⟩ := ih (t + 1) s3 s2 (by omega) o3 k
        exact ⟨a, Nat.le_trans l3 b⟩
      · rw [if_neg c] at k
        cases k
        exact ⟨⟨t + 1, by omega, o3⟩, l3⟩
theorem workS_ok (ok : PSok (p, sg, nm, ct, dt) L) {p2 a b c d : Nat} {wo : List Nat} (hp2 : p2 ≤ L) (h5 : sg 3 < 5) (hw : NameOK wo) (ha : a < 2000) (hb : b < 2000) (hc : c < 2000) (hd : d < 2000) : Wok L (sg 3) 0 (p2, workS sg a b c d, updN nm (16 + sg 3) wo, ct, dt) := by
  obtain ⟨hp, sb, hct2, n1, n2, n3, n4, g1, g2⟩ := ok
  have bb := sb.1
  have gn := g2 (sg 3) (Nat.le_refl _) h5
  have o_ : ∀ k, k ≠ 3 → k < 65 + 11 * sg 3 ∨ 65 + 11 * sg 3 + 3 < k → workS sg a b c d k = sg k := fun k h1 h2 => workS_o sg a b c d h1 h2
  have oPe : ∀ q f, q < 8 → f < 7 → oP (workS sg a b c d) q f = oP sg q f := fun q f h1 h2 => o_ _ (by omega) (by omega)
  have oWe : ∀ q f, q ≠ sg 3 → f < 11 → oW (workS sg a b c d) q f = oW sg q f := fun q f h1 h2 => o_ _ (by omega) (by omega)
  have o4n : oW (workS sg a b c d) (sg 3) 4 = 0 := (o_ (65 + 11 * sg 3 + 4) (by omega) (by omega)).trans gn
  have u : ∀ k, k ≠ 3 → ups (workS sg a b c d) 3 (sg 3) k = workS sg a b c d k := fun k hk => if_neg hk
  have uW : ∀ q f, oW (ups (workS sg a b c d) 3 (sg 3)) q f = oW (workS sg a b c d) q f := fun q f => if_neg (by omega)
  have uP : ∀ q f, oP (ups (workS sg a b c d) 3 (sg 3)) q f = oP (workS sg a b c d) q f := fun q f => if_neg (by omega)
  have wf := workS_f sg a b c d
  refine ⟨⟨hp2, ?_, ?_, ?_, workS_3 sg a b c d, h5, o4n, by omega, fun j hj => absurd hj (Nat.not_lt_zero j), fun k hk => ?_, ?_, ?_⟩, ⟨?_, fun k => ?_, fun q hq => ?_, fun q hq => ?_⟩, ?_, ?_, ?_, fun k hk => ?_, ?_, fun q a b => ?_⟩
  · rw [o_ 1 (by omega) (by omega)]; omega
  · rw [o_ 2 (by omega) (by omega)]; omega
  · rw [o_ 4 (by omega) (by omega)]; omega
  · rw [oWe k 4 (by omega) (by omega)]; exact (sb.2.2.1 k hk).2.1
  · rw [o_ 2 (by omega) (by omega)]
    intro k hk
    rw [oPe k 2 (by omega) (by omega)]; exact (sb.2.2.2 k hk).2.1
  · rw [o_ 4 (by omega) (by omega)]
    intro k hk
    rw [show updN nm (16 + sg 3) wo (24 + k) = nm (24 + k) from if_neg (by omega)]; exact n4 k hk
  · rw [u 0 (by omega), u 1 (by omega), u 2 (by omega), u 4 (by omega), ups_1, o_ 0 (by omega) (by omega), o_ 1 (by omega) (by omega), o_ 2 (by omega) (by omega), o_ 4 (by omega) (by omega)]
    exact ⟨bb.1, bb.2.1, bb.2.2.1, bb.2.2.2.1, bb.2.2.2.2.1, bb.2.2.2.2.2⟩
  · by_cases e : k = 3
    · rw [e, ups_1]; omega
    · rw [u k e]
      by_cases e2 : k < 65 + 11 * sg 3 ∨ 65 + 11 * sg 3 + 3 < k
      · rw [o_ k e e2]; exact sb.2.1 k
      · unfold oW at wf
        by_cases e3 : k = 65 + 11 * sg 3 + 0
        · rw [e3, wf.1]; omega
        · by_cases e4 : k = 65 + 11 * sg 3 + 1
          · rw [e4, wf.2.1]; omega
          · by_cases e5 : k = 65 + 11 * sg 3 + 2
            · rw [e5, wf.2.2.1]; omega
            · rw [show k = 65 + 11 * sg 3 + 3 by omega, wf.2.2.2]; omega
  · rw [ups_1] at hq
    have q2 := sb.2.2.1 q hq
    simp only [uW]
    rw [oWe q 4 (by omega) (by omega)]
    refine ⟨q2.1, q2.2.1, fun j hj => ?_⟩
    rw [oWe q (5 + j) (by omega) (by omega)]; exact q2.2.2 j hj
  · rw [u 2 (by omega), o_ 2 (by omega) (by omega)] at hq
    have q2 := sb.2.2.2 q hq
    simp only [uP]
    rw [oPe q 2 (by omega) (by omega)]
    refine ⟨q2.1, q2.2.1, fun j hj => ?_⟩
    rw [oPe q (3 + j) (by omega) (by omega)]; exact q2.2.2 j hj
  · rw [o_ 2 (by omega) (by omega)]; exact hct2
  · rw [o_ 1 (by omega) (by omega)]
    intro k hk
    rw [show updN nm (16 + sg 3) wo k = nm k from if_neg (by omega)]; exact n1 k hk
  · rw [o_ 2 (by omega) (by omega)]
    intro k hk
    rw [show updN nm (16 + sg 3) wo (8 + k) = nm (8 + k) from if_neg (by omega)]; exact n2 k hk
  · unfold updN
    by_cases e : k = sg 3
    · rw [if_pos (by omega)]; exact hw
    · rw [if_neg (by omega)]; exact n3 k (by omega)
  · rw [o_ 2 (by omega) (by omega)]
    intro q a b
    rw [oPe q 1 (by omega) (by omega), oPe q 2 (by omega) (by omega)]; exact g1 q a b
  · rw [oWe q 4 (by omega) (by omega)]; exact g2 q (by omega) b
theorem nerr_v {q lo hi : Nat} (h : nerr L bf q lo hi = 0) : tV L bf q < 1000 := tK_2 (nerr0 h).1
theorem workL_ok (hby : ∀ i, i < L → (bf i).toInt8.toInt32 = bf i) (ok : PSok (p, sg, nm, ct, dt) L) {s2 : PS} (h : workL L bf (p, sg, nm, ct, dt) = Sum.inr s2) : PSok s2 L ∧ tN L bf p ≤ s2.1 := by
  have ok0 := ok
  obtain ⟨hp, sb, hct2, n1, n2, n3, n4, g1, g2⟩ := ok
  have b := sb.1
  have hp1 := tN_le L bf hp
  have hp2 := tN_le L bf hp1
  simp only [workL] at h
  obtain ⟨o, ho⟩ : ∃ o, nmErr L bf p (sg 3) 5 (fun k => nm (16 + k)) = o := ⟨_, rfl⟩
  rw [ho] at h
  match o, ho, h with
  | some e, ho, h => cases h
  | none, ho, h =>
    obtain ⟨a1, a2, a3⟩ := nmErr_n ho
    dsimp only at h
    have lq := tN_ge L bf (tN L bf p)
    obtain ⟨q, hq⟩ : ∃ q, tN L bf (tN L bf p) = q := ⟨_, rfl⟩
    rw [hq] at h hp2 lq
    unfold workN at h
    by_cases c1 : nerr L bf q 0 9 = 0
    · rw [if_pos c1] at h
      by_cases c2 : nerr L bf (tN L bf q) 0 (sg 0 - 1) = 0
      · rw [if_pos c2] at h
        by_cases c3 : nerr L bf (tN L bf (tN L bf q)) (tV L bf (tN L bf q)) (sg 0 - 1) = 0
        · rw [if_pos c3] at h
          by_cases c4 : nerr L bf (tN L bf (tN L bf (tN L bf q))) 0 999 = 0
          · rw [if_pos c4] at h
            have v1 := nerr_v c1
            have v2 := nerr_v c2
            have v3 := nerr_v c3
            have v4 := nerr_v c4
            obtain ⟨⟨t2, ht, ok2⟩, l⟩ := seatsL_ok 7 0 _ s2 rfl (workS_ok ok0 (tN_le L bf (tN_le L bf (tN_le L bf (tN_le L bf hp2)))) (by omega) (tK_1 hby a2) (by omega) (by omega) (by omega) (by omega)) h
            refine ⟨?_, ?_⟩
            · obtain ⟨p2, sg2, nm2, ct2, dt2⟩ := s2
              exact ok2.ps ht
            · have := tN_ge L bf q
              have := tN_ge L bf (tN L bf q)
              have := tN_ge L bf (tN L bf (tN L bf q))
              have := tN_ge L bf (tN L bf (tN L bf (tN L bf q)))
              dsimp only at l
              omega
          · rw [if_neg c4] at h; cases h
        · rw [if_neg c3] at h; cases h
      · rw [if_neg c2] at h; cases h
    · rw [if_neg c1] at h; cases h
end PSP
