/-! THE ROOM: the walk is right -/
section WKq
variable {sg : Nat → Nat} {th w3 d3 mv rc : Nat} {gf : Nat → Nat → Nat} {qf : Nat → Nat → Nat → Nat → Nat} {orf : Nat → Nat → Nat} {stop : Nat → Nat → Bool → Nat → Bool}
theorem slH_b {pl : Nat → Nat} {G : Nat} {b : Bool} (hb : b = true ↔ pl 0 ≠ 0) : nxr (bif b then nxr (nxr G) else nxr G) = nx (slH pl G) := by
  unfold slH
  by_cases d : pl 0 = 0
  · have nb : b = false := by
      cases q : b with
      | false => rfl
      | true => exact absurd d (hb.mp q)
    rw [if_pos d, nb, cond_false, nxr_e, nxr_e]
  · rw [if_neg d, hb.mpr d, cond_true, nxr_e, nxr_e, nxr_e]
theorem Wk_ok (h3 : sg 3 = w3) (hd : 3 * sg 0 = d3) (h1 : 1 ≤ w3) (h2 : 1 ≤ sg 2 ∧ sg 2 ≤ 8) (h0 : 1 ≤ sg 0) (hst : ∀ n (z : Sz) b c, PT sg z.1 → (b = true ↔ z.1 0 ≠ 0) → stop n z.2 b c = true → c + stS sg z n ≤ th)
    (hq : ∀ pl, PT sg pl → ∀ ha t a c cc w, t < sg 0 * 3 → a < w3 → c < w3 → w < w3 → (a = c ∨ cc = 1) → askC sg pl ha t (2 ^ a ||| 2 ^ c) cc w ≤ qf a c w t) (hg : ∀ pl ha t a c cc, a < w3 → c < w3 → cmC sg pl ha t (2 ^ a ||| 2 ^ c) cc ≤ gf a c) (hm : ∀ pl, PT sg pl → ∀ s t, s < pl 0 → mvC sg pl s t ≤ mv ∧ comC sg (off pl s) (oS pl s 0) (oS pl s 3) ≤ rc)
    (hor : ∀ pl G, PT sg pl → pl 0 = 0 → (orf (nx G) (nx (nx G)) = 1 → cdP sg pl (drw G (3 * sg 0)) (nx (nx G)) 0 ≠ 0) ∧ (orf (nx G) (nx (nx G)) = 0 → cdP sg pl (drw G (3 * sg 0)) (nx (nx G)) 0 = 0)) : ∀ n (z : Sz) b c, PT sg z.1 → (b = true ↔ z.1 0 ≠ 0) → Wk th w3 d3 mv rc gf qf orf stop n z.2 b c = true → c + stS sg z n ≤ th := by
  intro n
  induction n with
  | zero =>
    intro z b c _ _ h
    rw [Wk_0] at h
    exact Nat.le_of_ble_eq_true h
  | succ n ih =>
    intro z b c hP hb h
    rw [Wk_s] at h
    by_cases s0 : stop (n + 1) z.2 b c = true
    · exact hst (n + 1) z b c hP hb s0
    rw [Bool.eq_false_iff.mpr s0] at h
    have h := bif_f h
    rw [slH_b hb, nxr_e] at h
    have horq : z.1 0 = 0 → (orf (nx z.2) (nx (slH z.1 z.2)) = 1 → cdP sg z.1 (drw z.2 (3 * sg 0)) (nx (slH z.1 z.2)) 0 ≠ 0) ∧ (orf (nx z.2) (nx (slH z.1 z.2)) = 0 → cdP sg z.1 (drw z.2 (3 * sg 0)) (nx (slH z.1 z.2)) 0 = 0) := fun d => by
      have e : slH z.1 z.2 = nx z.2 := if_pos d
      rw [e]
      exact hor z.1 z.2 hP d
    have hPq : PT sg (stP sg z) := PT_st hP (by omega) h2
    have ce := stC_e sg z
    have pe := stP_e sg z
    have ge := stG_e sg z
    have ih := ih (stN sg z)
    rw [stN_1, stN_2] at ih
    have sh := stS_sh sg z n
    have hs : z.1 0 ≠ 0 → slS z.1 z.2 < z.1 0 := slS_lt
    generalize stS sg (stN sg z) n = S at ih sh
    generalize stP sg z = plq at hPq ce pe ih
    generalize stG sg z = e at ce ge ih
    generalize slS z.1 z.2 = s at hs ce pe
    generalize drw z.2 (3 * sg 0) = t at horq ce pe
    have r := chW_ok (sg := sg) (pl := z.1) (t := t) (s := s) (kk := drw (slH z.1 z.2) 9) (H := nx (slH z.1 z.2)) (dvr_e _ _) h3 h1 hb hs (fun ha a c cc => hg z.1 ha _ a c cc) (fun d => hm z.1 hP _ _ (hs d)) horq h
    unfold ChR at r
    rw [← pe, ← ge] at r
    obtain ⟨c1, z0, z1, r1, r2, r3, r4⟩ := r
    obtain ⟨c2, a1, a2, a3⟩ := WkC_ok h3 hd h1 h0 hPq (hq _ hPq) r2
    by_cases d : plq 0 = 0
    · have q := ih false _ hPq ⟨fun q => (by cases q), fun q => absurd d q⟩ (a2 (r3 d))
      omega
    · have q := ih true _ hPq ⟨fun _ => d, fun _ => rfl⟩ (a3 (r4 d))
      omega
end WKq
