/-! CHANGES: move, recast, setContract; undo and the slots -/
theorem nAt_new {sg pl : Nat → Nat} {ha t S c F : Nat} : nAt (cm sg pl (psn pl ha t) t ha S c F) ha t = psn pl ha t := by
  have hat : psn pl ha t ≤ pl 0 := fi_le _ _
  have lo := fun s (q : s < psn pl ha t) => psn_lo q
  generalize psn pl ha t = at_ at hat lo ⊢
  have e : fi (fun s => decide (oS (cm sg pl at_ t ha S c F) s 1 = ha ∧ oS (cm sg pl at_ t ha S c F) s 0 = t)) (pl 0 + 1) = at_ := by
    refine fi_eq (by omega) (decide_eq_true ?_) fun j hj => decide_eq_false fun z => ?_
    · rw [cm_at hat (by omega), cm_at hat (by omega)]
      exact ⟨rfl, rfl⟩
    · rw [cm_dn (by omega) (by omega) (by omega), cm_dn (by omega) (by omega) (by omega)] at z
      unfold dn at z
      rw [if_pos hj] at z
      exact lx_ne (lo j hj) ⟨z.2, z.1⟩
  unfold nAt
  rw [cm_n, e, if_pos (by omega)]
/-- a service without its cast is a new one in the plan without it -/
theorem blank_eq {sg pl : Nat → Nat} (hs : SB sg) {s q f : Nat} (hsn : s < pl 0) (hq : q < pl 0) (hf : f < 34) : insB (rawP sg (off pl s)) s (oS pl s 0) (oS pl s 1) (oS pl s 2) (oS pl s 3) q f = if q = s ∧ 4 ≤ f then 4294967295 else rawP sg pl q f := by
  unfold insB
  have raw : ∀ r, r < pl 0 - 1 → ∀ q, (∀ f, f < 34 → oS (off pl s) r f = oS pl q f) → rawP sg (off pl s) r f = rawP sg pl q f := fun r hr q h => by
    by_cases c0 : f < 4
    · rw [rawP_lo _ _ _ c0, rawP_lo _ _ _ c0, h f hf]
    · obtain ⟨i, rfl⟩ : ∃ i, f = 4 + i := ⟨f - 4, by omega⟩
      rw [rawP_hi, rawP_hi]
      exact cs_cong hs h (by omega)
  by_cases c1 : q < s
  · rw [if_pos c1, if_neg (fun z => by omega)]
    exact raw q (by omega) q fun f hf => by rw [off_S pl (by omega) hf, if_pos c1]
  · rw [if_neg c1]
    by_cases c2 : q = s
    · subst c2
      rw [if_pos rfl]
      by_cases c4 : 4 ≤ f
      · have e : blk (oS pl q 0) (oS pl q 1) (oS pl q 2) (oS pl q 3) f = 4294967295 := by
          unfold blk
          rw [if_neg (by omega), if_neg (by omega), if_neg (by omega), if_neg (by omega)]
        rw [e, if_pos ⟨rfl, c4⟩]
      · rw [if_neg (c := q = q ∧ 4 ≤ f) (fun z => c4 z.2), rawP_lo _ _ _ (by omega)]
        rcases (show f = 0 ∨ f = 1 ∨ f = 2 ∨ f = 3 by omega) with rfl | rfl | rfl | rfl <;> rfl
    · rw [if_neg c2, if_neg (fun z => c2 z.1)]
      exact raw (q - 1) (by omega) q fun f hf => by rw [off_S pl (by omega) hf, if_neg (by omega), show q - 1 + 1 = q by omega]
/-- a plan with a service cast anew -/
def rcP (sg pl : Nat → Nat) (s : Nat) : Nat → Nat := cm sg (off pl s) s (oS pl s 0) (oS pl s 1) (oS pl s 3) (oS pl s 2) (free sg (off pl s) (oS pl s 0))
theorem PGrc {sg pl : Nat → Nat} (hs : SB sg) (h : PG sg pl) {s : Nat} (hsn : s < pl 0) : PG sg (rcP sg pl s) := by
  have g := PGoff hs h hsn
  obtain ⟨a1, a2, a3⟩ := again hs h hsn
  obtain ⟨⟨b1, b2, b3, b4⟩, -⟩ := h.1.2.2 s hsn
  have n := h.1.n
  have r := PGcm hs g (by rw [off_n]; omega) b1 b2 b3 b4 a1 a2
  rw [a3] at r
  exact r
/-- another contract -/
def ctP (pl : Nat → Nat) (p k : Nat) : Nat → Nat := fun i => if i = 1 + p then k else pl i
theorem ct_S (pl : Nat → Nat) {p k : Nat} (hp : p < 8) : oS (ctP pl p k) = oS pl := by
  funext s f
  unfold oS ctP
  rw [if_neg (by omega)]
theorem ct_0 (pl : Nat → Nat) (p k : Nat) : ctP pl p k 0 = pl 0 := if_neg (by omega)
theorem ct_in (sg pl : Nat → Nat) {p k : Nat} (hp : p < 8) : inS sg (ctP pl p k) = inS sg pl := by
  funext s
  unfold inS
  have e : inW sg (ctP pl p k) s = inW sg pl s := by
    funext w a
    unfold inW
    rw [ct_S pl hp]
  rw [e]
theorem PGct {sg pl : Nat → Nat} (h : PG sg pl) {p k : Nat} (hp : p < 8) (hk : k ≤ 40) : PG sg (ctP pl p k) := by
  obtain ⟨⟨h1, h2, h3⟩, h4⟩ := h
  refine ⟨⟨by rw [ct_0]; exact h1, fun q hq => ?_, ?_⟩, ?_⟩
  · unfold ctP
    by_cases c : 1 + q = 1 + p
    · rw [if_pos c]; exact hk
    · rw [if_neg c]; exact h2 q hq
  · rw [ct_0, ct_S pl hp]; exact h3
  · unfold PV at h4 ⊢
    rw [ct_0, ct_S pl hp, ct_in sg pl hp]; exact h4