/-! TOKENS of a text that is known -/
/-- what is left of the text at p -/
def Rs (tx : List Nat) (p : Nat) (R : List Nat) : Prop := p + R.length = tx.length ∧ ∀ i, i < R.length → tx.getD (p + i) 0 = R.getD i 0
theorem Rs.app {tx A R : List Nat} {p : Nat} (h : Rs tx p (A ++ R)) : Rs tx (p + A.length) R := by
  obtain ⟨h1, h2⟩ := h
  rw [List.length_append] at h1 h2
  refine ⟨by omega, fun i hi => ?_⟩
  have k := h2 (A.length + i) (by omega)
  rw [getD_r (by omega), Nat.add_sub_cancel_left] at k
  rw [Nat.add_assoc]; exact k
theorem Rs.at {tx A R : List Nat} {p : Nat} (h : Rs tx p (A ++ R)) {i : Nat} (hi : i < A.length) : tx.getD (p + i) 0 = A.getD i 0 := by
  obtain ⟨h1, h2⟩ := h
  rw [List.length_append] at h1 h2
  rw [h2 i (by omega), getD_l hi]
theorem Rs.mk0 (A R : List Nat) : Rs (A ++ R) A.length R := ⟨by rw [List.length_append], fun i hi => by rw [getD_r (by omega), Nat.add_sub_cancel_left]⟩
/-- the bytes of the text -/
def Bts (tx : List Nat) (bf : Nat → Int32) : Prop := (∀ k, k ∈ tx → k < 128) ∧ ∀ j, j < tx.length → bf j = nI (tx.getD j 0)
theorem ub_k : ∀ k, k < 128 → ub (nI k) = k := by decide +kernel
theorem mem_getD {l : List Nat} {i : Nat} (h : i < l.length) : l.getD i 0 ∈ l := by
  rw [List.getD_eq_getElem?_getD, List.getElem?_eq_getElem h]
  exact List.getElem_mem _
section TK
variable {tx A R : List Nat} {bf : Nat → Int32} {p : Nat}
theorem Bts.bt (h : Bts tx bf) {i : Nat} (hi : i < tx.length) : bt tx.length bf i = tx.getD i 0 := by
  rw [bt_lt hi, h.2 i hi, ub_k _ (h.1 _ (mem_getD hi))]
theorem Bts.ub (h : Bts tx bf) {i : Nat} (hi : i < tx.length) : ub (bf i) = tx.getD i 0 := by
  rw [h.2 i hi, ub_k _ (h.1 _ (mem_getD hi))]
/-- how far a run goes -/
theorem run_of (h : Bts tx bf) (f : Nat → Bool) (hr : Rs tx p (A ++ R)) (hA : ∀ k, k ∈ A → f k = true) (hR : R = [] ∨ f (R.getD 0 0) = false) : run f tx.length bf p = A.length := by
  have l := hr.1
  rw [List.length_append] at l
  unfold run
  have key : ∀ i, i < A.length → (!f (bt tx.length bf (p + i))) = false := fun i hi => by
    rw [h.bt (by omega), hr.at hi, hA _ (mem_getD hi)]; rfl
  by_cases e : R = []
  · subst e
    have l0 : tx.length - p = A.length := by have : ([] : List Nat).length = 0 := rfl; omega
    rw [l0]
    have b := fi_le (fun i => !f (bt tx.length bf (p + i))) A.length
    rcases Nat.lt_or_ge (fi (fun i => !f (bt tx.length bf (p + i))) A.length) A.length with c | c
    · have y := fi_yes _ _ c
      have k := key _ c
      rw [k] at y; cases y
    · omega
  · have hR := hR.resolve_left e
    have r1 : 1 ≤ R.length := List.length_pos_iff.mpr e
    refine fi_eq (by omega) ?_ key
    have k := hr.app.2 0 (by omega)
    rw [Nat.add_zero] at k
    rw [h.bt (by omega), k, hR]; rfl
theorem blnk_s : ∀ k, k ∈ [32] → blnk k = true := by decide
/-- where a token starts, with a space or none ahead -/
theorem tS_of (h : Bts tx bf) (sp : List Nat) (hsp : sp = [] ∨ sp = [32]) (hr : Rs tx p (sp ++ (A ++ R))) (hA : A ≠ []) (hb : blnk (A.getD 0 0) = false) : tS tx.length bf p = p + sp.length := by
  unfold tS
  have e : A ++ R = [] ∨ blnk ((A ++ R).getD 0 0) = false := Or.inr (by rw [getD_l (List.length_pos_iff.mpr hA)]; exact hb)
  rw [run_of h blnk hr (fun k hk => by rcases hsp with q | q <;> subst q <;> first | exact blnk_s k hk | cases hk) e]
theorem tok_word (h : Bts tx bf) (sp : List Nat) (hsp : sp = [] ∨ sp = [32]) {w : List Nat} (hr : Rs tx p (sp ++ (w ++ R))) (hw : w ≠ []) (hl : w.length ≤ 8) (hA : ∀ k, k ∈ w → lt k = true) (hR : R = [] ∨ lt (R.getD 0 0) = false) : tK tx.length bf p = 1 ∧ tW tx.length bf p = w ∧ tN tx.length bf p = p + sp.length + w.length ∧ Rs tx (p + sp.length + w.length) R := by
  have wp : 1 ≤ w.length := List.length_pos_iff.mpr hw
  have m0 := mem_getD (l := w) (i := 0) wp
  have l0 := hA _ m0
  have nb : blnk (w.getD 0 0) = false := by
    have := of_decide_eq_true l0
    exact decide_eq_false (by omega)
  have es := tS_of h sp hsp hr hw nb
  have r1 := hr.app
  have rw_ := run_of h lt r1 hA hR
  have len := r1.1
  rw [List.length_append] at len
  have b0 : bt tx.length bf (p + sp.length) = w.getD 0 0 := by
    have k := r1.at (i := 0) wp
    rw [Nat.add_zero] at k
    rw [h.bt (by omega), k]
  refine ⟨?_, ?_, ?_, r1.app⟩
  · unfold tK
    rw [es, if_neg (by omega), b0, if_pos l0, rw_, if_pos hl]
  · unfold tW wd
    rw [es, rw_]
    refine List.ext_getElem (by rw [List.length_map, List.length_range]) fun i h1 h2 => ?_
    rw [List.getElem_map, List.getElem_range, h.ub (by omega), r1.at h2, List.getD_eq_getElem?_getD, List.getElem?_eq_getElem h2]
    rfl
  · unfold tN
    rw [es, if_neg (by omega), b0, if_pos l0, rw_]
theorem dig_d {v : Nat} (hv : v < 1000) : ∀ k, k ∈ dig v → dgt k = true ∧ lt k = false := by
  intro k hk
  have q : 48 ≤ k ∧ k ≤ 57 := by
    unfold dig at hk
    split at hk
    · rw [List.mem_singleton] at hk; omega
    · split at hk
      · simp only [List.mem_cons, List.not_mem_nil, or_false] at hk; omega
      · simp only [List.mem_cons, List.not_mem_nil, or_false] at hk; omega
  exact ⟨decide_eq_true q, decide_eq_false (by omega)⟩
theorem dv_dig (h : Bts tx bf) {v : Nat} (hv : v < 1000) (hr : Rs tx p (dig v ++ R)) : dv bf p (dig v).length = v := by
  have len := hr.1
  rw [List.length_append] at len
  have g : ∀ i, i < (dig v).length → ub (bf (p + i)) = (dig v).getD i 0 := fun i hi => by rw [h.ub (by omega), hr.at hi]
  unfold dig at g ⊢
  by_cases q1 : v < 10
  · rw [if_pos q1] at g ⊢
    have g0 := g 0 (by show 0 < 1; omega)
    show 10 * 0 + (ub (bf (p + 0)) - 48) = v
    rw [g0]
    show 10 * 0 + (48 + v - 48) = v
    omega
  · rw [if_neg q1] at g ⊢
    by_cases q2 : v < 100
    · rw [if_pos q2] at g ⊢
      have g0 := g 0 (by show 0 < 2; omega)
      have g1 := g 1 (by show 1 < 2; omega)
      show 10 * (10 * 0 + (ub (bf (p + 0)) - 48)) + (ub (bf (p + 1)) - 48) = v
      rw [g0, g1]
      show 10 * (10 * 0 + (48 + v / 10 - 48)) + (48 + v % 10 - 48) = v
      omega
    · rw [if_neg q2] at g ⊢
      have g0 := g 0 (by show 0 < 3; omega)
      have g1 := g 1 (by show 1 < 3; omega)
      have g2 := g 2 (by show 2 < 3; omega)
      show 10 * (10 * (10 * 0 + (ub (bf (p + 0)) - 48)) + (ub (bf (p + 1)) - 48)) + (ub (bf (p + 2)) - 48) = v
      rw [g0, g1, g2]
      show 10 * (10 * (10 * 0 + (48 + v / 100 - 48)) + (48 + v / 10 % 10 - 48)) + (48 + v % 10 - 48) = v
      omega
theorem tok_num (h : Bts tx bf) (sp : List Nat) (hsp : sp = [] ∨ sp = [32]) {v : Nat} (hv : v < 1000) (hr : Rs tx p (sp ++ (dig v ++ R))) (hR : R = [] ∨ dgt (R.getD 0 0) = false) : tK tx.length bf p = 2 ∧ tV tx.length bf p = v ∧ tN tx.length bf p = p + sp.length + (dig v).length ∧ Rs tx (p + sp.length + (dig v).length) R := by
  obtain ⟨d1, d2, d3⟩ := dig_len hv
  have hw : dig v ≠ [] := fun e => by rw [e] at d1; exact absurd d1 (by decide)
  have m0 := mem_getD (l := dig v) (i := 0) d1
  obtain ⟨l0, n0⟩ := dig_d hv _ m0
  have nb : blnk ((dig v).getD 0 0) = false := by
    have := of_decide_eq_true l0
    exact decide_eq_false (by omega)
  have es := tS_of h sp hsp hr hw nb
  have r1 := hr.app
  have rw_ := run_of h dgt r1 (fun k hk => (dig_d hv k hk).1) hR
  have len := r1.1
  rw [List.length_append] at len
  have b0 : bt tx.length bf (p + sp.length) = (dig v).getD 0 0 := by
    have k := r1.at (i := 0) d1
    rw [Nat.add_zero] at k
    rw [h.bt (by omega), k]
  refine ⟨?_, ?_, ?_, r1.app⟩
  · unfold tK
    rw [es, if_neg (by omega), b0, if_neg (by rw [n0]; exact Bool.false_ne_true), if_pos l0, rw_, if_pos d2]
  · unfold tV
    rw [es, rw_]
    exact dv_dig h hv r1
  · unfold tN
    rw [es, if_neg (by omega), b0, if_neg (by rw [n0]; exact Bool.false_ne_true), if_pos l0, rw_]
theorem tok_semi (h : Bts tx bf) (hr : Rs tx p (59 :: R)) : tK tx.length bf p = 3 ∧ tN tx.length bf p = p + 1 ∧ Rs tx (p + 1) R := by
  have r1 : Rs tx p ([] ++ ([59] ++ R)) := hr
  have es := tS_of h [] (Or.inl rfl) r1 (by decide) (by decide)
  have e0 : p + ([] : List Nat).length = p := rfl
  rw [e0] at es
  have r2 : Rs tx p ([59] ++ R) := hr
  have len := r2.1
  rw [List.length_append] at len
  have l1 : [59].length = 1 := rfl
  have b0 : bt tx.length bf p = 59 := by
    have k := r2.at (i := 0) (by decide)
    rw [Nat.add_zero] at k
    rw [h.bt (by omega), k]; rfl
  refine ⟨?_, ?_, r2.app⟩
  · unfold tK
    rw [es, if_neg (by omega), b0]; rfl
  · unfold tN
    rw [es, if_neg (by omega), b0]; rfl
theorem tok_end (h : Bts tx bf) (hr : Rs tx p []) : tK tx.length bf p = 0 := by
  have l := hr.1
  have e : ([] : List Nat).length = 0 := rfl
  unfold tK tS
  have r0 : run blnk tx.length bf p = 0 := by
    unfold run
    rw [show tx.length - p = 0 by omega]; rfl
  rw [r0, if_pos (by omega)]
end TK
