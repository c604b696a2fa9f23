/-! find on both sides -/
def wJ (M : Mm) (j : Nat → Nat → Int64) : Mm := (M.1, M.2.1, M.2.2.1, M.2.2.2.1, j, M.2.2.2.2.2)
theorem FrJ.toI {m : Nat} {R : Nat → Prop} {M M' : Mm} (h : FrJ m R M M') : FrI R M (wJ M' (zJ M)) := ⟨h.1, h.2.1, h.2.2.1, rfl, h.2.2.2.1, h.2.2.2.2.1⟩
def sgc (sg : Nat → Nat) (c : Nat) : Nat := sg (1 + c)
/-- the Season's names of category c -/
theorem CSea.names {sa : Nat} {sg : Nat → Nat} {nm : Nat → List Nat} {M : Mm} (h : CSea sa sg M) (hs : SB sg) (hN : CNm sa sg nm M) {c : Nat} (hc : c < 4) (r : Int64) (P : Int32 → Mm → Prop) : ∀ q : Int64 → Bool, (∀ j, j < sg (1 + c) → q (c5 (nm (8 * c + j))) = decide (c5 (nm (8 * c + j)) = r)) → P (fst (fun j => q (c5 (nm (8 * c + j)))) (sg (1 + c))) M →
    (c = 0 → w_X2_numberOf M (sa + 1) r P) ∧ (c = 1 → w_X2_numberOf M (sa + 4) r P) ∧ (c = 2 → w_X2_numberOf M (sa + 13) r P) ∧ (c = 3 → w_X2_numberOf M (sa + 11) r P) := by
  intro q hq p
  have s := h.1
  have n := h.n
  have b := hs.1
  obtain ⟨-, ⟨a1, a2, a3, a4, a5, a6, a7, a8, b1, b2, b3, b4⟩, -, l1, -, l2, -, -, -, -, -, l3, l4, -⟩ := s
  obtain ⟨n0, n1, n2, n3⟩ := hN
  refine ⟨fun e => ?_, fun e => ?_, fun e => ?_, fun e => ?_⟩
  · subst e
    rw [e_X2_numberOf a1 n.2.2.1 a2 b1 l1 (by omega) (by omega), fst_congr (q := fun j => q (c5 (nm (8 * 0 + j)))) fun k hk => by rw [hq k hk, n0 k hk, Nat.mul_zero, Nat.zero_add]]
    exact p
  · subst e
    rw [e_X2_numberOf a3 n.2.2.2.1 a4 b2 l2 (by omega) (by omega), fst_congr (q := fun j => q (c5 (nm (8 * 1 + j)))) fun k hk => by rw [hq k hk, n1 k hk]]
    exact p
  · subst e
    rw [e_X2_numberOf a7 n.2.2.2.2.1 a8 b4 l4 (by omega) (by omega), fst_congr (q := fun j => q (c5 (nm (8 * 2 + j)))) fun k hk => by rw [hq k hk, n2 k hk]]
    exact p
  · subst e
    rw [e_X2_numberOf a5 n.2.2.2.2.2 a6 b3 l3 (by omega) (by omega), fst_congr (q := fun j => q (c5 (nm (8 * 3 + j)))) fun k hk => by rw [hq k hk, n3 k hk]]
    exact p
theorem nameOK4 {sg : Nat → Nat} {nm : Nat → List Nat} (nm1 : ∀ k, k < sg 1 → NameOK (nm k)) (nm2 : ∀ k, k < sg 2 → NameOK (nm (8 + k))) (nm3 : ∀ k, k < sg 3 → NameOK (nm (16 + k))) (nm4 : ∀ k, k < sg 4 → NameOK (nm (24 + k))) {c : Nat} (hc : c < 4) : ∀ j, j < sg (1 + c) → NameOK (nm (8 * c + j)) := by
  intro j hj
  rcases (show c = 0 ∨ c = 1 ∨ c = 2 ∨ c = 3 by omega) with rfl | rfl | rfl | rfl
  · rw [Nat.mul_zero, Nat.zero_add]; exact nm1 j hj
  · exact nm2 j hj
  · exact nm3 j hj
  · exact nm4 j hj
theorem mnm4 {m : Nat} {sg : Nat → Nat} {nm : Nat → List Nat} {M : Mm} (h : MNm m sg nm M) {c : Nat} (hc : c < 4) : ∀ j, j < sg (1 + c) → zJ M (m + 3) (8 * c + j) = c8 (nm (8 * c + j)) := by
  obtain ⟨n0, n1, n2, n3⟩ := h
  intro j hj
  rcases (show c = 0 ∨ c = 1 ∨ c = 2 ∨ c = 3 by omega) with rfl | rfl | rfl | rfl
  · rw [Nat.mul_zero, Nat.zero_add]; exact n0 j hj
  · exact n1 j hj
  · exact n2 j hj
  · exact n3 j hj
theorem fst_none {p : Nat → Bool} {n : Nat} (h : ∀ k, k < n → p k = false) : fst p n = nI 4294967295 := by
  unfold fst
  have l := fi_le p n
  by_cases c : fi p n < n
  · have y := fi_yes p n c
    rw [h _ c] at y
    cases y
  · rw [if_neg c]