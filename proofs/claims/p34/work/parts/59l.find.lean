/-! find -/
/-- the byte at i, or -1 behind the text -/
def bt (L : Nat) (bf : Nat → Int32) (i : Nat) : Nat := if i < L then ub (bf i) else 4294967295
theorem bt_lt {L : Nat} {bf : Nat → Int32} {i : Nat} (h : i < L) : bt L bf i = ub (bf i) := if_pos h
theorem bt_ge {L : Nat} {bf : Nat → Int32} {i : Nat} (h : L ≤ i) : bt L bf i = 4294967295 := if_neg (by omega)
/-- the text in the model -/
def TX (m L : Nat) (bf : Nat → Int32) (M : Mm) : Prop := zk M m = 8 ∧ zR M m 4 = some (m + 4) ∧ zk M (m + 4) = 9 ∧ zl M (m + 4) = 600 ∧ zI M m 6 = nI L ∧ L ≤ 600 ∧ ∀ i, i < L → zI M (m + 4) i = bf i ∧ (bf i).toInt8.toInt32 = bf i
/-- only cells of R, and the long cells of m -/
def FrJ (m : Nat) (R : Nat → Prop) (M M' : Mm) : Prop := zn M' = zn M ∧ zk M' = zk M ∧ zl M' = zl M ∧ zR M' = zR M ∧ (∀ b, ¬ R b → zI M' b = zI M b) ∧ ∀ b, b ≠ m → zJ M' b = zJ M b
theorem FrJ.rf {m : Nat} {R : Nat → Prop} {M : Mm} : FrJ m R M M := ⟨rfl, rfl, rfl, rfl, fun _ _ => rfl, fun _ _ => rfl⟩
theorem FrJ.trans {m : Nat} {R : Nat → Prop} {M M1 M2 : Mm} (h : FrJ m R M M1) (k : FrJ m R M1 M2) : FrJ m R M M2 :=
  ⟨k.1.trans h.1, k.2.1.trans h.2.1, k.2.2.1.trans h.2.2.1, k.2.2.2.1.trans h.2.2.2.1, fun b hb => (k.2.2.2.2.1 b hb).trans (h.2.2.2.2.1 b hb), fun b hb => (k.2.2.2.2.2 b hb).trans (h.2.2.2.2.2 b hb)⟩
theorem FrI.toJ {m : Nat} {R : Nat → Prop} {M M' : Mm} (h : FrI R M M') : FrJ m R M M' := ⟨h.n, h.k, h.l, h.r, fun _ hb => h.i hb, fun b _ => by rw [h.j]⟩
theorem FrJ.mono {m : Nat} {R S : Nat → Prop} {M M' : Mm} (h : FrJ m R M M') (d : ∀ b, R b → S b) : FrJ m S M M' := ⟨h.1, h.2.1, h.2.2.1, h.2.2.2.1, fun b hb => h.2.2.2.2.1 b fun q => hb (d b q), h.2.2.2.2.2⟩
theorem FrJ.sJ {m i : Nat} {R : Nat → Prop} {M : Mm} {v : Int64} : FrJ m R M (sJ M m i v) := ⟨rfl, rfl, rfl, rfl, fun _ _ => rfl, fun b hb => by
  funext j; exact if_neg fun q => hb q.1⟩
theorem FrJ.sI {m i : Nat} {M : Mm} {v : Int32} : FrJ m (fun b => b = m) M (sI M m i v) := (FrI.sI (R := fun b => b = m) rfl).toJ
theorem zJ_sJ1 (M : Mm) (a i : Nat) (v : Int64) : zJ (sJ M a i v) a i = v := if_pos ⟨rfl, rfl⟩
theorem TX.fr {m L : Nat} {bf : Nat → Int32} {M M' : Mm} (h : TX m L bf M) (f : FrJ m (fun b => b = m) M M') (g : zI M' m 6 = zI M m 6) : TX m L bf M' := by
  obtain ⟨h1, h2, h3, h4, h5, h6, h7⟩ := h
  refine ⟨by rw [f.2.1]; exact h1, by rw [f.2.2.2.1]; exact h2, by rw [f.2.1]; exact h3, by rw [f.2.2.1]; exact h4, by rw [g]; exact h5, h6, ?_⟩
  rw [f.2.2.2.2.1 (m + 4) (by omega)]
  exact h7
section TXS
variable {m L : Nat} {bf : Nat → Int32} {M : Mm}
theorem bt_b {i : Nat} (h : TX m L bf M) (hi : i < L) : bt L bf i < 256 := by
  rw [bt_lt hi]
  exact (ub_ok (h.2.2.2.2.2.2 i hi).2).1
theorem m1_lt {k : Nat} (h : k < 1000) : (nI 4294967295 < nI k) = True := by
  refine eq_true ?_
  rw [lt_iff32]
  have e : (nI 4294967295).toInt = -1 := rfl
  rw [e, nI_toInt (by omega)]
  omega
theorem lt_m1 : lt 4294967295 = false := by decide
/-- a byte between -/
def wi (lo hi a : Nat) : Bool := decide (lo ≤ a ∧ a ≤ hi)
/-- the letters from p on -/
def rn (L : Nat) (bf : Nat → Int32) (p : Nat) : Nat := fi (fun i => !lt (bt L bf (p + i))) (L - p)
def wd (bf : Nat → Int32) (p k : Nat) : List Nat := (List.range k).map (fun i => ub (bf (p + i)))
theorem wd_s (bf : Nat → Int32) (p k : Nat) : wd bf p (k + 1) = wd bf p k ++ [ub (bf (p + k))] := by
  unfold wd; rw [List.range_succ, List.map_append]; rfl
theorem rn_no (L : Nat) (bf : Nat → Int32) (p : Nat) : lt (bt L bf (p + rn L bf p)) = false := by
  have l := fi_le (fun i => !lt (bt L bf (p + i))) (L - p)
  unfold rn
  by_cases c : fi (fun i => !lt (bt L bf (p + i))) (L - p) < L - p
  · have y := fi_yes _ _ c
    revert y
    cases lt (bt L bf (p + fi (fun i => !lt (bt L bf (p + i))) (L - p))) <;> intro y
    · rfl
    · cases y
  · rw [bt_ge (by omega)]; rfl
theorem rn_in (L : Nat) (bf : Nat → Int32) (p : Nat) {i : Nat} (h : i < rn L bf p) : p + i < L ∧ lt (ub (bf (p + i))) = true := by
  have l := fi_le (fun i => !lt (bt L bf (p + i))) (L - p)
  have n := fi_no _ _ i h
  unfold rn at h
  have e : p + i < L := by omega
  try dsimp only at n
  rw [bt_lt e] at n
  revert n
  cases lt (ub (bf (p + i))) <;> intro n
  · cases n
  · exact ⟨e, rfl⟩
theorem lt_wi (a : Nat) : wi 97 122 a = lt a := rfl
/-- the spaces from p on -/
def sps (L : Nat) (bf : Nat → Int32) (p : Nat) : Nat := fi (fun i => !decide (bt L bf (p + i) = 32)) (L - p)
theorem sps_no (L : Nat) (bf : Nat → Int32) (p : Nat) : ¬ bt L bf (p + sps L bf p) = 32 := by
  have l := fi_le (fun i => !decide (bt L bf (p + i) = 32)) (L - p)
  unfold sps
  by_cases c : fi (fun i => !decide (bt L bf (p + i) = 32)) (L - p) < L - p
  · exact nd_f (fi_yes _ _ c)
  · rw [bt_ge (by omega)]; omega
theorem sps_in (L : Nat) (bf : Nat → Int32) (p : Nat) {i : Nat} (h : i < sps L bf p) : p + i < L ∧ ub (bf (p + i)) = 32 := by
  have l := fi_le (fun i => !decide (bt L bf (p + i) = 32)) (L - p)
  have n := nd_t (fi_no _ _ i h)
  unfold sps at h
  have e : p + i < L := by omega
  rw [bt_lt e] at n
  exact ⟨e, n⟩
theorem sps_le (L : Nat) (bf : Nat → Int32) (p : Nat) (hp : p ≤ L) : p + sps L bf p ≤ L := by
  have l := fi_le (fun i => !decide (bt L bf (p + i) = 32)) (L - p)
  unfold sps; omega
theorem rn_le (L : Nat) (bf : Nat → Int32) (p : Nat) (hp : p ≤ L) : p + rn L bf p ≤ L := by
  have l := fi_le (fun i => !lt (bt L bf (p + i))) (L - p)
  unfold rn; omega
theorem bt32 (h : TX m L bf M) (i : Nat) : (nI (bt L bf i) = nI 32) = (bt L bf i = 32) := by
  by_cases c : bt L bf i = 32
  · rw [n_eqT c, eq_true c]
  · have : bt L bf i < 4294967296 := by
      by_cases d : i < L
      · exact Nat.lt_trans (bt_b h d) (by omega)
      · rw [bt_ge (by omega)]; omega
    rw [n_eqF c this (by omega), eq_false c]
end TXS
/-- the text is a word of k letters and spaces -/
def WW (L : Nat) (bf : Nat → Int32) (k : Nat) : Prop := 1 ≤ k ∧ k ≤ 8 ∧ k ≤ L ∧ (∀ i, i < k → lt (ub (bf i)) = true) ∧ ∀ i, k ≤ i → i < L → ub (bf i) = 32
theorem lt32 {a : Nat} (h : lt a = true) (e : a = 32) : False := by
  subst e; exact absurd h (by decide)
theorem WW.ok {L : Nat} {bf : Nat → Int32} {k : Nat} (h : WW L bf k) : NameOK (wd bf 0 k) := by
  obtain ⟨h1, h2, h3, h4, h5⟩ := h
  have e : (wd bf 0 k).length = k := by unfold wd; rw [List.length_map, List.length_range]
  refine ⟨by omega, by omega, fun l hl => ?_⟩
  unfold wd at hl
  obtain ⟨i, hi, rfl⟩ := List.mem_map.mp hl
  rw [List.mem_range] at hi
  have q := of_decide_eq_true (h4 i hi)
  rw [Nat.zero_add]
  exact q
theorem c5n {w : List Nat} {l : Nat} (h : 97 ≤ l) : c5 (w ++ [l]) = (c5 w <<< ((nI 5).toInt64 &&& 63)) ||| (nI (l - 97 + 1)).toInt64 := by
  rw [c5_s]
  have e : (nI l - (97 : Int32)) + (1 : Int32) = nI (l - 97 + 1) := by
    rw [l_97, l_1, n_sub h, nI_add]
  rw [e]; rfl