/-! THE STATE OF BOTH SIDES: season, plan, what can be undone, slots, buffer, the last error's place, names -/
def c5 (wd : List Nat) : Int64 := wd.foldl (fun c l => (c <<< ((5 : Int32).toInt64 &&& 63)) ||| ((nI l - (97 : Int32)) + (1 : Int32)).toInt64) 0
def c8 (wd : List Nat) : Int64 := wd.foldl (fun c l => (c <<< ((8 : Int32).toInt64 &&& 63)) ||| (nI l).toInt64) 0
def NameOK (wd : List Nat) : Prop := 1 ≤ wd.length ∧ wd.length ≤ 8 ∧ ∀ l, l ∈ wd → 97 ≤ l ∧ l ≤ 122
abbrev ST : Type := (Nat → Nat) × (Nat → Nat) × Nat × (Nat → Nat → Nat) × (Nat → Bool) × (Nat → Nat → Nat) × Nat × (Nat → Int32) × Nat × (Nat → List Nat)
def CBu (x bl : Nat) (bf : Nat → Int32) (ep : Nat) (M : Mm) : Prop := zI M x 7 = nI bl ∧ zI M x 8 = nI ep ∧ ∀ i, i < bl → zI M (x + 1) i = bf i
def CNm (sa : Nat) (sg : Nat → Nat) (nm : Nat → List Nat) (M : Mm) : Prop := (∀ k, k < sg 1 → zJ M (sa + 2) k = c5 (nm k)) ∧ (∀ k, k < sg 2 → zJ M (sa + 5) k = c5 (nm (8 + k))) ∧ (∀ k, k < sg 3 → zJ M (sa + 14) k = c5 (nm (16 + k))) ∧ ∀ k, k < sg 4 → zJ M (sa + 12) k = c5 (nm (24 + k))
def OKs (s : ST) : Prop := match s with
  | (sg, pl, hn, hl, sv, sl, bl, bf, ep, nm) => SB sg ∧ PG sg pl ∧ hn ≤ 10 ∧ (∀ i, i < hn → PG sg (hl i)) ∧ (∀ i, i < 2 → sv i = true → PG sg (sl i)) ∧ bl ≤ 600 ∧ (∀ i, i < bl → (bf i).toInt8.toInt32 = bf i) ∧ ep < 4294967296 ∧ (∀ k, k < sg 1 → NameOK (nm k)) ∧ (∀ k, k < sg 2 → NameOK (nm (8 + k))) ∧ (∀ k, k < sg 3 → NameOK (nm (16 + k))) ∧ ∀ k, k < sg 4 → NameOK (nm (24 + k))
def CI (x : Nat) (s : ST) (M : Mm) : Prop := match s with
  | (sg, pl, hn, hl, sv, sl, bl, bf, ep, nm) => hn ≤ 10 ∧ ∃ sa sp hp, XS x sa sp M ∧ CSea sa sg M ∧ SeaSh sp M ∧ CPl (x + 6) sg pl M ∧ PlanSh M (x + 13) ∧ CHi x hn hl hp sg M ∧ CSn x sv sl sg M ∧ CBu x bl bf ep M ∧ CNm sa sg nm M ∧ KP (x + 2) M
def MHi (m hn : Nat) (hl : Nat → Nat → Nat) (M : Mm) : Prop := zI M m 24 = nI hn ∧ ∀ i, i < hn → ∀ k, k < 689 → zI M (m + 11) (689 * i + k) = nI (hl i k)
def MSn (m : Nat) (sv : Nat → Bool) (sl : Nat → Nat → Nat) (M : Mm) : Prop := ∀ i, i < 2 → zI M (m + 13) i = bI (sv i) ∧ (sv i = true → ∀ k, k < 689 → zI M (m + 12) (689 * i + k) = nI (sl i k))
def MBu (m bl : Nat) (bf : Nat → Int32) (ep : Nat) (M : Mm) : Prop := zI M m 5 = nI bl ∧ zI M m 13 = nI ep ∧ ∀ i, i < bl → zI M (m + 4) i = bf i
def MNm (m : Nat) (sg : Nat → Nat) (nm : Nat → List Nat) (M : Mm) : Prop := (∀ k, k < sg 1 → zJ M (m + 3) k = c8 (nm k)) ∧ (∀ k, k < sg 2 → zJ M (m + 3) (8 + k) = c8 (nm (8 + k))) ∧ (∀ k, k < sg 3 → zJ M (m + 3) (16 + k) = c8 (nm (16 + k))) ∧ ∀ k, k < sg 4 → zJ M (m + 3) (24 + k) = c8 (nm (24 + k))
/-- the rest of the world: the cell of the law's out -/
def WO (x : Nat) (M : Mm) : Prop := x + 164 ≤ zn M ∧ zk M (x + 163) = 11 ∧ zl M (x + 163) = 1
/-- old cells outside of [lo, hi) are as they were -/
def FrG (lo hi : Nat) (M M' : Mm) : Prop := zn M ≤ zn M' ∧ ∀ b, b < zn M → ¬ (lo ≤ b ∧ b < hi) → zk M' b = zk M b ∧ zl M' b = zl M b ∧ zI M' b = zI M b ∧ zJ M' b = zJ M b ∧ zR M' b = zR M b
theorem FrG.rf {lo hi : Nat} {M : Mm} : FrG lo hi M M := ⟨Nat.le_refl _, fun _ _ _ => ⟨rfl, rfl, rfl, rfl, rfl⟩⟩
theorem FrG.trans {lo hi : Nat} {M M1 M2 : Mm} (h : FrG lo hi M M1) (k : FrG lo hi M1 M2) : FrG lo hi M M2 := by
  refine ⟨Nat.le_trans h.1 k.1, fun b hb hn => ?_⟩
  obtain ⟨a1, a2, a3, a4, a5⟩ := h.2 b hb hn
  obtain ⟨b1, b2, b3, b4, b5⟩ := k.2 b (Nat.lt_of_lt_of_le hb h.1) hn
  exact ⟨b1.trans a1, b2.trans a2, b3.trans a3, b4.trans a4, b5.trans a5⟩
theorem FrI.g {R : Nat → Prop} {lo hi : Nat} {M M' : Mm} (f : FrI R M M') (d : ∀ b, R b → lo ≤ b ∧ b < hi) : FrG lo hi M M' :=
  ⟨by rw [f.n]; exact Nat.le_refl _, fun b _ hn => ⟨by rw [f.k], by rw [f.l], f.i fun q => hn (d b q), by rw [f.j], by rw [f.r]⟩⟩
theorem FrX.g {x : Nat} {R : Nat → Prop} {lo hi : Nat} {M M' : Mm} (f : FrX x R M M') (d : ∀ b, R b → lo ≤ b ∧ b < hi) (d2 : lo ≤ x + 20 ∧ x + 20 < hi) : FrG lo hi M M' :=
  ⟨by rw [f.1]; exact Nat.le_refl _, fun b _ hn => ⟨by rw [f.k], by rw [f.l], f.i fun q => hn (d b q), by rw [f.j], f.r fun e => hn (by omega)⟩⟩
theorem FrG.sZ {lo hi : Nat} {M : Mm} {n : Nat} (h : zn M ≤ n) : FrG lo hi M (sZ M n) := ⟨h, fun _ _ _ => ⟨rfl, rfl, rfl, rfl, rfl⟩⟩
theorem zk_sZ (M : Mm) (n : Nat) : zk (sZ M n) = zk M := rfl
theorem zl_sZ (M : Mm) (n : Nat) : zl (sZ M n) = zl M := rfl
theorem zI_sZ (M : Mm) (n : Nat) : zI (sZ M n) = zI M := rfl
theorem zJ_sZ (M : Mm) (n : Nat) : zJ (sZ M n) = zJ M := rfl
theorem zR_sZ (M : Mm) (n : Nat) : zR (sZ M n) = zR M := rfl
theorem CI.sZ {x : Nat} {s : ST} {M : Mm} {n : Nat} (h : CI x s M) : CI x s (sZ M n) := h
theorem WO.frg {x lo hi : Nat} {M M' : Mm} (h : WO x M) (f : FrG lo hi M M') (hh : hi ≤ x + 163) : WO x M' := by
  obtain ⟨h1, h2, h3⟩ := h
  obtain ⟨a1, a2, -⟩ := f.2 (x + 163) (by omega) (by omega)
  exact ⟨Nat.le_trans h1 f.1, by rw [a1]; exact h2, by rw [a2]; exact h3⟩
/-- the class's state lives in the cells x to x + 148 -/
theorem CI.frg {x lo hi : Nat} {s : ST} {M M' : Mm} (h : CI x s M) (f : FrG lo hi M M') (hz : x + 149 ≤ zn M) (hl2 : x + 149 ≤ lo) : CI x s M' := by
  obtain ⟨sg, pl, hn, hl, sv, sl, bl, bf, ep, nm⟩ := s
  obtain ⟨h10, sa, sp, hp, h1, h2, h3, h4, h5, h6, h7, h8, h9, hk⟩ := h
  have at_ := h1.at
  have e : ∀ b, x ≤ b → b < x + 149 → zk M' b = zk M b ∧ zl M' b = zl M b ∧ zI M' b = zI M b ∧ zJ M' b = zJ M b ∧ zR M' b = zR M b := fun b b1 b2 => f.2 b (by omega) (by omega)
  have eP : ∀ a, x ≤ a → a + 6 < x + 149 → PlanSh M a → PlanSh M' a := fun a a1 a2 q => by
    unfold PlanSh at q ⊢
    rw [(e a (by omega) (by omega)).1, (e a (by omega) (by omega)).2.2.2.2, (e (a + 1) (by omega) (by omega)).1, (e (a + 2) (by omega) (by omega)).1, (e (a + 3) (by omega) (by omega)).1, (e (a + 4) (by omega) (by omega)).1, (e (a + 5) (by omega) (by omega)).1, (e (a + 6) (by omega) (by omega)).1,
      (e (a + 1) (by omega) (by omega)).2.1, (e (a + 2) (by omega) (by omega)).2.1, (e (a + 3) (by omega) (by omega)).2.1, (e (a + 4) (by omega) (by omega)).2.1, (e (a + 5) (by omega) (by omega)).2.1, (e (a + 6) (by omega) (by omega)).2.1]
    exact q
  have eC : ∀ a sg pl, x ≤ a → a + 6 < x + 149 → CPl a sg pl M → CPl a sg pl M' := fun a sg pl a1 a2 q => by
    obtain ⟨q1, q2⟩ := q
    refine ⟨eP a a1 a2 q1, ?_⟩
    rw [(e a (by omega) (by omega)).2.2.1, (e (a + 1) (by omega) (by omega)).2.2.1, (e (a + 2) (by omega) (by omega)).2.2.1, (e (a + 3) (by omega) (by omega)).2.2.1, (e (a + 4) (by omega) (by omega)).2.2.1, (e (a + 5) (by omega) (by omega)).2.2.1, (e (a + 6) (by omega) (by omega)).2.2.1]
    exact q2
  have eS : ∀ a, x ≤ a → a + 20 < x + 149 → SeaSh a M → SeaSh a M' := fun a a1 a2 q => by
    unfold SeaSh at q ⊢
    have k : ∀ i, i ≤ 20 → zk M' (a + i) = zk M (a + i) ∧ zl M' (a + i) = zl M (a + i) ∧ zR M' (a + i) = zR M (a + i) := fun i hi => ⟨(e _ (by omega) (by omega)).1, (e _ (by omega) (by omega)).2.1, (e _ (by omega) (by omega)).2.2.2.2⟩
    have k0 : zk M' a = zk M a ∧ zR M' a = zR M a := ⟨(e _ (by omega) (by omega)).1, (e _ (by omega) (by omega)).2.2.2.2⟩
    rw [k0.1, k0.2, (k 1 (by omega)).1, (k 2 (by omega)).1, (k 3 (by omega)).1, (k 4 (by omega)).1, (k 5 (by omega)).1, (k 6 (by omega)).1, (k 7 (by omega)).1, (k 8 (by omega)).1, (k 9 (by omega)).1, (k 10 (by omega)).1, (k 11 (by omega)).1, (k 12 (by omega)).1, (k 13 (by omega)).1, (k 14 (by omega)).1, (k 15 (by omega)).1, (k 16 (by omega)).1, (k 17 (by omega)).1, (k 18 (by omega)).1, (k 19 (by omega)).1, (k 20 (by omega)).1,
      (k 2 (by omega)).2.1, (k 3 (by omega)).2.1, (k 5 (by omega)).2.1, (k 6 (by omega)).2.1, (k 7 (by omega)).2.1, (k 8 (by omega)).2.1, (k 9 (by omega)).2.1, (k 10 (by omega)).2.1, (k 12 (by omega)).2.1, (k 14 (by omega)).2.1, (k 15 (by omega)).2.1, (k 16 (by omega)).2.1, (k 17 (by omega)).2.1, (k 18 (by omega)).2.1, (k 19 (by omega)).2.1, (k 20 (by omega)).2.1,
      (k 1 (by omega)).2.2, (k 4 (by omega)).2.2, (k 11 (by omega)).2.2, (k 13 (by omega)).2.2]
    exact q
  refine ⟨h10, sa, sp, hp, ?_, ?_, eS sp (by omega) (by omega) h3, eC _ _ _ (by omega) (by omega) h4, eP _ (by omega) (by omega) h5, ?_, ?_, ?_, ?_, hk.e (e (x + 2 + 3) (by omega) (by omega)).2.2.1⟩
  · obtain ⟨q1, q2, q3⟩ := h1
    unfold KS at q2
    have x0 := e x (by omega) (by omega)
    refine ⟨?_, ?_, q3⟩
    · rw [x0.1, x0.2.2.2.2, (e (x + 1) (by omega) (by omega)).1, (e (x + 1) (by omega) (by omega)).2.1, (e (x + 20) (by omega) (by omega)).1, (e (x + 20) (by omega) (by omega)).2.1, (e (x + 21) (by omega) (by omega)).1, (e (x + 21) (by omega) (by omega)).2.1, (e (x + 22) (by omega) (by omega)).1, (e (x + 22) (by omega) (by omega)).2.1]
      exact q1
    · unfold KS
      rw [(e (x + 2) (by omega) (by omega)).1, (e (x + 2) (by omega) (by omega)).2.2.2.2, (e (x + 2 + 1) (by omega) (by omega)).1, (e (x + 2 + 1) (by omega) (by omega)).2.1, (e (x + 2 + 2) (by omega) (by omega)).1, (e (x + 2 + 2) (by omega) (by omega)).2.1, (e (x + 2 + 3) (by omega) (by omega)).1, (e (x + 2 + 3) (by omega) (by omega)).2.1]
      exact q2
  · obtain ⟨q1, q2⟩ := h2
    refine ⟨eS sa (by omega) (by omega) q1, ?_⟩
    have k : ∀ i, i ≤ 20 → zI M' (sa + i) = zI M (sa + i) := fun i hi => (e _ (by omega) (by omega)).2.2.1
    rw [show zI M' sa = zI M sa from k 0 (by omega), k 1 (by omega), k 3 (by omega), k 4 (by omega), k 7 (by omega), k 8 (by omega), k 9 (by omega), k 10 (by omega), k 11 (by omega), k 13 (by omega), k 15 (by omega), k 16 (by omega), k 17 (by omega), k 18 (by omega), k 19 (by omega), k 20 (by omega)]
    exact q2
  · obtain ⟨q1, q2, q3, q4⟩ := h6
    refine ⟨fun i hi => ?_, q2, fun i hi => ?_, by rw [(e x (by omega) (by omega)).2.2.1]; exact q4⟩
    · obtain ⟨r1, r2, j, j1, j2⟩ := q1 i hi
      exact ⟨by rw [(e (x + 20) (by omega) (by omega)).2.2.2.2]; exact r1, eP _ (by omega) (by omega) r2, j, j1, j2⟩
    · obtain ⟨-, -, j, j1, j2⟩ := q1 i (by omega)
      exact eC _ _ _ (by omega) (by omega) (q3 i hi)
  · intro i hi
    obtain ⟨r1, r2, r3, r4⟩ := h7 i hi
    exact ⟨by rw [(e (x + 21) (by omega) (by omega)).2.2.2.2]; exact r1, eP _ (by omega) (by omega) r2, by rw [(e (x + 22) (by omega) (by omega)).2.2.1]; exact r3, fun t => eC _ _ _ (by omega) (by omega) (r4 t)⟩
  · unfold CBu at h8 ⊢
    rw [(e x (by omega) (by omega)).2.2.1, (e (x + 1) (by omega) (by omega)).2.2.1]
    exact h8
  · unfold CNm at h9 ⊢
    rw [(e (sa + 2) (by omega) (by omega)).2.2.2.1, (e (sa + 5) (by omega) (by omega)).2.2.2.1, (e (sa + 14) (by omega) (by omega)).2.2.2.1, (e (sa + 12) (by omega) (by omega)).2.2.2.1]
    exact h9
/-! copies in the model -/
section KP
variable {m hn : Nat} {sg pl : Nat → Nat} {hl : Nat → Nat → Nat} {M : Mm}
end KP
