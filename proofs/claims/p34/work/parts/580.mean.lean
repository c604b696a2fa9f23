/-! MEANING. The store's algebra; loops as states by a counter -/
/-- a loop: its state at the k-th turn is st k, it ends at the N-th -/
theorem lp {σ : Type} (L : Nat → σ → Prop) (st : Nat → σ) (N : Nat) (hx : ∀ n, L (n + 1) (st N)) (hs : ∀ n k, k < N → L n (st (k + 1)) → L (n + 1) (st k)) : ∃ n, L n (st 0) := by
  have key : ∀ d k, k + d = N → L (d + 1) (st k) := by
    intro d
    induction d with
    | zero => intro k hk; rw [show k = N by omega]; exact hx 0
    | succ d ih => intro k hk; exact hs (d + 1) k (by omega) (ih (k + 1) (by omega))
  exact ⟨N + 1, key N 0 (by omega)⟩
/-- the same from a place a on -/
theorem lpf {σ : Type} (L : Nat → σ → Prop) (st : Nat → σ) (a N : Nat) (ha : a ≤ N) (hx : ∀ n, L (n + 1) (st N)) (hs : ∀ n k, a ≤ k → k < N → L n (st (k + 1)) → L (n + 1) (st k)) : ∃ n, L n (st a) := by
  have key : ∀ d k, a ≤ k → k + d = N → L (d + 1) (st k) := by
    intro d
    induction d with
    | zero => intro k _ hk; rw [show k = N by omega]; exact hx 0
    | succ d ih => intro k h hk; exact hs (d + 1) k h (by omega) (ih (k + 1) (by omega) (by omega))
  exact ⟨N - a + 1, key (N - a) a (Nat.le_refl a) (by omega)⟩
theorem ifp {c : Prop} [Decidable c] {A B : Prop} (h : c) (a : A) : if c then A else B := by rw [if_pos h]; exact a
theorem ifn {c : Prop} [Decidable c] {A B : Prop} (h : ¬ c) (b : B) : if c then A else B := by rw [if_neg h]; exact b
/-- a fold over 0 .. n-1 -/
def fo {σ : Type} (g : Nat → σ → σ) : Nat → σ → σ
  | 0, s => s
  | n + 1, s => g n (fo g n s)
theorem nI_c {n : Nat} (h : n < 2 ^ 31) : (nI n).toNatClampNeg = n := nI_clamp h
theorem nI_1' (a : Nat) : nI a + (1 : Int32) = nI (a + 1) := nI_1 a
theorem vpn {n N : Nat} (h : n < N) (hN : N < 2 ^ 31) : vp_in (nI n) N := vp_in_nI h hN
/-- nothing but the ints of the cells in R has changed -/
def FrI (R : Nat → Prop) (M M' : Mm) : Prop := zn M' = zn M ∧ zk M' = zk M ∧ zl M' = zl M ∧ zJ M' = zJ M ∧ zR M' = zR M ∧ ∀ b, ¬ R b → zI M' b = zI M b
theorem FrI.rf {R : Nat → Prop} {M : Mm} : FrI R M M := ⟨rfl, rfl, rfl, rfl, rfl, fun _ _ => rfl⟩
theorem FrI.trans {R : Nat → Prop} {M M1 M2 : Mm} (h : FrI R M M1) (k : FrI R M1 M2) : FrI R M M2 := by
  obtain ⟨a1, a2, a3, a4, a5, a6⟩ := h
  obtain ⟨b1, b2, b3, b4, b5, b6⟩ := k
  exact ⟨b1.trans a1, b2.trans a2, b3.trans a3, b4.trans a4, b5.trans a5, fun b hb => (b6 b hb).trans (a6 b hb)⟩
theorem FrI.mono {R S : Nat → Prop} {M M' : Mm} (h : FrI R M M') (hRS : ∀ b, R b → S b) : FrI S M M' := by
  obtain ⟨a1, a2, a3, a4, a5, a6⟩ := h
  exact ⟨a1, a2, a3, a4, a5, fun b hb => a6 b (fun q => hb (hRS b q))⟩
theorem zI_sI (M : Mm) (a i : Nat) (x : Int32) (b j : Nat) : zI (sI M a i x) b j = if b = a ∧ j = i then x else zI M b j := rfl
theorem FrI.sI {R : Nat → Prop} {M : Mm} {a i : Nat} {x : Int32} (h : R a) : FrI R M (sI M a i x) :=
  ⟨rfl, rfl, rfl, rfl, rfl, fun b hb => by funext j; rw [zI_sI]; exact if_neg (fun q => hb (by rw [q.1]; exact h))⟩
theorem zI_sC (M : Mm) (a sp d dp n b j : Nat) : zI (sC M a sp d dp n) b j = if b = d ∧ dp ≤ j ∧ j < dp + n then zI M a (sp + (j - dp)) else zI M b j := rfl
theorem FrI.sC {R : Nat → Prop} {M : Mm} {a sp d dp n : Nat} (h : R d) : FrI R M (sC M a sp d dp n) :=
  ⟨rfl, rfl, rfl, rfl, rfl, fun b hb => by funext j; rw [zI_sC]; exact if_neg (fun q => hb (by rw [q.1]; exact h))⟩
/-- the shape of a Plan at a: its arrays lie behind it -/
def PlanSh (M : Mm) (a : Nat) : Prop := zk M a = 4 ∧ (zR M a 1 = some (a + 1) ∧ zR M a 2 = some (a + 2) ∧ zR M a 3 = some (a + 3) ∧ zR M a 4 = some (a + 4) ∧ zR M a 5 = some (a + 5) ∧ zR M a 6 = some (a + 6)) ∧
  (zk M (a + 1) = 10 ∧ zk M (a + 2) = 10 ∧ zk M (a + 3) = 10 ∧ zk M (a + 4) = 10 ∧ zk M (a + 5) = 10 ∧ zk M (a + 6) = 10) ∧
  zl M (a + 1) = 20 ∧ zl M (a + 2) = 20 ∧ zl M (a + 3) = 20 ∧ zl M (a + 4) = 20 ∧ zl M (a + 5) = 600 ∧ zl M (a + 6) = 8
theorem PlanSh.fr {R : Nat → Prop} {M M' : Mm} {a : Nat} (h : PlanSh M a) (f : FrI R M M') : PlanSh M' a := by
  obtain ⟨f1, f2, f3, f4, f5, f6⟩ := f
  unfold PlanSh at h ⊢
  rw [f2, f3, f5]
  exact h
/-- Plan.playersIn: the players of all places of a service, as bits -/
def bitsOf (f : Nat → Int32) (n : Nat) : Int32 := fo (fun i acc => if f i = -1 then acc else acc ||| (1 <<< (f i &&& 31))) n 0
theorem s_X4_playersIn {M : Mm} {a s : Nat} {P : Int32 → Mm → Prop} (hS : PlanSh M a) (hs : s < 20) (h : P (bitsOf (fun i => zI M (a + 5) (30 * s + i)) 30) M) : w_X4_playersIn M a (nI s) P := by
  unfold w_X4_playersIn
  obtain ⟨h4, ⟨-, -, -, -, r5, -⟩, ⟨-, -, -, -, k5, -⟩, -, -, -, -, l5, -⟩ := hS
  refine lp (fun n (z : Int32 × Int32) => l_X4_playersIn_4 P (fun M2 x2 => P x2 M2) n M a (nI s) z.1 z.2) (fun k => (bitsOf (fun i => zI M (a + 5) (30 * s + i)) k, nI k)) 30 ?_ ?_
  · intro n
    rw [l_X4_playersIn_4]
    exact ifp (show (30 : Int32) ≤ nI 30 by decide) h
  · intro n k hk hn
    rw [l_X4_playersIn_4]
    dsimp only at hn ⊢
    refine ifn (show ¬ (30 : Int32) ≤ nI k from nI_ge (b := 30) hk (by decide)) ?_
    have e : nI s * (30 : Int32) + nI k = nI (30 * s + k) := by rw [show (30 : Int32) = nI 30 from rfl, pk_mul, nI_add, Nat.mul_comm]
    rw [e]
    refine ⟨h4, a + 5, r5, k5, by rw [l5]; exact vpn (by omega) (by decide), ?_⟩
    rw [nI_c (by omega), nI_1']
    have e2 : bitsOf (fun i => zI M (a + 5) (30 * s + i)) (k + 1) = if zI M (a + 5) (30 * s + k) = -1 then bitsOf (fun i => zI M (a + 5) (30 * s + i)) k else bitsOf (fun i => zI M (a + 5) (30 * s + i)) k ||| (1 <<< (zI M (a + 5) (30 * s + k) &&& 31)) := rfl
    by_cases c : zI M (a + 5) (30 * s + k) = -1
    · rw [if_pos c]
      rw [if_pos c] at e2
      rw [← e2]
      exact hn
    · rw [if_neg c]
      rw [if_neg c] at e2
      rw [← e2]
      exact hn
