/-! NORMAL FORMS: every int is nI of a number; loops as equations -/
theorem l_0 : (0 : Int32) = nI 0 := rfl
theorem l_1 : (1 : Int32) = nI 1 := rfl
theorem l_2 : (2 : Int32) = nI 2 := rfl
theorem l_3 : (3 : Int32) = nI 3 := rfl
theorem l_4 : (4 : Int32) = nI 4 := rfl
theorem l_5 : (5 : Int32) = nI 5 := rfl
theorem l_6 : (6 : Int32) = nI 6 := rfl
theorem l_7 : (7 : Int32) = nI 7 := rfl
theorem l_8 : (8 : Int32) = nI 8 := rfl
theorem l_9 : (9 : Int32) = nI 9 := rfl
theorem l_10 : (10 : Int32) = nI 10 := rfl
theorem l_11 : (11 : Int32) = nI 11 := rfl
theorem l_12 : (12 : Int32) = nI 12 := rfl
theorem l_20 : (20 : Int32) = nI 20 := rfl
theorem l_24 : (24 : Int32) = nI 24 := rfl
theorem l_30 : (30 : Int32) = nI 30 := rfl
theorem l_31 : (31 : Int32) = nI 31 := rfl
theorem l_32 : (32 : Int32) = nI 32 := rfl
theorem l_34 : (34 : Int32) = nI 34 := rfl
theorem l_40 : (40 : Int32) = nI 40 := rfl
theorem l_65 : (65 : Int32) = nI 65 := rfl
theorem l_100 : (100 : Int32) = nI 100 := rfl
theorem l_120 : (120 : Int32) = nI 120 := rfl
theorem l_255 : (255 : Int32) = nI 255 := rfl
theorem l_600 : (600 : Int32) = nI 600 := rfl
theorem l_689 : (689 : Int32) = nI 689 := rfl
theorem l_999 : (999 : Int32) = nI 999 := rfl
theorem n_m1 : -nI 1 = nI 4294967295 := by decide
theorem n_sub {a b : Nat} (h : b ≤ a) : nI a - nI b = nI (a - b) := pk_sub h
theorem n_leT {a b : Nat} (h : a ≤ b) (hb : b < 2 ^ 31) : (nI a ≤ nI b) = True := eq_true (nI_le h hb)
theorem n_leF {a b : Nat} (h : b < a) (ha : a < 2 ^ 31) : (nI a ≤ nI b) = False := eq_false (nI_ge h ha)
theorem n_ltT {a b : Nat} (h : a < b) (hb : b < 2 ^ 31) : (nI a < nI b) = True := eq_true (nI_lt h hb)
theorem n_ltF {a b : Nat} (h : b ≤ a) (ha : a < 2 ^ 31) : (nI a < nI b) = False := eq_false (nI_nlt h ha)
theorem n_eqT {a b : Nat} (h : a = b) : (nI a = nI b) = True := eq_true (by rw [h])
theorem n_eqF {a b : Nat} (h : a ≠ b) (ha : a < 4294967296) (hb : b < 4294967296) : (nI a = nI b) = False := by
  refine eq_false fun e => h ?_
  have e2 : (nI a).toBitVec.toNat = (nI b).toBitVec.toNat := by rw [e]
  rw [pk_tn (by omega), pk_tn (by omega)] at e2
  exact e2
theorem n_cl {n : Nat} (h : n < 2 ^ 31) : (nI n).toNatClampNeg = n := nI_clamp h
theorem n_vp {n N : Nat} (h : n < N) (hN : N < 2 ^ 31) : vp_in (nI n) N = True := eq_true (vp_in_nI h hN)
theorem n_ofN (n : Nat) : nI n = Int32.ofNat n := rfl
theorem fa_andq (a b : Nat) : nI a &&& nI b = nI (a &&& b) := by
  apply Int32.toBitVec_inj.mp
  show BitVec.ofNat 32 a &&& BitVec.ofNat 32 b = BitVec.ofNat 32 (a &&& b)
  exact (BitVec.ofNat_and).symm
theorem fa_orq (a b : Nat) : nI a ||| nI b = nI (a ||| b) := by
  apply Int32.toBitVec_inj.mp
  show BitVec.ofNat 32 a ||| BitVec.ofNat 32 b = BitVec.ofNat 32 (a ||| b)
  exact (BitVec.ofNat_or).symm
theorem fa_xorq (a b : Nat) : nI a ^^^ nI b = nI (a ^^^ b) := by
  apply Int32.toBitVec_inj.mp
  show BitVec.ofNat 32 a ^^^ BitVec.ofNat 32 b = BitVec.ofNat 32 (a ^^^ b)
  exact (BitVec.ofNat_xor).symm
theorem n_sh : ∀ n, n < 32 → ((nI n &&& nI 31).toBitVec.smod 32).toNat = n := by decide +kernel
theorem n_shl {k : Nat} (h : k < 32) : nI 1 <<< nI (k &&& 31) = nI (2 ^ k) := by
  rw [← fa_andq]
  have e := pk_shl (nI 1) (nI k &&& nI 31) k (n_sh k h)
  have e1 : (nI 1).toBitVec.toNat = 1 := rfl
  rw [e1, Nat.one_mul] at e
  apply Int32.toBitVec_inj.mp
  apply BitVec.eq_of_toNat_eq
  rw [e]
  exact (BitVec.toNat_ofNat (2 ^ k) 32).symm
theorem n_shr {a k : Nat} (ha : a < 2 ^ 31) (h : k < 32) : nI a >>> nI (k &&& 31) = nI (a >>> k) := by
  rw [← fa_andq]
  rw [Nat.shiftRight_eq_div_pow]
  exact pk_shrN ha _ k (n_sh k h)
theorem n_bit01 (S k : Nat) : S >>> k &&& 1 = (S.testBit k).toNat := by
  rw [Nat.and_one_is_mod, Nat.shiftRight_eq_div_pow, Nat.testBit_eq_decide_div_mod_eq]
  rcases Nat.mod_two_eq_zero_or_one (S / 2 ^ k) with e | e <;> rw [e] <;> rfl
theorem n_t1 (S k : Nat) : (nI (S >>> k &&& 1) = nI 1) = (S.testBit k = true) := by
  rw [n_bit01]
  cases S.testBit k
  · exact propext ⟨fun e => absurd e (by decide), fun e => by cases e⟩
  · exact propext ⟨fun _ => rfl, fun _ => rfl⟩
theorem n_t0 (S k : Nat) : (nI (S >>> k &&& 1) = nI 0) = ¬ (S.testBit k = true) := by
  rw [n_bit01]
  cases S.testBit k
  · exact propext ⟨fun _ e => absurd e (by decide), fun _ => rfl⟩
  · exact propext ⟨fun e => absurd e (by decide), fun e => absurd rfl e⟩
theorem n_div {a d : Nat} (ha : a < 2 ^ 31) (h0 : 0 < d) (hd : d < 2 ^ 31) : nI a / nI d = nI (a / d) := pk_div ha h0 hd
theorem fo_s {σ : Type} (g : Nat → σ → σ) (n : Nat) (s : σ) : fo g (n + 1) s = g n (fo g n s) := rfl
theorem zk_sI (M : Mm) (a i : Nat) (x : Int32) : zk (sI M a i x) = zk M := rfl
theorem zl_sI (M : Mm) (a i : Nat) (x : Int32) : zl (sI M a i x) = zl M := rfl
theorem zR_sI (M : Mm) (a i : Nat) (x : Int32) : zR (sI M a i x) = zR M := rfl
theorem zJ_sI (M : Mm) (a i : Nat) (x : Int32) : zJ (sI M a i x) = zJ M := rfl
theorem zn_sI (M : Mm) (a i : Nat) (x : Int32) : zn (sI M a i x) = zn M := rfl
theorem zI_sIq (M : Mm) (a i : Nat) (x : Int32) (b j : Nat) : zI (sI M a i x) b j = if b = a ∧ j = i then x else zI M b j := rfl
theorem zk_sJ (M : Mm) (a i : Nat) (x : Int64) : zk (sJ M a i x) = zk M := rfl
theorem zl_sJ (M : Mm) (a i : Nat) (x : Int64) : zl (sJ M a i x) = zl M := rfl
theorem zR_sJ (M : Mm) (a i : Nat) (x : Int64) : zR (sJ M a i x) = zR M := rfl
theorem zI_sJ (M : Mm) (a i : Nat) (x : Int64) : zI (sJ M a i x) = zI M := rfl
theorem zn_sJ (M : Mm) (a i : Nat) (x : Int64) : zn (sJ M a i x) = zn M := rfl
/-- a loop as an equation -/
theorem lpE {σ : Type} (L : Nat → σ → Prop) (st : Nat → σ) (N : Nat) {Q : Prop} (h0 : ∀ s, ¬ L 0 s) (hx : ∀ n, L (n + 1) (st N) ↔ Q) (hs : ∀ n k, k < N → (L (n + 1) (st k) ↔ L n (st (k + 1)))) : (∃ n, L n (st 0)) ↔ Q := by
  constructor
  · rintro ⟨n, h⟩
    have key : ∀ n k, k ≤ N → L n (st k) → Q := by
      intro n
      induction n with
      | zero => intro k _ h; exact absurd h (h0 _)
      | succ n ih =>
        intro k hk h
        by_cases e : k = N
        · subst e; exact (hx n).mp h
        · exact ih (k + 1) (by omega) ((hs n k (by omega)).mp h)
    exact key n 0 (Nat.zero_le N) h
  · intro q
    exact lp L st N (fun n => (hx n).mpr q) (fun n k hk h => (hs n k hk).mpr h)
/-- the first k below n with p k, else n -/
def fi (p : Nat → Bool) : Nat → Nat
  | 0 => 0
  | n + 1 => if fi p n < n then fi p n else if p n then n else n + 1
theorem fi_le (p : Nat → Bool) : ∀ n, fi p n ≤ n
  | 0 => Nat.le_refl 0
  | n + 1 => by
    have h := fi_le p n
    unfold fi
    split
    · omega
    · split <;> omega
theorem fi_no (p : Nat → Bool) : ∀ n k, k < fi p n → p k = false
  | 0, k, h => absurd h (Nat.not_lt_zero k)
  | n + 1, k, h => by
    have i := fi_no p n
    have l := fi_le p n
    unfold fi at h
    split at h
    · exact i k h
    · split at h
      · exact i k (by omega)
      · by_cases e : k = n
        · subst e; cases hp : p k
          · rfl
          · rename_i h1; exact absurd hp h1
        · exact i k (by omega)
theorem fi_yes (p : Nat → Bool) : ∀ n, fi p n < n → p (fi p n) = true
  | 0, h => absurd h (Nat.not_lt_zero _)
  | n + 1, h => by
    have i := fi_yes p n
    have l := fi_le p n
    unfold fi at h ⊢
    by_cases c : fi p n < n
    · rw [if_pos c]; exact i c
    · rw [if_neg c] at h ⊢
      by_cases d : p n = true
      · rw [if_pos d]; exact d
      · rw [if_neg d] at h; omega
/-- a loop that goes out at the first k with p k (Q k), or at the end (Q N) -/
theorem lpF {σ : Type} (L : Nat → σ → Prop) (st : Nat → σ) (N : Nat) (p : Nat → Bool) {Q : Nat → Prop} (h0 : ∀ s, ¬ L 0 s) (hx : ∀ n, L (n + 1) (st N) ↔ Q N) (hs : ∀ n k, k < N → p k = false → (L (n + 1) (st k) ↔ L n (st (k + 1)))) (hf : ∀ n k, k < N → p k = true → (L (n + 1) (st k) ↔ Q k)) : (∃ n, L n (st 0)) ↔ Q (fi p N) := by
  have l := fi_le p N
  refine lpE L st (fi p N) h0 (fun n => ?_) (fun n k hk => hs n k (by omega) (fi_no p N k hk))
  by_cases e : fi p N = N
  · rw [e]; exact hx n
  · exact hf n _ (by omega) (fi_yes p N (by omega))
/-- all of p below n -/
def al (p : Nat → Bool) (n : Nat) : Bool := fo (fun i b => b && p i) n true
theorem al_s (p : Nat → Bool) (n : Nat) : al p (n + 1) = (al p n && p n) := rfl
theorem al_iff (p : Nat → Bool) : ∀ n, al p n = true ↔ ∀ i, i < n → p i = true
  | 0 => ⟨fun _ i h => absurd h (Nat.not_lt_zero i), fun _ => rfl⟩
  | n + 1 => by
    rw [al_s, Bool.and_eq_true, al_iff p n]
    constructor
    · rintro ⟨h1, h2⟩ i hi
      by_cases e : i = n
      · rw [e]; exact h2
      · exact h1 i (by omega)
    · intro h
      exact ⟨fun i hi => h i (by omega), h n (by omega)⟩
theorem al_fi (p : Nat → Bool) (n : Nat) : al p n = decide (fi (fun i => !p i) n = n) := by
  have l := fi_le (fun i => !p i) n
  by_cases e : fi (fun i => !p i) n = n
  · rw [decide_eq_true e, al_iff]
    intro i hi
    have := fi_no (fun i => !p i) n i (by omega)
    revert this; cases p i <;> intro h <;> first | rfl | cases h
  · rw [decide_eq_false e]
    have y := fi_yes (fun i => !p i) n (by omega)
    cases q : al p n
    · rfl
    · have z := (al_iff p n).mp q (fi (fun i => !p i) n) (by omega)
      have y2 : (!p (fi (fun i => !p i) n)) = true := y
      rw [z] at y2; cases y2
/-- a loop that goes out with false at the first k without p k -/
theorem lpA {σ : Type} (L : Nat → σ → Prop) (st : Nat → σ) (N : Nat) (p : Nat → Bool) {Q : Bool → Prop} (h0 : ∀ s, ¬ L 0 s) (hx : ∀ n, L (n + 1) (st N) ↔ Q true) (hs : ∀ n k, k < N → p k = true → (L (n + 1) (st k) ↔ L n (st (k + 1)))) (hf : ∀ n k, k < N → p k = false → (L (n + 1) (st k) ↔ Q false)) : (∃ n, L n (st 0)) ↔ Q (al p N) := by
  rw [al_fi]
  have h := lpF L st N (fun i => !p i) (Q := fun k => Q (decide (k = N))) h0 (fun n => ?_) (fun n k hk e => ?_) (fun n k hk e => ?_)
  · exact h
  · rw [decide_eq_true rfl]; exact hx n
  · refine hs n k hk ?_
    revert e; cases p k <;> intro e <;> first | rfl | cases e
  · rw [decide_eq_false (by omega)]
    refine hf n k hk ?_
    revert e; cases p k <;> intro e <;> first | rfl | cases e
/-- true and false as ints -/
def bI (b : Bool) : Int32 := if b then 1 else 0
theorem bI_t : bI true = nI 1 := rfl
theorem bI_f : bI false = nI 0 := rfl
theorem bI_0 (b : Bool) : (bI b = nI 0) = ¬ (b = true) := by cases b <;> exact propext ⟨fun h => by revert h; decide, fun h => by revert h; decide⟩
theorem bI_1 (b : Bool) : (bI b = nI 1) = (b = true) := by cases b <;> exact propext ⟨fun h => by revert h; decide, fun h => by revert h; decide⟩
theorem bI_z (b : Bool) : (bI b = nI 0 ∨ bI b = nI 1) = True := by cases b <;> exact eq_true (by decide)
theorem nd_f {p : Prop} [Decidable p] (h : (!decide p) = true) : ¬ p := fun q => by rw [decide_eq_true q] at h; exact absurd h (by decide)
theorem nd_t {p : Prop} [Decidable p] (h : (!decide p) = false) : p := by
  by_cases q : p
  · exact q
  · rw [decide_eq_false q] at h; exact absurd h (by decide)
theorem ndf {p : Prop} [Decidable p] (h : ¬ p) : (!decide p) = true := by rw [decide_eq_false h]; rfl
theorem ndt {p : Prop} [Decidable p] (h : p) : (!decide p) = false := by rw [decide_eq_true h]; rfl
theorem b_no {b : Bool} (h : ¬ b = true) : b = false := by revert h; cases b <;> intro t <;> first | rfl | exact absurd rfl t
