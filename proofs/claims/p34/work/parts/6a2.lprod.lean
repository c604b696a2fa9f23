/-! THE ROOM: no more casts than a product -/
section PR
variable {sg : Nat → Nat}
theorem su_cap {e : Nat → Prop} [DecidablePred e] {x : Nat → Nat} {B : Nat} : ∀ n, (∀ p, p < n → e p → x p ≤ B) → su (fun p => if e p then x p else 0) n ≤ su (fun p => if e p then 1 else 0) n * B
  | 0, _ => Nat.zero_le _
  | n + 1, h => by
    have ih := su_cap n fun p hp he => h p (by omega) he
    rw [su_s, su_s, Nat.add_mul]
    refine Nat.add_le_add ih ?_
    by_cases c : e n
    · rw [if_pos c, if_pos c, Nat.one_mul]; exact h n (by omega) c
    · rw [if_neg c]; exact Nat.zero_le _
/-- the free who play k; the free -/
def av (sg : Nat → Nat) (F k : Nat) : Nat := su (fun p => if F.testBit p = true ∧ (kinds sg p).testBit k = true then 1 else 0) (sg 2)
def fr (sg : Nat → Nat) (F : Nat) : Nat := su (fun p => if F.testBit p = true then 1 else 0) (sg 2)
theorem rm_b {F p q : Nat} (hq : q < 32) : (rm F (2 ^ p)).testBit q = (F.testBit q && !decide (p = q)) := by
  unfold rm
  rw [Nat.testBit_and, Nat.testBit_xor, Nat.testBit_two_pow, show (4294967295 : Nat) = 2 ^ 32 - 1 from rfl, Nat.testBit_two_pow_sub_one]
  congr 1
  rw [decide_eq_true hq]
  cases decide (p = q) <;> rfl
theorem su_rm {f : Nat → Nat} {p : Nat} : ∀ n, p < n → su f n = su (fun q => if p = q then 0 else f q) n + f p
  | 0, h => absurd h (Nat.not_lt_zero _)
  | n + 1, h => by
    rw [su_s, su_s]
    by_cases c : p = n
    · rw [if_pos c, Nat.add_zero, c]
      have e : su f n = su (fun q => if n = q then 0 else f q) n := su_ext fun q hq => by rw [if_neg (by omega)]
      rw [e]
    · rw [if_neg c]
      have ih := su_rm (f := f) (p := p) n (by omega)
      omega
theorem fr_rm (h8 : sg 2 ≤ 32) {F p : Nat} (hp : p < sg 2) (hF : F.testBit p = true) : fr sg F = fr sg (rm F (2 ^ p)) + 1 := by
  unfold fr
  rw [su_rm (sg 2) hp, if_pos hF]
  congr 1
  refine su_ext fun q hq => ?_
  rw [rm_b (by omega)]
  by_cases c : p = q
  · rw [if_pos c, decide_eq_true c, if_neg (by simp)]
  · rw [if_neg c, decide_eq_false c]; simp
theorem av_rm (h8 : sg 2 ≤ 32) {F p k : Nat} (hp : p < sg 2) (hF : F.testBit p = true) : av sg F k = av sg (rm F (2 ^ p)) k + (if (kinds sg p).testBit k = true then 1 else 0) := by
  unfold av
  rw [su_rm (sg 2) hp]
  congr 1
  · refine su_ext fun q hq => ?_
    rw [rm_b (by omega)]
    by_cases c : p = q
    · rw [if_pos c, decide_eq_true c, if_neg (by simp)]
    · rw [if_neg c, decide_eq_false c]; simp
  · rw [hF]; simp
/-- the casts of a list of seats -/
def ncl (sg : Nat → Nat) : List Nat → Nat → Nat
  | [], _ => 1
  | k :: l, F => su (fun p => if F.testBit p = true ∧ (kinds sg p).testBit k = true then ncl sg l (rm F (2 ^ p)) else 0) (sg 2)
def stl (sg : Nat → Nat) (w : Nat) : Nat → List Nat
  | 0 => []
  | r + 1 => kr sg w r :: stl sg w r
theorem nc_ncl (sg : Nat → Nat) (w : Nat) : ∀ r F, nc sg w r F = ncl sg (stl sg w r) F
  | 0, _ => rfl
  | r + 1, F => by
    show su _ _ = su _ _
    refine su_ext fun p hp => ?_
    rw [nc_ncl sg w r]
def Ul : List Nat → (Nat → Nat) → Nat → Nat
  | [], _, _ => 1
  | k :: l, N, P => (if N k < P then N k else P) * Ul l (ups N k (N k - 1)) (P - 1)
theorem ncl_U (h8 : sg 2 ≤ 32) : ∀ (l : List Nat) (F : Nat) (N : Nat → Nat) (P : Nat), (∀ k, av sg F k ≤ N k) → fr sg F ≤ P → ncl sg l F ≤ Ul l N P
  | [], _, _, _, _, _ => Nat.le_refl _
  | k :: l, F, N, P, hN, hP => by
    have key := su_cap (e := fun p => F.testBit p = true ∧ (kinds sg p).testBit k = true) (x := fun p => ncl sg l (rm F (2 ^ p))) (B := Ul l (ups N k (N k - 1)) (P - 1)) (sg 2) fun p hp he => by
      refine ncl_U h8 l _ _ _ (fun k2 => ?_) ?_
      · have a := av_rm (k := k2) h8 hp he.1
        have n := hN k2
        by_cases c : k2 = k
        · rw [c, ups_1]
          rw [c, if_pos he.2] at a
          rw [c] at n
          omega
        · rw [ups_o _ _ _ c]; omega
      · have a := fr_rm h8 hp he.1
        omega
    refine Nat.le_trans key (Nat.mul_le_mul_right _ ?_)
    have e1 := hN k
    have e2 : av sg F k ≤ fr sg F := su_le fun p _ => by
      by_cases c : F.testBit p = true
      · rw [if_pos c]; split <;> omega
      · rw [if_neg c, if_neg fun q => c q.1]; exact Nat.le_refl _
    show av sg F k ≤ _
    split <;> omega
/-- the order of seats doesn't matter -/
theorem rm_comm (F p q : Nat) : rm (rm F p) q = rm (rm F q) p := by
  unfold rm
  rw [Nat.and_assoc, Nat.and_assoc, Nat.and_comm (p ^^^ 4294967295)]
theorem su_if {e : Prop} [Decidable e] {f : Nat → Nat} {n : Nat} : (if e then su f n else 0) = su (fun q => if e then f q else 0) n := by
  by_cases c : e
  · rw [if_pos c]; exact su_ext fun q _ => (if_pos c).symm
  · rw [if_neg c]; exact (su_0 fun q _ => if_neg c).symm
theorem ncl_swap (h8 : sg 2 ≤ 32) (a b : Nat) (l : List Nat) (F : Nat) : ncl sg (a :: b :: l) F = ncl sg (b :: a :: l) F := by
  have one : ∀ x y, ncl sg (x :: y :: l) F = su (fun p => su (fun q => if (F.testBit p = true ∧ (kinds sg p).testBit x = true) ∧ (F.testBit q = true ∧ (kinds sg q).testBit y = true) ∧ p ≠ q then ncl sg l (rm (rm F (2 ^ p)) (2 ^ q)) else 0) (sg 2)) (sg 2) := fun x y => by
    show su (fun p => if F.testBit p = true ∧ (kinds sg p).testBit x = true then su (fun q => if (rm F (2 ^ p)).testBit q = true ∧ (kinds sg q).testBit y = true then ncl sg l (rm (rm F (2 ^ p)) (2 ^ q)) else 0) (sg 2) else 0) (sg 2) = _
    refine su_ext fun p hp => ?_
    rw [su_if]
    refine su_ext fun q hq => ?_
    rw [rm_b (by omega)]
    by_cases c1 : F.testBit p = true ∧ (kinds sg p).testBit x = true
    · rw [if_pos c1]
      by_cases c2 : (F.testBit q = true ∧ (kinds sg q).testBit y = true) ∧ p ≠ q
      · have y1 : (F.testBit q && !decide (p = q)) = true ∧ (kinds sg q).testBit y = true := ⟨by rw [c2.1.1, decide_eq_false c2.2]; rfl, c2.1.2⟩
        have y2 : (F.testBit p = true ∧ (kinds sg p).testBit x = true) ∧ (F.testBit q = true ∧ (kinds sg q).testBit y = true) ∧ p ≠ q := ⟨c1, c2.1, c2.2⟩
        rw [if_pos y1, if_pos y2]
      · have n1 : ¬ ((F.testBit q && !decide (p = q)) = true ∧ (kinds sg q).testBit y = true) := fun z => by
          obtain ⟨z1, z2⟩ := z
          rw [Bool.and_eq_true] at z1
          refine c2 ⟨⟨z1.1, z2⟩, fun e => ?_⟩
          rw [decide_eq_true e] at z1
          exact absurd z1.2 (by decide)
        have n2 : ¬ ((F.testBit p = true ∧ (kinds sg p).testBit x = true) ∧ (F.testBit q = true ∧ (kinds sg q).testBit y = true) ∧ p ≠ q) := fun z => c2 z.2
        rw [if_neg n1, if_neg n2]
    · have n2 : ¬ ((F.testBit p = true ∧ (kinds sg p).testBit x = true) ∧ (F.testBit q = true ∧ (kinds sg q).testBit y = true) ∧ p ≠ q) := fun z => c1 z.1
      rw [if_neg c1, if_neg n2]
  rw [one a b, one b a, su_swap]
  refine su_ext fun q hq => su_ext fun p hp => ?_
  rw [rm_comm]
  by_cases c : (F.testBit p = true ∧ (kinds sg p).testBit a = true) ∧ (F.testBit q = true ∧ (kinds sg q).testBit b = true) ∧ p ≠ q
  · have d : (F.testBit q = true ∧ (kinds sg q).testBit b = true) ∧ (F.testBit p = true ∧ (kinds sg p).testBit a = true) ∧ q ≠ p := ⟨c.2.1, c.1, fun e => c.2.2 e.symm⟩
    rw [if_pos c, if_pos d]
  · have d : ¬ ((F.testBit q = true ∧ (kinds sg q).testBit b = true) ∧ (F.testBit p = true ∧ (kinds sg p).testBit a = true) ∧ q ≠ p) := fun z => c ⟨z.2.1, z.1, fun e => z.2.2 e.symm⟩
    rw [if_neg c, if_neg d]
theorem ncl_perm (h8 : sg 2 ≤ 32) {l l2 : List Nat} (h : List.Perm l l2) : ∀ F, ncl sg l F = ncl sg l2 F := by
  induction h with
  | nil => exact fun _ => rfl
  | cons x _ ih => exact fun F => su_ext fun p _ => by rw [ih]
  | swap x y l => exact fun F => ncl_swap h8 y x l F
  | trans _ _ i1 i2 => exact fun F => (i1 F).trans (i2 F)
/-- who has enough players for each seat in turn has a cast -/
theorem ncl_pos (h8 : sg 2 ≤ 32) : ∀ (l : List Nat) (F : Nat), (∀ i, i < l.length → i < av sg F (l.getD i 0)) → ncl sg l F ≠ 0
  | [], _, _ => Nat.one_ne_zero
  | k :: l, F, h => fun z => by
    have h0 := h 0 (Nat.zero_lt_succ _)
    have h0 : 0 < av sg F k := h0
    obtain ⟨p, hp, hx⟩ := su_ex (f := fun p => if F.testBit p = true ∧ (kinds sg p).testBit k = true then 1 else 0) (n := sg 2) (by show av sg F k ≠ 0; omega)
    by_cases e : F.testBit p = true ∧ (kinds sg p).testBit k = true
    · have ih := ncl_pos h8 l (rm F (2 ^ p)) fun i hi => by
        have a := h (i + 1) (Nat.succ_lt_succ hi)
        have a : i + 1 < av sg F (l.getD i 0) := a
        have b := av_rm (k := l.getD i 0) h8 hp e.1
        split at b <;> omega
      have z : su (fun p => if F.testBit p = true ∧ (kinds sg p).testBit k = true then ncl sg l (rm F (2 ^ p)) else 0) (sg 2) = 0 := z
      have all : ∀ n, p < n → su (fun p => if F.testBit p = true ∧ (kinds sg p).testBit k = true then ncl sg l (rm F (2 ^ p)) else 0) n ≠ 0 := fun n hn q => by
        rw [su_rm n hn, if_pos e] at q
        exact ih (Nat.eq_zero_of_add_eq_zero_left q)
      exact all (sg 2) hp z
    · rw [if_neg e] at hx
      exact absurd rfl hx
end PR
