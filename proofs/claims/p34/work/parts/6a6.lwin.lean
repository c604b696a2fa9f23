/-! THE ROOM: a question costs by the days on which both works are there -/
section WIN
variable {sg pl : Nat → Nat}
theorem eaC_leC {K : Nat → Nat} (h : KBn sg K) (hp : pl 0 ≤ 20) {ha S c t f C : Nat} (hS : S.testBit (sg 3) = false) (hf : FBn sg S f) (hC : su (fun k => if rented sg S ((t + k) / 3) = true then 1 else 0) (sg 0 * 3 - t) ≤ C) : eaC sg pl ha S c t ≤ C * f ∨ (eaC sg pl ha S c t ≤ (C - 1) * f + gS sg K S ∧ 1 ≤ C) := by
  have le : eaF sg pl ha S c t ≤ sg 0 * 3 - t := fi_le _ _
  have key : ∀ n, n ≤ eaF sg pl ha S c t → su (fun k => if k < sg 0 * 3 - t then whyC sg pl ha (t + k) S c 4294967295 else 0) n ≤ su (fun k => if rented sg S ((t + k) / 3) = true then 1 else 0) n * f := by
    intro n
    induction n with
    | zero => exact fun _ => Nat.zero_le _
    | succ n ih =>
      intro hn
      have q := ih (by omega)
      have no := fi_no _ (sg 0 * 3 - t) n (show n < eaF sg pl ha S c t by omega)
      have no : ¬ whyN sg pl ha (t + n) S c = 0 := of_decide_eq_false no
      rw [su_s, su_s, if_pos (by omega), Nat.add_mul]
      refine Nat.add_le_add q ?_
      by_cases r : rented sg S ((t + n) / 3) = true
      · rw [if_pos r, Nat.one_mul]
        exact whyC_f hf (by rw [plb_noK hp]; exact no)
      · rw [if_neg r, whyC_r r]; exact Nat.zero_le _
  have k1 := key _ (Nat.le_refl _)
  have e : eaC sg pl ha S c t = su (fun k => if k < sg 0 * 3 - t then whyC sg pl ha (t + k) S c 4294967295 else 0) (eaF sg pl ha S c t) + (if eaF sg pl ha S c t < sg 0 * 3 - t then whyC sg pl ha (t + eaF sg pl ha S c t) S c 4294967295 else 0) := rfl
  rw [e]
  by_cases c1 : eaF sg pl ha S c t < sg 0 * 3 - t
  · rw [if_pos c1]
    have y := fi_yes _ _ c1
    have y := of_decide_eq_true y
    rw [show fi (fun k => decide (whyN sg pl ha (t + k) S c = 0)) (sg 0 * 3 - t) = eaF sg pl ha S c t from rfl] at y
    generalize eaF sg pl ha S c t = n at *
    have r : rented sg S ((t + n) / 3) = true := by
      unfold whyN at y
      by_cases a1 : pl 0 = 20
      · rw [if_pos a1] at y; exact absurd y (by omega)
      rw [if_neg a1] at y
      by_cases a2 : ¬ rented sg S ((t + n) / 3) = true
      · rw [if_pos a2] at y; exact absurd y (by omega)
      · exact Decidable.not_not.mp a2
    have s1 : su (fun k => if rented sg S ((t + k) / 3) = true then 1 else 0) (n + 1) ≤ C := Nat.le_trans (su_mono (by omega)) hC
    rw [su_s, if_pos r] at s1
    exact Or.inr ⟨Nat.add_le_add (Nat.le_trans k1 (Nat.mul_le_mul_right _ (by omega))) (whyC_le h hS), by omega⟩
  · rw [if_neg c1, Nat.add_zero]
    exact Or.inl (Nat.le_trans k1 (Nat.mul_le_mul_right _ (Nat.le_trans (su_mono le) hC)))
def mxC (C f g : Nat) : Nat := if 3 * g + 2 < C * f + g then (if C * f + g < (C + 1) * f then (C + 1) * f else C * f + g) else (if 3 * g + 2 < (C + 1) * f then (C + 1) * f else 3 * g + 2)
theorem mxC_le (C f g : Nat) : 3 * g + 2 ≤ mxC C f g ∧ C * f + g ≤ mxC C f g ∧ (C + 1) * f ≤ mxC C f g := by
  unfold mxC
  generalize C * f + g = x
  generalize (C + 1) * f = y
  split <;> split <;> omega
theorem askC_leC {K : Nat → Nat} (h : KBn sg K) (hp : pl 0 ≤ 20) {ha t S c w f C : Nat} (hS : S.testBit (sg 3) = false) (hf : FBn sg S f) (hw : w < sg 3) (ht : t < sg 0 * 3) (hC : su (fun k => if rented sg S ((t + k) / 3) = true then 1 else 0) (sg 0 * 3 - t) ≤ C) : askC sg pl ha t S c w ≤ mxC C f (gS sg K S) + 1 + K w := by
  have m := mxC_le C f (gS sg K S)
  have n := ncs_le (pl := pl) (t := t) (b := 4294967295) h hw
  have w1 := whyC_le (pl := pl) (ha := ha) (t := t) (c := c) (b := 4294967295) h hS
  have c1 := comC_le (pl := pl) (t := t) h hS
  have ae : askC sg pl ha t S c w = whyC sg pl ha t S c 4294967295 + eaC sg pl ha S c t + (if whyN sg pl ha t S c = 0 then comC sg pl t S else 0) + ncs sg pl w t 4294967295 := rfl
  have e := eaC_leC (pl := pl) (ha := ha) (c := c) (t := t) h hp hS hf hC
  generalize gS sg K S = g at m w1 c1 e ⊢
  rw [ae]
  by_cases z : whyN sg pl ha t S c = 0
  · rw [if_pos z]
    have f0 : eaF sg pl ha S c t = 0 := by
      have q := fi_eq (p := fun k => decide (whyN sg pl ha (t + k) S c = 0)) (n := sg 0 * 3 - t) (k := 0) (by omega) (decide_eq_true z) fun j hj => absurd hj (Nat.not_lt_zero _)
      exact q
    have e : eaC sg pl ha S c t ≤ g := by
      unfold eaC
      rw [f0]
      show 0 + (if 0 < sg 0 * 3 - t then whyC sg pl ha (t + 0) S c 4294967295 else 0) ≤ g
      rw [Nat.zero_add, Nat.add_zero]
      split
      · exact w1
      · exact Nat.zero_le _
    omega
  · rw [if_neg z]
    have w2 := whyC_f (pl := pl) (b := 4294967295) hf (by rw [plb_noK hp]; exact z)
    rcases e with e | ⟨e, e2⟩
    · have q : (C + 1) * f = C * f + f := Nat.succ_mul _ _
      omega
    · have q : C * f = (C - 1) * f + f := by
        have q := Nat.succ_mul (C - 1) f
        have q2 : (C - 1).succ = C := by omega
        rw [q2] at q
        exact q
      omega
/-- a stretch of slots -/
theorem su_iv (t lo hi : Nat) : ∀ n, su (fun k => if lo ≤ t + k ∧ t + k < hi then 1 else 0) n ≤ (if t + n < hi then t + n else hi) - lo
  | 0 => Nat.zero_le _
  | n + 1 => by
    have ih := su_iv t lo hi n
    rw [su_s]
    by_cases c : lo ≤ t + n ∧ t + n < hi
    · rw [if_pos c]
      rw [if_pos c.2] at ih
      by_cases d : t + (n + 1) < hi
      · rw [if_pos d]; omega
      · rw [if_neg d]; omega
    · rw [if_neg c]
      by_cases d : t + (n + 1) < hi
      · rw [if_pos d]
        rw [if_pos (by omega)] at ih
        omega
      · rw [if_neg d]
        by_cases e : t + n < hi
        · rw [if_pos e] at ih; omega
        · rw [if_neg e] at ih; exact ih
def mxN (a b : Nat) : Nat := if a < b then b else a
def mnN (a b : Nat) : Nat := if a < b then a else b
/-- how many slots the two works share, from t on -/
def shS (f1 l1 f2 l2 t : Nat) : Nat := 3 * (mnN l1 l2 + 1) - mxN (3 * mxN f1 f2) t
theorem su_iv2 (t lo hi n : Nat) : su (fun k => if lo ≤ t + k ∧ t + k < hi then 1 else 0) n ≤ hi - mxN lo t := by
  have q := su_iv t lo hi n
  have r := su_iv t t hi n
  have s : su (fun k => if lo ≤ t + k ∧ t + k < hi then 1 else 0) n ≤ su (fun k => if t ≤ t + k ∧ t + k < hi then 1 else 0) n := su_le fun k _ => by
    by_cases c : lo ≤ t + k ∧ t + k < hi
    · rw [if_pos c, if_pos ⟨by omega, c.2⟩]; exact Nat.le_refl _
    · rw [if_neg c]; exact Nat.zero_le _
  unfold mxN
  split
  · refine Nat.le_trans s (Nat.le_trans r ?_)
    split <;> omega
  · refine Nat.le_trans q ?_
    split <;> omega
theorem rent_C {a c t : Nat} (ha : a < sg 3) (hc : c < sg 3) : su (fun k => if rented sg (2 ^ a ||| 2 ^ c) ((t + k) / 3) = true then 1 else 0) (sg 0 * 3 - t) ≤ shS (oW sg a 1) (oW sg a 2) (oW sg c 1) (oW sg c 2) t := by
  unfold shS
  have q := su_iv2 t (3 * mxN (oW sg a 1) (oW sg c 1)) (3 * (mnN (oW sg a 2) (oW sg c 2) + 1)) (sg 0 * 3 - t)
  refine Nat.le_trans (su_le fun k _ => ?_) q
  by_cases r : rented sg (2 ^ a ||| 2 ^ c) ((t + k) / 3) = true
  · rw [if_pos r]
    unfold rented at r
    rw [al_iff] at r
    have one : ∀ w, w < sg 3 → (2 ^ a ||| 2 ^ c).testBit w = true → oW sg w 1 ≤ (t + k) / 3 ∧ (t + k) / 3 ≤ oW sg w 2 := fun w hw hb => by
      have z := r w hw
      rw [Bool.not_eq_true', decide_eq_false_iff_not] at z
      by_cases y : oW sg w 1 ≤ (t + k) / 3 ∧ (t + k) / 3 ≤ oW sg w 2
      · exact y
      · exact absurd ⟨hb, y⟩ z
    have o1 := one a ha ((or_tb a c a).mpr (Or.inl rfl))
    have o2 := one c hc ((or_tb a c c).mpr (Or.inr rfl))
    rw [if_pos]
    · exact Nat.le_refl _
    · unfold mxN mnN
      constructor
      · split <;> omega
      · split <;> omega
  · rw [if_neg r]; exact Nat.zero_le _
end WIN
