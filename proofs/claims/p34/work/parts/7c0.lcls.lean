/-! THE ROOM: the states of a class, T = 3072 k + t; lanes of 24 bits -/
section CLS
/-- arguments made numbers before they are used -/
def fzB (x : Nat) (f : Nat → Bool) : Bool := Nat.rec (motive := fun _ => Bool) (f 0) (fun k _ => f (Nat.succ k)) x
def fzN (x : Nat) (f : Nat → Nat) : Nat := Nat.rec (motive := fun _ => Nat) (f 0) (fun k _ => f (Nat.succ k)) x
theorem fzB_e (x : Nat) (f : Nat → Bool) : fzB x f = f x := by cases x <;> rfl
theorem fzN_e (x : Nat) (f : Nat → Nat) : fzN x f = f x := by cases x <;> rfl
def Tk (t k : Nat) : Nat := (3072 * k + t) % 4294967296
def ajr (j : Nat) : Nat := Nat.rec (motive := fun _ => Nat) 1 (fun _ y => Nat.mod (Nat.mul y 1664525) 4194304) j
def tjr (t j : Nat) : Nat := Nat.rec (motive := fun _ => Nat) t (fun _ y => nxr y) j
theorem ajr_s (j : Nat) : ajr (j + 1) = ajr j * 1664525 % 4194304 := rfl
theorem tjr_e (t : Nat) : ∀ j, tjr t j = nxn t j
  | 0 => rfl
  | j + 1 => by
    rw [nxn_s, ← tjr_e t j]; rfl
theorem ajr_lt : ∀ j, ajr j < 4194304
  | 0 => by decide
  | j + 1 => by
    rw [ajr_s]
    exact Nat.mod_lt _ (by omega)
theorem mulm (a k : Nat) : (a * 1664525 % 4194304 * k) % 4194304 = (1664525 * (a * k % 4194304)) % 4194304 := by
  rw [Nat.mul_mod (a * 1664525 % 4194304), Nat.mod_mod, ← Nat.mul_mod, Nat.mul_mod 1664525 (a * k % 4194304), Nat.mod_mod, ← Nat.mul_mod, Nat.mul_comm a 1664525, Nat.mul_assoc]
theorem Tk_step (z u : Nat) : ((3072 * z + u) % 4294967296 * 1664525 + 1013904223) % 4294967296 = (3072 * ((1664525 * z) % 4194304) + (u * 1664525 + 1013904223) % 4294967296) % 4294967296 := by omega
theorem Tk_n (t k : Nat) : ∀ j, nxn (Tk t k) j = (3072 * ((ajr j * k) % 4194304) + nxn t j) % 4294967296
  | 0 => by
    show (3072 * k + t) % 4294967296 = (3072 * ((1 * k) % 4194304) + t) % 4294967296
    omega
  | j + 1 => by
    rw [nxn_s, nxn_s, Tk_n t k j, ajr_s, mulm, nx_e2, nx_e2]
    exact Tk_step _ _
theorem dv3_e (z u : Nat) (hz : z < 4194304) (hu : u < 4294967296) : (3072 * z + u) % 4294967296 / 256 % 3 = (u / 256 + 2 * ((3 * z + u / 1024) / 4194304)) % 3 := by
  have e1 : (3072 * z + u) / 4294967296 = (3 * z + u / 1024) / 4194304 := by omega
  have e2 : (3072 * z + u) % 4294967296 = 3072 * z + u - 4294967296 * ((3072 * z + u) / 4294967296) := by omega
  rw [e2, e1]
  have e3 : 4194304 * ((3 * z + u / 1024) / 4194304) ≤ 3 * z + u / 1024 := by omega
  generalize (3 * z + u / 1024) / 4194304 = d at e3 ⊢
  have e4 : (3072 * z + u - 4294967296 * d) / 256 = 12 * z + u / 256 - 16777216 * d := by omega
  rw [e4]
  have e5 : 16777216 * d ≤ 12 * z + u / 256 := by omega
  generalize u / 256 = y at e5 ⊢
  clear e1 e2 e3 e4 hz hu
  omega
theorem dv4_e (z u : Nat) : (3072 * z + u) % 4294967296 / 256 % 4 = u / 256 % 4 := by omega
theorem dv2_e (z u : Nat) : (3072 * z + u) % 4294967296 / 256 % 2 = u / 256 % 2 := by omega
theorem dvm_e (z u : Nat) : (3072 * z + u) % 4294967296 % 1024 = u % 1024 := by omega
/-- lanes -/
def lnk (f : Nat → Nat) : Nat → Nat
  | 0 => 0
  | n + 1 => lnk f n + f n * 2 ^ (24 * n)
theorem lnk_s (f : Nat → Nat) (n : Nat) : lnk f (n + 1) = lnk f n + f n * 2 ^ (24 * n) := rfl
theorem pow24 (n : Nat) : 2 ^ (24 * (n + 1)) = 16777216 * 2 ^ (24 * n) := by
  rw [Nat.mul_add, Nat.pow_add, Nat.mul_comm]
theorem lnk_lt {f : Nat → Nat} : ∀ n, (∀ i, i < n → f i < 16777216) → lnk f n < 2 ^ (24 * n)
  | 0, _ => Nat.two_pow_pos _
  | n + 1, h => by
    have ih := lnk_lt n fun i hi => h i (by omega)
    have q : f n * 2 ^ (24 * n) ≤ 16777215 * 2 ^ (24 * n) := Nat.mul_le_mul_right _ (by have := h n (by omega); omega)
    rw [lnk_s, pow24]
    generalize 2 ^ (24 * n) = X at ih q ⊢
    omega
theorem lnk_tb {f : Nat → Nat} : ∀ n, (∀ i, i < n → f i < 16777216) → ∀ i r, i < n → r < 24 → (lnk f n).testBit (24 * i + r) = (f i).testBit r
  | 0, _, i, _, hi, _ => absurd hi (Nat.not_lt_zero _)
  | n + 1, h, i, r, hi, hr => by
    have l := lnk_lt n fun i hi => h i (by omega)
    rw [lnk_s, Nat.add_comm, Nat.mul_comm, Nat.testBit_two_pow_mul_add _ l]
    by_cases c : i = n
    · rw [c, if_neg (by omega), show 24 * n + r - 24 * n = r by omega]
    · rw [if_pos (by omega)]
      exact lnk_tb n (fun i hi => h i (by omega)) i r (by omega) hr
theorem lnk_hi {f : Nat → Nat} {n : Nat} (h : ∀ i, i < n → f i < 16777216) {p : Nat} (hp : 24 * n ≤ p) : (lnk f n).testBit p = false := Nat.testBit_lt_two_pow (Nat.lt_of_lt_of_le (lnk_lt n h) (Nat.pow_le_pow_right (by omega) hp))
theorem lnk_ext {f g : Nat → Nat} : ∀ n, (∀ i, i < n → f i = g i) → lnk f n = lnk g n
  | 0, _ => rfl
  | n + 1, h => by rw [lnk_s, lnk_s, lnk_ext n fun i hi => h i (by omega), h n (by omega)]
theorem lnk_add (f g : Nat → Nat) : ∀ n, lnk f n + lnk g n = lnk (fun i => f i + g i) n
  | 0 => rfl
  | n + 1 => by
    rw [lnk_s, lnk_s, lnk_s, ← lnk_add f g n, Nat.add_mul]
    omega
theorem lnk_mul (c : Nat) (f : Nat → Nat) : ∀ n, c * lnk f n = lnk (fun i => c * f i) n
  | 0 => rfl
  | n + 1 => by
    rw [lnk_s, lnk_s, ← lnk_mul c f n, Nat.mul_add, Nat.mul_assoc]
theorem lnk_and {f g : Nat → Nat} {n : Nat} (hf : ∀ i, i < n → f i < 16777216) (hg : ∀ i, i < n → g i < 16777216) : lnk f n &&& lnk g n = lnk (fun i => f i &&& g i) n := by
  have ha : ∀ i, i < n → (f i &&& g i) < 16777216 := fun i hi => Nat.lt_of_le_of_lt Nat.and_le_left (hf i hi)
  apply Nat.eq_of_testBit_eq
  intro p
  rw [Nat.testBit_and]
  rcases Nat.lt_or_ge p (24 * n) with c | c
  · have e : p = 24 * (p / 24) + p % 24 := by omega
    have i1 : p / 24 < n := by omega
    have i2 : p % 24 < 24 := by omega
    rw [e, lnk_tb n hf _ _ i1 i2, lnk_tb n hg _ _ i1 i2, lnk_tb n ha _ _ i1 i2, Nat.testBit_and]
  · rw [lnk_hi hf c, lnk_hi hg c, lnk_hi ha c]; rfl
theorem lnk_cat (f : Nat → Nat) (m : Nat) : ∀ n, lnk f (m + n) = lnk f m + 2 ^ (24 * m) * lnk (fun i => f (m + i)) n
  | 0 => rfl
  | n + 1 => by
    rw [← Nat.add_assoc, lnk_s, lnk_s, lnk_cat f m n, Nat.mul_add (24) m n, Nat.pow_add, Nat.mul_add (2 ^ (24 * m))]
    generalize lnk f m = A
    generalize lnk (fun i => f (m + i)) n = B
    rw [Nat.mul_left_comm (f (m + n)), Nat.add_assoc]
theorem lnk_mod {f : Nat → Nat} {m n : Nat} (h : ∀ i, i < n → f i < 16777216) (hmn : m ≤ n) : lnk f n % 2 ^ (24 * m) = lnk f m := by
  obtain ⟨d, rfl⟩ := Nat.le.dest hmn
  rw [lnk_cat, Nat.add_mul_mod_self_left]
  exact Nat.mod_eq_of_lt (lnk_lt m fun i hi => h i (by omega))
/-- the same in each lane -/
def r1 (n : Nat) : Nat := Nat.div (Nat.sub (Nat.pow 2 (Nat.mul 24 n)) 1) 16777215
theorem r1_g (c X Y : Nat) (ih : Y * c + 1 = X) : (Y + X) * c + 1 = (c + 1) * X := by
  rw [Nat.add_mul, Nat.add_right_comm, ih, Nat.add_mul, Nat.one_mul, Nat.mul_comm c X, Nat.add_comm]
theorem r1_m (c : Nat) (hc : c = 16777215) : ∀ n, lnk (fun _ => 1) n * c + 1 = 2 ^ (24 * n)
  | 0 => by
    rw [show lnk (fun _ => 1) 0 = 0 from rfl, Nat.zero_mul]
  | n + 1 => by
    have ih := r1_g c _ _ (r1_m c hc n)
    show (lnk (fun _ => 1) n + 1 * 2 ^ (24 * n)) * c + 1 = _
    rw [pow24, Nat.one_mul, ih, hc]
theorem r1_e (n : Nat) : r1 n = lnk (fun _ => 1) n := by
  show (2 ^ (24 * n) - 1) / 16777215 = _
  generalize hc : 16777215 = c
  have h := r1_m c hc.symm n
  rw [← h, Nat.add_sub_cancel]
  exact Nat.mul_div_cancel _ (by omega)
theorem rep_e (c n : Nat) : c * r1 n = lnk (fun _ => c) n := by
  rw [r1_e, lnk_mul]
  exact lnk_ext n fun i _ => Nat.mul_one c
end CLS
