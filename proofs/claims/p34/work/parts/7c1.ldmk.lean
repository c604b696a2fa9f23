/-! THE ROOM: masks of the draws by three, over the states of a class -/
section DMK
def zd (a m : Nat) : Nat := Nat.rec (motive := fun _ => Nat) 0 (fun m x => Nat.add x (Nat.shiftLeft (Nat.land (Nat.add x (Nat.mul (Nat.mod (Nat.mul (Nat.mul 24 a) (Nat.pow 2 m)) 4194304) (r1 (Nat.pow 2 m)))) (Nat.mul 4194303 (r1 (Nat.pow 2 m)))) (Nat.mul 24 (Nat.pow 2 m)))) m
theorem zd_s (a m : Nat) : zd a (m + 1) = zd a m + (((zd a m + (24 * a * 2 ^ m) % 4194304 * r1 (2 ^ m)) &&& (4194303 * r1 (2 ^ m))) <<< (24 * 2 ^ m)) := rfl
theorem and22 (x : Nat) : x &&& 4194303 = x % 4194304 := Nat.and_two_pow_sub_one_eq_mod x 22
theorem zd_e (a : Nat) : ∀ m, zd a m = lnk (fun i => a * (24 * i) % 4194304) (2 ^ m)
  | 0 => by
    show 0 = 0 + a * (24 * 0) % 4194304 * 2 ^ (24 * 0)
    rw [Nat.mul_zero, Nat.mul_zero, Nat.zero_mod, Nat.zero_mul]
  | m + 1 => by
    have hl : ∀ i, a * (24 * i) % 4194304 < 4194304 := fun i => Nat.mod_lt _ (by omega)
    have hc : (24 * a * 2 ^ m) % 4194304 < 4194304 := Nat.mod_lt _ (by omega)
    rw [zd_s, zd_e a m, Nat.pow_succ, Nat.mul_two, lnk_cat, rep_e, rep_e, lnk_add, Nat.shiftLeft_eq, Nat.mul_comm (2 ^ (24 * 2 ^ m)), lnk_and (fun i _ => by
      have := hl i
      omega) (fun i _ => by omega)]
    congr 2
    refine lnk_ext _ fun i _ => ?_
    rw [and22, ← Nat.add_mod]
    congr 1
    rw [Nat.mul_add 24, Nat.mul_add a, Nat.add_comm, Nat.mul_assoc 24, Nat.mul_left_comm 24 a]
/-- row p: a (24 i + p) -/
def zrow (n a p : Nat) : Nat := Nat.rec (motive := fun _ => Nat) (Nat.mod (zd a 15) (Nat.pow 2 (Nat.mul 24 n))) (fun _ x => Nat.land (Nat.add x (Nat.mul a (r1 n))) (Nat.mul 4194303 (r1 n))) p
theorem zrow_0 (n a : Nat) : zrow n a 0 = zd a 15 % 2 ^ (24 * n) := rfl
theorem zrow_s (n a p : Nat) : zrow n a (p + 1) = (zrow n a p + a * r1 n) &&& (4194303 * r1 n) := rfl
theorem zrow_e {n a : Nat} (hn : n ≤ 32768) (ha : a < 4194304) : ∀ p, zrow n a p = lnk (fun i => a * (24 * i + p) % 4194304) n
  | 0 => by
    rw [zrow_0, zd_e, lnk_mod (fun i _ => Nat.lt_of_lt_of_le (Nat.mod_lt _ (by omega)) (by omega)) (show n ≤ 2 ^ 15 from hn)]
    rfl
  | p + 1 => by
    have hl : ∀ i, a * (24 * i + p) % 4194304 < 4194304 := fun i => Nat.mod_lt _ (by omega)
    rw [zrow_s, zrow_e hn ha p, rep_e, rep_e, lnk_add, lnk_and (fun i _ => by
      have := hl i
      omega) (fun i _ => by omega)]
    refine lnk_ext _ fun i _ => ?_
    rw [and22, Nat.mod_add_mod, ← Nat.add_assoc, Nat.mul_add a (24 * i + p) 1, Nat.mul_one]
def xr (n a f p : Nat) : Nat := Nat.add (Nat.mul 3 (zrow n a p)) (Nat.mul f (r1 n))
theorem xr_e {n a f : Nat} (hn : n ≤ 32768) (ha : a < 4194304) (p : Nat) : xr n a f p = lnk (fun i => 3 * (a * (24 * i + p) % 4194304) + f) n := by
  show 3 * zrow n a p + f * r1 n = _
  rw [zrow_e hn ha, lnk_mul, rep_e, lnk_add]
def yr (n a f p : Nat) : Nat := Nat.land (xr n a f p) (Nat.mul 12582912 (r1 n))
theorem b34 : ∀ r, r < 24 → Nat.testBit 12582912 r = decide (22 ≤ r) := by decide
theorem yr_tb {n a f : Nat} (hn : n ≤ 32768) (ha : a < 4194304) (hf : f < 4194304) (p i r : Nat) (hi : i < n) (hr : r < 24) : (yr n a f p).testBit (24 * i + r) = (decide (22 ≤ r) && (3 * (a * (24 * i + p) % 4194304) + f).testBit r) := by
  show (xr n a f p &&& (12582912 * r1 n)).testBit _ = _
  have hl : ∀ i, i < n → 3 * (a * (24 * i + p) % 4194304) + f < 16777216 := fun i _ => by
    have := Nat.mod_lt (a * (24 * i + p)) (show 4194304 > 0 by omega)
    omega
  rw [Nat.testBit_and, xr_e hn ha, rep_e, lnk_tb n hl i r hi hr, lnk_tb n (fun _ _ => by omega) i r hi hr, b34 r hr, Bool.and_comm]
theorem yr_hi {n a f : Nat} (p : Nat) {P : Nat} (hP : 24 * n ≤ P) : (yr n a f p).testBit P = false := by
  show (xr n a f p &&& (12582912 * r1 n)).testBit _ = _
  rw [Nat.testBit_and, rep_e, lnk_hi (fun _ _ => by omega) hP, Bool.and_false]
/-- rows of one parity s, two bits of each lane, gathered -/
def acs (n a f s j : Nat) : Nat := Nat.rec (motive := fun _ => Nat) 0 (fun j x => Nat.lor (Nat.shiftLeft x 2) (yr n a f (Nat.add (Nat.mul 2 (Nat.sub 11 j)) s))) j
theorem acs_s (n a f s j : Nat) : acs n a f s (j + 1) = (acs n a f s j <<< 2) ||| yr n a f (2 * (11 - j) + s) := rfl
theorem acs_tb {n a f s : Nat} (hn : n ≤ 32768) (ha : a < 4194304) (hf : f < 4194304) : ∀ j, j ≤ 12 → ∀ P, (acs n a f s j).testBit P = (decide (22 ≤ P ∧ (P - 22) / 24 < n ∧ (P - 22) % 24 / 2 < j) && (3 * (a * (24 * ((P - 22) / 24) + (2 * (12 - j + (P - 22) % 24 / 2) + s)) % 4194304) + f).testBit (22 + (P - 22) % 24 % 2))
  | 0, _, P => by
    rw [decide_eq_false (by omega), Bool.false_and]
    exact Nat.zero_testBit P
  | j + 1, hj, P => by
    rw [acs_s, Nat.testBit_or, Nat.testBit_shiftLeft, acs_tb hn ha hf j (by omega) (P - 2)]
    by_cases c0 : P < 22
    · rw [decide_eq_false (by omega : ¬ (22 ≤ P - 2 ∧ _)), decide_eq_false (by omega : ¬ (22 ≤ P ∧ _)), Bool.false_and, Bool.false_and, Bool.and_false, Bool.false_or]
      by_cases hi : 0 < n
      · have q := yr_tb hn ha hf (2 * (11 - j) + s) 0 P hi (by omega)
        rw [Nat.mul_zero, Nat.zero_add] at q
        rw [q, decide_eq_false (by omega), Bool.false_and]
      · exact yr_hi _ (by omega)
    · have e : ∃ i d b, P = 24 * i + 22 + 2 * d + b ∧ d < 12 ∧ b < 2 := ⟨(P - 22) / 24, (P - 22) % 24 / 2, (P - 22) % 24 % 2, by omega, by omega, by omega⟩
      obtain ⟨i, d, b, rfl, hd, hb⟩ := e
      have e1 : (24 * i + 22 + 2 * d + b - 22) / 24 = i := by omega
      have e2 : (24 * i + 22 + 2 * d + b - 22) % 24 / 2 = d := by omega
      have e3 : (24 * i + 22 + 2 * d + b - 22) % 24 % 2 = b := by omega
      rw [e1, e2, e3]
      by_cases d0 : d = 0
      · subst d0
        have n1 : ¬ (22 ≤ 24 * i + 22 + 2 * 0 + b - 2 ∧ (24 * i + 22 + 2 * 0 + b - 2 - 22) / 24 < n ∧ (24 * i + 22 + 2 * 0 + b - 2 - 22) % 24 / 2 < j) := by omega
        rw [decide_eq_false n1, Bool.false_and, Bool.and_false, Bool.false_or]
        by_cases hi : i < n
        · have q := yr_tb hn ha hf (2 * (11 - j) + s) i (22 + b) hi (by omega)
          rw [show 24 * i + 22 + 2 * 0 + b = 24 * i + (22 + b) by omega, q, decide_eq_true (by omega : 22 ≤ 22 + b), decide_eq_true (by omega : 22 ≤ 24 * i + (22 + b) ∧ i < n ∧ 0 < j + 1), show 12 - (j + 1) + 0 = 11 - j by omega]
        · rw [yr_hi _ (by omega), decide_eq_false (by omega), Bool.false_and]
      · have f1 : (24 * i + 22 + 2 * d + b - 2 - 22) / 24 = i := by omega
        have f2 : (24 * i + 22 + 2 * d + b - 2 - 22) % 24 / 2 = d - 1 := by omega
        have f3 : (24 * i + 22 + 2 * d + b - 2 - 22) % 24 % 2 = b := by omega
        rw [f1, f2, f3, show 12 - j + (d - 1) = 12 - (j + 1) + d by omega]
        have y0 : (yr n a f (2 * (11 - j) + s)).testBit (24 * i + 22 + 2 * d + b) = false := by
          by_cases hi : i + 1 < n
          · have q := yr_tb hn ha hf (2 * (11 - j) + s) (i + 1) (2 * d + b - 2) hi (by omega)
            rw [show 24 * i + 22 + 2 * d + b = 24 * (i + 1) + (2 * d + b - 2) by omega, q, decide_eq_false (by omega), Bool.false_and]
          · exact yr_hi _ (by omega)
        rw [y0, Bool.or_false, decide_eq_true (by omega : 24 * i + 22 + 2 * d + b ≥ 2), Bool.true_and]
        congr 1
        exact decide_eq_decide.mpr (by omega)
/-- the plane of bit 22 + b -/
def pln (n a f b : Nat) : Nat := Nat.lor (Nat.land (Nat.shiftRight (acs n a f 0 12) (Nat.add 22 b)) (Nat.mul 5592405 (r1 n))) (Nat.shiftLeft (Nat.land (Nat.shiftRight (acs n a f 1 12) (Nat.add 22 b)) (Nat.mul 5592405 (r1 n))) 1)
theorem b55 : ∀ r, r < 24 → Nat.testBit 5592405 r = decide (r % 2 = 0) := by decide
theorem e55 {n : Nat} (P : Nat) : (5592405 * r1 n).testBit P = decide (P < 24 * n ∧ P % 2 = 0) := by
  rw [rep_e]
  rcases Nat.lt_or_ge P (24 * n) with c | c
  · have q := lnk_tb (f := fun _ => 5592405) n (fun _ _ => by omega) (P / 24) (P % 24) (by omega) (by omega)
    rw [show 24 * (P / 24) + P % 24 = P by omega, b55 _ (by omega)] at q
    rw [q]
    exact decide_eq_decide.mpr (by omega)
  · rw [lnk_hi (fun _ _ => by omega) c, decide_eq_false (by omega)]
theorem pln_tb {n a f b : Nat} (hn : n ≤ 32768) (ha : a < 4194304) (hf : f < 4194304) (hb : b < 2) {k : Nat} (hk : k < 24 * n) : (pln n a f b).testBit k = (3 * (a * k % 4194304) + f).testBit (22 + b) := by
  show (((acs n a f 0 12 >>> (22 + b)) &&& (5592405 * r1 n)) ||| (((acs n a f 1 12 >>> (22 + b)) &&& (5592405 * r1 n)) <<< 1)).testBit k = _
  rw [Nat.testBit_or, Nat.testBit_and, Nat.testBit_shiftLeft, Nat.testBit_and, Nat.testBit_shiftRight, Nat.testBit_shiftRight, e55, e55, acs_tb hn ha hf 12 (by omega), acs_tb hn ha hf 12 (by omega)]
  by_cases c : k % 2 = 0
  · have n1 : ¬ (k - 1 < 24 * n ∧ (k - 1) % 2 = 0) ∨ ¬ k ≥ 1 := by omega
    have z : (decide (k ≥ 1) && (decide (22 ≤ 22 + b + (k - 1) ∧ (22 + b + (k - 1) - 22) / 24 < n ∧ (22 + b + (k - 1) - 22) % 24 / 2 < 12) && (3 * (a * (24 * ((22 + b + (k - 1) - 22) / 24) + (2 * (12 - 12 + (22 + b + (k - 1) - 22) % 24 / 2) + 1)) % 4194304) + f).testBit (22 + (22 + b + (k - 1) - 22) % 24 % 2) && decide (k - 1 < 24 * n ∧ (k - 1) % 2 = 0))) = false := by
      rcases n1 with h | h
      · rw [decide_eq_false h, Bool.and_false, Bool.and_false]
      · rw [decide_eq_false h, Bool.false_and]
    rw [z, Bool.or_false, decide_eq_true (by omega : k < 24 * n ∧ k % 2 = 0), Bool.and_true, decide_eq_true (by omega : 22 ≤ 22 + b + k ∧ (22 + b + k - 22) / 24 < n ∧ (22 + b + k - 22) % 24 / 2 < 12), Bool.true_and, show (22 + b + k - 22) % 24 % 2 = b by omega, show 24 * ((22 + b + k - 22) / 24) + (2 * (12 - 12 + (22 + b + k - 22) % 24 / 2) + 0) = k by omega]
  · rw [decide_eq_false (by omega : ¬ (k < 24 * n ∧ k % 2 = 0)), Bool.and_false, Bool.false_or, decide_eq_true (by omega : k ≥ 1), Bool.true_and, decide_eq_true (by omega : k - 1 < 24 * n ∧ (k - 1) % 2 = 0), Bool.and_true, decide_eq_true (by omega : 22 ≤ 22 + b + (k - 1) ∧ (22 + b + (k - 1) - 22) / 24 < n ∧ (22 + b + (k - 1) - 22) % 24 / 2 < 12), Bool.true_and, show (22 + b + (k - 1) - 22) % 24 % 2 = b by omega, show 24 * ((22 + b + (k - 1) - 22) / 24) + (2 * (12 - 12 + (22 + b + (k - 1) - 22) % 24 / 2) + 1) = k by omega]
def fulN (n : Nat) : Nat := Nat.sub (Nat.pow 2 n) 1
theorem fulN_tb (n k : Nat) : (fulN n).testBit k = decide (k < n) := Nat.testBit_two_pow_sub_one n k
def dmq (n a f i : Nat) : Nat := bif Nat.beq i 0 then Nat.xor (fulN (Nat.mul 24 n)) (Nat.xor (pln n a f 0) (pln n a f 1)) else bif Nat.beq i 1 then Nat.xor (pln n a f 0) (Nat.land (pln n a f 0) (pln n a f 1)) else Nat.xor (pln n a f 1) (Nat.land (pln n a f 0) (pln n a f 1))
/-- whose draw by three is v; u is the state at k = 0 -/
def dmk (n a u v : Nat) : Nat := dmq n a (Nat.div u 1024) (Nat.mod (Nat.add (Nat.mul 2 v) (Nat.div u 256)) 3)
theorem dmq_tb {n a f q : Nat} (hn : n ≤ 32768) (ha : a < 4194304) (hf : f < 4194304) {k : Nat} (hk : k < 24 * n) (hq : (3 * (a * k % 4194304) + f) / 4194304 % 3 = q) : (dmq n a f q).testBit k = true := by
  have t0 := pln_tb (b := 0) hn ha hf (by omega) hk
  have t1 := pln_tb (b := 1) hn ha hf (by omega) hk
  have l := Nat.mod_lt (a * k) (show 4194304 > 0 by omega)
  rw [Nat.testBit_eq_decide_div_mod_eq (i := 22 + 0), show (2 : Nat) ^ (22 + 0) = 4194304 from rfl] at t0
  rw [Nat.testBit_eq_decide_div_mod_eq (i := 22 + 1), show (2 : Nat) ^ (22 + 1) = 8388608 from rfl] at t1
  generalize a * k % 4194304 = z at t0 t1 l hq
  unfold dmq
  have c : (3 * z + f) / 4194304 = 0 ∨ (3 * z + f) / 4194304 = 1 ∨ (3 * z + f) / 4194304 = 2 ∨ (3 * z + f) / 4194304 = 3 := by omega
  rcases c with c | c | c | c
  · rw [decide_eq_false (by omega)] at t0
    rw [decide_eq_false (by omega)] at t1
    have q0 : q = 0 := by omega
    rw [beq_t q0, cond_true]
    show (fulN (24 * n) ^^^ (pln n a f 0 ^^^ pln n a f 1)).testBit k = true
    rw [Nat.testBit_xor, Nat.testBit_xor, t0, t1, fulN_tb, decide_eq_true hk]; rfl
  · rw [decide_eq_true (by omega)] at t0
    rw [decide_eq_false (by omega)] at t1
    have q1 : q = 1 := by omega
    rw [beq_f (by omega), cond_false, beq_t q1, cond_true]
    show (pln n a f 0 ^^^ (pln n a f 0 &&& pln n a f 1)).testBit k = true
    rw [Nat.testBit_xor, Nat.testBit_and, t0, t1]; rfl
  · rw [decide_eq_false (by omega)] at t0
    rw [decide_eq_true (by omega)] at t1
    have q2 : q = 2 := by omega
    rw [beq_f (by omega), cond_false, beq_f (by omega), cond_false]
    show (pln n a f 1 ^^^ (pln n a f 0 &&& pln n a f 1)).testBit k = true
    rw [Nat.testBit_xor, Nat.testBit_and, t0, t1]; rfl
  · rw [decide_eq_true (by omega)] at t0
    rw [decide_eq_true (by omega)] at t1
    have q0 : q = 0 := by omega
    rw [beq_t q0, cond_true]
    show (fulN (24 * n) ^^^ (pln n a f 0 ^^^ pln n a f 1)).testBit k = true
    rw [Nat.testBit_xor, Nat.testBit_xor, t0, t1, fulN_tb, decide_eq_true hk]; rfl
theorem dmk_ok {n a u v k : Nat} (hn : n ≤ 32768) (ha : a < 4194304) (hu : u < 4294967296) (hv : v < 3) (hk : k < 24 * n) (h : (3072 * (a * k % 4194304) + u) % 4294967296 / 256 % 3 = v) : (dmk n a u v).testBit k = true := by
  have l := Nat.mod_lt (a * k) (show 4194304 > 0 by omega)
  rw [dv3_e _ _ l hu] at h
  refine dmq_tb hn ha (show u / 1024 < 4194304 by omega) hk ?_
  show _ = (2 * v + u / 256) % 3
  generalize a * k % 4194304 = z at h l ⊢
  omega
end DMK
