/-! CASTING, told purely: the fewest doublings of the last r seats from a set of players, and who then comes first -/
def mi (a b : Nat) : Nat := if a < b then a else b
def rm (F S : Nat) : Nat := F &&& (S ^^^ 4294967295)
/-- the instrument of a seat with r seats behind it -/
def kr (sg : Nat → Nat) (w r : Nat) : Nat := oW sg w (5 + (oW sg w 4 - (r + 1)))
def dm (sg : Nat → Nat) (w : Nat) : Nat → Nat → Nat
  | 0, _ => 0
  | r + 1, F => fo (fun p b => if F.testBit p = true ∧ (kinds sg p).testBit (kr sg w r) = true then mi (dbo sg p (kr sg w r) + dm sg w r (rm F (2 ^ p))) b else b) (sg 2) 100
/-- whether a player can have the seat, and what then is told -/
def el (sg : Nat → Nat) (w r F p : Nat) : Prop := F.testBit p = true ∧ (kinds sg p).testBit (kr sg w r) = true
def co (sg : Nat → Nat) (w r F p : Nat) : Nat := dbo sg p (kr sg w r) + dm sg w r (rm F (2 ^ p))
def dk (sg : Nat → Nat) (w r F k : Nat) : Nat := fo (fun p b => if F.testBit p = true ∧ (kinds sg p).testBit (kr sg w r) = true then mi (dbo sg p (kr sg w r) + dm sg w r (rm F (2 ^ p))) b else b) k 100
theorem dm_s (sg : Nat → Nat) (w r F : Nat) : dm sg w (r + 1) F = dk sg w r F (sg 2) := by rw [dm]; rfl
theorem dk_s (sg : Nat → Nat) (w r F k : Nat) : dk sg w r F (k + 1) = if F.testBit k = true ∧ (kinds sg k).testBit (kr sg w r) = true then mi (co sg w r F k) (dk sg w r F k) else dk sg w r F k := rfl
theorem dk_0 (sg : Nat → Nat) (w r F : Nat) : dk sg w r F 0 = 100 := rfl
theorem mi_le (a b : Nat) : mi a b ≤ a ∧ mi a b ≤ b ∧ (mi a b = a ∨ mi a b = b) := by unfold mi; split <;> omega
theorem dk_le (sg : Nat → Nat) (w r F : Nat) : ∀ k, dk sg w r F k ≤ 100
  | 0 => Nat.le_refl _
  | k + 1 => by
    have h := dk_le sg w r F k
    have e := mi_le (co sg w r F k) (dk sg w r F k)
    rw [dk_s]
    split <;> omega
theorem dm_le (sg : Nat → Nat) (w : Nat) : ∀ r F, dm sg w r F ≤ 100
  | 0, _ => by rw [dm]; omega
  | r + 1, F => by rw [dm_s]; exact dk_le sg w r F _
theorem dbo_le (sg : Nat → Nat) (p k : Nat) : dbo sg p k ≤ 1 := by unfold dbo; split <;> omega
theorem dk_low (sg : Nat → Nat) (w r F : Nat) : ∀ k p, p < k → el sg w r F p → dk sg w r F k ≤ co sg w r F p
  | 0, p, h, _ => absurd h (Nat.not_lt_zero p)
  | k + 1, p, h, e => by
    have m := mi_le (co sg w r F k) (dk sg w r F k)
    rw [dk_s]
    by_cases q : p = k
    · subst q
      have e2 : F.testBit p = true ∧ (kinds sg p).testBit (kr sg w r) = true := e
      rw [if_pos e2]; omega
    · have i := dk_low sg w r F k p (by omega) e
      split <;> omega
theorem dk_ex (sg : Nat → Nat) (w r F : Nat) : ∀ k, dk sg w r F k = 100 ∨ ∃ p, p < k ∧ el sg w r F p ∧ co sg w r F p = dk sg w r F k
  | 0 => Or.inl rfl
  | k + 1 => by
    have i := dk_ex sg w r F k
    have m := mi_le (co sg w r F k) (dk sg w r F k)
    rw [dk_s]
    by_cases e : F.testBit k = true ∧ (kinds sg k).testBit (kr sg w r) = true
    · rw [if_pos e]
      rcases m.2.2 with q | q
      · exact Or.inr ⟨k, by omega, e, q.symm⟩
      · rw [q]
        rcases i with i | ⟨p, h1, h2, h3⟩
        · exact Or.inl i
        · exact Or.inr ⟨p, by omega, h2, h3⟩
    · rw [if_neg e]
      rcases i with i | ⟨p, h1, h2, h3⟩
      · exact Or.inl i
      · exact Or.inr ⟨p, by omega, h2, h3⟩
theorem dm_01 (sg : Nat → Nat) (w : Nat) : ∀ r F, r ≤ 99 → dm sg w r F ≤ r ∨ dm sg w r F = 100
  | 0, _, _ => by rw [dm]; omega
  | r + 1, F, hr => by
    rw [dm_s]
    rcases dk_ex sg w r F (sg 2) with h | ⟨p, h1, h2, h3⟩
    · exact Or.inr h
    · have i := dm_01 sg w r (rm F (2 ^ p)) (by omega)
      have b := dbo_le sg p (kr sg w r)
      have l := dk_le sg w r F (sg 2)
      have c : co sg w r F p = dbo sg p (kr sg w r) + dm sg w r (rm F (2 ^ p)) := rfl
      omega
/-- the first player below k with what is told -/
def ak (sg : Nat → Nat) (w r F k : Nat) : Nat := fi (fun p => decide ((F.testBit p = true ∧ (kinds sg p).testBit (kr sg w r) = true) ∧ co sg w r F p = dk sg w r F k)) k
def fp (sg : Nat → Nat) (w r F : Nat) : Nat := ak sg w r F (sg 2)
theorem fi_eq {p : Nat → Bool} {n k : Nat} (hk : k < n) (hp : p k = true) (hn : ∀ j, j < k → p j = false) : fi p n = k := by
  have l := fi_le p n
  have a := fi_no p n
  have b := fi_yes p n
  rcases Nat.lt_trichotomy (fi p n) k with h | h | h
  · have := hn _ h
    rw [b (by omega)] at this; cases this
  · exact h
  · have := a k h
    rw [hp] at this; cases this
theorem fi_cong {p q : Nat → Bool} : ∀ n, (∀ i, i < n → p i = q i) → fi p n = fi q n
  | 0, _ => rfl
  | n + 1, h => by
    unfold fi
    rw [fi_cong n (fun i hi => h i (by omega)), h n (by omega)]
theorem ak_lt {sg : Nat → Nat} {w r F k : Nat} (h : dk sg w r F k < 100) : ak sg w r F k < k ∧ el sg w r F (ak sg w r F k) ∧ co sg w r F (ak sg w r F k) = dk sg w r F k := by
  rcases dk_ex sg w r F k with e | ⟨p, h1, h2, h3⟩
  · omega
  · have l : ak sg w r F k < k := by
      have l1 := fi_le (fun p => decide ((F.testBit p = true ∧ (kinds sg p).testBit (kr sg w r) = true) ∧ co sg w r F p = dk sg w r F k)) k
      unfold ak
      by_cases c : fi (fun p => decide ((F.testBit p = true ∧ (kinds sg p).testBit (kr sg w r) = true) ∧ co sg w r F p = dk sg w r F k)) k = k
      · have n := fi_no (fun p => decide ((F.testBit p = true ∧ (kinds sg p).testBit (kr sg w r) = true) ∧ co sg w r F p = dk sg w r F k)) k p (by omega)
        exact absurd ⟨h2, h3⟩ (of_decide_eq_false n)
      · omega
    have y := of_decide_eq_true (fi_yes (fun p => decide ((F.testBit p = true ∧ (kinds sg p).testBit (kr sg w r) = true) ∧ co sg w r F p = dk sg w r F k)) k l)
    exact ⟨l, y.1, y.2⟩
theorem ak_new {sg : Nat → Nat} {w r F k : Nat} (e : F.testBit k = true ∧ (kinds sg k).testBit (kr sg w r) = true) (h : co sg w r F k < dk sg w r F k) : dk sg w r F (k + 1) = co sg w r F k ∧ ak sg w r F (k + 1) = k := by
  have d : dk sg w r F (k + 1) = co sg w r F k := by rw [dk_s, if_pos e]; unfold mi; rw [if_pos h]
  refine ⟨d, ?_⟩
  unfold ak
  refine fi_eq (by omega) ?_ fun j hj => ?_
  · rw [d]; exact decide_eq_true ⟨e, rfl⟩
  · rw [d]
    refine decide_eq_false fun q => ?_
    have := dk_low sg w r F k j hj q.1
    omega
theorem ak_old {sg : Nat → Nat} {w r F k : Nat} (h : ¬ ((F.testBit k = true ∧ (kinds sg k).testBit (kr sg w r) = true) ∧ co sg w r F k < dk sg w r F k)) : dk sg w r F (k + 1) = dk sg w r F k ∧ (dk sg w r F k < 100 → ak sg w r F (k + 1) = ak sg w r F k) := by
  have d : dk sg w r F (k + 1) = dk sg w r F k := by
    rw [dk_s]
    split
    · rename_i e
      unfold mi
      rw [if_neg (fun q => h ⟨e, q⟩)]
    · rfl
  refine ⟨d, fun l => ?_⟩
  obtain ⟨a1, a2, a3⟩ := ak_lt l
  refine fi_eq (by omega) ?_ fun j hj => ?_
  · rw [d]; exact decide_eq_true ⟨a2, a3⟩
  · rw [d]
    exact fi_no (fun p => decide ((F.testBit p = true ∧ (kinds sg p).testBit (kr sg w r) = true) ∧ co sg w r F p = dk sg w r F k)) k j hj
/-- the set that is left when i seats are taken -/
def FJ (sg : Nat → Nat) (w : Nat) : Nat → Nat → Nat → Nat
  | 0, _, F => F
  | i + 1, r, F => FJ sg w i (r - 1) (rm F (2 ^ fp sg w (r - 1) F))
/-- the best cast's player on the i-th seat of r -/
def bq (sg : Nat → Nat) (w r F i : Nat) : Nat := fp sg w (r - i - 1) (FJ sg w i r F)
theorem bq_0 (sg : Nat → Nat) (w r F : Nat) : bq sg w (r + 1) F 0 = fp sg w r F := rfl
theorem bq_s (sg : Nat → Nat) (w r F i : Nat) : bq sg w (r + 1) F (i + 1) = bq sg w r (rm F (2 ^ fp sg w r F)) i := by
  unfold bq
  rw [show r + 1 - (i + 1) - 1 = r - i - 1 by omega]
  rfl
theorem FJ_b (sg : Nat → Nat) (w : Nat) : ∀ i r F, FJ sg w (i + 1) r F = rm (FJ sg w i r F) (2 ^ bq sg w r F i)
  | 0, _, _ => rfl
  | i + 1, r, F => by
    show FJ sg w (i + 1) (r - 1) (rm F (2 ^ fp sg w (r - 1) F)) = _
    rw [FJ_b sg w i]
    show _ = rm (FJ sg w i (r - 1) (rm F (2 ^ fp sg w (r - 1) F))) (2 ^ fp sg w (r - (i + 1) - 1) (FJ sg w i (r - 1) (rm F (2 ^ fp sg w (r - 1) F))))
    unfold bq
    rw [show r - 1 - i - 1 = r - (i + 1) - 1 by omega]
/-- a cast can be told from the fewest: every seat has a player, from what is left -/
theorem bq_ok (sg : Nat → Nat) (w : Nat) : ∀ r F i, r ≤ 99 → dm sg w r F < 100 → i < r → bq sg w r F i < sg 2 ∧ el sg w (r - i - 1) (FJ sg w i r F) (bq sg w r F i) ∧ dm sg w (r - i) (FJ sg w i r F) < 100 ∧ co sg w (r - i - 1) (FJ sg w i r F) (bq sg w r F i) = dm sg w (r - i) (FJ sg w i r F)
  | 0, _, i, _, _, hi => absurd hi (Nat.not_lt_zero i)
  | r + 1, F, 0, _, h, _ => by
    rw [dm_s] at h
    obtain ⟨a1, a2, a3⟩ := ak_lt h
    refine ⟨a1, a2, ?_, ?_⟩
    · show dm sg w (r + 1) F < 100
      rw [dm_s]; exact h
    · show co sg w r F (fp sg w r F) = dm sg w (r + 1) F
      rw [dm_s]; exact a3
  | r + 1, F, i + 1, hr, h, hi => by
    rw [dm_s] at h
    obtain ⟨a1, a2, a3⟩ := ak_lt h
    have l := dm_01 sg w r (rm F (2 ^ fp sg w r F)) (by omega)
    have c : co sg w r F (fp sg w r F) = dbo sg (fp sg w r F) (kr sg w r) + dm sg w r (rm F (2 ^ fp sg w r F)) := rfl
    have e : co sg w r F (fp sg w r F) = dk sg w r F (sg 2) := a3
    have b := bq_ok sg w r (rm F (2 ^ fp sg w r F)) i (by omega) (by omega) (by omega)
    rw [bq_s, show r + 1 - (i + 1) - 1 = r - i - 1 by omega, show r + 1 - (i + 1) = r - i by omega]
    exact b
theorem rm_lt {F S : Nat} (h : F < 256) : rm F S < 256 := and_lt256 h
theorem rm_tb {F S : Nat} (h : F < 256) (i : Nat) : (rm F S).testBit i = (F.testBit i && !S.testBit i) := by
  unfold rm
  rw [Nat.testBit_and, Nat.testBit_xor, show (4294967295 : Nat) = 2 ^ 32 - 1 from rfl, Nat.testBit_two_pow_sub_one]
  by_cases hi : i < 32
  · rw [decide_eq_true hi]
    cases F.testBit i <;> cases S.testBit i <;> rfl
  · rw [Nat.testBit_lt_two_pow (Nat.lt_of_lt_of_le h (show 2 ^ 8 ≤ 2 ^ i from p2m (by omega)))]
    rfl
theorem rm_rm {F S T : Nat} (h : F < 256) : rm (rm F S) T = rm F (S ||| T) := by
  refine Nat.eq_of_testBit_eq fun i => ?_
  rw [rm_tb (rm_lt h), rm_tb h, rm_tb h, Nat.testBit_or]
  cases F.testBit i <;> cases S.testBit i <;> cases T.testBit i <;> rfl
theorem rm_0 {F : Nat} (h : F < 256) : rm F 0 = F := by
  refine Nat.eq_of_testBit_eq fun i => ?_
  rw [rm_tb h, Nat.zero_testBit]
  cases F.testBit i <;> rfl
theorem FJ_lt {sg : Nat → Nat} {w : Nat} : ∀ i r F, F < 256 → FJ sg w i r F < 256
  | 0, _, _, h => h
  | i + 1, r, F, h => FJ_lt i (r - 1) _ (rm_lt h)
/-- the players of the seats taken, as bits -/
def sb (sg : Nat → Nat) (w r F : Nat) : Nat → Nat
  | 0 => 0
  | i + 1 => sb sg w r F i ||| 2 ^ bq sg w r F i
theorem FJ_sb {sg : Nat → Nat} {w r F : Nat} (h : F < 256) : ∀ i, FJ sg w i r F = rm F (sb sg w r F i)
  | 0 => (rm_0 h).symm
  | i + 1 => by rw [FJ_b, FJ_sb h i, rm_rm h]; rfl
theorem sb_tb (sg : Nat → Nat) (w r F : Nat) (q : Nat) : ∀ i, (sb sg w r F i).testBit q = true ↔ ∃ j, j < i ∧ bq sg w r F j = q
  | 0 => ⟨fun h => absurd h (by rw [show sb sg w r F 0 = 0 from rfl, Nat.zero_testBit]; decide), fun ⟨j, h, _⟩ => absurd h (Nat.not_lt_zero j)⟩
  | i + 1 => by
    show (sb sg w r F i ||| 2 ^ bq sg w r F i).testBit q = true ↔ _
    rw [Nat.testBit_or, Bool.or_eq_true, sb_tb sg w r F q i, Nat.testBit_two_pow, decide_eq_true_eq]
    constructor
    · rintro (⟨j, h1, h2⟩ | h)
      · exact ⟨j, by omega, h2⟩
      · exact ⟨i, by omega, h⟩
    · rintro ⟨j, h1, h2⟩
      by_cases e : j = i
      · subst e; exact Or.inr h2
      · exact Or.inl ⟨j, by omega, h2⟩
/-- the best cast is a cast: from F, who play it, nobody twice -/
theorem bq_cast {sg : Nat → Nat} {w r F : Nat} (hF : F < 256) (hr : r ≤ 99) (h : dm sg w r F < 100) {i : Nat} (hi : i < r) : bq sg w r F i < sg 2 ∧ F.testBit (bq sg w r F i) = true ∧ (kinds sg (bq sg w r F i)).testBit (kr sg w (r - i - 1)) = true ∧ ∀ j, j < i → bq sg w r F j ≠ bq sg w r F i := by
  obtain ⟨a1, a2, -, -⟩ := bq_ok sg w r F i hr h hi
  have t := a2.1
  rw [FJ_sb hF, rm_tb hF, Bool.and_eq_true] at t
  refine ⟨a1, t.1, a2.2, fun j hj e => ?_⟩
  have s := (sb_tb sg w r F (bq sg w r F i) i).mpr ⟨j, hj, e⟩
  rw [s] at t
  exact absurd t.2 (by decide)
/-- who has a cast has a fewest -/
theorem dm_has {sg : Nat → Nat} {w : Nat} : ∀ r F (f : Nat → Nat), F < 256 → r ≤ 99 → (∀ i, i < r → f i < sg 2 ∧ F.testBit (f i) = true ∧ (kinds sg (f i)).testBit (kr sg w (r - i - 1)) = true ∧ ∀ j, j < i → f j ≠ f i) → dm sg w r F < 100
  | 0, _, _, _, _, _ => by rw [dm]; omega
  | r + 1, F, f, hF, hr, h => by
    obtain ⟨h1, h2, h3, -⟩ := h 0 (by omega)
    have e : el sg w r F (f 0) := ⟨h2, h3⟩
    have l := dk_low sg w r F (sg 2) (f 0) h1 e
    have i := dm_has r (rm F (2 ^ f 0)) (fun i => f (i + 1)) (rm_lt hF) (by omega) (fun i hi => by
      obtain ⟨g1, g2, g3, g4⟩ := h (i + 1) (by omega)
      refine ⟨g1, ?_, ?_, fun j hj => g4 (j + 1) (by omega)⟩
      · rw [rm_tb hF, g2, Nat.testBit_two_pow, decide_eq_false (g4 0 (by omega))]; rfl
      · rw [show r + 1 - (i + 1) - 1 = r - i - 1 by omega] at g3; exact g3)
    have k := dm_01 sg w r (rm F (2 ^ f 0)) (by omega)
    have b := dbo_le sg (f 0) (kr sg w r)
    have c : co sg w r F (f 0) = dbo sg (f 0) (kr sg w r) + dm sg w r (rm F (2 ^ f 0)) := rfl
    rw [dm_s]; omega
