/-! THE ROOM: how many casts, in numbers that the kernel reckons fast -/
section KMR
theorem un_sub {N q m d : Nat} (h : Bd N q) (hq : q ≤ 7) (hm : m < 4) (hd : d ≤ un N m) : (∀ k, un (N - 8 ^ m * d) k = ups (un N) m (un N m - d) k) ∧ Bd (N - 8 ^ m * d) q := by
  obtain ⟨h0, h1, h2, h3⟩ := id h
  have c : m = 0 ∨ m = 1 ∨ m = 2 ∨ m = 3 := by omega
  rcases c with rfl | rfl | rfl | rfl
  · rw [un_0] at hd
    have b : Bd (N - 8 ^ 0 * d) q := by refine ⟨?_, ?_, ?_, ?_⟩ <;> simp only [Nat.reducePow] <;> omega
    refine ⟨fun k => ?_, b⟩
    rcases k4 k with rfl | rfl | rfl | rfl | hk
    · rw [ups_1, un_0, un_0]; simp only [Nat.reducePow]; omega
    · rw [ups_o _ _ _ (by omega), un_1, un_1]; simp only [Nat.reducePow]; omega
    · rw [ups_o _ _ _ (by omega), un_2, un_2]; simp only [Nat.reducePow]; omega
    · rw [ups_o _ _ _ (by omega), un_3, un_3]; simp only [Nat.reducePow]; omega
    · rw [ups_o _ _ _ (by omega), un_hi b hq hk, un_hi h hq hk]
  · rw [un_1] at hd
    have b : Bd (N - 8 ^ 1 * d) q := by refine ⟨?_, ?_, ?_, ?_⟩ <;> simp only [Nat.reducePow] <;> omega
    refine ⟨fun k => ?_, b⟩
    rcases k4 k with rfl | rfl | rfl | rfl | hk
    · rw [ups_o _ _ _ (by omega), un_0, un_0]; simp only [Nat.reducePow]; omega
    · rw [ups_1, un_1, un_1]; simp only [Nat.reducePow]; omega
    · rw [ups_o _ _ _ (by omega), un_2, un_2]; simp only [Nat.reducePow]; omega
    · rw [ups_o _ _ _ (by omega), un_3, un_3]; simp only [Nat.reducePow]; omega
    · rw [ups_o _ _ _ (by omega), un_hi b hq hk, un_hi h hq hk]
  · rw [un_2] at hd
    have b : Bd (N - 8 ^ 2 * d) q := by
      have e : N - 8 ^ 2 * d = 64 * (N / 64 - d) + N % 64 := by simp only [Nat.reducePow]; omega
      have z : N / 64 - d ≤ N / 64 := by omega
      rw [e]
      have f1 : N / 8 % 8 = N % 64 / 8 := by omega
      have f0 : N % 8 = N % 64 % 8 := by omega
      rw [f1] at h1
      rw [f0] at h0
      have z2 : (N / 64 - d) / 8 ≤ N / 512 ∧ (N / 64 - d) % 8 ≤ N / 64 % 8 := by omega
      have r64 : N % 64 < 64 := by omega
      generalize N / 64 - d = y at z2 ⊢
      generalize N % 64 = r at h0 h1 r64 ⊢
      exact ⟨by omega, by omega, by omega, by omega⟩
    refine ⟨fun k => ?_, b⟩
    rcases k4 k with rfl | rfl | rfl | rfl | hk
    · rw [ups_o _ _ _ (by omega), un_0, un_0]; simp only [Nat.reducePow]; omega
    · rw [ups_o _ _ _ (by omega), un_1, un_1]; simp only [Nat.reducePow]; omega
    · rw [ups_1, un_2, un_2]; simp only [Nat.reducePow]; omega
    · rw [ups_o _ _ _ (by omega), un_3, un_3]; simp only [Nat.reducePow]; omega
    · rw [ups_o _ _ _ (by omega), un_hi b hq hk, un_hi h hq hk]
  · rw [un_3] at hd
    have b : Bd (N - 8 ^ 3 * d) q := by refine ⟨?_, ?_, ?_, ?_⟩ <;> simp only [Nat.reducePow] <;> omega
    refine ⟨fun k => ?_, b⟩
    rcases k4 k with rfl | rfl | rfl | rfl | hk
    · rw [ups_o _ _ _ (by omega), un_0, un_0]; simp only [Nat.reducePow]; omega
    · rw [ups_o _ _ _ (by omega), un_1, un_1]; simp only [Nat.reducePow]; omega
    · rw [ups_o _ _ _ (by omega), un_2, un_2]; simp only [Nat.reducePow]; omega
    · rw [ups_1, un_3, un_3]; simp only [Nat.reducePow]; omega
    · rw [ups_o _ _ _ (by omega), un_hi b hq hk, un_hi h hq hk]
def unR (N k : Nat) : Nat := Nat.mod (Nat.div N (Nat.pow 8 k)) 8
theorem unR_e (N k : Nat) : unR N k = un N k := rfl
noncomputable def isIR (N k : Nat) (l : List Nat) : List Nat := List.rec (motive := fun _ => List Nat) [k] (fun x l ih => bif Nat.blt (unR N x) (unR N k) then x :: ih else k :: x :: l) l
theorem isIR_e (N k : Nat) : ∀ l, isIR N k l = isI (un N) k l
  | [] => rfl
  | x :: l => by
    show (bif Nat.blt (unR N x) (unR N k) then x :: isIR N k l else k :: x :: l) = _
    unfold isI
    by_cases c : un N x < un N k
    · rw [unR_e, unR_e, blt_t c, cond_true, if_pos c, isIR_e N k l]
    · rw [unR_e, unR_e, blt_n c, cond_false, if_neg c]
noncomputable def isSR (N : Nat) (l : List Nat) : List Nat := List.rec (motive := fun _ => List Nat) [] (fun k _ ih => isIR N k ih) l
theorem isSR_e (N : Nat) : ∀ l, isSR N l = isS (un N) l
  | [] => rfl
  | k :: l => by
    show isIR N k (isSR N l) = isI (un N) k (isS (un N) l)
    rw [isIR_e, isSR_e N l]
noncomputable def LsR (N C : Nat) : List Nat := isSR N (uls C)
theorem LsR_e (N C : Nat) : LsR N C = Ls N C := isSR_e N (uls C)
theorem rpl_mem {k n x : Nat} {t : List Nat} (h : x ∈ rpl k n t) : x = k ∨ x ∈ t := by
  induction n with
  | zero => exact Or.inr h
  | succ n ih =>
    have h : x ∈ k :: rpl k n t := h
    rcases List.mem_cons.mp h with q | q
    · exact Or.inl q
    · exact ih q
theorem uls_4 {C x : Nat} (h : x ∈ uls C) : x < 4 := by
  rcases rpl_mem h with q | h
  · omega
  rcases rpl_mem h with q | h
  · omega
  rcases rpl_mem h with q | h
  · omega
  rcases rpl_mem h with q | h
  · omega
  exact absurd h List.not_mem_nil
theorem getD_mem : ∀ {l : List Nat} {i : Nat}, i < l.length → l.getD i 0 ∈ l
  | [], _, h => absurd h (Nat.not_lt_zero _)
  | _ :: _, 0, _ => List.mem_cons_self
  | _ :: _, _ + 1, h => List.mem_cons_of_mem _ (getD_mem (Nat.lt_of_succ_lt_succ h))
theorem LsR_4 {N C x : Nat} (h : x ∈ LsR N C) : x < 4 := by
  rw [LsR_e] at h
  exact uls_4 ((isS_p (un N) (uls C)).symm.subset h)
noncomputable def UlR (l : List Nat) : Nat → Nat → Nat := List.rec (motive := fun _ => Nat → Nat → Nat) (fun _ _ => 1) (fun k _ ih N P => fzN (unR N k) fun x => bif Nat.beq x 0 then 0 else Nat.mul (bif Nat.blt x P then x else P) (ih (Nat.sub N (Nat.pow 8 k)) (Nat.sub P 1))) l
theorem UlR_c (k : Nat) (l : List Nat) (N P : Nat) : UlR (k :: l) N P = fzN (unR N k) fun x => bif Nat.beq x 0 then 0 else (bif Nat.blt x P then x else P) * UlR l (N - 8 ^ k) (P - 1) := rfl
theorem UlR_e : ∀ (l : List Nat) {N P q : Nat}, Bd N q → q ≤ 7 → (∀ x, x ∈ l → x < 4) → UlR l N P = Ul l (un N) P
  | [], _, _, _, _, _, _ => rfl
  | k :: l, N, P, q, hb, hq, hm => by
    have k4 := hm k List.mem_cons_self
    show _ = (if un N k < P then un N k else P) * Ul l (ups (un N) k (un N k - 1)) (P - 1)
    rw [UlR_c, fzN_e, unR_e]
    by_cases z : un N k = 0
    · rw [beq_t z, cond_true, z]
      by_cases y : 0 < P
      · rw [if_pos y, Nat.zero_mul]
      · rw [if_neg y, show P = 0 by omega, Nat.zero_mul]
    · rw [beq_f z, cond_false]
      obtain ⟨u, b⟩ := un_sub (d := 1) hb hq k4 (by omega)
      rw [Nat.mul_one] at u b
      rw [UlR_e l b hq fun x hx => hm x (List.mem_cons_of_mem _ hx), show un (N - 8 ^ k) = ups (un N) k (un N k - 1) from funext u]
      by_cases y : un N k < P
      · rw [blt_t y, cond_true, if_pos y]
      · rw [blt_n y, cond_false, if_neg y]
noncomputable def uiR (La : List Nat) (N P k i : Nat) : Nat := fzN (unR N k) fun x => bif Nat.ble x i then UlR La N P else UlR La (Nat.sub N (Nat.mul (Nat.pow 8 k) (Nat.sub x i))) (Nat.sub P (Nat.sub x i))
theorem uiR_e {La : List Nat} {N P k i q : Nat} (hb : Bd N q) (hq : q ≤ 7) (hm : ∀ x, x ∈ La → x < 4) (hk : k < 4) : uiR La N P k i = Ui La (un N) P k i := by
  unfold uiR Ui
  rw [fzN_e, unR_e]
  by_cases c : un N k ≤ i
  · rw [Nat.ble_eq_true_of_le c, cond_true, if_pos c]
    exact UlR_e La hb hq hm
  · rw [show Nat.ble (un N k) i = false from Bool.eq_false_iff.mpr fun z => c (Nat.le_of_ble_eq_true z), cond_false, if_neg c]
    obtain ⟨u, b⟩ := un_sub (d := un N k - i) hb hq hk (by omega)
    have e := UlR_e La (P := P - (un N k - i)) b hq hm
    rw [show un (N - 8 ^ k * (un N k - i)) = ups (un N) k i from funext fun x => by rw [u x, show un N k - (un N k - i) = i by omega]] at e
    exact e
def mxR (a b : Nat) : Nat := bif Nat.blt a b then Nat.add b 0 else Nat.add a 0
theorem mxR_le (a b : Nat) : a ≤ mxR a b ∧ b ≤ mxR a b := by
  unfold mxR
  by_cases c : a < b
  · rw [blt_t c, cond_true]
    show a ≤ b ∧ b ≤ b
    omega
  · rw [blt_n c, cond_false]
    show a ≤ a ∧ b ≤ a
    omega
noncomputable def mRr (La : List Nat) (N P : Nat) (Lc : List Nat) : Nat → Nat := List.rec (motive := fun _ => Nat → Nat) (fun _ => 0) (fun k _ ih i => mxR (uiR La N P k i) (ih (Nat.succ i))) Lc
theorem mRr_c (La : List Nat) (N P k : Nat) (Lc : List Nat) (i : Nat) : mRr La N P (k :: Lc) i = mxR (uiR La N P k i) (mRr La N P Lc (i + 1)) := rfl
theorem mRr_le {La : List Nat} {N P : Nat} : ∀ (Lc : List Nat) (i j : Nat), j < Lc.length → uiR La N P (Lc.getD j 0) (i + j) ≤ mRr La N P Lc i
  | [], _, _, h => absurd h (Nat.not_lt_zero _)
  | k :: Lc, i, 0, _ => (mxR_le _ _).1
  | k :: Lc, i, j + 1, h => by
    have q := mRr_le (La := La) (N := N) (P := P) Lc (i + 1) j (Nat.lt_of_succ_lt_succ h)
    rw [mRr_c]
    rw [show i + 1 + j = i + (j + 1) by omega] at q
    exact Nat.le_trans q (mxR_le _ _).2
/-- casts of a work whose seats are C; casts of a while c has none -/
noncomputable def Kc (N P C : Nat) : Nat := UlR (LsR N C) N P
noncomputable def Mc (N P Ca Cc : Nat) : Nat := bif Nat.ble (Kc N P Ca) 203 then Nat.add (Kc N P Ca) 0 else mRr (LsR N Ca) N P (LsR N Cc) 0
variable {sg : Nat → Nat}
theorem Kc_ok {N P : Nat} {cw : Nat → Nat} (h : LW sg (fun w => Ls N (cw w))) (hN : NP sg = un N) (h2 : sg 2 = P) (hP : P ≤ 7) (hb : Bd N P) : KBn sg (fun w => Kc N P (cw w)) := by
  have k := h.K (by omega)
  rw [hN, h2] at k
  have e : (fun w => Kc N P (cw w)) = fun w => Ul (Ls N (cw w)) (un N) P := funext fun w => by
    show UlR (LsR N (cw w)) N P = _
    rw [UlR_e _ hb hP fun x hx => LsR_4 hx, LsR_e]
  rw [e]; exact k
theorem Mc_ok {N P : Nat} {cw : Nat → Nat} (h : LW sg (fun w => Ls N (cw w))) (hN : NP sg = un N) (h2 : sg 2 = P) (hP : P ≤ 7) (hb : Bd N P) : MBn sg (fun a c => Mc N P (cw a) (cw c)) := fun a c hac hc F hF => by
  have K := Kc_ok h hN h2 hP hb
  show _ ≤ Mc N P (cw a) (cw c)
  unfold Mc
  by_cases s : Kc N P (cw a) ≤ 203
  · rw [Nat.ble_eq_true_of_le s, cond_true]
    exact (K a (by omega)).2 F
  · rw [show Nat.ble (Kc N P (cw a)) 203 = false from Bool.eq_false_iff.mpr fun z => s (Nat.le_of_ble_eq_true z), cond_false]
    have z : ncl sg (Ls N (cw c)) F = 0 := by
      by_cases q : ncl sg (Ls N (cw c)) F = 0
      · exact q
      · rw [← ncl_perm (by omega) (h c hc).2, ← nc_ncl] at q
        exact absurd (nc_dm sg c _ F (h c hc).1 q) hF
    rw [nc_ncl, ncl_perm (by omega) (h a (by omega)).2]
    by_cases q : ∃ i, i < (Ls N (cw c)).length ∧ av sg F ((Ls N (cw c)).getD i 0) ≤ i
    · obtain ⟨i, hi, h2'⟩ := q
      have u := ncl_Ui (La := Ls N (cw a)) (by omega : sg 2 ≤ 32) h2'
      rw [hN, h2] at u
      have m := mRr_le (La := LsR N (cw a)) (N := N) (P := P) (LsR N (cw c)) 0 i (by rw [LsR_e]; exact hi)
      have k4' : (Ls N (cw c)).getD i 0 < 4 := by
        refine uls_4 ((isS_p (un N) (uls (cw c))).symm.subset (a := (Ls N (cw c)).getD i 0) ?_)
        exact getD_mem hi
      rw [uiR_e hb hP (fun x hx => LsR_4 hx) (by rw [LsR_e]; exact k4'), LsR_e, LsR_e, Nat.zero_add] at m
      rw [LsR_e, LsR_e]
      exact Nat.le_trans u m
    · refine absurd z (ncl_pos (by omega) (Ls N (cw c)) F fun i hi => ?_)
      rcases Nat.lt_or_ge i (av sg F ((Ls N (cw c)).getD i 0)) with y | y
      · exact y
      · exact absurd ⟨i, hi, y⟩ q
end KMR
