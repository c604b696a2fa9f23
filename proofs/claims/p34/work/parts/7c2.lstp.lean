/-! THE ROOM: the players of a class, drawn: the states by numbers, those that are safe, the masks of the others -/
section STK
/-- the low ten bits -/
def lo (c j : Nat) : Nat := Nat.rec (motive := fun _ => Nat) c (fun _ y => lxw y) j
theorem lo_s (c j : Nat) : lo c (j + 1) = lxw (lo c j) := rfl
theorem lo_e {T c : Nat} (h : T % 1024 = c) : ∀ j, nxn T j % 1024 = lo c j
  | 0 => h
  | j + 1 => by rw [nxn_s, lxw_m, lo_e h j, lo_s]
def db (c j m : Nat) : Nat := Nat.mod (Nat.div (lo c j) 256) m
theorem db_2 {T c : Nat} (h : T % 1024 = c) (j : Nat) : dvr (nxn T j) 2 = db c j 2 := by
  rw [dvr_m2, lo_e h]; rfl
theorem db_4 {T c : Nat} (h : T % 1024 = c) (j : Nat) : dvr (nxn T j) 4 = db c j 4 := by
  rw [dvr_m4, lo_e h]; rfl
theorem db_1 {T c : Nat} (j : Nat) : dvr (nxn T j) 1 = db c j 1 := by
  show _ % 1 = _ % 1
  omega
def kdr (kc m : Nat) : Nat := bif Nat.blt m kc then kc else Nat.succ kc
def mir (kc : Nat) : Nat := bif Nat.blt (Nat.succ kc) 4 then Nat.succ kc else 4
theorem blt_t {a b : Nat} (h : a < b) : Nat.blt a b = true := Nat.ble_eq_true_of_le h
theorem blt_n {a b : Nat} (h : ¬ a < b) : Nat.blt a b = false := by
  cases q : Nat.blt a b with
  | false => rfl
  | true => exact absurd (Nat.le_of_ble_eq_true q) h
theorem kdr_e (kc m : Nat) : kdr kc m = kdN kc m := by
  unfold kdr kdN
  by_cases c : m < kc
  · rw [blt_t c, if_pos c, cond_true]
  · rw [blt_n c, if_neg c, cond_false]
theorem mir_e (kc : Nat) : mir kc = mi4 kc := by
  unfold mir mi4
  by_cases c : kc + 1 < 4
  · rw [blt_t c, if_pos c, cond_true]
  · rw [blt_n c, if_neg c, cond_false]
def a3 (f : Nat → Bool) : Bool := bif f 0 then (bif f 1 then f 2 else false) else false
theorem a3_ok {f : Nat → Bool} (h : a3 f = true) {v : Nat} (hv : v < 3) : f v = true := by
  unfold a3 at h
  obtain ⟨h0, h⟩ := and_b h
  obtain ⟨h1, h2⟩ := and_b h
  have c : v = 0 ∨ v = 1 ∨ v = 2 := by omega
  rcases c with rfl | rfl | rfl
  · exact h0
  · exact h1
  · exact h2
abbrev KT : Type := Nat → Nat → Nat → Nat → Nat → Bool
def s3 (c j kc1 N m v1 : Nat) (k : KT) (o v2 : Nat) : Bool :=
  bif Nat.beq o m then fzB (Nat.add N (Nat.pow 8 m)) fun N2 => fzB (Nat.add j 4) fun j2 => k kc1 N2 j2 v1 v2
  else bif Nat.beq (db c (Nat.add j 5) 2) 0 then fzB (kdr kc1 o) fun kc2 => fzB (Nat.add (Nat.add N (Nat.pow 8 m)) (Nat.pow 8 o)) fun N2 => fzB (Nat.add j 5) fun j2 => k kc2 N2 j2 v1 v2
  else fzB (Nat.add N (Nat.pow 8 m)) fun N2 => fzB (Nat.add j 5) fun j2 => k kc1 N2 j2 v1 v2
def s2 (c j kc N : Nat) (k : KT) (m v1 : Nat) : Bool := fzB (kdr kc m) fun kc1 => bif Nat.beq kc1 2 then a3 (fun v => s3 c j kc1 N m v1 k v v) else fzB (db c (Nat.add j 4) (mir kc1)) fun o => s3 c j kc1 N m v1 k o 3
def stp (c kc N j : Nat) (k : KT) : Bool := bif Nat.beq kc 2 then a3 (fun v => s2 c j kc N k v v) else fzB (db c (Nat.add j 3) (mir kc)) fun m => s2 c j kc N k m 3
/-- how many play each, in one number -/
def un (N k : Nat) : Nat := N / 8 ^ k % 8
def Bd (N p : Nat) : Prop := N % 8 ≤ p ∧ N / 8 % 8 ≤ p ∧ N / 64 % 8 ≤ p ∧ N / 512 ≤ p
theorem un_0 (N : Nat) : un N 0 = N % 8 := by
  show N / 1 % 8 = _
  rw [Nat.div_one]
theorem un_1 (N : Nat) : un N 1 = N / 8 % 8 := rfl
theorem un_2 (N : Nat) : un N 2 = N / 64 % 8 := rfl
theorem un_3 (N : Nat) : un N 3 = N / 512 % 8 := rfl
theorem un_hi {N p k : Nat} (h : Bd N p) (hp : p ≤ 7) (hk : 4 ≤ k) : un N k = 0 := by
  obtain ⟨-, -, -, h3⟩ := h
  have q : 4096 ≤ 8 ^ k := Nat.le_trans (show 4096 ≤ 8 ^ 4 by decide) (Nat.pow_le_pow_right (by omega) hk)
  unfold un
  rw [Nat.div_eq_of_lt (by omega)]
theorem k4 (k : Nat) : k = 0 ∨ k = 1 ∨ k = 2 ∨ k = 3 ∨ 4 ≤ k := by omega
theorem un_add {N q m : Nat} (h : Bd N q) (hq : q ≤ 7) (hm : m < 4) (hl : un N m + 1 ≤ q) : (∀ k, un (N + 8 ^ m) k = un N k + (if m = k then 1 else 0)) ∧ Bd (N + 8 ^ m) q := by
  obtain ⟨h0, h1, h2, h3⟩ := id h
  have c : m = 0 ∨ m = 1 ∨ m = 2 ∨ m = 3 := by omega
  rcases c with rfl | rfl | rfl | rfl
  · rw [un_0] at hl
    have b : Bd (N + 8 ^ 0) q := by refine ⟨?_, ?_, ?_, ?_⟩ <;> simp only [Nat.reducePow] <;> omega
    refine ⟨fun k => ?_, b⟩
    rcases k4 k with rfl | rfl | rfl | rfl | hk
    · rw [un_0, un_0, if_pos rfl]; simp only [Nat.reducePow]; omega
    · rw [un_1, un_1, if_neg (by omega)]; simp only [Nat.reducePow]; omega
    · rw [un_2, un_2, if_neg (by omega)]; simp only [Nat.reducePow]; omega
    · rw [un_3, un_3, if_neg (by omega)]; simp only [Nat.reducePow]; omega
    · rw [un_hi b hq hk, un_hi h hq hk, if_neg (by omega)]
  · rw [un_1] at hl
    have b : Bd (N + 8 ^ 1) q := by refine ⟨?_, ?_, ?_, ?_⟩ <;> simp only [Nat.reducePow] <;> omega
    refine ⟨fun k => ?_, b⟩
    rcases k4 k with rfl | rfl | rfl | rfl | hk
    · rw [un_0, un_0, if_neg (by omega)]; simp only [Nat.reducePow]; omega
    · rw [un_1, un_1, if_pos rfl]; simp only [Nat.reducePow]; omega
    · rw [un_2, un_2, if_neg (by omega)]; simp only [Nat.reducePow]; omega
    · rw [un_3, un_3, if_neg (by omega)]; simp only [Nat.reducePow]; omega
    · rw [un_hi b hq hk, un_hi h hq hk, if_neg (by omega)]
  · rw [un_2] at hl
    have b : Bd (N + 8 ^ 2) q := by refine ⟨?_, ?_, ?_, ?_⟩ <;> simp only [Nat.reducePow] <;> omega
    refine ⟨fun k => ?_, b⟩
    rcases k4 k with rfl | rfl | rfl | rfl | hk
    · rw [un_0, un_0, if_neg (by omega)]; simp only [Nat.reducePow]; omega
    · rw [un_1, un_1, if_neg (by omega)]; simp only [Nat.reducePow]; omega
    · rw [un_2, un_2, if_pos rfl]; simp only [Nat.reducePow]; omega
    · rw [un_3, un_3, if_neg (by omega)]; simp only [Nat.reducePow]; omega
    · rw [un_hi b hq hk, un_hi h hq hk, if_neg (by omega)]
  · rw [un_3] at hl
    have b : Bd (N + 8 ^ 3) q := by refine ⟨?_, ?_, ?_, ?_⟩ <;> simp only [Nat.reducePow] <;> omega
    refine ⟨fun k => ?_, b⟩
    rcases k4 k with rfl | rfl | rfl | rfl | hk
    · rw [un_0, un_0, if_neg (by omega)]; simp only [Nat.reducePow]; omega
    · rw [un_1, un_1, if_neg (by omega)]; simp only [Nat.reducePow]; omega
    · rw [un_2, un_2, if_neg (by omega)]; simp only [Nat.reducePow]; omega
    · rw [un_3, un_3, if_pos rfl]; simp only [Nat.reducePow]; omega
    · rw [un_hi b hq hk, un_hi h hq hk, if_neg (by omega)]
theorem un_le {N p : Nat} (h : Bd N p) (m : Nat) (hm : m < 4) : un N m ≤ p := by
  obtain ⟨h0, h1, h2, h3⟩ := h
  have c : m = 0 ∨ m = 1 ∨ m = 2 ∨ m = 3 := by omega
  rcases c with rfl | rfl | rfl | rfl
  · rw [un_0]; exact h0
  · rw [un_1]; exact h1
  · rw [un_2]; exact h2
  · rw [un_3]; omega
theorem Bd_s {N p : Nat} (h : Bd N p) : Bd N (p + 1) := by
  obtain ⟨h0, h1, h2, h3⟩ := h
  exact ⟨by omega, by omega, by omega, by omega⟩
/-- behind p players: the state (kc, N, j) -/
def PSy (T p kc N j : Nat) : Prop := itp p (0, fun _ => 0, T) = (kc, un N, nxn T j) ∧ Bd N p ∧ kc ≤ 4
theorem PSy_0 (T : Nat) : PSy T 0 0 0 0 := ⟨by
  show ((0, fun _ => 0, T) : PSt) = (0, un 0, nxn T 0)
  rw [nxn_0, show un 0 = fun _ => 0 from funext fun k => by unfold un; rw [Nat.zero_div]], ⟨by omega, by omega, by omega, by omega⟩, by omega⟩
theorem mi4_le (kc : Nat) : 1 ≤ mi4 kc ∧ mi4 kc ≤ 4 := by
  unfold mi4
  split <;> omega
theorem dvr_lt (S : Nat) {m : Nat} (h : 1 ≤ m) : dvr S m < m := Nat.mod_lt _ h
theorem db_m {T c : Nat} (h : T % 1024 = c) (j : Nat) {kc : Nat} (hk : kc ≤ 4) (h2 : kc ≠ 2) : dvr (nxn T j) (mi4 kc) = db c j (mi4 kc) := by
  have q : kc = 0 ∨ kc = 1 ∨ kc = 3 ∨ kc = 4 := by omega
  rcases q with rfl | rfl | rfl | rfl
  · exact db_1 j
  · exact db_2 h j
  · exact db_4 h j
  · exact db_4 h j
def DrV (T j v : Nat) : Prop := v = 3 ∨ (v < 3 ∧ dvr (nxn T j) 3 = v)
theorem s3_ok {T c kc1 N j m o v1 v2 p : Nat} {k : KT} (hc : T % 1024 = c) (hb : Bd N p) (hp : p ≤ 6) (hk : kc1 ≤ 4) (hm : m < 4) (ho : o < 4) (h : s3 c j kc1 N m v1 k o v2 = true) : ∃ kc2 N2 j2, k kc2 N2 j2 v1 v2 = true ∧ Bd N2 (p + 1) ∧ kc2 = (if o ≠ m ∧ dvr (nxn T (j + 5)) 2 = 0 then kdN kc1 o else kc1) ∧ (∀ x, un N2 x = un N x + (if m = x ∨ ((o ≠ m ∧ dvr (nxn T (j + 5)) 2 = 0) ∧ o = x) then 1 else 0)) ∧ j2 = if o = m then j + 4 else j + 5 := by
  obtain ⟨u1, b1⟩ := un_add (Bd_s hb) (by omega) hm (by have := un_le hb m hm; omega)
  unfold s3 at h
  by_cases e : o = m
  · rw [beq_t e] at h
    have h := bif_t h
    rw [fzB_e, fzB_e] at h
    refine ⟨kc1, N + 8 ^ m, j + 4, h, b1, (if_neg fun z => z.1 e).symm, fun x => ?_, (if_pos e).symm⟩
    rw [u1 x]
    congr 1
    by_cases q : m = x
    · rw [if_pos q, if_pos (Or.inl q)]
    · rw [if_neg q, if_neg fun z => z.elim q fun w => w.1.1 e]
  · rw [beq_f e] at h
    have h := bif_f h
    rw [← db_2 hc (j + 5)] at h
    by_cases d : dvr (nxn T (j + 5)) 2 = 0
    · rw [beq_t d] at h
      have h := bif_t h
      rw [fzB_e, fzB_e, fzB_e, kdr_e] at h
      obtain ⟨u2, b2⟩ := un_add b1 (by omega) ho (by
        rw [u1 o, if_neg fun z => e z.symm]
        have := un_le hb o ho
        omega)
      refine ⟨kdN kc1 o, N + 8 ^ m + 8 ^ o, j + 5, h, b2, (if_pos ⟨e, d⟩).symm, fun x => ?_, (if_neg e).symm⟩
      rw [u2 x, u1 x, Nat.add_assoc]
      congr 1
      by_cases q : m = x
      · rw [if_pos q, if_neg fun z => e (z.trans q.symm), if_pos (Or.inl q)]
      · by_cases r : o = x
        · rw [if_neg q, if_pos r, if_pos (Or.inr ⟨⟨e, d⟩, r⟩)]
        · rw [if_neg q, if_neg r, if_neg fun z => z.elim q fun w => r w.2]
    · rw [beq_f d] at h
      have h := bif_f h
      rw [fzB_e, fzB_e] at h
      refine ⟨kc1, N + 8 ^ m, j + 5, h, b1, (if_neg fun z => d z.2).symm, fun x => ?_, (if_neg e).symm⟩
      rw [u1 x]
      congr 1
      by_cases q : m = x
      · rw [if_pos q, if_pos (Or.inl q)]
      · rw [if_neg q, if_neg fun z => z.elim q fun w => d w.1.2]
theorem pstp_T (kc N T j : Nat) : pstp (kc, un N, nxn T j) = (if pBo kc (nxn T j) = true then kdN (kdN kc (pMn kc (nxn T j))) (pOt kc (nxn T j)) else kdN kc (pMn kc (nxn T j)), fun k => un N k + (if pMn kc (nxn T j) = k ∨ (pBo kc (nxn T j) = true ∧ pOt kc (nxn T j) = k) then 1 else 0), if pOt kc (nxn T j) = pMn kc (nxn T j) then nxn T (j + 4) else nxn T (j + 5)) := rfl
theorem pMn_T (kc T j : Nat) : pMn kc (nxn T j) = dvr (nxn T (j + 3)) (mi4 kc) := rfl
theorem pOt_T (kc T j : Nat) : pOt kc (nxn T j) = dvr (nxn T (j + 4)) (mi4 (kdN kc (dvr (nxn T (j + 3)) (mi4 kc)))) := rfl
theorem pBo_T (kc T j : Nat) : pBo kc (nxn T j) = true ↔ pOt kc (nxn T j) ≠ pMn kc (nxn T j) ∧ dvr (nxn T (j + 5)) 2 = 0 := decide_eq_true_iff
theorem kdN_4 {kc m : Nat} (h : kc ≤ 4) (hm : m < mi4 kc) : kdN kc m ≤ 4 := by
  unfold mi4 at hm
  unfold kdN
  split at hm <;> split <;> omega
theorem stp_ok {T c p kc N j : Nat} {k : KT} (hc : T % 1024 = c) (hs : PSy T p kc N j) (hp : p ≤ 6) (h : stp c kc N j k = true) : ∃ kc2 N2 j2 v1 v2, k kc2 N2 j2 v1 v2 = true ∧ PSy T (p + 1) kc2 N2 j2 ∧ DrV T (j + 3) v1 ∧ DrV T (j + 4) v2 := by
  obtain ⟨e, hb, hk⟩ := hs
  have ml := dvr_lt (nxn T (j + 3)) (mi4_le kc).1
  have k1 := kdN_4 hk ml
  have ol := dvr_lt (nxn T (j + 4)) (mi4_le (kdN kc (dvr (nxn T (j + 3)) (mi4 kc)))).1
  have k2 := kdN_4 k1 ol
  have m4 := (mi4_le kc).2
  have o4 := (mi4_le (kdN kc (dvr (nxn T (j + 3)) (mi4 kc)))).2
  -- main
  have A : ∃ v1, s2 c j kc N k (dvr (nxn T (j + 3)) (mi4 kc)) v1 = true ∧ DrV T (j + 3) v1 := by
    unfold stp at h
    by_cases q : kc = 2
    · rw [beq_t q] at h
      have h := bif_t h
      have e3 : mi4 kc = 3 := by rw [q]; rfl
      rw [e3] at ml ⊢
      exact ⟨_, a3_ok h ml, Or.inr ⟨ml, rfl⟩⟩
    · rw [beq_f q] at h
      have h := bif_f h
      rw [fzB_e, mir_e, show Nat.add j 3 = j + 3 from rfl, ← db_m hc (j + 3) hk q] at h
      exact ⟨3, h, Or.inl rfl⟩
  obtain ⟨v1, h1, d1⟩ := A
  have eM := pMn_T kc T j
  have eO := pOt_T kc T j
  generalize dvr (nxn T (j + 3)) (mi4 kc) = m at h1 ml k1 ol k2 o4 eM eO
  have B : ∃ v2, s3 c j (kdN kc m) N m v1 k (dvr (nxn T (j + 4)) (mi4 (kdN kc m))) v2 = true ∧ DrV T (j + 4) v2 := by
    unfold s2 at h1
    rw [fzB_e, kdr_e] at h1
    by_cases q : kdN kc m = 2
    · rw [beq_t q] at h1
      have h1 := bif_t h1
      have e3 : mi4 (kdN kc m) = 3 := by rw [q]; rfl
      rw [e3] at ol ⊢
      exact ⟨_, a3_ok h1 ol, Or.inr ⟨ol, rfl⟩⟩
    · rw [beq_f q] at h1
      have h1 := bif_f h1
      rw [fzB_e, mir_e, show Nat.add j 4 = j + 4 from rfl, ← db_m hc (j + 4) k1 q] at h1
      exact ⟨3, h1, Or.inl rfl⟩
  obtain ⟨v2, h2, d2⟩ := B
  generalize dvr (nxn T (j + 4)) (mi4 (kdN kc m)) = o at h2 ol k2 eO
  obtain ⟨kc2, N2, j2, r1, r2, r3, r4, r5⟩ := s3_ok hc hb hp k1 (by omega) (by omega) h2
  have pb := pBo_T kc T j
  rw [eM, eO] at pb
  refine ⟨kc2, N2, j2, v1, v2, r1, ⟨?_, r2, ?_⟩, d1, d2⟩
  · rw [itp_s, e, pstp_T, eM, eO]
    have c1 : (if pBo kc (nxn T j) = true then kdN (kdN kc m) o else kdN kc m) = kc2 := by
      rw [r3]
      by_cases q : o ≠ m ∧ dvr (nxn T (j + 5)) 2 = 0
      · rw [if_pos q, if_pos (pb.mpr q)]
      · rw [if_neg q, if_neg fun z => q (pb.mp z)]
    have c2 : (fun x => un N x + (if m = x ∨ (pBo kc (nxn T j) = true ∧ o = x) then 1 else 0)) = un N2 := funext fun x => by
      rw [r4 x]
      congr 1
      by_cases q : m = x ∨ ((o ≠ m ∧ dvr (nxn T (j + 5)) 2 = 0) ∧ o = x)
      · rw [if_pos q, if_pos (q.elim Or.inl fun w => Or.inr ⟨pb.mpr w.1, w.2⟩)]
      · rw [if_neg q, if_neg fun z => q (z.elim Or.inl fun w => Or.inr ⟨pb.mp w.1, w.2⟩)]
    have c3 : (if o = m then nxn T (j + 4) else nxn T (j + 5)) = nxn T j2 := by
      rw [r5]
      split <;> rfl
    rw [c1, c2, c3]
  · rw [r3]
    split
    · exact k2
    · exact k1
/-- states that are safe whatever is drawn by three -/
def sf (lf : Nat → Nat → Nat → Bool) (c n : Nat) : Nat → Nat → Nat → Bool := Nat.rec (motive := fun _ => Nat → Nat → Nat → Bool) lf (fun _ ih kc N j => stp c kc N j (fun kc2 N2 j2 _ _ => ih kc2 N2 j2)) n
theorem sf_0 (lf : Nat → Nat → Nat → Bool) (c : Nat) : sf lf c 0 = lf := rfl
theorem sf_s (lf : Nat → Nat → Nat → Bool) (c n kc N j : Nat) : sf lf c (n + 1) kc N j = stp c kc N j (fun kc2 N2 j2 _ _ => sf lf c n kc2 N2 j2) := rfl
theorem sf_ok {lf : Nat → Nat → Nat → Bool} {T c P : Nat} {Gl : Prop} (hc : T % 1024 = c) (hP : P ≤ 7) (hl : ∀ kc N j, PSy T P kc N j → lf kc N j = true → Gl) : ∀ n p kc N j, p + n = P → PSy T p kc N j → sf lf c n kc N j = true → Gl := by
  intro n
  induction n with
  | zero =>
    intro p kc N j hp hs h
    rw [sf_0] at h
    have e : p = P := by omega
    rw [e] at hs
    exact hl kc N j hs h
  | succ n ih =>
    intro p kc N j hp hs h
    rw [sf_s] at h
    obtain ⟨kc2, N2, j2, v1, v2, h1, h2, -, -⟩ := stp_ok hc hs (by omega) h
    exact ih (p + 1) kc2 N2 j2 (by omega) h2 h1
def am (n t m j v : Nat) : Nat := bif Nat.beq v 3 then m else fzN j fun q => Nat.land m (dmk n (ajr q) (tjr t q) v)
theorem am_tb {n t m j v k : Nat} (hn : n ≤ 32768) (ht : t < 4294967296) (hk : k < 24 * n) (hm : m.testBit k = true) (hv : DrV (Tk t k) j v) : (am n t m j v).testBit k = true := by
  unfold am
  rcases hv with e | ⟨hv, e⟩
  · rw [beq_t e, cond_true]; exact hm
  · rw [beq_f (by omega), cond_false, fzN_e]
    show (m &&& _).testBit k = true
    rw [Nat.testBit_and, hm, Bool.true_and]
    refine dmk_ok hn (ajr_lt j) ?_ hv hk ?_
    · rw [tjr_e]; exact nxn_lt ht j
    · rw [Tk_n] at e
      rw [tjr_e]; exact e
def go (lf : Nat → Nat → Nat → Bool) (ev : Nat → Nat → Nat → Nat → Bool) (c n t d : Nat) : Nat → Nat → Nat → Nat → Bool := Nat.rec (motive := fun _ => Nat → Nat → Nat → Nat → Bool) (fun kc N j m => bif lf kc N j then true else bif Nat.beq m 0 then true else ev kc N j m) (fun d ih kc N j m => bif sf lf c (Nat.succ d) kc N j then true else bif Nat.beq m 0 then true else stp c kc N j (fun kc2 N2 j2 v1 v2 => ih kc2 N2 j2 (am n t (am n t m (Nat.add j 3) v1) (Nat.add j 4) v2))) d
theorem go_0 (lf : Nat → Nat → Nat → Bool) (ev : Nat → Nat → Nat → Nat → Bool) (c n t kc N j m : Nat) : go lf ev c n t 0 kc N j m = bif lf kc N j then true else bif Nat.beq m 0 then true else ev kc N j m := rfl
theorem go_s (lf : Nat → Nat → Nat → Bool) (ev : Nat → Nat → Nat → Nat → Bool) (c n t d kc N j m : Nat) : go lf ev c n t (d + 1) kc N j m = bif sf lf c (d + 1) kc N j then true else bif Nat.beq m 0 then true else stp c kc N j (fun kc2 N2 j2 v1 v2 => go lf ev c n t d kc2 N2 j2 (am n t (am n t m (j + 3) v1) (j + 4) v2)) := rfl
theorem tb_0 {m k : Nat} (h : m.testBit k = true) : m ≠ 0 := fun e => by
  rw [e, Nat.zero_testBit] at h
  exact absurd h (by decide)
theorem go_ok {lf : Nat → Nat → Nat → Bool} {ev : Nat → Nat → Nat → Nat → Bool} {t k c n P : Nat} {Gl : Prop} (hn : n ≤ 32768) (ht : t < 4294967296) (hk : k < 24 * n) (hc : Tk t k % 1024 = c) (hP : P ≤ 7) (hl : ∀ kc N j, PSy (Tk t k) P kc N j → lf kc N j = true → Gl) (he : ∀ kc N j m, PSy (Tk t k) P kc N j → m.testBit k = true → ev kc N j m = true → Gl) : ∀ d p kc N j m, p + d = P → PSy (Tk t k) p kc N j → m.testBit k = true → go lf ev c n t d kc N j m = true → Gl := by
  intro d
  induction d with
  | zero =>
    intro p kc N j m hp hs hm h
    rw [go_0] at h
    have e : p = P := by omega
    rw [e] at hs
    cases q : lf kc N j with
    | true => exact hl kc N j hs q
    | false =>
      rw [q] at h
      have h := bif_f h
      rw [beq_f (tb_0 hm)] at h
      exact he kc N j m hs hm (bif_f h)
  | succ d ih =>
    intro p kc N j m hp hs hm h
    rw [go_s] at h
    cases q : sf lf c (d + 1) kc N j with
    | true => exact sf_ok hc hP hl (d + 1) p kc N j hp hs q
    | false =>
      rw [q] at h
      have h := bif_f h
      rw [beq_f (tb_0 hm)] at h
      have h := bif_f h
      obtain ⟨kc2, N2, j2, v1, v2, h1, h2, d1, d2⟩ := stp_ok hc hs (by omega) h
      exact ih (p + 1) kc2 N2 j2 _ (by omega) h2 (am_tb hn ht hk (am_tb hn ht hk hm d1) d2) h1
end STK
