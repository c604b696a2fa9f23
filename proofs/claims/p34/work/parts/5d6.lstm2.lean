/-! STATEMENTS of a text that is known: players, works -/
section SM2
variable {tx R : List Nat} {bf : Nat → Int32} {p : Nat} {sg ct : Nat → Nat} {nm : Nat → List Nat} {dt : Bool}
/-- a name of an instrument is told -/
def nmI (sg : Nat → Nat) (nm : Nat → List Nat) (m : Nat) : Nat → List Nat := if m < sg 4 then nm else updN nm (24 + m) [97 + m]
theorem inst_ok {n m q : Nat} (a : tK tx.length bf p = 1) (b : tW tx.length bf p = [97 + m]) (c : tN tx.length bf p = q) (hn : ∀ k, k < sg 4 → nm (24 + k) = [97 + k]) (hm : m ≤ sg 4) (h4 : sg 4 ≤ 4) (hk : (kinds sg n).testBit m = false) (h2 : oP sg n 2 < 4) : instL tx.length bf n (p, sg, nm, ct, dt) = Sum.inr (q, instS sg n m, nmI sg nm m, ct, dt) := by
  have ej : nj tx.length bf p sg nm = m := by
    unfold nj
    rw [b]
    exact nin_l hn hm
  unfold nmI
  simp only [instL, a, ej, hk, b, c, Bool.false_eq_true, and_false, ↓reduceIte]
  rw [if_neg (by omega)]
theorem kinds_0 {n : Nat} (h : oP sg n 2 = 0) : kinds sg n = 0 := by unfold kinds; rw [h]; rfl
theorem kinds_1 {n : Nat} (h : oP sg n 2 = 1) : kinds sg n = 2 ^ oP sg n 3 := by
  unfold kinds
  rw [h]
  show 0 ||| 2 ^ oP sg n (3 + 0) = _
  rw [Nat.zero_or]
theorem playS_oo {fee k : Nat} (h1 : k ≠ 2) (h2 : k ≠ 9 + 7 * sg 2) : playS sg fee k = sg k := by
  unfold playS
  rw [ups_o _ _ _ h2, ups_o _ _ _ h1]
theorem instS_oo {n j k : Nat} (h1 : k ≠ 4) (h2 : k ≠ 9 + 7 * n + 3 + oP sg n 2) (h3 : k ≠ 9 + 7 * n + 2) : instS sg n j k = sg k := by
  unfold instS
  rw [ups_o _ _ _ h3, ups_o _ _ _ h2, ups_o _ _ _ h1]
/-- the text of a player -/
def endT (o : Nat) (both : Bool) : List Nat := if both = true then [32, 97 + o, 59] else [59]
def playT (k c f m o : Nat) (both : Bool) : List Nat := kw 2 ++ (32 :: (97 + k) :: 32 :: (dig c ++ (32 :: (dig f ++ (32 :: (97 + m) :: endT o both)))))
def pyS (sg : Nat → Nat) (f m o : Nat) (both : Bool) : Nat → Nat := if both = true then instS (instS (playS sg f) (sg 2) m) (sg 2) o else instS (playS sg f) (sg 2) m
def pyN (sg : Nat → Nat) (nm : Nat → List Nat) (f m o : Nat) (both : Bool) : Nat → List Nat := if both = true then nmI (instS (playS sg f) (sg 2) m) (nmI (playS sg f) (updN nm (8 + sg 2) [97 + sg 2]) m) o else nmI (playS sg f) (updN nm (8 + sg 2) [97 + sg 2]) m
theorem py_4 {f : Nat} : playS sg f 4 = sg 4 := playS_oo (by omega) (by omega)
theorem py_4b {f m : Nat} : instS (playS sg f) (sg 2) m 4 = if m < sg 4 then sg 4 else sg 4 + 1 := by
  unfold instS
  rw [ups_o _ _ _ (by omega), ups_o _ _ _ (by omega), ups_1, py_4]
theorem nmI_24 {k m : Nat} (hn : ∀ k, k < sg 4 → nm (24 + k) = [97 + k]) (hm : m ≤ sg 4) (hk : k < if m < sg 4 then sg 4 else sg 4 + 1) : nmI sg nm m (24 + k) = [97 + k] := by
  unfold nmI
  by_cases c : m < sg 4
  · rw [if_pos c] at hk ⊢
    exact hn k hk
  · rw [if_neg c] at hk ⊢
    unfold updN
    by_cases e : k = m
    · rw [if_pos (by omega), e]
    · rw [if_neg (by omega)]; exact hn k (by omega)
theorem go_player (h : Bts tx bf) (hn : NMs sg nm) {c f m o : Nat} {both : Bool} (hc : c ≤ 40) (hf : f < 1000) (hk : sg 2 < 7) (hm : m ≤ sg 4) (hm4 : m < 4) (ho : o ≤ if m < sg 4 then sg 4 else sg 4 + 1) (ho4 : o < 4) (hom : both = true → o ≠ m) (hr : Rs tx p (playT (sg 2) c f m o both ++ R)) : Go tx bf p (sg, nm, ct, dt) R (pyS sg f m o both, pyN sg nm f m o both, ups ct (sg 2) c, dt) 1 := by
  obtain ⟨n1, n2, n3, n4, n5, n6, n7⟩ := hn
  have e : playT (sg 2) c f m o both ++ R = kw 2 ++ (32 :: (97 + sg 2) :: 32 :: (dig c ++ (32 :: (dig f ++ (32 :: (97 + m) :: (endT o both ++ R)))))) := by
    unfold playT
    rw [List.append_assoc, List.cons_append, List.cons_append, List.cons_append, List.append_assoc, List.cons_append, List.append_assoc, List.cons_append, List.cons_append]
  rw [e] at hr
  have z2 := (n6 (sg 2) (Nat.le_refl _) (by omega)).2
  obtain ⟨p1, l1, r1, a1, b1, c1⟩ := tkk h (by omega) hr
  obtain ⟨p2, l2, r2, a2, b2, c2⟩ := tk1 h (by omega) r1 (Or.inr (by rfl))
  obtain ⟨p3, l3, r3, a3, b3, c3⟩ := tk2 h (by omega) r2 (Or.inr (by rfl))
  obtain ⟨p4, l4, r4, a4, b4, c4⟩ := tk2 h hf r3 (Or.inr (by rfl))
  obtain ⟨p5, l5, r5, a5, b5, c5⟩ := tk1 h (k := m) (by omega) r4 (Or.inr (by unfold endT; cases both <;> rfl))
  have ne : nmErr tx.length bf p (sg 2) 8 (fun k => nm (8 + k)) = none := by
    unfold nmErr
    rw [if_neg (by omega), c1, if_pos a2, b2, nin_l n2 (Nat.le_refl _), if_neg (by omega)]
  have e0 := nerr_ok (lo := 0) (hi := 40) a3 b3 (by omega) (by omega)
  have e1 := nerr_ok (lo := 0) (hi := 999) a4 b4 (by omega) (by omega)
  have q2 : oP (playS sg f) (sg 2) 2 = 0 := by
    have : oP (playS sg f) (sg 2) 2 = oP sg (sg 2) 2 := playS_oo (by omega) (by omega)
    rw [this]; exact z2
  have n24 : ∀ k, k < playS sg f 4 → updN nm (8 + sg 2) [97 + sg 2] (24 + k) = [97 + k] := fun k hk2 => by
    rw [py_4] at hk2
    unfold updN
    rw [if_neg (by omega)]; exact n4 k hk2
  have i1 := inst_ok (ct := ups ct (sg 2) c) (dt := dt) (n := sg 2) a5 b5 c5 n24 (by rw [py_4]; exact hm) (by rw [py_4]; omega) (by rw [kinds_0 q2]; exact Nat.zero_testBit m) (by omega)
  -- the whole statement, once the instruments are read
  have fin : ∀ q q2 s3, instsL tx.length bf (sg 2) 5 (p4, playS sg f, updN nm (8 + sg 2) [97 + sg 2], ups ct (sg 2) c, dt) = Sum.inr (q, s3) → tK tx.length bf q = 3 → tN tx.length bf q = q2 → p4 < q2 → Rs tx q2 R → Go tx bf p (sg, nm, ct, dt) R s3 1 := by
    intro q q2 s3 hi t3 tn lq rq
    refine go_1 a1 ?_ t3 tn (by omega) rq
    unfold stmtL
    rw [if_neg (isw_n b1 (by decide)), if_pos (isw_y a1 b1)]
    simp only [playerL, ne, c1, c2, c3, c4, b2, b3, b4, e0, e1, ↓reduceIte]
    exact hi
  cases both with
  | false =>
    obtain ⟨p6, l6, r6, a6, c6⟩ := tks h (R := R) r5
    refine fin p5 p6 _ ?_ a6 c6 (by omega) r6
    show (match instL tx.length bf (sg 2) _ with | Sum.inl e => Sum.inl e | Sum.inr s2 => if tK tx.length bf s2.1 = 1 then instsL tx.length bf (sg 2) 4 s2 else Sum.inr s2) = _
    rw [i1]
    show (if tK tx.length bf p5 = 1 then _ else _) = _
    rw [a6, if_neg (by decide)]
    rfl
  | true =>
    have r5 : Rs tx p5 (32 :: (97 + o) :: (59 :: R)) := r5
    obtain ⟨p6, l6, r6, a6, b6, c6⟩ := tk1 h (k := o) (by omega) r5 (Or.inr (by rfl))
    obtain ⟨p7, l7, r7, a7, c7⟩ := tks h (R := R) r6
    have q2b : oP (instS (playS sg f) (sg 2) m) (sg 2) 2 = 1 := by
      show instS (playS sg f) (sg 2) m (9 + 7 * sg 2 + 2) = 1
      unfold instS
      rw [ups_1, q2]
    have q3b : oP (instS (playS sg f) (sg 2) m) (sg 2) 3 = m := by
      show instS (playS sg f) (sg 2) m (9 + 7 * sg 2 + 3) = m
      unfold instS
      rw [ups_o _ _ _ (by omega), q2, Nat.add_zero, ups_1]
    have i2 := inst_ok (sg := instS (playS sg f) (sg 2) m) (nm := nmI (playS sg f) (updN nm (8 + sg 2) [97 + sg 2]) m) (ct := ups ct (sg 2) c) (dt := dt) (n := sg 2) a6 b6 c6 (fun k hk2 => by
      rw [py_4b] at hk2
      have := nmI_24 (sg := playS sg f) (k := k) (m := m) n24 (by rw [py_4]; exact hm)
      rw [py_4] at this
      exact this hk2) (by rw [py_4b]; exact ho) (by rw [py_4b]; split <;> omega) (by rw [kinds_1 q2b, q3b, Nat.testBit_two_pow, decide_eq_false (fun z => hom rfl z.symm)]) (by omega)
    refine fin p6 p7 _ ?_ a7 c7 (by omega) r7
    show (match instL tx.length bf (sg 2) _ with | Sum.inl e => Sum.inl e | Sum.inr s2 => if tK tx.length bf s2.1 = 1 then instsL tx.length bf (sg 2) 4 s2 else Sum.inr s2) = _
    rw [i1]
    show (if tK tx.length bf p5 = 1 then instsL tx.length bf (sg 2) 4 _ else _) = _
    rw [if_pos a6]
    show (match instL tx.length bf (sg 2) _ with | Sum.inl e => Sum.inl e | Sum.inr s2 => if tK tx.length bf s2.1 = 1 then instsL tx.length bf (sg 2) 3 s2 else Sum.inr s2) = _
    rw [i2]
    show (if tK tx.length bf p6 = 1 then _ else _) = _
    rw [a7, if_neg (by decide)]
    rfl
/-- the seats' text -/
def seatsT : List Nat → List Nat
  | [] => []
  | k :: l => 32 :: (97 + k) :: seatsT l
theorem seatsT_app (l r : List Nat) : seatsT (l ++ r) = seatsT l ++ seatsT r := by
  induction l with
  | nil => rfl
  | cons k l ih => show 32 :: (97 + k) :: seatsT (l ++ r) = 32 :: (97 + k) :: (seatsT l ++ seatsT r); rw [ih]
def seatF (sg : Nat → Nat) (w : Nat) (l : List Nat) : Nat → Nat := l.foldl (fun s k => seatS s w k) sg
theorem seatS_4 {w j : Nat} (hw : w < 5) : seatS sg w j 4 = sg 4 := by
  unfold seatS
  rw [ups_o _ _ _ (by omega), ups_o _ _ _ (by omega)]
theorem seats_ok (h : Bts tx bf) {w : Nat} (hw : w < 5) : ∀ (l : List Nat) (f p : Nat) (sg : Nat → Nat), l ≠ [] → l.length ≤ f → oW sg w 4 + l.length ≤ 6 → (∀ k, k < sg 4 → nm (24 + k) = [97 + k]) → sg 4 ≤ 8 → (∀ k, k ∈ l → k < sg 4) → Rs tx p (seatsT l ++ (59 :: R)) → ∃ q q2, p < q ∧ q < q2 ∧ Rs tx q2 R ∧ tK tx.length bf q = 3 ∧ tN tx.length bf q = q2 ∧ seatsL tx.length bf w f (p, sg, nm, ct, dt) = Sum.inr (q, seatF sg w l, nm, ct, dt)
  | [], _, _, _, h0, _, _, _, _, _, _ => absurd rfl h0
  | k :: l, f, p, sg, _, hf, h6, hn, h8, hk, hr => by
    obtain ⟨f, rfl⟩ : ∃ g, f = g + 1 := ⟨f - 1, by have : (k :: l).length = l.length + 1 := rfl; omega⟩
    have k4 : k < sg 4 := hk k List.mem_cons_self
    have ll : (k :: l).length = l.length + 1 := rfl
    have hd : seatsT l ++ (59 :: R) = [] ∨ lt ((seatsT l ++ (59 :: R)).getD 0 0) = false := Or.inr (by cases l <;> rfl)
    obtain ⟨p1, l1, r1, a1, b1, c1⟩ := tk1 h (k := k) (by omega) (R := seatsT l ++ (59 :: R)) hr hd
    have ej : nj tx.length bf p sg nm = k := by
      unfold nj
      rw [b1]
      exact nin_l hn (by omega)
    have sl_ : seatL tx.length bf w (p, sg, nm, ct, dt) = Sum.inr (p1, seatS sg w k, nm, ct, dt) := by
      simp only [seatL, a1, ej, k4, c1, ↓reduceIte]
      rw [if_neg (by omega)]
    have st : seatsL tx.length bf w (f + 1) (p, sg, nm, ct, dt) = if tK tx.length bf p1 = 1 then seatsL tx.length bf w f (p1, seatS sg w k, nm, ct, dt) else Sum.inr (p1, seatS sg w k, nm, ct, dt) := by
      show (match seatL tx.length bf w _ with | Sum.inl e => Sum.inl e | Sum.inr s2 => if tK tx.length bf s2.1 = 1 then seatsL tx.length bf w f s2 else Sum.inr s2) = _
      rw [sl_]
    by_cases e : l = []
    · subst e
      obtain ⟨p2, l2, r2, a2, c2⟩ := tks h (R := R) r1
      refine ⟨p1, p2, l1, l2, r2, a2, c2, ?_⟩
      rw [st, a2, if_neg (by decide)]; rfl
    · obtain ⟨q, q2, g1, g2, g3, g4, g5, g6⟩ := seats_ok h hw l f p1 (seatS sg w k) e (by omega) (by rw [seatS_c]; omega) (by rw [seatS_4 hw]; exact hn) (by rw [seatS_4 hw]; exact h8) (fun y hy => by rw [seatS_4 hw]; exact hk y (List.mem_cons_of_mem _ hy)) r1
      have t1 : tK tx.length bf p1 = 1 := by
        obtain ⟨y, l2, rfl⟩ : ∃ y l2, l = y :: l2 := by
          cases l with
          | nil => exact absurd rfl e
          | cons y l2 => exact ⟨y, l2, rfl⟩
        have y4 : y < sg 4 := hk y (List.mem_cons_of_mem _ List.mem_cons_self)
        obtain ⟨-, -, -, a2, -, -⟩ := tk1 h (k := y) (by omega) (R := seatsT l2 ++ (59 :: R)) r1 (Or.inr (by cases l2 <;> rfl))
        exact a2
      refine ⟨q, q2, by omega, g2, g3, g4, g5, ?_⟩
      rw [st, if_pos t1, g6]; rfl
/-- the text of a work -/
def workT (k a b c d : Nat) (l : List Nat) : List Nat := kw 4 ++ (32 :: (97 + k) :: 32 :: (dig a ++ (32 :: (dig b ++ (32 :: (dig c ++ (32 :: (dig d ++ (seatsT l ++ [59])))))))))
def wkS (sg : Nat → Nat) (a b c d : Nat) (l : List Nat) : Nat → Nat := seatF (workS sg a b c d) (sg 3) l
theorem go_work (h : Bts tx bf) (hn : NMs sg nm) {a b c d : Nat} {l : List Nat} (ha : a ≤ 9) (hb : b ≤ c) (hc : c < sg 0) (hs0 : sg 0 ≤ 30) (hd : d < 1000) (hk : sg 3 < 4) (hl : l ≠ []) (hl4 : l.length ≤ 4) (hs : ∀ k, k ∈ l → k < sg 4) (hr : Rs tx p (workT (sg 3) a b c d l ++ R)) : Go tx bf p (sg, nm, ct, dt) R (wkS sg a b c d l, updN nm (16 + sg 3) [97 + sg 3], ct, dt) 1 := by
  obtain ⟨n1, n2, n3, n4, n5, n6, n7⟩ := hn
  have e : workT (sg 3) a b c d l ++ R = kw 4 ++ (32 :: (97 + sg 3) :: 32 :: (dig a ++ (32 :: (dig b ++ (32 :: (dig c ++ (32 :: (dig d ++ (seatsT l ++ (59 :: R)))))))))) := by
    unfold workT
    rw [List.append_assoc, List.cons_append, List.cons_append, List.cons_append, List.append_assoc, List.cons_append, List.append_assoc, List.cons_append, List.append_assoc, List.cons_append, List.append_assoc, List.append_assoc]; rfl
  rw [e] at hr
  have hdl : seatsT l ++ (59 :: R) = [] ∨ dgt ((seatsT l ++ (59 :: R)).getD 0 0) = false := Or.inr (by cases l <;> rfl)
  obtain ⟨p1, l1, r1, a1, b1, c1⟩ := tkk h (by omega) hr
  obtain ⟨p2, l2, r2, a2, b2, c2⟩ := tk1 h (by omega) r1 (Or.inr (by rfl))
  obtain ⟨p3, l3, r3, a3, b3, c3⟩ := tk2 h (by omega) r2 (Or.inr (by rfl))
  obtain ⟨p4, l4, r4, a4, b4, c4⟩ := tk2 h (by omega) r3 (Or.inr (by rfl))
  obtain ⟨p5, l5, r5, a5, b5, c5⟩ := tk2 h (by omega) r4 (Or.inr (by rfl))
  obtain ⟨p6, l6, r6, a6, b6, c6⟩ := tk2 h hd r5 hdl
  have ne : nmErr tx.length bf p (sg 3) 5 (fun k => nm (16 + k)) = none := by
    unfold nmErr
    rw [if_neg (by omega), c1, if_pos a2, b2, nin_l n3 (Nat.le_refl _), if_neg (by omega)]
  have e0 := nerr_ok (lo := 0) (hi := 9) a3 b3 (by omega) (by omega)
  have e1 := nerr_ok (lo := 0) (hi := sg 0 - 1) a4 b4 (by omega) (by omega)
  have e2 := nerr_ok (lo := b) (hi := sg 0 - 1) a5 b5 hb (by omega)
  have e3 := nerr_ok (lo := 0) (hi := 999) a6 b6 (by omega) (by omega)
  have z4 : oW (workS sg a b c d) (sg 3) 4 = 0 := by
    have : oW (workS sg a b c d) (sg 3) 4 = oW sg (sg 3) 4 := by
      show workS sg a b c d (65 + 11 * sg 3 + 4) = sg (65 + 11 * sg 3 + 4)
      unfold workS
      rw [ups_o _ _ _ (by omega), ups_o _ _ _ (by omega), ups_o _ _ _ (by omega), ups_o _ _ _ (by omega), ups_o _ _ _ (by omega)]
    rw [this]; exact n7 (sg 3) (Nat.le_refl _) (by omega)
  have w4 : workS sg a b c d 4 = sg 4 := by
    unfold workS
    rw [ups_o _ _ _ (by omega), ups_o _ _ _ (by omega), ups_o _ _ _ (by omega), ups_o _ _ _ (by omega), ups_o _ _ _ (by omega)]
  obtain ⟨q, q2, g1, g2, g3, g4, g5, g6⟩ := seats_ok (nm := updN nm (16 + sg 3) [97 + sg 3]) (ct := ct) (dt := dt) h (show sg 3 < 5 by omega) l 7 p6 (workS sg a b c d) hl (by omega) (by omega) (fun k hk2 => by
    rw [w4] at hk2
    unfold updN
    rw [if_neg (by omega)]; exact n4 k hk2) (by rw [w4]; omega) (fun k hk2 => by rw [w4]; exact hs k hk2) r6
  refine go_1 a1 ?_ g4 g5 (by omega) g3
  unfold stmtL
  rw [if_neg (isw_n b1 (by decide)), if_neg (isw_n b1 (by decide)), if_neg (isw_n b1 (by decide)), if_pos (isw_y a1 b1)]
  simp only [workL, ne, workN, c1, c2, c3, c4, c5, c6, b2, b3, b4, b5, b6, e0, e1, e2, e3, ↓reduceIte]
  exact g6
end SM2
