/-! THE ROOM: the walk with what is known of the first service, and with the store of hits -/
/-- of a rehearsal or concert: 0 surely not, 1 surely, else unknown -/
def orW (w3 d3 : Nat) (okf : Nat → Nat → Nat → Nat) (s1 h : Nat) : Nat :=
  bif Nat.beq (dvr (nxr (nxr h)) 2) 0 then
    (bif Nat.beq (dvr (nxr (nxr (nxr (nxr h)))) 3) 0 then Nat.mul (okf (dvr s1 d3) (dvr (nxr (nxr (nxr h))) w3) 1) (okf (dvr s1 d3) (dvr (nxr (nxr (nxr (nxr (nxr h))))) w3) 1)
      else okf (dvr s1 d3) (dvr (nxr (nxr (nxr h))) w3) 1)
    else okf (dvr s1 d3) (dvr (nxr (nxr (nxr h))) w3) 0
section ORW
variable {sg K : Nat → Nat}
/-- what a code of one work says -/
def OkS (sg : Nat → Nat) (okf : Nat → Nat → Nat → Nat) : Prop := ∀ t x cc, x < sg 3 → (cc = 0 ∨ cc = 1) → okf t x cc ≤ 2 ∧ (okf t x cc = 0 → ¬ (oW sg x 1 ≤ t / 3 ∧ t / 3 ≤ oW sg x 2) ∨ (cc = 1 ∧ 0 < oW sg x 0) ∨ ¬ cst sg x) ∧ (okf t x cc = 1 → (oW sg x 1 ≤ t / 3 ∧ t / 3 ≤ oW sg x 2) ∧ (cc = 1 → oW sg x 0 = 0) ∧ ∀ pl : Nat → Nat, pl 0 = 0 → dm sg x (oW sg x 4) (free sg pl t) < 100)
theorem mul_01 {a b : Nat} (ha : a ≤ 2) (hb : b ≤ 2) : (a * b = 0 → a = 0 ∨ b = 0) ∧ (a * b = 1 → a = 1 ∧ b = 1) := by
  have c : a = 0 ∨ a = 1 ∨ a = 2 := by omega
  have d : b = 0 ∨ b = 1 ∨ b = 2 := by omega
  rcases c with rfl | rfl | rfl <;> rcases d with rfl | rfl | rfl <;> omega
theorem orW_ok {w3 d3 : Nat} {okf : Nat → Nat → Nat → Nat} (h3 : sg 3 = w3) (h1 : 1 ≤ w3) (hd : 3 * sg 0 = d3) (ho : OkS sg okf) {pl : Nat → Nat} {G H : Nat} (h0 : pl 0 = 0) : (orW w3 d3 okf (nx G) H = 1 → cdP sg pl (drw G (3 * sg 0)) H 0 ≠ 0) ∧ (orW w3 d3 okf (nx G) H = 0 → cdP sg pl (drw G (3 * sg 0)) H 0 = 0) := by
  subst h3 hd
  have a1 := drw_lt (nx (nx H)) h1
  have a2 := drw_lt (nx (nx (nx (nx H)))) h1
  unfold orW cdP
  simp only [nxr_e, dvr_e]
  generalize drw (nx (nx H)) (sg 3) = a at a1 ⊢
  generalize drw (nx (nx (nx (nx H)))) (sg 3) = c at a2 ⊢
  generalize drw (nx (nx (nx H))) 3 = d3
  generalize drw (nx H) 2 = d2
  generalize drw G (3 * sg 0) = t
  generalize drw H (sg 1) = ha
  have one : ∀ cc, (cc = 0 ∨ cc = 1) → (okf t a cc = 1 → cmP sg pl ha t (2 ^ a) cc 0 ≠ 0) ∧ (okf t a cc = 0 → cmP sg pl ha t (2 ^ a) cc 0 = 0) := fun cc hcc => by
    obtain ⟨-, o0, o1⟩ := ho t a cc a1 hcc
    have tb : ∀ x, (2 ^ a).testBit x = true → x = a := fun x hx => by
      rw [Nat.testBit_two_pow, decide_eq_true_eq] at hx
      exact hx.symm
    refine ⟨fun e => ?_, fun e => orc_0 h0 a1 (by rw [Nat.testBit_two_pow, decide_eq_true rfl]) (o0 e)⟩
    obtain ⟨p1, p2, p3⟩ := o1 e
    exact orc_1 h0 (fun x hx hb => by rw [tb x hb]; exact p1) (fun hc1 x hx hb => by rw [tb x hb]; exact p2 hc1) (fun x hx hb => by rw [tb x hb]; exact p3 pl h0)
  by_cases c1 : d2 = 0
  · rw [beq_t c1, if_pos c1, cond_true]
    by_cases c2 : d3 = 0
    · rw [beq_t c2, if_pos c2, cond_true]
      obtain ⟨l1, o0, o1⟩ := ho t a 1 a1 (Or.inr rfl)
      obtain ⟨l2, p0, p1⟩ := ho t c 1 a2 (Or.inr rfl)
      obtain ⟨m0, m1⟩ := mul_01 l1 l2
      refine ⟨fun e => ?_, fun e => ?_⟩
      · obtain ⟨e1, e2⟩ := m1 e
        obtain ⟨x1, x2, x3⟩ := o1 e1
        obtain ⟨y1, y2, y3⟩ := p1 e2
        refine orc_1 h0 (fun x hx hb => ?_) (fun hc1 x hx hb => ?_) (fun x hx hb => ?_)
        · rcases (or_tb a c x).mp hb with q | q
          · rw [← q]; exact x1
          · rw [← q]; exact y1
        · rcases (or_tb a c x).mp hb with q | q
          · rw [← q]; exact x2 rfl
          · rw [← q]; exact y2 rfl
        · rcases (or_tb a c x).mp hb with q | q
          · rw [← q]; exact x3 pl h0
          · rw [← q]; exact y3 pl h0
      · rcases m0 e with q | q
        · exact orc_0 h0 a1 ((or_tb a c a).mpr (Or.inl rfl)) (o0 q)
        · exact orc_0 h0 a2 ((or_tb a c c).mpr (Or.inr rfl)) (p0 q)
    · rw [beq_f c2, if_neg c2, cond_false]
      exact one 1 (Or.inr rfl)
  · rw [beq_f c1, if_neg c1, cond_false]
    exact one 0 (Or.inl rfl)
/-- the walk stops where the store of hits suffices -/
def stpW (den base lam th : Nat) (ph : Bool → Nat → Nat) (n g : Nat) (b : Bool) (c : Nat) : Bool := Nat.ble (Nat.add (Nat.mul den c) (Nat.add (Nat.mul n (Nat.add (Nat.mul den base) lam)) (ph b (Nat.mod g 1024)))) (Nat.mul den th)
theorem stpW_ok {den base lam th : Nat} {ph : Bool → Nat → Nat} {hit : Nat → Nat → Nat} (h1 : 1 ≤ den) (h3 : 1 ≤ sg 3) (h2 : 1 ≤ sg 2 ∧ sg 2 ≤ 8) (hp : PotP sg den lam ph hit) (hc : ∀ z : Sz, PT sg z.1 → stC sg z ≤ base + hit (apA sg (nx (nx (stG sg z)))) (apC sg (nx (nx (stG sg z))))) : ∀ n (z : Sz) b c, PT sg z.1 → (b = true ↔ z.1 0 ≠ 0) → stpW den base lam th ph n z.2 b c = true → c + stS sg z n ≤ th := fun n z b c hP hb h => by
  have h : den * c + (n * (den * base + lam) + ph b (z.2 % 1024)) ≤ den * th := Nat.le_of_ble_eq_true h
  have q := pot_sum h3 h2 hp hc n z b hP hb
  have e : den * (c + stS sg z n) ≤ den * th := by
    rw [Nat.mul_add]; omega
  exact Nat.le_of_mul_le_mul_left e h1
end ORW
