/-! THE ROOM: one start looked at, whole -/
section CH2
variable {sg : Nat → Nat}
theorem shS_t (a b c d t : Nat) : shS a b c d t ≤ shS a b c d 0 := by
  unfold shS
  generalize 3 * mxN a c = x
  have m : mxN x 0 ≤ mxN x t := by
    unfold mxN
    split <;> split <;> omega
  omega
theorem mxC_C {C D f g : Nat} (h : C ≤ D) : mxC C f g ≤ mxC D f g := by
  have m := mxC_le D f g
  have e1 : C * f ≤ D * f := Nat.mul_le_mul_right _ h
  have e2 : (C + 1) * f ≤ (D + 1) * f := Nat.mul_le_mul_right _ (by omega)
  unfold mxC
  split
  · split
    · exact Nat.le_trans e2 m.2.2
    · exact Nat.le_trans (Nat.add_le_add_right e1 _) m.2.1
  · split
    · exact Nat.le_trans e2 m.2.2
    · exact m.1
/-- a question's cost, by the season's numbers -/
def qC (A B Nd K : Nat → Nat) (M : Nat → Nat → Nat) (a c w t : Nat) : Nat := (if a ≠ c ∧ ((K a = 0 ∧ 0 < Nd a) ∨ (K c = 0 ∧ 0 < Nd c)) then 0 else mxC (shS (A a) (B a) (A c) (B c) t) (fP M a c) (gP K a c)) + 1 + K w
/-- the numbers that bound all -/
def bdC (A B Nd K : Nat → Nat) (M : Nat → Nat → Nat) (hit : Nat → Nat → Nat) (w3 g2 f2 k1 : Nat) : Bool := al (fun a => Nat.ble (K a) k1 && al (fun c => Nat.ble (gP K a c) g2 && (Nat.ble (fP M a c) f2 && Nat.ble (if a ≠ c ∧ ((K a = 0 ∧ 0 < Nd a) ∨ (K c = 0 ∧ 0 < Nd c)) then 0 else mxC (shS (A a) (B a) (A c) (B c) 0) (fP M a c) (gP K a c)) (3 * g2 + 2 + hit a c))) w3) w3
theorem chk_ok {Ge d P g2 f2 k1 lam : Nat} {q : PSt} {ct na : Nat → Nat} {ph : Bool → Nat → Nat} {hit : Nat → Nat → Nat} (h : SeR sg Ge d P q) (hP : 1 ≤ P ∧ P ≤ 8) (hd : 1 ≤ d) (hna : ∀ dd, nab sg dd = na dd) (hp : PotP sg 32 lam ph hit)
    {A B Nd K : Nat → Nat} {M : Nat → Nat → Nat} {L : Nat → List Nat} (eA : A = fun w => wFi (itw w (nx q.2.2))) (eB : B = fun w => wLa d (itw w (nx q.2.2))) (eN : Nd = fun w => wNd (itw w (nx q.2.2))) (eL : L = fun w => isS q.2.1 (wSe q.1 (itw w (nx q.2.2)))) (eK : K = fun w => Ul (L w) q.2.1 P) (eM : M = fun a c => Um (L a) (L c) q.2.1 P (L c).length)
    (hb : bdC A B Nd K M hit (1 + drw q.2.2 4) g2 f2 k1 = true) (hw : Wk 149400 (1 + drw q.2.2 4) (3 * d) (2 * g2 + 2) (2 + g2) (fun a c => 2 * gP K a c + 2) (qC A B Nd K M) (orW (1 + drw q.2.2 4) (3 * d) (okC A B Nd K L q.2.1 na)) (stpW 32 (2 * g2 + 2 + (3 * g2 + 2 + 1 + k1)) lam 149400 ph) 26 Ge false 0 = true) : stS sg (plC ct, Ge) 26 ≤ 149400 := by
  obtain ⟨⟨r0, r2, r3⟩, rN, rW, -⟩ := id h
  have h8 : sg 2 ≤ 8 := by omega
  have lw : LW sg L := by rw [eL]; exact SeR_LWs h q.2.1
  have eNP : NP sg = q.2.1 := funext rN
  have hK : KBn sg K := by
    have k := lw.K (by omega)
    rw [eNP, r2] at k
    rw [eK]; exact k
  have hM : MBn sg M := by
    have k := lw.M (by omega)
    rw [eNP, r2] at k
    rw [eM]; exact k
  have hA : ∀ x, x < sg 3 → oW sg x 1 = A x := fun x hx => by rw [r3] at hx; rw [eA]; exact (rW x hx).1.2.1
  have hB : ∀ x, x < sg 3 → oW sg x 2 = B x := fun x hx => by rw [r3] at hx; rw [eB]; exact (rW x hx).1.2.2
  have hN : ∀ x, x < sg 3 → oW sg x 0 = Nd x := fun x hx => by rw [r3] at hx; rw [eN]; exact (rW x hx).1.1
  clear eA eB eN eL eK eM rW
  rw [← r3] at hb hw
  unfold bdC at hb
  rw [al_iff] at hb
  have b1 : ∀ a, a < sg 3 → K a ≤ k1 ∧ ∀ c, c < sg 3 → gP K a c ≤ g2 ∧ fP M a c ≤ f2 ∧ (if a ≠ c ∧ ((K a = 0 ∧ 0 < Nd a) ∨ (K c = 0 ∧ 0 < Nd c)) then 0 else mxC (shS (A a) (B a) (A c) (B c) 0) (fP M a c) (gP K a c)) ≤ 3 * g2 + 2 + hit a c := fun a ha => by
    have x := hb a ha
    rw [Bool.and_eq_true] at x
    refine ⟨Nat.le_of_ble_eq_true x.1, fun c hc => ?_⟩
    have y := x.2
    rw [al_iff] at y
    have y := y c hc
    rw [Bool.and_eq_true, Bool.and_eq_true] at y
    exact ⟨Nat.le_of_ble_eq_true y.1, Nat.le_of_ble_eq_true y.2.1, Nat.le_of_ble_eq_true y.2.2⟩
  refine room_W (bA := 3 * g2 + 2 + 1 + k1) (f2 := f2) (k1 := k1) (hit := hit) rfl (by rw [r0]) (by omega) (by omega) (by omega) hK hM (fun a c ha hc => ((b1 a ha).2 c hc).1) (fun a c ha hc => ((b1 a ha).2 c hc).2.1) (fun w hw => (b1 w hw).1) (fun a c w t ha hc hw2 ht => ?_) (fun a c _ _ => Nat.le_refl _) (by omega) rfl hp (okC_ok hA hB hN hK lw rN hna h8) hw
  have e : qP sg K M a c w t = qC A B Nd K M a c w t := by
    unfold qP qC
    rw [hA a ha, hB a ha, hA c hc, hB c hc, hN a ha, hN c hc]
  rw [e]
  refine ⟨Nat.le_refl _, ?_⟩
  have m := ((b1 a ha).2 c hc).2.2
  have k := (b1 w hw2).1
  have s := mxC_C (f := fP M a c) (g := gP K a c) (shS_t (A a) (B a) (A c) (B c) t)
  unfold qC
  by_cases z : a ≠ c ∧ ((K a = 0 ∧ 0 < Nd a) ∨ (K c = 0 ∧ 0 < Nd c))
  · rw [if_pos z]
    omega
  · rw [if_neg z] at m ⊢
    omega
end CH2
