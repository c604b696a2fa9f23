/-! THE ROOM: a season's check in fast numbers -/
section CHG
def fqR (M : Nat → Nat → Nat) (a c : Nat) : Nat := bif Nat.beq a c then 1 else Nat.add 2 (bif Nat.blt a c then M a c else M c a)
def gqR (K : Nat → Nat) (a c : Nat) : Nat := bif Nat.beq a c then Nat.add 1 (K a) else Nat.add (Nat.add 1 (K a)) (Nat.add 1 (K c))
def zqR (K Nd : Nat → Nat) (a c : Nat) : Bool := bif Nat.beq a c then false else bif (bif Nat.beq (K a) 0 then Nat.blt 0 (Nd a) else false) then true else bif Nat.beq (K c) 0 then Nat.blt 0 (Nd c) else false
def mnR (a b : Nat) : Nat := bif Nat.blt a b then a else b
def cqR (A B : Nat → Nat) (a c t : Nat) : Nat := Nat.sub (Nat.mul 3 (Nat.add (mnR (B a) (B c)) 1)) (mxR (Nat.mul 3 (mxR (A a) (A c))) t)
def mqR (C f g : Nat) : Nat := bif Nat.blt (Nat.add (Nat.mul 3 g) 2) (Nat.add (Nat.mul C f) g) then (bif Nat.blt (Nat.add (Nat.mul C f) g) (Nat.mul (Nat.add C 1) f) then Nat.mul (Nat.add C 1) f else Nat.add (Nat.mul C f) g) else (bif Nat.blt (Nat.add (Nat.mul 3 g) 2) (Nat.mul (Nat.add C 1) f) then Nat.mul (Nat.add C 1) f else Nat.add (Nat.mul 3 g) 2)
def xqR (K : Nat → Nat) (M : Nat → Nat → Nat) (A B Nd : Nat → Nat) (a c t : Nat) : Nat := bif zqR K Nd a c then 0 else mqR (cqR A B a c t) (fqR M a c) (gqR K a c)
def qfR (K : Nat → Nat) (M : Nat → Nat → Nat) (A B Nd : Nat → Nat) (a c w t : Nat) : Nat := fzN a fun a => fzN c fun c => fzN w fun w => fzN t fun t => Nat.add (Nat.add (xqR K M A B Nd a c t) 1) (K w)
def gfR (K : Nat → Nat) (a c : Nat) : Nat := fzN a fun a => fzN c fun c => Nat.add (Nat.mul 2 (gqR K a c)) 2
theorem fqR_e (M : Nat → Nat → Nat) (a c : Nat) : fqR M a c = fP M a c := by
  unfold fqR fP
  by_cases e : a = c
  · rw [beq_t e, if_pos e, cond_true]
  · rw [beq_f e, if_neg e, cond_false]
    by_cases l : a < c
    · rw [blt_t l, if_pos l, cond_true]; rfl
    · rw [blt_n l, if_neg l, cond_false]; rfl
theorem gqR_e (K : Nat → Nat) (a c : Nat) : gqR K a c = gP K a c := by
  unfold gqR gP
  by_cases e : a = c
  · rw [beq_t e, if_pos e, cond_true]; rfl
  · rw [beq_f e, if_neg e, cond_false]; rfl
theorem mxR_e (a b : Nat) : mxR a b = mxN a b := by
  unfold mxR mxN
  by_cases l : a < b
  · rewrite [blt_t l, if_pos l, cond_true]
    rfl
  · rewrite [blt_n l, if_neg l, cond_false]
    rfl
theorem mnR_e (a b : Nat) : mnR a b = mnN a b := by
  unfold mnR mnN
  by_cases l : a < b
  · rw [blt_t l, if_pos l, cond_true]
  · rw [blt_n l, if_neg l, cond_false]
theorem cqR_e (A B : Nat → Nat) (a c t : Nat) : cqR A B a c t = shS (A a) (B a) (A c) (B c) t := by
  unfold cqR shS
  rw [mnR_e, mxR_e, mxR_e]; rfl
theorem mqR_e (C f g : Nat) : mqR C f g = mxC C f g := by
  unfold mqR mxC
  show (bif Nat.blt (3 * g + 2) (C * f + g) then (bif Nat.blt (C * f + g) ((C + 1) * f) then (C + 1) * f else C * f + g) else (bif Nat.blt (3 * g + 2) ((C + 1) * f) then (C + 1) * f else 3 * g + 2)) = _
  generalize 3 * g + 2 = x
  generalize C * f + g = y
  generalize (C + 1) * f = z
  by_cases l : x < y
  · rw [blt_t l, if_pos l, cond_true]
    by_cases r : y < z
    · rw [blt_t r, if_pos r, cond_true]
    · rw [blt_n r, if_neg r, cond_false]
  · rw [blt_n l, if_neg l, cond_false]
    by_cases r : x < z
    · rw [blt_t r, if_pos r, cond_true]
    · rw [blt_n r, if_neg r, cond_false]
theorem zqR_t {K Nd : Nat → Nat} {a c : Nat} (h : zqR K Nd a c = true) : a ≠ c ∧ ((K a = 0 ∧ 0 < Nd a) ∨ (K c = 0 ∧ 0 < Nd c)) := by
  have bl : ∀ {x}, Nat.blt 0 x = true → 0 < x := fun h => Nat.le_of_ble_eq_true h
  unfold zqR at h
  by_cases e : a = c
  · rw [beq_t e, cond_true] at h
    exact absurd h (by decide)
  · rw [beq_f e, cond_false] at h
    refine ⟨e, ?_⟩
    by_cases x : K a = 0
    · rw [beq_t x, cond_true] at h
      by_cases y : Nat.blt 0 (Nd a) = true
      · exact Or.inl ⟨x, bl y⟩
      · rw [Bool.eq_false_iff.mpr y, cond_false] at h
        by_cases z : K c = 0
        · rw [beq_t z, cond_true] at h
          exact Or.inr ⟨z, bl h⟩
        · rw [beq_f z, cond_false] at h
          exact absurd h (by decide)
    · rw [beq_f x, cond_false, cond_false] at h
      by_cases z : K c = 0
      · rw [beq_t z, cond_true] at h
        exact Or.inr ⟨z, bl h⟩
      · rw [beq_f z, cond_false] at h
        exact absurd h (by decide)
/-- the greatest of the first -/
def mxl (f : Nat → Nat) (n : Nat) : Nat := Nat.rec (motive := fun _ => Nat) 0 (fun i x => mxR (f i) x) n
theorem mxl_s (f : Nat → Nat) (n : Nat) : mxl f (n + 1) = mxR (f n) (mxl f n) := rfl
theorem mxl_le {f : Nat → Nat} : ∀ {n i}, i < n → f i ≤ mxl f n
  | 0, _, h => absurd h (Nat.not_lt_zero _)
  | n + 1, i, h => by
    rw [mxl_s]
    by_cases e : i = n
    · rw [e]; exact (mxR_le _ _).1
    · exact Nat.le_trans (mxl_le (show i < n by omega)) (mxR_le _ _).2
def g2R (K : Nat → Nat) (W : Nat) : Nat := mxR 24 (mxR (Nat.add 1 (mxl K W)) (Nat.add 2 (mxl (fun c => mxl (fun a => Nat.add (K a) (K c)) c) W)))
theorem g2R_le {K : Nat → Nat} {W : Nat} : 24 ≤ g2R K W ∧ ∀ a c, a < W → c < W → gP K a c ≤ g2R K W := by
  unfold g2R
  have m1 := mxR_le 24 (mxR (Nat.add 1 (mxl K W)) (Nat.add 2 (mxl (fun c => mxl (fun a => Nat.add (K a) (K c)) c) W)))
  have m2 := mxR_le (Nat.add 1 (mxl K W)) (Nat.add 2 (mxl (fun c => mxl (fun a => Nat.add (K a) (K c)) c) W))
  generalize mxR 24 (mxR (Nat.add 1 (mxl K W)) (Nat.add 2 (mxl (fun c => mxl (fun a => Nat.add (K a) (K c)) c) W))) = G at m1 ⊢
  generalize mxR (Nat.add 1 (mxl K W)) (Nat.add 2 (mxl (fun c => mxl (fun a => Nat.add (K a) (K c)) c) W)) = H at m1 m2
  refine ⟨m1.1, fun a c ha hc => ?_⟩
  have one : ∀ x y, x < y → y < W → K x + K y + 2 ≤ H := fun x y hx hy => by
    have q1 : K x + K y ≤ mxl (fun a => Nat.add (K a) (K y)) y := mxl_le (f := fun a => Nat.add (K a) (K y)) hx
    have q2 := mxl_le (f := fun c => mxl (fun a => Nat.add (K a) (K c)) c) hy
    have q3 : 2 + mxl (fun c => mxl (fun a => Nat.add (K a) (K c)) c) W ≤ H := m2.2
    have q2 : mxl (fun a => Nat.add (K a) (K y)) y ≤ mxl (fun c => mxl (fun a => Nat.add (K a) (K c)) c) W := q2
    omega
  unfold gP
  by_cases e : a = c
  · rw [if_pos e]
    have q := mxl_le (f := K) ha
    have q3 : 1 + mxl K W ≤ H := m2.1
    omega
  · rw [if_neg e]
    rcases Nat.lt_or_ge a c with l | l
    · have := one a c l hc
      omega
    · have := one c a (by omega) ha
      omega
/-- what a pair costs beyond -/
def eqR (K : Nat → Nat) (M : Nat → Nat → Nat) (A B Nd : Nat → Nat) (g2 a c : Nat) : Nat := bif Nat.ble (Nat.mul 22 (fqR M a c)) (Nat.mul 2 g2) then 0 else Nat.sub (xqR K M A B Nd a c 0) (Nat.add (Nat.mul 3 g2) 2)
def tmR (e p : Nat) : Nat := bif Nat.beq e 0 then 0 else Nat.mul e p
theorem tmR_e (e p : Nat) : tmR e p = e * p := by
  unfold tmR
  by_cases z : e = 0
  · rw [beq_t z, cond_true, z, Nat.zero_mul]
  · rw [beq_f z, cond_false]; rfl
def lamW (W : Nat) (e : Nat → Nat → Nat) : Nat := bif Nat.beq W 4 then Nat.add (Nat.mul (e 0 1) 8) (Nat.add (Nat.mul (e 0 2) 10) (Nat.add (Nat.mul (e 0 3) 9) (Nat.add (Nat.mul (e 1 2) 9) (Nat.add (Nat.mul (e 1 3) 11) (Nat.add (Nat.mul (e 2 3) 8) 0))))) else bif Nat.beq W 3 then Nat.add (Nat.mul (mxR (mxR (e 0 1) (e 0 2)) (e 1 2)) 26) 0 else bif Nat.beq W 2 then Nat.add (Nat.mul (e 0 1) 21) 0 else 0
def phW (W : Nat) (e : Nat → Nat → Nat) (b : Bool) (x : Nat) : Nat := bif Nat.beq W 4 then Nat.add (tmR (e 0 1) (phT pT40 b x)) (Nat.add (tmR (e 0 2) (phT pT41 b x)) (Nat.add (tmR (e 0 3) (phT pT42 b x)) (Nat.add (tmR (e 1 2) (phT pT43 b x)) (Nat.add (tmR (e 1 3) (phT pT44 b x)) (Nat.add (tmR (e 2 3) (phT pT45 b x)) 0))))) else bif Nat.beq W 3 then Nat.add (tmR (mxR (mxR (e 0 1) (e 0 2)) (e 1 2)) (phT pT30 b x)) 0 else bif Nat.beq W 2 then Nat.add (tmR (e 0 1) (phT pT20 b x)) 0 else 0
def phZ (W : Nat) (e : Nat → Nat → Nat) (b : Bool) (x : Nat) : Nat := fzN x fun x => Nat.add (phW W e b x) 0
theorem phZ_e (W : Nat) (e : Nat → Nat → Nat) : phZ W e = phW W e := funext fun b => funext fun x => by
  unfold phZ
  rewrite [fzN_e]
  rfl
def hitW (W : Nat) (e : Nat → Nat → Nat) (a c : Nat) : Nat := bif Nat.beq W 4 then e 0 1 * hpB 0 1 a c + (e 0 2 * hpB 0 2 a c + (e 0 3 * hpB 0 3 a c + (e 1 2 * hpB 1 2 a c + (e 1 3 * hpB 1 3 a c + (e 2 3 * hpB 2 3 a c + 0))))) else bif Nat.beq W 3 then mxR (mxR (e 0 1) (e 0 2)) (e 1 2) * h3B a c + 0 else bif Nat.beq W 2 then e 0 1 * hpB 0 1 a c + 0 else 0
variable {sg : Nat → Nat}
theorem PotP.ad {den lam l2 : Nat} {ph p2 : Bool → Nat → Nat} {hit h2 : Nat → Nat → Nat} (a : Nat) (x : PotP sg den lam ph hit) (y : PotP sg den l2 p2 h2) : PotP sg den (a * lam + l2) (fun c g => a * ph c g + p2 c g) (fun u v => a * hit u v + h2 u v) := by
  have q := x.add a 1 y
  simp only [Nat.one_mul] at q
  exact q
theorem potW {W : Nat} (h3 : sg 3 = W) (e : Nat → Nat → Nat) : PotP sg 32 (lamW W e) (phW W e) (hitW W e) := by
  by_cases c4 : W = 4
  · subst c4
    have q := (pT40_p h3).ad (e 0 1) ((pT41_p h3).ad (e 0 2) ((pT42_p h3).ad (e 0 3) ((pT43_p h3).ad (e 1 2) ((pT44_p h3).ad (e 1 3) ((pT45_p h3).ad (e 2 3) (PotP.zero sg 32))))))
    have p : phW 4 e = fun c g => e 0 1 * phT pT40 c g + (e 0 2 * phT pT41 c g + (e 0 3 * phT pT42 c g + (e 1 2 * phT pT43 c g + (e 1 3 * phT pT44 c g + (e 2 3 * phT pT45 c g + 0))))) := funext fun c => funext fun g => by
      show tmR (e 0 1) (phT pT40 c g) + (tmR (e 0 2) (phT pT41 c g) + (tmR (e 0 3) (phT pT42 c g) + (tmR (e 1 2) (phT pT43 c g) + (tmR (e 1 3) (phT pT44 c g) + (tmR (e 2 3) (phT pT45 c g) + 0))))) = _
      rw [tmR_e, tmR_e, tmR_e, tmR_e, tmR_e, tmR_e]
    rw [p]
    exact q
  by_cases c3 : W = 3
  · subst c3
    have q := (pT30_p h3).ad (mxR (mxR (e 0 1) (e 0 2)) (e 1 2)) (PotP.zero sg 32)
    have p : phW 3 e = fun c g => mxR (mxR (e 0 1) (e 0 2)) (e 1 2) * phT pT30 c g + 0 := funext fun c => funext fun g => by
      show tmR (mxR (mxR (e 0 1) (e 0 2)) (e 1 2)) (phT pT30 c g) + 0 = _
      rw [tmR_e]
    rw [p]
    exact q
  by_cases c2 : W = 2
  · subst c2
    have q := (pT20_p h3).ad (e 0 1) (PotP.zero sg 32)
    have p : phW 2 e = fun c g => e 0 1 * phT pT20 c g + 0 := funext fun c => funext fun g => by
      show tmR (e 0 1) (phT pT20 c g) + 0 = _
      rw [tmR_e]
    rw [p]
    exact q
  have l : lamW W e = 0 := by
    unfold lamW
    rw [beq_f c4, beq_f c3, beq_f c2]; rfl
  have p : phW W e = fun _ _ => 0 := funext fun c => funext fun g => by
    unfold phW
    rw [beq_f c4, beq_f c3, beq_f c2]; rfl
  have t : hitW W e = fun _ _ => 0 := funext fun c => funext fun g => by
    unfold hitW
    rw [beq_f c4, beq_f c3, beq_f c2]; rfl
  rw [l, p, t]
  exact PotP.zero sg 32
theorem hpB_1 : ∀ pa, pa < 4 → ∀ pc, pc < 4 → hpB pa pc pa pc = 1 ∧ hpB pa pc pc pa = 1 := by decide
theorem hit_le {W : Nat} (e : Nat → Nat → Nat) (h4 : W ≤ 4) {a c : Nat} (hac : a < c) (hc : c < W) : e a c ≤ hitW W e a c ∧ e a c ≤ hitW W e c a := by
  have q : W = 2 ∨ W = 3 ∨ W = 4 := by omega
  have p1 := hpB_1 a (by omega) c (by omega)
  rcases q with rfl | rfl | rfl
  · have e0 : a = 0 := by omega
    have e1 : c = 1 := by omega
    subst e0 e1
    show e 0 1 ≤ e 0 1 * hpB 0 1 0 1 + 0 ∧ e 0 1 ≤ e 0 1 * hpB 0 1 1 0 + 0
    rw [p1.1, p1.2]; omega
  · have m1 := mxR_le (mxR (e 0 1) (e 0 2)) (e 1 2)
    have m2 := mxR_le (e 0 1) (e 0 2)
    have le : e a c ≤ mxR (mxR (e 0 1) (e 0 2)) (e 1 2) := by
      have q : (a = 0 ∧ c = 1) ∨ (a = 0 ∧ c = 2) ∨ (a = 1 ∧ c = 2) := by omega
      rcases q with ⟨rfl, rfl⟩ | ⟨rfl, rfl⟩ | ⟨rfl, rfl⟩ <;> omega
    have b1 : h3B a c = 1 := by
      unfold h3B
      rw [beq_f (by omega)]; rfl
    have b2 : h3B c a = 1 := by
      unfold h3B
      rw [beq_f (by omega)]; rfl
    show e a c ≤ mxR (mxR (e 0 1) (e 0 2)) (e 1 2) * h3B a c + 0 ∧ e a c ≤ mxR (mxR (e 0 1) (e 0 2)) (e 1 2) * h3B c a + 0
    rw [b1, b2]; omega
  · show e a c ≤ e 0 1 * hpB 0 1 a c + (e 0 2 * hpB 0 2 a c + (e 0 3 * hpB 0 3 a c + (e 1 2 * hpB 1 2 a c + (e 1 3 * hpB 1 3 a c + (e 2 3 * hpB 2 3 a c + 0))))) ∧ e a c ≤ e 0 1 * hpB 0 1 c a + (e 0 2 * hpB 0 2 c a + (e 0 3 * hpB 0 3 c a + (e 1 2 * hpB 1 2 c a + (e 1 3 * hpB 1 3 c a + (e 2 3 * hpB 2 3 c a + 0)))))
    have q : (a = 0 ∧ c = 1) ∨ (a = 0 ∧ c = 2) ∨ (a = 0 ∧ c = 3) ∨ (a = 1 ∧ c = 2) ∨ (a = 1 ∧ c = 3) ∨ (a = 2 ∧ c = 3) := by omega
    rcases q with ⟨rfl, rfl⟩ | ⟨rfl, rfl⟩ | ⟨rfl, rfl⟩ | ⟨rfl, rfl⟩ | ⟨rfl, rfl⟩ | ⟨rfl, rfl⟩ <;> rw [p1.1, p1.2] <;> omega
end CHG
