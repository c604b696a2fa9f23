/-! THE ROOM: how often a pair can be asked for, by the low ten bits alone -/
def lxw (S : Nat) : Nat := Nat.mod (Nat.add (Nat.mul S 1664525) 1013904223) 1024
def askL (hl : Nat → Nat) (u : Nat) (k : Nat → Nat → Bool) : Bool :=
  bif Nat.beq (dvr u 2) 0 then (bif Nat.beq (dvr (lxw (lxw u)) 2) 0 then k (hl u) (lxw (lxw (lxw (lxw u)))) else k 0 (lxw (lxw (lxw u)))) else k 0 (lxw (lxw u))
def cdL (v : Nat) (k : Nat → Bool) : Bool := bif Nat.beq (dvr v 2) 0 then (bif k (lxw (lxw v)) then k (lxw (lxw (lxw v))) else false) else k (lxw v)
def chL (b : Bool) (h : Nat) (k : Nat → Bool → Bool) : Bool :=
  bif k (lxw (lxw h)) b then (bif k h b then (bif (bif b then k h false else true) then (bif cdL (lxw (lxw h)) (fun e => k e true) then (bif b then true else cdL (lxw (lxw h)) (fun e => k e false)) else false) else false) else false) else false
/-- one state of the table -/
def potB (den lam : Nat) (ph : Bool → Nat → Nat) (hl : Nat → Nat) (b : Bool) (x : Nat) : Bool :=
  chL b (lxw (bif b then lxw (lxw x) else lxw x)) fun e b2 => askL hl (lxw (lxw (lxw (lxw (lxw e))))) fun h x2 => Nat.ble (Nat.add (Nat.mul den h) (ph b2 x2)) (Nat.add lam (ph b x))
section HIT
theorem lxw_m (S : Nat) : nx S % 1024 = lxw (S % 1024) := by
  unfold nx lxw
  show (S * 1664525 + 1013904223) % 4294967296 % 1024 = (S % 1024 * 1664525 + 1013904223) % 1024
  omega
theorem dvr_m2 (S : Nat) : dvr S 2 = dvr (S % 1024) 2 := by
  show S / 256 % 2 = S % 1024 / 256 % 2
  omega
theorem dvr_m4 (S : Nat) : dvr S 4 = dvr (S % 1024) 4 := by
  show S / 256 % 4 = S % 1024 / 256 % 4
  omega
theorem and_b {A B : Bool} (h : (bif A then B else false) = true) : A = true ∧ B = true := by
  cases A with
  | true => exact ⟨rfl, h⟩
  | false => exact absurd (show false = true from h) (by decide)
/-- the works of a question -/
def apA (sg : Nat → Nat) (G : Nat) : Nat := drw (nx (nx (nx G))) (sg 3)
def apC (sg : Nat → Nat) (G : Nat) : Nat := if drw (nx (nx G)) 2 = 0 ∧ drw (nx (nx (nx (nx G)))) 2 = 0 then drw (nx (nx (nx (nx (nx G))))) (sg 3) else apA sg G
def apAt (w3 u : Nat) : Nat := dvr (nx u) w3
def apCt (w3 u : Nat) : Nat := if dvr u 2 = 0 ∧ dvr (nx (nx u)) 2 = 0 then dvr (nx (nx (nx u))) w3 else dvr (nx u) w3
def asGt (u : Nat) : Nat := if dvr u 2 = 0 then (if dvr (nx (nx u)) 2 = 0 then nx (nx (nx (nx u))) else nx (nx (nx u))) else nx (nx u)
theorem askL_ok {w3 : Nat} {hit : Nat → Nat → Nat} {hl : Nat → Nat} (h0 : ∀ a, hit a a = 0) (hh : ∀ S, hit (dvr (nx S) w3) (dvr (nx (nx (nx S))) w3) ≤ hl (S % 1024)) {u : Nat} {k : Nat → Nat → Bool} (h : askL hl (u % 1024) k = true) : ∃ v, hit (apAt w3 u) (apCt w3 u) ≤ v ∧ k v (asGt u % 1024) = true := by
  unfold askL at h
  rw [← lxw_m, ← lxw_m, ← lxw_m, ← lxw_m, ← dvr_m2, ← dvr_m2] at h
  unfold apAt apCt asGt
  have z := h0 (dvr (nx u) w3)
  have y := hh u
  generalize dvr (nx u) w3 = a at z y ⊢
  generalize dvr (nx (nx (nx u))) w3 = c at y ⊢
  generalize dvr (nx (nx u)) 2 = d2 at h ⊢
  generalize dvr u 2 = d1 at h ⊢
  generalize nx (nx (nx (nx u))) = g4 at h ⊢
  generalize nx (nx (nx u)) = g3 at h ⊢
  generalize nx (nx u) = g2 at h ⊢
  by_cases c1 : d1 = 0
  · rw [beq_t c1] at h
    have h := bif_t h
    by_cases c2 : d2 = 0
    · rw [beq_t c2] at h
      have h := bif_t h
      rw [if_pos ⟨c1, c2⟩, if_pos c1, if_pos c2]
      exact ⟨_, y, h⟩
    · rw [beq_f c2] at h
      have h := bif_f h
      rw [if_neg fun q => c2 q.2, if_pos c1, if_neg c2]
      exact ⟨0, by rw [z]; exact Nat.le_refl _, h⟩
  · rw [beq_f c1] at h
    have h := bif_f h
    rw [if_neg fun q => c1 q.1, if_neg c1]
    exact ⟨0, by rw [z]; exact Nat.le_refl _, h⟩
def cdGt (v : Nat) : Nat := if dvr v 2 = 0 then (if dvr (nx (nx v)) 3 = 0 then nx (nx (nx v)) else nx (nx v)) else nx v
theorem cdL_ok {v : Nat} {k : Nat → Bool} (h : cdL (v % 1024) k = true) : k (cdGt v % 1024) = true := by
  unfold cdL at h
  rw [← lxw_m, ← lxw_m, ← lxw_m, ← dvr_m2] at h
  unfold cdGt
  generalize dvr (nx (nx v)) 3 = d3
  generalize dvr v 2 = d1 at h ⊢
  generalize nx (nx (nx v)) = g3 at h ⊢
  generalize nx (nx v) = g2 at h ⊢
  generalize nx v = g1 at h ⊢
  by_cases c1 : d1 = 0
  · rw [beq_t c1] at h
    have h := and_b (bif_t h)
    rw [if_pos c1]
    by_cases c2 : d3 = 0
    · rw [if_pos c2]; exact h.2
    · rw [if_neg c2]; exact h.1
  · rw [beq_f c1] at h
    rw [if_neg c1]
    exact bif_f h
def chGt (kk H : Nat) : Nat := if kk = 0 then nx (nx H) else if kk ≤ 3 then H else cdGt (nx (nx H))
/-- the count behind a change: none or some -/
theorem chL_ok {b b2 : Bool} {kk H : Nat} {k : Nat → Bool → Bool} (hb : (kk = 0 → b2 = b) ∧ (kk = 1 → b = false → b2 = false) ∧ (kk = 2 → b2 = b) ∧ (kk = 3 → b2 = b) ∧ (3 < kk → b = true → b2 = true)) (h : chL b (H % 1024) k = true) : k (chGt kk H % 1024) b2 = true := by
  unfold chL at h
  rw [← lxw_m, ← lxw_m] at h
  obtain ⟨a1, h⟩ := and_b h
  obtain ⟨a2, h⟩ := and_b h
  obtain ⟨a3, h⟩ := and_b h
  obtain ⟨a4, a5⟩ := and_b h
  obtain ⟨b0, b1, b2', b3, b4⟩ := hb
  unfold chGt
  by_cases k0 : kk = 0
  · rw [if_pos k0, b0 k0]; exact a1
  rw [if_neg k0]
  by_cases k3 : kk ≤ 3
  · rw [if_pos k3]
    by_cases k1 : kk = 1
    · cases q : b with
      | true =>
        rw [q] at a2 a3
        cases b2 with
        | true => exact a2
        | false => exact bif_t a3
      | false =>
        rw [b1 k1 q]
        rw [q] at a2
        exact a2
    · have e : b2 = b := by
        by_cases k2 : kk = 2
        · exact b2' k2
        · exact b3 (by omega)
      rw [e]; exact a2
  · rw [if_neg k3]
    cases q2 : b2 with
    | true => exact cdL_ok a4
    | false =>
      cases q : b with
      | true => exact absurd ((b4 (by omega) q).symm.trans q2) (by decide)
      | false =>
        rw [q] at a5
        exact cdL_ok (bif_f a5)
end HIT
