/-! THE ROOM: hits summed over the steps -/
section POT
variable {sg : Nat → Nat} {den lam : Nat} {ph : Bool → Nat → Nat} {hit : Nat → Nat → Nat}
theorem asGt_e (G : Nat) : asGt (nx (nx (nx G))) = asG G := rfl
theorem apAt_e (sg : Nat → Nat) (G : Nat) : apAt (sg 3) (nx (nx (nx G))) = apA sg G := rfl
theorem apCt_e (sg : Nat → Nat) (G : Nat) : apCt (sg 3) (nx (nx (nx G))) = apC sg G := rfl
theorem cdGt_e (H : Nat) : cdGt (nx (nx H)) = cdG H := rfl
theorem chGt_e (kk H : Nat) : chGt kk H = chG kk H := by
  unfold chGt chG
  rw [cdGt_e]
  by_cases k0 : kk = 0
  · rw [if_pos k0, if_pos k0]
  rw [if_neg k0, if_neg k0]
  by_cases k1 : kk = 1
  · rw [if_pos (by omega), if_pos k1]
  rw [if_neg k1]
  by_cases k2 : kk = 2
  · rw [if_pos (by omega), if_pos k2]
  rw [if_neg k2]
  by_cases k3 : kk = 3
  · rw [if_pos (by omega), if_pos k3]
  rw [if_neg k3, if_neg (by omega)]
/-- one step: hits den times, and what is left in store -/
def PotP (sg : Nat → Nat) (den lam : Nat) (ph : Bool → Nat → Nat) (hit : Nat → Nat → Nat) : Prop := ∀ (z : Sz) b b2, PT sg z.1 → (b = true ↔ z.1 0 ≠ 0) → (b2 = true ↔ stP sg z 0 ≠ 0) → den * hit (apA sg (nx (nx (stG sg z)))) (apC sg (nx (nx (stG sg z)))) + ph b2 (asG (nx (nx (stG sg z))) % 1024) ≤ lam + ph b (z.2 % 1024)
theorem bb {p q : Prop} {a b : Bool} (ha : a = true ↔ p) (hb : b = true ↔ q) (h : p ↔ q) : a = b := by
  cases a with
  | true => exact ((hb.mpr (h.mp (ha.mp rfl)))).symm
  | false =>
    cases b with
    | false => rfl
    | true => exact ha.mpr (h.mpr (hb.mp rfl))
theorem stP_b {pl : Nat → Nat} {t s kk H : Nat} (hs : pl 0 ≠ 0 → s < pl 0) : (kk = 0 → (chP sg pl t s kk H 0 ≠ 0 ↔ pl 0 ≠ 0)) ∧ (kk = 1 → pl 0 = 0 → chP sg pl t s kk H 0 = 0) ∧ (kk = 2 → (chP sg pl t s kk H 0 ≠ 0 ↔ pl 0 ≠ 0)) ∧ (kk = 3 → (chP sg pl t s kk H 0 ≠ 0 ↔ pl 0 ≠ 0)) ∧ (3 < kk → pl 0 ≠ 0 → chP sg pl t s kk H 0 ≠ 0) := by
  refine ⟨fun k => ?_, fun k z => ?_, fun k => ?_, fun k => ?_, fun k z => ?_⟩
  · subst k
    have e : chP sg pl t s 0 H = ctP pl (drw H (sg 2)) (drw (nx H) 8) := if_pos rfl
    rw [e, ctP_0K]
  · subst k
    have e : chP sg pl t s 1 H = if pl 0 ≠ 0 ∧ rehd sg (off pl s) = true then off pl s else pl := (if_neg (by omega)).trans (if_pos rfl)
    rw [e, if_neg fun q => q.1 z]; exact z
  · subst k
    have e : chP sg pl t s 2 H = if pl 0 ≠ 0 ∧ mvN sg pl s t = 0 then mvP sg pl s t else pl := (if_neg (by omega)).trans ((if_neg (by omega)).trans (if_pos rfl))
    rw [e]
    by_cases d : pl 0 ≠ 0 ∧ mvN sg pl s t = 0
    · have l := hs d.1
      rw [if_pos d, mvP_0, off_n]
      exact ⟨fun _ => d.1, fun _ => by omega⟩
    · rw [if_neg d]
  · subst k
    have e : chP sg pl t s 3 H = if pl 0 ≠ 0 then rcP sg pl s else pl := (if_neg (by omega)).trans ((if_neg (by omega)).trans ((if_neg (by omega)).trans (if_pos rfl)))
    rw [e]
    by_cases d : pl 0 ≠ 0
    · have l := hs d
      rw [if_pos d, rcP_0, off_n]
      exact ⟨fun _ => d, fun _ => by omega⟩
    · rw [if_neg d]
  · have e : chP sg pl t s kk H = cdP sg pl t H := (if_neg (by omega)).trans ((if_neg (by omega)).trans ((if_neg (by omega)).trans (if_neg (by omega))))
    have l := cdP_0 sg pl t H
    rw [e]; omega
theorem potB_ok {hl : Nat → Nat} (h0 : ∀ a, hit a a = 0) (hh : ∀ S, hit (dvr (nx S) (sg 3)) (dvr (nx (nx (nx S))) (sg 3)) ≤ hl (S % 1024)) (hall : ∀ b x, x < 1024 → potB den lam ph hl b x = true) : PotP sg den lam ph hit := by
  intro z b b2 hP hb hb2
  have h := hall b (z.2 % 1024) (Nat.mod_lt _ (by omega))
  unfold potB at h
  have eH : lxw (bif b then lxw (lxw (z.2 % 1024)) else lxw (z.2 % 1024)) = nx (slH z.1 z.2) % 1024 := by
    rw [← slH_b hb, nxr_e, lxw_m, nxr_e, nxr_e]
    cases b with
    | true => rw [cond_true, cond_true, lxw_m, lxw_m]
    | false => rw [cond_false, cond_false, lxw_m]
  rw [eH] at h
  have sb := stP_b (sg := sg) (pl := z.1) (t := drw z.2 (3 * sg 0)) (s := slS z.1 z.2) (kk := drw (slH z.1 z.2) 9) (H := nx (slH z.1 z.2)) slS_lt
  rw [← stP_e] at sb
  have ge := stG_e sg z
  generalize drw (slH z.1 z.2) 9 = kk at sb ge
  generalize nx (slH z.1 z.2) = H at h ge sb
  obtain ⟨s0, s1, s2, s3, s4⟩ := sb
  have k := chL_ok (kk := kk) (H := H) (b2 := b2) ⟨fun q => bb hb2 hb (s0 q), fun q qb => by
    cases q2 : b2 with
    | false => rfl
    | true =>
      have nz : z.1 0 = 0 := by
        by_cases y : z.1 0 = 0
        · exact y
        · exact absurd ((hb.mpr y).symm.trans qb) (by decide)
      exact absurd (s1 q nz) (hb2.mp q2), fun q => bb hb2 hb (s2 q), fun q => bb hb2 hb (s3 q), fun q qb => hb2.mpr (s4 q (hb.mp qb))⟩ h
  rw [chGt_e, ← ge] at k
  generalize stG sg z = e at k ⊢
  rw [← lxw_m, ← lxw_m, ← lxw_m, ← lxw_m, ← lxw_m] at k
  obtain ⟨v, v1, v2⟩ := askL_ok h0 hh k
  rw [apAt_e, apCt_e] at v1
  rw [asGt_e] at v2
  have v2 : den * v + ph b2 (asG (nx (nx e)) % 1024) ≤ lam + ph b (z.2 % 1024) := Nat.le_of_ble_eq_true v2
  have m : den * hit (apA sg (nx (nx e))) (apC sg (nx (nx e))) ≤ den * v := Nat.mul_le_mul_left _ v1
  omega
theorem PotP.add {l2 : Nat} {p2 : Bool → Nat → Nat} {h2 : Nat → Nat → Nat} (a b : Nat) (x : PotP sg den lam ph hit) (y : PotP sg den l2 p2 h2) : PotP sg den (a * lam + b * l2) (fun c g => a * ph c g + b * p2 c g) (fun u v => a * hit u v + b * h2 u v) := fun z c c2 hP hb hb2 => by
  have x := Nat.mul_le_mul_left a (x z c c2 hP hb hb2)
  have y := Nat.mul_le_mul_left b (y z c c2 hP hb hb2)
  show den * (a * hit (apA sg (nx (nx (stG sg z)))) (apC sg (nx (nx (stG sg z)))) + b * h2 (apA sg (nx (nx (stG sg z)))) (apC sg (nx (nx (stG sg z))))) + (a * ph c2 (asG (nx (nx (stG sg z))) % 1024) + b * p2 c2 (asG (nx (nx (stG sg z))) % 1024)) ≤ (a * lam + b * l2) + (a * ph c (z.2 % 1024) + b * p2 c (z.2 % 1024))
  generalize hit (apA sg (nx (nx (stG sg z)))) (apC sg (nx (nx (stG sg z)))) = X at x ⊢
  generalize h2 (apA sg (nx (nx (stG sg z)))) (apC sg (nx (nx (stG sg z)))) = Y at y ⊢
  generalize asG (nx (nx (stG sg z))) % 1024 = g2 at x y ⊢
  generalize z.2 % 1024 = g1 at x y ⊢
  rw [Nat.mul_add, Nat.mul_add] at x y
  rw [Nat.mul_add, Nat.mul_left_comm den a X, Nat.mul_left_comm den b Y]
  omega
theorem PotP.zero (sg : Nat → Nat) (den : Nat) : PotP sg den 0 (fun _ _ => 0) (fun _ _ => 0) := fun _ _ _ _ _ _ => Nat.le_refl _
/-- all steps -/
theorem pot_sum {base : Nat} (h3 : 1 ≤ sg 3) (h2 : 1 ≤ sg 2 ∧ sg 2 ≤ 8) (hp : PotP sg den lam ph hit) (hc : ∀ z : Sz, PT sg z.1 → stC sg z ≤ base + hit (apA sg (nx (nx (stG sg z)))) (apC sg (nx (nx (stG sg z))))) : ∀ n (z : Sz) b, PT sg z.1 → (b = true ↔ z.1 0 ≠ 0) → den * stS sg z n ≤ n * (den * base + lam) + ph b (z.2 % 1024) := by
  intro n
  induction n with
  | zero => exact fun z b _ _ => Nat.le_trans (Nat.le_of_eq (Nat.mul_zero den)) (Nat.zero_le _)
  | succ n ih =>
    intro z b hP hb
    have q := hp z b (decide (stP sg z 0 ≠ 0)) hP hb decide_eq_true_iff
    have c := hc z hP
    have i := ih (stN sg z) (decide (stP sg z 0 ≠ 0)) (PT_st hP h3 h2) decide_eq_true_iff
    rw [stN_2] at i
    rw [stS_sh, Nat.mul_add, Nat.succ_mul]
    have c := Nat.mul_le_mul_left den c
    rw [Nat.mul_add] at c
    generalize stC sg z = C at c ⊢
    generalize stS sg (stN sg z) n = S at i ⊢
    generalize hit (apA sg (nx (nx (stG sg z)))) (apC sg (nx (nx (stG sg z)))) = X at q c
    generalize asG (nx (nx (stG sg z))) % 1024 = g2 at q i
    omega
end POT
