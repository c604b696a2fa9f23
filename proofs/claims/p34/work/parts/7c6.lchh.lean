/-! THE ROOM: a season's check is right -/
section CHH
def stR (W g2 k1 : Nat) (e : Nat → Nat → Nat) (n g : Nat) (b : Bool) (c : Nat) : Bool := stpW 32 (Nat.add (Nat.add (Nat.mul 2 g2) 2) (Nat.add (Nat.add (Nat.add (Nat.mul 3 g2) 2) 1) k1)) (lamW W e) 149400 (phZ W e) n g b c
def wkR (K : Nat → Nat) (M : Nat → Nat → Nat) (A B Nd : Nat → Nat) (okf : Nat → Nat → Nat → Nat) (W d Ge : Nat) : Bool := Wk 149400 W (Nat.mul 3 d) (Nat.add (Nat.mul 2 (g2R K W)) 2) (Nat.add 2 (g2R K W)) (gfR K) (qfR K M A B Nd) (orW W (Nat.mul 3 d) okf) (stR W (g2R K W) (mxl K W) (eqR K M A B Nd (g2R K W))) 26 Ge false 0
variable {sg K A B Nd : Nat → Nat} {M : Nat → Nat → Nat}
/-- what a question for a pair costs -/
def xP (sg K : Nat → Nat) (M : Nat → Nat → Nat) (a c t : Nat) : Nat := if a ≠ c ∧ ((K a = 0 ∧ 0 < oW sg a 0) ∨ (K c = 0 ∧ 0 < oW sg c 0)) then 0 else mxC (shS (oW sg a 1) (oW sg a 2) (oW sg c 1) (oW sg c 2) t) (fP M a c) (gP K a c)
theorem fP_comm (M : Nat → Nat → Nat) (a c : Nat) : fP M a c = fP M c a := by
  unfold fP
  by_cases e : a = c
  · rw [e]
  · have e2 : ¬ c = a := fun z => e z.symm
    simp only [if_neg e, if_neg e2]
    rcases Nat.lt_or_ge a c with l | l
    · have l2 : ¬ c < a := by omega
      simp only [if_pos l, if_neg l2]
    · have l1 : ¬ a < c := by omega
      have l2 : c < a := by omega
      simp only [if_neg l1, if_pos l2]
theorem gP_comm (K : Nat → Nat) (a c : Nat) : gP K a c = gP K c a := by
  unfold gP
  by_cases e : a = c
  · rw [e]
  · rw [if_neg e, if_neg fun z => e z.symm]
    omega
theorem shS_comm (a b c d t : Nat) : shS a b c d t = shS c d a b t := by
  unfold shS
  have m1 : mnN b d = mnN d b := by
    unfold mnN
    split <;> split <;> omega
  have m2 : mxN a c = mxN c a := by
    unfold mxN
    split <;> split <;> omega
  rw [m1, m2]
theorem xP_comm (sg K : Nat → Nat) (M : Nat → Nat → Nat) (a c t : Nat) : xP sg K M a c t = xP sg K M c a t := by
  unfold xP
  rw [fP_comm M a c, gP_comm K a c, shS_comm]
  by_cases e : a ≠ c ∧ ((K a = 0 ∧ 0 < oW sg a 0) ∨ (K c = 0 ∧ 0 < oW sg c 0))
  · rw [if_pos e, if_pos ⟨fun z => e.1 z.symm, e.2.symm⟩]
  · rw [if_neg e, if_neg fun z => e ⟨fun y => z.1 y.symm, z.2.symm⟩]
theorem shS_mono {a b c d b2 d2 t : Nat} (h1 : b ≤ b2) (h2 : d ≤ d2) : shS a b c d t ≤ shS a b2 c d2 t := by
  unfold shS
  have m1 : mnN b d ≤ mnN b2 d2 := by
    unfold mnN
    split <;> split <;> omega
  generalize mxN (3 * mxN a c) t = x
  omega
theorem shS_21 {a b c d t : Nat} (h1 : b ≤ 6) : shS a b c d t ≤ 21 := by
  unfold shS
  have m1 : mnN b d ≤ 6 := by
    unfold mnN
    split <;> omega
  omega
theorem mxC_ub {C f g X : Nat} (h1 : 3 * g + 2 ≤ X) (h2 : C * f + g ≤ X) (h3 : (C + 1) * f ≤ X) : mxC C f g ≤ X := by
  unfold mxC
  split <;> split <;> omega
theorem xP_x {a c t : Nat} (hA : oW sg a 1 = A a ∧ oW sg c 1 = A c) (hB : oW sg a 2 ≤ B a ∧ oW sg c 2 ≤ B c) (hN : Nd a ≤ oW sg a 0 ∧ Nd c ≤ oW sg c 0) : xP sg K M a c t ≤ xqR K M A B Nd a c t := by
  unfold xP xqR
  by_cases z : zqR K Nd a c = true
  · obtain ⟨z1, z2⟩ := zqR_t z
    rw [z, cond_true, if_pos ⟨z1, z2.elim (fun h => Or.inl ⟨h.1, by omega⟩) fun h => Or.inr ⟨h.1, by omega⟩⟩]
    exact Nat.le_refl _
  · rw [Bool.eq_false_iff.mpr z, cond_false, mqR_e, cqR_e, fqR_e, gqR_e]
    split
    · exact Nat.zero_le _
    · rw [hA.1, hA.2]
      exact mxC_C (shS_mono hB.1 hB.2)
theorem x_t0 (K : Nat → Nat) (M : Nat → Nat → Nat) (A B Nd : Nat → Nat) (a c t : Nat) : xqR K M A B Nd a c t ≤ xqR K M A B Nd a c 0 := by
  unfold xqR
  by_cases z : zqR K Nd a c = true
  · rw [z, cond_true, cond_true]; exact Nat.le_refl _
  · rw [Bool.eq_false_iff.mpr z, cond_false, cond_false, mqR_e, mqR_e, cqR_e, cqR_e]
    exact mxC_C (shS_t _ _ _ _ t)
theorem x_e {W a c t g2 : Nat} (hg : gP K a c ≤ g2) (h24 : 24 ≤ g2) (hB : B a ≤ 6) : xqR K M A B Nd a c t ≤ 3 * g2 + 2 + eqR K M A B Nd g2 a c := by
  unfold eqR
  by_cases q : 22 * fqR M a c ≤ 2 * g2
  · rw [show Nat.ble (Nat.mul 22 (fqR M a c)) (Nat.mul 2 g2) = true from Nat.ble_eq_true_of_le q, cond_true]
    rw [fqR_e] at q
    unfold xqR
    by_cases z : zqR K Nd a c = true
    · rw [z, cond_true]; exact Nat.zero_le _
    · rw [Bool.eq_false_iff.mpr z, cond_false, mqR_e, cqR_e, fqR_e, gqR_e]
      have c21 := shS_21 (a := A a) (c := A c) (d := B c) (t := t) hB
      have f1 : shS (A a) (B a) (A c) (B c) t * fP M a c ≤ 21 * fP M a c := Nat.mul_le_mul_right _ c21
      have f2 : (shS (A a) (B a) (A c) (B c) t + 1) * fP M a c ≤ 22 * fP M a c := Nat.mul_le_mul_right _ (by omega)
      exact mxC_ub (by omega) (by omega) (by omega)
  · rw [show Nat.ble (Nat.mul 22 (fqR M a c)) (Nat.mul 2 g2) = false from Bool.eq_false_iff.mpr fun z => q (Nat.le_of_ble_eq_true z), cond_false]
    have t0 := x_t0 K M A B Nd a c t
    show _ ≤ 3 * g2 + 2 + (xqR K M A B Nd a c 0 - (3 * g2 + 2))
    omega
theorem x_aa {a t g2 : Nat} (hg : gP K a a ≤ g2) (h24 : 24 ≤ g2) (hB : B a ≤ 6) : xqR K M A B Nd a a t ≤ 3 * g2 + 2 := by
  unfold xqR
  have z : zqR K Nd a a = false := by
    unfold zqR
    rw [beq_t rfl, cond_true]
  rw [z, cond_false, mqR_e, cqR_e, fqR_e, gqR_e]
  have c21 := shS_21 (a := A a) (c := A a) (d := B a) (t := t) hB
  have f : fP M a a = 1 := if_pos rfl
  rw [f]
  exact mxC_ub (by omega) (by omega) (by omega)
theorem x_hit {W a c t g2 : Nat} (h4 : W ≤ 4) (ha : a < W) (hc : c < W) (hg : ∀ a c, a < W → c < W → gP K a c ≤ g2) (h24 : 24 ≤ g2) (hA : ∀ x, x < W → oW sg x 1 = A x) (hB : ∀ x, x < W → oW sg x 2 ≤ B x) (hN : ∀ x, x < W → Nd x ≤ oW sg x 0) (hB6 : ∀ x, x < W → B x ≤ 6) : xP sg K M a c t ≤ 3 * g2 + 2 + hitW W (eqR K M A B Nd g2) a c := by
  by_cases e : a = c
  · subst e
    have q1 := xP_x (K := K) (M := M) (A := A) (B := B) (Nd := Nd) (t := t) ⟨hA a ha, hA a ha⟩ ⟨hB a ha, hB a ha⟩ ⟨hN a ha, hN a ha⟩
    have q2 := x_aa (K := K) (M := M) (A := A) (B := B) (Nd := Nd) (t := t) (hg a a ha ha) h24 (hB6 a ha)
    omega
  · rcases Nat.lt_or_ge a c with l | l
    · have q1 := xP_x (K := K) (M := M) (A := A) (B := B) (Nd := Nd) (t := t) ⟨hA a ha, hA c hc⟩ ⟨hB a ha, hB c hc⟩ ⟨hN a ha, hN c hc⟩
      have q2 := x_e (W := W) (K := K) (M := M) (A := A) (B := B) (Nd := Nd) (t := t) (hg a c ha hc) h24 (hB6 a ha)
      have q3 := (hit_le (eqR K M A B Nd g2) h4 l hc).1
      omega
    · rw [xP_comm]
      have q1 := xP_x (K := K) (M := M) (A := A) (B := B) (Nd := Nd) (t := t) ⟨hA c hc, hA a ha⟩ ⟨hB c hc, hB a ha⟩ ⟨hN c hc, hN a ha⟩
      have q2 := x_e (W := W) (K := K) (M := M) (A := A) (B := B) (Nd := Nd) (t := t) (hg c a hc ha) h24 (hB6 c hc)
      have q3 := (hit_le (eqR K M A B Nd g2) h4 (show c < a by omega) ha).2
      omega
theorem qP_x (sg K : Nat → Nat) (M : Nat → Nat → Nat) (a c w t : Nat) : qP sg K M a c w t = xP sg K M a c t + 1 + K w := rfl
theorem su_mem {f : Nat → Nat} : ∀ {n i}, i < n → f i ≤ su f n
  | 0, _, h => absurd h (Nat.not_lt_zero _)
  | n + 1, i, h => by
    rw [su_s]
    by_cases e : i = n
    · rw [e]; omega
    · have := su_mem (f := f) (show i < n by omega)
      omega
theorem chk_g {W d Ge : Nat} {ct : Nat → Nat} {okf : Nat → Nat → Nat → Nat} (h3 : sg 3 = W) (hW : 1 ≤ W ∧ W ≤ 4) (h0 : sg 0 = d) (hd : 1 ≤ d) (h2 : 1 ≤ sg 2 ∧ sg 2 ≤ 8) (hK : KBn sg K) (hM : MBn sg M) (hA : ∀ x, x < W → oW sg x 1 = A x) (hB : ∀ x, x < W → oW sg x 2 ≤ B x) (hN : ∀ x, x < W → Nd x ≤ oW sg x 0) (hB6 : ∀ x, x < W → B x ≤ 6) (ho : OkS sg okf) (h : wkR K M A B Nd okf W d Ge = true) : stS sg (plC ct, Ge) 26 ≤ 149400 := by
  have g2 := g2R_le (K := K) (W := W)
  unfold wkR at h
  have hk1 : ∀ w, w < W → K w ≤ mxl K W := fun w hw => mxl_le hw
  generalize g2R K W = G2 at g2 h
  generalize mxl K W = k1 at hk1 h
  refine room_W (K := K) (M := M) (g2 := G2) (k1 := k1) (f2 := su (fun a => su (fun c => fP M a c) W) W) (bA := 3 * G2 + 2 + 1 + k1) (hit := hitW W (eqR K M A B Nd G2)) (base := (2 * G2 + 2) + (3 * G2 + 2 + 1 + k1)) (den := 32) (lam := lamW W (eqR K M A B Nd G2)) (ph := phZ W (eqR K M A B Nd G2)) (gf := gfR K) (qf := qfR K M A B Nd) (okf := okf) h3 (show 3 * sg 0 = 3 * d by rw [h0]) hW.1 h2 (by omega) hK hM (by rw [h3]; exact g2.2) (by
    rw [h3]
    intro a c ha hc
    have q1 := su_mem (f := fun c => fP M a c) hc
    have q2 := su_mem (f := fun a => su (fun c => fP M a c) W) ha
    exact Nat.le_trans q1 q2) (by rw [h3]; exact hk1) ?_ ?_ (by omega) rfl (by rw [phZ_e]; exact potW h3 _) ho h
  · rw [h3]
    intro a c w t ha hc hw ht
    rw [qP_x]
    have q1 := xP_x (K := K) (M := M) (A := A) (B := B) (Nd := Nd) (t := t) ⟨hA a ha, hA c hc⟩ ⟨hB a ha, hB c hc⟩ ⟨hN a ha, hN c hc⟩
    have q2 := x_hit (K := K) (M := M) (A := A) (B := B) (Nd := Nd) (t := t) hW.2 ha hc g2.2 g2.1 hA hB hN hB6
    have q3 := hk1 w hw
    refine ⟨?_, by omega⟩
    unfold qfR
    rw [fzN_e, fzN_e, fzN_e, fzN_e]
    show _ ≤ xqR K M A B Nd a c t + 1 + K w
    omega
  · rw [h3]
    intro a c ha hc
    unfold gfR
    rw [fzN_e, fzN_e, gqR_e]
    exact Nat.le_refl _
/-- nothing known of the first service -/
theorem OkS_2 (sg : Nat → Nat) : OkS sg (fun _ _ _ => 2) := fun _ _ _ _ _ => ⟨Nat.le_refl _, fun z => absurd (show (2 : Nat) = 0 from z) (by omega), fun z => absurd (show (2 : Nat) = 1 from z) (by omega)⟩
/-- safe at once -/
theorem chk_s {W d Ge : Nat} {ct : Nat → Nat} (h3 : sg 3 = W) (hW : 1 ≤ W ∧ W ≤ 4) (h0 : sg 0 = d) (hd : 1 ≤ d) (h2 : 1 ≤ sg 2 ∧ sg 2 ≤ 8) (hK : KBn sg K) (hM : MBn sg M) (hA : ∀ x, x < W → oW sg x 1 = A x) (hB : ∀ x, x < W → oW sg x 2 ≤ B x) (hN : ∀ x, x < W → Nd x ≤ oW sg x 0) (hB6 : ∀ x, x < W → B x ≤ 6) (h : stR W (g2R K W) (mxl K W) (eqR K M A B Nd (g2R K W)) 26 Ge false 0 = true) : stS sg (plC ct, Ge) 26 ≤ 149400 := by
  refine chk_g (okf := fun _ _ _ => 2) h3 hW h0 hd h2 hK hM hA hB hN hB6 (OkS_2 sg) ?_
  unfold wkR
  rw [Wk_s 149400 W (Nat.mul 3 d) _ _ _ _ _ _ 25, show (25 : Nat) + 1 = 26 from rfl, h]; rfl
/-- pairs that cost little -/
theorem stp_u {base th Ge n : Nat} (h : n * base ≤ th) : stpW 32 base 0 th (fun _ _ => 0) n Ge false 0 = true := by
  refine Nat.ble_eq_true_of_le ?_
  show 32 * 0 + (n * (32 * base + 0) + 0) ≤ 32 * th
  rw [Nat.mul_zero, Nat.zero_add, Nat.add_zero, Nat.add_zero, Nat.mul_left_comm]
  exact Nat.mul_le_mul_left _ h
theorem chk_pg {W d Ge G X k1 : Nat} {ct : Nat → Nat} (h3 : sg 3 = W) (hW : 1 ≤ W ∧ W ≤ 4) (h0 : sg 0 = d) (hd : 1 ≤ d) (h2 : 1 ≤ sg 2 ∧ sg 2 ≤ 8) (hK : KBn sg K) (hM : MBn sg M) (hg : ∀ a c, a < W → c < W → gP K a c ≤ G) (hx : ∀ a c t, a < W → c < W → xP sg K M a c t ≤ X) (hk1 : ∀ w, w < W → K w ≤ k1) (hs : 26 * ((2 * G + 2) + (X + 1 + k1)) ≤ 149400) : stS sg (plC ct, Ge) 26 ≤ 149400 := by
  refine room_W (K := K) (M := M) (g2 := G) (k1 := k1) (f2 := su (fun a => su (fun c => fP M a c) W) W) (bA := X + 1 + k1) (hit := fun _ _ => 0) (base := (2 * G + 2) + (X + 1 + k1)) (den := 32) (lam := 0) (ph := fun _ _ => 0) (gf := fun _ _ => 2 * G + 2) (qf := fun _ _ _ _ => X + 1 + k1) (okf := fun _ _ _ => 2) h3 (show 3 * sg 0 = 3 * d by rw [h0]) hW.1 h2 (by omega) hK hM (by rw [h3]; exact hg) (by
    rw [h3]
    intro a c ha hc
    have q1 := su_mem (f := fun c => fP M a c) hc
    have q2 := su_mem (f := fun a => su (fun c => fP M a c) W) ha
    exact Nat.le_trans q1 q2) (by rw [h3]; exact hk1) ?_ ?_ (by omega) rfl (PotP.zero sg 32) (OkS_2 sg) ?_
  · rw [h3]
    intro a c w t ha hc hw ht
    rw [qP_x]
    have q1 := hx a c t ha hc
    have q3 := hk1 w hw
    show _ ≤ X + 1 + k1 ∧ _ ≤ X + 1 + k1 + 0
    omega
  · rw [h3]
    intro a c ha hc
    have := hg a c ha hc
    show _ ≤ 2 * G + 2
    omega
  · rw [Wk_s 149400 W (3 * d) _ _ _ _ _ _ 25, stp_u (n := 25 + 1) hs]; rfl
theorem chk_p {W d Ge : Nat} {ct : Nat → Nat} (h3 : sg 3 = W) (hW : 1 ≤ W ∧ W ≤ 4) (h0 : sg 0 = d) (hd : 1 ≤ d) (h2 : 1 ≤ sg 2 ∧ sg 2 ≤ 8) (hK : KBn sg K) (hM : MBn sg M) (hg : ∀ a c, a < W → c < W → gP K a c ≤ 500) (hx : ∀ a c t, a < W → c < W → xP sg K M a c t ≤ 4243) : stS sg (plC ct, Ge) 26 ≤ 149400 := by
  refine chk_pg (k1 := 499) h3 hW h0 hd h2 hK hM hg hx (fun w hw => ?_) (by omega)
  have q := hg w w hw hw
  have e : gP K w w = 1 + K w := if_pos rfl
  omega
end CHH
