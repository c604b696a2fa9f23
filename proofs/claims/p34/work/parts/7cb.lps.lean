/-! THE ROOM: three kinds: a start whose pairs cost little is safe -/
section PSF
theorem isI_l (N : Nat → Nat) (k : Nat) (l : List Nat) : (isI N k l).length = l.length + 1 := by
  have q := (isI_p N k l).length_eq
  rw [← q]; rfl
theorem ffP_840 : ∀ P, P ≤ 7 → ∀ n, n ≤ 4 → ffP P n ≤ 840 := by decide
theorem Kc_840 {N P q : Nat} {l : List Nat} (hb : Bd N q) (hq : q ≤ 7) (hP : P ≤ 7) (hl : l.length ≤ 4) (hm : ∀ x, x ∈ l → x < 4) : Kc N P (cdl l) ≤ 840 := by
  unfold Kc
  rw [UlR_e _ hb hq fun x hx => LsR_4 hx, LsR_e]
  have e : (Ls N (cdl l)).length = l.length := by
    have p := ((uls_perm l (by omega) hm).trans (isS_p (un N) _)).length_eq
    exact p.symm
  have u := Ul_P (Ls N (cdl l)) (un N) P
  rw [e] at u
  exact Nat.le_trans u (ffP_840 P hP _ hl)
variable {sg : Nat → Nat}
theorem Pok_s {T c P N j d : Nat} (hc : T % 1024 = c) (hs : PSy T P 3 N j) (hP : 1 ≤ P ∧ P ≤ 7) (hd : 1 ≤ d ∧ d ≤ 7) (h : WcR c (j + 1) ≠ 1 → Pok T c (j + 1) N P (WcR c (j + 1))) : SafeD T P d := by
  intro sg ct Ge hS
  obtain ⟨⟨r0, r2, r3⟩, rN, rW, rA, rG⟩ := SeR_T hc hs hS
  have lw := SeR_LWc hc hs (show 1 ≤ 3 by omega) hS (cw := cw3 T c (j + 1)) (fun w _ => rfl)
  have hb := hs.2.1
  have hK := Kc_ok lw rN r2 hP.2 hb
  have hM := Mc_ok lw rN r2 hP.2 hb
  have w4 := Wc_le c (j + 1)
  have hB6 : ∀ x, x < WcR c (j + 1) → oW sg x 2 ≤ 6 := fun x hx => by
    rw [(rW x hx).2.2]
    exact (laC_d c (j + 1) x hd.2).2
  have k840 : ∀ w, Kc N P (cw3 T c (j + 1) w) ≤ 840 := fun w => by
    have l := lnC_le c (j + 1) w
    rw [lnC_e] at l
    exact Kc_840 hb hP.2 hP.2 (by rw [sts_l]; exact l.2) (fun x hx => Nat.lt_of_lt_of_le (sts_mem (show 1 ≤ 3 by omega) _ x hx) (by omega))
  generalize hW : WcR c (j + 1) = W at h r3 rW w4 hB6
  by_cases w1 : W = 1
  · have aa : ∀ a x : Nat, a < W → x < W → a = x := fun a x ha hx => by omega
    refine chk_pg (G := 841) (X := 2525) (k1 := 840) r3 w4 r0 hd.1 (by omega) hK hM (fun a x ha hx => ?_) (fun a x t ha hx => ?_) (fun w _ => k840 w) (by omega)
    · have e := aa a x ha hx
      subst e
      have g : gP (fun w => Kc N P (cw3 T c (j + 1) w)) a a = 1 + Kc N P (cw3 T c (j + 1) a) := if_pos rfl
      have := k840 a
      omega
    · have e := aa a x ha hx
      subst e
      unfold xP
      rw [if_neg fun z => z.1 rfl]
      have c21 := shS_21 (a := oW sg a 1) (c := oW sg a 1) (d := oW sg a 2) (t := t) (hB6 a ha)
      have f : fP (fun a c_1 => Mc N P (cw3 T c (j + 1) a) (cw3 T c (j + 1) c_1)) a a = 1 := if_pos rfl
      have g : gP (fun w => Kc N P (cw3 T c (j + 1) w)) a a = 1 + Kc N P (cw3 T c (j + 1) a) := if_pos rfl
      rw [f, g]
      have := k840 a
      exact mxC_ub (by omega) (by omega) (by omega)
  · have h := h w1
    -- one pair
    have one : ∀ a b, a < W → b < W → a ≠ b → 182 < Kc N P (cw3 T c (j + 1) a) → Kc N P (cw3 T c (j + 1) a) + Kc N P (cw3 T c (j + 1) b) + 2 ≤ 500 ∧ ∀ t, xP sg (fun w => Kc N P (cw3 T c (j + 1) w)) (fun a c_1 => Mc N P (cw3 T c (j + 1) a) (cw3 T c (j + 1) c_1)) a b t ≤ 4243 := fun a b ha hb' hab hk => by
      rcases h a b ha hb' hab hk with q | ⟨q, nd⟩
      · obtain ⟨q1, q2⟩ := dp_0 q
        refine ⟨q1, fun t => ?_⟩
        have x1 := xP_x (sg := sg) (K := fun w => Kc N P (cw3 T c (j + 1) w)) (M := fun a c_1 => Mc N P (cw3 T c (j + 1) a) (cw3 T c (j + 1) c_1)) (A := fiC c (j + 1)) (B := laC c (j + 1) 7) (Nd := fun _ => 0) (a := a) (c := b) (t := t) ⟨(rW a ha).2.1, (rW b hb').2.1⟩ ⟨by rw [(rW a ha).2.2]; exact (laC_d c (j + 1) a hd.2).1, by rw [(rW b hb').2.2]; exact (laC_d c (j + 1) b hd.2).1⟩ ⟨Nat.zero_le _, Nat.zero_le _⟩
        have x2 := x_t0 (fun w => Kc N P (cw3 T c (j + 1) w)) (fun a c_1 => Mc N P (cw3 T c (j + 1) a) (cw3 T c (j + 1) c_1)) (fiC c (j + 1)) (laC c (j + 1) 7) (fun _ => 0) a b t
        have x3 : xqR (fun w => Kc N P (cw3 T c (j + 1) w)) (fun a c_1 => Mc N P (cw3 T c (j + 1) a) (cw3 T c (j + 1) c_1)) (fiC c (j + 1)) (laC c (j + 1) 7) (fun _ => 0) a b 0 ≤ 4243 := by
          unfold xqR
          by_cases z : zqR (fun w => Kc N P (cw3 T c (j + 1) w)) (fun _ => 0) a b = true
          · rw [z, cond_true]; exact Nat.zero_le _
          · rw [Bool.eq_false_iff.mpr z, cond_false]
            have f : fqR (fun a c_1 => Mc N P (cw3 T c (j + 1) a) (cw3 T c (j + 1) c_1)) a b = 2 + (bif Nat.blt a b then Mc N P (cw3 T c (j + 1) a) (cw3 T c (j + 1) b) else Mc N P (cw3 T c (j + 1) b) (cw3 T c (j + 1) a)) := by
              unfold fqR
              rw [beq_f hab, cond_false]; rfl
            have g : gqR (fun w => Kc N P (cw3 T c (j + 1) w)) a b = Kc N P (cw3 T c (j + 1) a) + Kc N P (cw3 T c (j + 1) b) + 2 := by
              unfold gqR
              rw [beq_f hab, cond_false]
              show 1 + Kc N P (cw3 T c (j + 1) a) + (1 + Kc N P (cw3 T c (j + 1) b)) = _
              omega
            rw [f, g]
            exact q2
        exact Nat.le_trans x1 (Nat.le_trans x2 x3)
      · obtain ⟨q1, q2⟩ := dp_1 q
        refine ⟨q1, fun t => ?_⟩
        unfold xP
        rw [if_pos ⟨hab, Or.inr ⟨q2, by rw [(rW b hb').1]; exact nd⟩⟩]
        exact Nat.zero_le _
    refine chk_p r3 w4 r0 hd.1 (by omega) hK hM (fun a x ha hx => ?_) (fun a x t ha hx => ?_)
    · by_cases e : a = x
      · subst e
        have g : gP (fun w => Kc N P (cw3 T c (j + 1) w)) a a = 1 + Kc N P (cw3 T c (j + 1) a) := if_pos rfl
        rw [g]
        by_cases k : 182 < Kc N P (cw3 T c (j + 1) a)
        · have b : ∃ b, b < W ∧ a ≠ b := by
            by_cases a0 : a = 0
            · exact ⟨1, by omega, by omega⟩
            · exact ⟨0, by omega, a0⟩
          obtain ⟨b, b1, b2⟩ := b
          have q := (one a b ha b1 b2 k).1
          omega
        · omega
      · have g : gP (fun w => Kc N P (cw3 T c (j + 1) w)) a x = (1 + Kc N P (cw3 T c (j + 1) a)) + (1 + Kc N P (cw3 T c (j + 1) x)) := if_neg e
        rw [g]
        by_cases k : 182 < Kc N P (cw3 T c (j + 1) a)
        · have q := (one a x ha hx e k).1
          omega
        · by_cases k2 : 182 < Kc N P (cw3 T c (j + 1) x)
          · have q := (one x a hx ha (fun z => e z.symm) k2).1
            omega
          · omega
    · by_cases k : 182 < Kc N P (cw3 T c (j + 1) a)
      · by_cases e : a = x
        · subst e
          refine xP_aa (hB6 a ha) ?_
          have b : ∃ b, b < W ∧ a ≠ b := by
            by_cases a0 : a = 0
            · exact ⟨1, by omega, by omega⟩
            · exact ⟨0, by omega, a0⟩
          obtain ⟨b, b1, b2⟩ := b
          have q := (one a b ha b1 b2 k).1
          have g : gP (fun w => Kc N P (cw3 T c (j + 1) w)) a a = 1 + Kc N P (cw3 T c (j + 1) a) := if_pos rfl
          omega
        · exact (one a x ha hx e k).2 t
      · by_cases k2 : 182 < Kc N P (cw3 T c (j + 1) x)
        · rw [xP_comm]
          exact (one x a hx ha (fun z => k (by rw [← z]; exact k2)) k2).2 t
        · refine xP_s (hB6 a ha) (by show Kc N P (cw3 T c (j + 1) a) ≤ 182; omega) (by show Kc N P (cw3 T c (j + 1) x) ≤ 182; omega) (fP_s (X := 182) ?_ ?_)
          · show Mc N P _ _ ≤ 182
            rw [Mc_s (by omega)]; omega
          · show Mc N P _ _ ≤ 182
            rw [Mc_s (by omega)]; omega
end PSF
