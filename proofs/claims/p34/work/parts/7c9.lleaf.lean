/-! THE ROOM: the ends of the players: what is safe by its class; pairs of works that are not -/
section LEA
noncomputable def lfC (c P kc N e W : Nat) : Bool := bif Nat.ble (mxl (kfR N P (cwC c kc e)) W) 182 then true else stR W (g2R (kfR N P (cwC c kc e)) W) (mxl (kfR N P (cwC c kc e)) W) (eqR (kfR N P (cwC c kc e)) (mfR N P (cwC c kc e)) (fiC c e) (laC c e 7) (fun _ => 0) (g2R (kfR N P (cwC c kc e)) W)) 26 (lo c (jgk c e W P)) false 0
variable {sg K A B Nd : Nat → Nat} {M : Nat → Nat → Nat}
theorem xP_s {a c t : Nat} (hB : oW sg a 2 ≤ 6) (ha : K a ≤ 182) (hc : K c ≤ 182) (hM : fP M a c ≤ 184) : xP sg K M a c t ≤ 4243 := by
  unfold xP
  split
  · exact Nat.zero_le _
  · have c21 := shS_21 (a := oW sg a 1) (c := oW sg c 1) (d := oW sg c 2) (t := t) hB
    have g : gP K a c ≤ 366 := by
      unfold gP
      split <;> omega
    have f1 : shS (oW sg a 1) (oW sg a 2) (oW sg c 1) (oW sg c 2) t * fP M a c ≤ 21 * 184 := Nat.mul_le_mul c21 hM
    have f2 : (shS (oW sg a 1) (oW sg a 2) (oW sg c 1) (oW sg c 2) t + 1) * fP M a c ≤ 22 * 184 := Nat.mul_le_mul (by omega) hM
    exact mxC_ub (by omega) (by omega) (by omega)
theorem gP_s {a c X : Nat} (ha : K a ≤ X) (hc : K c ≤ X) : gP K a c ≤ 2 * X + 2 := by
  unfold gP
  split <;> omega
theorem xP_aa {a t : Nat} (hB : oW sg a 2 ≤ 6) (hg : gP K a a ≤ 500) : xP sg K M a a t ≤ 4243 := by
  unfold xP
  rw [if_neg fun z => z.1 rfl]
  have c21 := shS_21 (a := oW sg a 1) (c := oW sg a 1) (d := oW sg a 2) (t := t) hB
  have f : fP M a a = 1 := if_pos rfl
  rw [f]
  exact mxC_ub (by omega) (by omega) (by omega)
theorem Mc_s {N P Ca Cc : Nat} (h : Kc N P Ca ≤ 203) : Mc N P Ca Cc = Kc N P Ca := by
  unfold Mc
  rewrite [Nat.ble_eq_true_of_le h, cond_true]
  rfl
theorem fP_s {M : Nat → Nat → Nat} {a c X : Nat} (h1 : M a c ≤ X) (h2 : M c a ≤ X) : fP M a c ≤ 2 + X := by
  unfold fP
  split
  · omega
  · split <;> omega
theorem stR_m {W g2 k1 n g g' c : Nat} {e : Nat → Nat → Nat} {b : Bool} (h : g % 1024 = g' % 1024) : stR W g2 k1 e n g b c = stR W g2 k1 e n g' b c := by
  unfold stR stpW
  rw [show Nat.mod g 1024 = g % 1024 from rfl, show Nat.mod g' 1024 = g' % 1024 from rfl, h]
theorem lfC_ok {T c P kc N j d : Nat} (hc : T % 1024 = c) (hs : PSy T P kc N j) (hP : 1 ≤ P ∧ P ≤ 7) (h3 : kc ≠ 3) (hd : 1 ≤ d ∧ d ≤ 7) (h : lfC c P kc N (j + 1) (WcR c (j + 1)) = true) : SafeD T P d := by
  intro sg ct Ge hS
  have k1 := PSy_1 hP.1 hs
  obtain ⟨⟨r0, r2, r3⟩, rN, rW, rA, rG⟩ := SeR_T hc hs hS
  have lw := SeR_LWc hc hs k1 hS (cw := cwC c kc (j + 1)) (fun w _ => cwC_e hc hs.2.2 k1 h3)
  have hb := hs.2.1
  have hK := Kc_ok lw rN r2 hP.2 hb
  have hM := Mc_ok lw rN r2 hP.2 hb
  have w4 := Wc_le c (j + 1)
  unfold lfC at h
  by_cases s : mxl (kfR N P (cwC c kc (j + 1))) (WcR c (j + 1)) ≤ 182
  · clear h
    rw [kfR_e] at s
    have kl : ∀ x, x < WcR c (j + 1) → Kc N P (cwC c kc (j + 1) x) ≤ 182 := fun x hx => Nat.le_trans (mxl_le (f := fun w => Kc N P (cwC c kc (j + 1) w)) hx) s
    refine chk_p r3 w4 r0 hd.1 (by omega) hK hM (fun a x ha hx => ?_) (fun a x t ha hx => ?_)
    · have q1 := kl a ha
      have q2 := kl x hx
      exact Nat.le_trans (gP_s (K := fun w => Kc N P (cwC c kc (j + 1) w)) q1 q2) (by omega)
    · have q1 := kl a ha
      have q2 := kl x hx
      refine xP_s (by rw [(rW a ha).2.2]; exact (laC_d c (j + 1) a hd.2).2) q1 q2 (fP_s (X := 182) ?_ ?_)
      · show Mc N P _ _ ≤ 182
        rw [Mc_s (by omega)]; exact q1
      · show Mc N P _ _ ≤ 182
        rw [Mc_s (by omega)]; exact q2
  · rw [show Nat.ble (mxl (kfR N P (cwC c kc (j + 1))) (WcR c (j + 1))) 182 = false from Bool.eq_false_iff.mpr fun z => s (Nat.le_of_ble_eq_true z), cond_false] at h
    rw [← kfR_e] at hK
    rw [← mfR_e] at hM
    refine chk_s (K := kfR N P (cwC c kc (j + 1))) (M := mfR N P (cwC c kc (j + 1))) (A := fiC c (j + 1)) (B := laC c (j + 1) 7) (Nd := fun _ => 0) r3 w4 r0 hd.1 (by omega) hK hM (fun x hx => (rW x hx).2.1) (fun x hx => by rw [(rW x hx).2.2]; exact (laC_d c (j + 1) x hd.2).1) (fun x _ => Nat.zero_le _) (fun x _ => (laC_d c (j + 1) x (show 7 ≤ 7 by omega)).2) ?_
    refine (stR_m ?_).trans h
    rw [rG, lo_e hc, ← lo_e hc, Nat.mod_mod]
/-- the seats of a work over three kinds, as masks -/
def sm1 (n t y i : Nat) (ih : Nat → Nat) (C v : Nat) : Nat := bif Nat.beq (unR C v) 0 then 0 else fzN (Nat.sub C (Nat.pow 8 v)) fun C2 => fzN (Nat.add (Nat.add y 6) i) fun q => Nat.land (ih C2) (dmk n (ajr q) (tjr t q) v)
def smk (n t y i : Nat) : Nat → Nat := Nat.rec (motive := fun _ => Nat → Nat) (fun C => bif Nat.beq C 0 then fulN (Nat.mul 24 n) else 0) (fun i ih C => Nat.lor (sm1 n t y i ih C 0) (Nat.lor (sm1 n t y i ih C 1) (sm1 n t y i ih C 2))) i
theorem smk_s (n t y i C : Nat) : smk n t y (i + 1) C = sm1 n t y i (smk n t y i) C 0 ||| (sm1 n t y i (smk n t y i) C 1 ||| sm1 n t y i (smk n t y i) C 2) := rfl
theorem smk_ok {n t y k : Nat} (hn : n ≤ 32768) (ht : t < 4294967296) (hk : k < 24 * n) : ∀ i, i ≤ 4 → (smk n t y i (cdl (sts (nxn (Tk t k) (y + 5)) 3 i))).testBit k = true
  | 0, _ => by
    show (fulN (24 * n)).testBit k = true
    rw [fulN_tb, decide_eq_true hk]
  | i + 1, hi => by
    have ih := smk_ok hn ht hk (y := y) i (by omega)
    have hm : ∀ x, x ∈ sts (nxn (Tk t k) (y + 5)) 3 i → x < 4 := fun x hx => Nat.lt_of_lt_of_le (sts_mem (show 1 ≤ 3 by omega) _ x hx) (by omega)
    have hb := Bd_cdl (sts (nxn (Tk t k) (y + 5)) 3 i) (by rw [sts_l]; omega) hm
    rw [sts_l] at hb
    have e : cdl (sts (nxn (Tk t k) (y + 5)) 3 (i + 1)) = cdl (sts (nxn (Tk t k) (y + 5)) 3 i) + 8 ^ dvr (nxn (Tk t k) (y + 6 + i)) 3 := by
      show cdl (sts (nxn (Tk t k) (y + 5)) 3 i ++ [drw (nxn (nxn (Tk t k) (y + 5)) i) 3]) = _
      rw [cdl_app, nxn_add, show y + 6 + i = y + 5 + i + 1 by omega]; rfl
    rw [e]
    have hv := dvr_lt (nxn (Tk t k) (y + 6 + i)) (show 1 ≤ 3 by omega)
    generalize hC : cdl (sts (nxn (Tk t k) (y + 5)) 3 i) = C at ih hb ⊢
    generalize hV : dvr (nxn (Tk t k) (y + 6 + i)) 3 = v at hv ⊢
    obtain ⟨u, -⟩ := un_add (Bd_s hb) (by omega) (show v < 4 by omega) (by have := un_le hb v (by omega); omega)
    have one : (sm1 n t y i (smk n t y i) (C + 8 ^ v) v).testBit k = true := by
      unfold sm1
      rw [unR_e, u v, if_pos rfl, beq_f (by omega), cond_false, fzN_e, fzN_e]
      show (smk n t y i (C + 8 ^ v - 8 ^ v) &&& dmk n (ajr (y + 6 + i)) (tjr t (y + 6 + i)) v).testBit k = true
      rw [Nat.add_sub_cancel, Nat.testBit_and, ih, Bool.true_and]
      refine dmk_ok hn (ajr_lt _) ?_ hv hk ?_
      · rw [tjr_e]; exact nxn_lt ht _
      · rw [Tk_n] at hV
        rw [tjr_e]; exact hV
    rw [smk_s, Nat.testBit_or, Nat.testBit_or]
    have c : v = 0 ∨ v = 1 ∨ v = 2 := by omega
    rcases c with rfl | rfl | rfl
    · rw [one, Bool.true_or]
    · rw [one, Bool.true_or, Bool.or_true]
    · rw [one, Bool.or_true, Bool.or_true]
/-- all numbers of lists of so many seats -/
def cdsL (l : Nat) : List Nat := bif Nat.beq l 1 then [1, 8, 64] else bif Nat.beq l 2 then [2, 9, 65, 16, 72, 128] else bif Nat.beq l 3 then [3, 10, 66, 17, 73, 129, 24, 80, 136, 192] else [4, 11, 67, 18, 74, 130, 25, 81, 137, 193, 32, 88, 144, 200, 256]
theorem cds_2 : ∀ C, C ∈ cdsL 1 → ∀ v, v < 3 → 8 ^ v + C ∈ cdsL 2 := by decide
theorem cds_3 : ∀ C, C ∈ cdsL 2 → ∀ v, v < 3 → 8 ^ v + C ∈ cdsL 3 := by decide
theorem cds_4 : ∀ C, C ∈ cdsL 3 → ∀ v, v < 3 → 8 ^ v + C ∈ cdsL 4 := by decide
theorem cds_1 : ∀ v, v < 3 → 8 ^ v + 0 ∈ cdsL 1 := by decide
theorem cds_mem : ∀ l : List Nat, (∀ x, x ∈ l → x < 3) → 1 ≤ l.length → l.length ≤ 4 → cdl l ∈ cdsL l.length
  | [], _, h, _ => absurd h (by show ¬ 1 ≤ 0; omega)
  | [a], hm, _, _ => cds_1 a (hm a (List.Mem.head _))
  | [a, b], hm, _, _ => cds_2 _ (cds_1 b (hm b (List.Mem.tail _ (List.Mem.head _)))) a (hm a (List.Mem.head _))
  | [a, b, x], hm, _, _ => cds_3 _ (cds_2 _ (cds_1 x (hm x (List.Mem.tail _ (List.Mem.tail _ (List.Mem.head _))))) b (hm b (List.Mem.tail _ (List.Mem.head _)))) a (hm a (List.Mem.head _))
  | [a, b, x, y], hm, _, _ => cds_4 _ (cds_3 _ (cds_2 _ (cds_1 y (hm y (List.Mem.tail _ (List.Mem.tail _ (List.Mem.tail _ (List.Mem.head _)))))) x (hm x (List.Mem.tail _ (List.Mem.tail _ (List.Mem.head _))))) b (hm b (List.Mem.tail _ (List.Mem.head _)))) a (hm a (List.Mem.head _))
  | _ :: _ :: _ :: _ :: _ :: _, _, _, h => absurd h (by
    show ¬ _ + 1 + 1 + 1 + 1 + 1 ≤ 4
    omega)
end LEA
