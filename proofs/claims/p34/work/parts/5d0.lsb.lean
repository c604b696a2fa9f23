/-! THE JDK'S StringBuilder holds a text -/
/-- all but the builder, its bytes and other bytes behind it stays -/
def FrB (a : Nat) (M M' : Mm) : Prop := zn M ≤ zn M' ∧ ∀ b, b < zn M → (b < a ∨ (b ≠ a ∧ zk M b ≠ 9)) → SM b M M'
theorem FrB.rf {a : Nat} {M : Mm} : FrB a M M := ⟨Nat.le_refl _, fun _ _ _ => ⟨rfl, rfl, rfl, rfl, rfl⟩⟩
theorem FrB.trans {a : Nat} {M M1 M2 : Mm} (h : FrB a M M1) (k : FrB a M1 M2) : FrB a M M2 := by
  refine ⟨Nat.le_trans h.1 k.1, fun b hb hn => ?_⟩
  obtain ⟨a1, a2, a3, a4, a5⟩ := h.2 b hb hn
  obtain ⟨b1, b2, b3, b4, b5⟩ := k.2 b (Nat.lt_of_lt_of_le hb h.1) (by rw [a1]; exact hn)
  exact ⟨b1.trans a1, b2.trans a2, b3.trans a3, b4.trans a4, b5.trans a5⟩
theorem FrG.b {a : Nat} {M M' : Mm} (f : FrG a (a + 1) M M') : FrB a M M' := ⟨f.1, fun b hb hn => f.2 b hb (by omega)⟩
theorem FrG.nb {a lo hi : Nat} {M M' : Mm} (f : FrG lo hi M M') (h : zn M ≤ lo) : FrB a M M' := ⟨f.1, fun b hb hn => f.2 b hb (by omega)⟩
/-- the builder at a, its bytes at v, its text -/
def SBv (a v : Nat) (tx : List Nat) (M : Mm) : Prop := (zk M a = 16 ∧ zR M a 0 = some v ∧ zI M a 1 = nI 0 ∧ zI M a 3 = nI tx.length) ∧ (zk M v = 9 ∧ tx.length ≤ zl M v ∧ zl M v ≤ 1300 ∧ a < v ∧ v < zn M) ∧ (∀ j, j < zl M v → ∃ k, k < 128 ∧ zI M v j = nI k) ∧ ∀ j, j < tx.length → zI M v j = nI (tx.getD j 0)
def SBd (a : Nat) (tx : List Nat) (M : Mm) : Prop := ∃ v, SBv a v tx M
theorem fit_b : ∀ k, k < 128 → fits .byte (.int (nI k)) = true := by decide +kernel
theorem nar_b : ∀ k, k < 128 → vp_nar .byte (nI k).toInt8.toInt32 = nI k := by decide +kernel
theorem nar_2 : ∀ k, k < 128 → vp_nar .byte (nI k) = nI k := by decide +kernel
theorem SBv.fr {a v lo hi : Nat} {tx : List Nat} {M M' : Mm} (h : SBv a v tx M) (f : FrG lo hi M M') (hl : zn M ≤ lo) : SBv a v tx M' := by
  obtain ⟨⟨h1, h2, h3, h4⟩, ⟨g1, g2, g3, g4, g5⟩, k1, k2⟩ := h
  obtain ⟨a1, a2, a3, -, a5⟩ := f.2 a (by omega) (by omega)
  obtain ⟨b1, b2, b3, -, -⟩ := f.2 v g5 (by omega)
  exact ⟨⟨by rw [a1]; exact h1, by rw [a5]; exact h2, by rw [a3]; exact h3, by rw [a3]; exact h4⟩, ⟨by rw [b1]; exact g1, by rw [b2]; exact g2, by rw [b2]; exact g3, g4, Nat.lt_of_lt_of_le g5 f.1⟩, by rw [b2, b3]; exact k1, by rw [b3]; exact k2⟩
theorem SBv.fit {a v : Nat} {tx : List Nat} {M : Mm} (h : SBv a v tx M) {j : Nat} (hj : j < zl M v) : fits .byte (.int (zI M v j)) = true := by
  obtain ⟨k, h1, h2⟩ := h.2.2.1 j hj
  rw [h2]; exact fit_b k h1
theorem sh0 {n : Nat} (h : n < 2 ^ 31) : nI n >>> (nI 0 &&& 31) = nI n := by
  have e : nI n >>> (nI 0 &&& 31) = nI n >>> (nI (0 &&& 31)) := by rw [← fa_andq]; rfl
  rw [e, n_shr h (by omega), Nat.shiftRight_zero]
theorem shl0 (x : Int32) : x <<< (nI 0 &&& 31) = x := by
  have e : (nI 0 &&& (31 : Int32)) = 0 := by decide
  rw [e]
  apply Int32.toBitVec_inj.mp
  show x.toBitVec <<< ((0 : Int32).toBitVec.smod 32) = x.toBitVec
  have e2 : ((0 : Int32).toBitVec.smod 32) = 0#32 := by decide
  rw [e2]
  exact BitVec.shiftLeft_zero _
section SBu
variable {a v : Nat} {tx : List Nat} {M : Mm}
theorem s_ens (h : SBv a v tx M) {m : Nat} (hm : m ≤ 620) (P : Mm → Prop) (K : ∀ M' v', SBv a v' tx M' → m ≤ zl M' v' → FrG a (a + 1) M M' → P M') : w_J5_ensureCapacityInternal_d00df M a (nI m) P := by
  have h0 := h
  obtain ⟨⟨h1, h2, h3, h4⟩, ⟨g1, g2, g3, g4, g5⟩, k1, k2⟩ := h
  unfold w_J5_ensureCapacityInternal_d00df
  refine ⟨h1, v, h2, g1, h1, ?_⟩
  rw [h3, sh0 (by omega)]
  by_cases c : m ≤ zl M v
  · refine ifp ?_ (K M v h0 c FrG.rf)
    rw [l_0]
    by_cases e : m = zl M v
    · rw [e, n_sub (Nat.le_refl _), Nat.sub_self]; exact nI_le (Nat.le_refl _) (by omega)
    · have e1 : nI m - nI (zl M v) = -nI (zl M v - m) := by rw [← n_sub c, Int32.neg_sub]
      rw [e1, le_iff32]
      have e2 : (-nI (zl M v - m)).toInt = -((zl M v - m : Nat) : Int) := by
        rw [Int32.toInt_neg, nI_toInt (by omega)]
        exact Int.bmod_eq_of_le (by omega) (by omega)
      rw [e2]
      have : (nI 0).toInt = 0 := rfl
      omega
  · have gw : (nI (zl M v) + (if nI m - nI (zl M v) < nI (zl M v) + nI 2 then nI (zl M v) + nI 2 else nI m - nI (zl M v))) = nI (if m < 2 * zl M v + 2 then 2 * zl M v + 2 else m) := by
      rw [n_sub (by omega), nI_add]
      by_cases q : m < 2 * zl M v + 2
      · rw [if_pos q, if_pos (nI_lt (by omega) (by omega)), nI_add]; congr 1; omega
      · rw [if_neg q, if_neg (nI_nlt (by omega) (by omega)), nI_add]; congr 1; omega
    have bd : (if m < 2 * zl M v + 2 then 2 * zl M v + 2 else m) ≤ 1300 ∧ m ≤ (if m < 2 * zl M v + 2 then 2 * zl M v + 2 else m) ∧ zl M v < (if m < 2 * zl M v + 2 then 2 * zl M v + 2 else m) := by split <;> omega
    refine ifn (by rw [l_0, n_sub (by omega), n_leF (by omega) (by omega)]; exact not_false) ⟨h1, v, h2, h1, h1, v, h2, g1, h1, h1, ?_⟩
    rw [h3, shl0, shl0, show (2 : Int32) = nI 2 from rfl]
    unfold w_J8_newLength_cabcc
    rw [gw]
    generalize (if m < 2 * zl M v + 2 then 2 * zl M v + 2 else m) = N at bd
    refine ifn (by rw [l_0, n_leF (by omega) (by omega)]; exact not_false) (ifn ?_ (ifn ?_ ⟨h1, h1, ?_⟩))
    · rw [show (2147483639 : Int32) = nI 2147483639 from rfl, n_ltF (by omega) (by omega)]; exact not_false
    · rw [show (2147483647 : Int32) = nI 2147483647 from rfl, n_eqF (by omega) (by omega) (by omega)]; exact not_false
    rw [h3, sh0 (by omega), shl0]
    refine ⟨g1, ifn (by rw [n_eqF (by omega) (by omega) (by omega)]; exact not_false) ⟨by rw [l_0, n_ltF (by omega) (by omega)]; exact not_false, by rw [n_cl (by omega)]; omega, fun a1 M1 ha hM1 => ?_⟩⟩
    rw [n_cl (by omega)] at hM1
    have n1 : zn M1 = zn M + 1 := by subst hM1; rfl
    have kO : ∀ b, b < zn M → zk M1 b = zk M b := fun b hb => by subst hM1; exact kN_o (by omega)
    have lO : ∀ b, b < zn M → zl M1 b = zl M b := fun b hb => by subst hM1; exact lN_o (by omega)
    have iO : ∀ b, b < zn M → zI M1 b = zI M b := fun b hb => by subst hM1; exact iN_o (by omega)
    have rO : ∀ b, b < zn M → zR M1 b = zR M b := fun b hb => by subst hM1; exact rN_o (by omega)
    have jO : ∀ b, b < zn M → zJ M1 b = zJ M b := fun b hb => by subst hM1; funext j; exact if_neg (show ¬ b = M.1 from by have : zn M = M.1 := rfl; omega)
    have kN : zk M1 a1 = 9 ∧ zl M1 a1 = N := by subst hM1; exact ⟨kN_n ha, lN_n ha⟩
    have iN : ∀ j, zI M1 a1 j = nI 0 := fun j => by subst hM1; exact iN_n ha
    have lv : zl M1 v = zl M v := lO v g5
    have if1 : (if nI N < nI (zl M1 v) then nI N else nI (zl M1 v)) = nI (zl M v) := by rw [lv, if_neg (nI_nlt (by omega) (by omega))]
    have c0 : (0 : Int32).toNatClampNeg = 0 := rfl
    rw [if1, n_cl (show zl M v < 2 ^ 31 by omega), c0]
    refine ⟨by rw [kO v g5]; exact g1, by rw [kO v g5]; exact g1, kN.1, by decide, by decide, by rw [l_0, n_ltF (by omega) (by omega)]; exact not_false, by rw [lv]; omega, by rw [kN.2]; omega, fun i hi => ?_, fun M2 hM2 => ⟨a1, rfl, ?_, fun M7 hM7 => ?_⟩⟩
    · rw [iO v g5, Nat.zero_add]; exact h0.fit hi
    · subst hM2; show zk M1 a = 16; rw [kO a (by omega)]; exact h1
    · have i2 : ∀ b j, zI M2 b j = if b = a1 ∧ 0 ≤ j ∧ j < 0 + zl M v then zI M1 v (0 + (j - 0)) else zI M1 b j := fun b j => by subst hM2; rfl
      have k2_ : zk M2 = zk M1 := by subst hM2; rfl
      have l2_ : zl M2 = zl M1 := by subst hM2; rfl
      have r2_ : zR M2 = zR M1 := by subst hM2; rfl
      have j2_ : zJ M2 = zJ M1 := by subst hM2; rfl
      have z2_ : zn M2 = zn M1 := by subst hM2; rfl
      have i7 : zI M7 = zI M2 := by subst hM7; rfl
      have k7 : zk M7 = zk M2 := by subst hM7; rfl
      have l7 : zl M7 = zl M2 := by subst hM7; rfl
      have j7 : zJ M7 = zJ M2 := by subst hM7; rfl
      have z7 : zn M7 = zn M2 := by subst hM7; rfl
      have iA : ∀ b, b ≠ a1 → zI M7 b = zI M1 b := fun b hb => by funext j; rw [i7, i2, if_neg (fun q => hb q.1)]
      have iv : ∀ j, j < zl M v → zI M7 a1 j = zI M v j := fun j hj => by rw [i7, i2, if_pos ⟨rfl, by omega, by omega⟩, iO v g5]; congr 1; omega
      refine K M7 a1 ⟨⟨by rw [k7, k2_, kO a (by omega)]; exact h1, by subst hM7; exact zR_sR1 _ _ _ _, ?_, ?_⟩, ⟨by rw [k7, k2_]; exact kN.1, ?_, ?_, by omega, by omega⟩, fun j hj => ?_, fun j hj => ?_⟩ (by rw [l7, l2_, kN.2]; omega) ⟨by omega, fun b hb hn => ?_⟩
      · rw [iA a (by omega), iO a (by omega)]; exact h3
      · rw [iA a (by omega), iO a (by omega)]; exact h4
      · rw [l7, l2_, kN.2]; omega
      · rw [l7, l2_, kN.2]; omega
      · rw [l7, l2_, kN.2] at hj
        by_cases q : j < zl M v
        · rw [iv j q]; exact k1 j q
        · refine ⟨0, by omega, ?_⟩
          rw [i7, i2, if_neg (by omega)]; exact iN j
      · rw [iv j (by omega)]; exact k2 j hj
      · have ba : b ≠ a := by omega
        refine ⟨by rw [k7, k2_, kO b hb], by rw [l7, l2_, lO b hb], by rw [iA b (by omega), iO b hb], by rw [j7, j2_, jO b hb], ?_⟩
        subst hM7
        rw [zR_sRo _ _ _ _ ba, r2_, rO b hb]
theorem getD_l {l r : List Nat} {j : Nat} (h : j < l.length) : (l ++ r).getD j 0 = l.getD j 0 := by
  rw [List.getD_eq_getElem?_getD, List.getD_eq_getElem?_getD, List.getElem?_append_left h]
theorem getD_r {l r : List Nat} {j : Nat} (h : l.length ≤ j) : (l ++ r).getD j 0 = r.getD (j - l.length) 0 := by
  rw [List.getD_eq_getElem?_getD, List.getD_eq_getElem?_getD, List.getElem?_append_right h]
/-- bytes laid behind the text, the number counted up -/
theorem SBv.put (h : SBv a v tx M) {w : List Nat} (hw : ∀ k, k ∈ w → k < 128) (hc : tx.length + w.length ≤ zl M v) {M2 : Mm} (z2 : zn M2 = zn M) (k2 : zk M2 = zk M) (l2 : zl M2 = zl M) (j2 : zJ M2 = zJ M) (r2 : zR M2 = zR M) (i2 : ∀ b, b ≠ v → zI M2 b = zI M b) (i3 : ∀ j, zI M2 v j = if tx.length ≤ j ∧ j < tx.length + w.length then nI (w.getD (j - tx.length) 0) else zI M v j) : SBv a v (tx ++ w) (sI M2 a 3 (nI (tx.length + w.length))) ∧ FrB a M (sI M2 a 3 (nI (tx.length + w.length))) := by
  obtain ⟨⟨h1, h2, h3, h4⟩, ⟨g1, g2, g3, g4, g5⟩, k1, k3⟩ := h
  have av : a ≠ v := by omega
  have iv : zI (sI M2 a 3 (nI (tx.length + w.length))) v = zI M2 v := zI_sIo _ _ _ _ (fun e => av e.symm)
  refine ⟨⟨⟨by show zk M2 a = 16; rw [k2]; exact h1, by show zR M2 a 0 = _; rw [r2]; exact h2, by rw [zI_sI2 _ _ _ _ (by omega), i2 a av]; exact h3, by rw [zI_sI1, List.length_append]⟩, ⟨by show zk M2 v = 9; rw [k2]; exact g1, by show _ ≤ zl M2 v; rw [l2, List.length_append]; exact hc, by show zl M2 v ≤ _; rw [l2]; exact g3, g4, by show v < zn M2; rw [z2]; exact g5⟩, fun j hj => ?_, fun j hj => ?_⟩, by show zn M ≤ zn M2; omega, fun b hb hn => ?_⟩
  · have hj : j < zl M v := by rw [← l2]; exact hj
    rw [iv, i3 j]
    by_cases q : tx.length ≤ j ∧ j < tx.length + w.length
    · rw [if_pos q]
      refine ⟨_, hw _ ?_, rfl⟩
      rw [List.getD_eq_getElem?_getD, List.getElem?_eq_getElem (show j - tx.length < w.length by omega)]
      exact List.getElem_mem _
    · rw [if_neg q]; exact k1 j hj
  · rw [List.length_append] at hj
    rw [iv, i3 j]
    by_cases q : j < tx.length
    · rw [if_neg (by omega), getD_l q]; exact k3 j q
    · rw [if_pos (by omega), getD_r (by omega)]
  · have ba : b ≠ a := by omega
    have bv : b ≠ v := by
      rcases hn with q | q
      · omega
      · intro e; rw [e] at q; exact q.2 g1
    refine ⟨by show zk M2 b = _; rw [k2], by show zl M2 b = _; rw [l2], by rw [zI_sIo _ _ _ _ ba, i2 b bv], by show zJ M2 b = _; rw [j2], by show zR M2 b = _; rw [r2]⟩
/-- a char -/
theorem s_appC (h : SBd a tx M) {k : Nat} (hk : k < 128) (hn : tx.length ≤ 600) (P : Option Nat → Mm → Prop) (K : ∀ M', SBd a (tx ++ [k]) M' → FrB a M M' → P (some a) M') : w_J4_append_cf468 M a (nI k) P := by
  obtain ⟨v, h⟩ := h
  have h0 := h
  obtain ⟨⟨h1, h2, h3, h4⟩, -⟩ := h
  unfold w_J4_append_cf468 w_J5_append_3fe6f
  refine ⟨h1, h1, h1, ?_⟩
  rw [h4, l_1, nI_add]
  refine s_ens h0 (by omega) _ fun M1 v1 s1 c1 f1 => ?_
  have s0 := s1
  obtain ⟨⟨h1, h2, h3, h4⟩, ⟨g1, g2, g3, g4, g5⟩, -, -⟩ := s1
  unfold w_J5_isLatin1_aae02
  refine ⟨h1, h1, ifp h3 ⟨Or.inr rfl, ifn (by decide) ?_⟩⟩
  unfold w_J1_canEncode_fc78d
  refine ifn (by rw [l_255, n_ltF (by omega) (by omega)]; exact not_false) ⟨Or.inr rfl, ifn (by decide) ⟨h1, v1, h2, h1, h1, fun M15 hM15 => ?_⟩⟩
  rw [h4, nI_add] at hM15
  rw [h4, nar_b k hk]
  refine ⟨by subst hM15; exact g1, by subst hM15; show vp_in _ (zl M1 v1); exact vp_in_nI (by omega) (by omega), fun M16 hM16 => ⟨a, rfl, ?_⟩⟩
  rw [n_cl (by omega)] at hM16
  obtain ⟨q1, q2⟩ := s0.put (w := [k]) (fun y hy => by rw [List.mem_singleton] at hy; omega) (show tx.length + 1 ≤ zl M1 v1 by omega) (M2 := sI M1 v1 tx.length (nI k)) rfl rfl rfl rfl rfl (fun b hb => zI_sIo _ _ _ _ hb) (fun j => by
    by_cases e : j = tx.length
    · rw [e, zI_sI1, if_pos ⟨Nat.le_refl _, Nat.lt_succ_self _⟩, Nat.sub_self]; rfl
    · rw [zI_sI2 _ _ _ _ e, if_neg (by rw [List.length_singleton]; omega)])
  have e16 : M16 = sI (sI M1 v1 tx.length (nI k)) a 3 (nI (tx.length + [k].length)) := by
    subst hM16 hM15
    unfold sI
    refine congrArg (fun z => (M1.1, M1.2.1, M1.2.2.1, z, M1.2.2.2.2.1, M1.2.2.2.2.2)) ?_
    funext b j
    show (if b = v1 ∧ j = tx.length then nI k else if b = a ∧ j = 3 then nI (tx.length + 1) else zI M1 b j) = (if b = a ∧ j = 3 then nI (tx.length + 1) else if b = v1 ∧ j = tx.length then nI k else zI M1 b j)
    by_cases x1 : b = v1 ∧ j = tx.length
    · rw [if_pos x1, if_neg (by omega), if_pos x1]
    · rw [if_neg x1, if_neg x1]
  rw [e16]
  exact K _ ⟨v1, q1⟩ (f1.b.trans q2)
end SBu
