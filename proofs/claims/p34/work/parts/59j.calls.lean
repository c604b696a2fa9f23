/-! append -/
def sh4 (k : Nat) : Int32 := nI 24 - nI (8 * k)
def by4 (a : Int32) (k : Nat) : Int32 := vp_nar .byte (a >>> (sh4 k &&& 31)).toInt8.toInt32
def ap4 (bl : Nat) (bf : Nat → Int32) (a : Int32) (n : Nat) : Nat → Int32 := fun i => if bl ≤ i ∧ i < bl + n then by4 a (i - bl) else bf i
theorem sh4_0 : (24 : Int32) = sh4 0 := rfl
theorem sh4_4 : sh4 4 < (0 : Int32) := by decide
theorem sh4_n : ∀ k, k < 4 → ¬ sh4 k < (0 : Int32) := by decide
theorem sh4_s : ∀ k, k < 4 → sh4 k + (-8 : Int32) = sh4 (k + 1) := by decide
theorem by4_ok (a : Int32) (k : Nat) : (by4 a k).toInt8.toInt32 = by4 a k := by
  unfold by4
  rw [vp_nar_byte, Int8.toInt8_toInt32, Int8.toInt8_toInt32]
theorem ap4_ok {bl : Nat} {bf : Nat → Int32} {a : Int32} {n m : Nat} (h : ∀ i, i < bl → (bf i).toInt8.toInt32 = bf i) (hm : m ≤ bl + n) : ∀ i, i < m → (ap4 bl bf a n i).toInt8.toInt32 = ap4 bl bf a n i := by
  intro i hi
  unfold ap4
  by_cases c : bl ≤ i ∧ i < bl + n
  · rw [if_pos c, by4_ok]
  · rw [if_neg c, h i (by omega)]
/-- the buffer's bytes: field f of o counts those in a -/
def BS (o f a bl : Nat) (bf : Nat → Int32) (M : Mm) : Prop := zI M o f = nI bl ∧ ∀ i, i < bl → zI M a i = bf i
theorem BS.step {o f a bl : Nat} {bf : Nat → Int32} {M : Mm} (h : BS o f a bl bf M) (d : a ≠ o) (v : Int32) : BS o f a (bl + 1) (fun i => if i = bl then v else bf i) (sI (sI M a bl v) o f (nI (bl + 1))) := by
  refine ⟨zI_sI1 _ _ _ _, fun i hi => ?_⟩
  rw [zI_sIo _ _ _ _ d]
  show zI (sI M a bl v) a i = if i = bl then v else bf i
  by_cases c : i = bl
  · subst c; rw [zI_sI1, if_pos rfl]
  · rw [zI_sI2 _ _ _ _ c, if_neg c]; exact h.2 i (by omega)
theorem BS.ext {o f a bl : Nat} {bf bg : Nat → Int32} {M : Mm} (h : BS o f a bl bf M) (e : ∀ i, i < bl → bf i = bg i) : BS o f a bl bg M := ⟨h.1, fun i hi => (h.2 i hi).trans (e i hi)⟩
section AP
variable {M : Mm} {x bl : Nat} {bf : Nat → Int32}
theorem s_X7_appendFour {v : Int32} (k0 : zk M x = 7) (r0 : zR M x 0 = some (x + 1)) (k1 : zk M (x + 1) = 9) (l1 : zl M (x + 1) = 600) (h : BS x 7 (x + 1) bl bf M) (hb : bl + 4 ≤ 600) (P : Mm → Prop)
    (K : ∀ M', FrI (fun b => b = x ∨ b = x + 1) M M' → (∀ j, j ≠ 7 → zI M' x j = zI M x j) → BS x 7 (x + 1) (bl + 4) (ap4 bl bf v 4) M' → P M') : w_X7_appendFour M x v P := by
  unfold w_X7_appendFour
  refine lpI (fun n (z : Mm × Int32) => l_X7_appendFour_3 P (fun M4 => P M4) n z.1 x v z.2) (fun k z => (FrI (fun b => b = x ∨ b = x + 1) M z.1 ∧ (∀ j, j ≠ 7 → zI z.1 x j = zI M x j) ∧ BS x 7 (x + 1) (bl + k) (ap4 bl bf v k) z.1) ∧ z.2 = sh4 k) 4 ?_ ?_ (M, _) ⟨⟨FrI.rf, fun _ _ => rfl, h.ext fun i hi => by unfold ap4; rw [if_neg (by omega)]⟩, sh4_0⟩
  · rintro n ⟨M1, x1⟩ ⟨⟨f, g, q⟩, q1⟩
    dsimp only at f g q q1 ⊢
    subst q1
    simp only [l_X7_appendFour_3, sh4_4, if_true]
    exact K M1 f g q
  · rintro n k ⟨M1, x1⟩ hk ⟨⟨f, g, q⟩, q1⟩ L
    dsimp only at f g q q1 L ⊢
    subst q1
    have z7 := q.1
    have z7b : zI (sI M1 (x + 1) (bl + k) (by4 v k)) x 7 = nI (bl + k) := by rw [zI_sIo _ _ _ _ (by omega)]; exact z7
    have e4 : vp_nar .byte (v >>> (sh4 k &&& 31)).toInt8.toInt32 = by4 v k := rfl
    simp (disch := omega) only [l_X7_appendFour_3, sh4_n k hk, f.k, f.l, f.r, k0, r0, k1, l1, z7, n_vp, n_cl, e4, zk_sI, z7b, sh4_s k hk, not_true_eq_false, Bool.false_eq_true, false_and, Bool.not_false, Bool.not_true, Bool.and_true, Bool.and_false, Bool.false_and, Bool.true_and, true_and, and_true, true_or, or_true, not_false_eq_true, Option.some.injEq, exists_eq_left', forall_eq, ↓reduceIte, Nat.add_zero, Nat.zero_add, and_self]
    simp (disch := omega) only [l_1, nI_add]
    refine L (_, _) ⟨⟨(f.trans (FrI.sI (Or.inr rfl))).trans (FrI.sI (Or.inl rfl)), fun j hj => ?_, ?_⟩, rfl⟩
    · exact (zI_sI2 (sI M1 (x + 1) (bl + k) (by4 v k)) x 7 (nI (bl + k + 1)) hj).trans ((congrFun (zI_sIo M1 (x + 1) (bl + k) (by4 v k) (b := x) (by omega)) j).trans (g j hj))
    · refine (q.step (by omega) (by4 v k)).ext fun i hi => ?_
      unfold ap4
      by_cases c : i = bl + k
      · subst c
        rw [if_pos rfl, if_pos (by omega), Nat.add_sub_cancel_left]
      · rw [if_neg c]
        by_cases c2 : bl ≤ i ∧ i < bl + k
        · rw [if_pos c2, if_pos (by omega)]
        · rw [if_neg c2, if_neg (by omega)]
end AP
theorem l_580 : (580 : Int32) = nI 580 := rfl
/-- the class's state when only the buffer changed -/
theorem CI.bu {x : Nat} {sg pl : Nat → Nat} {hn : Nat} {hl : Nat → Nat → Nat} {sv : Nat → Bool} {sl : Nat → Nat → Nat} {bl bl2 : Nat} {bf bf2 : Nat → Int32} {ep : Nat} {nm : Nat → List Nat} {M M' : Mm} (h : CI x (sg, pl, hn, hl, sv, sl, bl, bf, ep, nm) M) (f : FrI (fun b => b = x ∨ b = x + 1) M M') (g : ∀ j, j ≠ 7 → zI M' x j = zI M x j) (q : BS x 7 (x + 1) bl2 bf2 M') : CI x (sg, pl, hn, hl, sv, sl, bl2, bf2, ep, nm) M' := by
  obtain ⟨c10, sa, sp, hps, hx, hS, hS2, hP, hD, hH, hN, hB, hNm, hKP⟩ := h
  have at_ := hx.at
  refine ⟨c10, sa, sp, hps, hx.fr f, hS.fr f (by omega), hS2.fr f, hP.fr f (by omega), hD.fr f, ⟨fun i hi => by rw [f.r]; exact ⟨(hH.1 i hi).1, (hH.1 i hi).2.1.fr f, (hH.1 i hi).2.2⟩, hH.2.1, fun i hi => ?_, by rw [g 9 (by omega)]; exact hH.2.2.2⟩, hN.frx f.x (by omega) (by omega), ?_, ?_, hKP.fr f (by omega)⟩
  · obtain ⟨-, -, j3, j4, j5⟩ := hH.1 i (by omega)
    exact (hH.2.2.1 i hi).fr f (by omega)
  · exact ⟨q.1, by rw [g 8 (by omega)]; exact hB.2.1, q.2⟩
  · unfold CNm at hNm ⊢
    rw [f.j]; exact hNm
def ap20 (bl : Nat) (bf : Nat → Int32) (a b c d e : Int32) : Nat → Int32 := ap4 (bl + 4 + 4 + 4 + 4) (ap4 (bl + 4 + 4 + 4) (ap4 (bl + 4 + 4) (ap4 (bl + 4) (ap4 bl bf a 4) b 4) c 4) d 4) e 4