/-! append -/
def sh4 (k : Nat) : Int32 := nI 24 - nI (8 * k)
def by4 (a : Int32) (k : Nat) : Int32 := vp_nar .byte (a >>> (sh4 k &&& 31)).toInt8.toInt32
def ap4 (bl : Nat) (bf : Nat → Int32) (a : Int32) (n : Nat) : Nat → Int32 := fun i => if bl ≤ i ∧ i < bl + n then by4 a (i - bl) else bf i
theorem sh4_0 : (24 : Int32) = sh4 0 := rfl
theorem sh4_4 : sh4 4 < (0 : Int32) := by decide
theorem sh4_n : ∀ k, k < 4 → ¬ sh4 k < (0 : Int32) := by decide
theorem sh4_s : ∀ k, k < 4 → sh4 k + (-8 : Int32) = sh4 (k + 1) := by decide
theorem by4_ok (a : Int32) (k : Nat) : (by4 a k).toInt8.toInt32 = by4 a k := by
  unfold by4
  rw [vp_nar_byte, Int8.toInt8_toInt32, Int8.toInt8_toInt32]
theorem ap4_ok {bl : Nat} {bf : Nat → Int32} {a : Int32} {n m : Nat} (h : ∀ i, i < bl → (bf i).toInt8.toInt32 = bf i) (hm : m ≤ bl + n) : ∀ i, i < m → (ap4 bl bf a n i).toInt8.toInt32 = ap4 bl bf a n i := by
  intro i hi
  unfold ap4
  by_cases c : bl ≤ i ∧ i < bl + n
  · rw [if_pos c, by4_ok]
  · rw [if_neg c, h i (by omega)]
/-- the buffer's bytes: field f of o counts those in a -/
def BS (o f a bl : Nat) (bf : Nat → Int32) (M : Mm) : Prop := zI M o f = nI bl ∧ ∀ i, i < bl → zI M a i = bf i
theorem BS.step {o f a bl : Nat} {bf : Nat → Int32} {M : Mm} (h : BS o f a bl bf M) (d : a ≠ o) (v : Int32) : BS o f a (bl + 1) (fun i => if i = bl then v else bf i) (sI (sI M a bl v) o f (nI (bl + 1))) := by
  refine ⟨zI_sI1 _ _ _ _, fun i hi => ?_⟩
  rw [zI_sIo _ _ _ _ d]
  show zI (sI M a bl v) a i = if i = bl then v else bf i
  by_cases c : i = bl
  · subst c; rw [zI_sI1, if_pos rfl]
  · rw [zI_sI2 _ _ _ _ c, if_neg c]; exact h.2 i (by omega)
theorem BS.ext {o f a bl : Nat} {bf bg : Nat → Int32} {M : Mm} (h : BS o f a bl bf M) (e : ∀ i, i < bl → bf i = bg i) : BS o f a bl bg M := ⟨h.1, fun i hi => (h.2 i hi).trans (e i hi)⟩
section AP
variable {M : Mm} {x bl : Nat} {bf : Nat → Int32}
theorem s_X7_appendFour {v : Int32} (k0 : zk M x = 7) (r0 : zR M x 0 = some (x + 1)) (k1 : zk M (x + 1) = 9) (l1 : zl M (x + 1) = 600) (h : BS x 7 (x + 1) bl bf M) (hb : bl + 4 ≤ 600) (P : Mm → Prop)
    (K : ∀ M', FrI (fun b => b = x ∨ b = x + 1) M M' → (∀ j, j ≠ 7 → zI M' x j = zI M x j) → BS x 7 (x + 1) (bl + 4) (ap4 bl bf v 4) M' → P M') : w_X7_appendFour M x v P := by
  unfold w_X7_appendFour
  refine lpI (fun n (z : Mm × Int32) => l_X7_appendFour_3 P (fun M4 => P M4) n z.1 x v z.2) (fun k z => (FrI (fun b => b = x ∨ b = x + 1) M z.1 ∧ (∀ j, j ≠ 7 → zI z.1 x j = zI M x j) ∧ BS x 7 (x + 1) (bl + k) (ap4 bl bf v k) z.1) ∧ z.2 = sh4 k) 4 ?_ ?_ (M, _) ⟨⟨FrI.rf, fun _ _ => rfl, h.ext fun i hi => by unfold ap4; rw [if_neg (by omega)]⟩, sh4_0⟩
  · rintro n ⟨M1, x1⟩ ⟨⟨f, g, q⟩, q1⟩
    dsimp only at f g q q1 ⊢
    subst q1
    simp only [l_X7_appendFour_3, sh4_4, if_true]
    exact K M1 f g q
  · rintro n k ⟨M1, x1⟩ hk ⟨⟨f, g, q⟩, q1⟩ L
    dsimp only at f g q q1 L ⊢
    subst q1
    have z7 := q.1
    have z7b : zI (sI M1 (x + 1) (bl + k) (by4 v k)) x 7 = nI (bl + k) := by rw [zI_sIo _ _ _ _ (by omega)]; exact z7
    have e4 : vp_nar .byte (v >>> (sh4 k &&& 31)).toInt8.toInt32 = by4 v k := rfl
    simp (disch := omega) only [l_X7_appendFour_3, sh4_n k hk, f.k, f.l, f.r, k0, r0, k1, l1, z7, n_vp, n_cl, e4, zk_sI, z7b, sh4_s k hk, not_true_eq_false, Bool.false_eq_true, false_and, Bool.not_false, Bool.not_true, Bool.and_true, Bool.and_false, Bool.false_and, Bool.true_and, true_and, and_true, true_or, or_true, not_false_eq_true, Option.some.injEq, exists_eq_left', forall_eq, ↓reduceIte, Nat.add_zero, Nat.zero_add, and_self]
    simp (disch := omega) only [l_1, nI_add]
    refine L (_, _) ⟨⟨(f.trans (FrI.sI (Or.inr rfl))).trans (FrI.sI (Or.inl rfl)), fun j hj => ?_, ?_⟩, rfl⟩
    · exact (zI_sI2 (sI M1 (x + 1) (bl + k) (by4 v k)) x 7 (nI (bl + k + 1)) hj).trans ((congrFun (zI_sIo M1 (x + 1) (bl + k) (by4 v k) (b := x) (by omega)) j).trans (g j hj))
    · refine (q.step (by omega) (by4 v k)).ext fun i hi => ?_
      unfold ap4
      by_cases c : i = bl + k
      · subst c
        rw [if_pos rfl, if_pos (by omega), Nat.add_sub_cancel_left]
      · rw [if_neg c]
        by_cases c2 : bl ≤ i ∧ i < bl + k
        · rw [if_pos c2, if_pos (by omega)]
        · rw [if_neg c2, if_neg (by omega)]
theorem s_X8_bytesOf {m : Nat} {v : Int32} (k0 : zk M m = 8) (r0 : zR M m 4 = some (m + 4)) (k1 : zk M (m + 4) = 9) (l1 : zl M (m + 4) = 600) (h : BS m 5 (m + 4) bl bf M) (hb : bl + 4 ≤ 600) (P : Mm → Prop)
    (K : ∀ M', FrI (fun b => b = m ∨ b = m + 4) M M' → (∀ j, j ≠ 5 → zI M' m j = zI M m j) → BS m 5 (m + 4) (bl + 4) (ap4 bl bf v 4) M' → P M') : w_X8_bytesOf M m v P := by
  unfold w_X8_bytesOf
  refine lpI (fun n (z : Mm × Int32) => l_X8_bytesOf_3 P (fun M4 => P M4) n z.1 m v z.2) (fun k z => (FrI (fun b => b = m ∨ b = m + 4) M z.1 ∧ (∀ j, j ≠ 5 → zI z.1 m j = zI M m j) ∧ BS m 5 (m + 4) (bl + k) (ap4 bl bf v k) z.1) ∧ z.2 = sh4 k) 4 ?_ ?_ (M, _) ⟨⟨FrI.rf, fun _ _ => rfl, h.ext fun i hi => by unfold ap4; rw [if_neg (by omega)]⟩, sh4_0⟩
  · rintro n ⟨M1, x1⟩ ⟨⟨f, g, q⟩, q1⟩
    dsimp only at f g q q1 ⊢
    subst q1
    simp only [l_X8_bytesOf_3, sh4_4, if_true]
    exact K M1 f g q
  · rintro n k ⟨M1, x1⟩ hk ⟨⟨f, g, q⟩, q1⟩ L
    dsimp only at f g q q1 L ⊢
    subst q1
    have z7 := q.1
    have z7b : zI (sI M1 (m + 4) (bl + k) (by4 v k)) m 5 = nI (bl + k) := by rw [zI_sIo _ _ _ _ (by omega)]; exact z7
    have e4 : vp_nar .byte (v >>> (sh4 k &&& 31)).toInt8.toInt32 = by4 v k := rfl
    simp (disch := omega) only [l_X8_bytesOf_3, sh4_n k hk, f.k, f.l, f.r, k0, r0, k1, l1, z7, n_vp, n_cl, e4, zk_sI, z7b, sh4_s k hk, not_true_eq_false, Bool.false_eq_true, false_and, Bool.not_false, Bool.not_true, Bool.and_true, Bool.and_false, Bool.false_and, Bool.true_and, true_and, and_true, true_or, or_true, not_false_eq_true, Option.some.injEq, exists_eq_left', forall_eq, ↓reduceIte, Nat.add_zero, Nat.zero_add, and_self]
    simp (disch := omega) only [l_1, nI_add]
    refine L (_, _) ⟨⟨(f.trans (FrI.sI (Or.inr rfl))).trans (FrI.sI (Or.inl rfl)), fun j hj => ?_, ?_⟩, rfl⟩
    · exact (zI_sI2 (sI M1 (m + 4) (bl + k) (by4 v k)) m 5 (nI (bl + k + 1)) hj).trans ((congrFun (zI_sIo M1 (m + 4) (bl + k) (by4 v k) (b := m) (by omega)) j).trans (g j hj))
    · refine (q.step (by omega) (by4 v k)).ext fun i hi => ?_
      unfold ap4
      by_cases c : i = bl + k
      · subst c
        rw [if_pos rfl, if_pos (by omega), Nat.add_sub_cancel_left]
      · rw [if_neg c]
        by_cases c2 : bl ≤ i ∧ i < bl + k
        · rw [if_pos c2, if_pos (by omega)]
        · rw [if_neg c2, if_neg (by omega)]
end AP
theorem l_580 : (580 : Int32) = nI 580 := rfl
/-- the class's state when only the buffer changed -/
theorem CI.bu {x : Nat} {sg pl : Nat → Nat} {hn : Nat} {hl : Nat → Nat → Nat} {sv : Nat → Bool} {sl : Nat → Nat → Nat} {bl bl2 : Nat} {bf bf2 : Nat → Int32} {ep : Nat} {nm : Nat → List Nat} {M M' : Mm} (h : CI x (sg, pl, hn, hl, sv, sl, bl, bf, ep, nm) M) (f : FrI (fun b => b = x ∨ b = x + 1) M M') (g : ∀ j, j ≠ 7 → zI M' x j = zI M x j) (q : BS x 7 (x + 1) bl2 bf2 M') : CI x (sg, pl, hn, hl, sv, sl, bl2, bf2, ep, nm) M' := by
  obtain ⟨c10, sa, sp, hps, hx, hS, hS2, hP, hD, hH, hN, hB, hNm, hKP⟩ := h
  have at_ := hx.at
  refine ⟨c10, sa, sp, hps, hx.fr f, hS.fr f (by omega), hS2.fr f, hP.fr f (by omega), hD.fr f, ⟨fun i hi => by rw [f.r]; exact ⟨(hH.1 i hi).1, (hH.1 i hi).2.1.fr f, (hH.1 i hi).2.2⟩, hH.2.1, fun i hi => ?_, by rw [g 9 (by omega)]; exact hH.2.2.2⟩, hN.frx f.x (by omega) (by omega), ?_, ?_, hKP.fr f (by omega)⟩
  · obtain ⟨-, -, j3, j4, j5⟩ := hH.1 i (by omega)
    exact (hH.2.2.1 i hi).fr f (by omega)
  · exact ⟨q.1, by rw [g 8 (by omega)]; exact hB.2.1, q.2⟩
  · unfold CNm at hNm ⊢
    rw [f.j]; exact hNm
theorem MI.bu {m : Nat} {sg pl : Nat → Nat} {hn : Nat} {hl : Nat → Nat → Nat} {sv : Nat → Bool} {sl : Nat → Nat → Nat} {bl bl2 : Nat} {bf bf2 : Nat → Int32} {ep : Nat} {nm : Nat → List Nat} {M M' : Mm} (h : MI m (sg, pl, hn, hl, sv, sl, bl, bf, ep, nm) M) (f : FrI (fun b => b = m ∨ b = m + 4) M M') (g : ∀ j, j = 13 ∨ j = 24 → zI M' m j = zI M m j) (q : BS m 5 (m + 4) bl2 bf2 M') : MI m (sg, pl, hn, hl, sv, sl, bl2, bf2, ep, nm) M' := by
  obtain ⟨mq, mn, mh, ms, mb, mnm⟩ := h
  refine ⟨mq.fr f (by omega), ⟨mn.1.fr f, by rw [f.i (by omega)]; exact mn.2⟩, ?_, ?_, ?_, ?_⟩
  · unfold MHi at mh ⊢; rw [g 24 (by omega), f.i (by omega)]; exact mh
  · unfold MSn at ms ⊢; rw [f.i (b := m + 13) (by omega), f.i (b := m + 12) (by omega)]; exact ms
  · exact ⟨q.1, by rw [g 13 (by omega)]; exact mb.2.1, q.2⟩
  · unfold MNm at mnm ⊢; rw [f.j]; exact mnm
theorem MI.text {m : Nat} {s : ST} {M : Mm} (h : MI m s M) : zR M m 4 = some (m + 4) ∧ zk M (m + 4) = 9 ∧ zl M (m + 4) = 600 := by
  obtain ⟨sg, pl, hn, hl, sv, sl, bl, bf, ep, nm⟩ := s
  have q := h.1.1
  unfold MS at q
  simp only [q, and_self]
def ap20 (bl : Nat) (bf : Nat → Int32) (a b c d e : Int32) : Nat → Int32 := ap4 (bl + 4 + 4 + 4 + 4) (ap4 (bl + 4 + 4 + 4) (ap4 (bl + 4 + 4) (ap4 (bl + 4) (ap4 bl bf a 4) b 4) c 4) d 4) e 4
theorem call_append {x : Nat} {s : ST} (ok : OKs s) (a b c d e : Int32) : CALL0 x s (fun M P => w_X7_append M x a b c d e P) (fun M P => w_X8_append M (x + 149) a b c d e P) := by
  obtain ⟨sg, pl, hn, hl, sv, sl, bl, bf, ep, nm⟩ := s
  have ok2 := ok
  obtain ⟨hs, hp, h10, hhl, hsl, hbl, hby, hep, nm1, nm2, nm3, nm4⟩ := ok
  by_cases h0 : bl ≤ 580
  · refine ⟨nI (bl + 4 + 4 + 4 + 4 + 4), (sg, pl, hn, hl, sv, sl, bl + 4 + 4 + 4 + 4 + 4, ap20 bl bf a b c d e, ep, nm), ⟨hs, hp, h10, hhl, hsl, by omega, ?_, hep, nm1, nm2, nm3, nm4⟩, fun M P q w K => ?_, fun M P q K => ?_⟩
    · exact ap4_ok (ap4_ok (ap4_ok (ap4_ok (ap4_ok hby (Nat.le_refl _)) (Nat.le_refl _)) (Nat.le_refl _)) (Nat.le_refl _)) (Nat.le_refl _)
    · have q0 := q
      obtain ⟨c10, sa, sp, hps, hx, hS, hS2, hP, hD, hH, hN, hB, hNm, hKP⟩ := q0
      have b0 : BS x 7 (x + 1) bl bf M := ⟨hB.1, hB.2.2⟩
      simp (disch := omega) only [w_X7_append, hx.s, hB.1, l_580, n_leT, not_true_eq_false, Bool.false_eq_true, false_and, Bool.not_false, Bool.not_true, Bool.and_true, Bool.and_false, Bool.false_and, Bool.true_and, true_and, and_true, true_or, or_true, not_false_eq_true, Option.some.injEq, exists_eq_left', forall_eq, ↓reduceIte, Nat.add_zero, Nat.zero_add, and_self]
      refine s_X7_appendFour hx.s.1.1 hx.s.1.2.1 hx.s.2.1 hx.s.2.2.1 b0 (by omega) _ fun M1 f1 g1 b1 => ?_
      have x1 := (hx.fr f1).s
      simp only [x1.1.1, not_true_eq_false, Bool.false_eq_true, false_and, Bool.not_false, Bool.not_true, Bool.and_true, Bool.and_false, Bool.false_and, Bool.true_and, true_and, and_true, true_or, or_true, not_false_eq_true, Option.some.injEq, exists_eq_left', forall_eq, ↓reduceIte, Nat.add_zero, Nat.zero_add, and_self]
      refine s_X7_appendFour x1.1.1 x1.1.2.1 x1.2.1 x1.2.2.1 b1 (by omega) _ fun M2 f2 g2 b2 => ?_
      have x2 := (hx.fr (f1.trans f2)).s
      simp only [x2.1.1, not_true_eq_false, Bool.false_eq_true, false_and, Bool.not_false, Bool.not_true, Bool.and_true, Bool.and_false, Bool.false_and, Bool.true_and, true_and, and_true, true_or, or_true, not_false_eq_true, Option.some.injEq, exists_eq_left', forall_eq, ↓reduceIte, Nat.add_zero, Nat.zero_add, and_self]
      refine s_X7_appendFour x2.1.1 x2.1.2.1 x2.2.1 x2.2.2.1 b2 (by omega) _ fun M3 f3 g3 b3 => ?_
      have x3 := (hx.fr ((f1.trans f2).trans f3)).s
      simp only [x3.1.1, not_true_eq_false, Bool.false_eq_true, false_and, Bool.not_false, Bool.not_true, Bool.and_true, Bool.and_false, Bool.false_and, Bool.true_and, true_and, and_true, true_or, or_true, not_false_eq_true, Option.some.injEq, exists_eq_left', forall_eq, ↓reduceIte, Nat.add_zero, Nat.zero_add, and_self]
      refine s_X7_appendFour x3.1.1 x3.1.2.1 x3.2.1 x3.2.2.1 b3 (by omega) _ fun M4 f4 g4 b4 => ?_
      have x4 := (hx.fr (((f1.trans f2).trans f3).trans f4)).s
      simp only [x4.1.1, not_true_eq_false, Bool.false_eq_true, false_and, Bool.not_false, Bool.not_true, Bool.and_true, Bool.and_false, Bool.false_and, Bool.true_and, true_and, and_true, true_or, or_true, not_false_eq_true, Option.some.injEq, exists_eq_left', forall_eq, ↓reduceIte, Nat.add_zero, Nat.zero_add, and_self]
      refine s_X7_appendFour x4.1.1 x4.1.2.1 x4.2.1 x4.2.2.1 b4 (by omega) _ fun M5 f5 g5 b5 => ?_
      have F := (((f1.trans f2).trans f3).trans f4).trans f5
      have x5 := (hx.fr F).s
      have z5 := b5.1
      simp only [x5.1.1, z5, not_true_eq_false, Bool.false_eq_true, false_and, Bool.not_false, Bool.not_true, Bool.and_true, Bool.and_false, Bool.false_and, Bool.true_and, true_and, and_true, true_or, or_true, not_false_eq_true, Option.some.injEq, exists_eq_left', forall_eq, ↓reduceIte, Nat.add_zero, Nat.zero_add, and_self]
      exact K M5 (q.bu F (fun j hj => by rw [g5 j hj, g4 j hj, g3 j hj, g2 j hj, g1 j hj]) b5) (F.g fun b hb => by omega)
    · refine thr0 q fun M0 q0 f0 t0 => ?_
      have tx := q0.text
      have k8 := q0.k8
      have b0 : BS (x + 149) 5 (x + 149 + 4) bl bf M0 := ⟨q0.2.2.2.2.1.1, q0.2.2.2.2.1.2.2⟩
      have z0 := b0.1
      simp (disch := omega) only [k8, z0, l_20, l_600, nI_add, n_leT, not_true_eq_false, Bool.false_eq_true, false_and, Bool.not_false, Bool.not_true, Bool.and_true, Bool.and_false, Bool.false_and, Bool.true_and, true_and, and_true, true_or, or_true, not_false_eq_true, Option.some.injEq, exists_eq_left', forall_eq, ↓reduceIte, Nat.add_zero, Nat.zero_add, and_self]
      refine s_X8_bytesOf k8 tx.1 tx.2.1 tx.2.2 b0 (by omega) _ fun M1 f1 g1 b1 => ?_
      have F := f1
      simp only [F.k, k8, not_true_eq_false, Bool.false_eq_true, false_and, Bool.not_false, Bool.not_true, Bool.and_true, Bool.and_false, Bool.false_and, Bool.true_and, true_and, and_true, true_or, or_true, not_false_eq_true, Option.some.injEq, exists_eq_left', forall_eq, ↓reduceIte, Nat.add_zero, Nat.zero_add, and_self]
      refine s_X8_bytesOf (by rw [F.k]; exact k8) (by rw [F.r]; exact tx.1) (by rw [F.k]; exact tx.2.1) (by rw [F.l]; exact tx.2.2) b1 (by omega) _ fun M2 f2 g2 b2 => ?_
      have F := f1.trans f2
      simp only [F.k, k8, not_true_eq_false, Bool.false_eq_true, false_and, Bool.not_false, Bool.not_true, Bool.and_true, Bool.and_false, Bool.false_and, Bool.true_and, true_and, and_true, true_or, or_true, not_false_eq_true, Option.some.injEq, exists_eq_left', forall_eq, ↓reduceIte, Nat.add_zero, Nat.zero_add, and_self]
      refine s_X8_bytesOf (by rw [F.k]; exact k8) (by rw [F.r]; exact tx.1) (by rw [F.k]; exact tx.2.1) (by rw [F.l]; exact tx.2.2) b2 (by omega) _ fun M3 f3 g3 b3 => ?_
      have F := (f1.trans f2).trans f3
      simp only [F.k, k8, not_true_eq_false, Bool.false_eq_true, false_and, Bool.not_false, Bool.not_true, Bool.and_true, Bool.and_false, Bool.false_and, Bool.true_and, true_and, and_true, true_or, or_true, not_false_eq_true, Option.some.injEq, exists_eq_left', forall_eq, ↓reduceIte, Nat.add_zero, Nat.zero_add, and_self]
      refine s_X8_bytesOf (by rw [F.k]; exact k8) (by rw [F.r]; exact tx.1) (by rw [F.k]; exact tx.2.1) (by rw [F.l]; exact tx.2.2) b3 (by omega) _ fun M4 f4 g4 b4 => ?_
      have F := ((f1.trans f2).trans f3).trans f4
      simp only [F.k, k8, not_true_eq_false, Bool.false_eq_true, false_and, Bool.not_false, Bool.not_true, Bool.and_true, Bool.and_false, Bool.false_and, Bool.true_and, true_and, and_true, true_or, or_true, not_false_eq_true, Option.some.injEq, exists_eq_left', forall_eq, ↓reduceIte, Nat.add_zero, Nat.zero_add, and_self]
      refine s_X8_bytesOf (by rw [F.k]; exact k8) (by rw [F.r]; exact tx.1) (by rw [F.k]; exact tx.2.1) (by rw [F.l]; exact tx.2.2) b4 (by omega) _ fun M5 f5 g5 b5 => ?_
      have F := (((f1.trans f2).trans f3).trans f4).trans f5
      have z5 := b5.1
      simp only [F.k, k8, z5, not_true_eq_false, Bool.false_eq_true, false_and, Bool.not_false, Bool.not_true, Bool.and_true, Bool.and_false, Bool.false_and, Bool.true_and, true_and, and_true, true_or, or_true, not_false_eq_true, Option.some.injEq, exists_eq_left', forall_eq, ↓reduceIte, Nat.add_zero, Nat.zero_add, and_self]
      exact K M5 (q0.bu F (fun j hj => by rw [g5 j (by omega), g4 j (by omega), g3 j (by omega), g2 j (by omega), g1 j (by omega)]) b5) (f0.o.trans (F.mono fun b hb => by unfold RMo; omega))
  · refine ⟨nI 4294967295, _, ok2, fun M P q w K => ?_, fun M P q K => ?_⟩
    · have K0 := K _ q FrG.rf
      obtain ⟨c10, sa, sp, hps, hx, hS, hS2, hP, hD, hH, hN, hB, hNm, hKP⟩ := q
      simp (disch := omega) only [w_X7_append, hx.s, hB.1, l_580, l_1, n_m1, n_leF, not_true_eq_false, Bool.false_eq_true, false_and, Bool.not_false, Bool.not_true, Bool.and_true, Bool.and_false, Bool.false_and, Bool.true_and, true_and, and_true, true_or, or_true, not_false_eq_true, Option.some.injEq, exists_eq_left', forall_eq, ↓reduceIte, Nat.add_zero, Nat.zero_add, and_self]
      exact K0
    · refine thr0 q fun M0 q0 f0 t0 => ?_
      have z0 : zI M0 (x + 149) 5 = nI bl := q0.2.2.2.2.1.1
      simp (disch := omega) only [q0.k8, z0, l_20, l_600, l_1, n_m1, nI_add, n_leF, not_true_eq_false, Bool.false_eq_true, false_and, Bool.not_false, Bool.not_true, Bool.and_true, Bool.and_false, Bool.false_and, Bool.true_and, true_and, and_true, true_or, or_true, not_false_eq_true, Option.some.injEq, exists_eq_left', forall_eq, ↓reduceIte, Nat.add_zero, Nat.zero_add, and_self]
      exact K _ q0 f0.o
