/-! THE LAW'S SEASON at e: its cells tell the same numbers sg and pl -/
def LSh (e : Nat) (M : Mm) : Prop := (zk M e = 8 ∧ zR M e 7 = some (e + 1) ∧ zR M e 8 = some (e + 2) ∧ zR M e 9 = some (e + 3) ∧ zR M e 10 = some (e + 4) ∧ zR M e 11 = some (e + 5) ∧ zR M e 12 = some (e + 6) ∧ zR M e 13 = some (e + 7) ∧ zR M e 14 = some (e + 8) ∧ zR M e 15 = some (e + 9)) ∧
  (zk M (e + 1) = 10 ∧ zk M (e + 2) = 10 ∧ zk M (e + 3) = 10 ∧ zk M (e + 4) = 10 ∧ zk M (e + 5) = 14 ∧ zk M (e + 6) = 14 ∧ zk M (e + 7) = 14 ∧ zk M (e + 8) = 14 ∧ zk M (e + 9) = 15) ∧
  zl M (e + 1) = 3 ∧ zl M (e + 2) = 8 ∧ zl M (e + 3) = 8 ∧ zl M (e + 4) = 8 ∧ zl M (e + 5) = 8 ∧ zl M (e + 6) = 5 ∧ zl M (e + 7) = 5 ∧ zl M (e + 8) = 20 ∧ zl M (e + 9) = 20
/-- an int[] at a, behind the season's own cells -/
def Row (e a n : Nat) (f : Nat → Nat) (M : Mm) : Prop := (e + 10 ≤ a ∧ a < zn M) ∧ (zk M a = 10 ∧ zl M a = n) ∧ ∀ j, j < n → zI M a j = nI (f j)
def LSt (e : Nat) (sg : Nat → Nat) (M : Mm) : Prop := LSh e M ∧ (zI M e 0 = nI (sg 0) ∧ zI M e 1 = nI (sg 1) ∧ zI M e 2 = nI (sg 2) ∧ zI M e 3 = nI (sg 3) ∧ zI M e 5 = nI (sg 5)) ∧
  (∀ h, h < sg 1 → zI M (e + 1) h = nI (sg (6 + h))) ∧
  (∀ p, p < sg 2 → (zI M (e + 2) p = nI (oP sg p 0) ∧ zI M (e + 4) p = nI (oP sg p 1)) ∧ ∃ a, zR M (e + 5) p = some a ∧ Row e a (oP sg p 2) (fun j => oP sg p (3 + j)) M) ∧
  ∀ w, w < sg 3 → (∃ a, zR M (e + 6) w = some a ∧ Row e a 4 (fun j => oW sg w j) M) ∧ ∃ a, zR M (e + 7) w = some a ∧ Row e a (oW sg w 4) (fun j => oW sg w (5 + j)) M
/-- the casts of a service -/
def Cv (e c : Nat) (sg pl : Nat → Nat) (s : Nat) (M : Mm) : Prop := (e + 10 ≤ c ∧ c < zn M) ∧ (zk M c = 14 ∧ zl M c = 5) ∧
  ∀ w, w < 5 → (w < sg 3 ∧ (oS pl s 3).testBit w = true → ∃ a, zR M c w = some a ∧ Row e a (oW sg w 4) (fun j => oS pl s (4 + 6 * w + j)) M) ∧ (¬ (w < sg 3 ∧ (oS pl s 3).testBit w = true) → zR M c w = none)
def LDy (e : Nat) (sg pl : Nat → Nat) (M : Mm) : Prop := zI M e 6 = nI (pl 0) ∧ (∀ p, p < sg 2 → zI M (e + 3) p = nI (pl (1 + p))) ∧
  ∀ s, s < pl 0 → (∃ a, zR M (e + 8) s = some a ∧ Row e a 4 (fun f => oS pl s f) M) ∧ ∃ c, zR M (e + 9) s = some c ∧ Cv e c sg pl s M
def SI (e : Nat) (sg pl : Nat → Nat) (M : Mm) : Prop := e + 10 ≤ zn M ∧ LSt e sg M ∧ LDy e sg pl M
section LR
variable {e : Nat} {sg pl : Nat → Nat} {M M' : Mm}
theorem LSt.s (h : LSt e sg M) : (zk M e = 8 ∧ zR M e 7 = some (e + 1) ∧ zR M e 8 = some (e + 2) ∧ zR M e 9 = some (e + 3) ∧ zR M e 10 = some (e + 4) ∧ zR M e 11 = some (e + 5) ∧ zR M e 12 = some (e + 6) ∧ zR M e 13 = some (e + 7) ∧ zR M e 14 = some (e + 8) ∧ zR M e 15 = some (e + 9)) ∧
  (zk M (e + 1) = 10 ∧ zk M (e + 2) = 10 ∧ zk M (e + 3) = 10 ∧ zk M (e + 4) = 10 ∧ zk M (e + 5) = 14 ∧ zk M (e + 6) = 14 ∧ zk M (e + 7) = 14 ∧ zk M (e + 8) = 14 ∧ zk M (e + 9) = 15) ∧
  zl M (e + 1) = 3 ∧ zl M (e + 2) = 8 ∧ zl M (e + 3) = 8 ∧ zl M (e + 4) = 8 ∧ zl M (e + 5) = 8 ∧ zl M (e + 6) = 5 ∧ zl M (e + 7) = 5 ∧ zl M (e + 8) = 20 ∧ zl M (e + 9) = 20 := h.1
theorem LSt.n (h : LSt e sg M) : zI M e 0 = nI (sg 0) ∧ zI M e 1 = nI (sg 1) ∧ zI M e 2 = nI (sg 2) ∧ zI M e 3 = nI (sg 3) ∧ zI M e 5 = nI (sg 5) := h.2.1
theorem LSt.h (h : LSt e sg M) {k : Nat} (hk : k < sg 1) : zI M (e + 1) k = nI (sg (6 + k)) := h.2.2.1 k hk
theorem LSt.p (h : LSt e sg M) {p : Nat} (hp : p < sg 2) : (zI M (e + 2) p = nI (oP sg p 0) ∧ zI M (e + 4) p = nI (oP sg p 1)) ∧ ∃ a, zR M (e + 5) p = some a ∧ Row e a (oP sg p 2) (fun j => oP sg p (3 + j)) M := h.2.2.2.1 p hp
theorem LSt.w (h : LSt e sg M) {w : Nat} (hw : w < sg 3) : (∃ a, zR M (e + 6) w = some a ∧ Row e a 4 (fun j => oW sg w j) M) ∧ ∃ a, zR M (e + 7) w = some a ∧ Row e a (oW sg w 4) (fun j => oW sg w (5 + j)) M := h.2.2.2.2 w hw
theorem LDy.n (h : LDy e sg pl M) : zI M e 6 = nI (pl 0) := h.1
theorem LDy.k (h : LDy e sg pl M) {p : Nat} (hp : p < sg 2) : zI M (e + 3) p = nI (pl (1 + p)) := h.2.1 p hp
theorem LDy.s (h : LDy e sg pl M) {s : Nat} (hs : s < pl 0) : ∃ a, zR M (e + 8) s = some a ∧ Row e a 4 (fun f => oS pl s f) M := (h.2.2 s hs).1
theorem LDy.c (h : LDy e sg pl M) {s : Nat} (hs : s < pl 0) : ∃ c, zR M (e + 9) s = some c ∧ Cv e c sg pl s M := (h.2.2 s hs).2
/-! frames -/
theorem FrG.sm {lo hi : Nat} (f : FrG lo hi M M') {b : Nat} (hb : b < zn M) (h : ¬ (lo ≤ b ∧ b < hi)) : SM b M M' := f.2 b hb h
theorem Row.fr {lo hi a n : Nat} {r : Nat → Nat} (h : Row e a n r M) (f : FrG lo hi M M') (hh : hi ≤ e + 10) : Row e a n r M' := by
  obtain ⟨⟨h1, h2⟩, h3, h4⟩ := h
  obtain ⟨a1, a2, a3, -⟩ := f.sm h2 (by omega)
  exact ⟨⟨h1, Nat.lt_of_lt_of_le h2 f.1⟩, by rw [a1, a2]; exact h3, by rw [a3]; exact h4⟩
theorem Row.ext {a n : Nat} {r q : Nat → Nat} (h : Row e a n r M) (g : ∀ j, j < n → r j = q j) : Row e a n q M := ⟨h.1, h.2.1, fun j hj => by rw [← g j hj]; exact h.2.2 j hj⟩
theorem Cv.fr {lo hi c s : Nat} (h : Cv e c sg pl s M) (f : FrG lo hi M M') (hh : hi ≤ e + 10) : Cv e c sg pl s M' := by
  obtain ⟨⟨h1, h2⟩, h3, h4⟩ := h
  obtain ⟨a1, a2, -, -, a5⟩ := f.sm h2 (by omega)
  refine ⟨⟨h1, Nat.lt_of_lt_of_le h2 f.1⟩, by rw [a1, a2]; exact h3, fun w hw => ⟨fun g => ?_, fun g => ?_⟩⟩
  · obtain ⟨a, r1, r2⟩ := (h4 w hw).1 g
    exact ⟨a, by rw [a5]; exact r1, r2.fr f hh⟩
  · rw [a5]; exact (h4 w hw).2 g
theorem Cv.ext {pl2 : Nat → Nat} {c s s2 : Nat} (hs : SB sg) (h : Cv e c sg pl s M) (g : ∀ f, f < 34 → oS pl s f = oS pl2 s2 f) : Cv e c sg pl2 s2 M := by
  refine ⟨h.1, h.2.1, fun w hw => ?_⟩
  rw [← g 3 (by omega)]
  refine ⟨fun q => ?_, (h.2.2 w hw).2⟩
  obtain ⟨a, r1, r2⟩ := (h.2.2 w hw).1 q
  have := hs.sc q.1
  exact ⟨a, r1, r2.ext fun j hj => g _ (by omega)⟩
/-- what stays of the season's own cells -/
def KpE (e : Nat) (M M' : Mm) : Prop := (zk M' e = zk M e ∧ (∀ i, i ≠ 6 → i ≠ 17 → zI M' e i = zI M e i) ∧ (∀ i, i ≠ 16 → zR M' e i = zR M e i)) ∧ (∀ k, 1 ≤ k → k < 10 → zk M' (e + k) = zk M (e + k) ∧ zl M' (e + k) = zl M (e + k)) ∧ (∀ k, 1 ≤ k → k < 8 → k ≠ 3 → zI M' (e + k) = zI M (e + k) ∧ zR M' (e + k) = zR M (e + k))
theorem KpE.rf : KpE e M M := ⟨⟨rfl, fun _ _ _ => rfl, fun _ _ => rfl⟩, fun _ _ _ => ⟨rfl, rfl⟩, fun _ _ _ _ => ⟨rfl, rfl⟩⟩
theorem KpE.trans {M1 M2 : Mm} (h : KpE e M M1) (k : KpE e M1 M2) : KpE e M M2 := by
  obtain ⟨⟨h2, h3, h4⟩, h5, h6⟩ := h
  obtain ⟨⟨k2, k3, k4⟩, k5, k6⟩ := k
  exact ⟨⟨k2.trans h2, fun i a b => (k3 i a b).trans (h3 i a b), fun i a => (k4 i a).trans (h4 i a)⟩, fun i a b => ⟨(k5 i a b).1.trans (h5 i a b).1, (k5 i a b).2.trans (h5 i a b).2⟩, fun i a b c => ⟨(k6 i a b c).1.trans (h6 i a b c).1, (k6 i a b c).2.trans (h6 i a b c).2⟩⟩
theorem LSh.kp (h : LSh e M) (f : KpE e M M') : LSh e M' := by
  obtain ⟨⟨h2, -, h4⟩, h5, -⟩ := f
  unfold LSh at h ⊢
  rw [h2, h4 7 (by omega), h4 8 (by omega), h4 9 (by omega), h4 10 (by omega), h4 11 (by omega), h4 12 (by omega), h4 13 (by omega), h4 14 (by omega), h4 15 (by omega),
    (h5 1 (by omega) (by omega)).1, (h5 2 (by omega) (by omega)).1, (h5 3 (by omega) (by omega)).1, (h5 4 (by omega) (by omega)).1, (h5 5 (by omega) (by omega)).1, (h5 6 (by omega) (by omega)).1, (h5 7 (by omega) (by omega)).1, (h5 8 (by omega) (by omega)).1, (h5 9 (by omega) (by omega)).1,
    (h5 1 (by omega) (by omega)).2, (h5 2 (by omega) (by omega)).2, (h5 3 (by omega) (by omega)).2, (h5 4 (by omega) (by omega)).2, (h5 5 (by omega) (by omega)).2, (h5 6 (by omega) (by omega)).2, (h5 7 (by omega) (by omega)).2, (h5 8 (by omega) (by omega)).2, (h5 9 (by omega) (by omega)).2]
  exact h
theorem LSt.kpe {lo hi : Nat} (h : LSt e sg M) (f1 : FrG lo hi M M') (hh : hi ≤ e + 10) (f : KpE e M M') : LSt e sg M' := by
  obtain ⟨h1, ⟨n0, n1, n2, n3, n5⟩, h3, h4, h5⟩ := h
  have g := f
  obtain ⟨⟨f2, f3, f4⟩, f5, f6⟩ := f
  refine ⟨h1.kp g, ?_, fun k hk => ?_, fun p hp => ?_, fun w hw => ?_⟩
  · rw [f3 0 (by omega) (by omega), f3 1 (by omega) (by omega), f3 2 (by omega) (by omega), f3 3 (by omega) (by omega), f3 5 (by omega) (by omega)]
    exact ⟨n0, n1, n2, n3, n5⟩
  · rw [(f6 1 (by omega) (by omega) (by omega)).1]; exact h3 k hk
  · rw [(f6 2 (by omega) (by omega) (by omega)).1, (f6 4 (by omega) (by omega) (by omega)).1, (f6 5 (by omega) (by omega) (by omega)).2]
    obtain ⟨a, r1, r2⟩ := (h4 p hp).2
    exact ⟨(h4 p hp).1, a, r1, r2.fr f1 hh⟩
  · rw [(f6 6 (by omega) (by omega) (by omega)).2, (f6 7 (by omega) (by omega) (by omega)).2]
    obtain ⟨⟨a, r1, r2⟩, c, r3, r4⟩ := h5 w hw
    exact ⟨⟨a, r1, r2.fr f1 hh⟩, c, r3, r4.fr f1 hh⟩
/-- also who plays when stays -/
def KpD (e : Nat) (M M' : Mm) : Prop := zI M' e 6 = zI M e 6 ∧ zI M' (e + 3) = zI M (e + 3) ∧ zR M' (e + 8) = zR M (e + 8) ∧ zR M' (e + 9) = zR M (e + 9)
theorem KpD.trans {M1 M2 : Mm} (h : KpD e M M1) (k : KpD e M1 M2) : KpD e M M2 := ⟨k.1.trans h.1, k.2.1.trans h.2.1, k.2.2.1.trans h.2.2.1, k.2.2.2.trans h.2.2.2⟩
theorem LDy.kpe {lo hi : Nat} (h : LDy e sg pl M) (f0 : FrG lo hi M M') (hh : hi ≤ e + 10) (f : KpD e M M') : LDy e sg pl M' := by
  obtain ⟨f1, f2, f3, f4⟩ := f
  refine ⟨by rw [f1]; exact h.1, by rw [f2]; exact h.2.1, fun s hs => ?_⟩
  rw [f3, f4]
  obtain ⟨⟨a, r1, r2⟩, c, r3, r4⟩ := h.2.2 s hs
  exact ⟨⟨a, r1, r2.fr f0 hh⟩, c, r3, r4.fr f0 hh⟩
/-- what the season's methods may change: the season's cells but for these -/
def KpS (e : Nat) (M M' : Mm) : Prop := FrG e (e + 10) M M' ∧ KpE e M M'
theorem KpS.rf : KpS e M M := ⟨FrG.rf, KpE.rf⟩
theorem KpS.trans {M1 M2 : Mm} (h : KpS e M M1) (k : KpS e M1 M2) : KpS e M M2 := ⟨h.1.trans k.1, h.2.trans k.2⟩
theorem LSt.kp (h : LSt e sg M) (f : KpS e M M') : LSt e sg M' := h.kpe f.1 (Nat.le_refl _) f.2
/-- a search: only best and least -/
def KpC (e : Nat) (M M' : Mm) : Prop := KpS e M M' ∧ KpD e M M'
theorem KpC.rf : KpC e M M := ⟨KpS.rf, rfl, rfl, rfl, rfl⟩
theorem KpC.trans {M1 M2 : Mm} (h : KpC e M M1) (k : KpC e M1 M2) : KpC e M M2 := ⟨h.1.trans k.1, h.2.trans k.2⟩
theorem LDy.kp (h : LDy e sg pl M) (f : KpC e M M') : LDy e sg pl M' := h.kpe f.1.1 (Nat.le_refl _) f.2
theorem SI.kp (h : SI e sg pl M) (f : KpC e M M') : SI e sg pl M' := ⟨Nat.le_trans h.1 f.1.1.1, h.2.1.kp f.1, h.2.2.kp f⟩
/-- cells ahead of e are not the season's -/
theorem SI.fr {lo hi : Nat} (h : SI e sg pl M) (f : FrG lo hi M M') (hh : hi ≤ e) : SI e sg pl M' := by
  have hz := h.1
  have k : ∀ b, e ≤ b → b < e + 10 → SM b M M' := fun b h1 h2 => f.sm (by omega) (by omega)
  have ke : KpE e M M' := ⟨⟨(k e (by omega) (by omega)).1, fun i _ _ => by rw [(k e (by omega) (by omega)).2.2.1], fun i _ => by rw [(k e (by omega) (by omega)).2.2.2.2]⟩, fun i h1 h2 => ⟨(k (e + i) (by omega) (by omega)).1, (k (e + i) (by omega) (by omega)).2.1⟩, fun i h1 h2 _ => ⟨(k (e + i) (by omega) (by omega)).2.2.1, (k (e + i) (by omega) (by omega)).2.2.2.2⟩⟩
  exact ⟨Nat.le_trans h.1 f.1, h.2.1.kpe f (by omega) ke, h.2.2.kpe f (by omega) ⟨by rw [(k e (by omega) (by omega)).2.2.1], (k (e + 3) (by omega) (by omega)).2.2.1, (k (e + 8) (by omega) (by omega)).2.2.2.2, (k (e + 9) (by omega) (by omega)).2.2.2.2⟩⟩
end LR
