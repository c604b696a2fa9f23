/-! THE SEASON UNDER WAY: text at a, season at e -/
def KBw (e : Nat) (M M' : Mm) : Prop := zn M ≤ zn M' ∧ ∀ b, e ≤ b → b < zn M → zk M b ≠ 9 → SM b M M'
theorem KBw.rf {e : Nat} {M : Mm} : KBw e M M := ⟨Nat.le_refl _, fun _ _ _ _ => ⟨rfl, rfl, rfl, rfl, rfl⟩⟩
theorem KBw.trans {e : Nat} {M M1 M2 : Mm} (h : KBw e M M1) (k : KBw e M1 M2) : KBw e M M2 := by
  obtain ⟨h1, h2⟩ := h
  obtain ⟨k1, k2⟩ := k
  refine ⟨Nat.le_trans h1 k1, fun b h3 h4 h5 => ?_⟩
  have g := h2 b h3 h4 h5
  exact g.trans (k2 b h3 (by omega) (by rw [g.1]; exact h5))
theorem FrB.kb {a e : Nat} {M M' : Mm} (f : FrB a M M') (h : a < e) : KBw e M M' := ⟨f.1, fun b h1 h2 h3 => f.2 b h2 (Or.inr ⟨by omega, h3⟩)⟩
theorem FrG.kb {e lo hi : Nat} {M M' : Mm} (f : FrG lo hi M M') (h : hi ≤ e) : KBw e M M' := ⟨f.1, fun b h1 h2 _ => f.2 b h2 (by omega)⟩
theorem SBd.sm {a : Nat} {tx : List Nat} {M M' : Mm} (h : SBd a tx M) (hz : zn M ≤ zn M') (f : ∀ b, b < zn M → b = a ∨ zk M b = 9 → SM b M M') : SBd a tx M' := by
  obtain ⟨v, ⟨h1, h2, h3, h4⟩, ⟨h5, h6, h7, h8, h9⟩, h10, h11⟩ := h
  obtain ⟨a1, a2, a3, a4, a5⟩ := f a (by omega) (Or.inl rfl)
  obtain ⟨b1, b2, b3, b4, b5⟩ := f v h9 (Or.inr h5)
  exact ⟨v, ⟨by rw [a1]; exact h1, by rw [a5]; exact h2, by rw [a3]; exact h3, by rw [a3]; exact h4⟩, ⟨by rw [b1]; exact h5, by rw [b2]; exact h6, by rw [b2]; exact h7, h8, by omega⟩, by rw [b2, b3]; exact h10, by rw [b3]; exact h11⟩
theorem SBd.I {a c j : Nat} {v : Int32} {tx : List Nat} {M : Mm} (h : SBd a tx M) (h1 : c ≠ a) (h2 : zk M c ≠ 9) : SBd a tx (sI M c j v) := h.sm (Nat.le_refl _) fun b _ hb => by
  have e : b ≠ c := fun q => by
    rcases hb with z | z
    · exact h1 (q.symm.trans z)
    · rw [q] at z; exact h2 z
  exact ⟨rfl, rfl, zI_sIo _ _ _ _ e, rfl, rfl⟩
theorem SBd.R {a c j : Nat} {v : Option Nat} {tx : List Nat} {M : Mm} (h : SBd a tx M) (h1 : c ≠ a) (h2 : zk M c ≠ 9) : SBd a tx (sR M c j v) := h.sm (Nat.le_refl _) fun b _ hb => by
  have e : b ≠ c := fun q => by
    rcases hb with z | z
    · exact h1 (q.symm.trans z)
    · rw [q] at z; exact h2 z
  exact ⟨rfl, rfl, rfl, rfl, zR_sRo _ _ _ _ e⟩
theorem SBd.N {a k n : Nat} {tx : List Nat} {M : Mm} (h : SBd a tx M) : SBd a tx (sN M k n) := by
  have f : FrG (zn M) (zn M) M (sN M k n) := frg_N
  exact h.sm f.1 fun b hb _ => f.2 b hb (by omega)
def YL (x ga a e : Nat) (s : ST) (tx : List Nat) (G : Nat) (M : Mm) : Prop := (CI x s M ∧ OKs s) ∧ (x + 149 ≤ ga ∧ ga < a ∧ a < e ∧ e + 10 ≤ zn M) ∧ GA ga G M ∧ SBd a tx M
section YL
variable {x ga a e G : Nat} {s : ST} {tx t2 : List Nat} {M M' : Mm}
theorem YL.fb (h : YL x ga a e s tx G M) (f : FrB a M M') (k : SBd a t2 M') : YL x ga a e s t2 G M' ∧ KBw e M M' := by
  obtain ⟨⟨c1, c2⟩, ⟨h1, h2, h3, h4⟩, h5, h6⟩ := h
  have g : FrG a (zn M) M M' := ⟨f.1, fun b hb hn => f.2 b hb (Or.inl (by omega))⟩
  have z := f.1
  exact ⟨⟨⟨c1.frg g (by omega) (by omega), c2⟩, ⟨h1, h2, h3, by omega⟩, h5.fr g (by omega) (by omega), k⟩, f.kb h3⟩
theorem YL.up {lo hi : Nat} (h : YL x ga a e s tx G M) (f : FrG lo hi M M') (hl : e ≤ lo) (k : SBd a tx M') : YL x ga a e s tx G M' := by
  obtain ⟨⟨c1, c2⟩, ⟨h1, h2, h3, h4⟩, h5, h6⟩ := h
  have z := f.1
  exact ⟨⟨c1.frg f (by omega) (by omega), c2⟩, ⟨h1, h2, h3, by omega⟩, h5.fr f (by omega) (by omega), k⟩
theorem YL.I (h : YL x ga a e s tx G M) {c j : Nat} {v : Int32} (hc : e ≤ c) (h9 : zk M c ≠ 9) : YL x ga a e s tx G (sI M c j v) := by
  have := h.2.1
  exact h.up (lo := c) (hi := c + 1) (frg_I (by omega)) hc (h.2.2.2.I (by omega) h9)
theorem YL.R (h : YL x ga a e s tx G M) {c j : Nat} {v : Option Nat} (hc : e ≤ c) (h9 : zk M c ≠ 9) : YL x ga a e s tx G (sR M c j v) := by
  have := h.2.1
  exact h.up (lo := c) (hi := c + 1) (frg_R (by omega)) hc (h.2.2.2.R (by omega) h9)
theorem YL.N (h : YL x ga a e s tx G M) {k n : Nat} : YL x ga a e s tx G (sN M k n) := h.up (lo := e) (hi := e) frg_N (Nat.le_refl _) h.2.2.2.N
theorem YL.k16 (h : YL x ga a e s tx G M) : zk M a = 16 := by
  obtain ⟨-, -, -, v, ⟨h1, -⟩, -⟩ := h
  exact h1
theorem YL.dr (h : YL x ga a e s tx G M) {m : Nat} (h1 : 1 ≤ m) (hm : m < 2 ^ 31) (P : Int32 → Mm → Prop) (K : ∀ M', YL x ga a e s tx (nx G) M' → KBw e M M' → P (nI (drw G m)) M') : w_L_draw M ga (nI m) P := by
  obtain ⟨⟨c1, c2⟩, ⟨h1', h2, h3, h4⟩, h5, h6⟩ := h
  have f : FrG ga (ga + 1) M (sI M ga 0 (nI (nx G))) := frg_I (by omega)
  have g9 : zk M ga ≠ 9 := by rw [h5.1.1]; decide
  exact s_L_draw h5 h1 hm P fun g => K _ ⟨⟨c1.frg f (by omega) (by omega), c2⟩, ⟨h1', h2, h3, h4⟩, g, h6.I (by omega) g9⟩ (f.kb (by omega))
theorem YL.aC (h : YL x ga a e s tx G M) {k : Nat} (hk : k < 128) (hn : tx.length ≤ 600) (P : Option Nat → Mm → Prop) (K : ∀ M', YL x ga a e s (tx ++ [k]) G M' → KBw e M M' → P (some a) M') : w_J4_append_cf468 M a (nI k) P :=
  s_appC h.2.2.2 hk hn P fun M1 b f => K M1 (h.fb f b).1 (h.fb f b).2
theorem YL.aS (h : YL x ga a e s tx G M) {i : Nat} (hi : i < 12) (h6 : 6 ≤ i) (hn : tx.length ≤ 600) (P : Option Nat → Mm → Prop) (K : ∀ M', YL x ga a e s (tx ++ tc i) G M' → KBw e M M' → P (some a) M') : w_J4_append_15ec4_AS M a i P :=
  s_appS h.2.2.2 hi h6 hn P fun M1 b f => K M1 (h.fb f b).1 (h.fb f b).2
theorem YL.aI (h : YL x ga a e s tx G M) {k : Nat} (hk : k < 1000) (hn : tx.length ≤ 600) (P : Option Nat → Mm → Prop) (K : ∀ M', YL x ga a e s (tx ++ dig k) G M' → KBw e M M' → P (some a) M') : w_J4_append_bf812 M a (nI k) P :=
  s_appI h.2.2.2 hk hn P fun M1 b f => K M1 (h.fb f b).1 (h.fb f b).2
theorem YL.aN (h : YL x ga a e s tx G M) {k : Nat} (hk : k < 20) (hn : tx.length ≤ 600) {X1 X2 : Prop} (x1 : X1) (x2 : X2) (P : Option Nat → Mm → Prop) (K : ∀ M', YL x ga a e s (tx ++ [97 + k]) G M' → KBw e M M' → P (some a) M') : w_L_name M (nI k) (fun r N => ∃ c, r = some c ∧ X1 ∧ X2 ∧ zk N a = 16 ∧ w_J4_append_15ec4_AA N a c P) := by
  have hz := h.2.1
  refine s_name hk (a := a) (by omega) h.2.2.2 _ fun c M1 s1 f1 b1 hc1 hc2 hd => ?_
  obtain ⟨y1, k1⟩ := h.fb f1 b1
  exact ⟨c, rfl, x1, x2, y1.k16, s_appA b1 s1 (by show 1 ≤ 20; omega) hn hc1 hd hc2 P fun M2 b2 f2 => K M2 (y1.fb f2 b2).1 (k1.trans (y1.fb f2 b2).2)⟩
end YL
/-- the season's cells: n its numbers, sg and ct what is told; rows lie below z -/
def BSw (e z : Nat) (n sg ct : Nat → Nat) (M : Mm) : Prop := (z ≤ zn M ∧ e + 10 ≤ z ∧ LSh e M) ∧ (∀ i, i < 7 → zI M e i = nI (n i)) ∧ (∀ k, k < sg 1 → zI M (e + 1) k = nI (sg (6 + k))) ∧ (∀ p, p < 8 → zI M (e + 4) p = nI (oP sg p 1)) ∧
  (∀ p, p < sg 2 → (zI M (e + 2) p = nI (oP sg p 0) ∧ zI M (e + 3) p = nI (ct p)) ∧ ∃ r, zR M (e + 5) p = some r ∧ r < z ∧ Row e r (oP sg p 2) (fun j => oP sg p (3 + j)) M) ∧
  ∀ w, w < sg 3 → (∃ r, zR M (e + 6) w = some r ∧ r < z ∧ Row e r 4 (fun j => oW sg w j) M) ∧ ∃ r, zR M (e + 7) w = some r ∧ r < z ∧ Row e r (oW sg w 4) (fun j => oW sg w (5 + j)) M
section BSw
variable {e z z2 : Nat} {n n2 sg ct : Nat → Nat} {M M' : Mm}
theorem Row.sm {r k : Nat} {f : Nat → Nat} (h : Row e r k f M) (hz : zn M ≤ zn M') (q : SM r M M') : Row e r k f M' := by
  obtain ⟨⟨h1, h2⟩, h3, h4⟩ := h
  exact ⟨⟨h1, Nat.lt_of_lt_of_le h2 hz⟩, by rw [q.1, q.2.1]; exact h3, by rw [q.2.2.1]; exact h4⟩
theorem BSw.up (h : BSw e z n sg ct M) (hz : zn M ≤ zn M') (hs : LSh e M') (h0 : ∀ i, i < 7 → zI M' e i = nI (n2 i)) (h1 : ∀ k, k < sg 1 → zI M' (e + 1) k = zI M (e + 1) k) (h4 : ∀ p, p < 8 → zI M' (e + 4) p = zI M (e + 4) p) (h2 : ∀ p, p < sg 2 → zI M' (e + 2) p = zI M (e + 2) p ∧ zI M' (e + 3) p = zI M (e + 3) p ∧ zR M' (e + 5) p = zR M (e + 5) p) (h3 : ∀ w, w < sg 3 → zR M' (e + 6) w = zR M (e + 6) w ∧ zR M' (e + 7) w = zR M (e + 7) w) (hr : ∀ r, e + 10 ≤ r → r < z → SM r M M') : BSw e z n2 sg ct M' := by
  obtain ⟨⟨a1, a2, a3⟩, a4, a5, a6, a7, a8⟩ := h
  refine ⟨⟨Nat.le_trans a1 hz, a2, hs⟩, h0, fun k hk => (h1 k hk).trans (a5 k hk), fun p hp => (h4 p hp).trans (a6 p hp), fun p hp => ?_, fun w hw => ?_⟩
  · obtain ⟨⟨b1, b2⟩, r, b3, b4, b5⟩ := a7 p hp
    obtain ⟨c1, c2, c3⟩ := h2 p hp
    exact ⟨⟨c1.trans b1, c2.trans b2⟩, r, c3.trans b3, b4, b5.sm hz (hr r b5.1.1 b4)⟩
  · obtain ⟨⟨r, b3, b4, b5⟩, q, b6, b7, b8⟩ := a8 w hw
    obtain ⟨c1, c2⟩ := h3 w hw
    exact ⟨⟨r, c1.trans b3, b4, b5.sm hz (hr r b5.1.1 b4)⟩, q, c2.trans b6, b7, b8.sm hz (hr q b8.1.1 b7)⟩
theorem LSh.k9 (h : LSh e M) : ∀ k, k < 10 → zk M (e + k) ≠ 9 := by
  obtain ⟨⟨h0, -⟩, ⟨h1, h2, h3, h4, h5, h6, h7, h8, h9⟩, -⟩ := h
  intro k hk
  have c : k = 0 ∨ k = 1 ∨ k = 2 ∨ k = 3 ∨ k = 4 ∨ k = 5 ∨ k = 6 ∨ k = 7 ∨ k = 8 ∨ k = 9 := by omega
  rcases c with rfl | rfl | rfl | rfl | rfl | rfl | rfl | rfl | rfl | rfl
  · rw [Nat.add_zero, h0]; decide
  · rw [h1]; decide
  · rw [h2]; decide
  · rw [h3]; decide
  · rw [h4]; decide
  · rw [h5]; decide
  · rw [h6]; decide
  · rw [h7]; decide
  · rw [h8]; decide
  · rw [h9]; decide
theorem LSh.sm (h : LSh e M) (f : ∀ k, k < 10 → SM (e + k) M M') : LSh e M' := by
  unfold LSh at h ⊢
  have f0 : SM e M M' := f 0 (by omega)
  rw [f0.1, f0.2.2.2.2, (f 1 (by omega)).1, (f 2 (by omega)).1, (f 3 (by omega)).1, (f 4 (by omega)).1, (f 5 (by omega)).1, (f 6 (by omega)).1, (f 7 (by omega)).1, (f 8 (by omega)).1, (f 9 (by omega)).1,
    (f 1 (by omega)).2.1, (f 2 (by omega)).2.1, (f 3 (by omega)).2.1, (f 4 (by omega)).2.1, (f 5 (by omega)).2.1, (f 6 (by omega)).2.1, (f 7 (by omega)).2.1, (f 8 (by omega)).2.1, (f 9 (by omega)).2.1]
  exact h
theorem KBw.s (f : KBw e M M') (h : LSh e M) (hz : e + 10 ≤ zn M) : ∀ k, k < 10 → SM (e + k) M M' := fun k hk => f.2 _ (by omega) (by omega) (h.k9 k hk)
theorem BSw.sh (h : BSw e z n sg ct M) : LSh e M := h.1.2.2
theorem BSw.row9 (h : BSw e z n sg ct M) : ∀ k, k < 10 → zk M (e + k) ≠ 9 := h.sh.k9
/-- draws and text -/
theorem BSw.kb (h : BSw e z n sg ct M) (f : KBw e M M') : BSw e z n sg ct M' := by
  have h0 := h.1
  have s := f.s h.sh (by omega)
  have s0 : SM e M M' := s 0 (by omega)
  obtain ⟨-, a4, a5, a6, a7, a8⟩ := h
  refine ⟨⟨Nat.le_trans h0.1 f.1, h0.2.1, h0.2.2.sm s⟩, fun i hi => by rw [s0.2.2.1]; exact a4 i hi, fun k hk => by rw [(s 1 (by omega)).2.2.1]; exact a5 k hk, fun p hp => by rw [(s 4 (by omega)).2.2.1]; exact a6 p hp, fun p hp => ?_, fun w hw => ?_⟩
  · obtain ⟨b1, r, b3, b4, b5⟩ := a7 p hp
    rw [(s 2 (by omega)).2.2.1, (s 3 (by omega)).2.2.1, (s 5 (by omega)).2.2.2.2]
    exact ⟨b1, r, b3, b4, b5.sm f.1 (f.2 r (by have := b5.1; omega) b5.1.2 (by rw [b5.2.1.1]; decide))⟩
  · obtain ⟨⟨r, b3, b4, b5⟩, q, b6, b7, b8⟩ := a8 w hw
    rw [(s 6 (by omega)).2.2.2.2, (s 7 (by omega)).2.2.2.2]
    exact ⟨⟨r, b3, b4, b5.sm f.1 (f.2 r (by have := b5.1; omega) b5.1.2 (by rw [b5.2.1.1]; decide))⟩, q, b6, b7, b8.sm f.1 (f.2 q (by have := b8.1; omega) b8.1.2 (by rw [b8.2.1.1]; decide))⟩
/-- a new row -/
theorem BSw.N (h : BSw e z n sg ct M) {k l : Nat} : BSw e z n sg ct (sN M k l) := by
  have f : FrG (zn M) (zn M) M (sN M k l) := frg_N
  have h0 := h.1
  exact h.kb ⟨f.1, fun b _ hb _ => f.2 b hb (by omega)⟩
theorem BSw.mono (h : BSw e z n sg ct M) (h1 : z ≤ z2) (h2 : z2 ≤ zn M) : BSw e z2 n sg ct M := by
  obtain ⟨a1, a4, a5, a6, a7, a8⟩ := h
  refine ⟨⟨h2, by omega, a1.2.2⟩, a4, a5, a6, fun p hp => ?_, fun w hw => ?_⟩
  · obtain ⟨b1, r, b3, b4, b5⟩ := a7 p hp
    exact ⟨b1, r, b3, by omega, b5⟩
  · obtain ⟨⟨r, b3, b4, b5⟩, q, b6, b7, b8⟩ := a8 w hw
    exact ⟨⟨r, b3, by omega, b5⟩, q, b6, by omega, b8⟩
/-- a cell of a new row -/
theorem BSw.I (h : BSw e z n sg ct M) {c j : Nat} {v : Int32} (hc : z ≤ c) : BSw e z n sg ct (sI M c j v) := by
  have h0 := h.1
  exact h.up (Nat.le_refl _) (M' := sI M c j v) h.sh (fun i hi => by rw [zI_sIo _ _ _ _ (by omega)]; exact h.2.1 i hi) (fun k _ => by rw [zI_sIo _ _ _ _ (by omega)]) (fun p _ => by rw [zI_sIo _ _ _ _ (by omega)]) (fun p _ => ⟨by rw [zI_sIo _ _ _ _ (by omega)], by rw [zI_sIo _ _ _ _ (by omega)], rfl⟩) (fun w _ => ⟨rfl, rfl⟩) fun r h1 h2 => ⟨rfl, rfl, zI_sIo _ _ _ _ (by omega), rfl, rfl⟩
/-- a number -/
theorem BSw.num (h : BSw e z n sg ct M) {i v : Nat} : BSw e z (ups n i v) sg ct (sI M e i (nI v)) := by
  have h0 := h.1
  refine h.up (Nat.le_refl _) (M' := sI M e i (nI v)) h.sh (fun k hk => ?_) (fun k _ => by rw [zI_sIo _ _ _ _ (by omega)]) (fun p _ => by rw [zI_sIo _ _ _ _ (by omega)]) (fun p _ => ⟨by rw [zI_sIo _ _ _ _ (by omega)], by rw [zI_sIo _ _ _ _ (by omega)], rfl⟩) (fun w _ => ⟨rfl, rfl⟩) fun r h1 h2 => ⟨rfl, rfl, zI_sIo _ _ _ _ (by omega), rfl, rfl⟩
  by_cases c : k = i
  · rw [c, zI_sI1, ups_1]
  · rw [zI_sI2 _ _ _ _ c, ups_o _ _ _ c]; exact h.2.1 k hk
/-- a hall's change time, ahead of its count -/
theorem BSw.I1 (h : BSw e z n sg ct M) {j : Nat} {v : Int32} (hj : sg 1 ≤ j) : BSw e z n sg ct (sI M (e + 1) j v) := by
  have h0 := h.1
  exact h.up (Nat.le_refl _) (M' := sI M (e + 1) j v) h.sh (fun i hi => by rw [zI_sIo _ _ _ _ (by omega)]; exact h.2.1 i hi) (fun k _ => by rw [zI_sI2 _ _ _ _ (by omega)]) (fun p _ => by rw [zI_sIo _ _ _ _ (by omega)]) (fun p _ => ⟨by rw [zI_sIo _ _ _ _ (by omega)], by rw [zI_sIo _ _ _ _ (by omega)], rfl⟩) (fun w _ => ⟨rfl, rfl⟩) fun r h1 h2 => ⟨rfl, rfl, zI_sIo _ _ _ _ (by omega), rfl, rfl⟩
/-- a player's fee, turns, instruments, ahead of the count -/
theorem BSw.I2 (h : BSw e z n sg ct M) {j : Nat} {v : Int32} (hj : sg 2 ≤ j) : BSw e z n sg ct (sI M (e + 2) j v) := by
  have h0 := h.1
  exact h.up (Nat.le_refl _) (M' := sI M (e + 2) j v) h.sh (fun i hi => by rw [zI_sIo _ _ _ _ (by omega)]; exact h.2.1 i hi) (fun k _ => by rw [zI_sIo _ _ _ _ (by omega)]) (fun p _ => by rw [zI_sIo _ _ _ _ (by omega)]) (fun p _ => ⟨by rw [zI_sI2 _ _ _ _ (by omega)], by rw [zI_sIo _ _ _ _ (by omega)], rfl⟩) (fun w _ => ⟨rfl, rfl⟩) fun r h1 h2 => ⟨rfl, rfl, zI_sIo _ _ _ _ (by omega), rfl, rfl⟩
theorem BSw.I3 (h : BSw e z n sg ct M) {j : Nat} {v : Int32} (hj : sg 2 ≤ j) : BSw e z n sg ct (sI M (e + 3) j v) := by
  have h0 := h.1
  exact h.up (Nat.le_refl _) (M' := sI M (e + 3) j v) h.sh (fun i hi => by rw [zI_sIo _ _ _ _ (by omega)]; exact h.2.1 i hi) (fun k _ => by rw [zI_sIo _ _ _ _ (by omega)]) (fun p _ => by rw [zI_sIo _ _ _ _ (by omega)]) (fun p _ => ⟨by rw [zI_sIo _ _ _ _ (by omega)], by rw [zI_sI2 _ _ _ _ (by omega)], rfl⟩) (fun w _ => ⟨rfl, rfl⟩) fun r h1 h2 => ⟨rfl, rfl, zI_sIo _ _ _ _ (by omega), rfl, rfl⟩
theorem LSh.R (h : LSh e M) {c j : Nat} {v : Option Nat} (hc : c ≠ e) : LSh e (sR M c j v) := by
  unfold LSh at h ⊢
  rw [zR_sRo M c j v (fun q => hc q.symm), zk_sR, zl_sR]
  exact h
theorem BSw.R5 (h : BSw e z n sg ct M) {j : Nat} {v : Option Nat} (hj : sg 2 ≤ j) : BSw e z n sg ct (sR M (e + 5) j v) := by
  have h0 := h.1
  exact h.up (Nat.le_refl _) (M' := sR M (e + 5) j v) (h.sh.R (by omega)) h.2.1 (fun k _ => rfl) (fun p _ => rfl) (fun p _ => ⟨rfl, rfl, by rw [zR_sR2 _ _ _ _ (by omega)]⟩) (fun w _ => ⟨by rw [zR_sRo _ _ _ _ (by omega)], by rw [zR_sRo _ _ _ _ (by omega)]⟩) fun r h1 h2 => ⟨rfl, rfl, rfl, rfl, zR_sRo _ _ _ _ (by omega)⟩
theorem BSw.R6 (h : BSw e z n sg ct M) {j : Nat} {v : Option Nat} (hj : sg 3 ≤ j) : BSw e z n sg ct (sR M (e + 6) j v) := by
  have h0 := h.1
  exact h.up (Nat.le_refl _) (M' := sR M (e + 6) j v) (h.sh.R (by omega)) h.2.1 (fun k _ => rfl) (fun p _ => rfl) (fun p _ => ⟨rfl, rfl, by rw [zR_sRo _ _ _ _ (by omega)]⟩) (fun w _ => ⟨by rw [zR_sR2 _ _ _ _ (by omega)], by rw [zR_sRo _ _ _ _ (by omega)]⟩) fun r h1 h2 => ⟨rfl, rfl, rfl, rfl, zR_sRo _ _ _ _ (by omega)⟩
theorem BSw.R7 (h : BSw e z n sg ct M) {j : Nat} {v : Option Nat} (hj : sg 3 ≤ j) : BSw e z n sg ct (sR M (e + 7) j v) := by
  have h0 := h.1
  exact h.up (Nat.le_refl _) (M' := sR M (e + 7) j v) (h.sh.R (by omega)) h.2.1 (fun k _ => rfl) (fun p _ => rfl) (fun p _ => ⟨rfl, rfl, by rw [zR_sRo _ _ _ _ (by omega)]⟩) (fun w _ => ⟨by rw [zR_sRo _ _ _ _ (by omega)], by rw [zR_sR2 _ _ _ _ (by omega)]⟩) fun r h1 h2 => ⟨rfl, rfl, rfl, rfl, zR_sRo _ _ _ _ (by omega)⟩
/-- a hall more -/
theorem BSw.hall (h : BSw e z n sg ct M) {v : Nat} (hv : zI M (e + 1) (sg 1) = nI v) (h3 : sg 1 < 3) : BSw e z n (hallS sg v) ct M := by
  obtain ⟨a1, a4, a5, a6, a7, a8⟩ := h
  have o : ∀ k, k ≠ 1 → k ≠ 6 + sg 1 → hallS sg v k = sg k := fun k h1 h2 => hallS_oo h1 h2
  have e1 : hallS sg v 1 = sg 1 + 1 := ups_1 _ _ _
  have e6 : hallS sg v (6 + sg 1) = v := by
    unfold hallS
    rw [ups_o _ _ _ (by omega), ups_1]
  refine ⟨a1, a4, fun k hk => ?_, fun p hp => ?_, fun p hp => ?_, fun w hw => ?_⟩
  · rw [e1] at hk
    by_cases c : k = sg 1
    · rw [c, e6]; exact hv
    · rw [o _ (by omega) (by omega)]; exact a5 k (by omega)
  · have q := a6 p hp
    show _ = nI (hallS sg v (9 + 7 * p + 1))
    rw [o _ (by omega) (by omega)]; exact q
  · rw [o 2 (by omega) (by omega)] at hp
    obtain ⟨⟨b1, b2⟩, r, b3, b4, b5⟩ := a7 p hp
    refine ⟨⟨?_, b2⟩, r, b3, b4, ?_⟩
    · show _ = nI (hallS sg v (9 + 7 * p + 0))
      rw [o _ (by omega) (by omega)]; exact b1
    · have c2 : oP (hallS sg v) p 2 = oP sg p 2 := o _ (by omega) (by omega)
      rw [c2]
      exact b5.ext fun j _ => (o (9 + 7 * p + (3 + j)) (by omega) (by omega)).symm
  · rw [o 3 (by omega) (by omega)] at hw
    obtain ⟨⟨r, b3, b4, b5⟩, q, b6, b7, b8⟩ := a8 w hw
    have c4 : oW (hallS sg v) w 4 = oW sg w 4 := o _ (by omega) (by omega)
    rw [c4]
    exact ⟨⟨r, b3, b4, b5.ext fun j _ => (o (65 + 11 * w + j) (by omega) (by omega)).symm⟩, q, b6, b7, b8.ext fun j _ => (o (65 + 11 * w + (5 + j)) (by omega) (by omega)).symm⟩
end BSw
