/-! THE SEASON IS BUILT: works -/
section LW
variable {x ga a e z G : Nat} {st : ST} {n sg ct : Nat → Nat} {t : List Nat} {M : Mm}
/-- a work more -/
theorem BSw.work (h : BSw e z n sg ct M) {A B C D r1 r2 : Nat} {l : List Nat} (h4 : sg 3 < 4) (h13 : sg 1 ≤ 3) (hp7 : sg 2 ≤ 7) (hq : Q2 sg) (hl : l.length ≤ 4) (hw : ∀ w, w < sg 3 → oW sg w 4 ≤ 4) (z4 : oW sg (sg 3) 4 = 0) (h6 : zR M (e + 6) (sg 3) = some r1) (q6 : Row e r1 4 (fun j => if j = 0 then A else if j = 1 then B else if j = 2 then C else D) M) (h7 : zR M (e + 7) (sg 3) = some r2) (q7 : Row e r2 l.length (fun j => l.getD j 0) M) : BSw e (zn M) n (wkS sg A B C D l) ct M := by
  obtain ⟨v3, ⟨va, vb, vc, vd⟩, v4, v5, vo⟩ := wkS_v (a := A) (b := B) (c := C) (d := D) (l := l) z4
  generalize wkS sg A B C D l = sq at v3 va vb vc vd v4 v5 vo ⊢
  have h := h.mono (z2 := zn M) h.1.1 (Nat.le_refl _)
  obtain ⟨a1, a4, a5, a6, a7, a8⟩ := h
  refine ⟨a1, a4, fun k hk => ?_, fun p hp => ?_, fun p hp => ?_, fun w hw2 => ?_⟩
  · rw [vo 1 (by omega) (by omega)] at hk
    rw [vo _ (by omega) (by omega)]; exact a5 k hk
  · show _ = nI (sq (9 + 7 * p + 1))
    rw [vo _ (by omega) (by omega)]; exact a6 p hp
  · rw [vo 2 (by omega) (by omega)] at hp
    obtain ⟨⟨b1, b2⟩, r, b3, b4, b5⟩ := a7 p hp
    refine ⟨⟨?_, b2⟩, r, b3, b4, ?_⟩
    · show _ = nI (sq (9 + 7 * p + 0))
      rw [vo _ (by omega) (by omega)]; exact b1
    · have c2 : oP sq p 2 = oP sg p 2 := vo _ (by omega) (by omega)
      have c5 := hq p hp
      rw [c2]
      exact b5.ext fun j hj => (vo (9 + 7 * p + (3 + j)) (by omega) (by omega)).symm
  · rw [v3] at hw2
    by_cases c : w = sg 3
    · subst c
      rw [v4]
      refine ⟨⟨r1, h6, q6.1.2, q6.ext fun j hj => ?_⟩, r2, h7, q7.1.2, q7.ext fun j hj => (v5 j hj).symm⟩
      have j4 : j = 0 ∨ j = 1 ∨ j = 2 ∨ j = 3 := by omega
      rcases j4 with rfl | rfl | rfl | rfl
      · exact va.symm
      · exact vb.symm
      · exact vc.symm
      · exact vd.symm
    · obtain ⟨⟨r, b3, b4, b5⟩, q, b6, b7, b8⟩ := a8 w (by omega)
      have c4 : oW sq w 4 = oW sg w 4 := vo _ (by omega) (by omega)
      have c5 := hw w (by omega)
      rw [c4]
      exact ⟨⟨r, b3, b4, b5.ext fun j _ => (vo (65 + 11 * w + j) (by omega) (by omega)).symm⟩, q, b6, b7, b8.ext fun j _ => (vo (65 + 11 * w + (5 + j)) (by omega) (by omega)).symm⟩
/-- the four numbers of a work are told -/
def numT (f : Nat → Nat) : Nat → List Nat
  | 0 => []
  | k + 1 => numT f k ++ (32 :: dig (f k))
theorem numT_l (f : Nat → Nat) (h : ∀ k, k < 4 → f k < 1000) : ∀ k, k ≤ 4 → (numT f k).length ≤ 4 * k := by
  intro k
  induction k with
  | zero => exact fun _ => Nat.le_refl _
  | succ k ih =>
    intro hk
    have q := ih (by omega)
    have d := dig3 (h k (by omega))
    show (numT f k ++ (32 :: dig (f k))).length ≤ _
    rw [List.length_append, List.length_cons]
    omega
theorem s_nums {w r : Nat} {f : Nat → Nat} (hf : ∀ k, k < 4 → f k < 1000) (y : YL x ga a e st t G M) (q6 : Row e r 4 f M) (ht : t.length ≤ 500) {B S1 b s : Nat} {P : Option Nat → Mm → Prop} {K526 : Mm → Nat → Nat → Nat → Nat → Nat → Int32 → Prop} (hB : b + 2 * 4 ≤ B) (hS1 : s + 2800 * 4 ≤ S1)
    (K : ∀ M' b' s', b' ≤ b + 2 * 4 → s' ≤ s + 2800 * 4 → YL x ga a e st (t ++ numT f 4) G M' → KBw e M M' → K526 M' b' s' a ga e (nI w)) : ∃ m, l_L_season_494 B S1 P K526 m M b s a ga e (nI w) r (nI 4) (0 : Int32) := by
  refine lpI (fun m (z : Mm × Nat × Nat × Int32) => l_L_season_494 B S1 P K526 m z.1 z.2.1 z.2.2.1 a ga e (nI w) r (nI 4) z.2.2.2) (fun k q => YL x ga a e st (t ++ numT f k) G q.1 ∧ KBw e M q.1 ∧ q.2.1 ≤ b + 2 * k ∧ q.2.2.1 ≤ s + 2800 * k ∧ q.2.2.2 = nI k) 4 (fun m q hq => ?_) (fun m k q hk hq LL => ?_) (M, b, s, 0) ⟨by show YL x ga a e st (t ++ []) G M; rw [List.append_nil]; exact y, KBw.rf, Nat.le_refl _, Nat.le_refl _, rfl⟩
  · obtain ⟨M1, b1, s1, x3⟩ := q
    obtain ⟨y1, g1, e1, e2, e3⟩ := hq
    simp only at y1 g1 e1 e2 e3
    subst e3
    show l_L_season_494 B S1 P K526 (m + 1) M1 b1 s1 a ga e (nI w) r (nI 4) (nI 4)
    rw [l_L_season_494]
    exact ifp (nI_le (Nat.le_refl _) (by omega)) (K M1 b1 s1 e1 e2 y1 g1)
  · obtain ⟨M1, b1, s1, x3⟩ := q
    obtain ⟨y1, g1, e1, e2, e3⟩ := hq
    simp only at y1 g1 e1 e2 e3
    subst e3
    have q1 := q6.sm g1.1 (g1.2 r (by have := q6.1; omega) q6.1.2 (by rw [q6.2.1.1]; decide))
    have lk := numT_l f hf k (by omega)
    have lt : (t ++ numT f k).length ≤ 520 := by rw [List.length_append]; omega
    have lt2 : ((t ++ numT f k) ++ [32]).length ≤ 521 := by
      rw [List.length_append]
      show _ + 1 ≤ _
      omega
    show l_L_season_494 B S1 P K526 (m + 1) M1 b1 s1 a ga e (nI w) r (nI 4) (nI k)
    rw [l_L_season_494, show (32 : Int32) = nI 32 from rfl]
    refine ifn (nI_ge hk (by omega)) ⟨q1.2.1.1, by rw [q1.2.1.2]; exact vp_in_nI hk (by omega), by omega, by omega, y1.k16, y1.aC (by omega) (by omega) _ fun M2 y2 f2 => ⟨a, rfl, by omega, by omega, y2.k16, ?_⟩⟩
    rw [nI_clamp (by omega), show zI M1 r k = nI (f k) from q1.2.2 k hk]
    refine y2.aI (hf k hk) (by omega) _ fun M3 y3 f3 => ⟨a, rfl, ?_⟩
    rw [List.append_assoc] at y3
    rw [List.append_assoc] at y3
    rw [show (1 : Int32) = nI 1 from rfl, nI_add]
    exact LL (M3, _, _, _) ⟨y3, g1.trans (f2.trans f3), by show b1 + 1 + 1 ≤ _; omega, by show s1 + 1400 + 1400 ≤ _; omega, rfl⟩
end LW
section LQ
variable {x ga a e z G : Nat} {st : ST} {n sg ct : Nat → Nat} {t : List Nat} {M : Mm}
/-- the seats drawn so far -/
def sts (G m : Nat) : Nat → List Nat
  | 0 => []
  | k + 1 => sts G m k ++ [drw (nxn G k) m]
theorem sts_l (G m k : Nat) : (sts G m k).length = k := by
  induction k with
  | zero => rfl
  | succ k ih =>
    show (sts G m k ++ [drw (nxn G k) m]).length = k + 1
    rw [List.length_append, ih]; rfl
/-- a row at r in the making: its first k cells -/
def RwK (e w r L : Nat) (l : List Nat) (M : Mm) : Prop := zR M (e + 7) w = some r ∧ (e + 10 ≤ r ∧ r < zn M) ∧ (zk M r = 10 ∧ zl M r = L) ∧ ∀ j, j < l.length → zI M r j = nI (l.getD j 0)
theorem RwK.kb {w r L : Nat} {l : List Nat} {M' : Mm} (h : RwK e w r L l M) (s : LSh e M) (f : KBw e M M') : RwK e w r L l M' := by
  obtain ⟨h1, ⟨h2, h3⟩, ⟨h4, h5⟩, h6⟩ := h
  have q := f.2 r (by omega) h3 (by rw [h4]; decide)
  have q7 := f.s s (by omega) 7 (by omega)
  exact ⟨by rw [q7.2.2.2.2]; exact h1, ⟨h2, Nat.lt_of_lt_of_le h3 f.1⟩, ⟨by rw [q.1]; exact h4, by rw [q.2.1]; exact h5⟩, by rw [q.2.2.1]; exact h6⟩
theorem RwK.push {w r L v : Nat} {l : List Nat} (h : RwK e w r L l M) : RwK e w r L (l ++ [v]) (sI M r l.length (nI v)) := by
  obtain ⟨h1, h2, h3, h6⟩ := h
  refine ⟨h1, h2, h3, fun j hj => ?_⟩
  rw [List.length_append] at hj
  have hj : j < l.length + 1 := hj
  by_cases c : j = l.length
  · rw [c, zI_sI1, getD_r (Nat.le_refl _), Nat.sub_self]; rfl
  · rw [zI_sI2 _ _ _ _ c, getD_l (by omega)]; exact h6 j (by omega)
end LQ
