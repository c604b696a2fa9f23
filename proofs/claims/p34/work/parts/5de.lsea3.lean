/-! THE SEASON IS BUILT: absences -/
section LA
variable {x ga a e z G : Nat} {st : ST} {n sg ct : Nat → Nat} {t : List Nat} {M : Mm}
theorem absT_e (t : List Nat) (k d : Nat) : ((((t ++ tc 10) ++ [97 + k]) ++ [32]) ++ dig d) ++ [59] = t ++ absT k d := by
  unfold absT
  rw [List.append_assoc, List.append_assoc, List.append_assoc, List.append_assoc]
  rfl
theorem BSw.abs (h : BSw e z n sg ct M) {k v : Nat} (h13 : sg 1 ≤ 3) (hk : k < 7) (hp7 : sg 2 ≤ 7) (hq : Q2 sg) : BSw e z n (ups sg (9 + 7 * k + 1) v) ct (sI M (e + 4) k (nI v)) := by
  have h0 := h.1
  obtain ⟨a1, a4, a5, a6, a7, a8⟩ := h
  have o : ∀ j, j ≠ 9 + 7 * k + 1 → ups sg (9 + 7 * k + 1) v j = sg j := fun j hj => ups_o _ _ _ hj
  have v1 : ups sg (9 + 7 * k + 1) v (9 + 7 * k + 1) = v := ups_1 _ _ _
  generalize ups sg (9 + 7 * k + 1) v = sq at o v1 ⊢
  have sm : ∀ r, e + 10 ≤ r → SM r M (sI M (e + 4) k (nI v)) := fun r hr => ⟨rfl, rfl, zI_sIo _ _ _ _ (by omega), rfl, rfl⟩
  refine ⟨⟨a1.1, a1.2.1, a1.2.2⟩, fun i hi => by rw [zI_sIo _ _ _ _ (by omega)]; exact a4 i hi, fun j hj => ?_, fun p hp => ?_, fun p hp => ?_, fun w hw => ?_⟩
  · rw [o 1 (by omega)] at hj
    rw [zI_sIo _ _ _ _ (by omega), o _ (by omega)]; exact a5 j hj
  · by_cases c : p = k
    · rw [c, zI_sI1]
      show nI v = nI (sq (9 + 7 * k + 1))
      rw [v1]
    · rw [zI_sI2 _ _ _ _ c]
      show _ = nI (sq (9 + 7 * p + 1))
      rw [o _ (by omega)]; exact a6 p hp
  · rw [o 2 (by omega)] at hp
    obtain ⟨⟨b1, b2⟩, r, b3, b4, b5⟩ := a7 p hp
    rw [zI_sIo _ _ _ _ (by omega), zI_sIo _ _ _ _ (by omega)]
    refine ⟨⟨?_, b2⟩, r, b3, b4, ?_⟩
    · show _ = nI (sq (9 + 7 * p + 0))
      rw [o _ (by omega)]; exact b1
    · have c2 : oP sq p 2 = oP sg p 2 := o _ (by omega)
      have c5 := hq p hp
      rw [c2]
      exact (b5.sm (M' := sI M (e + 4) k (nI v)) (Nat.le_refl _) (sm r b5.1.1)).ext fun j hj => (o (9 + 7 * p + (3 + j)) (by omega)).symm
  · rw [o 3 (by omega)] at hw
    obtain ⟨⟨r, b3, b4, b5⟩, q, b6, b7, b8⟩ := a8 w hw
    have c4 : oW sq w 4 = oW sg w 4 := o _ (by omega)
    rw [c4]
    exact ⟨⟨r, b3, b4, (b5.sm (M' := sI M (e + 4) k (nI v)) (Nat.le_refl _) (sm r b5.1.1)).ext fun j _ => (o (65 + 11 * w + j) (by omega)).symm⟩, q, b6, b7, (b8.sm (M' := sI M (e + 4) k (nI v)) (Nat.le_refl _) (sm q b8.1.1)).ext fun j _ => (o (65 + 11 * w + (5 + j)) (by omega)).symm⟩
theorem s_abs (y : YL x ga a e st t G M) (h : BSw e z n sg ct M) {k : Nat} (hk : k < n 2) (hn7 : n 2 ≤ 7) (hn0 : n 0 = sg 0) (hs0 : 1 ≤ sg 0 ∧ sg 0 ≤ 7) (h13 : sg 1 ≤ 3) (hp7 : sg 2 ≤ 7) (hq : Q2 sg) (ht : t.length ≤ 500) {B S1 b s m : Nat} {P : Option Nat → Mm → Prop} {K675 : Mm → Nat → Nat → Nat → Nat → Nat → Prop} (hB : b + 7 ≤ B) (hS1 : s + 7005 ≤ S1)
    (K1 : drw G 4 = 0 → ∀ M', YL x ga a e st (t ++ absT k (drw (nx G) (sg 0))) (nx (nx G)) M' → BSw e z n (ups sg (9 + 7 * k + 1) (2 ^ drw (nx G) (sg 0))) ct M' → l_L_season_601 B S1 P K675 m M' (b + 7) (s + 7005) a ga e (nI (k + 1)))
    (K2 : drw G 4 ≠ 0 → ∀ M', YL x ga a e st t (nx G) M' → BSw e z n sg ct M' → l_L_season_601 B S1 P K675 m M' b s a ga e (nI (k + 1))) : l_L_season_601 B S1 P K675 (m + 1) M b s a ga e (nI k) := by
  have h1 := h.sh
  have a0 := h.1
  rw [l_L_season_601, h.2.1 2 (by omega), show nI k + (1 : Int32) = nI (k + 1) by rw [show (1 : Int32) = nI 1 from rfl, nI_add]]
  refine ⟨h1.1.1, ifn (nI_ge hk (by omega)) ?_⟩
  rw [show (4 : Int32) = nI 4 from rfl]
  have d4 := drw_lt G (show 1 ≤ 4 by omega)
  refine y.dr (by omega) (by omega) _ fun M1 y1 f1 => ?_
  have g1 := h.kb f1
  have s1 := g1.sh
  by_cases q : drw G 4 = 0
  · have K := K1 q
    clear K1 K2
    rw [q]
    refine ifp (by decide) ⟨s1.1.1, ?_⟩
    rw [g1.2.1 0 (by omega), hn0]
    refine y1.dr hs0.1 (by omega) _ fun M2 y2 f2 => ?_
    have dd := drw_lt (nx G) hs0.1
    generalize drw (nx G) (sg 0) = dv at dd K ⊢
    have g2 := g1.kb f2
    have s2 := g2.sh
    refine ⟨s2.1.1, e + 4, s2.1.2.2.2.2.1, s2.2.1.2.2.2.1, by rw [s2.2.2.2.2.2.1]; exact vp_in_nI (by omega) (by omega), fun M3 hM => ?_⟩
    rw [nI_clamp (by omega), show (1 : Int32) = nI 1 from rfl, show (31 : Int32) = nI 31 from rfl, fa_andq, n_shl (by omega)] at hM
    subst hM
    have y3 := y2.I (c := e + 4) (j := k) (v := nI (2 ^ dv)) (by omega) (g2.row9 4 (by omega))
    have g3 := g2.abs (k := k) (v := 2 ^ dv) h13 (by omega) hp7 hq
    refine ⟨by omega, by omega, y3.k16, y3.aS (by omega) (by omega) (by omega) _ fun M4 y4 f4 => ⟨a, rfl, by omega, by omega, ?_⟩⟩
    have t4 : (t ++ tc 10).length = t.length + 7 := by rw [List.length_append]; rfl
    refine y4.aN (by omega) (by omega) (by omega) (by omega) _ fun M5 y5 f5 => ⟨a, rfl, by omega, by omega, y5.k16, ?_⟩
    have t5 : ((t ++ tc 10) ++ [97 + k]).length = t.length + 8 := by rw [List.length_append, t4]; rfl
    rw [show (32 : Int32) = nI 32 from rfl]
    refine y5.aC (by omega) (by omega) _ fun M6 y6 f6 => ⟨a, rfl, by omega, by omega, y6.k16, ?_⟩
    have t6 : (((t ++ tc 10) ++ [97 + k]) ++ [32]).length = t.length + 9 := by rw [List.length_append, t5]; rfl
    refine y6.aI (by omega) (by omega) _ fun M7 y7 f7 => ⟨a, rfl, by omega, by omega, y7.k16, ?_⟩
    have ld := dig3 (v := dv) (by omega)
    have t7 : ((((t ++ tc 10) ++ [97 + k]) ++ [32]) ++ dig dv).length ≤ t.length + 12 := by rw [List.length_append, t6]; omega
    rw [show (59 : Int32) = nI 59 from rfl]
    refine y7.aC (by omega) (by omega) _ fun M8 y8 f8 => ⟨a, rfl, ?_⟩
    rw [absT_e] at y8
    exact K M8 y8 (g3.kb (f4.trans (f5.trans (f6.trans (f7.trans f8)))))
  · have K := K2 q
    refine ifn ?_ (K M1 y1 g1)
    rw [show (0 : Int32) = nI 0 from rfl]
    exact nI_ge (by omega) (by omega)
theorem dAs_s (k : Nat) (s : DS) : dAs (k + 1) s = dA k (dAs k s) := rfl
theorem dAs_0 (s : DS) : dAs 0 s = s := rfl
theorem s_abss {d : DS} {N : Nat} (y : YL x ga a e st d.2.2.2.1 (dG d) M) (h : BSw e z n d.1 d.2.2.1 M) (hN : n 2 = N) (hN7 : N ≤ 7) (hh : ∀ k, k ≤ N → n 0 = (dAs k d).1 0 ∧ (1 ≤ (dAs k d).1 0 ∧ (dAs k d).1 0 ≤ 7) ∧ (dAs k d).1 1 ≤ 3 ∧ (dAs k d).1 2 ≤ 7 ∧ Q2 (dAs k d).1 ∧ (dAs k d).2.2.2.1.length ≤ 500) {B S1 b s : Nat} {P : Option Nat → Mm → Prop} {K675 : Mm → Nat → Nat → Nat → Nat → Nat → Prop} (hB : b + 7 * N ≤ B) (hS1 : s + 7005 * N ≤ S1)
    (K : ∀ M' b' s', b' ≤ b + 7 * N → s' ≤ s + 7005 * N → YL x ga a e st (dAs N d).2.2.2.1 (dG (dAs N d)) M' → BSw e z n (dAs N d).1 (dAs N d).2.2.1 M' → K675 M' b' s' a ga e) : ∃ m, l_L_season_601 B S1 P K675 m M b s a ga e (0 : Int32) := by
  refine lpI (fun m (z : Mm × Nat × Nat × Int32) => l_L_season_601 B S1 P K675 m z.1 z.2.1 z.2.2.1 a ga e z.2.2.2) (fun k q => YL x ga a e st (dAs k d).2.2.2.1 (dG (dAs k d)) q.1 ∧ BSw e z n (dAs k d).1 (dAs k d).2.2.1 q.1 ∧ q.2.1 ≤ b + 7 * k ∧ q.2.2.1 ≤ s + 7005 * k ∧ q.2.2.2 = nI k) N (fun m q hq => ?_) (fun m k q hk hq LL => ?_) (M, b, s, 0) ⟨by rw [dAs_0]; exact y, by rw [dAs_0]; exact h, Nat.le_refl _, Nat.le_refl _, rfl⟩
  · obtain ⟨M1, b1, s1, x3⟩ := q
    obtain ⟨y1, g1, e1, e2, e3⟩ := hq
    simp only at y1 g1 e1 e2 e3
    subst e3
    have k := K M1 b1 s1 e1 e2 y1 g1
    have h1 := g1.sh
    show l_L_season_601 B S1 P K675 (m + 1) M1 b1 s1 a ga e (nI N)
    rw [l_L_season_601, g1.2.1 2 (by omega), hN]
    exact ⟨h1.1.1, ifp (nI_le (Nat.le_refl _) (by omega)) k⟩
  · obtain ⟨M1, b1, s1, x3⟩ := q
    obtain ⟨y1, g1, e1, e2, e3⟩ := hq
    simp only at y1 g1 e1 e2 e3
    subst e3
    obtain ⟨c1, c2, c3, c4, c5, c6⟩ := hh k (by omega)
    show l_L_season_601 B S1 P K675 (m + 1) M1 b1 s1 a ga e (nI k)
    have LL : ∀ M' b' s', YL x ga a e st (dAs (k + 1) d).2.2.2.1 (dG (dAs (k + 1) d)) M' → BSw e z n (dAs (k + 1) d).1 (dAs (k + 1) d).2.2.1 M' → b' ≤ b + 7 * (k + 1) → s' ≤ s + 7005 * (k + 1) → l_L_season_601 B S1 P K675 m M' b' s' a ga e (nI (k + 1)) := fun M' b' s' u1 u2 u3 u4 => LL (M', b', s', nI (k + 1)) ⟨u1, u2, u3, u4, rfl⟩
    rw [dAs_s] at LL
    generalize dAs k d = d1 at y1 g1 c1 c2 c3 c4 c5 c6 LL
    obtain ⟨sg, nm, ct, t, G⟩ := d1
    simp only [dG_mk] at y1 g1 c1 c2 c3 c4 c5 c6
    have e7 : s1 + 7005 ≤ s + 7005 * (k + 1) := by rw [Nat.mul_succ, ← Nat.add_assoc]; exact Nat.add_le_add_right e2 _
    have e8 : s1 + 7005 ≤ S1 := Nat.le_trans e7 (Nat.le_trans (Nat.add_le_add_left (Nat.mul_le_mul_left _ hk) _) hS1)
    have e9 : s1 ≤ s + 7005 * (k + 1) := Nat.le_trans (Nat.le_add_right _ _) e7
    refine s_abs (n := n) y1 g1 (by omega) (by omega) c1 c2 c3 c4 c5 c6 (by omega) e8 (fun q M' u1 u2 => ?_) (fun q M' u1 u2 => ?_)
    · rw [dA_y q] at LL
      rw [dG_mk] at LL
      exact LL M' _ _ u1 u2 (by omega) e7
    · rw [dA_n q] at LL
      rw [dG_mk] at LL
      exact LL M' _ _ u1 u2 (by omega) e9
end LA
