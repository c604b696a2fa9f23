/-! THE SEASON IS BUILT: a work's rows and seats -/
section LQ2
variable {x ga a e z G : Nat} {st : ST} {n sg ct : Nat → Nat} {t : List Nat} {M : Mm}
theorem sts_s (G m k : Nat) : sts G m (k + 1) = sts G m k ++ [drw (nxn G k) m] := rfl
theorem sts_0 (G m : Nat) : sts G m 0 = [] := rfl
theorem nxn_s (G k : Nat) : nxn G (k + 1) = nx (nxn G k) := rfl
theorem nxn_0 (G : Nat) : nxn G 0 = G := rfl
theorem seatsT_1 (v : Nat) : seatsT [v] = [32, 97 + v] := rfl
theorem seatsT_s (t l : List Nat) (v : Nat) : ((t ++ seatsT l) ++ [32]) ++ [97 + v] = t ++ seatsT (l ++ [v]) := by
  rw [seatsT_app, seatsT_1, List.append_assoc, List.append_assoc]
  rfl
/-- a seat is drawn and told -/
theorem s_seat {w r r1 L k dv G1 m4 : Nat} {f : Nat → Nat} {l : List Nat} (y : YL x ga a e st t G M) (h : BSw e z n sg ct M) (hr : RwK e w r L l M) (hk : l.length = k) (hkL : k < L) (hL : L ≤ 4) (hw : w < 4) (hz : z ≤ r) (h6 : zR M (e + 6) w = some r1) (q6 : Row e r1 4 f M) (hne : r1 ≠ r) (hn4 : n 4 = m4) (h4 : 1 ≤ m4 ∧ m4 ≤ 4) (hdv : drw G m4 = dv) (hG1 : nx G = G1) (ht : t.length ≤ 550) {B S1 b s m : Nat} {P : Option Nat → Mm → Prop} {K586 : Mm → Nat → Nat → Nat → Nat → Nat → Int32 → Prop} (hB : b + 4 ≤ B) (hS1 : s + 2805 ≤ S1)
    (K : ∀ M' b' s', b' ≤ b + 4 → s' ≤ s + 2805 → YL x ga a e st ((t ++ [32]) ++ [97 + dv]) G1 M' → BSw e z n sg ct M' → RwK e w r L (l ++ [dv]) M' → zR M' (e + 6) w = some r1 → Row e r1 4 f M' → l_L_season_529 B S1 P K586 m M' b' s' a ga e (nI w) (nI (k + 1))) : l_L_season_529 B S1 P K586 (m + 1) M b s a ga e (nI w) (nI k) := by
  have h1 := h.sh
  have a0 := h.1
  have dd : dv < m4 := by rw [← hdv]; exact drw_lt G h4.1
  rw [l_L_season_529]
  refine ⟨h1.1.1, e + 7, h1.1.2.2.2.2.2.2.2.1, h1.2.1.2.2.2.2.2.2.1, by rw [h1.2.2.2.2.2.2.2.2.1]; exact vp_in_nI (by omega) (by omega), r, by rw [nI_clamp (by omega)]; exact hr.1, hr.2.2.1.1, ifn (by rw [hr.2.2.1.2]; exact nI_ge hkL (by omega)) ⟨h1.1.1, e + 7, h1.1.2.2.2.2.2.2.2.1, h1.2.1.2.2.2.2.2.2.1, by rw [h1.2.2.2.2.2.2.2.2.1]; exact vp_in_nI (by omega) (by omega), r, by rw [nI_clamp (by omega)]; exact hr.1, h1.1.1, ?_⟩⟩
  rw [h.2.1 4 (by omega), hn4]
  refine y.dr h4.1 (by omega) _ fun M1 y1 f1 => ?_
  rw [hdv]
  rw [hG1] at y1
  clear hdv hG1
  have g1 := h.kb f1
  have r1' := hr.kb h1 f1
  have q61 : zR M1 (e + 6) w = some r1 := by rw [(f1.s h1 (by omega) 6 (by omega)).2.2.2.2]; exact h6
  have q62 : Row e r1 4 f M1 := q6.sm f1.1 (f1.2 r1 (by have := q6.1; omega) q6.1.2 (by rw [q6.2.1.1]; decide))
  refine ⟨r1'.2.2.1.1, by rw [r1'.2.2.1.2]; exact vp_in_nI hkL (by omega), fun M2 hM => ?_⟩
  rw [nI_clamp (by omega), ← hk] at hM
  subst hM
  have y2 := y1.I (c := r) (j := l.length) (v := nI dv) (by have := r1'.2.1; omega) (by rw [r1'.2.2.1.1]; decide)
  have g2 := g1.I (c := r) (j := l.length) (v := nI dv) hz
  have r2' := r1'.push (v := dv)
  have q63 : Row e r1 4 f (sI M1 r l.length (nI dv)) := q62.sm (M' := sI M1 r l.length (nI dv)) (Nat.le_refl _) ⟨rfl, rfl, zI_sIo _ _ _ _ hne, rfl, rfl⟩
  have q64 : zR (sI M1 r l.length (nI dv)) (e + 6) w = some r1 := q61
  generalize sI M1 r l.length (nI dv) = M2 at y2 g2 r2' q63 q64 ⊢
  clear y1 g1 r1' q61 q62 f1 y h hr h6 q6
  rw [show (32 : Int32) = nI 32 from rfl]
  refine ⟨by omega, by omega, y2.k16, y2.aC (by omega) (by omega) _ fun M3 y3 f3 => ⟨a, rfl, ?_⟩⟩
  have g3 := g2.kb f3
  have s3 := g3.sh
  have r3' := r2'.kb g2.sh f3
  have s23 := f3.s g2.sh (by have := g2.1; omega)
  have q65 : zR M3 (e + 6) w = some r1 := by rw [(s23 6 (by omega)).2.2.2.2]; exact q64
  have q66 : Row e r1 4 f M3 := q63.sm f3.1 (f3.2 r1 (by have := q63.1; omega) q63.1.2 (by rw [q63.2.1.1]; decide))
  have vk : zI M3 r k = nI dv := by
    have q := r3'.2.2.2 k (by rw [List.length_append]; show k < l.length + 1; omega)
    rw [q, getD_r (by omega), hk, Nat.sub_self]; rfl
  refine ⟨s3.1.1, e + 7, s3.1.2.2.2.2.2.2.2.1, s3.2.1.2.2.2.2.2.2.1, by rw [s3.2.2.2.2.2.2.2.2.1]; exact vp_in_nI (by omega) (by omega), r, by rw [nI_clamp (by omega)]; exact r3'.1, r3'.2.2.1.1, by rw [r3'.2.2.1.2]; exact vp_in_nI (by omega) (by omega), by omega, by omega, ?_⟩
  rw [nI_clamp (by omega), vk]
  refine y3.aN (by omega) ?_ (by omega) (by omega) _ fun M4 y4 f4 => ⟨a, rfl, ?_⟩
  · rw [List.length_append]
    show _ + 1 ≤ _
    omega
  have g4 := g3.kb f4
  have s34 := f4.s s3 (by have := g3.1; omega)
  have q67 : zR M4 (e + 6) w = some r1 := by rw [(s34 6 (by omega)).2.2.2.2]; exact q65
  have q68 : Row e r1 4 f M4 := q66.sm f4.1 (f4.2 r1 (by have := q66.1; omega) q66.1.2 (by rw [q66.2.1.1]; decide))
  rw [show (1 : Int32) = nI 1 from rfl, nI_add]
  exact K M4 _ _ (by omega) (by omega) y4 g4 (r3'.kb s3 f4) q67 q68
theorem s_seats {w r r1 L m4 : Nat} {f : Nat → Nat} (y : YL x ga a e st t G M) (h : BSw e z n sg ct M) (hr : RwK e w r L [] M) (hL : L ≤ 4) (hw : w < 4) (hz : z ≤ r) (h6 : zR M (e + 6) w = some r1) (q6 : Row e r1 4 f M) (hne : r1 ≠ r) (hn4 : n 4 = m4) (h4 : 1 ≤ m4 ∧ m4 ≤ 4) (ht : t.length ≤ 540) {B S1 b s : Nat} {P : Option Nat → Mm → Prop} {K586 : Mm → Nat → Nat → Nat → Nat → Nat → Int32 → Prop} (hB : b + 4 * L ≤ B) (hS1 : s + 2805 * L ≤ S1)
    (K : ∀ M' b' s', b' ≤ b + 4 * L → s' ≤ s + 2805 * L → YL x ga a e st (t ++ seatsT (sts G m4 L)) (nxn G L) M' → BSw e z n sg ct M' → RwK e w r L (sts G m4 L) M' → zR M' (e + 6) w = some r1 → Row e r1 4 f M' → K586 M' b' s' a ga e (nI w)) : ∃ m, l_L_season_529 B S1 P K586 m M b s a ga e (nI w) (0 : Int32) := by
  refine lpI (fun m (z : Mm × Nat × Nat × Int32) => l_L_season_529 B S1 P K586 m z.1 z.2.1 z.2.2.1 a ga e (nI w) z.2.2.2) (fun k q => (YL x ga a e st (t ++ seatsT (sts G m4 k)) (nxn G k) q.1 ∧ BSw e z n sg ct q.1 ∧ RwK e w r L (sts G m4 k) q.1 ∧ zR q.1 (e + 6) w = some r1 ∧ Row e r1 4 f q.1) ∧ q.2.1 ≤ b + 4 * k ∧ q.2.2.1 ≤ s + 2805 * k ∧ q.2.2.2 = nI k) L (fun m q hq => ?_) (fun m k q hk hq LL => ?_) (M, b, s, 0) ⟨⟨by rw [sts_0, nxn_0]; show YL x ga a e st (t ++ []) G M; rw [List.append_nil]; exact y, h, by rw [sts_0]; exact hr, h6, q6⟩, Nat.le_refl _, Nat.le_refl _, rfl⟩
  · obtain ⟨M1, b1, s1, x3⟩ := q
    obtain ⟨⟨y1, g1, r1', u6, v6⟩, e1, e2, e3⟩ := hq
    simp only at y1 g1 r1' u6 v6 e1 e2 e3
    subst e3
    have k := K M1 b1 s1 e1 e2 y1 g1 r1' u6 v6
    have h1 := g1.sh
    show l_L_season_529 B S1 P K586 (m + 1) M1 b1 s1 a ga e (nI w) (nI L)
    rw [l_L_season_529]
    exact ⟨h1.1.1, e + 7, h1.1.2.2.2.2.2.2.2.1, h1.2.1.2.2.2.2.2.2.1, by rw [h1.2.2.2.2.2.2.2.2.1]; exact vp_in_nI (by omega) (by omega), r, by rw [nI_clamp (by omega)]; exact r1'.1, r1'.2.2.1.1, ifp (by rw [r1'.2.2.1.2]; exact nI_le (Nat.le_refl _) (by omega)) k⟩
  · obtain ⟨M1, b1, s1, x3⟩ := q
    obtain ⟨⟨y1, g1, r1', u6, v6⟩, e1, e2, e3⟩ := hq
    simp only at y1 g1 r1' u6 v6 e1 e2 e3
    subst e3
    show l_L_season_529 B S1 P K586 (m + 1) M1 b1 s1 a ga e (nI w) (nI k)
    have LL : ∀ M' b' s', YL x ga a e st (t ++ seatsT (sts G m4 (k + 1))) (nxn G (k + 1)) M' → BSw e z n sg ct M' → RwK e w r L (sts G m4 (k + 1)) M' → zR M' (e + 6) w = some r1 → Row e r1 4 f M' → b' ≤ b + 4 * (k + 1) → s' ≤ s + 2805 * (k + 1) → l_L_season_529 B S1 P K586 m M' b' s' a ga e (nI w) (nI (k + 1)) := fun M' b' s' u1 u2 u3 u4 u5 u6 u7 => LL (M', b', s', nI (k + 1)) ⟨⟨u1, u2, u3, u4, u5⟩, u6, u7, rfl⟩
    have lk := sts_l G m4 k
    rw [nxn_s, sts_s] at LL
    generalize hdv : drw (nxn G k) m4 = dv at LL
    generalize sts G m4 k = l at y1 r1' LL lk
    generalize nxn G k = G0 at y1 hdv LL
    generalize hG1 : nx G0 = G1 at LL
    have e7 : s1 + 2805 ≤ s + 2805 * (k + 1) := by rw [Nat.mul_succ, ← Nat.add_assoc]; exact Nat.add_le_add_right e2 _
    have e8 : s1 + 2805 ≤ S1 := Nat.le_trans e7 (Nat.le_trans (Nat.add_le_add_left (Nat.mul_le_mul_left _ hk) _) hS1)
    have tl : (t ++ seatsT l).length ≤ 550 := by rw [List.length_append, seatsT_len]; omega
    refine s_seat y1 g1 r1' lk hk hL hw hz u6 v6 hne hn4 h4 hdv hG1 tl (by omega) e8 fun M' b' s' c1 c2 u1 u2 u3 u4 u5 => ?_
    rw [seatsT_s] at u1
    exact LL M' b' s' u1 u2 u3 u4 u5 (by omega) (Nat.le_trans c2 e7)
end LQ2
