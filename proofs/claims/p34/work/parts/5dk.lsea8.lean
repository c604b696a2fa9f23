/-! THE SEASON IS BUILT: what holds at each turn, and the whole walk -/
section LK
variable {tx : List Nat} {bf : Nat → Int32} {q0 n : Nat} {S0 : P4} {dt : Bool}
theorem hh_halls {s : DS} {N : Nat} (h : JS tx bf q0 S0 s dt n 9) (hx : JX s) (h0 : s.1 1 = 0) (hN : N ≤ 3) : ∀ k, k ≤ N → (dN dH k s).1 1 = k ∧ (dN dH k s).2.2.2.1.length ≤ 500 := fun k hk => by
  obtain ⟨a1, a2, a3, a4⟩ := j_halls h hx h0 k (by omega)
  have l := a1.2.1
  exact ⟨a3, by omega⟩
theorem hh_plays {s : DS} {N : Nat} (h : JS tx bf q0 S0 s dt n 42) (hx : JX s) (h2 : s.1 2 = 0) (h3 : s.1 3 = 0) (hN : N ≤ 7) : ∀ k, k ≤ N → (dN dP k s).1 2 = k ∧ (dN dP k s).2.2.2.1.length ≤ 500 ∧ (dN dP k s).1 4 ≤ 4 ∧ (dN dP k s).1 1 ≤ 3 ∧ (k < N → oP (dN dP k s).1 k 1 = 0 ∧ oP (dN dP k s).1 k 2 = 0) := fun k hk => by
  obtain ⟨a1, a2, a3, a4, a5⟩ := j_plays h hx h2 h3 k (by omega)
  obtain ⟨⟨⟨-, -, -, -, n5, n6, -⟩, -, -⟩, l, -⟩ := a1
  exact ⟨a3, by omega, n5.2.2.2, n5.1, fun hlt => n6 k (by omega) (by omega)⟩
theorem hh_works {s : DS} {N : Nat} {m : Nat → Nat} (h : JS tx bf q0 S0 s dt n 189) (hx : JX s) (h3 : s.1 3 = 0) (h4 : 1 ≤ s.1 4) (hq : Q2 s.1) (hN : N ≤ 4) (m0 : m 0 = s.1 0) (m4 : m 4 = s.1 4) : ∀ k, k ≤ N → (dN dW_ k s).1 3 = k ∧ (dN dW_ k s).2.2.2.1.length ≤ 450 ∧ m 0 = (dN dW_ k s).1 0 ∧ (2 ≤ (dN dW_ k s).1 0 ∧ (dN dW_ k s).1 0 ≤ 7) ∧ m 4 = (dN dW_ k s).1 4 ∧ (1 ≤ (dN dW_ k s).1 4 ∧ (dN dW_ k s).1 4 ≤ 4) ∧ (dN dW_ k s).1 1 ≤ 3 ∧ (dN dW_ k s).1 2 ≤ 7 ∧ Q2 (dN dW_ k s).1 ∧ (∀ w, w < k → oW (dN dW_ k s).1 w 4 ≤ 4) ∧ (k < N → oW (dN dW_ k s).1 k 4 = 0) := fun k hk => by
  have g := h.1.1.2.2.2.2.1
  obtain ⟨a1, a2, a3, a4⟩ := j_works h hx h3 h4 k (by omega)
  obtain ⟨⟨⟨-, -, -, -, n5, -, n7⟩, s0, -⟩, l, -⟩ := a1
  generalize dN dW_ k s = s1 at a2 a3 a4 n5 n7 s0 l ⊢
  have e0 := a4 0 (by omega) (by omega)
  have e2 := a4 2 (by omega) (by omega)
  have e4 := a4 4 (by omega) (by omega)
  refine ⟨a3, by omega, by omega, s0, by omega, by omega, n5.1, n5.2.1, fun p hp => ?_, fun w hw => a2.2 w (by omega), fun hlt => n7 k (by omega) (by omega)⟩
  rw [e2] at hp
  have q := hq p hp
  show s1.1 (9 + 7 * p + 2) ≤ 2
  rw [a4 _ (by omega) (by omega)]
  exact q
theorem hh_abss {s : DS} {N : Nat} {m : Nat → Nat} (h : JS tx bf q0 S0 s dt n 317) (hx : JX s) (hq : Q2 s.1) (hN : N ≤ s.1 2) (hN7 : N ≤ 7) (m0 : m 0 = s.1 0) : ∀ k, k ≤ N → m 0 = (dAs k s).1 0 ∧ (1 ≤ (dAs k s).1 0 ∧ (dAs k s).1 0 ≤ 7) ∧ (dAs k s).1 1 ≤ 3 ∧ (dAs k s).1 2 ≤ 7 ∧ Q2 (dAs k s).1 ∧ (dAs k s).2.2.2.1.length ≤ 500 := fun k hk => by
  obtain ⟨n2, a1, a2⟩ := j_abs h hx k (by omega) (by omega)
  obtain ⟨⟨⟨-, -, -, -, n5, -, -⟩, s0, -⟩, l, -⟩ := a1
  generalize dAs k s = s1 at a2 n5 s0 l ⊢
  have e0 := a2 0 fun j hj => by omega
  have e2 := a2 2 fun j hj => by omega
  refine ⟨by omega, by omega, n5.1, n5.2.1, fun p hp => ?_, by omega⟩
  rw [e2] at hp
  have q := hq p hp
  show s1.1 (9 + 7 * p + 2) ≤ 2
  rw [a2 _ fun j hj => by omega]
  exact q
end LK
section LL
variable {x ga a e z G : Nat} {st : ST} {n sg ct : Nat → Nat} {t : List Nat} {M : Mm}
theorem dblT_e (t : List Nat) (d : Nat) : ((t ++ tc 11) ++ dig d) ++ [59] = t ++ dblT d := by
  unfold dblT
  rw [List.append_assoc, List.append_assoc]
  rfl
theorem daysT_e (d : Nat) : (([] ++ tc 6) ++ dig d) ++ [59] = daysT d := by
  unfold daysT
  rw [List.nil_append, List.append_assoc]
  rfl
/-- the fee of doublings -/
theorem BSw.fee {v : Nat} (h : BSw e z n sg ct M) : BSw e z n (ups sg 5 v) ct M := by
  have o : ∀ j, j ≠ 5 → ups sg 5 v j = sg j := fun j hj => ups_o _ _ _ hj
  generalize ups sg 5 v = sq at o ⊢
  obtain ⟨a1, a4, a5, a6, a7, a8⟩ := h
  refine ⟨a1, a4, fun j hj => ?_, fun p hp => ?_, fun p hp => ?_, fun w hw => ?_⟩
  · rw [o 1 (by omega)] at hj
    rw [o _ (by omega)]; exact a5 j hj
  · show _ = nI (sq (9 + 7 * p + 1))
    rw [o _ (by omega)]; exact a6 p hp
  · rw [o 2 (by omega)] at hp
    obtain ⟨⟨b1, b2⟩, r, b3, b4, b5⟩ := a7 p hp
    refine ⟨⟨?_, b2⟩, r, b3, b4, ?_⟩
    · show _ = nI (sq (9 + 7 * p + 0))
      rw [o _ (by omega)]; exact b1
    · have c2 : oP sq p 2 = oP sg p 2 := o _ (by omega)
      rw [c2]
      exact b5.ext fun j hj => (o (9 + 7 * p + (3 + j)) (by omega)).symm
  · rw [o 3 (by omega)] at hw
    obtain ⟨⟨r, b3, b4, b5⟩, q, b6, b7, b8⟩ := a8 w hw
    have c4 : oW sq w 4 = oW sg w 4 := o _ (by omega)
    rw [c4]
    exact ⟨⟨r, b3, b4, b5.ext fun j _ => (o (65 + 11 * w + j) (by omega)).symm⟩, q, b6, b7, b8.ext fun j _ => (o (65 + 11 * w + (5 + j)) (by omega)).symm⟩
/-- the end of the season's text: the fee -/
def FeB (B S : Nat) (P : Option Nat → Mm → Prop) (b s a ga e : Nat) (M : Mm) : Prop := w_L_draw M ga (2 : Int32) (fun r128 M128 => (if r128 = 0 then w_L_draw M128 ga (50 : Int32) (fun r129 M129 => zk M129 e = 8 ∧ (∀ M130, M130 = sI M129 e 5 r129 → b + 1 ≤ B ∧ s + 1400 ≤ S ∧ zk M130 a = 16 ∧ w_J4_append_15ec4_AS M130 a 11 (fun r131 M131 => ∃ a131, r131 = some a131 ∧ zk M131 e = 8 ∧ (b + 1) + 1 ≤ B ∧ (s + 1400) + 1400 ≤ S ∧ zk M131 a131 = 16 ∧ w_J4_append_bf812 M131 a131 (zI M131 e 5) (fun r133 M133 => ∃ a133, r133 = some a133 ∧ ((b + 1) + 1) + 1 ≤ B ∧ ((s + 1400) + 1400) + 1400 ≤ S ∧ zk M133 a133 = 16 ∧ w_J4_append_cf468 M133 a133 (59 : Int32) (fun r134 M134 => ∃ a134, r134 = some a134 ∧ P (some e) M134))))) else P (some e) M128))
theorem s_fee (y : YL x ga a e st t G M) (h : BSw e z n sg ct M) (ht : t.length ≤ 500) (hn5 : n 5 = sg 5) {B S1 b s : Nat} {P : Option Nat → Mm → Prop} (hB : b + 3 ≤ B) (hS1 : s + 4200 ≤ S1)
    (K1 : drw G 2 = 0 → ∀ M', YL x ga a e st (t ++ dblT (drw (nx G) 50)) (nx (nx G)) M' → BSw e z (ups n 5 (drw (nx G) 50)) (ups sg 5 (drw (nx G) 50)) ct M' → P (some e) M')
    (K2 : drw G 2 ≠ 0 → ∀ M', YL x ga a e st t (nx G) M' → BSw e z n sg ct M' → P (some e) M') : FeB B S1 P b s a ga e M := by
  have a0 := h.1
  unfold FeB
  rw [show (2 : Int32) = nI 2 from rfl]
  have d2 := drw_lt G (show 1 ≤ 2 by omega)
  refine y.dr (by omega) (by omega) _ fun M1 y1 f1 => ?_
  have g1 := h.kb f1
  by_cases q : drw G 2 = 0
  · have K := K1 q
    clear K1 K2
    rw [q]
    refine ifp (by decide) ?_
    rw [show (50 : Int32) = nI 50 from rfl]
    refine y1.dr (by omega) (by omega) _ fun M2 y2 f2 => ?_
    have dd := drw_lt (nx G) (show 1 ≤ 50 by omega)
    generalize drw (nx G) 50 = dv at dd K ⊢
    generalize nx (nx G) = G2 at y2 K
    have g2 := g1.kb f2
    refine ⟨g2.sh.1.1, fun M3 hM => ?_⟩
    have y3 := y2.I (c := e) (j := 5) (v := nI dv) (Nat.le_refl _) (g2.row9 0 (by omega))
    have g3 := (g2.num (i := 5) (v := dv)).fee (v := dv)
    rw [← hM] at y3 g3
    clear hM
    refine ⟨by omega, by omega, y3.k16, y3.aS (by omega) (by omega) (by omega) _ fun M4 y4 f4 => ⟨a, rfl, ?_⟩⟩
    have t4 : (t ++ tc 11).length = t.length + 7 := by rw [List.length_append]; rfl
    have g4 := g3.kb f4
    refine ⟨g4.sh.1.1, by omega, by omega, y4.k16, ?_⟩
    rw [g4.2.1 5 (by omega), ups_1]
    refine y4.aI (by omega) (by omega) _ fun M5 y5 f5 => ⟨a, rfl, by omega, by omega, y5.k16, ?_⟩
    have ld := dig3 (v := dv) (by omega)
    have t5 : ((t ++ tc 11) ++ dig dv).length ≤ t.length + 10 := by rw [List.length_append, t4]; omega
    rw [show (59 : Int32) = nI 59 from rfl]
    refine y5.aC (by omega) (by omega) _ fun M6 y6 f6 => ⟨a, rfl, ?_⟩
    rw [dblT_e] at y6
    exact K M6 y6 (g4.kb (f5.trans f6))
  · have K := K2 q
    refine ifn ?_ (K M1 y1 g1)
    rw [show (0 : Int32) = nI 0 from rfl, n_eqF q (by omega) (by omega)]
    exact not_false
end LL
