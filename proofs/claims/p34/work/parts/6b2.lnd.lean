/-! THE ROOM: the drawn season, as far as it counts: whole -/
section DND
variable {tx : List Nat} {bf : Nat → Int32} {q0 n a : Nat} {S0 : P4} {dt : Bool}
theorem works_R {s : DS} {d kc g : Nat} (h : JS tx bf q0 S0 s dt n 189) (hx : JX s) (h3 : s.1 3 = 0) (h4 : 1 ≤ s.1 4) (hr : WkR s d kc g 0) : ∀ k, k ≤ 4 → WkR (dN dW_ k s) d kc g k ∧ ∀ i, i < 65 → i ≠ 3 → (dN dW_ k s).1 i = s.1 i
  | 0, _ => ⟨hr, fun _ _ _ => rfl⟩
  | k + 1, hk => by
    obtain ⟨i1, i2⟩ := works_R h hx h3 h4 hr k (by omega)
    obtain ⟨a1, -, a3, -⟩ := j_works h hx h3 h4 k (by omega)
    have z := a1.1.1.2.2.2.2.2.2 ((dN dW_ k s).1 3) (Nat.le_refl _) (by omega)
    rw [a3] at z
    rw [dN_s]
    obtain ⟨r1, r2⟩ := i1.step z
    exact ⟨r1, fun i h1 h2 => (r2 i h1 h2).trans (i2 i h1 h2)⟩
/-- absences -/
def itaN (g : Nat) : Nat := if drw g 4 = 0 then nx (nx g) else nx g
def abN (d g : Nat) : Nat := if drw g 4 = 0 then 2 ^ drw (nx g) d else 0
def ita : Nat → Nat → Nat
  | 0, g => g
  | n + 1, g => itaN (ita n g)
theorem ita_s (n g : Nat) : ita (n + 1) g = itaN (ita n g) := rfl
def AbR (s0 s : DS) (d g k : Nat) : Prop := dG s = ita k g ∧ (∀ p, p < k → oP s.1 p 1 = abN d (ita p g)) ∧ ∀ i, (∀ j, j < k → i ≠ 9 + 7 * j + 1) → s.1 i = s0.1 i
theorem AbR.step {s0 s : DS} {d g k : Nat} (h : AbR s0 s d g k) (hd : s.1 0 = d) (hz : oP s.1 k 1 = 0) : AbR s0 (dA k s) d g (k + 1) := by
  obtain ⟨sg, nm, ct, t, G⟩ := s
  obtain ⟨h1, h2, h3⟩ := h
  have h1 : G = ita k g := (dG_mk sg nm ct t G).symm.trans h1
  have hd : sg 0 = d := hd
  have hz : oP sg k 1 = 0 := hz
  have h2 : ∀ p, p < k → oP sg p 1 = abN d (ita p g) := h2
  have h3 : ∀ i, (∀ j, j < k → i ≠ 9 + 7 * j + 1) → sg i = s0.1 i := h3
  have e1 : abN d (ita k g) = abN d G := by rw [h1]
  by_cases q : drw G 4 = 0
  · rw [dA_y q, hd]
    have e : abN d G = 2 ^ drw (nx G) d := if_pos q
    rw [← e]
    generalize hx : abN d G = X at e1 ⊢
    refine ⟨?_, fun p hp => ?_, fun i hi => ?_⟩
    · rw [dG_mk, ita_s, ← h1]
      exact (if_pos q).symm
    · show ups sg (9 + 7 * k + 1) X (9 + 7 * p + 1) = _
      by_cases c : p = k
      · rw [c, ups_1, e1]
      · rw [ups_o _ _ _ (by omega)]; exact h2 p (by omega)
    · show ups sg (9 + 7 * k + 1) X i = _
      rw [ups_o _ _ _ (hi k (by omega))]
      exact h3 i fun j hj => hi j (by omega)
  · rw [dA_n q]
    have e : abN d G = 0 := if_neg q
    refine ⟨?_, fun p hp => ?_, fun i hi => h3 i fun j hj => hi j (by omega)⟩
    · rw [dG_mk, ita_s, ← h1]
      exact (if_neg q).symm
    · show oP sg p 1 = _
      by_cases c : p = k
      · rw [c, e1, e]; exact hz
      · exact h2 p (by omega)
theorem abs_R {s : DS} {d g : Nat} (h0 : s.1 0 = d) (hz : ∀ k, k < 8 → oP s.1 k 1 = 0) (hg : dG s = g) : ∀ k, k ≤ 7 → AbR s (dAs k s) d g k
  | 0, _ => ⟨hg, fun p hp => absurd hp (Nat.not_lt_zero _), fun _ _ => rfl⟩
  | k + 1, hk => by
    have ih := abs_R h0 hz hg k (by omega)
    rw [dAs_s]
    exact ih.step ((ih.2.2 0 fun j hj => by omega).trans h0) ((ih.2.2 (9 + 7 * k + 1) fun j hj => by omega).trans (hz k (by omega)))
def itf (g : Nat) : Nat := if drw g 2 = 0 then nx (nx g) else nx g
theorem dE_R (s : DS) : dG (dE s) = itf (dG s) ∧ ∀ i, i ≠ 5 → (dE s).1 i = s.1 i := by
  obtain ⟨sg, nm, ct, t, G⟩ := s
  by_cases q : drw G 2 = 0
  · rw [dE_y q]
    refine ⟨?_, fun i hi => ?_⟩
    · rw [dG_mk, dG_mk]; exact (if_pos q).symm
    · exact ups_o sg 5 (drw (nx G) 50) hi
  · rw [dE_n q]
    refine ⟨?_, fun i hi => rfl⟩
    rw [dG_mk, dG_mk]; exact (if_neg q).symm
/-- what counts of a season -/
def SeR (sg : Nat → Nat) (Ge d P : Nat) (q : PSt) : Prop := (sg 0 = d ∧ sg 2 = P ∧ sg 3 = 1 + drw q.2.2 4) ∧ (∀ k, NP sg k = q.2.1 k) ∧ (∀ w, w < 1 + drw q.2.2 4 → (oW sg w 0 = wNd (itw w (nx q.2.2)) ∧ oW sg w 1 = wFi (itw w (nx q.2.2)) ∧ oW sg w 2 = wLa d (itw w (nx q.2.2))) ∧ oW sg w 4 = wLn (itw w (nx q.2.2)) ∧ ∀ j, j < wLn (itw w (nx q.2.2)) → oW sg w (5 + j) = (wSe q.1 (itw w (nx q.2.2))).getD j 0) ∧ (∀ p, p < P → oP sg p 1 = abN d (ita p (itw (1 + drw q.2.2 4) (nx q.2.2)))) ∧ Ge = itf (ita P (itw (1 + drw q.2.2 4) (nx q.2.2)))
theorem dS5_g {s0 s1 s2 s3 s4 s5 : DS} {dd hh pp ww : Nat} (j0 : JS tx bf q0 S0 s0 false 0 9) (x0 : JX s0) (z0 : s0.1 0 = dd) (z1 : s0.1 1 = 0) (z2 : s0.1 2 = 0) (z3 : s0.1 3 = 0) (z4 : s0.1 4 = 0) (z5 : s0.1 5 = 0) (lh : hh ≤ 3) (lp : pp ≤ 7) (lp1 : 1 ≤ pp) (ew : 1 + drw (dG s2) 4 = ww) (e1 : dN dH hh s0 = s1) (e2 : dN dP pp (dnx s1) = s2) (e3 : dN dW_ ww (dnx s2) = s3) (e4 : dAs pp s3 = s4) (e5 : dE s4 = s5) : SeR s5.1 (dG s5) dd pp (itp pp (0, fun _ => 0, nx (dG s1))) := by
  have d4 := drw_lt (dG s2) (show 1 ≤ 4 by omega)
  obtain ⟨⟨m1, i1, x1, A0, A1, A2, A3, A4, A5⟩, ⟨m2, i2, x2, B0, B1, B2, B3, B4, B5⟩, ⟨m3, i3, x3, C0, C3⟩, ⟨m4, i4, D0⟩, m5, dt5, i5, E0⟩ := dS_g j0 x0 z0 z1 z2 z3 z4 z5 lh lp lp1 (by omega) e1 e2 e3 e4 e5
  have r0 : PsR (dnx s1) (0, fun _ => 0, nx (dG s1)) := ⟨by rw [dnx_1]; exact A4, fun k => by
    unfold NP
    rw [dnx_1, A2]; rfl, dnx_G s1⟩
  have q0' : Q2 (dnx s1).1 := fun p hp => by
    rw [dnx_1, A2] at hp
    exact absurd hp (Nat.not_lt_zero _)
  obtain ⟨r1, q1⟩ := plays_R i1.nxt x1.nxt (by rw [dnx_1]; exact A2) (by rw [dnx_1]; exact A3) q0' r0 pp lp
  rw [e2] at r1 q1
  generalize itp pp (0, fun _ => 0, nx (dG s1)) = q at r1 ⊢
  obtain ⟨kc, N, g⟩ := q
  obtain ⟨ra, rb, rc⟩ := r1
  have ra : s2.1 4 = kc := ra
  have rb : ∀ k, NP s2.1 k = N k := rb
  have rc : dG s2 = g := rc
  rw [rc] at ew d4
  have w0 : WkR (dnx s2) dd kc (nx g) 0 := ⟨⟨by rw [dnx_1]; exact B0, by rw [dnx_1]; exact B3, by rw [dnx_1]; exact ra⟩, by rw [dnx_G, rc]; rfl, fun w hw => absurd hw (Nat.not_lt_zero _)⟩
  obtain ⟨w1, w2⟩ := works_R i2.nxt x2.nxt (by rw [dnx_1]; exact B3) (by rw [dnx_1]; exact B4) w0 ww (by omega)
  rw [e3] at w1 w2
  rw [dnx_1] at w2
  obtain ⟨⟨wa, wb, wc⟩, wd, we⟩ := w1
  have ab := abs_R wa x3.1 wd pp lp
  rw [e4] at ab
  obtain ⟨ab1, ab2, ab3⟩ := ab
  have fe := dE_R s4
  rw [e5] at fe
  obtain ⟨f1, f2⟩ := fe
  have same : ∀ i, i ≠ 5 → (∀ j, j < pp → i ≠ 9 + 7 * j + 1) → s5.1 i = s3.1 i := fun i h5 hj => (f2 i h5).trans (ab3 i hj)
  have S2 : s5.1 2 = pp := (same 2 (by omega) fun j hj => by omega).trans ((w2 2 (by omega) (by omega)).trans B2)
  refine ⟨⟨?_, S2, ?_⟩, fun k => ?_, ?_, ?_, ?_⟩
  · exact (same 0 (by omega) fun j hj => by omega).trans wa
  · show s5.1 3 = 1 + drw g 4
    rw [ew]
    exact (same 3 (by omega) fun j hj => by omega).trans wb
  · show NP s5.1 k = N k
    rw [← rb k]
    refine NP_same (S2.trans B2.symm) (fun p hp => ?_) k
    rw [B2] at hp
    have c := q1 p (by omega)
    have s : ∀ i, i = 2 ∨ (3 ≤ i ∧ i < 5) → oP s5.1 p i = oP s2.1 p i := fun i hi => (same (9 + 7 * p + i) (by omega) fun j hj => by omega).trans (w2 (9 + 7 * p + i) (by omega) (by omega))
    exact ⟨s 2 (Or.inl rfl), fun i hi => s (3 + i) (by omega)⟩
  · show ∀ w, w < 1 + drw g 4 → _
    rw [ew]
    intro w hw
    obtain ⟨⟨q1, q2, q3⟩, q4, q5⟩ := we w hw
    have lw := wLn_le (itw w (nx g))
    have s : ∀ i, i < 11 → oW s5.1 w i = oW s3.1 w i := fun i hi => same (65 + 11 * w + i) (by omega) fun j hj => by omega
    exact ⟨⟨(s 0 (by omega)).trans q1, (s 1 (by omega)).trans q2, (s 2 (by omega)).trans q3⟩, (s 4 (by omega)).trans q4, fun j hj => (by
      have hj : j < wLn (itw w (nx g)) := hj
      exact (s (5 + j) (by omega)).trans (q5 j hj))⟩
  · show ∀ p, p < pp → oP s5.1 p 1 = abN dd (ita p (itw (1 + drw g 4) (nx g)))
    rw [ew]
    intro p hp
    exact (f2 (9 + 7 * p + 1) (by omega)).trans (ab2 p hp)
  · show dG s5 = itf (ita pp (itw (1 + drw g 4) (nx g)))
    rw [ew, f1, ab1]
end DND
