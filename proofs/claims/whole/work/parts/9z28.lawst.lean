/-! THE LAW: the states of both sides, a step of the law by a call -/
section L8
variable {m : Nat} {M : Mm}
theorem mi_new (hz : ∀ j, zI M m j = if j = 13 then nI 4294967295 else nI 0) (hr : ∀ b, m + 1 ≤ b → b < m + 14 → ∀ j, zI M b j = if b = m + 1 ∧ j = 0 then nI 1 else nI 0) (ms : MS m M) : MI m st0 M := by
  refine ⟨⟨ms, fun k hk => ?_, st0_ok.1⟩, ⟨ms, fun i hi => ?_⟩, ⟨?_, fun i hi => absurd hi (Nat.not_lt_zero i)⟩, fun i hi => ⟨?_, fun e => by cases e⟩, ⟨?_, ?_, fun i hi => absurd hi (Nat.not_lt_zero i)⟩, ⟨fun k hk => absurd hk (sgi_n (by decide) k), fun k hk => absurd hk (sgi_n (by decide) k), fun k hk => absurd hk (sgi_n (by decide) k), fun k hk => absurd hk (sgi_n (by decide) k)⟩⟩
  · rw [hr _ (by omega) (by omega)]
    by_cases c : k = 0
    · rw [if_pos ⟨rfl, c⟩, c]; rfl
    · rw [if_neg (fun u => c u.2), sgi_o 1 c]
  · rw [hr _ (by omega) (by omega), if_neg (by omega)]
  · rw [hz]; rfl
  · rw [hr _ (by omega) (by omega), if_neg (by omega)]; rfl
  · rw [hz]; rfl
  · rw [hz]; rfl
theorem MI.out {s : ST} {a i : Nat} {v : Int64} (h : MI m s M) (ha : a ≠ m + 3) : MI m s (sJ M a i v) := by
  obtain ⟨sg, pl, hn, hl, sv, sl, bl, bf, ep, nm⟩ := s
  obtain ⟨h1, h2, h3, h4, h5, h6⟩ := h
  refine ⟨h1, h2, h3, h4, h5, ?_⟩
  have e : zJ (sJ M a i v) (m + 3) = zJ M (m + 3) := by
    funext j
    exact if_neg fun u => ha u.1.symm
  unfold MNm at h6 ⊢
  rw [e]; exact h6
end L8
/-- both sides are in the same state -/
def St (x : Nat) (M : Mm) : Prop := ∃ s, OKs s ∧ CI x s M ∧ MI (x + 149) s M ∧ WO x M
theorem CI.k7 {x : Nat} {s : ST} {M : Mm} (h : CI x s M) : zk M x = 7 := by
  obtain ⟨sg, pl, hn, hl, sv, sl, bl, bf, ep, nm⟩ := s
  obtain ⟨_, sa, sp, hp, hx, _⟩ := h
  exact hx.1.1.1
section LA
variable {x : Nat} {s : ST} {M : Mm} {NEXT BAD : Mm → Prop}
theorem law_A {wC wM : Mm → (Int32 → Mm → Prop) → Prop} (h : CALL0 x s wC wM) (hC : CI x s M) (hM : MI (x + 149) s M) (hW : WO x M) (nx : ∀ M', St x M' → NEXT M') {Q : Int32 → Mm → Prop}
    (q : ∀ r6 M6, (zk M6 (x + 149) = 8 ∧ wM M6 (fun r7 M7 => if r6 = r7 then NEXT M7 else BAD M7)) → Q r6 M6) : zk M x = 7 ∧ wC M Q := by
  obtain ⟨v, s', ok, c, m⟩ := h
  have hz := hW.1
  refine ⟨hC.k7, c M Q hC hW fun M1 c1 f1 => q v M1 ?_⟩
  have m1 : MI (x + 149) s M1 := hM.frg f1 (by omega) (Nat.le_refl _)
  have w1 : WO x M1 := hW.frg f1 (by omega)
  have hz1 := w1.1
  exact ⟨m1.k8, m M1 _ m1 fun M2 m2 f2 => ifp rfl (nx M2 ⟨s', ok, c1.frg (RMo.g f2) (by omega) (Nat.le_refl _), m2, w1.frg (RMo.g f2) (Nat.le_refl _)⟩)⟩
theorem law_M {wM : Mm → (Int32 → Mm → Prop) → Prop} {k : Nat} {v : Int32} {s1 : ST} (hk : k < 1000)
    (m : ∀ M P, MI (x + 149) s M → (∀ M' u s2, OKs s2 → (∀ M3, CI x s1 M3 → CI x s2 M3) → MI (x + 149) s2 M' → FrG (x + 149) (x + 163) M M' → zI M' (x + 149) 0 = nI k → (k = 0 → u = v) → P u M') → wM M P)
    (c1 : CI x s1 M) (m1 : MI (x + 149) s M) (w1 : WO x M) (nx : ∀ M', St x M' → NEXT M') (TEST : Int32 → Mm → Prop) (ht : k = 0 → ∀ M', zJ M' (x + 163) = zJ M (x + 163) → WO x M' → NEXT M' → TEST v M') :
    zk M (x + 149) = 8 ∧ wM M (fun r9 M9 => zk M9 (x + 149) = 8 ∧ w_X8_thrown M9 (x + 149) (fun r10 M10 => if r10 = nI k then (if nI k = (0 : Int32) then TEST r9 M10 else NEXT M10) else BAD M10)) := by
  have hz1 := w1.1
  refine ⟨m1.k8, m M _ m1 fun M9 u s2 ok2 cc m9 f9 t9 e9 => ⟨m9.k8, m9.k8, ifp t9 ?_⟩⟩
  have w9 := w1.frg f9 (Nat.le_refl _)
  have st : St x M9 := ⟨s2, ok2, cc M9 (c1.frg f9 (by omega) (Nat.le_refl _)), m9, w9⟩
  by_cases c : k = 0
  · rw [e9 c]
    exact ifp (by rw [c]; rfl) (ht c M9 (f9.2 (x + 163) (by omega) (by omega)).2.2.2.1 w9 (nx M9 st))
  · exact ifn (fun u => by rw [l_0, n_eqF c (by omega) (by omega)] at u; exact u) (nx M9 st)
/-- a call that answers an int, and may throw -/
theorem law_B {cl : Nat × (Nat → String)} {wC : Mm → (Int32 → Mm → Prop) → (String → Mm → Prop) → Prop} {wM : Mm → (Int32 → Mm → Prop) → Prop} (h : CALLP x s cl wC wM) (hcl : cl.1 < 1000) (hC : CI x s M) (hM : MI (x + 149) s M) (hW : WO x M) (nx : ∀ M', St x M' → NEXT M') {Q : Int32 → Mm → Prop} {XX : String → Mm → Prop}
    (xx : ∀ k, 1 ≤ k → k ≤ cl.1 → ∀ M', Q (nI k) M' → XX (cl.2 k) M')
    (q : ∀ r8 M8, (zk M8 (x + 149) = 8 ∧ wM M8 (fun r9 M9 => zk M9 (x + 149) = 8 ∧ w_X8_thrown M9 (x + 149) (fun r10 M10 => if r10 = r8 then (if r8 = (0 : Int32) then zk M10 (x + 163) = 11 ∧ vp_in (0 : Int32) (zl M10 (x + 163)) ∧ (if (lg_cmp (zJ M10 (x + 163) (0 : Int32).toNatClampNeg) r9.toInt64) = 0 then NEXT M10 else BAD M10) else NEXT M10) else BAD M10))) → Q r8 M8) :
    zk M x = 7 ∧ wC M (fun r1 M1 => zk M1 (x + 163) = 11 ∧ vp_in (0 : Int32) (zl M1 (x + 163)) ∧ (∀ M2, M2 = sJ M1 (x + 163) (0 : Int32).toNatClampNeg r1.toInt64 → Q (0 : Int32) M2)) XX := by
  obtain ⟨k, v, s1, hk, c, m⟩ := h
  have hz := hW.1
  refine ⟨hC.k7, c M _ _ hC hW fun M1 c1 f1 => ?_⟩
  have m1 : MI (x + 149) s M1 := hM.frg f1 (by omega) (Nat.le_refl _)
  have w1 : WO x M1 := hW.frg f1 (by omega)
  have hz1 := w1.1
  have vp0 : ∀ M, WO x M → vp_in (0 : Int32) (zl M (x + 163)) := fun M w => by rw [w.2.2]; exact vpn (n := 0) (by omega) (by decide)
  by_cases c0 : k = 0
  · refine ifp c0 ⟨w1.2.1, vp0 M1 w1, fun M2 e2 => ?_⟩
    have c2 : CI x s1 M2 := by
      rw [e2]
      refine c1.frg (lo := x + 163) (hi := x + 164) ⟨Nat.le_refl _, fun b _ hn => ⟨rfl, rfl, rfl, ?_, rfl⟩⟩ (by omega) (by omega)
      funext j
      exact if_neg fun u => hn (by omega)
    have m2 : MI (x + 149) s M2 := by rw [e2]; exact m1.out (by omega)
    have w2 : WO x M2 := by rw [e2]; exact w1
    have t := law_M (NEXT := NEXT) (BAD := BAD) (by omega) m c2 m2 w2 nx (fun r9 M10 => zk M10 (x + 163) = 11 ∧ vp_in (0 : Int32) (zl M10 (x + 163)) ∧ (if (lg_cmp (zJ M10 (x + 163) (0 : Int32).toNatClampNeg) r9.toInt64) = 0 then NEXT M10 else BAD M10)) (fun _ M' ej w' n' => ⟨w'.2.1, vp0 M' w', ifp ?_ n'⟩)
    · rw [c0] at t
      exact q _ M2 t
    · rw [l_0, lg0, ej, e2]
      exact zJ_sJ1 _ _ _ _
  · refine ifn c0 (xx k (by omega) hk M1 (q (nI k) M1 ?_))
    exact law_M (by omega) m c1 m1 w1 nx _ fun e => absurd e c0
/-- a call that answers true or false, and may throw -/
theorem law_Z {cl : Nat × (Nat → String)} {wC : Mm → (Int32 → Mm → Prop) → (String → Mm → Prop) → Prop} {wM : Mm → (Int32 → Mm → Prop) → Prop} (h : CALLP x s cl wC wM) (hcl : cl.1 < 1000) (hC : CI x s M) (hM : MI (x + 149) s M) (hW : WO x M) (nx : ∀ M', St x M' → NEXT M') {Q : Int32 → Mm → Prop} {XX : String → Mm → Prop}
    (xx : ∀ k, 1 ≤ k → k ≤ cl.1 → ∀ M', Q (nI k) M' → XX (cl.2 k) M')
    (q : ∀ r8 M8, (zk M8 (x + 149) = 8 ∧ wM M8 (fun r9 M9 => zk M9 (x + 149) = 8 ∧ w_X8_thrown M9 (x + 149) (fun r10 M10 => if r10 = r8 then (if r8 = (0 : Int32) then zk M10 (x + 163) = 11 ∧ vp_in (0 : Int32) (zl M10 (x + 163)) ∧ (if r9 = 0 then (if (lg_cmp (zJ M10 (x + 163) (0 : Int32).toNatClampNeg) (0 : Int64)) = 0 then NEXT M10 else BAD M10) else (if (lg_cmp (zJ M10 (x + 163) (0 : Int32).toNatClampNeg) (1 : Int64)) = 0 then NEXT M10 else BAD M10)) else NEXT M10) else BAD M10))) → Q r8 M8) :
    zk M x = 7 ∧ wC M (fun r1 M1 => (if r1 = 0 then zk M1 (x + 163) = 11 ∧ vp_in (0 : Int32) (zl M1 (x + 163)) ∧ (∀ M2, M2 = sJ M1 (x + 163) (0 : Int32).toNatClampNeg (0 : Int64) → Q (0 : Int32) M2) else zk M1 (x + 163) = 11 ∧ vp_in (0 : Int32) (zl M1 (x + 163)) ∧ (∀ M3, M3 = sJ M1 (x + 163) (0 : Int32).toNatClampNeg (1 : Int64) → Q (0 : Int32) M3))) XX := by
  obtain ⟨k, v, s1, hk, c, m⟩ := h
  have hz := hW.1
  refine ⟨hC.k7, c M _ _ hC hW fun M1 c1 f1 => ?_⟩
  have m1 : MI (x + 149) s M1 := hM.frg f1 (by omega) (Nat.le_refl _)
  have w1 : WO x M1 := hW.frg f1 (by omega)
  have hz1 := w1.1
  have vp0 : ∀ M, WO x M → vp_in (0 : Int32) (zl M (x + 163)) := fun M w => by rw [w.2.2]; exact vpn (n := 0) (by omega) (by decide)
  by_cases c0 : k = 0
  · have go : ∀ w : Int64, (v = 0 → w = 0) → (¬ v = 0 → w = 1) → ∀ M2, M2 = sJ M1 (x + 163) (0 : Int32).toNatClampNeg w → Q (0 : Int32) M2 := by
      intro w hw0 hw1 M2 e2
      have c2 : CI x s1 M2 := by
        rw [e2]
        refine c1.frg (lo := x + 163) (hi := x + 164) ⟨Nat.le_refl _, fun b _ hn => ⟨rfl, rfl, rfl, ?_, rfl⟩⟩ (by omega) (by omega)
        funext j
        exact if_neg fun u => hn (by omega)
      have m2 : MI (x + 149) s M2 := by rw [e2]; exact m1.out (by omega)
      have w2 : WO x M2 := by rw [e2]; exact w1
      have t := law_M (NEXT := NEXT) (BAD := BAD) (by omega) m c2 m2 w2 nx (fun r9 M10 => zk M10 (x + 163) = 11 ∧ vp_in (0 : Int32) (zl M10 (x + 163)) ∧ (if r9 = 0 then (if (lg_cmp (zJ M10 (x + 163) (0 : Int32).toNatClampNeg) (0 : Int64)) = 0 then NEXT M10 else BAD M10) else (if (lg_cmp (zJ M10 (x + 163) (0 : Int32).toNatClampNeg) (1 : Int64)) = 0 then NEXT M10 else BAD M10))) (fun _ M' ej w' n' => ⟨w'.2.1, vp0 M' w', ?_⟩)
      · rw [c0] at t
        exact q _ M2 t
      · have ez : zJ M' (x + 163) (0 : Int32).toNatClampNeg = w := by
          rw [ej, e2]; exact zJ_sJ1 _ _ _ _
        by_cases cv : v = 0
        · refine ifp cv (ifp ?_ n')
          rw [ez, l_0, lg0, hw0 cv]
        · refine ifn cv (ifp ?_ n')
          rw [ez, l_0, lg0, hw1 cv]
    refine ifp c0 ?_
    by_cases cv : v = 0
    · exact ifp cv ⟨w1.2.1, vp0 M1 w1, go 0 (fun _ => rfl) fun u => absurd cv u⟩
    · exact ifn cv ⟨w1.2.1, vp0 M1 w1, go 1 (fun u => absurd u cv) fun _ => rfl⟩
  · refine ifn c0 (xx k (by omega) hk M1 (q (nI k) M1 ?_))
    exact law_M (by omega) m c1 m1 w1 nx _ fun e => absurd e c0
end LA
/-! what the law's wrappers catch -/
section XQ
variable {Q : Int32 → Mm → Prop}
theorem xA : ∀ k, 1 ≤ k → k ≤ clA.1 → ∀ M', Q (nI k) M' → (clA.2 k = "java/lang/IllegalArgumentException" ∧ Q (1 : Int32) M') := fun k h1 h2 M' h => by
  have h3 : k ≤ 1 := h2
  obtain rfl : k = 1 := by omega
  exact ⟨rfl, h⟩
theorem xB1 : ∀ k, 1 ≤ k → k ≤ clB1.1 → ∀ M', Q (nI k) M' → (clB1.2 k = "java/lang/IndexOutOfBoundsException" ∧ Q (1 : Int32) M') := fun k h1 h2 M' h => by
  have h3 : k ≤ 1 := h2
  obtain rfl : k = 1 := by omega
  exact ⟨rfl, h⟩
theorem xC1 : ∀ k, 1 ≤ k → k ≤ clC1.1 → ∀ M', Q (nI k) M' → (clC1.2 k = "java/lang/IndexOutOfBoundsException" ∧ Q (1 : Int32) M') := fun k h1 h2 M' h => by
  have h3 : k ≤ 1 := h2
  obtain rfl : k = 1 := by omega
  exact ⟨rfl, h⟩
theorem xB : ∀ k, 1 ≤ k → k ≤ clB.1 → ∀ M', Q (nI k) M' → ((clB.2 k = "java/lang/IndexOutOfBoundsException" ∧ Q (1 : Int32) M') ∨ (clB.2 k = "java/lang/IllegalArgumentException" ∧ Q (2 : Int32) M')) := fun k h1 h2 M' h => by
  have h3 : k ≤ 2 := h2
  rcases (show k = 1 ∨ k = 2 by omega) with rfl | rfl
  · exact Or.inl ⟨rfl, h⟩
  · exact Or.inr ⟨rfl, h⟩
theorem xC : ∀ k, 1 ≤ k → k ≤ clC.1 → ∀ M', Q (nI k) M' → ((clC.2 k = "java/lang/IndexOutOfBoundsException" ∧ Q (1 : Int32) M') ∨ (clC.2 k = "java/lang/IllegalStateException" ∧ Q (2 : Int32) M')) := fun k h1 h2 M' h => by
  have h3 : k ≤ 2 := h2
  rcases (show k = 1 ∨ k = 2 by omega) with rfl | rfl
  · exact Or.inl ⟨rfl, h⟩
  · exact Or.inr ⟨rfl, h⟩
theorem xB3 : ∀ k, 1 ≤ k → k ≤ clB3.1 → ∀ M', Q (nI k) M' → ((clB3.2 k = "java/lang/IndexOutOfBoundsException" ∧ Q (1 : Int32) M') ∨ (clB3.2 k = "java/lang/IllegalArgumentException" ∧ Q (2 : Int32) M') ∨ (clB3.2 k = "java/lang/IllegalStateException" ∧ Q (3 : Int32) M')) := fun k h1 h2 M' h => by
  have h3 : k ≤ 3 := h2
  rcases (show k = 1 ∨ k = 2 ∨ k = 3 by omega) with rfl | rfl | rfl
  · exact Or.inl ⟨rfl, h⟩
  · exact Or.inr (Or.inl ⟨rfl, h⟩)
  · exact Or.inr (Or.inr ⟨rfl, h⟩)
end XQ
