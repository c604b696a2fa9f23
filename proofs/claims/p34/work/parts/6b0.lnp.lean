/-! THE ROOM: the drawn season, as far as it counts: who plays what -/
section DNP
variable {sg ct : Nat → Nat} {nm : Nat → List Nat} {t : List Nat} {G : Nat}
theorem kinds_tbK (sg : Nat → Nat) (p k : Nat) : (kinds sg p).testBit k = true ↔ ∃ i, i < oP sg p 2 ∧ oP sg p (3 + i) = k := by
  unfold kinds
  rw [tb_fo1, Nat.zero_testBit]
  exact ⟨fun h => h.elim (fun z => by cases z) id, Or.inr⟩
theorem NP_py {f m o : Nat} {both : Bool} (hq : Q2 sg) (z1 : oP sg (sg 2) 1 = 0) (z2 : oP sg (sg 2) 2 = 0) (k : Nat) : NP (pyS sg f m o both) k = NP sg k + (if m = k ∨ (both = true ∧ o = k) then 1 else 0) := by
  obtain ⟨v2, v0, v1, vn, v3, v5, v4⟩ := pyS_v (f := f) (m := m) (o := o) (both := both) z1 z2
  have vo := fun k h2 h4 hk => pyS_o (f := f) (m := m) (o := o) (both := both) (k := k) h2 h4 hk z2
  generalize pyS sg f m o both = sq at v2 v0 v1 vn v3 v5 v4 vo ⊢
  unfold NP
  rw [v2, su_s]
  congr 1
  · refine su_ext fun p hp => ?_
    have e : ((kinds sq p).testBit k = true) ↔ ((kinds sg p).testBit k = true) := by
      rw [kinds_tbK, kinds_tbK]
      have e2 : oP sq p 2 = oP sg p 2 := vo _ (by omega) (by omega) (by omega)
      have q := hq p hp
      rw [e2]
      constructor
      · rintro ⟨i, h1, h2⟩
        have e3 : oP sq p (3 + i) = oP sg p (3 + i) := vo (9 + 7 * p + (3 + i)) (by omega) (by omega) (by omega)
        exact ⟨i, h1, by rw [← e3]; exact h2⟩
      · rintro ⟨i, h1, h2⟩
        have e3 : oP sq p (3 + i) = oP sg p (3 + i) := vo (9 + 7 * p + (3 + i)) (by omega) (by omega) (by omega)
        exact ⟨i, h1, by rw [e3]; exact h2⟩
    by_cases c : (kinds sg p).testBit k = true
    · rw [if_pos c, if_pos (e.mpr c)]
    · rw [if_neg c, if_neg fun z => c (e.mp z)]
  · have e : ((kinds sq (sg 2)).testBit k = true) ↔ (m = k ∨ (both = true ∧ o = k)) := by
      rw [kinds_tbK, vn]
      constructor
      · rintro ⟨i, h1, h2⟩
        by_cases i0 : i = 0
        · subst i0
          exact Or.inl (v3.symm.trans h2)
        · by_cases b : both = true
          · rw [if_pos b] at h1
            have i1 : i = 1 := by omega
            subst i1
            exact Or.inr ⟨b, (v5 b).symm.trans h2⟩
          · rw [if_neg b] at h1; omega
      · rintro (h | ⟨b, h⟩)
        · exact ⟨0, by split <;> omega, v3.trans h⟩
        · exact ⟨1, by rw [if_pos b]; omega, (v5 b).trans h⟩
    by_cases c : m = k ∨ (both = true ∧ o = k)
    · rw [if_pos c, if_pos (e.mpr c)]
    · rw [if_neg c, if_neg fun z => c (e.mp z)]
/-- a player, as far as he counts: instruments told, how many play each, the drawing -/
def kdN (kc m : Nat) : Nat := if m < kc then kc else kc + 1
abbrev PSt : Type := Nat × (Nat → Nat) × Nat
def pMn (kc g : Nat) : Nat := drw (nx (nx g)) (mi4 kc)
def pOt (kc g : Nat) : Nat := drw (nx (nx (nx g))) (mi4 (kdN kc (pMn kc g)))
def pBo (kc g : Nat) : Bool := decide (pOt kc g ≠ pMn kc g ∧ drw (nx (nx (nx (nx g)))) 2 = 0)
def pstp (s : PSt) : PSt := (if pBo s.1 s.2.2 = true then kdN (kdN s.1 (pMn s.1 s.2.2)) (pOt s.1 s.2.2) else kdN s.1 (pMn s.1 s.2.2), fun k => s.2.1 k + (if pMn s.1 s.2.2 = k ∨ (pBo s.1 s.2.2 = true ∧ pOt s.1 s.2.2 = k) then 1 else 0), if pOt s.1 s.2.2 = pMn s.1 s.2.2 then nx (nx (nx (nx s.2.2))) else nx (nx (nx (nx (nx s.2.2)))))
theorem kdN_e (sg : Nat → Nat) (m : Nat) : kd1 sg m = kdN (sg 4) m := rfl
theorem pMn_e (sg : Nat → Nat) (G : Nat) : pMain sg G = pMn (sg 4) G := rfl
theorem pOt_e (sg : Nat → Nat) (G : Nat) : pOther sg G = pOt (sg 4) G := rfl
theorem pBo_e (sg : Nat → Nat) (G : Nat) : pBoth sg G = pBo (sg 4) G := rfl
theorem pG_e (sg : Nat → Nat) (G : Nat) : pG sg G = if pOt (sg 4) G = pMn (sg 4) G then nx (nx (nx (nx G))) else nx (nx (nx (nx (nx G)))) := rfl
/-- what a drawn state says of its players -/
def PsR (s : DS) (q : PSt) : Prop := s.1 4 = q.1 ∧ (∀ k, NP s.1 k = q.2.1 k) ∧ dG s = q.2.2
theorem PsR.step {s : DS} {q : PSt} (h : PsR s q) (hq : Q2 s.1) (z1 : oP s.1 (s.1 2) 1 = 0) (z2 : oP s.1 (s.1 2) 2 = 0) : PsR (dP s) (pstp q) ∧ Q2 (dP s).1 := by
  obtain ⟨sg, nm, ct, t, G⟩ := s
  obtain ⟨kc, N, g⟩ := q
  obtain ⟨h1, h2, h3⟩ := h
  have h1 : sg 4 = kc := h1
  have h2 : ∀ k, NP sg k = N k := h2
  have h3 : G = g := (dG_mk sg nm ct t G).symm.trans h3
  have hq : Q2 sg := hq
  have z1 : oP sg (sg 2) 1 = 0 := z1
  have z2 : oP sg (sg 2) 2 = 0 := z2
  subst h1 h3
  rw [dP_eq]
  refine ⟨⟨?_, fun k => ?_, ?_⟩, pyS_q hq z1 z2⟩
  · have q := (pyS_v (f := drw (nx G) 90) (m := pMain sg G) (o := pOther sg G) (both := pBoth sg G) z1 z2).2.2.2.2.2.2
    show pyS sg (drw (nx G) 90) (pMain sg G) (pOther sg G) (pBoth sg G) 4 = _
    rw [q]
    have e4 : instS (playS sg (drw (nx G) 90)) (sg 2) (pMain sg G) 4 = kd1 sg (pMain sg G) := py_4b
    have e5 : kd1 (instS (playS sg (drw (nx G) 90)) (sg 2) (pMain sg G)) (pOther sg G) = kdN (kdN (sg 4) (pMain sg G)) (pOther sg G) := by rw [kdN_e, e4, kdN_e]
    rw [e5, kdN_e, pMn_e, pOt_e, pBo_e]
    rfl
  · show NP (pyS sg (drw (nx G) 90) (pMain sg G) (pOther sg G) (pBoth sg G)) k = _
    rw [NP_py hq z1 z2, h2, pMn_e, pOt_e, pBo_e]
    rfl
  · rw [dG_mk, pG_e]
    rfl
end DNP
