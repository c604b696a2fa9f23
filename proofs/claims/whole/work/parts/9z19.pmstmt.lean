/-! PARSE: a statement, and all of them, in the model -/
section PMS
variable {m L : Nat} {bf : Nat → Int32} {M : Mm}
theorem MPS.adv {p q : Nat} {sg ct : Nat → Nat} {nm : Nat → List Nat} {dt : Bool} {M' : Mm} (h : MPS m L bf (p, sg, nm, ct, dt) M) (f : FrJ m (fun b => b = m) M M') (g : AF m M M') (h2 : PMx m L bf q M') : MPS m L bf (q, sg, nm, ct, dt) M' := by
  obtain ⟨pm, z13, rd, rc, zd, na0, na1, na2, na3⟩ := h
  have fq : FQ (fun b => b = m) M M' := fq_J f rfl
  refine ⟨h2, ?_, ?_, ?_, ?_, fun k hk => ?_, fun k hk => ?_, fun k hk => ?_, fun k hk => ?_⟩
  · rw [g 13 (by omega) (by omega) (by omega) (by omega)]; exact z13
  · rw [fq.i (by omega)]; exact rd
  · rw [fq.i (by omega)]; exact rc
  · rw [g 15 (by omega) (by omega) (by omega) (by omega)]; exact zd
  · rw [fq.j (by omega)]; exact na0 k hk
  · rw [fq.j (by omega)]; exact na1 k hk
  · rw [fq.j (by omega)]; exact na2 k hk
  · rw [fq.j (by omega)]; exact na3 k hk
theorem s_X8_statement {s : PS} (h : MPS m L bf s M) (ok : PSok s L) (P : Int32 → Mm → Prop)
    (K1 : ∀ s2, stmtL L bf s = Sum.inr s2 → ∀ M', FQ (RPm m) M M' → MFx m M M' → MPS m L bf s2 M' → P (nI 1) M')
    (K0 : ∀ c q, stmtL L bf s = Sum.inl (c, q) → ∀ M', FQ (RPm m) M M' → MFx m M M' → MFl m c q M' → P (nI 0) M') : w_X8_statement M m P := by
  obtain ⟨p, sg, nm, ct, dt⟩ := s
  have pm := h.1
  have k8 := pm.2.1.1
  have hp := ok.1
  have b0 : ∀ b : Bool, ¬ b = true → bI b = (0 : Int32) := fun b hb => by rw [b_no hb]; rfl
  have b1 : ∀ b : Bool, b = true → ¬ bI b = (0 : Int32) := fun b hb => by rw [hb]; decide
  refine ⟨k8, s_X8_isWord pm.2.1 pm.2.2.1 hp (by omega) _ ?_⟩
  by_cases d1 : isw L bf p 1 = true
  · have e : stmtL L bf (p, sg, nm, ct, dt) = hallL L bf (p, sg, nm, ct, dt) := by unfold stmtL; rw [if_pos d1]
    rw [e] at K1 K0
    exact ifn (b1 _ d1) ⟨k8, s_X8_hallLine h ok _ (fun s2 e2 M' f x c => ⟨Or.inr rfl, K1 s2 e2 M' f x c⟩) fun c q e2 M' f x k => ⟨Or.inl rfl, K0 c q e2 M' f x k⟩⟩
  · refine ifp (b0 _ d1) ⟨k8, s_X8_isWord pm.2.1 pm.2.2.1 hp (by omega) _ ?_⟩
    by_cases d2 : isw L bf p 2 = true
    · have e : stmtL L bf (p, sg, nm, ct, dt) = playerL L bf (p, sg, nm, ct, dt) := by unfold stmtL; rw [if_neg d1, if_pos d2]
      rw [e] at K1 K0
      exact ifn (b1 _ d2) ⟨k8, s_X8_playerLine h ok _ (fun s2 e2 M' f x c => ⟨Or.inr rfl, K1 s2 e2 M' f x c⟩) fun c q e2 M' f x k => ⟨Or.inl rfl, K0 c q e2 M' f x k⟩⟩
    · refine ifp (b0 _ d2) ⟨k8, s_X8_isWord pm.2.1 pm.2.2.1 hp (by omega) _ ?_⟩
      by_cases d3 : isw L bf p 3 = true
      · have e : stmtL L bf (p, sg, nm, ct, dt) = absentL L bf (p, sg, nm, ct, dt) := by unfold stmtL; rw [if_neg d1, if_neg d2, if_pos d3]
        rw [e] at K1 K0
        exact ifn (b1 _ d3) ⟨k8, s_X8_absentLine h ok _ (fun s2 e2 M' f x c => ⟨Or.inr rfl, K1 s2 e2 M' f x c⟩) fun c q e2 M' f x k => ⟨Or.inl rfl, K0 c q e2 M' f x k⟩⟩
      · refine ifp (b0 _ d3) ⟨k8, s_X8_isWord pm.2.1 pm.2.2.1 hp (by omega) _ ?_⟩
        by_cases d4 : isw L bf p 4 = true
        · have e : stmtL L bf (p, sg, nm, ct, dt) = workL L bf (p, sg, nm, ct, dt) := by unfold stmtL; rw [if_neg d1, if_neg d2, if_neg d3, if_pos d4]
          rw [e] at K1 K0
          exact ifn (b1 _ d4) ⟨k8, s_X8_workLine h ok _ (fun s2 e2 M' f x c => ⟨Or.inr rfl, K1 s2 e2 M' f x c⟩) fun c q e2 M' f x k => ⟨Or.inl rfl, K0 c q e2 M' f x k⟩⟩
        · refine ifp (b0 _ d4) ⟨k8, s_X8_isWord pm.2.1 pm.2.2.1 hp (by omega) _ ?_⟩
          by_cases d5 : isw L bf p 5 = true
          · have e : stmtL L bf (p, sg, nm, ct, dt) = doubleL L bf (p, sg, nm, ct, dt) := by unfold stmtL; rw [if_neg d1, if_neg d2, if_neg d3, if_neg d4, if_pos d5]
            rw [e] at K1 K0
            exact ifn (b1 _ d5) ⟨k8, s_X8_doubleLine h ok _ (fun s2 e2 M' f x c => ⟨Or.inr rfl, K1 s2 e2 M' f x c⟩) fun c q e2 M' f x k => ⟨Or.inl rfl, K0 c q e2 M' f x k⟩⟩
          · have e : stmtL L bf (p, sg, nm, ct, dt) = Sum.inl (1, tS L bf p) := by unfold stmtL; rw [if_neg d1, if_neg d2, if_neg d3, if_neg d4, if_neg d5]
            exact ifp (b0 _ d5) ⟨k8, s_X8_fails (c := 1) pm _ fun M1 f1 g1 e1 => ⟨Or.inl rfl, K0 1 _ e M1 (fq_I f1 fun b hb => Or.inl hb) (fails_fx g1) e1⟩⟩
theorem s_M_stmts {P : Int32 → Mm → Prop} {K159 : Mm → Nat → Int32 → Prop} : ∀ (f : Nat) (s : PS) (M : Mm), MPS m L bf s M → PSok s L → L < s.1 + f →
    (∀ s2, stmtsL L bf f s = Sum.inr s2 → ∀ M', FQ (RPm m) M M' → MFx m M M' → MPS m L bf s2 M' → K159 M' m (nI 1)) →
    (∀ c q, stmtsL L bf f s = Sum.inl (c, q) → ∀ M', FQ (RPm m) M M' → MFx m M M' → MFl m c q M' → K159 M' m (nI 0)) → l_X8_parse_125 P K159 (f + 1) M m (nI 1) := by
  intro f
  induction f with
  | zero =>
    intro s M h ok hL
    obtain ⟨p, sg, nm, ct, dt⟩ := s
    have := ok.1
    omega
  | succ f ih =>
    intro s M h ok hL K1 K0
    obtain ⟨p, sg, nm, ct, dt⟩ := s
    have pm := h.1
    have k8 := pm.2.1.1
    have hp := ok.1
    have t9 := pm.2.2.1.2.1
    have kb := tK_b (L := L) (bf := bf) (p := p)
    have hby : ∀ i, i < L → (bf i).toInt8.toInt32 = bf i := fun i hi => (pm.2.1.2.2.2.2.2.2 i hi).2
    dsimp only at hL
    have out : ∀ M3, K159 M3 m (nI 0) → ∀ g, l_X8_parse_125 P K159 (g + 1) M3 m (nI 0) := by
      intro M3 k g
      rw [l_X8_parse_125]
      exact ifp rfl k
    rw [l_X8_parse_125]
    refine ifn (by decide) ⟨k8, ?_⟩
    by_cases c0 : tK L bf p = 0
    · exact ifp (by rw [t9, c0]; rfl) (K1 (p, sg, nm, ct, dt) (by simp only [stmtsL, c0, if_true]) M FQ.rf (fun _ _ => rfl) h)
    · refine ifn (fun u => by rw [t9, l_0, n_eqF c0 (by omega) (by omega)] at u; exact u) ⟨k8, s_X8_statement h ok _ (fun s2 e2 M2 f2 x2 c2 => ifn (by decide) ?_) fun c q e2 M2 f2 x2 k2 => ifp rfl (out M2 (K0 c q (by simp only [stmtsL, c0, if_false, e2]) M2 f2 x2 k2) f)⟩
      obtain ⟨ok2, lt2⟩ := stmtL_ok hby ok e2
      obtain ⟨p2, sg2, nm2, ct2, dt2⟩ := s2
      have hp2 := ok2.1
      dsimp only at lt2
      have c2' := c2
      obtain ⟨pm2, -⟩ := c2
      refine ⟨pm2.2.1.1, s_X8_closes pm2 hp2 _ (fun e3 M3 f3 g3 p3 => ifn (by decide) ?_) fun e3 M3 f3 g3 k3 => ifp rfl (out M3 (K0 1 _ (by simp only [stmtsL, c0, if_false, e2, e3]) M3 (f2.trans (fq_I f3 fun b hb => Or.inl hb)) (x2.trans (fails_fx g3)) k3) f)⟩
      have lg := tN_ge L bf p2
      have F3 : FQ (RPm m) M M3 := f2.trans (fq_J f3 (Or.inl rfl))
      have x3 := x2.trans g3.fx
      refine ih (tN L bf p2, sg2, nm2, ct2, dt2) M3 (c2'.adv f3 g3 p3) (ok2.adv (tN_le L bf hp2)) (by dsimp only; omega) (fun s3 e4 M4 f4 x4 c4 => K1 s3 ?_ M4 (F3.trans f4) (x3.trans x4) c4) (fun c q e4 M4 f4 x4 k4 => K0 c q ?_ M4 (F3.trans f4) (x3.trans x4) k4)
      · simp only [stmtsL, c0, if_false, e2, e3, if_true]; exact e4
      · simp only [stmtsL, c0, if_false, e2, e3, if_true]; exact e4
end PMS
