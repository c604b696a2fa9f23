/-! PARSE: the line of a work, in the class, whole -/
section PCX
variable {x y z sp L p : Nat} {bf : Nat → Int32} {sg ct : Nat → Nat} {nm : Nat → List Nat} {dt : Bool} {M : Mm}
theorem SeaSh.wk (h : SeaSh sp M) : zk M sp = 6 ∧ (zR M sp 13 = some (sp + 15) ∧ zk M (sp + 15) = 10 ∧ zl M (sp + 15) = 5) ∧ (zR M sp 14 = some (sp + 16) ∧ zk M (sp + 16) = 10 ∧ zl M (sp + 16) = 5) ∧ (zR M sp 15 = some (sp + 17) ∧ zk M (sp + 17) = 10 ∧ zl M (sp + 17) = 5) ∧ zR M sp 16 = some (sp + 18) ∧ zk M (sp + 18) = 10 ∧ zl M (sp + 18) = 5 := by
  unfold SeaSh at h
  obtain ⟨s1, s2, s3, s4⟩ := h
  refine ⟨s1.1, ⟨?_, ?_, ?_⟩, ⟨?_, ?_, ?_⟩, ⟨?_, ?_, ?_⟩, ?_, ?_, ?_⟩ <;> first | simp only [s1] | simp only [s3] | simp only [s4]
theorem s_X3_readWork (h : CPS x y z sp L bf (p, sg, nm, ct, dt) M) (ok : PSok (p, sg, nm, ct, dt) L) (P : Int32 → Mm → Prop)
    (K1 : ∀ s2, workL L bf (p, sg, nm, ct, dt) = Sum.inr s2 → ∀ M', FQ (RPa y z sp) M M' → CPS x y z sp L bf s2 M' → P (nI 1) M')
    (K0 : ∀ c q, workL L bf (p, sg, nm, ct, dt) = Sum.inl (c, q) → ∀ M', FQ (RPa y z sp) M M' → CFl z c q M' → P (nI 0) M') : w_X3_readWork M z P := by
  have ok0 := ok
  obtain ⟨hc, t, z2, z3, hS, hNm, hct, hdt, hf1, hf2⟩ := h
  obtain ⟨hp, sb, hct2, n1, n2, n3, n4, g1, g2⟩ := ok
  have b := sb.1
  have sh := hS.1
  obtain ⟨s1, ⟨-, -, -, -, -, -, a7, a8, -, -, -, b4⟩, -, -, -, -, -, -, -, -, -, -, l14, -⟩ := sh
  have nn := hS.n
  have d := hc.2.2.2
  have hp1 := tN_le L bf hp
  have hp2 := tN_le L bf hp1
  have hz := hc.2.1
  have hN : NMS (sp + 13) (sp + 14) 5 (sg 3) (fun k => nm (16 + k)) M := ⟨a7, a8, b4, l14, by omega, nn.2.2.2.2.1, by omega, by omega, fun k hk => ⟨hNm.2.2.1 k hk, n3 k hk⟩⟩
  have v0 : zI M (sp + 13) 1 = nI (sg 3) := nn.2.2.2.2.1
  have q12 : zR M sp 12 = some (sp + 13) := by simp only [s1]
  refine ⟨hz.1, sp, hz.2.2, s1.1, sp + 13, q12, a7, hz.1, sp, hz.2.2, s1.1, sp + 13, q12, hz.1, ?_⟩
  refine s_X3_readNewName hc hp t hN (by omega) (by omega) _ (fun e1 M1 f1 h1 t1 N1 ga gb => ifn (by decide) ⟨h1.2.1.1, ?_⟩) (fun c q e1 M1 f1 k1 => ifp rfl ⟨Or.inl rfl, K0 c q (by simp only [workL, e1]) M1 f1 k1⟩)
  have n5 := (nmErr_n e1).1
  have okw := tK_1 (fun i hi => (hc.1.2.2.2.2.2.2.2 i hi).2) (nmErr_n e1).2.1
  obtain ⟨wo, hwo⟩ : ∃ v, tW L bf (tN L bf p) = v := ⟨_, rfl⟩
  rw [hwo] at N1 okw
  have eW : workL L bf (p, sg, nm, ct, dt) = workN L bf (tN L bf (tN L bf p)) sg (updN nm (16 + sg 3) wo) ct dt := by simp only [workL, e1, hwo]
  obtain ⟨q, hq⟩ : ∃ q, tN L bf (tN L bf p) = q := ⟨_, rfl⟩
  rw [hq] at t1 hp2 eW
  have hq1 := tN_le L bf hp2
  have hq2 := tN_le L bf hq1
  have hq3 := tN_le L bf hq2
  have F1 : FQ (RPa y z sp) M M1 := f1.mono fun b hb => by unfold RPa; omega
  obtain ⟨-, ⟨r13, k15, e15⟩, -⟩ := h1.2.2.1.wk
  refine s_C_num (f := 13) (c := 15) (i := sg 3) (N := 5) (lo := 0) (hi := 9) h1 hp2 t1 r13 k15 e15 (by omega) (by omega) (by omega) (by omega) rfl rfl v0 (by omega) (by omega) (fun m1 M2 f2 h2 t2 c15 => ?_) (fun m1 M2 f2 k2 => ⟨Or.inl rfl, K0 _ _ (by rw [eW]; unfold workN; rw [if_neg m1]) M2 (F1.trans f2) k2⟩)
  have F2 : FQ (RPa y z sp) M M2 := F1.trans (f2.mono fun b hb => by unfold RPa; omega)
  obtain ⟨k6, -, ⟨r14, k16, e16⟩, -⟩ := h2.2.2.1.wk
  have d2 : zI M2 sp 0 = nI (sg 0) := by rw [f2.i (by omega), f1.i (by omega)]; exact nn.1
  refine ⟨h2.2.1.1, sp, h2.2.1.2.2, k6, h2.2.1.1, ?_⟩
  refine s_C_num (f := 14) (c := 16) (i := sg 3) (N := 5) (lo := 0) (hi := sg 0 - 1) h2 hq1 t2 r14 k16 e16 (by omega) (by omega) (by omega) (by omega) rfl (by rw [d2, l_1, n_sub (by omega)]) v0 (by omega) (by omega) (fun m2 M3 f3 h3 t3 c16 => ?_) (fun m2 M3 f3 k3 => ⟨Or.inl rfl, K0 _ _ (by rw [eW]; unfold workN; rw [if_pos m1, if_neg m2]) M3 (F2.trans f3) k3⟩)
  have F3 : FQ (RPa y z sp) M M3 := F2.trans (f3.mono fun b hb => by unfold RPa; omega)
  obtain ⟨k6b, -, ⟨r14b, k16b, e16b⟩, ⟨r15, k17, e17⟩, -⟩ := h3.2.2.1.wk
  have d3 : zI M3 sp 0 = nI (sg 0) := by rw [f3.i (by omega)]; exact d2
  have lo3 : zI M3 (sp + 16) (zI M (sp + 13) 1).toNatClampNeg = nI (tV L bf (tN L bf q)) := by rw [v0, n_cl (by omega), c16, if_pos rfl]
  have vv := nerr_v m2
  refine ⟨h3.2.1.1, sp, h3.2.1.2.2, k6b, sp + 16, r14b, k16b, by rw [e16b, v0]; exact vpn (by omega) (by decide), h3.2.1.1, sp, h3.2.1.2.2, k6b, h3.2.1.1, ?_⟩
  refine s_C_num (f := 15) (c := 17) (i := sg 3) (N := 5) (lo := tV L bf (tN L bf q)) (hi := sg 0 - 1) h3 hq2 t3 r15 k17 e17 (by omega) (by omega) (by omega) (by omega) lo3 (by rw [d3, l_1, n_sub (by omega)]) v0 (by omega) (by omega) (fun m3 M4 f4 h4 t4 c17 => ?_) (fun m3 M4 f4 k4 => ⟨Or.inl rfl, K0 _ _ (by rw [eW]; unfold workN; rw [if_pos m1, if_pos m2, if_neg m3]) M4 (F3.trans f4) k4⟩)
  have F4 : FQ (RPa y z sp) M M4 := F3.trans (f4.mono fun b hb => by unfold RPa; omega)
  obtain ⟨k6c, -, -, -, r16, k18, e18⟩ := h4.2.2.1.wk
  refine ⟨h4.2.1.1, ?_⟩
  refine s_C_num (f := 16) (c := 18) (i := sg 3) (N := 5) (lo := 0) (hi := 999) h4 hq3 t4 r16 k18 e18 (by omega) (by omega) (by omega) (by omega) rfl rfl v0 (by omega) (by omega) (fun m4 M5 f5 h5 t5 c18 => ?_) (fun m4 M5 f5 k5 => ⟨Or.inl rfl, K0 _ _ (by rw [eW]; unfold workN; rw [if_pos m1, if_pos m2, if_pos m3, if_neg m4]) M5 (F4.trans f5) k5⟩)
  have F5 : FQ (fun q => q = y ∨ q = sp + 13 ∨ q = sp + 14 ∨ q = sp + 15 ∨ q = sp + 16 ∨ q = sp + 17 ∨ q = sp + 18) M M5 := (f1.mono fun b hb => by omega).trans ((f2.mono fun b hb => by omega).trans ((f3.mono fun b hb => by omega).trans ((f4.mono fun b hb => by omega).trans (f5.mono fun b hb => by omega))))
  obtain ⟨a, ha⟩ : ∃ v, tV L bf q = v := ⟨_, rfl⟩
  obtain ⟨bb, hb⟩ : ∃ v, tV L bf (tN L bf q) = v := ⟨_, rfl⟩
  obtain ⟨cc, hcc⟩ : ∃ v, tV L bf (tN L bf (tN L bf q)) = v := ⟨_, rfl⟩
  obtain ⟨dd, hd⟩ : ∃ v, tV L bf (tN L bf (tN L bf (tN L bf q))) = v := ⟨_, rfl⟩
  have eL : workL L bf (p, sg, nm, ct, dt) = seatsL L bf (sg 3) 7 (tN L bf (tN L bf (tN L bf (tN L bf q))), workS sg a bb cc dd, updN nm (16 + sg 3) wo, ct, dt) := by
    rw [eW]; unfold workN; rw [if_pos m1, if_pos m2, if_pos m3, if_pos m4, ha, hb, hcc, hd]
  have w1 := nerr_v m1
  have w2 := nerr_v m2
  have w3 := nerr_v m3
  have w4 := nerr_v m4
  rw [ha] at c15 w1
  rw [hb] at c16 w2
  rw [hcc] at c17 w3
  rw [hd] at c18 w4
  have wok : Wok L (sg 3) 0 (tN L bf (tN L bf (tN L bf (tN L bf q))), workS sg a bb cc dd, updN nm (16 + sg 3) wo, ct, dt) := workS_ok ok0 (tN_le L bf hq3) (by omega) okw (by omega) (by omega) (by omega) (by omega)
  have i15 : ∀ k, zI M5 (sp + 15) k = if k = sg 3 then nI a else zI M (sp + 15) k := fun k => by
    rw [f5.i (by omega), f4.i (by omega), f3.i (by omega), c15, f1.i (by omega)]
  have i16 : ∀ k, zI M5 (sp + 16) k = if k = sg 3 then nI bb else zI M (sp + 16) k := fun k => by
    rw [f5.i (by omega), f4.i (by omega), c16, f2.i (by omega), f1.i (by omega)]
  have i17 : ∀ k, zI M5 (sp + 17) k = if k = sg 3 then nI cc else zI M (sp + 17) k := fun k => by
    rw [f5.i (by omega), c17, f3.i (by omega), f2.i (by omega), f1.i (by omega)]
  have i18 : ∀ k, zI M5 (sp + 18) k = if k = sg 3 then nI dd else zI M (sp + 18) k := fun k => by
    rw [c18, f4.i (by omega), f3.i (by omega), f2.i (by omega), f1.i (by omega)]
  have N5 : NMS (sp + 13) (sp + 14) 5 (sg 3 + 1) (addN (fun k => nm (16 + k)) (sg 3) wo) M5 := (((N1.fr f2 (by omega) (by omega)).fr f3 (by omega) (by omega)).fr f4 (by omega) (by omega)).fr f5 (by omega) (by omega)
  have G : ∀ q, q ≠ y → q < sp + 13 ∨ sp + 18 < q → zI M5 q = zI M q ∧ zJ M5 q = zJ M q := fun q a b => ⟨F5.i (by omega), F5.j (by omega)⟩
  have o_ : ∀ k, k ≠ 3 → k < 65 + 11 * sg 3 ∨ 65 + 11 * sg 3 + 3 < k → workS sg a bb cc dd k = sg k := fun k h1 h2 => workS_o sg a bb cc dd h1 h2
  have o3 : workS sg a bb cc dd 3 = sg 3 + 1 := workS_3 sg a bb cc dd
  have oPe : ∀ q f, q < 8 → f < 7 → oP (workS sg a bb cc dd) q f = oP sg q f := fun q f h1 h2 => o_ _ (by omega) (by omega)
  have oWe : ∀ q f, q ≠ sg 3 → f < 11 → oW (workS sg a bb cc dd) q f = oW sg q f := fun q f h1 h2 => o_ _ (by omega) (by omega)
  have gn := g2 (sg 3) (Nat.le_refl _) (by omega)
  have o4n : oW (workS sg a bb cc dd) (sg 3) 4 = 0 := (o_ (65 + 11 * sg 3 + 4) (by omega) (by omega)).trans gn
  have wf := workS_f sg a bb cc dd
  have sea : CSea sp (workS sg a bb cc dd) M5 := by
    refine ⟨h5.2.2.1, ?_, ?_, ?_, ?_, ?_⟩
    · rw [o_ 0 (by omega) (by omega), o_ 5 (by omega) (by omega), o_ 1 (by omega) (by omega), o_ 2 (by omega) (by omega), o3, o_ 4 (by omega) (by omega), (G sp (by omega) (by omega)).1, (G (sp + 1) (by omega) (by omega)).1, (G (sp + 4) (by omega) (by omega)).1, (G (sp + 11) (by omega) (by omega)).1]
      exact ⟨nn.1, nn.2.1, nn.2.2.1, nn.2.2.2.1, N5.2.2.2.2.2.1, nn.2.2.2.2.2⟩
    · intro k hk
      rw [o_ 1 (by omega) (by omega)] at hk
      rw [o_ _ (by omega) (by omega), (G (sp + 3) (by omega) (by omega)).1]; exact hS.h k hk
    · intro k hk
      rw [o_ 2 (by omega) (by omega)] at hk
      have l4 := (sb.2.2.2 k hk).2.1
      have kE : kinds (workS sg a bb cc dd) k = kinds sg k := by
        unfold kinds
        rw [oPe k 2 (by omega) (by omega)]
        exact fo_ext (N := oP sg k 2) (fun i a hi => by rw [oPe k (3 + i) (by omega) (by omega)]) 0 _ (Nat.le_refl _)
      rw [kE, oPe k 0 (by omega) (by omega), oPe k 3 (by omega) (by omega), oPe k 1 (by omega) (by omega), (G (sp + 7) (by omega) (by omega)).1, (G (sp + 8) (by omega) (by omega)).1, (G (sp + 9) (by omega) (by omega)).1, (G (sp + 10) (by omega) (by omega)).1]
      exact hS.p hk
    · intro k hk
      rw [o3] at hk
      rw [i15, i16, i17, i18, (G (sp + 19) (by omega) (by omega)).1]
      by_cases e : k = sg 3
      · rw [e, if_pos rfl, if_pos rfl, if_pos rfl, if_pos rfl, wf.1, wf.2.1, wf.2.2.1, wf.2.2.2, o4n]
        exact ⟨rfl, rfl, rfl, rfl, hf2 _ (Nat.le_refl _) (by omega)⟩
      · rw [if_neg e, if_neg e, if_neg e, if_neg e, oWe k 0 e (by omega), oWe k 1 e (by omega), oWe k 2 e (by omega), oWe k 3 e (by omega), oWe k 4 e (by omega)]
        exact hS.w (by omega)
    · intro k hk i hi
      rw [o3] at hk
      rw [(G (sp + 20) (by omega) (by omega)).1]
      by_cases e : k = sg 3
      · rw [e, o4n] at hi
        omega
      · rw [oWe k 4 e (by omega)] at hi
        have l6 := (sb.2.2.1 k (by omega)).2.1
        rw [oWe k (5 + i) e (by omega)]
        exact hS.st (by omega) hi
  have names : CNm sp (workS sg a bb cc dd) (updN nm (16 + sg 3) wo) M5 := by
    unfold CNm
    rw [o_ 1 (by omega) (by omega), o_ 2 (by omega) (by omega), o3, o_ 4 (by omega) (by omega), (G (sp + 2) (by omega) (by omega)).2, (G (sp + 5) (by omega) (by omega)).2, (G (sp + 12) (by omega) (by omega)).2]
    refine ⟨fun k hk => ?_, fun k hk => ?_, fun k hk => ?_, fun k hk => ?_⟩
    · rw [show updN nm (16 + sg 3) wo k = nm k from if_neg (by omega)]; exact hNm.1 k hk
    · rw [show updN nm (16 + sg 3) wo (8 + k) = nm (8 + k) from if_neg (by omega)]; exact hNm.2.1 k hk
    · rw [← addN_upd]; exact (N5.2.2.2.2.2.2.2.2 k hk).1
    · rw [show updN nm (16 + sg 3) wo (24 + k) = nm (24 + k) from if_neg (by omega)]; exact hNm.2.2.2 k hk
  have cps : CPS x y z sp L bf (tN L bf (tN L bf (tN L bf (tN L bf q))), workS sg a bb cc dd, updN nm (16 + sg 3) wo, ct, dt) M5 := by
    refine ⟨h5, t5, ?_, ?_, sea, names, ?_, ?_, ?_, ?_⟩
    · rw [(G z (by omega) (by omega)).1]; exact z2
    · rw [(G z (by omega) (by omega)).1]; exact z3
    · rw [o_ 2 (by omega) (by omega), (G (sp + 6) (by omega) (by omega)).1]; exact hct
    · rw [(G sp (by omega) (by omega)).1]; exact hdt
    · rw [o_ 2 (by omega) (by omega), (G (sp + 9) (by omega) (by omega)).1, (G (sp + 10) (by omega) (by omega)).1]; exact hf1
    · rw [o3, (G (sp + 19) (by omega) (by omega)).1]
      exact fun k a b => hf2 k (by omega) b
  rw [v0]
  have F5a : FQ (RPa y z sp) M M5 := F5.mono fun b hb => by unfold RPa; omega
  exact ⟨8, s_C_seats 7 0 _ M5 rfl cps wok.1 (Or.inl rfl) (fun s2 e5 M6 f6 c6 => ⟨Or.inr rfl, K1 s2 (by rw [eL]; exact e5) M6 (F5a.trans f6) c6⟩) (fun c q e5 M6 f6 k6 => ⟨Or.inl rfl, K0 c q (by rw [eL]; exact e5) M6 (F5a.trans f6) k6⟩)⟩
end PCX
