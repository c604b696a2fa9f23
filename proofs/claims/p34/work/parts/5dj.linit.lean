/-! THE SEASON'S OBJECT: its constructor -/
section LI
variable {e : Nat} {M : Mm}
theorem s_X8_init (hz : zn M = e + 1) (k8 : zk M e = 8) (i0 : ZR e M) {B S1 : Nat} (hB : 9 ≤ B) (hS : 85 ≤ S1) (P : Mm → Prop) (K : ∀ M', LSh e M' → zn M' = e + 10 → ZR e M' → FrG e (e + 1) M M' → P M') : w_X8_init M e P B S1 := by
  unfold w_X8_init
  refine ⟨by omega, by omega, by decide, by decide, fun a1 M1 ea1 e1 => ⟨?_, fun M2 e2 => ?_⟩⟩
  · rw [e1, kN_o (by omega)]; exact k8
  rw [show (3 : Int32).toNatClampNeg = 3 from rfl] at e1
  have c1 : a1 = e + 1 := by rw [ea1]; exact hz
  obtain ⟨n2, q2, r2, kk2, ii2, f2, z2⟩ := st_arr (c := a1) (a := e) (f := 7) e1 e2 (by omega) (by omega)
  have n2 : zn M2 = e + 2 := by omega
  rw [k8] at kk2
  rw [c1] at q2 r2
  have y2 : ZR e M2 := z2 e i0
  have t0_2 : zR M2 e 7 = some (e + 1) := by rw [r2, if_pos rfl]
  clear e1 e2 ea1
  refine ⟨by omega, by omega, by decide, by decide, fun a3 M3 ea3 e3 => ⟨?_, fun M4 e4 => ?_⟩⟩
  · rw [e3, kN_o (by omega)]; exact kk2
  rw [show (8 : Int32).toNatClampNeg = 8 from rfl] at e3
  have c3 : a3 = e + 2 := by rw [ea3]; exact n2
  obtain ⟨n4, q4, r4, kk4, ii4, f4, z4⟩ := st_arr (c := a3) (a := e) (f := 8) e3 e4 (by omega) (by omega)
  have n4 : zn M4 = e + 3 := by omega
  rw [kk2] at kk4
  rw [c3] at q4 r4
  have y4 : ZR e M4 := z4 e y2
  have p0_4 : zk M4 (e + 1) = 10 ∧ zl M4 (e + 1) = 3 := by have u := f4.2 (e + 1) (by omega) (by omega); rw [u.1, u.2.1]; exact q2
  have t0_4 : zR M4 e 7 = some (e + 1) := by rw [r4, if_neg (by decide)]; exact t0_2
  have t1_4 : zR M4 e 8 = some (e + 2) := by rw [r4, if_pos rfl]
  clear e3 e4 ea3
  refine ⟨by omega, by omega, by decide, by decide, fun a5 M5 ea5 e5 => ⟨?_, fun M6 e6 => ?_⟩⟩
  · rw [e5, kN_o (by omega)]; exact kk4
  rw [show (8 : Int32).toNatClampNeg = 8 from rfl] at e5
  have c5 : a5 = e + 3 := by rw [ea5]; exact n4
  obtain ⟨n6, q6, r6, kk6, ii6, f6, z6⟩ := st_arr (c := a5) (a := e) (f := 9) e5 e6 (by omega) (by omega)
  have n6 : zn M6 = e + 4 := by omega
  rw [kk4] at kk6
  rw [c5] at q6 r6
  have y6 : ZR e M6 := z6 e y4
  have p0_6 : zk M6 (e + 1) = 10 ∧ zl M6 (e + 1) = 3 := by have u := f6.2 (e + 1) (by omega) (by omega); rw [u.1, u.2.1]; exact p0_4
  have p1_6 : zk M6 (e + 2) = 10 ∧ zl M6 (e + 2) = 8 := by have u := f6.2 (e + 2) (by omega) (by omega); rw [u.1, u.2.1]; exact q4
  have t0_6 : zR M6 e 7 = some (e + 1) := by rw [r6, if_neg (by decide)]; exact t0_4
  have t1_6 : zR M6 e 8 = some (e + 2) := by rw [r6, if_neg (by decide)]; exact t1_4
  have t2_6 : zR M6 e 9 = some (e + 3) := by rw [r6, if_pos rfl]
  clear e5 e6 ea5
  refine ⟨by omega, by omega, by decide, by decide, fun a7 M7 ea7 e7 => ⟨?_, fun M8 e8 => ?_⟩⟩
  · rw [e7, kN_o (by omega)]; exact kk6
  rw [show (8 : Int32).toNatClampNeg = 8 from rfl] at e7
  have c7 : a7 = e + 4 := by rw [ea7]; exact n6
  obtain ⟨n8, q8, r8, kk8, ii8, f8, z8⟩ := st_arr (c := a7) (a := e) (f := 10) e7 e8 (by omega) (by omega)
  have n8 : zn M8 = e + 5 := by omega
  rw [kk6] at kk8
  rw [c7] at q8 r8
  have y8 : ZR e M8 := z8 e y6
  have p0_8 : zk M8 (e + 1) = 10 ∧ zl M8 (e + 1) = 3 := by have u := f8.2 (e + 1) (by omega) (by omega); rw [u.1, u.2.1]; exact p0_6
  have p1_8 : zk M8 (e + 2) = 10 ∧ zl M8 (e + 2) = 8 := by have u := f8.2 (e + 2) (by omega) (by omega); rw [u.1, u.2.1]; exact p1_6
  have p2_8 : zk M8 (e + 3) = 10 ∧ zl M8 (e + 3) = 8 := by have u := f8.2 (e + 3) (by omega) (by omega); rw [u.1, u.2.1]; exact q6
  have t0_8 : zR M8 e 7 = some (e + 1) := by rw [r8, if_neg (by decide)]; exact t0_6
  have t1_8 : zR M8 e 8 = some (e + 2) := by rw [r8, if_neg (by decide)]; exact t1_6
  have t2_8 : zR M8 e 9 = some (e + 3) := by rw [r8, if_neg (by decide)]; exact t2_6
  have t3_8 : zR M8 e 10 = some (e + 4) := by rw [r8, if_pos rfl]
  clear e7 e8 ea7
  refine ⟨by omega, by omega, by decide, by decide, fun a9 M9 ea9 e9 => ⟨?_, fun M10 e10 => ?_⟩⟩
  · rw [e9, kN_o (by omega)]; exact kk8
  rw [show (8 : Int32).toNatClampNeg = 8 from rfl] at e9
  have c9 : a9 = e + 5 := by rw [ea9]; exact n8
  obtain ⟨n10, q10, r10, kk10, ii10, f10, z10⟩ := st_arr (c := a9) (a := e) (f := 11) e9 e10 (by omega) (by omega)
  have n10 : zn M10 = e + 6 := by omega
  rw [kk8] at kk10
  rw [c9] at q10 r10
  have y10 : ZR e M10 := z10 e y8
  have p0_10 : zk M10 (e + 1) = 10 ∧ zl M10 (e + 1) = 3 := by have u := f10.2 (e + 1) (by omega) (by omega); rw [u.1, u.2.1]; exact p0_8
  have p1_10 : zk M10 (e + 2) = 10 ∧ zl M10 (e + 2) = 8 := by have u := f10.2 (e + 2) (by omega) (by omega); rw [u.1, u.2.1]; exact p1_8
  have p2_10 : zk M10 (e + 3) = 10 ∧ zl M10 (e + 3) = 8 := by have u := f10.2 (e + 3) (by omega) (by omega); rw [u.1, u.2.1]; exact p2_8
  have p3_10 : zk M10 (e + 4) = 10 ∧ zl M10 (e + 4) = 8 := by have u := f10.2 (e + 4) (by omega) (by omega); rw [u.1, u.2.1]; exact q8
  have t0_10 : zR M10 e 7 = some (e + 1) := by rw [r10, if_neg (by decide)]; exact t0_8
  have t1_10 : zR M10 e 8 = some (e + 2) := by rw [r10, if_neg (by decide)]; exact t1_8
  have t2_10 : zR M10 e 9 = some (e + 3) := by rw [r10, if_neg (by decide)]; exact t2_8
  have t3_10 : zR M10 e 10 = some (e + 4) := by rw [r10, if_neg (by decide)]; exact t3_8
  have t4_10 : zR M10 e 11 = some (e + 5) := by rw [r10, if_pos rfl]
  clear e9 e10 ea9
  refine ⟨by omega, by omega, by decide, by decide, fun a11 M11 ea11 e11 => ⟨?_, fun M12 e12 => ?_⟩⟩
  · rw [e11, kN_o (by omega)]; exact kk10
  rw [show (5 : Int32).toNatClampNeg = 5 from rfl] at e11
  have c11 : a11 = e + 6 := by rw [ea11]; exact n10
  obtain ⟨n12, q12, r12, kk12, ii12, f12, z12⟩ := st_arr (c := a11) (a := e) (f := 12) e11 e12 (by omega) (by omega)
  have n12 : zn M12 = e + 7 := by omega
  rw [kk10] at kk12
  rw [c11] at q12 r12
  have y12 : ZR e M12 := z12 e y10
  have p0_12 : zk M12 (e + 1) = 10 ∧ zl M12 (e + 1) = 3 := by have u := f12.2 (e + 1) (by omega) (by omega); rw [u.1, u.2.1]; exact p0_10
  have p1_12 : zk M12 (e + 2) = 10 ∧ zl M12 (e + 2) = 8 := by have u := f12.2 (e + 2) (by omega) (by omega); rw [u.1, u.2.1]; exact p1_10
  have p2_12 : zk M12 (e + 3) = 10 ∧ zl M12 (e + 3) = 8 := by have u := f12.2 (e + 3) (by omega) (by omega); rw [u.1, u.2.1]; exact p2_10
  have p3_12 : zk M12 (e + 4) = 10 ∧ zl M12 (e + 4) = 8 := by have u := f12.2 (e + 4) (by omega) (by omega); rw [u.1, u.2.1]; exact p3_10
  have p4_12 : zk M12 (e + 5) = 14 ∧ zl M12 (e + 5) = 8 := by have u := f12.2 (e + 5) (by omega) (by omega); rw [u.1, u.2.1]; exact q10
  have t0_12 : zR M12 e 7 = some (e + 1) := by rw [r12, if_neg (by decide)]; exact t0_10
  have t1_12 : zR M12 e 8 = some (e + 2) := by rw [r12, if_neg (by decide)]; exact t1_10
  have t2_12 : zR M12 e 9 = some (e + 3) := by rw [r12, if_neg (by decide)]; exact t2_10
  have t3_12 : zR M12 e 10 = some (e + 4) := by rw [r12, if_neg (by decide)]; exact t3_10
  have t4_12 : zR M12 e 11 = some (e + 5) := by rw [r12, if_neg (by decide)]; exact t4_10
  have t5_12 : zR M12 e 12 = some (e + 6) := by rw [r12, if_pos rfl]
  clear e11 e12 ea11
  refine ⟨by omega, by omega, by decide, by decide, fun a13 M13 ea13 e13 => ⟨?_, fun M14 e14 => ?_⟩⟩
  · rw [e13, kN_o (by omega)]; exact kk12
  rw [show (5 : Int32).toNatClampNeg = 5 from rfl] at e13
  have c13 : a13 = e + 7 := by rw [ea13]; exact n12
  obtain ⟨n14, q14, r14, kk14, ii14, f14, z14⟩ := st_arr (c := a13) (a := e) (f := 13) e13 e14 (by omega) (by omega)
  have n14 : zn M14 = e + 8 := by omega
  rw [kk12] at kk14
  rw [c13] at q14 r14
  have y14 : ZR e M14 := z14 e y12
  have p0_14 : zk M14 (e + 1) = 10 ∧ zl M14 (e + 1) = 3 := by have u := f14.2 (e + 1) (by omega) (by omega); rw [u.1, u.2.1]; exact p0_12
  have p1_14 : zk M14 (e + 2) = 10 ∧ zl M14 (e + 2) = 8 := by have u := f14.2 (e + 2) (by omega) (by omega); rw [u.1, u.2.1]; exact p1_12
  have p2_14 : zk M14 (e + 3) = 10 ∧ zl M14 (e + 3) = 8 := by have u := f14.2 (e + 3) (by omega) (by omega); rw [u.1, u.2.1]; exact p2_12
  have p3_14 : zk M14 (e + 4) = 10 ∧ zl M14 (e + 4) = 8 := by have u := f14.2 (e + 4) (by omega) (by omega); rw [u.1, u.2.1]; exact p3_12
  have p4_14 : zk M14 (e + 5) = 14 ∧ zl M14 (e + 5) = 8 := by have u := f14.2 (e + 5) (by omega) (by omega); rw [u.1, u.2.1]; exact p4_12
  have p5_14 : zk M14 (e + 6) = 14 ∧ zl M14 (e + 6) = 5 := by have u := f14.2 (e + 6) (by omega) (by omega); rw [u.1, u.2.1]; exact q12
  have t0_14 : zR M14 e 7 = some (e + 1) := by rw [r14, if_neg (by decide)]; exact t0_12
  have t1_14 : zR M14 e 8 = some (e + 2) := by rw [r14, if_neg (by decide)]; exact t1_12
  have t2_14 : zR M14 e 9 = some (e + 3) := by rw [r14, if_neg (by decide)]; exact t2_12
  have t3_14 : zR M14 e 10 = some (e + 4) := by rw [r14, if_neg (by decide)]; exact t3_12
  have t4_14 : zR M14 e 11 = some (e + 5) := by rw [r14, if_neg (by decide)]; exact t4_12
  have t5_14 : zR M14 e 12 = some (e + 6) := by rw [r14, if_neg (by decide)]; exact t5_12
  have t6_14 : zR M14 e 13 = some (e + 7) := by rw [r14, if_pos rfl]
  clear e13 e14 ea13
  refine ⟨by omega, by omega, by decide, by decide, fun a15 M15 ea15 e15 => ⟨?_, fun M16 e16 => ?_⟩⟩
  · rw [e15, kN_o (by omega)]; exact kk14
  rw [show (20 : Int32).toNatClampNeg = 20 from rfl] at e15
  have c15 : a15 = e + 8 := by rw [ea15]; exact n14
  obtain ⟨n16, q16, r16, kk16, ii16, f16, z16⟩ := st_arr (c := a15) (a := e) (f := 14) e15 e16 (by omega) (by omega)
  have n16 : zn M16 = e + 9 := by omega
  rw [kk14] at kk16
  rw [c15] at q16 r16
  have y16 : ZR e M16 := z16 e y14
  have p0_16 : zk M16 (e + 1) = 10 ∧ zl M16 (e + 1) = 3 := by have u := f16.2 (e + 1) (by omega) (by omega); rw [u.1, u.2.1]; exact p0_14
  have p1_16 : zk M16 (e + 2) = 10 ∧ zl M16 (e + 2) = 8 := by have u := f16.2 (e + 2) (by omega) (by omega); rw [u.1, u.2.1]; exact p1_14
  have p2_16 : zk M16 (e + 3) = 10 ∧ zl M16 (e + 3) = 8 := by have u := f16.2 (e + 3) (by omega) (by omega); rw [u.1, u.2.1]; exact p2_14
  have p3_16 : zk M16 (e + 4) = 10 ∧ zl M16 (e + 4) = 8 := by have u := f16.2 (e + 4) (by omega) (by omega); rw [u.1, u.2.1]; exact p3_14
  have p4_16 : zk M16 (e + 5) = 14 ∧ zl M16 (e + 5) = 8 := by have u := f16.2 (e + 5) (by omega) (by omega); rw [u.1, u.2.1]; exact p4_14
  have p5_16 : zk M16 (e + 6) = 14 ∧ zl M16 (e + 6) = 5 := by have u := f16.2 (e + 6) (by omega) (by omega); rw [u.1, u.2.1]; exact p5_14
  have p6_16 : zk M16 (e + 7) = 14 ∧ zl M16 (e + 7) = 5 := by have u := f16.2 (e + 7) (by omega) (by omega); rw [u.1, u.2.1]; exact q14
  have t0_16 : zR M16 e 7 = some (e + 1) := by rw [r16, if_neg (by decide)]; exact t0_14
  have t1_16 : zR M16 e 8 = some (e + 2) := by rw [r16, if_neg (by decide)]; exact t1_14
  have t2_16 : zR M16 e 9 = some (e + 3) := by rw [r16, if_neg (by decide)]; exact t2_14
  have t3_16 : zR M16 e 10 = some (e + 4) := by rw [r16, if_neg (by decide)]; exact t3_14
  have t4_16 : zR M16 e 11 = some (e + 5) := by rw [r16, if_neg (by decide)]; exact t4_14
  have t5_16 : zR M16 e 12 = some (e + 6) := by rw [r16, if_neg (by decide)]; exact t5_14
  have t6_16 : zR M16 e 13 = some (e + 7) := by rw [r16, if_neg (by decide)]; exact t6_14
  have t7_16 : zR M16 e 14 = some (e + 8) := by rw [r16, if_pos rfl]
  clear e15 e16 ea15
  refine ⟨by omega, by omega, by decide, by decide, fun a17 M17 ea17 e17 => ⟨?_, fun M18 e18 => ?_⟩⟩
  · rw [e17, kN_o (by omega)]; exact kk16
  rw [show (20 : Int32).toNatClampNeg = 20 from rfl] at e17
  have c17 : a17 = e + 9 := by rw [ea17]; exact n16
  obtain ⟨n18, q18, r18, kk18, ii18, f18, z18⟩ := st_arr (c := a17) (a := e) (f := 15) e17 e18 (by omega) (by omega)
  have n18 : zn M18 = e + 10 := by omega
  rw [kk16] at kk18
  rw [c17] at q18 r18
  have y18 : ZR e M18 := z18 e y16
  have p0_18 : zk M18 (e + 1) = 10 ∧ zl M18 (e + 1) = 3 := by have u := f18.2 (e + 1) (by omega) (by omega); rw [u.1, u.2.1]; exact p0_16
  have p1_18 : zk M18 (e + 2) = 10 ∧ zl M18 (e + 2) = 8 := by have u := f18.2 (e + 2) (by omega) (by omega); rw [u.1, u.2.1]; exact p1_16
  have p2_18 : zk M18 (e + 3) = 10 ∧ zl M18 (e + 3) = 8 := by have u := f18.2 (e + 3) (by omega) (by omega); rw [u.1, u.2.1]; exact p2_16
  have p3_18 : zk M18 (e + 4) = 10 ∧ zl M18 (e + 4) = 8 := by have u := f18.2 (e + 4) (by omega) (by omega); rw [u.1, u.2.1]; exact p3_16
  have p4_18 : zk M18 (e + 5) = 14 ∧ zl M18 (e + 5) = 8 := by have u := f18.2 (e + 5) (by omega) (by omega); rw [u.1, u.2.1]; exact p4_16
  have p5_18 : zk M18 (e + 6) = 14 ∧ zl M18 (e + 6) = 5 := by have u := f18.2 (e + 6) (by omega) (by omega); rw [u.1, u.2.1]; exact p5_16
  have p6_18 : zk M18 (e + 7) = 14 ∧ zl M18 (e + 7) = 5 := by have u := f18.2 (e + 7) (by omega) (by omega); rw [u.1, u.2.1]; exact p6_16
  have p7_18 : zk M18 (e + 8) = 14 ∧ zl M18 (e + 8) = 20 := by have u := f18.2 (e + 8) (by omega) (by omega); rw [u.1, u.2.1]; exact q16
  have t0_18 : zR M18 e 7 = some (e + 1) := by rw [r18, if_neg (by decide)]; exact t0_16
  have t1_18 : zR M18 e 8 = some (e + 2) := by rw [r18, if_neg (by decide)]; exact t1_16
  have t2_18 : zR M18 e 9 = some (e + 3) := by rw [r18, if_neg (by decide)]; exact t2_16
  have t3_18 : zR M18 e 10 = some (e + 4) := by rw [r18, if_neg (by decide)]; exact t3_16
  have t4_18 : zR M18 e 11 = some (e + 5) := by rw [r18, if_neg (by decide)]; exact t4_16
  have t5_18 : zR M18 e 12 = some (e + 6) := by rw [r18, if_neg (by decide)]; exact t5_16
  have t6_18 : zR M18 e 13 = some (e + 7) := by rw [r18, if_neg (by decide)]; exact t6_16
  have t7_18 : zR M18 e 14 = some (e + 8) := by rw [r18, if_neg (by decide)]; exact t7_16
  have t8_18 : zR M18 e 15 = some (e + 9) := by rw [r18, if_pos rfl]
  clear e17 e18 ea17
  exact K M18 ⟨⟨kk18, t0_18, t1_18, t2_18, t3_18, t4_18, t5_18, t6_18, t7_18, t8_18⟩, ⟨p0_18.1, p1_18.1, p2_18.1, p3_18.1, p4_18.1, p5_18.1, p6_18.1, p7_18.1, q18.1⟩, p0_18.2, p1_18.2, p2_18.2, p3_18.2, p4_18.2, p5_18.2, p6_18.2, p7_18.2, q18.2⟩ n18 y18 (((((((((f2).trans f4).trans f6).trans f8).trans f10).trans f12).trans f14).trans f16).trans f18)
end LI
