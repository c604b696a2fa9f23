/-! written by a program (wip/p34/gen.py) out of the decode rows and the tables: walks of X7 -/

section GW18
variable {p : Program} {l : Launch} {e : Env} {R : Room} {s : State} {m : MethodId} {args : Array Value} {below : List Frame} {meth : Method} {c : Code} {Q : State → Prop} {cc : ByteArray} {nL : Nat} {ret : Option FieldType} {E : EV} {M : Mm} {kc ks pc : Nat} {lo : List (Nat × Value)} {st : List Value}
abbrev rm_X7_requireWork : Room := { frames := 7, cells := 1, slots := 6, locals := 110 }
def w_X7_requireWork (M : Mm) (x0 : Nat) (x1 : Int32) (P : Mm → Prop) (X : String → Mm → Prop) : Prop := (zk M x0 = 7 ∧ ∃ a1, zR M x0 10 = some a1 ∧ (zk M a1 = 6 ∧ ∃ a2, zR M a1 12 = some a2 ∧ zk M a2 = 2 ∧ w_X7_requireIndex M x1 (zI M a2 1) (fun M3 => P M3) X))
set_option maxHeartbeats 4000000 in
set_option maxRecDepth 100000 in
theorem c_X7_requireWork (l : Launch) (E : EV) (M : Mm) (x0 : Nat) (x1 : Int32) (P : Mm → Prop) (X : String → Mm → Prop) (h : w_X7_requireWork M x0 x1 P X) : CtVX l E yX7_requireWork cX7_requireWork 2 rm_X7_requireWork 1 6 [.ref x0, .int x1] M P X := by
  refine ctVX_of (by decide +kernel) (Nat.le_of_ble_eq_true rfl) ?_
  intro p e s m args below meth c C hex
  rw [w_X7_requireWork] at h
  show J p l e rm_X7_requireWork s m args below meth c (QVX below E P X args s 1 6) E 2 M 0 0 0 [(0, .ref x0), (1, .int x1)] []
  refine j_iload_n (pc := 0) C 1 dX7_requireWork_0 rfl ?_
  refine j_aload_n (pc := 1) C 0 dX7_requireWork_1 rfl ?_
  refine gf_X7_48 (pc := 2) C dX7_requireWork_2 h (fun a1 h => ?_)
  refine gf_X7_113 (pc := 5) C dX7_requireWork_5 h (fun a2 h => ?_)
  refine gf_X7_105 (pc := 8) C dX7_requireWork_8 h (fun h => ?_)
  refine cs_X7_312 (pc := 11) C hex ⟨Nat.le_of_ble_eq_true rfl, Nat.le_of_ble_eq_true rfl⟩ ⟨Nat.le_of_ble_eq_true rfl, Nat.le_of_ble_eq_true rfl⟩ ⟨Nat.le_of_ble_eq_true rfl, Nat.le_of_ble_eq_true rfl⟩ (Nat.le_of_ble_eq_true rfl) dX7_requireWork_11 h (fun M3 h => ?_)
  exact j_vretX (pc := 14) C dX7_requireWork_14 (Nat.le_of_ble_eq_true rfl) (Nat.le_of_ble_eq_true rfl) h
abbrev rm0_X7_requireWork : Room := { frames := 1, cells := 0, slots := 0, locals := 21 }
set_option maxHeartbeats 4000000 in
set_option maxRecDepth 100000 in
theorem c0_X7_requireWork (l : Launch) (E : EV) (M : Mm) (x0 : Nat) (x1 : Int32) (P : Mm → Prop) (h : w_X7_requireWork M x0 x1 P (fun _ _ => False)) : CtV l E yX7_requireWork cX7_requireWork 2 rm0_X7_requireWork 0 0 [.ref x0, .int x1] M P := by
  refine ctV_of (by decide +kernel) (Nat.le_of_ble_eq_true rfl) ?_
  intro p e s m args below meth c C hnm
  rw [w_X7_requireWork] at h
  show J p l e rm0_X7_requireWork s m args below meth c (QV below E P args s 0 0) E 2 M 0 0 0 [(0, .ref x0), (1, .int x1)] []
  refine j_iload_n (pc := 0) C 1 dX7_requireWork_0 rfl ?_
  refine j_aload_n (pc := 1) C 0 dX7_requireWork_1 rfl ?_
  refine gf_X7_48 (pc := 2) C dX7_requireWork_2 h (fun a1 h => ?_)
  refine gf_X7_113 (pc := 5) C dX7_requireWork_5 h (fun a2 h => ?_)
  refine gf_X7_105 (pc := 8) C dX7_requireWork_8 h (fun h => ?_)
  refine cs0_X7_312 (pc := 11) C ⟨Nat.le_of_ble_eq_true rfl, Nat.le_of_ble_eq_true rfl⟩ ⟨Nat.le_of_ble_eq_true rfl, Nat.le_of_ble_eq_true rfl⟩ (Nat.le_of_ble_eq_true rfl) dX7_requireWork_11 h (fun M3 h => ?_)
  exact j_vret (pc := 14) C dX7_requireWork_14 (Nat.le_of_ble_eq_true rfl) (Nat.le_of_ble_eq_true rfl) h
theorem cs_X7_194 {Qc : Array Value → State → Outcome → State → Prop} {X : String → Mm → Prop} {mc2 ms2 : Nat} (C : Cx p l s m args meth c cc nL RX7 ret E) (hex : ∀ x ∈ c.exceptionTable.toList, False) {b : Nat} {y0 : Int32} {P : Mm → Prop} (hR : rm_X7_requireWork.frames + 1 ≤ R.frames ∧ 8 + (2 + 11) + rm_X7_requireWork.locals ≤ R.locals) (hf : kc + 1 ≤ R.cells ∧ ks + 6 ≤ R.slots) (hf2 : kc + 1 ≤ mc2 ∧ ks + 6 ≤ ms2) (hst : (st.map fun v => v.category).sum ≤ 8) (d : decode cc pc = .ok (.invokevirtual 194, 3)) (h : zk M b = 7 ∧ w_X7_requireWork M b y0 P X) (kk : ∀ M', P M' → J p l e R s m args below meth c (vx_MQ below Qc (XX E X) args s mc2 ms2 (fun q => E.2.2.1 ≤ q)) E nL M' (kc + 1) (ks + 6) (pc + 3) lo st) : J p l e R s m args below meth c (vx_MQ below Qc (XX E X) args s mc2 ms2 (fun q => E.2.2.1 ≤ q)) E nL M kc ks pc lo (.int y0 :: .ref b :: st) :=
  j_xV_V (n := 1) (As := [.int y0]) C hex co_X7 rfl wd_1242 wd_37 h.1 (c_X7_requireWork l E M b y0 P X h.2) ⟨wd_1243, wd_1240, wd_40, by decide +kernel, by decide +kernel, by decide +kernel⟩ rfl rfl hR hf hf2 rfl hst d (fun _ _ q => q) kk
theorem cs0_X7_194 (C : Cx p l s m args meth c cc nL RX7 ret E) {b : Nat} {y0 : Int32} {P : Mm → Prop} (hR : rm0_X7_requireWork.frames + 1 ≤ R.frames ∧ 8 + (2 + 11) + rm0_X7_requireWork.locals ≤ R.locals) (hf : kc ≤ R.cells ∧ ks ≤ R.slots) (hst : (st.map fun v => v.category).sum ≤ 8) (d : decode cc pc = .ok (.invokevirtual 194, 3)) (h : zk M b = 7 ∧ w_X7_requireWork M b y0 P (fun _ _ => False)) (kk : ∀ M', P M' → J p l e R s m args below meth c Q E nL M' kc ks (pc + 3) lo st) : J p l e R s m args below meth c Q E nL M kc ks pc lo (.int y0 :: .ref b :: st) :=
  j_cV_V (n := 1) (As := [.int y0]) C co_X7 rfl wd_1242 wd_37 h.1 (c0_X7_requireWork l E M b y0 P h.2) ⟨wd_1243, wd_1240, wd_40, by decide +kernel, by decide +kernel, by decide +kernel⟩ rfl rfl hR hf rfl hst d kk
theorem cs_X7_216 (C : Cx p l s m args meth c cc nL RX7 ret E) {b : Nat} {y0 : Int32} {y1 : Int32} {y2 : Int32} {P : Int32 → Mm → Prop} (hR : rm_X4_servicesWith.frames + 1 ≤ R.frames ∧ 8 + (6 + 11) + rm_X4_servicesWith.locals ≤ R.locals) (hf : kc ≤ R.cells ∧ ks ≤ R.slots) (hst : (st.map fun v => v.category).sum ≤ 8) (d : decode cc pc = .ok (.invokevirtual 216, 3)) (h : zk M b = 4 ∧ w_X4_servicesWith M b y0 y1 y2 P) (kk : ∀ r M', P r M' → J p l e R s m args below meth c Q E nL M' kc ks (pc + 3) lo (.int r :: st)) : J p l e R s m args below meth c Q E nL M kc ks pc lo (.int y2 :: .int y1 :: .int y0 :: .ref b :: st) :=
  j_cV_I (n := 3) (As := [.int y0, .int y1, .int y2]) C co_X4 rfl wd_1018 wd_1019 h.1 (c_X4_servicesWith l E M b y0 y1 y2 P h.2) ⟨wd_1020, wd_1017, wd_42, by decide +kernel, by decide +kernel, by decide +kernel⟩ rfl rfl hR hf rfl hst d kk
theorem cs_X7_220 (C : Cx p l s m args meth c cc nL RX7 ret E) {y0 : Nat} {y1 : Nat} {y2 : Int32} {P : Int32 → Mm → Prop} (hR : rm_X1_rentOf.frames + 1 ≤ R.frames ∧ 8 + (6 + 11) + rm_X1_rentOf.locals ≤ R.locals) (hf : kc ≤ R.cells ∧ ks ≤ R.slots) (hst : (st.map fun v => v.category).sum ≤ 8) (d : decode cc pc = .ok (.invokestatic 220, 3)) (h : w_X1_rentOf M y0 y1 y2 P) (kk : ∀ r M', P r M' → J p l e R s m args below meth c Q E nL M' kc ks (pc + 3) lo (.int r :: st)) : J p l e R s m args below meth c Q E nL M kc ks pc lo (.int y2 :: .ref y1 :: .ref y0 :: st) :=
  j_cS_I (n := 3) (As := [.ref y0, .ref y1, .int y2]) C wd_1316 (c_X1_rentOf l E M y0 y1 y2 P h) ⟨wd_1317, wd_1315, wd_65, by decide +kernel, by decide +kernel, by decide +kernel⟩ rfl rfl hR hf rfl hst d kk
abbrev rm_X7_work : Room := { frames := 8, cells := 2, slots := 12, locals := 131 }
def w_X7_work (M : Mm) (x0 : Nat) (x1 : Int32) (x2 : Int32) (P : Int32 → Mm → Prop) (X : String → Mm → Prop) : Prop := zk M x0 = 7 ∧ w_X7_requireWork M x0 x1 (fun M1 => (if x2 = (0 : Int32) then (zk M1 x0 = 7 ∧ ∃ a2, zR M1 x0 10 = some a2 ∧ (zk M1 a2 = 6 ∧ ∃ a3, zR M1 a2 13 = some a3 ∧ zk M1 a3 = 10 ∧ vp_in x1 (zl M1 a3) ∧ P (zI M1 a3 x1.toNatClampNeg) M1)) else (if x2 = (1 : Int32) then (zk M1 x0 = 7 ∧ ∃ a4, zR M1 x0 10 = some a4 ∧ (zk M1 a4 = 6 ∧ ∃ a5, zR M1 a4 14 = some a5 ∧ zk M1 a5 = 10 ∧ vp_in x1 (zl M1 a5) ∧ P (zI M1 a5 x1.toNatClampNeg) M1)) else (if x2 = (2 : Int32) then (zk M1 x0 = 7 ∧ ∃ a6, zR M1 x0 10 = some a6 ∧ (zk M1 a6 = 6 ∧ ∃ a7, zR M1 a6 15 = some a7 ∧ zk M1 a7 = 10 ∧ vp_in x1 (zl M1 a7) ∧ P (zI M1 a7 x1.toNatClampNeg) M1)) else (if x2 = (3 : Int32) then (zk M1 x0 = 7 ∧ ∃ a8, zR M1 x0 10 = some a8 ∧ (zk M1 a8 = 6 ∧ ∃ a9, zR M1 a8 16 = some a9 ∧ zk M1 a9 = 10 ∧ vp_in x1 (zl M1 a9) ∧ P (zI M1 a9 x1.toNatClampNeg) M1)) else (if x2 = (4 : Int32) then (zk M1 x0 = 7 ∧ ∃ a10, zR M1 x0 10 = some a10 ∧ (zk M1 a10 = 6 ∧ ∃ a11, zR M1 a10 17 = some a11 ∧ zk M1 a11 = 10 ∧ vp_in x1 (zl M1 a11) ∧ P (zI M1 a11 x1.toNatClampNeg) M1)) else (if x2 = (5 : Int32) then (zk M1 x0 = 7 ∧ ∃ a12, zR M1 x0 2 = some a12 ∧ (zk M1 x0 = 7 ∧ ∃ a13, zR M1 x0 10 = some a13 ∧ zk M1 a13 = 6 ∧ w_X6_slotCount M1 a13 (fun r14 M14 => zk M14 a12 = 4 ∧ w_X4_servicesWith M14 a12 x1 (0 : Int32) r14 (fun r15 M15 => P r15 M15)))) else (if x2 = (6 : Int32) then (zk M1 x0 = 7 ∧ ∃ a16, zR M1 x0 2 = some a16 ∧ (zk M1 x0 = 7 ∧ ∃ a17, zR M1 x0 10 = some a17 ∧ zk M1 a17 = 6 ∧ w_X6_slotCount M1 a17 (fun r18 M18 => zk M18 a16 = 4 ∧ w_X4_servicesWith M18 a16 x1 (1 : Int32) r18 (fun r19 M19 => P r19 M19)))) else (if x2 = (7 : Int32) then (zk M1 x0 = 7 ∧ ∃ a20, zR M1 x0 10 = some a20 ∧ (zk M1 x0 = 7 ∧ ∃ a21, zR M1 x0 2 = some a21 ∧ w_X1_rentOf M1 a20 a21 x1 (fun r22 M22 => P r22 M22))) else (∀ n23, zn M1 ≤ n23 → X "java/lang/IllegalArgumentException" (sZ M1 n23))))))))))) X
set_option maxHeartbeats 4000000 in
set_option maxRecDepth 100000 in
theorem c_X7_work (l : Launch) (E : EV) (M : Mm) (x0 : Nat) (x1 : Int32) (x2 : Int32) (P : Int32 → Mm → Prop) (X : String → Mm → Prop) (h : w_X7_work M x0 x1 x2 P X) : CtIX l E yX7_work cX7_work 3 .int rm_X7_work 2 12 [.ref x0, .int x1, .int x2] M P X := by
  refine ctIX_of (by decide +kernel) (Nat.le_of_ble_eq_true rfl) ?_
  intro p e s m args below meth c C hex
  rw [w_X7_work] at h
  show J p l e rm_X7_work s m args below meth c (QIX below E P X args s 2 12) E 3 M 0 0 0 [(0, .ref x0), (1, .int x1), (2, .int x2)] []
  refine j_aload_n (pc := 0) C 0 dX7_work_0 rfl ?_
  refine j_iload_n (pc := 1) C 1 dX7_work_1 rfl ?_
  refine cs_X7_194 (pc := 2) C hex ⟨Nat.le_of_ble_eq_true rfl, Nat.le_of_ble_eq_true rfl⟩ ⟨Nat.le_of_ble_eq_true rfl, Nat.le_of_ble_eq_true rfl⟩ ⟨Nat.le_of_ble_eq_true rfl, Nat.le_of_ble_eq_true rfl⟩ (Nat.le_of_ble_eq_true rfl) dX7_work_2 h (fun M1 h => ?_)
  refine j_iload_n (pc := 5) C 2 dX7_work_5 rfl ?_
  by_cases q6_0 : x2 = (0 : Int32)
  · rw [if_pos q6_0] at h
    refine j_tsI (pc := 6) (off := 46) C 52 dX7_work_6 q6_0 (by decide) (by decide) (by decide) (by decide) ?_
    refine j_aload_n (pc := 52) C 0 dX7_work_52 rfl ?_
    refine gf_X7_48 (pc := 53) C dX7_work_53 h (fun a2 h => ?_)
    refine gf_X7_197 (pc := 56) C dX7_work_56 h (fun a3 h => ?_)
    refine j_iload_n (pc := 59) C 1 dX7_work_59 rfl ?_
    refine j_iald (pc := 60) C dX7_work_60 h (fun h => ?_)
    exact j_iretX (pc := 61) C dX7_work_61 (Nat.le_of_ble_eq_true rfl) (Nat.le_of_ble_eq_true rfl) h
  rw [if_neg q6_0] at h
  by_cases q6_1 : x2 = (1 : Int32)
  · rw [if_pos q6_1] at h
    refine j_tsI (pc := 6) (off := 56) C 62 dX7_work_6 q6_1 (by decide) (by decide) (by decide) (by decide) ?_
    refine j_aload_n (pc := 62) C 0 dX7_work_62 rfl ?_
    refine gf_X7_48 (pc := 63) C dX7_work_63 h (fun a4 h => ?_)
    refine gf_X7_200 (pc := 66) C dX7_work_66 h (fun a5 h => ?_)
    refine j_iload_n (pc := 69) C 1 dX7_work_69 rfl ?_
    refine j_iald (pc := 70) C dX7_work_70 h (fun h => ?_)
    exact j_iretX (pc := 71) C dX7_work_71 (Nat.le_of_ble_eq_true rfl) (Nat.le_of_ble_eq_true rfl) h
  rw [if_neg q6_1] at h
  by_cases q6_2 : x2 = (2 : Int32)
  · rw [if_pos q6_2] at h
    refine j_tsI (pc := 6) (off := 66) C 72 dX7_work_6 q6_2 (by decide) (by decide) (by decide) (by decide) ?_
    refine j_aload_n (pc := 72) C 0 dX7_work_72 rfl ?_
    refine gf_X7_48 (pc := 73) C dX7_work_73 h (fun a6 h => ?_)
    refine gf_X7_203 (pc := 76) C dX7_work_76 h (fun a7 h => ?_)
    refine j_iload_n (pc := 79) C 1 dX7_work_79 rfl ?_
    refine j_iald (pc := 80) C dX7_work_80 h (fun h => ?_)
    exact j_iretX (pc := 81) C dX7_work_81 (Nat.le_of_ble_eq_true rfl) (Nat.le_of_ble_eq_true rfl) h
  rw [if_neg q6_2] at h
  by_cases q6_3 : x2 = (3 : Int32)
  · rw [if_pos q6_3] at h
    refine j_tsI (pc := 6) (off := 76) C 82 dX7_work_6 q6_3 (by decide) (by decide) (by decide) (by decide) ?_
    refine j_aload_n (pc := 82) C 0 dX7_work_82 rfl ?_
    refine gf_X7_48 (pc := 83) C dX7_work_83 h (fun a8 h => ?_)
    refine gf_X7_206 (pc := 86) C dX7_work_86 h (fun a9 h => ?_)
    refine j_iload_n (pc := 89) C 1 dX7_work_89 rfl ?_
    refine j_iald (pc := 90) C dX7_work_90 h (fun h => ?_)
    exact j_iretX (pc := 91) C dX7_work_91 (Nat.le_of_ble_eq_true rfl) (Nat.le_of_ble_eq_true rfl) h
  rw [if_neg q6_3] at h
  by_cases q6_4 : x2 = (4 : Int32)
  · rw [if_pos q6_4] at h
    refine j_tsI (pc := 6) (off := 86) C 92 dX7_work_6 q6_4 (by decide) (by decide) (by decide) (by decide) ?_
    refine j_aload_n (pc := 92) C 0 dX7_work_92 rfl ?_
    refine gf_X7_48 (pc := 93) C dX7_work_93 h (fun a10 h => ?_)
    refine gf_X7_209 (pc := 96) C dX7_work_96 h (fun a11 h => ?_)
    refine j_iload_n (pc := 99) C 1 dX7_work_99 rfl ?_
    refine j_iald (pc := 100) C dX7_work_100 h (fun h => ?_)
    exact j_iretX (pc := 101) C dX7_work_101 (Nat.le_of_ble_eq_true rfl) (Nat.le_of_ble_eq_true rfl) h
  rw [if_neg q6_4] at h
  by_cases q6_5 : x2 = (5 : Int32)
  · rw [if_pos q6_5] at h
    refine j_tsI (pc := 6) (off := 96) C 102 dX7_work_6 q6_5 (by decide) (by decide) (by decide) (by decide) ?_
    refine j_aload_n (pc := 102) C 0 dX7_work_102 rfl ?_
    refine gf_X7_23 (pc := 103) C dX7_work_103 h (fun a12 h => ?_)
    refine j_iload_n (pc := 106) C 1 dX7_work_106 rfl ?_
    refine j_iconst (pc := 107) (v := (0 : Int32)) C dX7_work_107 rfl ?_
    refine j_aload_n (pc := 108) C 0 dX7_work_108 rfl ?_
    refine gf_X7_48 (pc := 109) C dX7_work_109 h (fun a13 h => ?_)
    refine cs_X7_212 (pc := 112) C ⟨Nat.le_of_ble_eq_true rfl, Nat.le_of_ble_eq_true rfl⟩ ⟨Nat.le_of_ble_eq_true rfl, Nat.le_of_ble_eq_true rfl⟩ (Nat.le_of_ble_eq_true rfl) dX7_work_112 h (fun r14 M14 h => ?_)
    refine cs_X7_216 (pc := 115) C ⟨Nat.le_of_ble_eq_true rfl, Nat.le_of_ble_eq_true rfl⟩ ⟨Nat.le_of_ble_eq_true rfl, Nat.le_of_ble_eq_true rfl⟩ (Nat.le_of_ble_eq_true rfl) dX7_work_115 h (fun r15 M15 h => ?_)
    exact j_iretX (pc := 118) C dX7_work_118 (Nat.le_of_ble_eq_true rfl) (Nat.le_of_ble_eq_true rfl) h
  rw [if_neg q6_5] at h
  by_cases q6_6 : x2 = (6 : Int32)
  · rw [if_pos q6_6] at h
    refine j_tsI (pc := 6) (off := 113) C 119 dX7_work_6 q6_6 (by decide) (by decide) (by decide) (by decide) ?_
    refine j_aload_n (pc := 119) C 0 dX7_work_119 rfl ?_
    refine gf_X7_23 (pc := 120) C dX7_work_120 h (fun a16 h => ?_)
    refine j_iload_n (pc := 123) C 1 dX7_work_123 rfl ?_
    refine j_iconst (pc := 124) (v := (1 : Int32)) C dX7_work_124 rfl ?_
    refine j_aload_n (pc := 125) C 0 dX7_work_125 rfl ?_
    refine gf_X7_48 (pc := 126) C dX7_work_126 h (fun a17 h => ?_)
    refine cs_X7_212 (pc := 129) C ⟨Nat.le_of_ble_eq_true rfl, Nat.le_of_ble_eq_true rfl⟩ ⟨Nat.le_of_ble_eq_true rfl, Nat.le_of_ble_eq_true rfl⟩ (Nat.le_of_ble_eq_true rfl) dX7_work_129 h (fun r18 M18 h => ?_)
    refine cs_X7_216 (pc := 132) C ⟨Nat.le_of_ble_eq_true rfl, Nat.le_of_ble_eq_true rfl⟩ ⟨Nat.le_of_ble_eq_true rfl, Nat.le_of_ble_eq_true rfl⟩ (Nat.le_of_ble_eq_true rfl) dX7_work_132 h (fun r19 M19 h => ?_)
    exact j_iretX (pc := 135) C dX7_work_135 (Nat.le_of_ble_eq_true rfl) (Nat.le_of_ble_eq_true rfl) h
  rw [if_neg q6_6] at h
  by_cases q6_7 : x2 = (7 : Int32)
  · rw [if_pos q6_7] at h
    refine j_tsI (pc := 6) (off := 130) C 136 dX7_work_6 q6_7 (by decide) (by decide) (by decide) (by decide) ?_
    refine j_aload_n (pc := 136) C 0 dX7_work_136 rfl ?_
    refine gf_X7_48 (pc := 137) C dX7_work_137 h (fun a20 h => ?_)
    refine j_aload_n (pc := 140) C 0 dX7_work_140 rfl ?_
    refine gf_X7_23 (pc := 141) C dX7_work_141 h (fun a21 h => ?_)
    refine j_iload_n (pc := 144) C 1 dX7_work_144 rfl ?_
    refine cs_X7_220 (pc := 145) C ⟨Nat.le_of_ble_eq_true rfl, Nat.le_of_ble_eq_true rfl⟩ ⟨Nat.le_of_ble_eq_true rfl, Nat.le_of_ble_eq_true rfl⟩ (Nat.le_of_ble_eq_true rfl) dX7_work_145 h (fun r22 M22 h => ?_)
    exact j_iretX (pc := 148) C dX7_work_148 (Nat.le_of_ble_eq_true rfl) (Nat.le_of_ble_eq_true rfl) h
  rw [if_neg q6_7] at h
  refine j_tsO (pc := 6) C 149 dX7_work_6 (fun k h1 h2 => ?_) (by decide) ?_
  · rcases (show k = 0 ∨ k = 1 ∨ k = 2 ∨ k = 3 ∨ k = 4 ∨ k = 5 ∨ k = 6 ∨ k = 7 by omega) with rfl | rfl | rfl | rfl | rfl | rfl | rfl | rfl
    · exact ts_no q6_0 (by decide)
    · exact ts_no q6_1 (by decide)
    · exact ts_no q6_2 (by decide)
    · exact ts_no q6_3 (by decide)
    · exact ts_no q6_4 (by decide)
    · exact ts_no q6_5 (by decide)
    · exact ts_no q6_6 (by decide)
    · exact ts_no q6_7 (by decide)
  exact j_throw (pc := 149) C hex (by decide +kernel) (by decide +kernel) wd_702 wd_60 th_X7_125 dX7_work_149 dX7_work_152 dX7_work_153 dX7_work_156 (Nat.le_of_ble_eq_true rfl) (Nat.le_of_ble_eq_true rfl) (Nat.le_of_ble_eq_true rfl) (Nat.le_of_ble_eq_true rfl) (Nat.le_of_ble_eq_true rfl) (Nat.le_of_ble_eq_true rfl) h
abbrev rm0_X7_work : Room := { frames := 2, cells := 0, slots := 0, locals := 46 }
set_option maxHeartbeats 4000000 in
set_option maxRecDepth 100000 in
theorem c0_X7_work (l : Launch) (E : EV) (M : Mm) (x0 : Nat) (x1 : Int32) (x2 : Int32) (P : Int32 → Mm → Prop) (h : w_X7_work M x0 x1 x2 P (fun _ _ => False)) : CtI l E yX7_work cX7_work 3 .int rm0_X7_work 0 0 [.ref x0, .int x1, .int x2] M P := by
  refine ctI_of (by decide +kernel) (Nat.le_of_ble_eq_true rfl) ?_
  intro p e s m args below meth c C
  rw [w_X7_work] at h
  show J p l e rm0_X7_work s m args below meth c (QI below E P args s 0 0) E 3 M 0 0 0 [(0, .ref x0), (1, .int x1), (2, .int x2)] []
  refine j_aload_n (pc := 0) C 0 dX7_work_0 rfl ?_
  refine j_iload_n (pc := 1) C 1 dX7_work_1 rfl ?_
  refine cs0_X7_194 (pc := 2) C ⟨Nat.le_of_ble_eq_true rfl, Nat.le_of_ble_eq_true rfl⟩ ⟨Nat.le_of_ble_eq_true rfl, Nat.le_of_ble_eq_true rfl⟩ (Nat.le_of_ble_eq_true rfl) dX7_work_2 h (fun M1 h => ?_)
  refine j_iload_n (pc := 5) C 2 dX7_work_5 rfl ?_
  by_cases q6_0 : x2 = (0 : Int32)
  · rw [if_pos q6_0] at h
    refine j_tsI (pc := 6) (off := 46) C 52 dX7_work_6 q6_0 (by decide) (by decide) (by decide) (by decide) ?_
    refine j_aload_n (pc := 52) C 0 dX7_work_52 rfl ?_
    refine gf_X7_48 (pc := 53) C dX7_work_53 h (fun a2 h => ?_)
    refine gf_X7_197 (pc := 56) C dX7_work_56 h (fun a3 h => ?_)
    refine j_iload_n (pc := 59) C 1 dX7_work_59 rfl ?_
    refine j_iald (pc := 60) C dX7_work_60 h (fun h => ?_)
    exact j_iret (pc := 61) C dX7_work_61 (Nat.le_of_ble_eq_true rfl) (Nat.le_of_ble_eq_true rfl) h
  rw [if_neg q6_0] at h
  by_cases q6_1 : x2 = (1 : Int32)
  · rw [if_pos q6_1] at h
    refine j_tsI (pc := 6) (off := 56) C 62 dX7_work_6 q6_1 (by decide) (by decide) (by decide) (by decide) ?_
    refine j_aload_n (pc := 62) C 0 dX7_work_62 rfl ?_
    refine gf_X7_48 (pc := 63) C dX7_work_63 h (fun a4 h => ?_)
    refine gf_X7_200 (pc := 66) C dX7_work_66 h (fun a5 h => ?_)
    refine j_iload_n (pc := 69) C 1 dX7_work_69 rfl ?_
    refine j_iald (pc := 70) C dX7_work_70 h (fun h => ?_)
    exact j_iret (pc := 71) C dX7_work_71 (Nat.le_of_ble_eq_true rfl) (Nat.le_of_ble_eq_true rfl) h
  rw [if_neg q6_1] at h
  by_cases q6_2 : x2 = (2 : Int32)
  · rw [if_pos q6_2] at h
    refine j_tsI (pc := 6) (off := 66) C 72 dX7_work_6 q6_2 (by decide) (by decide) (by decide) (by decide) ?_
    refine j_aload_n (pc := 72) C 0 dX7_work_72 rfl ?_
    refine gf_X7_48 (pc := 73) C dX7_work_73 h (fun a6 h => ?_)
    refine gf_X7_203 (pc := 76) C dX7_work_76 h (fun a7 h => ?_)
    refine j_iload_n (pc := 79) C 1 dX7_work_79 rfl ?_
    refine j_iald (pc := 80) C dX7_work_80 h (fun h => ?_)
    exact j_iret (pc := 81) C dX7_work_81 (Nat.le_of_ble_eq_true rfl) (Nat.le_of_ble_eq_true rfl) h
  rw [if_neg q6_2] at h
  by_cases q6_3 : x2 = (3 : Int32)
  · rw [if_pos q6_3] at h
    refine j_tsI (pc := 6) (off := 76) C 82 dX7_work_6 q6_3 (by decide) (by decide) (by decide) (by decide) ?_
    refine j_aload_n (pc := 82) C 0 dX7_work_82 rfl ?_
    refine gf_X7_48 (pc := 83) C dX7_work_83 h (fun a8 h => ?_)
    refine gf_X7_206 (pc := 86) C dX7_work_86 h (fun a9 h => ?_)
    refine j_iload_n (pc := 89) C 1 dX7_work_89 rfl ?_
    refine j_iald (pc := 90) C dX7_work_90 h (fun h => ?_)
    exact j_iret (pc := 91) C dX7_work_91 (Nat.le_of_ble_eq_true rfl) (Nat.le_of_ble_eq_true rfl) h
  rw [if_neg q6_3] at h
  by_cases q6_4 : x2 = (4 : Int32)
  · rw [if_pos q6_4] at h
    refine j_tsI (pc := 6) (off := 86) C 92 dX7_work_6 q6_4 (by decide) (by decide) (by decide) (by decide) ?_
    refine j_aload_n (pc := 92) C 0 dX7_work_92 rfl ?_
    refine gf_X7_48 (pc := 93) C dX7_work_93 h (fun a10 h => ?_)
    refine gf_X7_209 (pc := 96) C dX7_work_96 h (fun a11 h => ?_)
    refine j_iload_n (pc := 99) C 1 dX7_work_99 rfl ?_
    refine j_iald (pc := 100) C dX7_work_100 h (fun h => ?_)
    exact j_iret (pc := 101) C dX7_work_101 (Nat.le_of_ble_eq_true rfl) (Nat.le_of_ble_eq_true rfl) h
  rw [if_neg q6_4] at h
  by_cases q6_5 : x2 = (5 : Int32)
  · rw [if_pos q6_5] at h
    refine j_tsI (pc := 6) (off := 96) C 102 dX7_work_6 q6_5 (by decide) (by decide) (by decide) (by decide) ?_
    refine j_aload_n (pc := 102) C 0 dX7_work_102 rfl ?_
    refine gf_X7_23 (pc := 103) C dX7_work_103 h (fun a12 h => ?_)
    refine j_iload_n (pc := 106) C 1 dX7_work_106 rfl ?_
    refine j_iconst (pc := 107) (v := (0 : Int32)) C dX7_work_107 rfl ?_
    refine j_aload_n (pc := 108) C 0 dX7_work_108 rfl ?_
    refine gf_X7_48 (pc := 109) C dX7_work_109 h (fun a13 h => ?_)
    refine cs_X7_212 (pc := 112) C ⟨Nat.le_of_ble_eq_true rfl, Nat.le_of_ble_eq_true rfl⟩ ⟨Nat.le_of_ble_eq_true rfl, Nat.le_of_ble_eq_true rfl⟩ (Nat.le_of_ble_eq_true rfl) dX7_work_112 h (fun r14 M14 h => ?_)
    refine cs_X7_216 (pc := 115) C ⟨Nat.le_of_ble_eq_true rfl, Nat.le_of_ble_eq_true rfl⟩ ⟨Nat.le_of_ble_eq_true rfl, Nat.le_of_ble_eq_true rfl⟩ (Nat.le_of_ble_eq_true rfl) dX7_work_115 h (fun r15 M15 h => ?_)
    exact j_iret (pc := 118) C dX7_work_118 (Nat.le_of_ble_eq_true rfl) (Nat.le_of_ble_eq_true rfl) h
  rw [if_neg q6_5] at h
  by_cases q6_6 : x2 = (6 : Int32)
  · rw [if_pos q6_6] at h
    refine j_tsI (pc := 6) (off := 113) C 119 dX7_work_6 q6_6 (by decide) (by decide) (by decide) (by decide) ?_
    refine j_aload_n (pc := 119) C 0 dX7_work_119 rfl ?_
    refine gf_X7_23 (pc := 120) C dX7_work_120 h (fun a16 h => ?_)
    refine j_iload_n (pc := 123) C 1 dX7_work_123 rfl ?_
    refine j_iconst (pc := 124) (v := (1 : Int32)) C dX7_work_124 rfl ?_
    refine j_aload_n (pc := 125) C 0 dX7_work_125 rfl ?_
    refine gf_X7_48 (pc := 126) C dX7_work_126 h (fun a17 h => ?_)
    refine cs_X7_212 (pc := 129) C ⟨Nat.le_of_ble_eq_true rfl, Nat.le_of_ble_eq_true rfl⟩ ⟨Nat.le_of_ble_eq_true rfl, Nat.le_of_ble_eq_true rfl⟩ (Nat.le_of_ble_eq_true rfl) dX7_work_129 h (fun r18 M18 h => ?_)
    refine cs_X7_216 (pc := 132) C ⟨Nat.le_of_ble_eq_true rfl, Nat.le_of_ble_eq_true rfl⟩ ⟨Nat.le_of_ble_eq_true rfl, Nat.le_of_ble_eq_true rfl⟩ (Nat.le_of_ble_eq_true rfl) dX7_work_132 h (fun r19 M19 h => ?_)
    exact j_iret (pc := 135) C dX7_work_135 (Nat.le_of_ble_eq_true rfl) (Nat.le_of_ble_eq_true rfl) h
  rw [if_neg q6_6] at h
  by_cases q6_7 : x2 = (7 : Int32)
  · rw [if_pos q6_7] at h
    refine j_tsI (pc := 6) (off := 130) C 136 dX7_work_6 q6_7 (by decide) (by decide) (by decide) (by decide) ?_
    refine j_aload_n (pc := 136) C 0 dX7_work_136 rfl ?_
    refine gf_X7_48 (pc := 137) C dX7_work_137 h (fun a20 h => ?_)
    refine j_aload_n (pc := 140) C 0 dX7_work_140 rfl ?_
    refine gf_X7_23 (pc := 141) C dX7_work_141 h (fun a21 h => ?_)
    refine j_iload_n (pc := 144) C 1 dX7_work_144 rfl ?_
    refine cs_X7_220 (pc := 145) C ⟨Nat.le_of_ble_eq_true rfl, Nat.le_of_ble_eq_true rfl⟩ ⟨Nat.le_of_ble_eq_true rfl, Nat.le_of_ble_eq_true rfl⟩ (Nat.le_of_ble_eq_true rfl) dX7_work_145 h (fun r22 M22 h => ?_)
    exact j_iret (pc := 148) C dX7_work_148 (Nat.le_of_ble_eq_true rfl) (Nat.le_of_ble_eq_true rfl) h
  rw [if_neg q6_7] at h
  refine j_tsO (pc := 6) C 149 dX7_work_6 (fun k h1 h2 => ?_) (by decide) ?_
  · rcases (show k = 0 ∨ k = 1 ∨ k = 2 ∨ k = 3 ∨ k = 4 ∨ k = 5 ∨ k = 6 ∨ k = 7 by omega) with rfl | rfl | rfl | rfl | rfl | rfl | rfl | rfl
    · exact ts_no q6_0 (by decide)
    · exact ts_no q6_1 (by decide)
    · exact ts_no q6_2 (by decide)
    · exact ts_no q6_3 (by decide)
    · exact ts_no q6_4 (by decide)
    · exact ts_no q6_5 (by decide)
    · exact ts_no q6_6 (by decide)
    · exact ts_no q6_7 (by decide)
  exact (h _ (Nat.le_refl _)).elim
abbrev rm_X7_requireService : Room := { frames := 7, cells := 1, slots := 6, locals := 110 }
def w_X7_requireService (M : Mm) (x0 : Nat) (x1 : Int32) (P : Mm → Prop) (X : String → Mm → Prop) : Prop := (zk M x0 = 7 ∧ ∃ a1, zR M x0 2 = some a1 ∧ zk M a1 = 4 ∧ w_X7_requireIndex M x1 (zI M a1 0) (fun M2 => P M2) X)
set_option maxHeartbeats 4000000 in
set_option maxRecDepth 100000 in
theorem c_X7_requireService (l : Launch) (E : EV) (M : Mm) (x0 : Nat) (x1 : Int32) (P : Mm → Prop) (X : String → Mm → Prop) (h : w_X7_requireService M x0 x1 P X) : CtVX l E yX7_requireService cX7_requireService 2 rm_X7_requireService 1 6 [.ref x0, .int x1] M P X := by
  refine ctVX_of (by decide +kernel) (Nat.le_of_ble_eq_true rfl) ?_
  intro p e s m args below meth c C hex
  rw [w_X7_requireService] at h
  show J p l e rm_X7_requireService s m args below meth c (QVX below E P X args s 1 6) E 2 M 0 0 0 [(0, .ref x0), (1, .int x1)] []
  refine j_iload_n (pc := 0) C 1 dX7_requireService_0 rfl ?_
  refine j_aload_n (pc := 1) C 0 dX7_requireService_1 rfl ?_
  refine gf_X7_23 (pc := 2) C dX7_requireService_2 h (fun a1 h => ?_)
  refine gf_X7_119 (pc := 5) C dX7_requireService_5 h (fun h => ?_)
  refine cs_X7_312 (pc := 8) C hex ⟨Nat.le_of_ble_eq_true rfl, Nat.le_of_ble_eq_true rfl⟩ ⟨Nat.le_of_ble_eq_true rfl, Nat.le_of_ble_eq_true rfl⟩ ⟨Nat.le_of_ble_eq_true rfl, Nat.le_of_ble_eq_true rfl⟩ (Nat.le_of_ble_eq_true rfl) dX7_requireService_8 h (fun M2 h => ?_)
  exact j_vretX (pc := 11) C dX7_requireService_11 (Nat.le_of_ble_eq_true rfl) (Nat.le_of_ble_eq_true rfl) h
abbrev rm0_X7_requireService : Room := { frames := 1, cells := 0, slots := 0, locals := 21 }
set_option maxHeartbeats 4000000 in
set_option maxRecDepth 100000 in
theorem c0_X7_requireService (l : Launch) (E : EV) (M : Mm) (x0 : Nat) (x1 : Int32) (P : Mm → Prop) (h : w_X7_requireService M x0 x1 P (fun _ _ => False)) : CtV l E yX7_requireService cX7_requireService 2 rm0_X7_requireService 0 0 [.ref x0, .int x1] M P := by
  refine ctV_of (by decide +kernel) (Nat.le_of_ble_eq_true rfl) ?_
  intro p e s m args below meth c C hnm
  rw [w_X7_requireService] at h
  show J p l e rm0_X7_requireService s m args below meth c (QV below E P args s 0 0) E 2 M 0 0 0 [(0, .ref x0), (1, .int x1)] []
  refine j_iload_n (pc := 0) C 1 dX7_requireService_0 rfl ?_
  refine j_aload_n (pc := 1) C 0 dX7_requireService_1 rfl ?_
  refine gf_X7_23 (pc := 2) C dX7_requireService_2 h (fun a1 h => ?_)
  refine gf_X7_119 (pc := 5) C dX7_requireService_5 h (fun h => ?_)
  refine cs0_X7_312 (pc := 8) C ⟨Nat.le_of_ble_eq_true rfl, Nat.le_of_ble_eq_true rfl⟩ ⟨Nat.le_of_ble_eq_true rfl, Nat.le_of_ble_eq_true rfl⟩ (Nat.le_of_ble_eq_true rfl) dX7_requireService_8 h (fun M2 h => ?_)
  exact j_vret (pc := 11) C dX7_requireService_11 (Nat.le_of_ble_eq_true rfl) (Nat.le_of_ble_eq_true rfl) h
theorem cs_X7_230 {Qc : Array Value → State → Outcome → State → Prop} {X : String → Mm → Prop} {mc2 ms2 : Nat} (C : Cx p l s m args meth c cc nL RX7 ret E) (hex : ∀ x ∈ c.exceptionTable.toList, False) {b : Nat} {y0 : Int32} {P : Mm → Prop} (hR : rm_X7_requireService.frames + 1 ≤ R.frames ∧ 8 + (2 + 11) + rm_X7_requireService.locals ≤ R.locals) (hf : kc + 1 ≤ R.cells ∧ ks + 6 ≤ R.slots) (hf2 : kc + 1 ≤ mc2 ∧ ks + 6 ≤ ms2) (hst : (st.map fun v => v.category).sum ≤ 8) (d : decode cc pc = .ok (.invokevirtual 230, 3)) (h : zk M b = 7 ∧ w_X7_requireService M b y0 P X) (kk : ∀ M', P M' → J p l e R s m args below meth c (vx_MQ below Qc (XX E X) args s mc2 ms2 (fun q => E.2.2.1 ≤ q)) E nL M' (kc + 1) (ks + 6) (pc + 3) lo st) : J p l e R s m args below meth c (vx_MQ below Qc (XX E X) args s mc2 ms2 (fun q => E.2.2.1 ≤ q)) E nL M kc ks pc lo (.int y0 :: .ref b :: st) :=
  j_xV_V (n := 1) (As := [.int y0]) C hex co_X7 rfl wd_998 wd_21 h.1 (c_X7_requireService l E M b y0 P X h.2) ⟨wd_999, wd_996, wd_40, by decide +kernel, by decide +kernel, by decide +kernel⟩ rfl rfl hR hf hf2 rfl hst d (fun _ _ q => q) kk
theorem cs0_X7_230 (C : Cx p l s m args meth c cc nL RX7 ret E) {b : Nat} {y0 : Int32} {P : Mm → Prop} (hR : rm0_X7_requireService.frames + 1 ≤ R.frames ∧ 8 + (2 + 11) + rm0_X7_requireService.locals ≤ R.locals) (hf : kc ≤ R.cells ∧ ks ≤ R.slots) (hst : (st.map fun v => v.category).sum ≤ 8) (d : decode cc pc = .ok (.invokevirtual 230, 3)) (h : zk M b = 7 ∧ w_X7_requireService M b y0 P (fun _ _ => False)) (kk : ∀ M', P M' → J p l e R s m args below meth c Q E nL M' kc ks (pc + 3) lo st) : J p l e R s m args below meth c Q E nL M kc ks pc lo (.int y0 :: .ref b :: st) :=
  j_cV_V (n := 1) (As := [.int y0]) C co_X7 rfl wd_998 wd_21 h.1 (c0_X7_requireService l E M b y0 P h.2) ⟨wd_999, wd_996, wd_40, by decide +kernel, by decide +kernel, by decide +kernel⟩ rfl rfl hR hf rfl hst d kk
theorem cs_X7_244 (C : Cx p l s m args meth c cc nL RX7 ret E) {b : Nat} {y0 : Int32} {P : Int32 → Mm → Prop} (hR : rm_X4_playersIn.frames + 1 ≤ R.frames ∧ 8 + (5 + 11) + rm_X4_playersIn.locals ≤ R.locals) (hf : kc ≤ R.cells ∧ ks ≤ R.slots) (hst : (st.map fun v => v.category).sum ≤ 8) (d : decode cc pc = .ok (.invokevirtual 244, 3)) (h : zk M b = 4 ∧ w_X4_playersIn M b y0 P) (kk : ∀ r M', P r M' → J p l e R s m args below meth c Q E nL M' kc ks (pc + 3) lo (.int r :: st)) : J p l e R s m args below meth c Q E nL M kc ks pc lo (.int y0 :: .ref b :: st) :=
  j_cV_I (n := 1) (As := [.int y0]) C co_X4 rfl wd_1130 wd_1131 h.1 (c_X4_playersIn l E M b y0 P h.2) ⟨wd_1132, wd_1260, wd_42, by decide +kernel, by decide +kernel, by decide +kernel⟩ rfl rfl hR hf rfl hst d kk
theorem cs_X7_247 (C : Cx p l s m args meth c cc nL RX7 ret E) {y0 : Nat} {y1 : Nat} {y2 : Int32} {P : Int32 → Mm → Prop} (hR : rm_X1_doublingsIn.frames + 1 ≤ R.frames ∧ 8 + (3 + 11) + rm_X1_doublingsIn.locals ≤ R.locals) (hf : kc ≤ R.cells ∧ ks ≤ R.slots) (hst : (st.map fun v => v.category).sum ≤ 8) (d : decode cc pc = .ok (.invokestatic 247, 3)) (h : w_X1_doublingsIn M y0 y1 y2 P) (kk : ∀ r M', P r M' → J p l e R s m args below meth c Q E nL M' kc ks (pc + 3) lo (.int r :: st)) : J p l e R s m args below meth c Q E nL M kc ks pc lo (.int y2 :: .ref y1 :: .ref y0 :: st) :=
  j_cS_I (n := 3) (As := [.ref y0, .ref y1, .int y2]) C wd_1205 (c_X1_doublingsIn l E M y0 y1 y2 P h) ⟨wd_1206, wd_1204, wd_65, by decide +kernel, by decide +kernel, by decide +kernel⟩ rfl rfl hR hf rfl hst d kk
abbrev rm_X7_service : Room := { frames := 8, cells := 2, slots := 12, locals := 131 }
def w_X7_service (M : Mm) (x0 : Nat) (x1 : Int32) (x2 : Int32) (P : Int32 → Mm → Prop) (X : String → Mm → Prop) : Prop := zk M x0 = 7 ∧ w_X7_requireService M x0 x1 (fun M1 => (if x2 = (0 : Int32) then (zk M1 x0 = 7 ∧ ∃ a2, zR M1 x0 2 = some a2 ∧ (zk M1 a2 = 4 ∧ ∃ a3, zR M1 a2 1 = some a3 ∧ zk M1 a3 = 10 ∧ vp_in x1 (zl M1 a3) ∧ P (zI M1 a3 x1.toNatClampNeg) M1)) else (if x2 = (1 : Int32) then (zk M1 x0 = 7 ∧ ∃ a4, zR M1 x0 2 = some a4 ∧ (zk M1 a4 = 4 ∧ ∃ a5, zR M1 a4 2 = some a5 ∧ zk M1 a5 = 10 ∧ vp_in x1 (zl M1 a5) ∧ P (zI M1 a5 x1.toNatClampNeg) M1)) else (if x2 = (2 : Int32) then (zk M1 x0 = 7 ∧ ∃ a6, zR M1 x0 2 = some a6 ∧ (zk M1 a6 = 4 ∧ ∃ a7, zR M1 a6 3 = some a7 ∧ zk M1 a7 = 10 ∧ vp_in x1 (zl M1 a7) ∧ P (zI M1 a7 x1.toNatClampNeg) M1)) else (if x2 = (3 : Int32) then (zk M1 x0 = 7 ∧ ∃ a8, zR M1 x0 2 = some a8 ∧ (zk M1 a8 = 4 ∧ ∃ a9, zR M1 a8 4 = some a9 ∧ zk M1 a9 = 10 ∧ vp_in x1 (zl M1 a9) ∧ P (zI M1 a9 x1.toNatClampNeg) M1)) else (if x2 = (4 : Int32) then (zk M1 x0 = 7 ∧ ∃ a10, zR M1 x0 2 = some a10 ∧ zk M1 a10 = 4 ∧ w_X4_playersIn M1 a10 x1 (fun r11 M11 => P r11 M11)) else (if x2 = (5 : Int32) then (zk M1 x0 = 7 ∧ ∃ a12, zR M1 x0 10 = some a12 ∧ (zk M1 x0 = 7 ∧ ∃ a13, zR M1 x0 2 = some a13 ∧ w_X1_doublingsIn M1 a12 a13 x1 (fun r14 M14 => P r14 M14))) else (∀ n15, zn M1 ≤ n15 → X "java/lang/IllegalArgumentException" (sZ M1 n15))))))))) X
set_option maxHeartbeats 4000000 in
set_option maxRecDepth 100000 in
theorem c_X7_service (l : Launch) (E : EV) (M : Mm) (x0 : Nat) (x1 : Int32) (x2 : Int32) (P : Int32 → Mm → Prop) (X : String → Mm → Prop) (h : w_X7_service M x0 x1 x2 P X) : CtIX l E yX7_service cX7_service 3 .int rm_X7_service 2 12 [.ref x0, .int x1, .int x2] M P X := by
  refine ctIX_of (by decide +kernel) (Nat.le_of_ble_eq_true rfl) ?_
  intro p e s m args below meth c C hex
  rw [w_X7_service] at h
  show J p l e rm_X7_service s m args below meth c (QIX below E P X args s 2 12) E 3 M 0 0 0 [(0, .ref x0), (1, .int x1), (2, .int x2)] []
  refine j_aload_n (pc := 0) C 0 dX7_service_0 rfl ?_
  refine j_iload_n (pc := 1) C 1 dX7_service_1 rfl ?_
  refine cs_X7_230 (pc := 2) C hex ⟨Nat.le_of_ble_eq_true rfl, Nat.le_of_ble_eq_true rfl⟩ ⟨Nat.le_of_ble_eq_true rfl, Nat.le_of_ble_eq_true rfl⟩ ⟨Nat.le_of_ble_eq_true rfl, Nat.le_of_ble_eq_true rfl⟩ (Nat.le_of_ble_eq_true rfl) dX7_service_2 h (fun M1 h => ?_)
  refine j_iload_n (pc := 5) C 2 dX7_service_5 rfl ?_
  by_cases q6_0 : x2 = (0 : Int32)
  · rw [if_pos q6_0] at h
    refine j_tsI (pc := 6) (off := 38) C 44 dX7_service_6 q6_0 (by decide) (by decide) (by decide) (by decide) ?_
    refine j_aload_n (pc := 44) C 0 dX7_service_44 rfl ?_
    refine gf_X7_23 (pc := 45) C dX7_service_45 h (fun a2 h => ?_)
    refine gf_X7_233 (pc := 48) C dX7_service_48 h (fun a3 h => ?_)
    refine j_iload_n (pc := 51) C 1 dX7_service_51 rfl ?_
    refine j_iald (pc := 52) C dX7_service_52 h (fun h => ?_)
    exact j_iretX (pc := 53) C dX7_service_53 (Nat.le_of_ble_eq_true rfl) (Nat.le_of_ble_eq_true rfl) h
  rw [if_neg q6_0] at h
  by_cases q6_1 : x2 = (1 : Int32)
  · rw [if_pos q6_1] at h
    refine j_tsI (pc := 6) (off := 48) C 54 dX7_service_6 q6_1 (by decide) (by decide) (by decide) (by decide) ?_
    refine j_aload_n (pc := 54) C 0 dX7_service_54 rfl ?_
    refine gf_X7_23 (pc := 55) C dX7_service_55 h (fun a4 h => ?_)
    refine gf_X7_236 (pc := 58) C dX7_service_58 h (fun a5 h => ?_)
    refine j_iload_n (pc := 61) C 1 dX7_service_61 rfl ?_
    refine j_iald (pc := 62) C dX7_service_62 h (fun h => ?_)
    exact j_iretX (pc := 63) C dX7_service_63 (Nat.le_of_ble_eq_true rfl) (Nat.le_of_ble_eq_true rfl) h
  rw [if_neg q6_1] at h
  by_cases q6_2 : x2 = (2 : Int32)
  · rw [if_pos q6_2] at h
    refine j_tsI (pc := 6) (off := 58) C 64 dX7_service_6 q6_2 (by decide) (by decide) (by decide) (by decide) ?_
    refine j_aload_n (pc := 64) C 0 dX7_service_64 rfl ?_
    refine gf_X7_23 (pc := 65) C dX7_service_65 h (fun a6 h => ?_)
    refine gf_X7_238 (pc := 68) C dX7_service_68 h (fun a7 h => ?_)
    refine j_iload_n (pc := 71) C 1 dX7_service_71 rfl ?_
    refine j_iald (pc := 72) C dX7_service_72 h (fun h => ?_)
    exact j_iretX (pc := 73) C dX7_service_73 (Nat.le_of_ble_eq_true rfl) (Nat.le_of_ble_eq_true rfl) h
  rw [if_neg q6_2] at h
  by_cases q6_3 : x2 = (3 : Int32)
  · rw [if_pos q6_3] at h
    refine j_tsI (pc := 6) (off := 68) C 74 dX7_service_6 q6_3 (by decide) (by decide) (by decide) (by decide) ?_
    refine j_aload_n (pc := 74) C 0 dX7_service_74 rfl ?_
    refine gf_X7_23 (pc := 75) C dX7_service_75 h (fun a8 h => ?_)
    refine gf_X7_241 (pc := 78) C dX7_service_78 h (fun a9 h => ?_)
    refine j_iload_n (pc := 81) C 1 dX7_service_81 rfl ?_
    refine j_iald (pc := 82) C dX7_service_82 h (fun h => ?_)
    exact j_iretX (pc := 83) C dX7_service_83 (Nat.le_of_ble_eq_true rfl) (Nat.le_of_ble_eq_true rfl) h
  rw [if_neg q6_3] at h
  by_cases q6_4 : x2 = (4 : Int32)
  · rw [if_pos q6_4] at h
    refine j_tsI (pc := 6) (off := 78) C 84 dX7_service_6 q6_4 (by decide) (by decide) (by decide) (by decide) ?_
    refine j_aload_n (pc := 84) C 0 dX7_service_84 rfl ?_
    refine gf_X7_23 (pc := 85) C dX7_service_85 h (fun a10 h => ?_)
    refine j_iload_n (pc := 88) C 1 dX7_service_88 rfl ?_
    refine cs_X7_244 (pc := 89) C ⟨Nat.le_of_ble_eq_true rfl, Nat.le_of_ble_eq_true rfl⟩ ⟨Nat.le_of_ble_eq_true rfl, Nat.le_of_ble_eq_true rfl⟩ (Nat.le_of_ble_eq_true rfl) dX7_service_89 h (fun r11 M11 h => ?_)
    exact j_iretX (pc := 92) C dX7_service_92 (Nat.le_of_ble_eq_true rfl) (Nat.le_of_ble_eq_true rfl) h
  rw [if_neg q6_4] at h
  by_cases q6_5 : x2 = (5 : Int32)
  · rw [if_pos q6_5] at h
    refine j_tsI (pc := 6) (off := 87) C 93 dX7_service_6 q6_5 (by decide) (by decide) (by decide) (by decide) ?_
    refine j_aload_n (pc := 93) C 0 dX7_service_93 rfl ?_
    refine gf_X7_48 (pc := 94) C dX7_service_94 h (fun a12 h => ?_)
    refine j_aload_n (pc := 97) C 0 dX7_service_97 rfl ?_
    refine gf_X7_23 (pc := 98) C dX7_service_98 h (fun a13 h => ?_)
    refine j_iload_n (pc := 101) C 1 dX7_service_101 rfl ?_
    refine cs_X7_247 (pc := 102) C ⟨Nat.le_of_ble_eq_true rfl, Nat.le_of_ble_eq_true rfl⟩ ⟨Nat.le_of_ble_eq_true rfl, Nat.le_of_ble_eq_true rfl⟩ (Nat.le_of_ble_eq_true rfl) dX7_service_102 h (fun r14 M14 h => ?_)
    exact j_iretX (pc := 105) C dX7_service_105 (Nat.le_of_ble_eq_true rfl) (Nat.le_of_ble_eq_true rfl) h
  rw [if_neg q6_5] at h
  refine j_tsO (pc := 6) C 106 dX7_service_6 (fun k h1 h2 => ?_) (by decide) ?_
  · rcases (show k = 0 ∨ k = 1 ∨ k = 2 ∨ k = 3 ∨ k = 4 ∨ k = 5 by omega) with rfl | rfl | rfl | rfl | rfl | rfl
    · exact ts_no q6_0 (by decide)
    · exact ts_no q6_1 (by decide)
    · exact ts_no q6_2 (by decide)
    · exact ts_no q6_3 (by decide)
    · exact ts_no q6_4 (by decide)
    · exact ts_no q6_5 (by decide)
  exact j_throw (pc := 106) C hex (by decide +kernel) (by decide +kernel) wd_702 wd_60 th_X7_125 dX7_service_106 dX7_service_109 dX7_service_110 dX7_service_113 (Nat.le_of_ble_eq_true rfl) (Nat.le_of_ble_eq_true rfl) (Nat.le_of_ble_eq_true rfl) (Nat.le_of_ble_eq_true rfl) (Nat.le_of_ble_eq_true rfl) (Nat.le_of_ble_eq_true rfl) h
abbrev rm0_X7_service : Room := { frames := 4, cells := 0, slots := 0, locals := 93 }
set_option maxHeartbeats 4000000 in
set_option maxRecDepth 100000 in
theorem c0_X7_service (l : Launch) (E : EV) (M : Mm) (x0 : Nat) (x1 : Int32) (x2 : Int32) (P : Int32 → Mm → Prop) (h : w_X7_service M x0 x1 x2 P (fun _ _ => False)) : CtI l E yX7_service cX7_service 3 .int rm0_X7_service 0 0 [.ref x0, .int x1, .int x2] M P := by
  refine ctI_of (by decide +kernel) (Nat.le_of_ble_eq_true rfl) ?_
  intro p e s m args below meth c C
  rw [w_X7_service] at h
  show J p l e rm0_X7_service s m args below meth c (QI below E P args s 0 0) E 3 M 0 0 0 [(0, .ref x0), (1, .int x1), (2, .int x2)] []
  refine j_aload_n (pc := 0) C 0 dX7_service_0 rfl ?_
  refine j_iload_n (pc := 1) C 1 dX7_service_1 rfl ?_
  refine cs0_X7_230 (pc := 2) C ⟨Nat.le_of_ble_eq_true rfl, Nat.le_of_ble_eq_true rfl⟩ ⟨Nat.le_of_ble_eq_true rfl, Nat.le_of_ble_eq_true rfl⟩ (Nat.le_of_ble_eq_true rfl) dX7_service_2 h (fun M1 h => ?_)
  refine j_iload_n (pc := 5) C 2 dX7_service_5 rfl ?_
  by_cases q6_0 : x2 = (0 : Int32)
  · rw [if_pos q6_0] at h
    refine j_tsI (pc := 6) (off := 38) C 44 dX7_service_6 q6_0 (by decide) (by decide) (by decide) (by decide) ?_
    refine j_aload_n (pc := 44) C 0 dX7_service_44 rfl ?_
    refine gf_X7_23 (pc := 45) C dX7_service_45 h (fun a2 h => ?_)
    refine gf_X7_233 (pc := 48) C dX7_service_48 h (fun a3 h => ?_)
    refine j_iload_n (pc := 51) C 1 dX7_service_51 rfl ?_
    refine j_iald (pc := 52) C dX7_service_52 h (fun h => ?_)
    exact j_iret (pc := 53) C dX7_service_53 (Nat.le_of_ble_eq_true rfl) (Nat.le_of_ble_eq_true rfl) h
  rw [if_neg q6_0] at h
  by_cases q6_1 : x2 = (1 : Int32)
  · rw [if_pos q6_1] at h
    refine j_tsI (pc := 6) (off := 48) C 54 dX7_service_6 q6_1 (by decide) (by decide) (by decide) (by decide) ?_
    refine j_aload_n (pc := 54) C 0 dX7_service_54 rfl ?_
    refine gf_X7_23 (pc := 55) C dX7_service_55 h (fun a4 h => ?_)
    refine gf_X7_236 (pc := 58) C dX7_service_58 h (fun a5 h => ?_)
    refine j_iload_n (pc := 61) C 1 dX7_service_61 rfl ?_
    refine j_iald (pc := 62) C dX7_service_62 h (fun h => ?_)
    exact j_iret (pc := 63) C dX7_service_63 (Nat.le_of_ble_eq_true rfl) (Nat.le_of_ble_eq_true rfl) h
  rw [if_neg q6_1] at h
  by_cases q6_2 : x2 = (2 : Int32)
  · rw [if_pos q6_2] at h
    refine j_tsI (pc := 6) (off := 58) C 64 dX7_service_6 q6_2 (by decide) (by decide) (by decide) (by decide) ?_
    refine j_aload_n (pc := 64) C 0 dX7_service_64 rfl ?_
    refine gf_X7_23 (pc := 65) C dX7_service_65 h (fun a6 h => ?_)
    refine gf_X7_238 (pc := 68) C dX7_service_68 h (fun a7 h => ?_)
    refine j_iload_n (pc := 71) C 1 dX7_service_71 rfl ?_
    refine j_iald (pc := 72) C dX7_service_72 h (fun h => ?_)
    exact j_iret (pc := 73) C dX7_service_73 (Nat.le_of_ble_eq_true rfl) (Nat.le_of_ble_eq_true rfl) h
  rw [if_neg q6_2] at h
  by_cases q6_3 : x2 = (3 : Int32)
  · rw [if_pos q6_3] at h
    refine j_tsI (pc := 6) (off := 68) C 74 dX7_service_6 q6_3 (by decide) (by decide) (by decide) (by decide) ?_
    refine j_aload_n (pc := 74) C 0 dX7_service_74 rfl ?_
    refine gf_X7_23 (pc := 75) C dX7_service_75 h (fun a8 h => ?_)
    refine gf_X7_241 (pc := 78) C dX7_service_78 h (fun a9 h => ?_)
    refine j_iload_n (pc := 81) C 1 dX7_service_81 rfl ?_
    refine j_iald (pc := 82) C dX7_service_82 h (fun h => ?_)
    exact j_iret (pc := 83) C dX7_service_83 (Nat.le_of_ble_eq_true rfl) (Nat.le_of_ble_eq_true rfl) h
  rw [if_neg q6_3] at h
  by_cases q6_4 : x2 = (4 : Int32)
  · rw [if_pos q6_4] at h
    refine j_tsI (pc := 6) (off := 78) C 84 dX7_service_6 q6_4 (by decide) (by decide) (by decide) (by decide) ?_
    refine j_aload_n (pc := 84) C 0 dX7_service_84 rfl ?_
    refine gf_X7_23 (pc := 85) C dX7_service_85 h (fun a10 h => ?_)
    refine j_iload_n (pc := 88) C 1 dX7_service_88 rfl ?_
    refine cs_X7_244 (pc := 89) C ⟨Nat.le_of_ble_eq_true rfl, Nat.le_of_ble_eq_true rfl⟩ ⟨Nat.le_of_ble_eq_true rfl, Nat.le_of_ble_eq_true rfl⟩ (Nat.le_of_ble_eq_true rfl) dX7_service_89 h (fun r11 M11 h => ?_)
    exact j_iret (pc := 92) C dX7_service_92 (Nat.le_of_ble_eq_true rfl) (Nat.le_of_ble_eq_true rfl) h
  rw [if_neg q6_4] at h
  by_cases q6_5 : x2 = (5 : Int32)
  · rw [if_pos q6_5] at h
    refine j_tsI (pc := 6) (off := 87) C 93 dX7_service_6 q6_5 (by decide) (by decide) (by decide) (by decide) ?_
    refine j_aload_n (pc := 93) C 0 dX7_service_93 rfl ?_
    refine gf_X7_48 (pc := 94) C dX7_service_94 h (fun a12 h => ?_)
    refine j_aload_n (pc := 97) C 0 dX7_service_97 rfl ?_
    refine gf_X7_23 (pc := 98) C dX7_service_98 h (fun a13 h => ?_)
    refine j_iload_n (pc := 101) C 1 dX7_service_101 rfl ?_
    refine cs_X7_247 (pc := 102) C ⟨Nat.le_of_ble_eq_true rfl, Nat.le_of_ble_eq_true rfl⟩ ⟨Nat.le_of_ble_eq_true rfl, Nat.le_of_ble_eq_true rfl⟩ (Nat.le_of_ble_eq_true rfl) dX7_service_102 h (fun r14 M14 h => ?_)
    exact j_iret (pc := 105) C dX7_service_105 (Nat.le_of_ble_eq_true rfl) (Nat.le_of_ble_eq_true rfl) h
  rw [if_neg q6_5] at h
  refine j_tsO (pc := 6) C 106 dX7_service_6 (fun k h1 h2 => ?_) (by decide) ?_
  · rcases (show k = 0 ∨ k = 1 ∨ k = 2 ∨ k = 3 ∨ k = 4 ∨ k = 5 by omega) with rfl | rfl | rfl | rfl | rfl | rfl
    · exact ts_no q6_0 (by decide)
    · exact ts_no q6_1 (by decide)
    · exact ts_no q6_2 (by decide)
    · exact ts_no q6_3 (by decide)
    · exact ts_no q6_4 (by decide)
    · exact ts_no q6_5 (by decide)
  exact (h _ (Nat.le_refl _)).elim
abbrev rm_X7_requireSeat : Room := { frames := 7, cells := 1, slots := 6, locals := 110 }
def w_X7_requireSeat (M : Mm) (x0 : Nat) (x1 : Int32) (x2 : Int32) (P : Mm → Prop) (X : String → Mm → Prop) : Prop := (zk M x0 = 7 ∧ ∃ a1, zR M x0 10 = some a1 ∧ (zk M a1 = 6 ∧ ∃ a2, zR M a1 17 = some a2 ∧ zk M a2 = 10 ∧ vp_in x1 (zl M a2) ∧ w_X7_requireIndex M x2 (zI M a2 x1.toNatClampNeg) (fun M3 => P M3) X))
set_option maxHeartbeats 4000000 in
set_option maxRecDepth 100000 in
theorem c_X7_requireSeat (l : Launch) (E : EV) (M : Mm) (x0 : Nat) (x1 : Int32) (x2 : Int32) (P : Mm → Prop) (X : String → Mm → Prop) (h : w_X7_requireSeat M x0 x1 x2 P X) : CtVX l E yX7_requireSeat cX7_requireSeat 3 rm_X7_requireSeat 1 6 [.ref x0, .int x1, .int x2] M P X := by
  refine ctVX_of (by decide +kernel) (Nat.le_of_ble_eq_true rfl) ?_
  intro p e s m args below meth c C hex
  rw [w_X7_requireSeat] at h
  show J p l e rm_X7_requireSeat s m args below meth c (QVX below E P X args s 1 6) E 3 M 0 0 0 [(0, .ref x0), (1, .int x1), (2, .int x2)] []
  refine j_iload_n (pc := 0) C 2 dX7_requireSeat_0 rfl ?_
  refine j_aload_n (pc := 1) C 0 dX7_requireSeat_1 rfl ?_
  refine gf_X7_48 (pc := 2) C dX7_requireSeat_2 h (fun a1 h => ?_)
  refine gf_X7_209 (pc := 5) C dX7_requireSeat_5 h (fun a2 h => ?_)
  refine j_iload_n (pc := 8) C 1 dX7_requireSeat_8 rfl ?_
  refine j_iald (pc := 9) C dX7_requireSeat_9 h (fun h => ?_)
  refine cs_X7_312 (pc := 10) C hex ⟨Nat.le_of_ble_eq_true rfl, Nat.le_of_ble_eq_true rfl⟩ ⟨Nat.le_of_ble_eq_true rfl, Nat.le_of_ble_eq_true rfl⟩ ⟨Nat.le_of_ble_eq_true rfl, Nat.le_of_ble_eq_true rfl⟩ (Nat.le_of_ble_eq_true rfl) dX7_requireSeat_10 h (fun M3 h => ?_)
  exact j_vretX (pc := 13) C dX7_requireSeat_13 (Nat.le_of_ble_eq_true rfl) (Nat.le_of_ble_eq_true rfl) h
abbrev rm0_X7_requireSeat : Room := { frames := 1, cells := 0, slots := 0, locals := 21 }
set_option maxHeartbeats 4000000 in
set_option maxRecDepth 100000 in
theorem c0_X7_requireSeat (l : Launch) (E : EV) (M : Mm) (x0 : Nat) (x1 : Int32) (x2 : Int32) (P : Mm → Prop) (h : w_X7_requireSeat M x0 x1 x2 P (fun _ _ => False)) : CtV l E yX7_requireSeat cX7_requireSeat 3 rm0_X7_requireSeat 0 0 [.ref x0, .int x1, .int x2] M P := by
  refine ctV_of (by decide +kernel) (Nat.le_of_ble_eq_true rfl) ?_
  intro p e s m args below meth c C hnm
  rw [w_X7_requireSeat] at h
  show J p l e rm0_X7_requireSeat s m args below meth c (QV below E P args s 0 0) E 3 M 0 0 0 [(0, .ref x0), (1, .int x1), (2, .int x2)] []
  refine j_iload_n (pc := 0) C 2 dX7_requireSeat_0 rfl ?_
  refine j_aload_n (pc := 1) C 0 dX7_requireSeat_1 rfl ?_
  refine gf_X7_48 (pc := 2) C dX7_requireSeat_2 h (fun a1 h => ?_)
  refine gf_X7_209 (pc := 5) C dX7_requireSeat_5 h (fun a2 h => ?_)
  refine j_iload_n (pc := 8) C 1 dX7_requireSeat_8 rfl ?_
  refine j_iald (pc := 9) C dX7_requireSeat_9 h (fun h => ?_)
  refine cs0_X7_312 (pc := 10) C ⟨Nat.le_of_ble_eq_true rfl, Nat.le_of_ble_eq_true rfl⟩ ⟨Nat.le_of_ble_eq_true rfl, Nat.le_of_ble_eq_true rfl⟩ (Nat.le_of_ble_eq_true rfl) dX7_requireSeat_10 h (fun M3 h => ?_)
  exact j_vret (pc := 13) C dX7_requireSeat_13 (Nat.le_of_ble_eq_true rfl) (Nat.le_of_ble_eq_true rfl) h
theorem cs_X7_223 {Qc : Array Value → State → Outcome → State → Prop} {X : String → Mm → Prop} {mc2 ms2 : Nat} (C : Cx p l s m args meth c cc nL RX7 ret E) (hex : ∀ x ∈ c.exceptionTable.toList, False) {b : Nat} {y0 : Int32} {y1 : Int32} {P : Mm → Prop} (hR : rm_X7_requireSeat.frames + 1 ≤ R.frames ∧ 8 + (3 + 11) + rm_X7_requireSeat.locals ≤ R.locals) (hf : kc + 1 ≤ R.cells ∧ ks + 6 ≤ R.slots) (hf2 : kc + 1 ≤ mc2 ∧ ks + 6 ≤ ms2) (hst : (st.map fun v => v.category).sum ≤ 8) (d : decode cc pc = .ok (.invokevirtual 223, 3)) (h : zk M b = 7 ∧ w_X7_requireSeat M b y0 y1 P X) (kk : ∀ M', P M' → J p l e R s m args below meth c (vx_MQ below Qc (XX E X) args s mc2 ms2 (fun q => E.2.2.1 ≤ q)) E nL M' (kc + 1) (ks + 6) (pc + 3) lo st) : J p l e R s m args below meth c (vx_MQ below Qc (XX E X) args s mc2 ms2 (fun q => E.2.2.1 ≤ q)) E nL M kc ks pc lo (.int y1 :: .int y0 :: .ref b :: st) :=
  j_xV_V (n := 2) (As := [.int y0, .int y1]) C hex co_X7 rfl wd_1253 wd_38 h.1 (c_X7_requireSeat l E M b y0 y1 P X h.2) ⟨wd_1254, wd_1251, wd_40, by decide +kernel, by decide +kernel, by decide +kernel⟩ rfl rfl hR hf hf2 rfl hst d (fun _ _ q => q) kk
theorem cs0_X7_223 (C : Cx p l s m args meth c cc nL RX7 ret E) {b : Nat} {y0 : Int32} {y1 : Int32} {P : Mm → Prop} (hR : rm0_X7_requireSeat.frames + 1 ≤ R.frames ∧ 8 + (3 + 11) + rm0_X7_requireSeat.locals ≤ R.locals) (hf : kc ≤ R.cells ∧ ks ≤ R.slots) (hst : (st.map fun v => v.category).sum ≤ 8) (d : decode cc pc = .ok (.invokevirtual 223, 3)) (h : zk M b = 7 ∧ w_X7_requireSeat M b y0 y1 P (fun _ _ => False)) (kk : ∀ M', P M' → J p l e R s m args below meth c Q E nL M' kc ks (pc + 3) lo st) : J p l e R s m args below meth c Q E nL M kc ks pc lo (.int y1 :: .int y0 :: .ref b :: st) :=
  j_cV_V (n := 2) (As := [.int y0, .int y1]) C co_X7 rfl wd_1253 wd_38 h.1 (c0_X7_requireSeat l E M b y0 y1 P h.2) ⟨wd_1254, wd_1251, wd_40, by decide +kernel, by decide +kernel, by decide +kernel⟩ rfl rfl hR hf rfl hst d kk
theorem cs_X7_250 (C : Cx p l s m args meth c cc nL RX7 ret E) {b : Nat} {y0 : Int32} {y1 : Int32} {y2 : Int32} {P : Int32 → Mm → Prop} (hR : rm_X4_playerOn.frames + 1 ≤ R.frames ∧ 8 + (4 + 11) + rm_X4_playerOn.locals ≤ R.locals) (hf : kc ≤ R.cells ∧ ks ≤ R.slots) (hst : (st.map fun v => v.category).sum ≤ 8) (d : decode cc pc = .ok (.invokevirtual 250, 3)) (h : zk M b = 4 ∧ w_X4_playerOn M b y0 y1 y2 P) (kk : ∀ r M', P r M' → J p l e R s m args below meth c Q E nL M' kc ks (pc + 3) lo (.int r :: st)) : J p l e R s m args below meth c Q E nL M kc ks pc lo (.int y2 :: .int y1 :: .int y0 :: .ref b :: st) :=
  j_cV_I (n := 3) (As := [.int y0, .int y1, .int y2]) C co_X4 rfl wd_1212 wd_1213 h.1 (c_X4_playerOn l E M b y0 y1 y2 P h.2) ⟨wd_1214, wd_1255, wd_42, by decide +kernel, by decide +kernel, by decide +kernel⟩ rfl rfl hR hf rfl hst d kk
abbrev rm_X7_cast : Room := { frames := 8, cells := 3, slots := 18, locals := 132 }
def w_X7_cast (M : Mm) (x0 : Nat) (x1 : Int32) (x2 : Int32) (x3 : Int32) (P : Int32 → Mm → Prop) (X : String → Mm → Prop) : Prop := zk M x0 = 7 ∧ w_X7_requireService M x0 x1 (fun M1 => zk M1 x0 = 7 ∧ w_X7_requireWork M1 x0 x2 (fun M2 => zk M2 x0 = 7 ∧ w_X7_requireSeat M2 x0 x2 x3 (fun M3 => (zk M3 x0 = 7 ∧ ∃ a4, zR M3 x0 2 = some a4 ∧ zk M3 a4 = 4 ∧ w_X4_playerOn M3 a4 x1 x2 x3 (fun r5 M5 => P r5 M5))) X) X) X
set_option maxHeartbeats 4000000 in
set_option maxRecDepth 100000 in
theorem c_X7_cast (l : Launch) (E : EV) (M : Mm) (x0 : Nat) (x1 : Int32) (x2 : Int32) (x3 : Int32) (P : Int32 → Mm → Prop) (X : String → Mm → Prop) (h : w_X7_cast M x0 x1 x2 x3 P X) : CtIX l E yX7_cast cX7_cast 4 .int rm_X7_cast 3 18 [.ref x0, .int x1, .int x2, .int x3] M P X := by
  refine ctIX_of (by decide +kernel) (Nat.le_of_ble_eq_true rfl) ?_
  intro p e s m args below meth c C hex
  rw [w_X7_cast] at h
  show J p l e rm_X7_cast s m args below meth c (QIX below E P X args s 3 18) E 4 M 0 0 0 [(0, .ref x0), (1, .int x1), (2, .int x2), (3, .int x3)] []
  refine j_aload_n (pc := 0) C 0 dX7_cast_0 rfl ?_
  refine j_iload_n (pc := 1) C 1 dX7_cast_1 rfl ?_
  refine cs_X7_230 (pc := 2) C hex ⟨Nat.le_of_ble_eq_true rfl, Nat.le_of_ble_eq_true rfl⟩ ⟨Nat.le_of_ble_eq_true rfl, Nat.le_of_ble_eq_true rfl⟩ ⟨Nat.le_of_ble_eq_true rfl, Nat.le_of_ble_eq_true rfl⟩ (Nat.le_of_ble_eq_true rfl) dX7_cast_2 h (fun M1 h => ?_)
  refine j_aload_n (pc := 5) C 0 dX7_cast_5 rfl ?_
  refine j_iload_n (pc := 6) C 2 dX7_cast_6 rfl ?_
  refine cs_X7_194 (pc := 7) C hex ⟨Nat.le_of_ble_eq_true rfl, Nat.le_of_ble_eq_true rfl⟩ ⟨Nat.le_of_ble_eq_true rfl, Nat.le_of_ble_eq_true rfl⟩ ⟨Nat.le_of_ble_eq_true rfl, Nat.le_of_ble_eq_true rfl⟩ (Nat.le_of_ble_eq_true rfl) dX7_cast_7 h (fun M2 h => ?_)
  refine j_aload_n (pc := 10) C 0 dX7_cast_10 rfl ?_
  refine j_iload_n (pc := 11) C 2 dX7_cast_11 rfl ?_
  refine j_iload_n (pc := 12) C 3 dX7_cast_12 rfl ?_
  refine cs_X7_223 (pc := 13) C hex ⟨Nat.le_of_ble_eq_true rfl, Nat.le_of_ble_eq_true rfl⟩ ⟨Nat.le_of_ble_eq_true rfl, Nat.le_of_ble_eq_true rfl⟩ ⟨Nat.le_of_ble_eq_true rfl, Nat.le_of_ble_eq_true rfl⟩ (Nat.le_of_ble_eq_true rfl) dX7_cast_13 h (fun M3 h => ?_)
  refine j_aload_n (pc := 16) C 0 dX7_cast_16 rfl ?_
  refine gf_X7_23 (pc := 17) C dX7_cast_17 h (fun a4 h => ?_)
  refine j_iload_n (pc := 20) C 1 dX7_cast_20 rfl ?_
  refine j_iload_n (pc := 21) C 2 dX7_cast_21 rfl ?_
  refine j_iload_n (pc := 22) C 3 dX7_cast_22 rfl ?_
  refine cs_X7_250 (pc := 23) C ⟨Nat.le_of_ble_eq_true rfl, Nat.le_of_ble_eq_true rfl⟩ ⟨Nat.le_of_ble_eq_true rfl, Nat.le_of_ble_eq_true rfl⟩ (Nat.le_of_ble_eq_true rfl) dX7_cast_23 h (fun r5 M5 h => ?_)
  exact j_iretX (pc := 26) C dX7_cast_26 (Nat.le_of_ble_eq_true rfl) (Nat.le_of_ble_eq_true rfl) h
abbrev rm0_X7_cast : Room := { frames := 2, cells := 0, slots := 0, locals := 44 }
set_option maxHeartbeats 4000000 in
set_option maxRecDepth 100000 in
theorem c0_X7_cast (l : Launch) (E : EV) (M : Mm) (x0 : Nat) (x1 : Int32) (x2 : Int32) (x3 : Int32) (P : Int32 → Mm → Prop) (h : w_X7_cast M x0 x1 x2 x3 P (fun _ _ => False)) : CtI l E yX7_cast cX7_cast 4 .int rm0_X7_cast 0 0 [.ref x0, .int x1, .int x2, .int x3] M P := by
  refine ctI_of (by decide +kernel) (Nat.le_of_ble_eq_true rfl) ?_
  intro p e s m args below meth c C
  rw [w_X7_cast] at h
  show J p l e rm0_X7_cast s m args below meth c (QI below E P args s 0 0) E 4 M 0 0 0 [(0, .ref x0), (1, .int x1), (2, .int x2), (3, .int x3)] []
  refine j_aload_n (pc := 0) C 0 dX7_cast_0 rfl ?_
  refine j_iload_n (pc := 1) C 1 dX7_cast_1 rfl ?_
  refine cs0_X7_230 (pc := 2) C ⟨Nat.le_of_ble_eq_true rfl, Nat.le_of_ble_eq_true rfl⟩ ⟨Nat.le_of_ble_eq_true rfl, Nat.le_of_ble_eq_true rfl⟩ (Nat.le_of_ble_eq_true rfl) dX7_cast_2 h (fun M1 h => ?_)
  refine j_aload_n (pc := 5) C 0 dX7_cast_5 rfl ?_
  refine j_iload_n (pc := 6) C 2 dX7_cast_6 rfl ?_
  refine cs0_X7_194 (pc := 7) C ⟨Nat.le_of_ble_eq_true rfl, Nat.le_of_ble_eq_true rfl⟩ ⟨Nat.le_of_ble_eq_true rfl, Nat.le_of_ble_eq_true rfl⟩ (Nat.le_of_ble_eq_true rfl) dX7_cast_7 h (fun M2 h => ?_)
  refine j_aload_n (pc := 10) C 0 dX7_cast_10 rfl ?_
  refine j_iload_n (pc := 11) C 2 dX7_cast_11 rfl ?_
  refine j_iload_n (pc := 12) C 3 dX7_cast_12 rfl ?_
  refine cs0_X7_223 (pc := 13) C ⟨Nat.le_of_ble_eq_true rfl, Nat.le_of_ble_eq_true rfl⟩ ⟨Nat.le_of_ble_eq_true rfl, Nat.le_of_ble_eq_true rfl⟩ (Nat.le_of_ble_eq_true rfl) dX7_cast_13 h (fun M3 h => ?_)
  refine j_aload_n (pc := 16) C 0 dX7_cast_16 rfl ?_
  refine gf_X7_23 (pc := 17) C dX7_cast_17 h (fun a4 h => ?_)
  refine j_iload_n (pc := 20) C 1 dX7_cast_20 rfl ?_
  refine j_iload_n (pc := 21) C 2 dX7_cast_21 rfl ?_
  refine j_iload_n (pc := 22) C 3 dX7_cast_22 rfl ?_
  refine cs_X7_250 (pc := 23) C ⟨Nat.le_of_ble_eq_true rfl, Nat.le_of_ble_eq_true rfl⟩ ⟨Nat.le_of_ble_eq_true rfl, Nat.le_of_ble_eq_true rfl⟩ (Nat.le_of_ble_eq_true rfl) dX7_cast_23 h (fun r5 M5 h => ?_)
  exact j_iret (pc := 26) C dX7_cast_26 (Nat.le_of_ble_eq_true rfl) (Nat.le_of_ble_eq_true rfl) h
abbrev rm_X7_requireHall : Room := { frames := 7, cells := 1, slots := 6, locals := 110 }
def w_X7_requireHall (M : Mm) (x0 : Nat) (x1 : Int32) (P : Mm → Prop) (X : String → Mm → Prop) : Prop := (zk M x0 = 7 ∧ ∃ a1, zR M x0 10 = some a1 ∧ (zk M a1 = 6 ∧ ∃ a2, zR M a1 3 = some a2 ∧ zk M a2 = 2 ∧ w_X7_requireIndex M x1 (zI M a2 1) (fun M3 => P M3) X))
set_option maxHeartbeats 4000000 in
set_option maxRecDepth 100000 in
theorem c_X7_requireHall (l : Launch) (E : EV) (M : Mm) (x0 : Nat) (x1 : Int32) (P : Mm → Prop) (X : String → Mm → Prop) (h : w_X7_requireHall M x0 x1 P X) : CtVX l E yX7_requireHall cX7_requireHall 2 rm_X7_requireHall 1 6 [.ref x0, .int x1] M P X := by
  refine ctVX_of (by decide +kernel) (Nat.le_of_ble_eq_true rfl) ?_
  intro p e s m args below meth c C hex
  rw [w_X7_requireHall] at h
  show J p l e rm_X7_requireHall s m args below meth c (QVX below E P X args s 1 6) E 2 M 0 0 0 [(0, .ref x0), (1, .int x1)] []
  refine j_iload_n (pc := 0) C 1 dX7_requireHall_0 rfl ?_
  refine j_aload_n (pc := 1) C 0 dX7_requireHall_1 rfl ?_
  refine gf_X7_48 (pc := 2) C dX7_requireHall_2 h (fun a1 h => ?_)
  refine gf_X7_101 (pc := 5) C dX7_requireHall_5 h (fun a2 h => ?_)
  refine gf_X7_105 (pc := 8) C dX7_requireHall_8 h (fun h => ?_)
  refine cs_X7_312 (pc := 11) C hex ⟨Nat.le_of_ble_eq_true rfl, Nat.le_of_ble_eq_true rfl⟩ ⟨Nat.le_of_ble_eq_true rfl, Nat.le_of_ble_eq_true rfl⟩ ⟨Nat.le_of_ble_eq_true rfl, Nat.le_of_ble_eq_true rfl⟩ (Nat.le_of_ble_eq_true rfl) dX7_requireHall_11 h (fun M3 h => ?_)
  exact j_vretX (pc := 14) C dX7_requireHall_14 (Nat.le_of_ble_eq_true rfl) (Nat.le_of_ble_eq_true rfl) h
abbrev rm0_X7_requireHall : Room := { frames := 1, cells := 0, slots := 0, locals := 21 }
set_option maxHeartbeats 4000000 in
set_option maxRecDepth 100000 in
theorem c0_X7_requireHall (l : Launch) (E : EV) (M : Mm) (x0 : Nat) (x1 : Int32) (P : Mm → Prop) (h : w_X7_requireHall M x0 x1 P (fun _ _ => False)) : CtV l E yX7_requireHall cX7_requireHall 2 rm0_X7_requireHall 0 0 [.ref x0, .int x1] M P := by
  refine ctV_of (by decide +kernel) (Nat.le_of_ble_eq_true rfl) ?_
  intro p e s m args below meth c C hnm
  rw [w_X7_requireHall] at h
  show J p l e rm0_X7_requireHall s m args below meth c (QV below E P args s 0 0) E 2 M 0 0 0 [(0, .ref x0), (1, .int x1)] []
  refine j_iload_n (pc := 0) C 1 dX7_requireHall_0 rfl ?_
  refine j_aload_n (pc := 1) C 0 dX7_requireHall_1 rfl ?_
  refine gf_X7_48 (pc := 2) C dX7_requireHall_2 h (fun a1 h => ?_)
  refine gf_X7_101 (pc := 5) C dX7_requireHall_5 h (fun a2 h => ?_)
  refine gf_X7_105 (pc := 8) C dX7_requireHall_8 h (fun h => ?_)
  refine cs0_X7_312 (pc := 11) C ⟨Nat.le_of_ble_eq_true rfl, Nat.le_of_ble_eq_true rfl⟩ ⟨Nat.le_of_ble_eq_true rfl, Nat.le_of_ble_eq_true rfl⟩ (Nat.le_of_ble_eq_true rfl) dX7_requireHall_11 h (fun M3 h => ?_)
  exact j_vret (pc := 14) C dX7_requireHall_14 (Nat.le_of_ble_eq_true rfl) (Nat.le_of_ble_eq_true rfl) h
theorem cs_X7_142 {Qc : Array Value → State → Outcome → State → Prop} {X : String → Mm → Prop} {mc2 ms2 : Nat} (C : Cx p l s m args meth c cc nL RX7 ret E) (hex : ∀ x ∈ c.exceptionTable.toList, False) {b : Nat} {y0 : Int32} {P : Mm → Prop} (hR : rm_X7_requireHall.frames + 1 ≤ R.frames ∧ 8 + (2 + 11) + rm_X7_requireHall.locals ≤ R.locals) (hf : kc + 1 ≤ R.cells ∧ ks + 6 ≤ R.slots) (hf2 : kc + 1 ≤ mc2 ∧ ks + 6 ≤ ms2) (hst : (st.map fun v => v.category).sum ≤ 8) (d : decode cc pc = .ok (.invokevirtual 142, 3)) (h : zk M b = 7 ∧ w_X7_requireHall M b y0 P X) (kk : ∀ M', P M' → J p l e R s m args below meth c (vx_MQ below Qc (XX E X) args s mc2 ms2 (fun q => E.2.2.1 ≤ q)) E nL M' (kc + 1) (ks + 6) (pc + 3) lo st) : J p l e R s m args below meth c (vx_MQ below Qc (XX E X) args s mc2 ms2 (fun q => E.2.2.1 ≤ q)) E nL M kc ks pc lo (.int y0 :: .ref b :: st) :=
  j_xV_V (n := 1) (As := [.int y0]) C hex co_X7 rfl wd_1228 wd_35 h.1 (c_X7_requireHall l E M b y0 P X h.2) ⟨wd_1229, wd_1226, wd_40, by decide +kernel, by decide +kernel, by decide +kernel⟩ rfl rfl hR hf hf2 rfl hst d (fun _ _ q => q) kk
theorem cs0_X7_142 (C : Cx p l s m args meth c cc nL RX7 ret E) {b : Nat} {y0 : Int32} {P : Mm → Prop} (hR : rm0_X7_requireHall.frames + 1 ≤ R.frames ∧ 8 + (2 + 11) + rm0_X7_requireHall.locals ≤ R.locals) (hf : kc ≤ R.cells ∧ ks ≤ R.slots) (hst : (st.map fun v => v.category).sum ≤ 8) (d : decode cc pc = .ok (.invokevirtual 142, 3)) (h : zk M b = 7 ∧ w_X7_requireHall M b y0 P (fun _ _ => False)) (kk : ∀ M', P M' → J p l e R s m args below meth c Q E nL M' kc ks (pc + 3) lo st) : J p l e R s m args below meth c Q E nL M kc ks pc lo (.int y0 :: .ref b :: st) :=
  j_cV_V (n := 1) (As := [.int y0]) C co_X7 rfl wd_1228 wd_35 h.1 (c0_X7_requireHall l E M b y0 P h.2) ⟨wd_1229, wd_1226, wd_40, by decide +kernel, by decide +kernel, by decide +kernel⟩ rfl rfl hR hf rfl hst d kk
theorem cs_X7_254 (C : Cx p l s m args meth c cc nL RX7 ret E) {b : Nat} {y0 : Int32} {y1 : Int32} {P : Int32 → Mm → Prop} (hR : rm_X4_numberAt.frames + 1 ≤ R.frames ∧ 8 + (4 + 11) + rm_X4_numberAt.locals ≤ R.locals) (hf : kc ≤ R.cells ∧ ks ≤ R.slots) (hst : (st.map fun v => v.category).sum ≤ 8) (d : decode cc pc = .ok (.invokevirtual 254, 3)) (h : zk M b = 4 ∧ w_X4_numberAt M b y0 y1 P) (kk : ∀ r M', P r M' → J p l e R s m args below meth c Q E nL M' kc ks (pc + 3) lo (.int r :: st)) : J p l e R s m args below meth c Q E nL M kc ks pc lo (.int y1 :: .int y0 :: .ref b :: st) :=
  j_cV_I (n := 2) (As := [.int y0, .int y1]) C co_X4 rfl wd_1195 wd_1196 h.1 (c_X4_numberAt l E M b y0 y1 P h.2) ⟨wd_1197, wd_1194, wd_42, by decide +kernel, by decide +kernel, by decide +kernel⟩ rfl rfl hR hf rfl hst d kk
abbrev rm_X7_serviceAt : Room := { frames := 8, cells := 2, slots := 12, locals := 131 }
def w_X7_serviceAt (M : Mm) (x0 : Nat) (x1 : Int32) (x2 : Int32) (P : Int32 → Mm → Prop) (X : String → Mm → Prop) : Prop := zk M x0 = 7 ∧ w_X7_requireHall M x0 x1 (fun M1 => zk M1 x0 = 7 ∧ w_X7_requireSlot M1 x0 x2 (fun M2 => (zk M2 x0 = 7 ∧ ∃ a3, zR M2 x0 2 = some a3 ∧ zk M2 a3 = 4 ∧ w_X4_numberAt M2 a3 x1 x2 (fun r4 M4 => P r4 M4))) X) X
set_option maxHeartbeats 4000000 in
set_option maxRecDepth 100000 in
theorem c_X7_serviceAt (l : Launch) (E : EV) (M : Mm) (x0 : Nat) (x1 : Int32) (x2 : Int32) (P : Int32 → Mm → Prop) (X : String → Mm → Prop) (h : w_X7_serviceAt M x0 x1 x2 P X) : CtIX l E yX7_serviceAt cX7_serviceAt 3 .int rm_X7_serviceAt 2 12 [.ref x0, .int x1, .int x2] M P X := by
  refine ctIX_of (by decide +kernel) (Nat.le_of_ble_eq_true rfl) ?_
  intro p e s m args below meth c C hex
  rw [w_X7_serviceAt] at h
  show J p l e rm_X7_serviceAt s m args below meth c (QIX below E P X args s 2 12) E 3 M 0 0 0 [(0, .ref x0), (1, .int x1), (2, .int x2)] []
  refine j_aload_n (pc := 0) C 0 dX7_serviceAt_0 rfl ?_
  refine j_iload_n (pc := 1) C 1 dX7_serviceAt_1 rfl ?_
  refine cs_X7_142 (pc := 2) C hex ⟨Nat.le_of_ble_eq_true rfl, Nat.le_of_ble_eq_true rfl⟩ ⟨Nat.le_of_ble_eq_true rfl, Nat.le_of_ble_eq_true rfl⟩ ⟨Nat.le_of_ble_eq_true rfl, Nat.le_of_ble_eq_true rfl⟩ (Nat.le_of_ble_eq_true rfl) dX7_serviceAt_2 h (fun M1 h => ?_)
  refine j_aload_n (pc := 5) C 0 dX7_serviceAt_5 rfl ?_
  refine j_iload_n (pc := 6) C 2 dX7_serviceAt_6 rfl ?_
  refine cs_X7_183 (pc := 7) C hex ⟨Nat.le_of_ble_eq_true rfl, Nat.le_of_ble_eq_true rfl⟩ ⟨Nat.le_of_ble_eq_true rfl, Nat.le_of_ble_eq_true rfl⟩ ⟨Nat.le_of_ble_eq_true rfl, Nat.le_of_ble_eq_true rfl⟩ (Nat.le_of_ble_eq_true rfl) dX7_serviceAt_7 h (fun M2 h => ?_)
  refine j_aload_n (pc := 10) C 0 dX7_serviceAt_10 rfl ?_
  refine gf_X7_23 (pc := 11) C dX7_serviceAt_11 h (fun a3 h => ?_)
  refine j_iload_n (pc := 14) C 1 dX7_serviceAt_14 rfl ?_
  refine j_iload_n (pc := 15) C 2 dX7_serviceAt_15 rfl ?_
  refine cs_X7_254 (pc := 16) C ⟨Nat.le_of_ble_eq_true rfl, Nat.le_of_ble_eq_true rfl⟩ ⟨Nat.le_of_ble_eq_true rfl, Nat.le_of_ble_eq_true rfl⟩ (Nat.le_of_ble_eq_true rfl) dX7_serviceAt_16 h (fun r4 M4 h => ?_)
  exact j_iretX (pc := 19) C dX7_serviceAt_19 (Nat.le_of_ble_eq_true rfl) (Nat.le_of_ble_eq_true rfl) h
abbrev rm0_X7_serviceAt : Room := { frames := 2, cells := 0, slots := 0, locals := 42 }
set_option maxHeartbeats 4000000 in
set_option maxRecDepth 100000 in
theorem c0_X7_serviceAt (l : Launch) (E : EV) (M : Mm) (x0 : Nat) (x1 : Int32) (x2 : Int32) (P : Int32 → Mm → Prop) (h : w_X7_serviceAt M x0 x1 x2 P (fun _ _ => False)) : CtI l E yX7_serviceAt cX7_serviceAt 3 .int rm0_X7_serviceAt 0 0 [.ref x0, .int x1, .int x2] M P := by
  refine ctI_of (by decide +kernel) (Nat.le_of_ble_eq_true rfl) ?_
  intro p e s m args below meth c C
  rw [w_X7_serviceAt] at h
  show J p l e rm0_X7_serviceAt s m args below meth c (QI below E P args s 0 0) E 3 M 0 0 0 [(0, .ref x0), (1, .int x1), (2, .int x2)] []
  refine j_aload_n (pc := 0) C 0 dX7_serviceAt_0 rfl ?_
  refine j_iload_n (pc := 1) C 1 dX7_serviceAt_1 rfl ?_
  refine cs0_X7_142 (pc := 2) C ⟨Nat.le_of_ble_eq_true rfl, Nat.le_of_ble_eq_true rfl⟩ ⟨Nat.le_of_ble_eq_true rfl, Nat.le_of_ble_eq_true rfl⟩ (Nat.le_of_ble_eq_true rfl) dX7_serviceAt_2 h (fun M1 h => ?_)
  refine j_aload_n (pc := 5) C 0 dX7_serviceAt_5 rfl ?_
  refine j_iload_n (pc := 6) C 2 dX7_serviceAt_6 rfl ?_
  refine cs0_X7_183 (pc := 7) C ⟨Nat.le_of_ble_eq_true rfl, Nat.le_of_ble_eq_true rfl⟩ ⟨Nat.le_of_ble_eq_true rfl, Nat.le_of_ble_eq_true rfl⟩ (Nat.le_of_ble_eq_true rfl) dX7_serviceAt_7 h (fun M2 h => ?_)
  refine j_aload_n (pc := 10) C 0 dX7_serviceAt_10 rfl ?_
  refine gf_X7_23 (pc := 11) C dX7_serviceAt_11 h (fun a3 h => ?_)
  refine j_iload_n (pc := 14) C 1 dX7_serviceAt_14 rfl ?_
  refine j_iload_n (pc := 15) C 2 dX7_serviceAt_15 rfl ?_
  refine cs_X7_254 (pc := 16) C ⟨Nat.le_of_ble_eq_true rfl, Nat.le_of_ble_eq_true rfl⟩ ⟨Nat.le_of_ble_eq_true rfl, Nat.le_of_ble_eq_true rfl⟩ (Nat.le_of_ble_eq_true rfl) dX7_serviceAt_16 h (fun r4 M4 h => ?_)
  exact j_iret (pc := 19) C dX7_serviceAt_19 (Nat.le_of_ble_eq_true rfl) (Nat.le_of_ble_eq_true rfl) h
theorem cs_X7_257 (C : Cx p l s m args meth c cc nL RX7 ret E) {b : Nat} {y0 : Nat} {y1 : Int32} {y2 : Int32} {P : Int32 → Mm → Prop} (hR : rm_X0_castWork.frames + 1 ≤ R.frames ∧ 8 + (7 + 11) + rm_X0_castWork.locals ≤ R.locals) (hf : kc ≤ R.cells ∧ ks ≤ R.slots) (hst : (st.map fun v => v.category).sum ≤ 8) (d : decode cc pc = .ok (.invokevirtual 257, 3)) (h : zk M b = 1 ∧ w_X0_castWork M b y0 y1 y2 P) (kk : ∀ r M', P r M' → J p l e R s m args below meth c Q E nL M' kc ks (pc + 3) lo (.int r :: st)) : J p l e R s m args below meth c Q E nL M kc ks pc lo (.int y2 :: .int y1 :: .ref y0 :: .ref b :: st) :=
  j_cV_I (n := 3) (As := [.ref y0, .int y1, .int y2]) C co_X0 rfl wd_1138 wd_1139 h.1 (c_X0_castWork l E M b y0 y1 y2 P h.2) ⟨wd_1140, wd_1137, wd_41, by decide +kernel, by decide +kernel, by decide +kernel⟩ rfl rfl hR hf rfl hst d kk
abbrev rm_X7_fewestDoublings : Room := { frames := 8, cells := 2, slots := 12, locals := 131 }
def w_X7_fewestDoublings (M : Mm) (x0 : Nat) (x1 : Int32) (x2 : Int32) (P : Int32 → Mm → Prop) (X : String → Mm → Prop) : Prop := zk M x0 = 7 ∧ w_X7_requireWork M x0 x1 (fun M1 => zk M1 x0 = 7 ∧ w_X7_requireSlot M1 x0 x2 (fun M2 => (zk M2 x0 = 7 ∧ ∃ a3, zR M2 x0 1 = some a3 ∧ (zk M2 x0 = 7 ∧ ∃ a4, zR M2 x0 10 = some a4 ∧ (zk M2 x0 = 7 ∧ ∃ a5, zR M2 x0 2 = some a5 ∧ zk M2 x0 = 7 ∧ w_X7_freePlayers M2 x0 a5 x2 (fun r6 M6 => zk M6 a3 = 1 ∧ w_X0_castWork M6 a3 a4 x1 r6 (fun r7 M7 => P r7 M7)))))) X) X
set_option maxHeartbeats 4000000 in
set_option maxRecDepth 100000 in
theorem c_X7_fewestDoublings (l : Launch) (E : EV) (M : Mm) (x0 : Nat) (x1 : Int32) (x2 : Int32) (P : Int32 → Mm → Prop) (X : String → Mm → Prop) (h : w_X7_fewestDoublings M x0 x1 x2 P X) : CtIX l E yX7_fewestDoublings cX7_fewestDoublings 3 .int rm_X7_fewestDoublings 2 12 [.ref x0, .int x1, .int x2] M P X := by
  refine ctIX_of (by decide +kernel) (Nat.le_of_ble_eq_true rfl) ?_
  intro p e s m args below meth c C hex
  rw [w_X7_fewestDoublings] at h
  show J p l e rm_X7_fewestDoublings s m args below meth c (QIX below E P X args s 2 12) E 3 M 0 0 0 [(0, .ref x0), (1, .int x1), (2, .int x2)] []
  refine j_aload_n (pc := 0) C 0 dX7_fewestDoublings_0 rfl ?_
  refine j_iload_n (pc := 1) C 1 dX7_fewestDoublings_1 rfl ?_
  refine cs_X7_194 (pc := 2) C hex ⟨Nat.le_of_ble_eq_true rfl, Nat.le_of_ble_eq_true rfl⟩ ⟨Nat.le_of_ble_eq_true rfl, Nat.le_of_ble_eq_true rfl⟩ ⟨Nat.le_of_ble_eq_true rfl, Nat.le_of_ble_eq_true rfl⟩ (Nat.le_of_ble_eq_true rfl) dX7_fewestDoublings_2 h (fun M1 h => ?_)
  refine j_aload_n (pc := 5) C 0 dX7_fewestDoublings_5 rfl ?_
  refine j_iload_n (pc := 6) C 2 dX7_fewestDoublings_6 rfl ?_
  refine cs_X7_183 (pc := 7) C hex ⟨Nat.le_of_ble_eq_true rfl, Nat.le_of_ble_eq_true rfl⟩ ⟨Nat.le_of_ble_eq_true rfl, Nat.le_of_ble_eq_true rfl⟩ ⟨Nat.le_of_ble_eq_true rfl, Nat.le_of_ble_eq_true rfl⟩ (Nat.le_of_ble_eq_true rfl) dX7_fewestDoublings_7 h (fun M2 h => ?_)
  refine j_aload_n (pc := 10) C 0 dX7_fewestDoublings_10 rfl ?_
  refine gf_X7_16 (pc := 11) C dX7_fewestDoublings_11 h (fun a3 h => ?_)
  refine j_aload_n (pc := 14) C 0 dX7_fewestDoublings_14 rfl ?_
  refine gf_X7_48 (pc := 15) C dX7_fewestDoublings_15 h (fun a4 h => ?_)
  refine j_iload_n (pc := 18) C 1 dX7_fewestDoublings_18 rfl ?_
  refine j_aload_n (pc := 19) C 0 dX7_fewestDoublings_19 rfl ?_
  refine j_aload_n (pc := 20) C 0 dX7_fewestDoublings_20 rfl ?_
  refine gf_X7_23 (pc := 21) C dX7_fewestDoublings_21 h (fun a5 h => ?_)
  refine j_iload_n (pc := 24) C 2 dX7_fewestDoublings_24 rfl ?_
  refine cs_X7_186 (pc := 25) C ⟨Nat.le_of_ble_eq_true rfl, Nat.le_of_ble_eq_true rfl⟩ ⟨Nat.le_of_ble_eq_true rfl, Nat.le_of_ble_eq_true rfl⟩ (Nat.le_of_ble_eq_true rfl) dX7_fewestDoublings_25 h (fun r6 M6 h => ?_)
  refine cs_X7_257 (pc := 28) C ⟨Nat.le_of_ble_eq_true rfl, Nat.le_of_ble_eq_true rfl⟩ ⟨Nat.le_of_ble_eq_true rfl, Nat.le_of_ble_eq_true rfl⟩ (Nat.le_of_ble_eq_true rfl) dX7_fewestDoublings_28 h (fun r7 M7 h => ?_)
  exact j_iretX (pc := 31) C dX7_fewestDoublings_31 (Nat.le_of_ble_eq_true rfl) (Nat.le_of_ble_eq_true rfl) h
abbrev rm0_X7_fewestDoublings : Room := { frames := 3, cells := 0, slots := 0, locals := 74 }
set_option maxHeartbeats 4000000 in
set_option maxRecDepth 100000 in
theorem c0_X7_fewestDoublings (l : Launch) (E : EV) (M : Mm) (x0 : Nat) (x1 : Int32) (x2 : Int32) (P : Int32 → Mm → Prop) (h : w_X7_fewestDoublings M x0 x1 x2 P (fun _ _ => False)) : CtI l E yX7_fewestDoublings cX7_fewestDoublings 3 .int rm0_X7_fewestDoublings 0 0 [.ref x0, .int x1, .int x2] M P := by
  refine ctI_of (by decide +kernel) (Nat.le_of_ble_eq_true rfl) ?_
  intro p e s m args below meth c C
  rw [w_X7_fewestDoublings] at h
  show J p l e rm0_X7_fewestDoublings s m args below meth c (QI below E P args s 0 0) E 3 M 0 0 0 [(0, .ref x0), (1, .int x1), (2, .int x2)] []
  refine j_aload_n (pc := 0) C 0 dX7_fewestDoublings_0 rfl ?_
  refine j_iload_n (pc := 1) C 1 dX7_fewestDoublings_1 rfl ?_
  refine cs0_X7_194 (pc := 2) C ⟨Nat.le_of_ble_eq_true rfl, Nat.le_of_ble_eq_true rfl⟩ ⟨Nat.le_of_ble_eq_true rfl, Nat.le_of_ble_eq_true rfl⟩ (Nat.le_of_ble_eq_true rfl) dX7_fewestDoublings_2 h (fun M1 h => ?_)
  refine j_aload_n (pc := 5) C 0 dX7_fewestDoublings_5 rfl ?_
  refine j_iload_n (pc := 6) C 2 dX7_fewestDoublings_6 rfl ?_
  refine cs0_X7_183 (pc := 7) C ⟨Nat.le_of_ble_eq_true rfl, Nat.le_of_ble_eq_true rfl⟩ ⟨Nat.le_of_ble_eq_true rfl, Nat.le_of_ble_eq_true rfl⟩ (Nat.le_of_ble_eq_true rfl) dX7_fewestDoublings_7 h (fun M2 h => ?_)
  refine j_aload_n (pc := 10) C 0 dX7_fewestDoublings_10 rfl ?_
  refine gf_X7_16 (pc := 11) C dX7_fewestDoublings_11 h (fun a3 h => ?_)
  refine j_aload_n (pc := 14) C 0 dX7_fewestDoublings_14 rfl ?_
  refine gf_X7_48 (pc := 15) C dX7_fewestDoublings_15 h (fun a4 h => ?_)
  refine j_iload_n (pc := 18) C 1 dX7_fewestDoublings_18 rfl ?_
  refine j_aload_n (pc := 19) C 0 dX7_fewestDoublings_19 rfl ?_
  refine j_aload_n (pc := 20) C 0 dX7_fewestDoublings_20 rfl ?_
  refine gf_X7_23 (pc := 21) C dX7_fewestDoublings_21 h (fun a5 h => ?_)
  refine j_iload_n (pc := 24) C 2 dX7_fewestDoublings_24 rfl ?_
  refine cs_X7_186 (pc := 25) C ⟨Nat.le_of_ble_eq_true rfl, Nat.le_of_ble_eq_true rfl⟩ ⟨Nat.le_of_ble_eq_true rfl, Nat.le_of_ble_eq_true rfl⟩ (Nat.le_of_ble_eq_true rfl) dX7_fewestDoublings_25 h (fun r6 M6 h => ?_)
  refine cs_X7_257 (pc := 28) C ⟨Nat.le_of_ble_eq_true rfl, Nat.le_of_ble_eq_true rfl⟩ ⟨Nat.le_of_ble_eq_true rfl, Nat.le_of_ble_eq_true rfl⟩ (Nat.le_of_ble_eq_true rfl) dX7_fewestDoublings_28 h (fun r7 M7 h => ?_)
  exact j_iret (pc := 31) C dX7_fewestDoublings_31 (Nat.le_of_ble_eq_true rfl) (Nat.le_of_ble_eq_true rfl) h
abbrev rm_X7_areRehearsed : Room := { frames := 2, cells := 0, slots := 0, locals := 46 }
def l_X7_areRehearsed_3 (P : Int32 → Mm → Prop) (K48 : Mm → Prop) (K56 : Mm → Prop) : Nat → Mm → Nat → Nat → Int32 → Int32 → Int32 → Prop
  | 0, _, _, _, _, _, _ => False
  | n + 1, M, x0, x1, x2, x3, x4 => (zk M x0 = 7 ∧ ∃ a1, zR M x0 10 = some a1 ∧ (zk M a1 = 6 ∧ ∃ a2, zR M a1 12 = some a2 ∧ zk M a2 = 2 ∧ (if (zI M a2 1) ≤ x4 then K56 M else w_X7_has M x2 x4 (fun r3 M3 => (if r3 = 0 then l_X7_areRehearsed_3 P K48 K56 n M3 x0 x1 x2 x3 (x4 + (1 : Int32)) else zk M3 x1 = 4 ∧ w_X4_servicesWith M3 x1 x4 (0 : Int32) x3 (fun r4 M4 => (zk M4 x0 = 7 ∧ ∃ a5, zR M4 x0 10 = some a5 ∧ (zk M4 a5 = 6 ∧ ∃ a6, zR M4 a5 13 = some a6 ∧ zk M4 a6 = 10 ∧ vp_in x4 (zl M4 a6) ∧ (if (zI M4 a6 x4.toNatClampNeg) ≤ r4 then l_X7_areRehearsed_3 P K48 K56 n M4 x0 x1 x2 x3 (x4 + (1 : Int32)) else K48 M4)))))))))
set_option maxHeartbeats 4000000 in
set_option maxRecDepth 100000 in
theorem jl_X7_areRehearsed_3 {P : Int32 → Mm → Prop} {K48 : Mm → Prop} {K56 : Mm → Prop} (C : Cx p l s m args meth c cX7_areRehearsed 5 RX7 (some .boolean) E) (hkc : kc ≤ rm_X7_areRehearsed.cells ∧ ks ≤ rm_X7_areRehearsed.slots) (k48 : ∀ M, K48 M → J p l e rm_X7_areRehearsed s m args below meth c (QI below E P args s rm_X7_areRehearsed.cells rm_X7_areRehearsed.slots) E 5 M kc ks 48 [] []) (k56 : ∀ M, K56 M → J p l e rm_X7_areRehearsed s m args below meth c (QI below E P args s rm_X7_areRehearsed.cells rm_X7_areRehearsed.slots) E 5 M kc ks 56 [] []) : ∀ n M x0 x1 x2 x3 x4, l_X7_areRehearsed_3 P K48 K56 n M x0 x1 x2 x3 x4 → J p l e rm_X7_areRehearsed s m args below meth c (QI below E P args s rm_X7_areRehearsed.cells rm_X7_areRehearsed.slots) E 5 M kc ks 3 [(0, .ref x0), (1, .ref x1), (2, .int x2), (3, .int x3), (4, .int x4)] [] := by
  intro n
  induction n with
  | zero => intro M x0 x1 x2 x3 x4 h; exact h.elim
  | succ n ih =>
    intro M x0 x1 x2 x3 x4 h
    rw [l_X7_areRehearsed_3] at h
    refine j_iload (pc := 3) C 4 dX7_areRehearsed_3 rfl ?_
    refine j_aload_n (pc := 5) C 0 dX7_areRehearsed_5 rfl ?_
    refine gf_X7_48 (pc := 6) C dX7_areRehearsed_6 h (fun a1 h => ?_)
    refine gf_X7_113 (pc := 9) C dX7_areRehearsed_9 h (fun a2 h => ?_)
    refine gf_X7_105 (pc := 12) C dX7_areRehearsed_12 h (fun h => ?_)
    refine j_icmp_ge (pc := 15) C 56 dX7_areRehearsed_15 (by decide) h (fun h => ?_) (fun h => ?_)
    · exact j_weak [] rfl (k56 _ h)
    · refine j_iload_n (pc := 18) C 2 dX7_areRehearsed_18 rfl ?_
      refine j_iload (pc := 19) C 4 dX7_areRehearsed_19 rfl ?_
      refine cs_X7_190 (pc := 21) C ⟨Nat.le_of_ble_eq_true rfl, Nat.le_of_ble_eq_true rfl⟩ hkc (Nat.le_of_ble_eq_true rfl) dX7_areRehearsed_21 h (fun r3 M3 h => ?_)
      refine j_if_eq (pc := 24) C 50 dX7_areRehearsed_24 (by decide) h (fun h => ?_) (fun h => ?_)
      · refine j_iinc (pc := 50) (v := (1 : Int32)) C 4 [(4, _), (0, _), (1, _), (2, _), (3, _)] dX7_areRehearsed_50 rfl rfl (by decide) rfl ?_
        refine j_goto (pc := 53) C 3 dX7_areRehearsed_53 (by decide) ?_
        exact j_weak [1, 2, 3, 4, 0] rfl (ih _ _ _ _ _ _ h)
      · refine j_aload_n (pc := 27) C 1 dX7_areRehearsed_27 rfl ?_
        refine j_iload (pc := 28) C 4 dX7_areRehearsed_28 rfl ?_
        refine j_iconst (pc := 30) (v := (0 : Int32)) C dX7_areRehearsed_30 rfl ?_
        refine j_iload_n (pc := 31) C 3 dX7_areRehearsed_31 rfl ?_
        refine cs_X7_216 (pc := 32) C ⟨Nat.le_of_ble_eq_true rfl, Nat.le_of_ble_eq_true rfl⟩ hkc (Nat.le_of_ble_eq_true rfl) dX7_areRehearsed_32 h (fun r4 M4 h => ?_)
        refine j_aload_n (pc := 35) C 0 dX7_areRehearsed_35 rfl ?_
        refine gf_X7_48 (pc := 36) C dX7_areRehearsed_36 h (fun a5 h => ?_)
        refine gf_X7_197 (pc := 39) C dX7_areRehearsed_39 h (fun a6 h => ?_)
        refine j_iload (pc := 42) C 4 dX7_areRehearsed_42 rfl ?_
        refine j_iald (pc := 44) C dX7_areRehearsed_44 h (fun h => ?_)
        refine j_icmp_ge (pc := 45) C 50 dX7_areRehearsed_45 (by decide) h (fun h => ?_) (fun h => ?_)
        · refine j_iinc (pc := 50) (v := (1 : Int32)) C 4 [(4, _), (0, _), (1, _), (2, _), (3, _)] dX7_areRehearsed_50 rfl rfl (by decide) rfl ?_
          refine j_goto (pc := 53) C 3 dX7_areRehearsed_53 (by decide) ?_
          exact j_weak [1, 2, 3, 4, 0] rfl (ih _ _ _ _ _ _ h)
        · exact j_weak [] rfl (k48 _ h)
def w_X7_areRehearsed (M : Mm) (x0 : Nat) (x1 : Nat) (x2 : Int32) (x3 : Int32) (P : Int32 → Mm → Prop) : Prop := (∃ n3, l_X7_areRehearsed_3 P (fun M7 => ((0 : Int32) = 0 ∨ (0 : Int32) = 1) ∧ P (0 : Int32) M7) (fun M8 => ((1 : Int32) = 0 ∨ (1 : Int32) = 1) ∧ P (1 : Int32) M8) n3 M x0 x1 x2 x3 (0 : Int32))
set_option maxHeartbeats 4000000 in
set_option maxRecDepth 100000 in
theorem c_X7_areRehearsed (l : Launch) (E : EV) (M : Mm) (x0 : Nat) (x1 : Nat) (x2 : Int32) (x3 : Int32) (P : Int32 → Mm → Prop) (h : w_X7_areRehearsed M x0 x1 x2 x3 P) : CtI l E yX7_areRehearsed cX7_areRehearsed 5 .boolean rm_X7_areRehearsed 0 0 [.ref x0, .ref x1, .int x2, .int x3] M P := by
  refine ctI_of (by decide +kernel) (Nat.le_of_ble_eq_true rfl) ?_
  intro p e s m args below meth c C
  rw [w_X7_areRehearsed] at h
  show J p l e rm_X7_areRehearsed s m args below meth c (QI below E P args s 0 0) E 5 M 0 0 0 [(0, .ref x0), (1, .ref x1), (2, .int x2), (3, .int x3)] []
  refine j_iconst (pc := 0) (v := (0 : Int32)) C dX7_areRehearsed_0 rfl ?_
  refine j_istore (pc := 1) C [(4, _), (0, _), (1, _), (2, _), (3, _)] dX7_areRehearsed_1 (by decide) rfl ?_
  obtain ⟨n3, h⟩ := h
  refine j_weak [1, 2, 3, 4, 0] rfl (jl_X7_areRehearsed_3 C ⟨Nat.le_of_ble_eq_true rfl, Nat.le_of_ble_eq_true rfl⟩ (fun M7 h => ?_) (fun M8 h => ?_) n3 _ _ _ _ _ _ h)
  · refine j_iconst (pc := 48) (v := (0 : Int32)) C dX7_areRehearsed_48 rfl ?_
    exact j_zret (pc := 49) C dX7_areRehearsed_49 (Nat.le_of_ble_eq_true rfl) (Nat.le_of_ble_eq_true rfl) h
  · refine j_iconst (pc := 56) (v := (1 : Int32)) C dX7_areRehearsed_56 rfl ?_
    exact j_zret (pc := 57) C dX7_areRehearsed_57 (Nat.le_of_ble_eq_true rfl) (Nat.le_of_ble_eq_true rfl) h
abbrev rm_X7_haveCasts : Room := { frames := 3, cells := 0, slots := 0, locals := 74 }
def l_X7_haveCasts_2 (P : Int32 → Mm → Prop) (K41 : Mm → Prop) (K49 : Mm → Prop) : Nat → Mm → Nat → Int32 → Int32 → Int32 → Prop
  | 0, _, _, _, _, _ => False
  | n + 1, M, x0, x1, x2, x3 => (zk M x0 = 7 ∧ ∃ a1, zR M x0 10 = some a1 ∧ (zk M a1 = 6 ∧ ∃ a2, zR M a1 12 = some a2 ∧ zk M a2 = 2 ∧ (if (zI M a2 1) ≤ x3 then K49 M else w_X7_has M x1 x3 (fun r3 M3 => (if r3 = 0 then l_X7_haveCasts_2 P K41 K49 n M3 x0 x1 x2 (x3 + (1 : Int32)) else (zk M3 x0 = 7 ∧ ∃ a4, zR M3 x0 1 = some a4 ∧ (zk M3 x0 = 7 ∧ ∃ a5, zR M3 x0 10 = some a5 ∧ zk M3 a4 = 1 ∧ w_X0_castWork M3 a4 a5 x3 x2 (fun r6 M6 => (if r6 = (-1 : Int32) then K41 M6 else l_X7_haveCasts_2 P K41 K49 n M6 x0 x1 x2 (x3 + (1 : Int32)))))))))))
set_option maxHeartbeats 4000000 in
set_option maxRecDepth 100000 in
theorem jl_X7_haveCasts_2 {P : Int32 → Mm → Prop} {K41 : Mm → Prop} {K49 : Mm → Prop} (C : Cx p l s m args meth c cX7_haveCasts 4 RX7 (some .boolean) E) (hkc : kc ≤ rm_X7_haveCasts.cells ∧ ks ≤ rm_X7_haveCasts.slots) (k41 : ∀ M, K41 M → J p l e rm_X7_haveCasts s m args below meth c (QI below E P args s rm_X7_haveCasts.cells rm_X7_haveCasts.slots) E 4 M kc ks 41 [] []) (k49 : ∀ M, K49 M → J p l e rm_X7_haveCasts s m args below meth c (QI below E P args s rm_X7_haveCasts.cells rm_X7_haveCasts.slots) E 4 M kc ks 49 [] []) : ∀ n M x0 x1 x2 x3, l_X7_haveCasts_2 P K41 K49 n M x0 x1 x2 x3 → J p l e rm_X7_haveCasts s m args below meth c (QI below E P args s rm_X7_haveCasts.cells rm_X7_haveCasts.slots) E 4 M kc ks 2 [(0, .ref x0), (1, .int x1), (2, .int x2), (3, .int x3)] [] := by
  intro n
  induction n with
  | zero => intro M x0 x1 x2 x3 h; exact h.elim
  | succ n ih =>
    intro M x0 x1 x2 x3 h
    rw [l_X7_haveCasts_2] at h
    refine j_iload_n (pc := 2) C 3 dX7_haveCasts_2 rfl ?_
    refine j_aload_n (pc := 3) C 0 dX7_haveCasts_3 rfl ?_
    refine gf_X7_48 (pc := 4) C dX7_haveCasts_4 h (fun a1 h => ?_)
    refine gf_X7_113 (pc := 7) C dX7_haveCasts_7 h (fun a2 h => ?_)
    refine gf_X7_105 (pc := 10) C dX7_haveCasts_10 h (fun h => ?_)
    refine j_icmp_ge (pc := 13) C 49 dX7_haveCasts_13 (by decide) h (fun h => ?_) (fun h => ?_)
    · exact j_weak [] rfl (k49 _ h)
    · refine j_iload_n (pc := 16) C 1 dX7_haveCasts_16 rfl ?_
      refine j_iload_n (pc := 17) C 3 dX7_haveCasts_17 rfl ?_
      refine cs_X7_190 (pc := 18) C ⟨Nat.le_of_ble_eq_true rfl, Nat.le_of_ble_eq_true rfl⟩ hkc (Nat.le_of_ble_eq_true rfl) dX7_haveCasts_18 h (fun r3 M3 h => ?_)
      refine j_if_eq (pc := 21) C 43 dX7_haveCasts_21 (by decide) h (fun h => ?_) (fun h => ?_)
      · refine j_iinc (pc := 43) (v := (1 : Int32)) C 3 [(3, _), (0, _), (1, _), (2, _)] dX7_haveCasts_43 rfl rfl (by decide) rfl ?_
        refine j_goto (pc := 46) C 2 dX7_haveCasts_46 (by decide) ?_
        exact j_weak [1, 2, 3, 0] rfl (ih _ _ _ _ _ h)
      · refine j_aload_n (pc := 24) C 0 dX7_haveCasts_24 rfl ?_
        refine gf_X7_16 (pc := 25) C dX7_haveCasts_25 h (fun a4 h => ?_)
        refine j_aload_n (pc := 28) C 0 dX7_haveCasts_28 rfl ?_
        refine gf_X7_48 (pc := 29) C dX7_haveCasts_29 h (fun a5 h => ?_)
        refine j_iload_n (pc := 32) C 3 dX7_haveCasts_32 rfl ?_
        refine j_iload_n (pc := 33) C 2 dX7_haveCasts_33 rfl ?_
        refine cs_X7_257 (pc := 34) C ⟨Nat.le_of_ble_eq_true rfl, Nat.le_of_ble_eq_true rfl⟩ hkc (Nat.le_of_ble_eq_true rfl) dX7_haveCasts_34 h (fun r6 M6 h => ?_)
        refine j_iconst (pc := 37) (v := (-1 : Int32)) C dX7_haveCasts_37 rfl ?_
        refine j_icmp_ne (pc := 38) C 43 dX7_haveCasts_38 (by decide) h (fun h => ?_) (fun h => ?_)
        · refine j_iinc (pc := 43) (v := (1 : Int32)) C 3 [(3, _), (0, _), (1, _), (2, _)] dX7_haveCasts_43 rfl rfl (by decide) rfl ?_
          refine j_goto (pc := 46) C 2 dX7_haveCasts_46 (by decide) ?_
          exact j_weak [1, 2, 3, 0] rfl (ih _ _ _ _ _ h)
        · exact j_weak [] rfl (k41 _ h)
def w_X7_haveCasts (M : Mm) (x0 : Nat) (x1 : Int32) (x2 : Int32) (P : Int32 → Mm → Prop) : Prop := (∃ n2, l_X7_haveCasts_2 P (fun M7 => ((0 : Int32) = 0 ∨ (0 : Int32) = 1) ∧ P (0 : Int32) M7) (fun M8 => ((1 : Int32) = 0 ∨ (1 : Int32) = 1) ∧ P (1 : Int32) M8) n2 M x0 x1 x2 (0 : Int32))
set_option maxHeartbeats 4000000 in
set_option maxRecDepth 100000 in
theorem c_X7_haveCasts (l : Launch) (E : EV) (M : Mm) (x0 : Nat) (x1 : Int32) (x2 : Int32) (P : Int32 → Mm → Prop) (h : w_X7_haveCasts M x0 x1 x2 P) : CtI l E yX7_haveCasts cX7_haveCasts 4 .boolean rm_X7_haveCasts 0 0 [.ref x0, .int x1, .int x2] M P := by
  refine ctI_of (by decide +kernel) (Nat.le_of_ble_eq_true rfl) ?_
  intro p e s m args below meth c C
  rw [w_X7_haveCasts] at h
  show J p l e rm_X7_haveCasts s m args below meth c (QI below E P args s 0 0) E 4 M 0 0 0 [(0, .ref x0), (1, .int x1), (2, .int x2)] []
  refine j_iconst (pc := 0) (v := (0 : Int32)) C dX7_haveCasts_0 rfl ?_
  refine j_istore_n (pc := 1) C [(3, _), (0, _), (1, _), (2, _)] dX7_haveCasts_1 (by decide) rfl ?_
  obtain ⟨n2, h⟩ := h
  refine j_weak [1, 2, 3, 0] rfl (jl_X7_haveCasts_2 C ⟨Nat.le_of_ble_eq_true rfl, Nat.le_of_ble_eq_true rfl⟩ (fun M7 h => ?_) (fun M8 h => ?_) n2 _ _ _ _ _ h)
  · refine j_iconst (pc := 41) (v := (0 : Int32)) C dX7_haveCasts_41 rfl ?_
    exact j_zret (pc := 42) C dX7_haveCasts_42 (Nat.le_of_ble_eq_true rfl) (Nat.le_of_ble_eq_true rfl) h
  · refine j_iconst (pc := 49) (v := (1 : Int32)) C dX7_haveCasts_49 rfl ?_
    exact j_zret (pc := 50) C dX7_haveCasts_50 (Nat.le_of_ble_eq_true rfl) (Nat.le_of_ble_eq_true rfl) h
theorem cs_X7_337 (C : Cx p l s m args meth c cc nL RX7 ret E) {b : Nat} {y0 : Int32} {y1 : Int32} {P : Int32 → Mm → Prop} (hR : rm_X6_areRentedOn.frames + 1 ≤ R.frames ∧ 8 + (4 + 11) + rm_X6_areRentedOn.locals ≤ R.locals) (hf : kc ≤ R.cells ∧ ks ≤ R.slots) (hst : (st.map fun v => v.category).sum ≤ 8) (d : decode cc pc = .ok (.invokevirtual 337, 3)) (h : zk M b = 6 ∧ w_X6_areRentedOn M b y0 y1 P) (kk : ∀ r M', P r M' → J p l e R s m args below meth c Q E nL M' kc ks (pc + 3) lo (.int r :: st)) : J p l e R s m args below meth c Q E nL M kc ks pc lo (.int y1 :: .int y0 :: .ref b :: st) :=
  j_cV_I (n := 2) (As := [.int y0, .int y1]) C co_X6 rfl wd_1108 wd_1109 h.1 (c_X6_areRentedOn l E M b y0 y1 P h.2) ⟨wd_1110, wd_1107, wd_43, by decide +kernel, by decide +kernel, by decide +kernel⟩ rfl rfl hR hf rfl hst d kk
theorem cs_X7_340 (C : Cx p l s m args meth c cc nL RX7 ret E) {b : Nat} {y0 : Int32} {y1 : Int32} {y2 : Int32} {P : Int32 → Mm → Prop} (hR : rm_X4_isHallTaken.frames + 1 ≤ R.frames ∧ 8 + (5 + 11) + rm_X4_isHallTaken.locals ≤ R.locals) (hf : kc ≤ R.cells ∧ ks ≤ R.slots) (hst : (st.map fun v => v.category).sum ≤ 8) (d : decode cc pc = .ok (.invokevirtual 340, 3)) (h : zk M b = 4 ∧ w_X4_isHallTaken M b y0 y1 y2 P) (kk : ∀ r M', P r M' → J p l e R s m args below meth c Q E nL M' kc ks (pc + 3) lo (.int r :: st)) : J p l e R s m args below meth c Q E nL M kc ks pc lo (.int y2 :: .int y1 :: .int y0 :: .ref b :: st) :=
  j_cV_I (n := 3) (As := [.int y0, .int y1, .int y2]) C co_X4 rfl wd_1113 wd_1114 h.1 (c_X4_isHallTaken l E M b y0 y1 y2 P h.2) ⟨wd_1115, wd_1112, wd_42, by decide +kernel, by decide +kernel, by decide +kernel⟩ rfl rfl hR hf rfl hst d kk
theorem cs_X7_344 (C : Cx p l s m args meth c cc nL RX7 ret E) {b : Nat} {y0 : Nat} {y1 : Int32} {y2 : Int32} {P : Int32 → Mm → Prop} (hR : rm_X7_areRehearsed.frames + 1 ≤ R.frames ∧ 8 + (5 + 11) + rm_X7_areRehearsed.locals ≤ R.locals) (hf : kc ≤ R.cells ∧ ks ≤ R.slots) (hst : (st.map fun v => v.category).sum ≤ 8) (d : decode cc pc = .ok (.invokevirtual 344, 3)) (h : zk M b = 7 ∧ w_X7_areRehearsed M b y0 y1 y2 P) (kk : ∀ r M', P r M' → J p l e R s m args below meth c Q E nL M' kc ks (pc + 3) lo (.int r :: st)) : J p l e R s m args below meth c Q E nL M kc ks pc lo (.int y2 :: .int y1 :: .ref y0 :: .ref b :: st) :=
  j_cV_I (n := 3) (As := [.ref y0, .int y1, .int y2]) C co_X7 rfl wd_1014 wd_23 h.1 (c_X7_areRehearsed l E M b y0 y1 y2 P h.2) ⟨wd_1015, wd_1012, wd_40, by decide +kernel, by decide +kernel, by decide +kernel⟩ rfl rfl hR hf rfl hst d kk
theorem cs_X7_348 (C : Cx p l s m args meth c cc nL RX7 ret E) {b : Nat} {y0 : Int32} {y1 : Int32} {P : Int32 → Mm → Prop} (hR : rm_X7_haveCasts.frames + 1 ≤ R.frames ∧ 8 + (4 + 11) + rm_X7_haveCasts.locals ≤ R.locals) (hf : kc ≤ R.cells ∧ ks ≤ R.slots) (hst : (st.map fun v => v.category).sum ≤ 8) (d : decode cc pc = .ok (.invokevirtual 348, 3)) (h : zk M b = 7 ∧ w_X7_haveCasts M b y0 y1 P) (kk : ∀ r M', P r M' → J p l e R s m args below meth c Q E nL M' kc ks (pc + 3) lo (.int r :: st)) : J p l e R s m args below meth c Q E nL M kc ks pc lo (.int y1 :: .int y0 :: .ref b :: st) :=
  j_cV_I (n := 2) (As := [.int y0, .int y1]) C co_X7 rfl wd_1135 wd_29 h.1 (c_X7_haveCasts l E M b y0 y1 P h.2) ⟨wd_1136, wd_1133, wd_40, by decide +kernel, by decide +kernel, by decide +kernel⟩ rfl rfl hR hf rfl hst d kk
abbrev rm_X7_reasonAgainst : Room := { frames := 4, cells := 0, slots := 0, locals := 97 }
def w_X7_reasonAgainst (M : Mm) (x0 : Nat) (x1 : Nat) (x2 : Int32) (x3 : Int32) (x4 : Int32) (x5 : Int32) (P : Int32 → Mm → Prop) : Prop := zk M x1 = 4 ∧ (if (zI M x1 0) < (20 : Int32) then (zk M x0 = 7 ∧ ∃ a1, zR M x0 10 = some a1 ∧ ¬ (3 : Int32) = 0 ∧ zk M a1 = 6 ∧ w_X6_areRentedOn M a1 x4 (x3 / (3 : Int32)) (fun r2 M2 => (if r2 = 0 then P (2 : Int32) M2 else (zk M2 x0 = 7 ∧ ∃ a3, zR M2 x0 10 = some a3 ∧ (zk M2 a3 = 6 ∧ ∃ a4, zR M2 a3 4 = some a4 ∧ zk M2 a4 = 10 ∧ vp_in x2 (zl M2 a4) ∧ zk M2 x1 = 4 ∧ w_X4_isHallTaken M2 x1 x2 x3 (zI M2 a4 x2.toNatClampNeg) (fun r5 M5 => (if r5 = 0 then (if x5 = 0 then zk M5 x0 = 7 ∧ w_X7_freePlayers M5 x0 x1 x3 (fun r6 M6 => zk M6 x0 = 7 ∧ w_X7_haveCasts M6 x0 x4 r6 (fun r7 M7 => (if r7 = 0 then P (5 : Int32) M7 else P (0 : Int32) M7))) else zk M5 x0 = 7 ∧ w_X7_areRehearsed M5 x0 x1 x4 x3 (fun r8 M8 => (if r8 = 0 then P (4 : Int32) M8 else zk M8 x0 = 7 ∧ w_X7_freePlayers M8 x0 x1 x3 (fun r9 M9 => zk M9 x0 = 7 ∧ w_X7_haveCasts M9 x0 x4 r9 (fun r10 M10 => (if r10 = 0 then P (5 : Int32) M10 else P (0 : Int32) M10)))))) else P (3 : Int32) M5))))))) else P (1 : Int32) M)
set_option maxHeartbeats 4000000 in
set_option maxRecDepth 100000 in
theorem c_X7_reasonAgainst (l : Launch) (E : EV) (M : Mm) (x0 : Nat) (x1 : Nat) (x2 : Int32) (x3 : Int32) (x4 : Int32) (x5 : Int32) (P : Int32 → Mm → Prop) (h : w_X7_reasonAgainst M x0 x1 x2 x3 x4 x5 P) : CtI l E yX7_reasonAgainst cX7_reasonAgainst 6 .int rm_X7_reasonAgainst 0 0 [.ref x0, .ref x1, .int x2, .int x3, .int x4, .int x5] M P := by
  refine ctI_of (by decide +kernel) (Nat.le_of_ble_eq_true rfl) ?_
  intro p e s m args below meth c C
  rw [w_X7_reasonAgainst] at h
  show J p l e rm_X7_reasonAgainst s m args below meth c (QI below E P args s 0 0) E 6 M 0 0 0 [(0, .ref x0), (1, .ref x1), (2, .int x2), (3, .int x3), (4, .int x4), (5, .int x5)] []
  refine j_aload_n (pc := 0) C 1 dX7_reasonAgainst_0 rfl ?_
  refine gf_X7_119 (pc := 1) C dX7_reasonAgainst_1 h (fun h => ?_)
  refine j_bipush (pc := 4) (v := (20 : Int32)) C dX7_reasonAgainst_4 rfl ?_
  refine j_icmp_lt (pc := 6) C 11 dX7_reasonAgainst_6 (by decide) h (fun h => ?_) (fun h => ?_)
  · refine j_aload_n (pc := 11) C 0 dX7_reasonAgainst_11 rfl ?_
    refine gf_X7_48 (pc := 12) C dX7_reasonAgainst_12 h (fun a1 h => ?_)
    refine j_iload (pc := 15) C 4 dX7_reasonAgainst_15 rfl ?_
    refine j_iload_n (pc := 17) C 3 dX7_reasonAgainst_17 rfl ?_
    refine j_iconst (pc := 18) (v := (3 : Int32)) C dX7_reasonAgainst_18 rfl ?_
    refine j_idiv (pc := 19) C dX7_reasonAgainst_19 h (fun h => ?_)
    refine cs_X7_337 (pc := 20) C ⟨Nat.le_of_ble_eq_true rfl, Nat.le_of_ble_eq_true rfl⟩ ⟨Nat.le_of_ble_eq_true rfl, Nat.le_of_ble_eq_true rfl⟩ (Nat.le_of_ble_eq_true rfl) dX7_reasonAgainst_20 h (fun r2 M2 h => ?_)
    refine j_if_ne (pc := 23) C 28 dX7_reasonAgainst_23 (by decide) h (fun h => ?_) (fun h => ?_)
    · refine j_aload_n (pc := 28) C 1 dX7_reasonAgainst_28 rfl ?_
      refine j_iload_n (pc := 29) C 2 dX7_reasonAgainst_29 rfl ?_
      refine j_iload_n (pc := 30) C 3 dX7_reasonAgainst_30 rfl ?_
      refine j_aload_n (pc := 31) C 0 dX7_reasonAgainst_31 rfl ?_
      refine gf_X7_48 (pc := 32) C dX7_reasonAgainst_32 h (fun a3 h => ?_)
      refine gf_X7_145 (pc := 35) C dX7_reasonAgainst_35 h (fun a4 h => ?_)
      refine j_iload_n (pc := 38) C 2 dX7_reasonAgainst_38 rfl ?_
      refine j_iald (pc := 39) C dX7_reasonAgainst_39 h (fun h => ?_)
      refine cs_X7_340 (pc := 40) C ⟨Nat.le_of_ble_eq_true rfl, Nat.le_of_ble_eq_true rfl⟩ ⟨Nat.le_of_ble_eq_true rfl, Nat.le_of_ble_eq_true rfl⟩ (Nat.le_of_ble_eq_true rfl) dX7_reasonAgainst_40 h (fun r5 M5 h => ?_)
      refine j_if_eq (pc := 43) C 48 dX7_reasonAgainst_43 (by decide) h (fun h => ?_) (fun h => ?_)
      · refine j_iload (pc := 48) C 5 dX7_reasonAgainst_48 rfl ?_
        refine j_if_eq (pc := 50) C 66 dX7_reasonAgainst_50 (by decide) h (fun h => ?_) (fun h => ?_)
        · refine j_aload_n (pc := 66) C 0 dX7_reasonAgainst_66 rfl ?_
          refine j_iload (pc := 67) C 4 dX7_reasonAgainst_67 rfl ?_
          refine j_aload_n (pc := 69) C 0 dX7_reasonAgainst_69 rfl ?_
          refine j_aload_n (pc := 70) C 1 dX7_reasonAgainst_70 rfl ?_
          refine j_iload_n (pc := 71) C 3 dX7_reasonAgainst_71 rfl ?_
          refine cs_X7_186 (pc := 72) C ⟨Nat.le_of_ble_eq_true rfl, Nat.le_of_ble_eq_true rfl⟩ ⟨Nat.le_of_ble_eq_true rfl, Nat.le_of_ble_eq_true rfl⟩ (Nat.le_of_ble_eq_true rfl) dX7_reasonAgainst_72 h (fun r6 M6 h => ?_)
          refine cs_X7_348 (pc := 75) C ⟨Nat.le_of_ble_eq_true rfl, Nat.le_of_ble_eq_true rfl⟩ ⟨Nat.le_of_ble_eq_true rfl, Nat.le_of_ble_eq_true rfl⟩ (Nat.le_of_ble_eq_true rfl) dX7_reasonAgainst_75 h (fun r7 M7 h => ?_)
          refine j_if_eq (pc := 78) C 85 dX7_reasonAgainst_78 (by decide) h (fun h => ?_) (fun h => ?_)
          · refine j_iconst (pc := 85) (v := (5 : Int32)) C dX7_reasonAgainst_85 rfl ?_
            exact j_iret (pc := 86) C dX7_reasonAgainst_86 (Nat.le_of_ble_eq_true rfl) (Nat.le_of_ble_eq_true rfl) h
          · refine j_iconst (pc := 81) (v := (0 : Int32)) C dX7_reasonAgainst_81 rfl ?_
            refine j_goto (pc := 82) C 86 dX7_reasonAgainst_82 (by decide) ?_
            exact j_iret (pc := 86) C dX7_reasonAgainst_86 (Nat.le_of_ble_eq_true rfl) (Nat.le_of_ble_eq_true rfl) h
        · refine j_aload_n (pc := 53) C 0 dX7_reasonAgainst_53 rfl ?_
          refine j_aload_n (pc := 54) C 1 dX7_reasonAgainst_54 rfl ?_
          refine j_iload (pc := 55) C 4 dX7_reasonAgainst_55 rfl ?_
          refine j_iload_n (pc := 57) C 3 dX7_reasonAgainst_57 rfl ?_
          refine cs_X7_344 (pc := 58) C ⟨Nat.le_of_ble_eq_true rfl, Nat.le_of_ble_eq_true rfl⟩ ⟨Nat.le_of_ble_eq_true rfl, Nat.le_of_ble_eq_true rfl⟩ (Nat.le_of_ble_eq_true rfl) dX7_reasonAgainst_58 h (fun r8 M8 h => ?_)
          refine j_if_ne (pc := 61) C 66 dX7_reasonAgainst_61 (by decide) h (fun h => ?_) (fun h => ?_)
          · refine j_aload_n (pc := 66) C 0 dX7_reasonAgainst_66 rfl ?_
            refine j_iload (pc := 67) C 4 dX7_reasonAgainst_67 rfl ?_
            refine j_aload_n (pc := 69) C 0 dX7_reasonAgainst_69 rfl ?_
            refine j_aload_n (pc := 70) C 1 dX7_reasonAgainst_70 rfl ?_
            refine j_iload_n (pc := 71) C 3 dX7_reasonAgainst_71 rfl ?_
            refine cs_X7_186 (pc := 72) C ⟨Nat.le_of_ble_eq_true rfl, Nat.le_of_ble_eq_true rfl⟩ ⟨Nat.le_of_ble_eq_true rfl, Nat.le_of_ble_eq_true rfl⟩ (Nat.le_of_ble_eq_true rfl) dX7_reasonAgainst_72 h (fun r9 M9 h => ?_)
            refine cs_X7_348 (pc := 75) C ⟨Nat.le_of_ble_eq_true rfl, Nat.le_of_ble_eq_true rfl⟩ ⟨Nat.le_of_ble_eq_true rfl, Nat.le_of_ble_eq_true rfl⟩ (Nat.le_of_ble_eq_true rfl) dX7_reasonAgainst_75 h (fun r10 M10 h => ?_)
            refine j_if_eq (pc := 78) C 85 dX7_reasonAgainst_78 (by decide) h (fun h => ?_) (fun h => ?_)
            · refine j_iconst (pc := 85) (v := (5 : Int32)) C dX7_reasonAgainst_85 rfl ?_
              exact j_iret (pc := 86) C dX7_reasonAgainst_86 (Nat.le_of_ble_eq_true rfl) (Nat.le_of_ble_eq_true rfl) h
            · refine j_iconst (pc := 81) (v := (0 : Int32)) C dX7_reasonAgainst_81 rfl ?_
              refine j_goto (pc := 82) C 86 dX7_reasonAgainst_82 (by decide) ?_
              exact j_iret (pc := 86) C dX7_reasonAgainst_86 (Nat.le_of_ble_eq_true rfl) (Nat.le_of_ble_eq_true rfl) h
          · refine j_iconst (pc := 64) (v := (4 : Int32)) C dX7_reasonAgainst_64 rfl ?_
            exact j_iret (pc := 65) C dX7_reasonAgainst_65 (Nat.le_of_ble_eq_true rfl) (Nat.le_of_ble_eq_true rfl) h
      · refine j_iconst (pc := 46) (v := (3 : Int32)) C dX7_reasonAgainst_46 rfl ?_
        exact j_iret (pc := 47) C dX7_reasonAgainst_47 (Nat.le_of_ble_eq_true rfl) (Nat.le_of_ble_eq_true rfl) h
    · refine j_iconst (pc := 26) (v := (2 : Int32)) C dX7_reasonAgainst_26 rfl ?_
      exact j_iret (pc := 27) C dX7_reasonAgainst_27 (Nat.le_of_ble_eq_true rfl) (Nat.le_of_ble_eq_true rfl) h
  · refine j_iconst (pc := 9) (v := (1 : Int32)) C dX7_reasonAgainst_9 rfl ?_
    exact j_iret (pc := 10) C dX7_reasonAgainst_10 (Nat.le_of_ble_eq_true rfl) (Nat.le_of_ble_eq_true rfl) h
theorem cs_X7_351 (C : Cx p l s m args meth c cc nL RX7 ret E) {y0 : Int32} {P : Int32 → Mm → Prop} (hR : rm_X7_firstBits.frames + 1 ≤ R.frames ∧ 8 + (1 + 11) + rm_X7_firstBits.locals ≤ R.locals) (hf : kc ≤ R.cells ∧ ks ≤ R.slots) (hst : (st.map fun v => v.category).sum ≤ 8) (d : decode cc pc = .ok (.invokestatic 351, 3)) (h : w_X7_firstBits M y0 P) (kk : ∀ r M', P r M' → J p l e R s m args below meth c Q E nL M' kc ks (pc + 3) lo (.int r :: st)) : J p l e R s m args below meth c Q E nL M kc ks pc lo (.int y0 :: st) :=
  j_cS_I (n := 1) (As := [.int y0]) C wd_1142 (c_X7_firstBits l E M y0 P h) ⟨wd_1143, wd_1230, wd_40, by decide +kernel, by decide +kernel, by decide +kernel⟩ rfl rfl hR hf rfl hst d kk
theorem cs_X7_354 (C : Cx p l s m args meth c cc nL RX7 ret E) {y0 : Int32} {P : Int32 → Mm → Prop} (hR : rm_J6_bitCount_0f7a4.frames + 1 ≤ R.frames ∧ 8 + (1 + 11) + rm_J6_bitCount_0f7a4.locals ≤ R.locals) (hf : kc ≤ R.cells ∧ ks ≤ R.slots) (hst : (st.map fun v => v.category).sum ≤ 8) (d : decode cc pc = .ok (.invokestatic 354, 3)) (h : w_J6_bitCount_0f7a4 M y0 P) (kk : ∀ r M', P r M' → J p l e R s m args below meth c Q E nL M' kc ks (pc + 3) lo (.int r :: st)) : J p l e R s m args below meth c Q E nL M kc ks pc lo (.int y0 :: st) :=
  j_cS_I (n := 1) (As := [.int y0]) C wd_1145 (c_J6_bitCount_0f7a4 l E M y0 P h) ⟨wd_1146, wd_1231, wd_56, by decide +kernel, by decide +kernel, by decide +kernel⟩ rfl rfl hR hf rfl hst d kk
abbrev rm_X7_requirePlaceAndWorks : Room := { frames := 8, cells := 4, slots := 24, locals := 131 }
def w_X7_requirePlaceAndWorks (M : Mm) (x0 : Nat) (x1 : Int32) (x2 : Int32) (x3 : Int32) (x4 : Int32) (P : Mm → Prop) (X : String → Mm → Prop) : Prop := zk M x0 = 7 ∧ w_X7_requireHall M x0 x1 (fun M1 => zk M1 x0 = 7 ∧ w_X7_requireSlot M1 x0 x2 (fun M2 => (zk M2 x0 = 7 ∧ ∃ a3, zR M2 x0 10 = some a3 ∧ (zk M2 a3 = 6 ∧ ∃ a4, zR M2 a3 12 = some a4 ∧ zk M2 a4 = 2 ∧ w_X7_firstBits M2 (zI M2 a4 1) (fun r5 M5 => (if (x3 &&& (r5 ^^^ (-1 : Int32))) = 0 then w_X7_requireArgument M5 (1 : Int32) (fun M13 => w_J6_bitCount_0f7a4 M13 x3 (fun r14 M14 => (if r14 < (1 : Int32) then w_X7_requireArgument M14 (0 : Int32) (fun M15 => P M15) X else (if x4 = 0 then (if (1 : Int32) < r14 then w_X7_requireArgument M14 (0 : Int32) (fun M16 => P M16) X else w_X7_requireArgument M14 (1 : Int32) (fun M17 => P M17) X) else (if (3 : Int32) < r14 then w_X7_requireArgument M14 (0 : Int32) (fun M18 => P M18) X else w_X7_requireArgument M14 (1 : Int32) (fun M19 => P M19) X))))) X else w_X7_requireArgument M5 (0 : Int32) (fun M6 => w_J6_bitCount_0f7a4 M6 x3 (fun r7 M7 => (if r7 < (1 : Int32) then w_X7_requireArgument M7 (0 : Int32) (fun M8 => P M8) X else (if x4 = 0 then (if (1 : Int32) < r7 then w_X7_requireArgument M7 (0 : Int32) (fun M9 => P M9) X else w_X7_requireArgument M7 (1 : Int32) (fun M10 => P M10) X) else (if (3 : Int32) < r7 then w_X7_requireArgument M7 (0 : Int32) (fun M11 => P M11) X else w_X7_requireArgument M7 (1 : Int32) (fun M12 => P M12) X))))) X))))) X) X
set_option maxHeartbeats 4000000 in
set_option maxRecDepth 100000 in
theorem c_X7_requirePlaceAndWorks (l : Launch) (E : EV) (M : Mm) (x0 : Nat) (x1 : Int32) (x2 : Int32) (x3 : Int32) (x4 : Int32) (P : Mm → Prop) (X : String → Mm → Prop) (h : w_X7_requirePlaceAndWorks M x0 x1 x2 x3 x4 P X) : CtVX l E yX7_requirePlaceAndWorks cX7_requirePlaceAndWorks 6 rm_X7_requirePlaceAndWorks 4 24 [.ref x0, .int x1, .int x2, .int x3, .int x4] M P X := by
  refine ctVX_of (by decide +kernel) (Nat.le_of_ble_eq_true rfl) ?_
  intro p e s m args below meth c C hex
  rw [w_X7_requirePlaceAndWorks] at h
  show J p l e rm_X7_requirePlaceAndWorks s m args below meth c (QVX below E P X args s 4 24) E 6 M 0 0 0 [(0, .ref x0), (1, .int x1), (2, .int x2), (3, .int x3), (4, .int x4)] []
  refine j_aload_n (pc := 0) C 0 dX7_requirePlaceAndWorks_0 rfl ?_
  refine j_iload_n (pc := 1) C 1 dX7_requirePlaceAndWorks_1 rfl ?_
  refine cs_X7_142 (pc := 2) C hex ⟨Nat.le_of_ble_eq_true rfl, Nat.le_of_ble_eq_true rfl⟩ ⟨Nat.le_of_ble_eq_true rfl, Nat.le_of_ble_eq_true rfl⟩ ⟨Nat.le_of_ble_eq_true rfl, Nat.le_of_ble_eq_true rfl⟩ (Nat.le_of_ble_eq_true rfl) dX7_requirePlaceAndWorks_2 h (fun M1 h => ?_)
  refine j_aload_n (pc := 5) C 0 dX7_requirePlaceAndWorks_5 rfl ?_
  refine j_iload_n (pc := 6) C 2 dX7_requirePlaceAndWorks_6 rfl ?_
  refine cs_X7_183 (pc := 7) C hex ⟨Nat.le_of_ble_eq_true rfl, Nat.le_of_ble_eq_true rfl⟩ ⟨Nat.le_of_ble_eq_true rfl, Nat.le_of_ble_eq_true rfl⟩ ⟨Nat.le_of_ble_eq_true rfl, Nat.le_of_ble_eq_true rfl⟩ (Nat.le_of_ble_eq_true rfl) dX7_requirePlaceAndWorks_7 h (fun M2 h => ?_)
  refine j_iload_n (pc := 10) C 3 dX7_requirePlaceAndWorks_10 rfl ?_
  refine j_aload_n (pc := 11) C 0 dX7_requirePlaceAndWorks_11 rfl ?_
  refine gf_X7_48 (pc := 12) C dX7_requirePlaceAndWorks_12 h (fun a3 h => ?_)
  refine gf_X7_113 (pc := 15) C dX7_requirePlaceAndWorks_15 h (fun a4 h => ?_)
  refine gf_X7_105 (pc := 18) C dX7_requirePlaceAndWorks_18 h (fun h => ?_)
  refine cs_X7_351 (pc := 21) C ⟨Nat.le_of_ble_eq_true rfl, Nat.le_of_ble_eq_true rfl⟩ ⟨Nat.le_of_ble_eq_true rfl, Nat.le_of_ble_eq_true rfl⟩ (Nat.le_of_ble_eq_true rfl) dX7_requirePlaceAndWorks_21 h (fun r5 M5 h => ?_)
  refine j_iconst (pc := 24) (v := (-1 : Int32)) C dX7_requirePlaceAndWorks_24 rfl ?_
  refine j_ixor (pc := 25) C dX7_requirePlaceAndWorks_25 ?_
  refine j_iand (pc := 26) C dX7_requirePlaceAndWorks_26 ?_
  refine j_if_ne (pc := 27) C 34 dX7_requirePlaceAndWorks_27 (by decide) h (fun h => ?_) (fun h => ?_)
  · refine j_iconst (pc := 34) (v := (0 : Int32)) C dX7_requirePlaceAndWorks_34 rfl ?_
    refine cs_X7_62 (pc := 35) C hex ⟨Nat.le_of_ble_eq_true rfl, Nat.le_of_ble_eq_true rfl⟩ ⟨Nat.le_of_ble_eq_true rfl, Nat.le_of_ble_eq_true rfl⟩ ⟨Nat.le_of_ble_eq_true rfl, Nat.le_of_ble_eq_true rfl⟩ (Nat.le_of_ble_eq_true rfl) dX7_requirePlaceAndWorks_35 h (fun M6 h => ?_)
    refine j_iload_n (pc := 38) C 3 dX7_requirePlaceAndWorks_38 rfl ?_
    refine cs_X7_354 (pc := 39) C ⟨Nat.le_of_ble_eq_true rfl, Nat.le_of_ble_eq_true rfl⟩ ⟨Nat.le_of_ble_eq_true rfl, Nat.le_of_ble_eq_true rfl⟩ (Nat.le_of_ble_eq_true rfl) dX7_requirePlaceAndWorks_39 h (fun r7 M7 h => ?_)
    refine j_istore (pc := 42) C [(5, _), (0, _), (1, _), (2, _), (3, _), (4, _)] dX7_requirePlaceAndWorks_42 (by decide) rfl ?_
    refine j_iload (pc := 44) C 0 dX7_requirePlaceAndWorks_44 rfl ?_
    refine j_iconst (pc := 46) (v := (1 : Int32)) C dX7_requirePlaceAndWorks_46 rfl ?_
    refine j_icmp_lt (pc := 47) C 69 dX7_requirePlaceAndWorks_47 (by decide) h (fun h => ?_) (fun h => ?_)
    · refine j_iconst (pc := 69) (v := (0 : Int32)) C dX7_requirePlaceAndWorks_69 rfl ?_
      refine cs_X7_62 (pc := 70) C hex ⟨Nat.le_of_ble_eq_true rfl, Nat.le_of_ble_eq_true rfl⟩ ⟨Nat.le_of_ble_eq_true rfl, Nat.le_of_ble_eq_true rfl⟩ ⟨Nat.le_of_ble_eq_true rfl, Nat.le_of_ble_eq_true rfl⟩ (Nat.le_of_ble_eq_true rfl) dX7_requirePlaceAndWorks_70 h (fun M8 h => ?_)
      exact j_vretX (pc := 73) C dX7_requirePlaceAndWorks_73 (Nat.le_of_ble_eq_true rfl) (Nat.le_of_ble_eq_true rfl) h
    · refine j_iload (pc := 50) C 0 dX7_requirePlaceAndWorks_50 rfl ?_
      refine j_iload (pc := 52) C 5 dX7_requirePlaceAndWorks_52 rfl ?_
      refine j_if_eq (pc := 54) C 61 dX7_requirePlaceAndWorks_54 (by decide) h (fun h => ?_) (fun h => ?_)
      · refine j_iconst (pc := 61) (v := (1 : Int32)) C dX7_requirePlaceAndWorks_61 rfl ?_
        refine j_icmp_gt (pc := 62) C 69 dX7_requirePlaceAndWorks_62 (by decide) h (fun h => ?_) (fun h => ?_)
        · refine j_iconst (pc := 69) (v := (0 : Int32)) C dX7_requirePlaceAndWorks_69 rfl ?_
          refine cs_X7_62 (pc := 70) C hex ⟨Nat.le_of_ble_eq_true rfl, Nat.le_of_ble_eq_true rfl⟩ ⟨Nat.le_of_ble_eq_true rfl, Nat.le_of_ble_eq_true rfl⟩ ⟨Nat.le_of_ble_eq_true rfl, Nat.le_of_ble_eq_true rfl⟩ (Nat.le_of_ble_eq_true rfl) dX7_requirePlaceAndWorks_70 h (fun M9 h => ?_)
          exact j_vretX (pc := 73) C dX7_requirePlaceAndWorks_73 (Nat.le_of_ble_eq_true rfl) (Nat.le_of_ble_eq_true rfl) h
        · refine j_iconst (pc := 65) (v := (1 : Int32)) C dX7_requirePlaceAndWorks_65 rfl ?_
          refine j_goto (pc := 66) C 70 dX7_requirePlaceAndWorks_66 (by decide) ?_
          refine cs_X7_62 (pc := 70) C hex ⟨Nat.le_of_ble_eq_true rfl, Nat.le_of_ble_eq_true rfl⟩ ⟨Nat.le_of_ble_eq_true rfl, Nat.le_of_ble_eq_true rfl⟩ ⟨Nat.le_of_ble_eq_true rfl, Nat.le_of_ble_eq_true rfl⟩ (Nat.le_of_ble_eq_true rfl) dX7_requirePlaceAndWorks_70 h (fun M10 h => ?_)
          exact j_vretX (pc := 73) C dX7_requirePlaceAndWorks_73 (Nat.le_of_ble_eq_true rfl) (Nat.le_of_ble_eq_true rfl) h
      · refine j_iconst (pc := 57) (v := (3 : Int32)) C dX7_requirePlaceAndWorks_57 rfl ?_
        refine j_goto (pc := 58) C 62 dX7_requirePlaceAndWorks_58 (by decide) ?_
        refine j_icmp_gt (pc := 62) C 69 dX7_requirePlaceAndWorks_62 (by decide) h (fun h => ?_) (fun h => ?_)
        · refine j_iconst (pc := 69) (v := (0 : Int32)) C dX7_requirePlaceAndWorks_69 rfl ?_
          refine cs_X7_62 (pc := 70) C hex ⟨Nat.le_of_ble_eq_true rfl, Nat.le_of_ble_eq_true rfl⟩ ⟨Nat.le_of_ble_eq_true rfl, Nat.le_of_ble_eq_true rfl⟩ ⟨Nat.le_of_ble_eq_true rfl, Nat.le_of_ble_eq_true rfl⟩ (Nat.le_of_ble_eq_true rfl) dX7_requirePlaceAndWorks_70 h (fun M11 h => ?_)
          exact j_vretX (pc := 73) C dX7_requirePlaceAndWorks_73 (Nat.le_of_ble_eq_true rfl) (Nat.le_of_ble_eq_true rfl) h
        · refine j_iconst (pc := 65) (v := (1 : Int32)) C dX7_requirePlaceAndWorks_65 rfl ?_
          refine j_goto (pc := 66) C 70 dX7_requirePlaceAndWorks_66 (by decide) ?_
          refine cs_X7_62 (pc := 70) C hex ⟨Nat.le_of_ble_eq_true rfl, Nat.le_of_ble_eq_true rfl⟩ ⟨Nat.le_of_ble_eq_true rfl, Nat.le_of_ble_eq_true rfl⟩ ⟨Nat.le_of_ble_eq_true rfl, Nat.le_of_ble_eq_true rfl⟩ (Nat.le_of_ble_eq_true rfl) dX7_requirePlaceAndWorks_70 h (fun M12 h => ?_)
          exact j_vretX (pc := 73) C dX7_requirePlaceAndWorks_73 (Nat.le_of_ble_eq_true rfl) (Nat.le_of_ble_eq_true rfl) h
  · refine j_iconst (pc := 30) (v := (1 : Int32)) C dX7_requirePlaceAndWorks_30 rfl ?_
    refine j_goto (pc := 31) C 35 dX7_requirePlaceAndWorks_31 (by decide) ?_
    refine cs_X7_62 (pc := 35) C hex ⟨Nat.le_of_ble_eq_true rfl, Nat.le_of_ble_eq_true rfl⟩ ⟨Nat.le_of_ble_eq_true rfl, Nat.le_of_ble_eq_true rfl⟩ ⟨Nat.le_of_ble_eq_true rfl, Nat.le_of_ble_eq_true rfl⟩ (Nat.le_of_ble_eq_true rfl) dX7_requirePlaceAndWorks_35 h (fun M13 h => ?_)
    refine j_iload_n (pc := 38) C 3 dX7_requirePlaceAndWorks_38 rfl ?_
    refine cs_X7_354 (pc := 39) C ⟨Nat.le_of_ble_eq_true rfl, Nat.le_of_ble_eq_true rfl⟩ ⟨Nat.le_of_ble_eq_true rfl, Nat.le_of_ble_eq_true rfl⟩ (Nat.le_of_ble_eq_true rfl) dX7_requirePlaceAndWorks_39 h (fun r14 M14 h => ?_)
    refine j_istore (pc := 42) C [(5, _), (0, _), (1, _), (2, _), (3, _), (4, _)] dX7_requirePlaceAndWorks_42 (by decide) rfl ?_
    refine j_iload (pc := 44) C 0 dX7_requirePlaceAndWorks_44 rfl ?_
    refine j_iconst (pc := 46) (v := (1 : Int32)) C dX7_requirePlaceAndWorks_46 rfl ?_
    refine j_icmp_lt (pc := 47) C 69 dX7_requirePlaceAndWorks_47 (by decide) h (fun h => ?_) (fun h => ?_)
    · refine j_iconst (pc := 69) (v := (0 : Int32)) C dX7_requirePlaceAndWorks_69 rfl ?_
      refine cs_X7_62 (pc := 70) C hex ⟨Nat.le_of_ble_eq_true rfl, Nat.le_of_ble_eq_true rfl⟩ ⟨Nat.le_of_ble_eq_true rfl, Nat.le_of_ble_eq_true rfl⟩ ⟨Nat.le_of_ble_eq_true rfl, Nat.le_of_ble_eq_true rfl⟩ (Nat.le_of_ble_eq_true rfl) dX7_requirePlaceAndWorks_70 h (fun M15 h => ?_)
      exact j_vretX (pc := 73) C dX7_requirePlaceAndWorks_73 (Nat.le_of_ble_eq_true rfl) (Nat.le_of_ble_eq_true rfl) h
    · refine j_iload (pc := 50) C 0 dX7_requirePlaceAndWorks_50 rfl ?_
      refine j_iload (pc := 52) C 5 dX7_requirePlaceAndWorks_52 rfl ?_
      refine j_if_eq (pc := 54) C 61 dX7_requirePlaceAndWorks_54 (by decide) h (fun h => ?_) (fun h => ?_)
      · refine j_iconst (pc := 61) (v := (1 : Int32)) C dX7_requirePlaceAndWorks_61 rfl ?_
        refine j_icmp_gt (pc := 62) C 69 dX7_requirePlaceAndWorks_62 (by decide) h (fun h => ?_) (fun h => ?_)
        · refine j_iconst (pc := 69) (v := (0 : Int32)) C dX7_requirePlaceAndWorks_69 rfl ?_
          refine cs_X7_62 (pc := 70) C hex ⟨Nat.le_of_ble_eq_true rfl, Nat.le_of_ble_eq_true rfl⟩ ⟨Nat.le_of_ble_eq_true rfl, Nat.le_of_ble_eq_true rfl⟩ ⟨Nat.le_of_ble_eq_true rfl, Nat.le_of_ble_eq_true rfl⟩ (Nat.le_of_ble_eq_true rfl) dX7_requirePlaceAndWorks_70 h (fun M16 h => ?_)
          exact j_vretX (pc := 73) C dX7_requirePlaceAndWorks_73 (Nat.le_of_ble_eq_true rfl) (Nat.le_of_ble_eq_true rfl) h
        · refine j_iconst (pc := 65) (v := (1 : Int32)) C dX7_requirePlaceAndWorks_65 rfl ?_
          refine j_goto (pc := 66) C 70 dX7_requirePlaceAndWorks_66 (by decide) ?_
          refine cs_X7_62 (pc := 70) C hex ⟨Nat.le_of_ble_eq_true rfl, Nat.le_of_ble_eq_true rfl⟩ ⟨Nat.le_of_ble_eq_true rfl, Nat.le_of_ble_eq_true rfl⟩ ⟨Nat.le_of_ble_eq_true rfl, Nat.le_of_ble_eq_true rfl⟩ (Nat.le_of_ble_eq_true rfl) dX7_requirePlaceAndWorks_70 h (fun M17 h => ?_)
          exact j_vretX (pc := 73) C dX7_requirePlaceAndWorks_73 (Nat.le_of_ble_eq_true rfl) (Nat.le_of_ble_eq_true rfl) h
      · refine j_iconst (pc := 57) (v := (3 : Int32)) C dX7_requirePlaceAndWorks_57 rfl ?_
        refine j_goto (pc := 58) C 62 dX7_requirePlaceAndWorks_58 (by decide) ?_
        refine j_icmp_gt (pc := 62) C 69 dX7_requirePlaceAndWorks_62 (by decide) h (fun h => ?_) (fun h => ?_)
        · refine j_iconst (pc := 69) (v := (0 : Int32)) C dX7_requirePlaceAndWorks_69 rfl ?_
          refine cs_X7_62 (pc := 70) C hex ⟨Nat.le_of_ble_eq_true rfl, Nat.le_of_ble_eq_true rfl⟩ ⟨Nat.le_of_ble_eq_true rfl, Nat.le_of_ble_eq_true rfl⟩ ⟨Nat.le_of_ble_eq_true rfl, Nat.le_of_ble_eq_true rfl⟩ (Nat.le_of_ble_eq_true rfl) dX7_requirePlaceAndWorks_70 h (fun M18 h => ?_)
          exact j_vretX (pc := 73) C dX7_requirePlaceAndWorks_73 (Nat.le_of_ble_eq_true rfl) (Nat.le_of_ble_eq_true rfl) h
        · refine j_iconst (pc := 65) (v := (1 : Int32)) C dX7_requirePlaceAndWorks_65 rfl ?_
          refine j_goto (pc := 66) C 70 dX7_requirePlaceAndWorks_66 (by decide) ?_
          refine cs_X7_62 (pc := 70) C hex ⟨Nat.le_of_ble_eq_true rfl, Nat.le_of_ble_eq_true rfl⟩ ⟨Nat.le_of_ble_eq_true rfl, Nat.le_of_ble_eq_true rfl⟩ ⟨Nat.le_of_ble_eq_true rfl, Nat.le_of_ble_eq_true rfl⟩ (Nat.le_of_ble_eq_true rfl) dX7_requirePlaceAndWorks_70 h (fun M19 h => ?_)
          exact j_vretX (pc := 73) C dX7_requirePlaceAndWorks_73 (Nat.le_of_ble_eq_true rfl) (Nat.le_of_ble_eq_true rfl) h
abbrev rm0_X7_requirePlaceAndWorks : Room := { frames := 2, cells := 0, slots := 0, locals := 42 }
set_option maxHeartbeats 4000000 in
set_option maxRecDepth 100000 in
theorem c0_X7_requirePlaceAndWorks (l : Launch) (E : EV) (M : Mm) (x0 : Nat) (x1 : Int32) (x2 : Int32) (x3 : Int32) (x4 : Int32) (P : Mm → Prop) (h : w_X7_requirePlaceAndWorks M x0 x1 x2 x3 x4 P (fun _ _ => False)) : CtV l E yX7_requirePlaceAndWorks cX7_requirePlaceAndWorks 6 rm0_X7_requirePlaceAndWorks 0 0 [.ref x0, .int x1, .int x2, .int x3, .int x4] M P := by
  refine ctV_of (by decide +kernel) (Nat.le_of_ble_eq_true rfl) ?_
  intro p e s m args below meth c C hnm
  rw [w_X7_requirePlaceAndWorks] at h
  show J p l e rm0_X7_requirePlaceAndWorks s m args below meth c (QV below E P args s 0 0) E 6 M 0 0 0 [(0, .ref x0), (1, .int x1), (2, .int x2), (3, .int x3), (4, .int x4)] []
  refine j_aload_n (pc := 0) C 0 dX7_requirePlaceAndWorks_0 rfl ?_
  refine j_iload_n (pc := 1) C 1 dX7_requirePlaceAndWorks_1 rfl ?_
  refine cs0_X7_142 (pc := 2) C ⟨Nat.le_of_ble_eq_true rfl, Nat.le_of_ble_eq_true rfl⟩ ⟨Nat.le_of_ble_eq_true rfl, Nat.le_of_ble_eq_true rfl⟩ (Nat.le_of_ble_eq_true rfl) dX7_requirePlaceAndWorks_2 h (fun M1 h => ?_)
  refine j_aload_n (pc := 5) C 0 dX7_requirePlaceAndWorks_5 rfl ?_
  refine j_iload_n (pc := 6) C 2 dX7_requirePlaceAndWorks_6 rfl ?_
  refine cs0_X7_183 (pc := 7) C ⟨Nat.le_of_ble_eq_true rfl, Nat.le_of_ble_eq_true rfl⟩ ⟨Nat.le_of_ble_eq_true rfl, Nat.le_of_ble_eq_true rfl⟩ (Nat.le_of_ble_eq_true rfl) dX7_requirePlaceAndWorks_7 h (fun M2 h => ?_)
  refine j_iload_n (pc := 10) C 3 dX7_requirePlaceAndWorks_10 rfl ?_
  refine j_aload_n (pc := 11) C 0 dX7_requirePlaceAndWorks_11 rfl ?_
  refine gf_X7_48 (pc := 12) C dX7_requirePlaceAndWorks_12 h (fun a3 h => ?_)
  refine gf_X7_113 (pc := 15) C dX7_requirePlaceAndWorks_15 h (fun a4 h => ?_)
  refine gf_X7_105 (pc := 18) C dX7_requirePlaceAndWorks_18 h (fun h => ?_)
  refine cs_X7_351 (pc := 21) C ⟨Nat.le_of_ble_eq_true rfl, Nat.le_of_ble_eq_true rfl⟩ ⟨Nat.le_of_ble_eq_true rfl, Nat.le_of_ble_eq_true rfl⟩ (Nat.le_of_ble_eq_true rfl) dX7_requirePlaceAndWorks_21 h (fun r5 M5 h => ?_)
  refine j_iconst (pc := 24) (v := (-1 : Int32)) C dX7_requirePlaceAndWorks_24 rfl ?_
  refine j_ixor (pc := 25) C dX7_requirePlaceAndWorks_25 ?_
  refine j_iand (pc := 26) C dX7_requirePlaceAndWorks_26 ?_
  refine j_if_ne (pc := 27) C 34 dX7_requirePlaceAndWorks_27 (by decide) h (fun h => ?_) (fun h => ?_)
  · refine j_iconst (pc := 34) (v := (0 : Int32)) C dX7_requirePlaceAndWorks_34 rfl ?_
    refine cs0_X7_62 (pc := 35) C ⟨Nat.le_of_ble_eq_true rfl, Nat.le_of_ble_eq_true rfl⟩ ⟨Nat.le_of_ble_eq_true rfl, Nat.le_of_ble_eq_true rfl⟩ (Nat.le_of_ble_eq_true rfl) dX7_requirePlaceAndWorks_35 h (fun M6 h => ?_)
    refine j_iload_n (pc := 38) C 3 dX7_requirePlaceAndWorks_38 rfl ?_
    refine cs_X7_354 (pc := 39) C ⟨Nat.le_of_ble_eq_true rfl, Nat.le_of_ble_eq_true rfl⟩ ⟨Nat.le_of_ble_eq_true rfl, Nat.le_of_ble_eq_true rfl⟩ (Nat.le_of_ble_eq_true rfl) dX7_requirePlaceAndWorks_39 h (fun r7 M7 h => ?_)
    refine j_istore (pc := 42) C [(5, _), (0, _), (1, _), (2, _), (3, _), (4, _)] dX7_requirePlaceAndWorks_42 (by decide) rfl ?_
    refine j_iload (pc := 44) C 0 dX7_requirePlaceAndWorks_44 rfl ?_
    refine j_iconst (pc := 46) (v := (1 : Int32)) C dX7_requirePlaceAndWorks_46 rfl ?_
    refine j_icmp_lt (pc := 47) C 69 dX7_requirePlaceAndWorks_47 (by decide) h (fun h => ?_) (fun h => ?_)
    · refine j_iconst (pc := 69) (v := (0 : Int32)) C dX7_requirePlaceAndWorks_69 rfl ?_
      refine cs0_X7_62 (pc := 70) C ⟨Nat.le_of_ble_eq_true rfl, Nat.le_of_ble_eq_true rfl⟩ ⟨Nat.le_of_ble_eq_true rfl, Nat.le_of_ble_eq_true rfl⟩ (Nat.le_of_ble_eq_true rfl) dX7_requirePlaceAndWorks_70 h (fun M8 h => ?_)
      exact j_vret (pc := 73) C dX7_requirePlaceAndWorks_73 (Nat.le_of_ble_eq_true rfl) (Nat.le_of_ble_eq_true rfl) h
    · refine j_iload (pc := 50) C 0 dX7_requirePlaceAndWorks_50 rfl ?_
      refine j_iload (pc := 52) C 5 dX7_requirePlaceAndWorks_52 rfl ?_
      refine j_if_eq (pc := 54) C 61 dX7_requirePlaceAndWorks_54 (by decide) h (fun h => ?_) (fun h => ?_)
      · refine j_iconst (pc := 61) (v := (1 : Int32)) C dX7_requirePlaceAndWorks_61 rfl ?_
        refine j_icmp_gt (pc := 62) C 69 dX7_requirePlaceAndWorks_62 (by decide) h (fun h => ?_) (fun h => ?_)
        · refine j_iconst (pc := 69) (v := (0 : Int32)) C dX7_requirePlaceAndWorks_69 rfl ?_
          refine cs0_X7_62 (pc := 70) C ⟨Nat.le_of_ble_eq_true rfl, Nat.le_of_ble_eq_true rfl⟩ ⟨Nat.le_of_ble_eq_true rfl, Nat.le_of_ble_eq_true rfl⟩ (Nat.le_of_ble_eq_true rfl) dX7_requirePlaceAndWorks_70 h (fun M9 h => ?_)
          exact j_vret (pc := 73) C dX7_requirePlaceAndWorks_73 (Nat.le_of_ble_eq_true rfl) (Nat.le_of_ble_eq_true rfl) h
        · refine j_iconst (pc := 65) (v := (1 : Int32)) C dX7_requirePlaceAndWorks_65 rfl ?_
          refine j_goto (pc := 66) C 70 dX7_requirePlaceAndWorks_66 (by decide) ?_
          refine cs0_X7_62 (pc := 70) C ⟨Nat.le_of_ble_eq_true rfl, Nat.le_of_ble_eq_true rfl⟩ ⟨Nat.le_of_ble_eq_true rfl, Nat.le_of_ble_eq_true rfl⟩ (Nat.le_of_ble_eq_true rfl) dX7_requirePlaceAndWorks_70 h (fun M10 h => ?_)
          exact j_vret (pc := 73) C dX7_requirePlaceAndWorks_73 (Nat.le_of_ble_eq_true rfl) (Nat.le_of_ble_eq_true rfl) h
      · refine j_iconst (pc := 57) (v := (3 : Int32)) C dX7_requirePlaceAndWorks_57 rfl ?_
        refine j_goto (pc := 58) C 62 dX7_requirePlaceAndWorks_58 (by decide) ?_
        refine j_icmp_gt (pc := 62) C 69 dX7_requirePlaceAndWorks_62 (by decide) h (fun h => ?_) (fun h => ?_)
        · refine j_iconst (pc := 69) (v := (0 : Int32)) C dX7_requirePlaceAndWorks_69 rfl ?_
          refine cs0_X7_62 (pc := 70) C ⟨Nat.le_of_ble_eq_true rfl, Nat.le_of_ble_eq_true rfl⟩ ⟨Nat.le_of_ble_eq_true rfl, Nat.le_of_ble_eq_true rfl⟩ (Nat.le_of_ble_eq_true rfl) dX7_requirePlaceAndWorks_70 h (fun M11 h => ?_)
          exact j_vret (pc := 73) C dX7_requirePlaceAndWorks_73 (Nat.le_of_ble_eq_true rfl) (Nat.le_of_ble_eq_true rfl) h
        · refine j_iconst (pc := 65) (v := (1 : Int32)) C dX7_requirePlaceAndWorks_65 rfl ?_
          refine j_goto (pc := 66) C 70 dX7_requirePlaceAndWorks_66 (by decide) ?_
          refine cs0_X7_62 (pc := 70) C ⟨Nat.le_of_ble_eq_true rfl, Nat.le_of_ble_eq_true rfl⟩ ⟨Nat.le_of_ble_eq_true rfl, Nat.le_of_ble_eq_true rfl⟩ (Nat.le_of_ble_eq_true rfl) dX7_requirePlaceAndWorks_70 h (fun M12 h => ?_)
          exact j_vret (pc := 73) C dX7_requirePlaceAndWorks_73 (Nat.le_of_ble_eq_true rfl) (Nat.le_of_ble_eq_true rfl) h
  · refine j_iconst (pc := 30) (v := (1 : Int32)) C dX7_requirePlaceAndWorks_30 rfl ?_
    refine j_goto (pc := 31) C 35 dX7_requirePlaceAndWorks_31 (by decide) ?_
    refine cs0_X7_62 (pc := 35) C ⟨Nat.le_of_ble_eq_true rfl, Nat.le_of_ble_eq_true rfl⟩ ⟨Nat.le_of_ble_eq_true rfl, Nat.le_of_ble_eq_true rfl⟩ (Nat.le_of_ble_eq_true rfl) dX7_requirePlaceAndWorks_35 h (fun M13 h => ?_)
    refine j_iload_n (pc := 38) C 3 dX7_requirePlaceAndWorks_38 rfl ?_
    refine cs_X7_354 (pc := 39) C ⟨Nat.le_of_ble_eq_true rfl, Nat.le_of_ble_eq_true rfl⟩ ⟨Nat.le_of_ble_eq_true rfl, Nat.le_of_ble_eq_true rfl⟩ (Nat.le_of_ble_eq_true rfl) dX7_requirePlaceAndWorks_39 h (fun r14 M14 h => ?_)
    refine j_istore (pc := 42) C [(5, _), (0, _), (1, _), (2, _), (3, _), (4, _)] dX7_requirePlaceAndWorks_42 (by decide) rfl ?_
    refine j_iload (pc := 44) C 0 dX7_requirePlaceAndWorks_44 rfl ?_
    refine j_iconst (pc := 46) (v := (1 : Int32)) C dX7_requirePlaceAndWorks_46 rfl ?_
    refine j_icmp_lt (pc := 47) C 69 dX7_requirePlaceAndWorks_47 (by decide) h (fun h => ?_) (fun h => ?_)
    · refine j_iconst (pc := 69) (v := (0 : Int32)) C dX7_requirePlaceAndWorks_69 rfl ?_
      refine cs0_X7_62 (pc := 70) C ⟨Nat.le_of_ble_eq_true rfl, Nat.le_of_ble_eq_true rfl⟩ ⟨Nat.le_of_ble_eq_true rfl, Nat.le_of_ble_eq_true rfl⟩ (Nat.le_of_ble_eq_true rfl) dX7_requirePlaceAndWorks_70 h (fun M15 h => ?_)
      exact j_vret (pc := 73) C dX7_requirePlaceAndWorks_73 (Nat.le_of_ble_eq_true rfl) (Nat.le_of_ble_eq_true rfl) h
    · refine j_iload (pc := 50) C 0 dX7_requirePlaceAndWorks_50 rfl ?_
      refine j_iload (pc := 52) C 5 dX7_requirePlaceAndWorks_52 rfl ?_
      refine j_if_eq (pc := 54) C 61 dX7_requirePlaceAndWorks_54 (by decide) h (fun h => ?_) (fun h => ?_)
      · refine j_iconst (pc := 61) (v := (1 : Int32)) C dX7_requirePlaceAndWorks_61 rfl ?_
        refine j_icmp_gt (pc := 62) C 69 dX7_requirePlaceAndWorks_62 (by decide) h (fun h => ?_) (fun h => ?_)
        · refine j_iconst (pc := 69) (v := (0 : Int32)) C dX7_requirePlaceAndWorks_69 rfl ?_
          refine cs0_X7_62 (pc := 70) C ⟨Nat.le_of_ble_eq_true rfl, Nat.le_of_ble_eq_true rfl⟩ ⟨Nat.le_of_ble_eq_true rfl, Nat.le_of_ble_eq_true rfl⟩ (Nat.le_of_ble_eq_true rfl) dX7_requirePlaceAndWorks_70 h (fun M16 h => ?_)
          exact j_vret (pc := 73) C dX7_requirePlaceAndWorks_73 (Nat.le_of_ble_eq_true rfl) (Nat.le_of_ble_eq_true rfl) h
        · refine j_iconst (pc := 65) (v := (1 : Int32)) C dX7_requirePlaceAndWorks_65 rfl ?_
          refine j_goto (pc := 66) C 70 dX7_requirePlaceAndWorks_66 (by decide) ?_
          refine cs0_X7_62 (pc := 70) C ⟨Nat.le_of_ble_eq_true rfl, Nat.le_of_ble_eq_true rfl⟩ ⟨Nat.le_of_ble_eq_true rfl, Nat.le_of_ble_eq_true rfl⟩ (Nat.le_of_ble_eq_true rfl) dX7_requirePlaceAndWorks_70 h (fun M17 h => ?_)
          exact j_vret (pc := 73) C dX7_requirePlaceAndWorks_73 (Nat.le_of_ble_eq_true rfl) (Nat.le_of_ble_eq_true rfl) h
      · refine j_iconst (pc := 57) (v := (3 : Int32)) C dX7_requirePlaceAndWorks_57 rfl ?_
        refine j_goto (pc := 58) C 62 dX7_requirePlaceAndWorks_58 (by decide) ?_
        refine j_icmp_gt (pc := 62) C 69 dX7_requirePlaceAndWorks_62 (by decide) h (fun h => ?_) (fun h => ?_)
        · refine j_iconst (pc := 69) (v := (0 : Int32)) C dX7_requirePlaceAndWorks_69 rfl ?_
          refine cs0_X7_62 (pc := 70) C ⟨Nat.le_of_ble_eq_true rfl, Nat.le_of_ble_eq_true rfl⟩ ⟨Nat.le_of_ble_eq_true rfl, Nat.le_of_ble_eq_true rfl⟩ (Nat.le_of_ble_eq_true rfl) dX7_requirePlaceAndWorks_70 h (fun M18 h => ?_)
          exact j_vret (pc := 73) C dX7_requirePlaceAndWorks_73 (Nat.le_of_ble_eq_true rfl) (Nat.le_of_ble_eq_true rfl) h
        · refine j_iconst (pc := 65) (v := (1 : Int32)) C dX7_requirePlaceAndWorks_65 rfl ?_
          refine j_goto (pc := 66) C 70 dX7_requirePlaceAndWorks_66 (by decide) ?_
          refine cs0_X7_62 (pc := 70) C ⟨Nat.le_of_ble_eq_true rfl, Nat.le_of_ble_eq_true rfl⟩ ⟨Nat.le_of_ble_eq_true rfl, Nat.le_of_ble_eq_true rfl⟩ (Nat.le_of_ble_eq_true rfl) dX7_requirePlaceAndWorks_70 h (fun M19 h => ?_)
          exact j_vret (pc := 73) C dX7_requirePlaceAndWorks_73 (Nat.le_of_ble_eq_true rfl) (Nat.le_of_ble_eq_true rfl) h
end GW18
