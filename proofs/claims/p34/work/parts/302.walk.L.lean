/-! written by a program (wip/p34/gen.py) out of the decode rows and the tables: walks of the law -/

section GL2
variable {p : Program} {l : Launch} {e : Env} {R : Room} {s : State} {m : MethodId} {args : Array Value} {below : List Frame} {meth : Method} {c : Code} {Q : State → Prop} {cc : ByteArray} {nL : Nat} {ret : Option FieldType} {E : EV} {M : Mm} {kc ks pc : Nat} {lo : List (Nat × Value)} {st : List Value}
theorem c2_L_152 (C : Cx p l s m args meth c cc nL RL ret E) {b : Nat} {y0 : Int32} {P : Int32 → Mm → Prop} (hR : rm0_X7_size.frames + 1 ≤ R.frames ∧ 8 + (2 + 11) + rm0_X7_size.locals ≤ R.locals) (hf : kc ≤ R.cells ∧ ks ≤ R.slots) (hst : (st.map fun v => v.category).sum ≤ 8) (d : decode cc pc = .ok (.invokevirtual 152, 3)) (h : zk M b = 7 ∧ w_X7_size M b y0 P (fun _ _ => False)) (kk : ∀ r M', P r M' → J p l e R s m args below meth c Q E nL M' kc ks (pc + 3) lo (.int r :: st)) : J p l e R s m args below meth c Q E nL M kc ks pc lo (.int y0 :: .ref b :: st) :=
  j_cV_I (n := 1) (As := [.int y0]) C co_X7 rfl wd_1045 wd_1046 h.1 (c0_X7_size l E M b y0 P h.2) ⟨wd_1047, wd_1044, wd_40, by decide +kernel, by decide +kernel, by decide +kernel⟩ rfl rfl hR hf rfl hst d kk
theorem c2_L_162 (C : Cx p l s m args meth c cc nL RL ret E) {b : Nat} {y0 : Int32} {y1 : Int32} {y2 : Int32} {P : Int32 → Mm → Prop} (hR : rm0_X7_cast.frames + 1 ≤ R.frames ∧ 8 + (4 + 11) + rm0_X7_cast.locals ≤ R.locals) (hf : kc ≤ R.cells ∧ ks ≤ R.slots) (hst : (st.map fun v => v.category).sum ≤ 8) (d : decode cc pc = .ok (.invokevirtual 162, 3)) (h : zk M b = 7 ∧ w_X7_cast M b y0 y1 y2 P (fun _ _ => False)) (kk : ∀ r M', P r M' → J p l e R s m args below meth c Q E nL M' kc ks (pc + 3) lo (.int r :: st)) : J p l e R s m args below meth c Q E nL M kc ks pc lo (.int y2 :: .int y1 :: .int y0 :: .ref b :: st) :=
  j_cV_I (n := 3) (As := [.int y0, .int y1, .int y2]) C co_X7 rfl wd_1248 wd_1249 h.1 (c0_X7_cast l E M b y0 y1 y2 P h.2) ⟨wd_1250, wd_1247, wd_40, by decide +kernel, by decide +kernel, by decide +kernel⟩ rfl rfl hR hf rfl hst d kk
theorem c2_L_166 (C : Cx p l s m args meth c cc nL RL ret E) {b : Nat} {y0 : Int32} {y1 : Nat} {P : Int32 → Mm → Prop} (hR : rm_X8_doublings.frames + 1 ≤ R.frames ∧ 8 + (5 + 11) + rm_X8_doublings.locals ≤ R.locals) (hf : kc ≤ R.cells ∧ ks ≤ R.slots) (hst : (st.map fun v => v.category).sum ≤ 8) (d : decode cc pc = .ok (.invokevirtual 166, 3)) (h : zk M b = 8 ∧ w_X8_doublings M b y0 y1 P) (kk : ∀ r M', P r M' → J p l e R s m args below meth c Q E nL M' kc ks (pc + 3) lo (.int r :: st)) : J p l e R s m args below meth c Q E nL M kc ks pc lo (.ref y1 :: .int y0 :: .ref b :: st) :=
  j_cV_I (n := 2) (As := [.int y0, .ref y1]) C co_X8 rfl wd_1064 wd_1065 h.1 (c_X8_doublings l E M b y0 y1 P h.2) ⟨wd_1066, wd_1198, wd_49, by decide +kernel, by decide +kernel, by decide +kernel⟩ rfl rfl hR hf rfl hst d kk
theorem c2_L_170 (C : Cx p l s m args meth c cc nL RL ret E) {b : Nat} {y0 : Int32} {y1 : Int32} {P : Int32 → Mm → Prop} (hR : rm0_X7_service.frames + 1 ≤ R.frames ∧ 8 + (3 + 11) + rm0_X7_service.locals ≤ R.locals) (hf : kc ≤ R.cells ∧ ks ≤ R.slots) (hst : (st.map fun v => v.category).sum ≤ 8) (d : decode cc pc = .ok (.invokevirtual 170, 3)) (h : zk M b = 7 ∧ w_X7_service M b y0 y1 P (fun _ _ => False)) (kk : ∀ r M', P r M' → J p l e R s m args below meth c Q E nL M' kc ks (pc + 3) lo (.int r :: st)) : J p l e R s m args below meth c Q E nL M kc ks pc lo (.int y1 :: .int y0 :: .ref b :: st) :=
  j_cV_I (n := 2) (As := [.int y0, .int y1]) C co_X7 rfl wd_1257 wd_1258 h.1 (c0_X7_service l E M b y0 y1 P h.2) ⟨wd_1259, wd_1256, wd_40, by decide +kernel, by decide +kernel, by decide +kernel⟩ rfl rfl hR hf rfl hst d kk
theorem c2_L_175 (C : Cx p l s m args meth c cc nL RL ret E) {b : Nat} {y0 : Int32} {y1 : Int32} {P : Int32 → Mm → Prop} (hR : rm0_X7_serviceAt.frames + 1 ≤ R.frames ∧ 8 + (3 + 11) + rm0_X7_serviceAt.locals ≤ R.locals) (hf : kc ≤ R.cells ∧ ks ≤ R.slots) (hst : (st.map fun v => v.category).sum ≤ 8) (d : decode cc pc = .ok (.invokevirtual 175, 3)) (h : zk M b = 7 ∧ w_X7_serviceAt M b y0 y1 P (fun _ _ => False)) (kk : ∀ r M', P r M' → J p l e R s m args below meth c Q E nL M' kc ks (pc + 3) lo (.int r :: st)) : J p l e R s m args below meth c Q E nL M kc ks pc lo (.int y1 :: .int y0 :: .ref b :: st) :=
  j_cV_I (n := 2) (As := [.int y0, .int y1]) C co_X7 rfl wd_1262 wd_1263 h.1 (c0_X7_serviceAt l E M b y0 y1 P h.2) ⟨wd_1264, wd_1261, wd_40, by decide +kernel, by decide +kernel, by decide +kernel⟩ rfl rfl hR hf rfl hst d kk
theorem c2_L_178 (C : Cx p l s m args meth c cc nL RL ret E) {b : Nat} {P : Int32 → Mm → Prop} (hR : rm_X7_isWithoutClash.frames + 1 ≤ R.frames ∧ 8 + (2 + 11) + rm_X7_isWithoutClash.locals ≤ R.locals) (hf : kc ≤ R.cells ∧ ks ≤ R.slots) (hst : (st.map fun v => v.category).sum ≤ 8) (d : decode cc pc = .ok (.invokevirtual 178, 3)) (h : zk M b = 7 ∧ w_X7_isWithoutClash M b P) (kk : ∀ r M', P r M' → J p l e R s m args below meth c Q E nL M' kc ks (pc + 3) lo (.int r :: st)) : J p l e R s m args below meth c Q E nL M kc ks pc lo (.ref b :: st) :=
  j_cV_I (n := 0) (As := []) C co_X7 rfl wd_1266 wd_1267 h.1 (c_X7_isWithoutClash l E M b P h.2) ⟨wd_1268, wd_1265, wd_40, by decide +kernel, by decide +kernel, by decide +kernel⟩ rfl rfl hR hf rfl hst d kk
abbrev rm_L_services : Room := { frames := 5, cells := 0, slots := 0, locals := 115 }
def l_L_services_44 (P : Int32 → Mm → Prop) (K101 : Mm → Prop) (K125 : Mm → Nat → Nat → Int32 → Int32 → Int32 → Int32 → Prop) : Nat → Mm → Nat → Nat → Int32 → Int32 → Int32 → Int32 → Int32 → Prop
  | 0, _, _, _, _, _, _, _, _ => False
  | n + 1, M, x0, x1, x2, x3, x4, x5, x6 => (zk M x1 = 8 ∧ ∃ a5, zR M x1 13 = some a5 ∧ (zk M a5 = 14 ∧ vp_in x5 (zl M a5) ∧ ∃ a6, zR M a5 x5.toNatClampNeg = some a6 ∧ zk M a6 = 10 ∧ (if (nI (zl M a6)) ≤ x6 then K125 M x0 x1 x2 x3 x4 x5 else (zk M x1 = 8 ∧ ∃ a7, zR M x1 15 = some a7 ∧ (zk M a7 = 15 ∧ vp_in x2 (zl M a7) ∧ ∃ a8, zR M a7 x2.toNatClampNeg = some a8 ∧ zk M a8 = 14 ∧ vp_in x5 (zl M a8) ∧ (∀ a9, zR M a8 x5.toNatClampNeg = some a9 → (zk M x1 = 8 ∧ ∃ a10, zR M x1 15 = some a10 ∧ (zk M a10 = 15 ∧ vp_in x2 (zl M a10) ∧ ∃ a11, zR M a10 x2.toNatClampNeg = some a11 ∧ (zk M a11 = 14 ∧ vp_in x5 (zl M a11) ∧ ∃ a12, zR M a11 x5.toNatClampNeg = some a12 ∧ zk M a12 = 10 ∧ vp_in x6 (zl M a12) ∧ zk M x0 = 7 ∧ w_X7_cast M x0 x2 x5 x6 (fun r13 M13 => (if r13 = (zI M a12 x6.toNatClampNeg) then (if 0 ≤ (zI M a12 x6.toNatClampNeg) then l_L_services_44 P K101 K125 n M13 x0 x1 x2 (x3 ||| ((1 : Int32) <<< ((zI M a12 x6.toNatClampNeg) &&& 31))) x4 x5 (x6 + (1 : Int32)) else l_L_services_44 P K101 K125 n M13 x0 x1 x2 (x3 ||| (0 : Int32)) x4 x5 (x6 + (1 : Int32))) else K101 M13)) (fun _ _ => False))))) ∧ (zR M a8 x5.toNatClampNeg = none → zk M x0 = 7 ∧ w_X7_cast M x0 x2 x5 x6 (fun r14 M14 => (if r14 = (-1 : Int32) then l_L_services_44 P K101 K125 n M14 x0 x1 x2 (x3 ||| (0 : Int32)) x4 x5 (x6 + (1 : Int32)) else K101 M14)) (fun _ _ => False)))))))
set_option maxHeartbeats 4000000 in
set_option maxRecDepth 100000 in
theorem jl_L_services_44 {P : Int32 → Mm → Prop} {K101 : Mm → Prop} {K125 : Mm → Nat → Nat → Int32 → Int32 → Int32 → Int32 → Prop} (C : Cx p l s m args meth c cL_services 8 RL (some .boolean) E) (hkc : kc ≤ rm_L_services.cells ∧ ks ≤ rm_L_services.slots) (k101 : ∀ M, K101 M → J p l e rm_L_services s m args below meth c (QI below E P args s rm_L_services.cells rm_L_services.slots) E 8 M kc ks 101 [] []) (k125 : ∀ M x0 x1 x2 x3 x4 x5, K125 M x0 x1 x2 x3 x4 x5 → J p l e rm_L_services s m args below meth c (QI below E P args s rm_L_services.cells rm_L_services.slots) E 8 M kc ks 125 [(0, .ref x0), (1, .ref x1), (2, .int x2), (3, .int x3), (4, .int x4), (5, .int x5)] []) : ∀ n M x0 x1 x2 x3 x4 x5 x6, l_L_services_44 P K101 K125 n M x0 x1 x2 x3 x4 x5 x6 → J p l e rm_L_services s m args below meth c (QI below E P args s rm_L_services.cells rm_L_services.slots) E 8 M kc ks 44 [(0, .ref x0), (1, .ref x1), (2, .int x2), (3, .int x3), (4, .int x4), (5, .int x5), (6, .int x6)] [] := by
  intro n
  induction n with
  | zero => intro M x0 x1 x2 x3 x4 x5 x6 h; exact h.elim
  | succ n ih =>
    intro M x0 x1 x2 x3 x4 x5 x6 h
    rw [l_L_services_44] at h
    refine j_iload (pc := 44) C 6 dL_services_44 rfl ?_
    refine j_aload_n (pc := 46) C 1 dL_services_46 rfl ?_
    refine gf_L_106 (pc := 47) C dL_services_47 h (fun a5 h => ?_)
    refine j_iload (pc := 50) C 5 dL_services_50 rfl ?_
    refine j_aals (pc := 52) C (by decide) dL_services_52 h (fun a6 h => ?_)
    refine j_alen (pc := 53) (k := 10) C (by decide) dL_services_53 h (fun h => ?_)
    refine j_icmp_ge (pc := 54) C 125 dL_services_54 (by decide) h (fun h => ?_) (fun h => ?_)
    · exact j_weak [0, 1, 2, 3, 4, 5] rfl (k125 _ _ _ _ _ _ _ h)
    · refine j_aload_n (pc := 57) C 1 dL_services_57 rfl ?_
      refine gf_L_158 (pc := 58) C dL_services_58 h (fun a7 h => ?_)
      refine j_iload_n (pc := 61) C 2 dL_services_61 rfl ?_
      refine j_aals (pc := 62) C (by decide) dL_services_62 h (fun a8 h => ?_)
      refine j_iload (pc := 63) C 5 dL_services_63 rfl ?_
      refine j_aaln (pc := 65) C (by decide) dL_services_65 h (fun a9 h => ?_) (fun h => ?_)
      · refine j_ifnnA (pc := 66) C 73 dL_services_66 (by decide) ?_
        refine j_aload_n (pc := 73) C 1 dL_services_73 rfl ?_
        refine gf_L_158 (pc := 74) C dL_services_74 h (fun a10 h => ?_)
        refine j_iload_n (pc := 77) C 2 dL_services_77 rfl ?_
        refine j_aals (pc := 78) C (by decide) dL_services_78 h (fun a11 h => ?_)
        refine j_iload (pc := 79) C 5 dL_services_79 rfl ?_
        refine j_aals (pc := 81) C (by decide) dL_services_81 h (fun a12 h => ?_)
        refine j_iload (pc := 82) C 6 dL_services_82 rfl ?_
        refine j_iald (pc := 84) C dL_services_84 h (fun h => ?_)
        refine j_istore (pc := 85) C [(7, _), (0, _), (1, _), (2, _), (3, _), (4, _), (5, _), (6, _)] dL_services_85 (by decide) rfl ?_
        refine j_aload_n (pc := 87) C 1 dL_services_87 rfl ?_
        refine j_iload_n (pc := 88) C 3 dL_services_88 rfl ?_
        refine j_iload (pc := 89) C 6 dL_services_89 rfl ?_
        refine j_iload (pc := 91) C 7 dL_services_91 rfl ?_
        refine c2_L_162 (pc := 93) C ⟨(Nat.le_of_ble_eq_true rfl), (Nat.le_of_ble_eq_true rfl)⟩ hkc (Nat.le_of_ble_eq_true rfl) dL_services_93 h (fun r13 M13 h => ?_)
        refine j_iload (pc := 96) C 0 dL_services_96 rfl ?_
        refine j_icmp_eq (pc := 98) C 103 dL_services_98 (by decide) h (fun h => ?_) (fun h => ?_)
        · refine j_iload_n (pc := 103) C 4 dL_services_103 rfl ?_
          refine j_iload (pc := 104) C 0 dL_services_104 rfl ?_
          refine j_if_ge (pc := 106) C 113 dL_services_106 (by decide) h (fun h => ?_) (fun h => ?_)
          · refine j_iconst (pc := 113) (v := (1 : Int32)) C dL_services_113 rfl ?_
            refine j_iload (pc := 114) C 0 dL_services_114 rfl ?_
            refine j_ishl (pc := 116) C dL_services_116 ?_
            refine j_ior (pc := 117) C dL_services_117 ?_
            refine j_istore_n (pc := 118) C [(3, _), (7, _), (0, _), (1, _), (2, _), (4, _), (5, _), (6, _)] dL_services_118 (by decide) rfl ?_
            refine j_iinc (pc := 119) (v := (1 : Int32)) C 7 [(6, _), (3, _), (7, _), (0, _), (1, _), (2, _), (4, _), (5, _)] dL_services_119 rfl rfl (by decide) rfl ?_
            refine j_goto (pc := 122) C 44 dL_services_122 (by decide) ?_
            exact j_weak [3, 4, 5, 1, 6, 7, 0] rfl (ih _ _ _ _ _ _ _ _ h)
          · refine j_iconst (pc := 109) (v := (0 : Int32)) C dL_services_109 rfl ?_
            refine j_goto (pc := 110) C 117 dL_services_110 (by decide) ?_
            refine j_ior (pc := 117) C dL_services_117 ?_
            refine j_istore_n (pc := 118) C [(3, _), (7, _), (0, _), (1, _), (2, _), (4, _), (5, _), (6, _)] dL_services_118 (by decide) rfl ?_
            refine j_iinc (pc := 119) (v := (1 : Int32)) C 7 [(6, _), (3, _), (7, _), (0, _), (1, _), (2, _), (4, _), (5, _)] dL_services_119 rfl rfl (by decide) rfl ?_
            refine j_goto (pc := 122) C 44 dL_services_122 (by decide) ?_
            exact j_weak [3, 4, 5, 1, 6, 7, 0] rfl (ih _ _ _ _ _ _ _ _ h)
        · exact j_weak [] rfl (k101 _ h)
      · refine j_ifnnN (pc := 66) C dL_services_66 ?_
        refine j_iconst (pc := 69) (v := (-1 : Int32)) C dL_services_69 rfl ?_
        refine j_goto (pc := 70) C 85 dL_services_70 (by decide) ?_
        refine j_istore (pc := 85) C [(7, _), (0, _), (1, _), (2, _), (3, _), (4, _), (5, _), (6, _)] dL_services_85 (by decide) rfl ?_
        refine j_aload_n (pc := 87) C 1 dL_services_87 rfl ?_
        refine j_iload_n (pc := 88) C 3 dL_services_88 rfl ?_
        refine j_iload (pc := 89) C 6 dL_services_89 rfl ?_
        refine j_iload (pc := 91) C 7 dL_services_91 rfl ?_
        refine c2_L_162 (pc := 93) C ⟨(Nat.le_of_ble_eq_true rfl), (Nat.le_of_ble_eq_true rfl)⟩ hkc (Nat.le_of_ble_eq_true rfl) dL_services_93 h (fun r14 M14 h => ?_)
        refine j_iload (pc := 96) C 0 dL_services_96 rfl ?_
        refine j_icmp_eq (pc := 98) C 103 dL_services_98 (by decide) h (fun h => ?_) (fun h => ?_)
        · refine j_iload_n (pc := 103) C 4 dL_services_103 rfl ?_
          refine j_iload (pc := 104) C 0 dL_services_104 rfl ?_
          refine j_if_ge (pc := 106) (A := False) (B := True) C 113 dL_services_106 (by decide) (by first | rw [if_pos (by decide)] ; trivial | rw [if_neg (by decide)] ; trivial) (fun z => z.elim) (fun _ => ?_)
          refine j_iconst (pc := 109) (v := (0 : Int32)) C dL_services_109 rfl ?_
          refine j_goto (pc := 110) C 117 dL_services_110 (by decide) ?_
          refine j_ior (pc := 117) C dL_services_117 ?_
          refine j_istore_n (pc := 118) C [(3, _), (7, _), (0, _), (1, _), (2, _), (4, _), (5, _), (6, _)] dL_services_118 (by decide) rfl ?_
          refine j_iinc (pc := 119) (v := (1 : Int32)) C 7 [(6, _), (3, _), (7, _), (0, _), (1, _), (2, _), (4, _), (5, _)] dL_services_119 rfl rfl (by decide) rfl ?_
          refine j_goto (pc := 122) C 44 dL_services_122 (by decide) ?_
          exact j_weak [3, 4, 5, 1, 6, 7, 0] rfl (ih _ _ _ _ _ _ _ _ h)
        · exact j_weak [] rfl (k101 _ h)
def l_L_services_32 (P : Int32 → Mm → Prop) (K101 : Mm → Prop) (K163 : Mm → Nat → Nat → Int32 → Int32 → Int32 → Prop) : Nat → Mm → Nat → Nat → Int32 → Int32 → Int32 → Int32 → Prop
  | 0, _, _, _, _, _, _, _ => False
  | n + 1, M, x0, x1, x2, x3, x4, x5 => zk M x1 = 8 ∧ (if (zI M x1 3) ≤ x5 then K163 M x0 x1 x2 x3 x4 else (∃ n44, l_L_services_44 P (fun M15 => K101 M15) (fun M16 x0_16 x1_16 x2_16 x3_16 x4_16 x5_16 => (zk M16 x1_16 = 8 ∧ ∃ a17, zR M16 x1_16 15 = some a17 ∧ (zk M16 a17 = 15 ∧ vp_in x2_16 (zl M16 a17) ∧ ∃ a18, zR M16 a17 x2_16.toNatClampNeg = some a18 ∧ zk M16 a18 = 14 ∧ vp_in x5_16 (zl M16 a18) ∧ (∀ a19, zR M16 a18 x5_16.toNatClampNeg = some a19 → (zk M16 x1_16 = 8 ∧ ∃ a20, zR M16 x1_16 15 = some a20 ∧ (zk M16 a20 = 15 ∧ vp_in x2_16 (zl M16 a20) ∧ ∃ a21, zR M16 a20 x2_16.toNatClampNeg = some a21 ∧ (zk M16 a21 = 14 ∧ vp_in x5_16 (zl M16 a21) ∧ ∃ a22, zR M16 a21 x5_16.toNatClampNeg = some a22 ∧ zk M16 x1_16 = 8 ∧ w_X8_doublings M16 x1_16 x5_16 a22 (fun r23 M23 => l_L_services_32 P K101 K163 n M23 x0_16 x1_16 x2_16 x3_16 (x4_16 + r23) (x5_16 + (1 : Int32))))))) ∧ (zR M16 a18 x5_16.toNatClampNeg = none → l_L_services_32 P K101 K163 n M16 x0_16 x1_16 x2_16 x3_16 x4_16 (x5_16 + (1 : Int32)))))) n44 M x0 x1 x2 x3 x4 x5 (0 : Int32)))
set_option maxHeartbeats 4000000 in
set_option maxRecDepth 100000 in
theorem jl_L_services_32 {P : Int32 → Mm → Prop} {K101 : Mm → Prop} {K163 : Mm → Nat → Nat → Int32 → Int32 → Int32 → Prop} (C : Cx p l s m args meth c cL_services 8 RL (some .boolean) E) (hkc : kc ≤ rm_L_services.cells ∧ ks ≤ rm_L_services.slots) (k101 : ∀ M, K101 M → J p l e rm_L_services s m args below meth c (QI below E P args s rm_L_services.cells rm_L_services.slots) E 8 M kc ks 101 [] []) (k163 : ∀ M x0 x1 x2 x3 x4, K163 M x0 x1 x2 x3 x4 → J p l e rm_L_services s m args below meth c (QI below E P args s rm_L_services.cells rm_L_services.slots) E 8 M kc ks 163 [(0, .ref x0), (1, .ref x1), (2, .int x2), (3, .int x3), (4, .int x4)] []) : ∀ n M x0 x1 x2 x3 x4 x5, l_L_services_32 P K101 K163 n M x0 x1 x2 x3 x4 x5 → J p l e rm_L_services s m args below meth c (QI below E P args s rm_L_services.cells rm_L_services.slots) E 8 M kc ks 32 [(0, .ref x0), (1, .ref x1), (2, .int x2), (3, .int x3), (4, .int x4), (5, .int x5)] [] := by
  intro n
  induction n with
  | zero => intro M x0 x1 x2 x3 x4 x5 h; exact h.elim
  | succ n ih =>
    intro M x0 x1 x2 x3 x4 x5 h
    rw [l_L_services_32] at h
    refine j_iload (pc := 32) C 5 dL_services_32 rfl ?_
    refine j_aload_n (pc := 34) C 1 dL_services_34 rfl ?_
    refine gf_L_100 (pc := 35) C dL_services_35 h (fun h => ?_)
    refine j_icmp_ge (pc := 38) C 163 dL_services_38 (by decide) h (fun h => ?_) (fun h => ?_)
    · exact j_weak [0, 1, 2, 3, 4] rfl (k163 _ _ _ _ _ _ h)
    · refine j_iconst (pc := 41) (v := (0 : Int32)) C dL_services_41 rfl ?_
      refine j_istore (pc := 42) C [(6, _), (0, _), (1, _), (2, _), (3, _), (4, _), (5, _)] dL_services_42 (by decide) rfl ?_
      obtain ⟨n44, h⟩ := h
      refine j_weak [1, 2, 3, 4, 5, 6, 0] rfl (jl_L_services_44 C hkc (fun M15 h => ?_) (fun M16 x0_16 x1_16 x2_16 x3_16 x4_16 x5_16 h => ?_) n44 _ _ _ _ _ _ _ _ h)
      · exact j_weak [] rfl (k101 _ h)
      · refine j_aload_n (pc := 125) C 1 dL_services_125 rfl ?_
        refine gf_L_158 (pc := 126) C dL_services_126 h (fun a17 h => ?_)
        refine j_iload_n (pc := 129) C 2 dL_services_129 rfl ?_
        refine j_aals (pc := 130) C (by decide) dL_services_130 h (fun a18 h => ?_)
        refine j_iload (pc := 131) C 5 dL_services_131 rfl ?_
        refine j_aaln (pc := 133) C (by decide) dL_services_133 h (fun a19 h => ?_) (fun h => ?_)
        · refine j_ifnullA (pc := 134) C dL_services_134 ?_
          refine j_iload (pc := 137) C 4 dL_services_137 rfl ?_
          refine j_aload_n (pc := 139) C 1 dL_services_139 rfl ?_
          refine j_iload (pc := 140) C 5 dL_services_140 rfl ?_
          refine j_aload_n (pc := 142) C 1 dL_services_142 rfl ?_
          refine gf_L_158 (pc := 143) C dL_services_143 h (fun a20 h => ?_)
          refine j_iload_n (pc := 146) C 2 dL_services_146 rfl ?_
          refine j_aals (pc := 147) C (by decide) dL_services_147 h (fun a21 h => ?_)
          refine j_iload (pc := 148) C 5 dL_services_148 rfl ?_
          refine j_aals (pc := 150) C (by decide) dL_services_150 h (fun a22 h => ?_)
          refine c2_L_166 (pc := 151) C ⟨(Nat.le_of_ble_eq_true rfl), (Nat.le_of_ble_eq_true rfl)⟩ hkc (Nat.le_of_ble_eq_true rfl) dL_services_151 h (fun r23 M23 h => ?_)
          refine j_iadd (pc := 154) C dL_services_154 ?_
          refine j_istore (pc := 155) C [(4, _), (0, _), (1, _), (2, _), (3, _), (5, _)] dL_services_155 (by decide) rfl ?_
          refine j_iinc (pc := 157) (v := (1 : Int32)) C 5 [(5, _), (4, _), (0, _), (1, _), (2, _), (3, _)] dL_services_157 rfl rfl (by decide) rfl ?_
          refine j_goto (pc := 160) C 32 dL_services_160 (by decide) ?_
          exact j_weak [2, 3, 4, 5, 1, 0] rfl (ih _ _ _ _ _ _ _ h)
        · refine j_ifnullN (pc := 134) C 157 dL_services_134 (by decide) ?_
          refine j_iinc (pc := 157) (v := (1 : Int32)) C 5 [(5, _), (0, _), (1, _), (2, _), (3, _), (4, _)] dL_services_157 rfl rfl (by decide) rfl ?_
          refine j_goto (pc := 160) C 32 dL_services_160 (by decide) ?_
          exact j_weak [1, 2, 3, 4, 5, 0] rfl (ih _ _ _ _ _ _ _ h)
def l_L_services_166 (P : Int32 → Mm → Prop) (K191 : Mm → Prop) (K199 : Mm → Nat → Nat → Int32 → Int32 → Int32 → Prop) : Nat → Mm → Nat → Nat → Int32 → Int32 → Int32 → Int32 → Prop
  | 0, _, _, _, _, _, _, _ => False
  | n + 1, M, x0, x1, x2, x3, x4, x5 => (if (4 : Int32) ≤ x5 then K199 M x0 x1 x2 x3 x4 else zk M x0 = 7 ∧ w_X7_service M x0 x2 x5 (fun r26 M26 => (zk M26 x1 = 8 ∧ ∃ a27, zR M26 x1 14 = some a27 ∧ (zk M26 a27 = 14 ∧ vp_in x2 (zl M26 a27) ∧ ∃ a28, zR M26 a27 x2.toNatClampNeg = some a28 ∧ zk M26 a28 = 10 ∧ vp_in x5 (zl M26 a28) ∧ (if r26 = (zI M26 a28 x5.toNatClampNeg) then l_L_services_166 P K191 K199 n M26 x0 x1 x2 x3 x4 (x5 + (1 : Int32)) else K191 M26)))) (fun _ _ => False))
set_option maxHeartbeats 4000000 in
set_option maxRecDepth 100000 in
theorem jl_L_services_166 {P : Int32 → Mm → Prop} {K191 : Mm → Prop} {K199 : Mm → Nat → Nat → Int32 → Int32 → Int32 → Prop} (C : Cx p l s m args meth c cL_services 8 RL (some .boolean) E) (hkc : kc ≤ rm_L_services.cells ∧ ks ≤ rm_L_services.slots) (k191 : ∀ M, K191 M → J p l e rm_L_services s m args below meth c (QI below E P args s rm_L_services.cells rm_L_services.slots) E 8 M kc ks 191 [] []) (k199 : ∀ M x0 x1 x2 x3 x4, K199 M x0 x1 x2 x3 x4 → J p l e rm_L_services s m args below meth c (QI below E P args s rm_L_services.cells rm_L_services.slots) E 8 M kc ks 199 [(0, .ref x0), (1, .ref x1), (2, .int x2), (3, .int x3), (4, .int x4)] []) : ∀ n M x0 x1 x2 x3 x4 x5, l_L_services_166 P K191 K199 n M x0 x1 x2 x3 x4 x5 → J p l e rm_L_services s m args below meth c (QI below E P args s rm_L_services.cells rm_L_services.slots) E 8 M kc ks 166 [(0, .ref x0), (1, .ref x1), (2, .int x2), (3, .int x3), (4, .int x4), (5, .int x5)] [] := by
  intro n
  induction n with
  | zero => intro M x0 x1 x2 x3 x4 x5 h; exact h.elim
  | succ n ih =>
    intro M x0 x1 x2 x3 x4 x5 h
    rw [l_L_services_166] at h
    refine j_iload (pc := 166) C 5 dL_services_166 rfl ?_
    refine j_iconst (pc := 168) (v := (4 : Int32)) C dL_services_168 rfl ?_
    refine j_icmp_ge (pc := 169) C 199 dL_services_169 (by decide) h (fun h => ?_) (fun h => ?_)
    · exact j_weak [0, 1, 2, 3, 4] rfl (k199 _ _ _ _ _ _ h)
    · refine j_aload_n (pc := 172) C 0 dL_services_172 rfl ?_
      refine j_iload_n (pc := 173) C 2 dL_services_173 rfl ?_
      refine j_iload (pc := 174) C 5 dL_services_174 rfl ?_
      refine c2_L_170 (pc := 176) C ⟨(Nat.le_of_ble_eq_true rfl), (Nat.le_of_ble_eq_true rfl)⟩ hkc (Nat.le_of_ble_eq_true rfl) dL_services_176 h (fun r26 M26 h => ?_)
      refine j_aload_n (pc := 179) C 1 dL_services_179 rfl ?_
      refine gf_L_173 (pc := 180) C dL_services_180 h (fun a27 h => ?_)
      refine j_iload_n (pc := 183) C 2 dL_services_183 rfl ?_
      refine j_aals (pc := 184) C (by decide) dL_services_184 h (fun a28 h => ?_)
      refine j_iload (pc := 185) C 5 dL_services_185 rfl ?_
      refine j_iald (pc := 187) C dL_services_187 h (fun h => ?_)
      refine j_icmp_eq (pc := 188) C 193 dL_services_188 (by decide) h (fun h => ?_) (fun h => ?_)
      · refine j_iinc (pc := 193) (v := (1 : Int32)) C 5 [(5, _), (0, _), (1, _), (2, _), (3, _), (4, _)] dL_services_193 rfl rfl (by decide) rfl ?_
        refine j_goto (pc := 196) C 166 dL_services_196 (by decide) ?_
        exact j_weak [1, 2, 3, 4, 5, 0] rfl (ih _ _ _ _ _ _ _ h)
      · exact j_weak [] rfl (k191 _ h)
def l_L_services_16 (P : Int32 → Mm → Prop) (K101 : Mm → Prop) (K191 : Mm → Prop) (K244 : Mm → Prop) (K252 : Mm → Nat → Prop) : Nat → Mm → Nat → Nat → Int32 → Prop
  | 0, _, _, _, _ => False
  | n + 1, M, x0, x1, x2 => zk M x1 = 8 ∧ (if (zI M x1 6) ≤ x2 then K252 M x0 else (∃ n32, l_L_services_32 P (fun M24 => K101 M24) (fun M25 x0_25 x1_25 x2_25 x3_25 x4_25 => (∃ n166, l_L_services_166 P (fun M29 => K191 M29) (fun M30 x0_30 x1_30 x2_30 x3_30 x4_30 => zk M30 x0_30 = 7 ∧ w_X7_service M30 x0_30 x2_30 (4 : Int32) (fun r31 M31 => (if r31 = x3_30 then zk M31 x0_30 = 7 ∧ w_X7_service M31 x0_30 x2_30 (5 : Int32) (fun r32 M32 => (if r32 = x4_30 then (zk M32 x1_30 = 8 ∧ ∃ a33, zR M32 x1_30 14 = some a33 ∧ (zk M32 a33 = 14 ∧ vp_in x2_30 (zl M32 a33) ∧ ∃ a34, zR M32 a33 x2_30.toNatClampNeg = some a34 ∧ zk M32 a34 = 10 ∧ vp_in (1 : Int32) (zl M32 a34) ∧ (zk M32 x1_30 = 8 ∧ ∃ a35, zR M32 x1_30 14 = some a35 ∧ (zk M32 a35 = 14 ∧ vp_in x2_30 (zl M32 a35) ∧ ∃ a36, zR M32 a35 x2_30.toNatClampNeg = some a36 ∧ zk M32 a36 = 10 ∧ vp_in (0 : Int32) (zl M32 a36) ∧ zk M32 x0_30 = 7 ∧ w_X7_serviceAt M32 x0_30 (zI M32 a34 (1 : Int32).toNatClampNeg) (zI M32 a36 (0 : Int32).toNatClampNeg) (fun r37 M37 => (if r37 = x2_30 then l_L_services_16 P K101 K191 K244 K252 n M37 x0_30 x1_30 (x2_30 + (1 : Int32)) else K244 M37)) (fun _ _ => False))))) else K244 M32)) (fun _ _ => False) else K244 M31)) (fun _ _ => False)) n166 M25 x0_25 x1_25 x2_25 x3_25 x4_25 (0 : Int32))) n32 M x0 x1 x2 (0 : Int32) (0 : Int32) (0 : Int32)))
set_option maxHeartbeats 4000000 in
set_option maxRecDepth 100000 in
theorem jl_L_services_16 {P : Int32 → Mm → Prop} {K101 : Mm → Prop} {K191 : Mm → Prop} {K244 : Mm → Prop} {K252 : Mm → Nat → Prop} (C : Cx p l s m args meth c cL_services 8 RL (some .boolean) E) (hkc : kc ≤ rm_L_services.cells ∧ ks ≤ rm_L_services.slots) (k101 : ∀ M, K101 M → J p l e rm_L_services s m args below meth c (QI below E P args s rm_L_services.cells rm_L_services.slots) E 8 M kc ks 101 [] []) (k191 : ∀ M, K191 M → J p l e rm_L_services s m args below meth c (QI below E P args s rm_L_services.cells rm_L_services.slots) E 8 M kc ks 191 [] []) (k244 : ∀ M, K244 M → J p l e rm_L_services s m args below meth c (QI below E P args s rm_L_services.cells rm_L_services.slots) E 8 M kc ks 244 [] []) (k252 : ∀ M x0, K252 M x0 → J p l e rm_L_services s m args below meth c (QI below E P args s rm_L_services.cells rm_L_services.slots) E 8 M kc ks 252 [(0, .ref x0)] []) : ∀ n M x0 x1 x2, l_L_services_16 P K101 K191 K244 K252 n M x0 x1 x2 → J p l e rm_L_services s m args below meth c (QI below E P args s rm_L_services.cells rm_L_services.slots) E 8 M kc ks 16 [(0, .ref x0), (1, .ref x1), (2, .int x2)] [] := by
  intro n
  induction n with
  | zero => intro M x0 x1 x2 h; exact h.elim
  | succ n ih =>
    intro M x0 x1 x2 h
    rw [l_L_services_16] at h
    refine j_iload_n (pc := 16) C 2 dL_services_16 rfl ?_
    refine j_aload_n (pc := 17) C 1 dL_services_17 rfl ?_
    refine gf_L_155 (pc := 18) C dL_services_18 h (fun h => ?_)
    refine j_icmp_ge (pc := 21) C 252 dL_services_21 (by decide) h (fun h => ?_) (fun h => ?_)
    · exact j_weak [0] rfl (k252 _ _ h)
    · refine j_iconst (pc := 24) (v := (0 : Int32)) C dL_services_24 rfl ?_
      refine j_istore_n (pc := 25) C [(3, _), (0, _), (1, _), (2, _)] dL_services_25 (by decide) rfl ?_
      refine j_iconst (pc := 26) (v := (0 : Int32)) C dL_services_26 rfl ?_
      refine j_istore (pc := 27) C [(4, _), (3, _), (0, _), (1, _), (2, _)] dL_services_27 (by decide) rfl ?_
      refine j_iconst (pc := 29) (v := (0 : Int32)) C dL_services_29 rfl ?_
      refine j_istore (pc := 30) C [(5, _), (4, _), (3, _), (0, _), (1, _), (2, _)] dL_services_30 (by decide) rfl ?_
      obtain ⟨n32, h⟩ := h
      refine j_weak [3, 4, 5, 2, 1, 0] rfl (jl_L_services_32 C hkc (fun M24 h => ?_) (fun M25 x0_25 x1_25 x2_25 x3_25 x4_25 h => ?_) n32 _ _ _ _ _ _ _ h)
      · exact j_weak [] rfl (k101 _ h)
      · refine j_iconst (pc := 163) (v := (0 : Int32)) C dL_services_163 rfl ?_
        refine j_istore (pc := 164) C [(5, _), (0, _), (1, _), (2, _), (3, _), (4, _)] dL_services_164 (by decide) rfl ?_
        obtain ⟨n166, h⟩ := h
        refine j_weak [1, 2, 3, 4, 5, 0] rfl (jl_L_services_166 C hkc (fun M29 h => ?_) (fun M30 x0_30 x1_30 x2_30 x3_30 x4_30 h => ?_) n166 _ _ _ _ _ _ _ h)
        · exact j_weak [] rfl (k191 _ h)
        · refine j_aload_n (pc := 199) C 0 dL_services_199 rfl ?_
          refine j_iload_n (pc := 200) C 2 dL_services_200 rfl ?_
          refine j_iconst (pc := 201) (v := (4 : Int32)) C dL_services_201 rfl ?_
          refine c2_L_170 (pc := 202) C ⟨(Nat.le_of_ble_eq_true rfl), (Nat.le_of_ble_eq_true rfl)⟩ hkc (Nat.le_of_ble_eq_true rfl) dL_services_202 h (fun r31 M31 h => ?_)
          refine j_iload_n (pc := 205) C 3 dL_services_205 rfl ?_
          refine j_icmp_ne (pc := 206) C 244 dL_services_206 (by decide) h (fun h => ?_) (fun h => ?_)
          · exact j_weak [] rfl (k244 _ h)
          · refine j_aload_n (pc := 209) C 0 dL_services_209 rfl ?_
            refine j_iload_n (pc := 210) C 2 dL_services_210 rfl ?_
            refine j_iconst (pc := 211) (v := (5 : Int32)) C dL_services_211 rfl ?_
            refine c2_L_170 (pc := 212) C ⟨(Nat.le_of_ble_eq_true rfl), (Nat.le_of_ble_eq_true rfl)⟩ hkc (Nat.le_of_ble_eq_true rfl) dL_services_212 h (fun r32 M32 h => ?_)
            refine j_iload (pc := 215) C 4 dL_services_215 rfl ?_
            refine j_icmp_ne (pc := 217) C 244 dL_services_217 (by decide) h (fun h => ?_) (fun h => ?_)
            · exact j_weak [] rfl (k244 _ h)
            · refine j_aload_n (pc := 220) C 0 dL_services_220 rfl ?_
              refine j_aload_n (pc := 221) C 1 dL_services_221 rfl ?_
              refine gf_L_173 (pc := 222) C dL_services_222 h (fun a33 h => ?_)
              refine j_iload_n (pc := 225) C 2 dL_services_225 rfl ?_
              refine j_aals (pc := 226) C (by decide) dL_services_226 h (fun a34 h => ?_)
              refine j_iconst (pc := 227) (v := (1 : Int32)) C dL_services_227 rfl ?_
              refine j_iald (pc := 228) C dL_services_228 h (fun h => ?_)
              refine j_aload_n (pc := 229) C 1 dL_services_229 rfl ?_
              refine gf_L_173 (pc := 230) C dL_services_230 h (fun a35 h => ?_)
              refine j_iload_n (pc := 233) C 2 dL_services_233 rfl ?_
              refine j_aals (pc := 234) C (by decide) dL_services_234 h (fun a36 h => ?_)
              refine j_iconst (pc := 235) (v := (0 : Int32)) C dL_services_235 rfl ?_
              refine j_iald (pc := 236) C dL_services_236 h (fun h => ?_)
              refine c2_L_175 (pc := 237) C ⟨(Nat.le_of_ble_eq_true rfl), (Nat.le_of_ble_eq_true rfl)⟩ hkc (Nat.le_of_ble_eq_true rfl) dL_services_237 h (fun r37 M37 h => ?_)
              refine j_iload_n (pc := 240) C 2 dL_services_240 rfl ?_
              refine j_icmp_eq (pc := 241) C 246 dL_services_241 (by decide) h (fun h => ?_) (fun h => ?_)
              · refine j_iinc (pc := 246) (v := (1 : Int32)) C 2 [(2, _), (0, _), (1, _), (3, _), (4, _)] dL_services_246 rfl rfl (by decide) rfl ?_
                refine j_goto (pc := 249) C 16 dL_services_249 (by decide) ?_
                exact j_weak [1, 2, 0] rfl (ih _ _ _ _ h)
              · exact j_weak [] rfl (k244 _ h)
def w_L_services (M : Mm) (x0 : Nat) (x1 : Nat) (P : Int32 → Mm → Prop) : Prop := zk M x0 = 7 ∧ w_X7_size M x0 (5 : Int32) (fun r1 M1 => zk M1 x1 = 8 ∧ (if r1 = (zI M1 x1 6) then (∃ n16, l_L_services_16 P (fun M38 => ((0 : Int32) = 0 ∨ (0 : Int32) = 1) ∧ P (0 : Int32) M38) (fun M39 => ((0 : Int32) = 0 ∨ (0 : Int32) = 1) ∧ P (0 : Int32) M39) (fun M40 => ((0 : Int32) = 0 ∨ (0 : Int32) = 1) ∧ P (0 : Int32) M40) (fun M41 x0_41 => zk M41 x0_41 = 7 ∧ w_X7_isWithoutClash M41 x0_41 (fun r42 M42 => (r42 = 0 ∨ r42 = 1) ∧ P r42 M42)) n16 M1 x0 x1 (0 : Int32)) else ((0 : Int32) = 0 ∨ (0 : Int32) = 1) ∧ P (0 : Int32) M1)) (fun _ _ => False)
set_option maxHeartbeats 4000000 in
set_option maxRecDepth 100000 in
theorem c_L_services (l : Launch) (E : EV) (M : Mm) (x0 : Nat) (x1 : Nat) (P : Int32 → Mm → Prop) (h : w_L_services M x0 x1 P) : CtI l E yL_services cL_services 8 .boolean rm_L_services 0 0 [.ref x0, .ref x1] M P := by
  refine ctI_of (by decide +kernel) (Nat.le_of_ble_eq_true rfl) ?_
  intro p e s m args below meth c C
  rw [w_L_services] at h
  show J p l e rm_L_services s m args below meth c (QI below E P args s 0 0) E 8 M 0 0 0 [(0, .ref x0), (1, .ref x1)] []
  refine j_aload_n (pc := 0) C 0 dL_services_0 rfl ?_
  refine j_iconst (pc := 1) (v := (5 : Int32)) C dL_services_1 rfl ?_
  refine c2_L_152 (pc := 2) C ⟨(Nat.le_of_ble_eq_true rfl), (Nat.le_of_ble_eq_true rfl)⟩ ⟨Nat.le_of_ble_eq_true rfl, Nat.le_of_ble_eq_true rfl⟩ (Nat.le_of_ble_eq_true rfl) dL_services_2 h (fun r1 M1 h => ?_)
  refine j_aload_n (pc := 5) C 1 dL_services_5 rfl ?_
  refine gf_L_155 (pc := 6) C dL_services_6 h (fun h => ?_)
  refine j_icmp_eq (pc := 9) C 14 dL_services_9 (by decide) h (fun h => ?_) (fun h => ?_)
  · refine j_iconst (pc := 14) (v := (0 : Int32)) C dL_services_14 rfl ?_
    refine j_istore_n (pc := 15) C [(2, _), (0, _), (1, _)] dL_services_15 (by decide) rfl ?_
    obtain ⟨n16, h⟩ := h
    refine j_weak [1, 2, 0] rfl (jl_L_services_16 C ⟨Nat.le_of_ble_eq_true rfl, Nat.le_of_ble_eq_true rfl⟩ (fun M38 h => ?_) (fun M39 h => ?_) (fun M40 h => ?_) (fun M41 x0_41 h => ?_) n16 _ _ _ _ h)
    · refine j_iconst (pc := 101) (v := (0 : Int32)) C dL_services_101 rfl ?_
      exact j_zret (pc := 102) C dL_services_102 (Nat.le_of_ble_eq_true rfl) (Nat.le_of_ble_eq_true rfl) h
    · refine j_iconst (pc := 191) (v := (0 : Int32)) C dL_services_191 rfl ?_
      exact j_zret (pc := 192) C dL_services_192 (Nat.le_of_ble_eq_true rfl) (Nat.le_of_ble_eq_true rfl) h
    · refine j_iconst (pc := 244) (v := (0 : Int32)) C dL_services_244 rfl ?_
      exact j_zret (pc := 245) C dL_services_245 (Nat.le_of_ble_eq_true rfl) (Nat.le_of_ble_eq_true rfl) h
    · refine j_aload_n (pc := 252) C 0 dL_services_252 rfl ?_
      refine c2_L_178 (pc := 253) C ⟨(Nat.le_of_ble_eq_true rfl), (Nat.le_of_ble_eq_true rfl)⟩ ⟨Nat.le_of_ble_eq_true rfl, Nat.le_of_ble_eq_true rfl⟩ (Nat.le_of_ble_eq_true rfl) dL_services_253 h (fun r42 M42 h => ?_)
      exact j_zret (pc := 256) C dL_services_256 (Nat.le_of_ble_eq_true rfl) (Nat.le_of_ble_eq_true rfl) h
  · refine j_iconst (pc := 12) (v := (0 : Int32)) C dL_services_12 rfl ?_
    exact j_zret (pc := 13) C dL_services_13 (Nat.le_of_ble_eq_true rfl) (Nat.le_of_ble_eq_true rfl) h
theorem c2_L_39 (C : Cx p l s m args meth c cc nL RL ret E) {y0 : Nat} {y1 : Int32} {P : Int32 → Mm → Prop} (hR : rm_L_draw.frames + 1 ≤ R.frames ∧ 8 + (2 + 11) + rm_L_draw.locals ≤ R.locals) (hf : kc ≤ R.cells ∧ ks ≤ R.slots) (hst : (st.map fun v => v.category).sum ≤ 8) (d : decode cc pc = .ok (.invokestatic 39, 3)) (h : w_L_draw M y0 y1 P) (kk : ∀ r M', P r M' → J p l e R s m args below meth c Q E nL M' kc ks (pc + 3) lo (.int r :: st)) : J p l e R s m args below meth c Q E nL M kc ks pc lo (.int y1 :: .ref y0 :: st) :=
  j_cS_I (n := 2) (As := [.ref y0, .int y1]) C wd_411 (c_L_draw l E M y0 y1 P h) ⟨wd_412, wd_410, wd_39, by decide +kernel, by decide +kernel, by decide +kernel⟩ rfl rfl hR hf rfl hst d kk
theorem c2_L_182 (C : Cx p l s m args meth c cc nL RL ret E) {b : Nat} {y0 : Int32} {P : Int32 → Mm → Prop} (hR : rm_X8_count.frames + 1 ≤ R.frames ∧ 8 + (4 + 11) + rm_X8_count.locals ≤ R.locals) (hf : kc ≤ R.cells ∧ ks ≤ R.slots) (hst : (st.map fun v => v.category).sum ≤ 8) (d : decode cc pc = .ok (.invokevirtual 182, 3)) (h : zk M b = 8 ∧ w_X8_count M b y0 P) (kk : ∀ r M', P r M' → J p l e R s m args below meth c Q E nL M' kc ks (pc + 3) lo (.int r :: st)) : J p l e R s m args below meth c Q E nL M kc ks pc lo (.int y0 :: .ref b :: st) :=
  j_cV_I (n := 1) (As := [.int y0]) C co_X8 rfl wd_1282 wd_1283 h.1 (c_X8_count l E M b y0 P h.2) ⟨wd_1284, wd_1281, wd_49, by decide +kernel, by decide +kernel, by decide +kernel⟩ rfl rfl hR hf rfl hst d kk
theorem c2_L_185 (C : Cx p l s m args meth c cc nL RL ret E) {b : Nat} {y0 : Int32} {y1 : Int32} {P : Int32 → Mm → Prop} (hR : rm0_X7_player.frames + 1 ≤ R.frames ∧ 8 + (3 + 11) + rm0_X7_player.locals ≤ R.locals) (hf : kc ≤ R.cells ∧ ks ≤ R.slots) (hst : (st.map fun v => v.category).sum ≤ 8) (d : decode cc pc = .ok (.invokevirtual 185, 3)) (h : zk M b = 7 ∧ w_X7_player M b y0 y1 P (fun _ _ => False)) (kk : ∀ r M', P r M' → J p l e R s m args below meth c Q E nL M' kc ks (pc + 3) lo (.int r :: st)) : J p l e R s m args below meth c Q E nL M kc ks pc lo (.int y1 :: .int y0 :: .ref b :: st) :=
  j_cV_I (n := 2) (As := [.int y0, .int y1]) C co_X7 rfl wd_1286 wd_1287 h.1 (c0_X7_player l E M b y0 y1 P h.2) ⟨wd_1288, wd_1285, wd_40, by decide +kernel, by decide +kernel, by decide +kernel⟩ rfl rfl hR hf rfl hst d kk
theorem c2_L_188 (C : Cx p l s m args meth c cc nL RL ret E) {b : Nat} {y0 : Int32} {P : Int32 → Mm → Prop} (hR : rm_X8_twiceOf.frames + 1 ≤ R.frames ∧ 8 + (6 + 11) + rm_X8_twiceOf.locals ≤ R.locals) (hf : kc ≤ R.cells ∧ ks ≤ R.slots) (hst : (st.map fun v => v.category).sum ≤ 8) (d : decode cc pc = .ok (.invokevirtual 188, 3)) (h : zk M b = 8 ∧ w_X8_twiceOf M b y0 P) (kk : ∀ r M', P r M' → J p l e R s m args below meth c Q E nL M' kc ks (pc + 3) lo (.int r :: st)) : J p l e R s m args below meth c Q E nL M kc ks pc lo (.int y0 :: .ref b :: st) :=
  j_cV_I (n := 1) (As := [.int y0]) C co_X8 rfl wd_1308 wd_1309 h.1 (c_X8_twiceOf l E M b y0 P h.2) ⟨wd_1310, wd_1307, wd_49, by decide +kernel, by decide +kernel, by decide +kernel⟩ rfl rfl hR hf rfl hst d kk
theorem c2_L_191 (C : Cx p l s m args meth c cc nL RL ret E) {b : Nat} {y0 : Int32} {y1 : Int32} {P : Int32 → Mm → Prop} (hR : rm0_X7_work.frames + 1 ≤ R.frames ∧ 8 + (3 + 11) + rm0_X7_work.locals ≤ R.locals) (hf : kc ≤ R.cells ∧ ks ≤ R.slots) (hst : (st.map fun v => v.category).sum ≤ 8) (d : decode cc pc = .ok (.invokevirtual 191, 3)) (h : zk M b = 7 ∧ w_X7_work M b y0 y1 P (fun _ _ => False)) (kk : ∀ r M', P r M' → J p l e R s m args below meth c Q E nL M' kc ks (pc + 3) lo (.int r :: st)) : J p l e R s m args below meth c Q E nL M kc ks pc lo (.int y1 :: .int y0 :: .ref b :: st) :=
  j_cV_I (n := 2) (As := [.int y0, .int y1]) C co_X7 rfl wd_1312 wd_1313 h.1 (c0_X7_work l E M b y0 y1 P h.2) ⟨wd_1314, wd_1311, wd_40, by decide +kernel, by decide +kernel, by decide +kernel⟩ rfl rfl hR hf rfl hst d kk
theorem c2_L_194 (C : Cx p l s m args meth c cc nL RL ret E) {b : Nat} {y0 : Int32} {P : Int32 → Mm → Prop} (hR : rm_X8_rent.frames + 1 ≤ R.frames ∧ 8 + (5 + 11) + rm_X8_rent.locals ≤ R.locals) (hf : kc ≤ R.cells ∧ ks ≤ R.slots) (hst : (st.map fun v => v.category).sum ≤ 8) (d : decode cc pc = .ok (.invokevirtual 194, 3)) (h : zk M b = 8 ∧ w_X8_rent M b y0 P) (kk : ∀ r M', P r M' → J p l e R s m args below meth c Q E nL M' kc ks (pc + 3) lo (.int r :: st)) : J p l e R s m args below meth c Q E nL M kc ks pc lo (.int y0 :: .ref b :: st) :=
  j_cV_I (n := 1) (As := [.int y0]) C co_X8 rfl wd_1319 wd_1320 h.1 (c_X8_rent l E M b y0 P h.2) ⟨wd_1321, wd_1318, wd_49, by decide +kernel, by decide +kernel, by decide +kernel⟩ rfl rfl hR hf rfl hst d kk
theorem c2_L_197 (C : Cx p l s m args meth c cc nL RL ret E) {b : Nat} {y0 : Int32} {y1 : Int32} {y2 : Int32} {P : Int32 → Mm → Prop} (hR : rm_X8_rehearsals.frames + 1 ≤ R.frames ∧ 8 + (6 + 11) + rm_X8_rehearsals.locals ≤ R.locals) (hf : kc ≤ R.cells ∧ ks ≤ R.slots) (hst : (st.map fun v => v.category).sum ≤ 8) (d : decode cc pc = .ok (.invokevirtual 197, 3)) (h : zk M b = 8 ∧ w_X8_rehearsals M b y0 y1 y2 P) (kk : ∀ r M', P r M' → J p l e R s m args below meth c Q E nL M' kc ks (pc + 3) lo (.int r :: st)) : J p l e R s m args below meth c Q E nL M kc ks pc lo (.int y2 :: .int y1 :: .int y0 :: .ref b :: st) :=
  j_cV_I (n := 3) (As := [.int y0, .int y1, .int y2]) C co_X8 rfl wd_989 wd_990 h.1 (c_X8_rehearsals l E M b y0 y1 y2 P h.2) ⟨wd_991, wd_1324, wd_49, by decide +kernel, by decide +kernel, by decide +kernel⟩ rfl rfl hR hf rfl hst d kk
theorem c2_L_200 (C : Cx p l s m args meth c cc nL RL ret E) {b : Nat} {y0 : Int32} {P : Int32 → Mm → Prop} (hR : rm0_X7_costs.frames + 1 ≤ R.frames ∧ 8 + (2 + 11) + rm0_X7_costs.locals ≤ R.locals) (hf : kc ≤ R.cells ∧ ks ≤ R.slots) (hst : (st.map fun v => v.category).sum ≤ 8) (d : decode cc pc = .ok (.invokevirtual 200, 3)) (h : zk M b = 7 ∧ w_X7_costs M b y0 P (fun _ _ => False)) (kk : ∀ r M', P r M' → J p l e R s m args below meth c Q E nL M' kc ks (pc + 3) lo (.int r :: st)) : J p l e R s m args below meth c Q E nL M kc ks pc lo (.int y0 :: .ref b :: st) :=
  j_cV_I (n := 1) (As := [.int y0]) C co_X7 rfl wd_1326 wd_1327 h.1 (c0_X7_costs l E M b y0 P h.2) ⟨wd_1328, wd_1325, wd_40, by decide +kernel, by decide +kernel, by decide +kernel⟩ rfl rfl hR hf rfl hst d kk
theorem c2_L_203 (C : Cx p l s m args meth c cc nL RL ret E) {b : Nat} {y0 : Int32} {P : Int32 → Mm → Prop} (hR : rm_X8_costs.frames + 1 ≤ R.frames ∧ 8 + (4 + 11) + rm_X8_costs.locals ≤ R.locals) (hf : kc ≤ R.cells ∧ ks ≤ R.slots) (hst : (st.map fun v => v.category).sum ≤ 8) (d : decode cc pc = .ok (.invokevirtual 203, 3)) (h : zk M b = 8 ∧ w_X8_costs M b y0 P) (kk : ∀ r M', P r M' → J p l e R s m args below meth c Q E nL M' kc ks (pc + 3) lo (.int r :: st)) : J p l e R s m args below meth c Q E nL M kc ks pc lo (.int y0 :: .ref b :: st) :=
  j_cV_I (n := 1) (As := [.int y0]) C co_X8 rfl wd_1345 wd_1346 h.1 (c_X8_costs l E M b y0 P h.2) ⟨wd_1347, wd_1344, wd_49, by decide +kernel, by decide +kernel, by decide +kernel⟩ rfl rfl hR hf rfl hst d kk
theorem c2_L_204 (C : Cx p l s m args meth c cc nL RL ret E) {b : Nat} {y0 : Int32} {y1 : Int32} {P : Int32 → Mm → Prop} (hR : rm0_X7_isFree.frames + 1 ≤ R.frames ∧ 8 + (3 + 11) + rm0_X7_isFree.locals ≤ R.locals) (hf : kc ≤ R.cells ∧ ks ≤ R.slots) (hst : (st.map fun v => v.category).sum ≤ 8) (d : decode cc pc = .ok (.invokevirtual 204, 3)) (h : zk M b = 7 ∧ w_X7_isFree M b y0 y1 P (fun _ _ => False)) (kk : ∀ r M', P r M' → J p l e R s m args below meth c Q E nL M' kc ks (pc + 3) lo (.int r :: st)) : J p l e R s m args below meth c Q E nL M kc ks pc lo (.int y1 :: .int y0 :: .ref b :: st) :=
  j_cV_I (n := 2) (As := [.int y0, .int y1]) C co_X7 rfl wd_1352 wd_1353 h.1 (c0_X7_isFree l E M b y0 y1 P h.2) ⟨wd_1354, wd_1351, wd_40, by decide +kernel, by decide +kernel, by decide +kernel⟩ rfl rfl hR hf rfl hst d kk
theorem c2_L_208 (C : Cx p l s m args meth c cc nL RL ret E) {b : Nat} {y0 : Int32} {y1 : Int32} {y2 : Int32} {P : Int32 → Mm → Prop} (hR : rm_X8_isFree.frames + 1 ≤ R.frames ∧ 8 + (5 + 11) + rm_X8_isFree.locals ≤ R.locals) (hf : kc ≤ R.cells ∧ ks ≤ R.slots) (hst : (st.map fun v => v.category).sum ≤ 8) (d : decode cc pc = .ok (.invokevirtual 208, 3)) (h : zk M b = 8 ∧ w_X8_isFree M b y0 y1 y2 P) (kk : ∀ r M', P r M' → J p l e R s m args below meth c Q E nL M' kc ks (pc + 3) lo (.int r :: st)) : J p l e R s m args below meth c Q E nL M kc ks pc lo (.int y2 :: .int y1 :: .int y0 :: .ref b :: st) :=
  j_cV_I (n := 3) (As := [.int y0, .int y1, .int y2]) C co_X8 rfl wd_1076 wd_1077 h.1 (c_X8_isFree l E M b y0 y1 y2 P h.2) ⟨wd_1078, wd_1355, wd_49, by decide +kernel, by decide +kernel, by decide +kernel⟩ rfl rfl hR hf rfl hst d kk
theorem c2_L_211 (C : Cx p l s m args meth c cc nL RL ret E) {b : Nat} {P : Int32 → Mm → Prop} (hR : rm_X7_busiest.frames + 1 ≤ R.frames ∧ 8 + (5 + 11) + rm_X7_busiest.locals ≤ R.locals) (hf : kc ≤ R.cells ∧ ks ≤ R.slots) (hst : (st.map fun v => v.category).sum ≤ 8) (d : decode cc pc = .ok (.invokevirtual 211, 3)) (h : zk M b = 7 ∧ w_X7_busiest M b P) (kk : ∀ r M', P r M' → J p l e R s m args below meth c Q E nL M' kc ks (pc + 3) lo (.int r :: st)) : J p l e R s m args below meth c Q E nL M kc ks pc lo (.ref b :: st) :=
  j_cV_I (n := 0) (As := []) C co_X7 rfl wd_1357 wd_1358 h.1 (c_X7_busiest l E M b P h.2) ⟨wd_1359, wd_1356, wd_40, by decide +kernel, by decide +kernel, by decide +kernel⟩ rfl rfl hR hf rfl hst d kk
theorem c2_L_214 (C : Cx p l s m args meth c cc nL RL ret E) {b : Nat} {P : Int32 → Mm → Prop} (hR : rm_X7_isBalanced.frames + 1 ≤ R.frames ∧ 8 + (2 + 11) + rm_X7_isBalanced.locals ≤ R.locals) (hf : kc ≤ R.cells ∧ ks ≤ R.slots) (hst : (st.map fun v => v.category).sum ≤ 8) (d : decode cc pc = .ok (.invokevirtual 214, 3)) (h : zk M b = 7 ∧ w_X7_isBalanced M b P) (kk : ∀ r M', P r M' → J p l e R s m args below meth c Q E nL M' kc ks (pc + 3) lo (.int r :: st)) : J p l e R s m args below meth c Q E nL M kc ks pc lo (.ref b :: st) :=
  j_cV_I (n := 0) (As := []) C co_X7 rfl wd_1361 wd_1362 h.1 (c_X7_isBalanced l E M b P h.2) ⟨wd_1363, wd_1360, wd_40, by decide +kernel, by decide +kernel, by decide +kernel⟩ rfl rfl hR hf rfl hst d kk
abbrev rm_L_players : Room := { frames := 7, cells := 0, slots := 0, locals := 159 }
def l_L_players_8 (P : Int32 → Mm → Prop) (K162 : Mm → Prop) (K170 : Mm → Nat → Nat → Nat → Int32 → Int32 → Prop) : Nat → Mm → Nat → Nat → Nat → Int32 → Int32 → Int32 → Prop
  | 0, _, _, _, _, _, _, _ => False
  | n + 1, M, x0, x1, x2, x3, x4, x5 => zk M x1 = 8 ∧ (if (zI M x1 2) ≤ x5 then K170 M x0 x1 x2 x3 x4 else zk M x1 = 8 ∧ w_X8_count M x1 x5 (fun r2 M2 => (zk M2 x1 = 8 ∧ ∃ a3, zR M2 x1 9 = some a3 ∧ zk M2 a3 = 10 ∧ vp_in x5 (zl M2 a3) ∧ (if x4 = 0 then zk M2 x1 = 8 ∧ w_X8_count M2 x1 x3 (fun r4 M4 => (zk M4 x1 = 8 ∧ ∃ a5, zR M4 x1 9 = some a5 ∧ zk M4 a5 = 10 ∧ vp_in x3 (zl M4 a5) ∧ (if (r2 - (zI M2 a3 x5.toNatClampNeg)) ≤ (r4 - (zI M4 a5 x3.toNatClampNeg)) then zk M4 x0 = 7 ∧ w_X7_player M4 x0 x5 (0 : Int32) (fun r6 M6 => (zk M6 x1 = 8 ∧ ∃ a7, zR M6 x1 9 = some a7 ∧ zk M6 a7 = 10 ∧ vp_in x5 (zl M6 a7) ∧ (if r6 = (zI M6 a7 x5.toNatClampNeg) then zk M6 x0 = 7 ∧ w_X7_player M6 x0 x5 (4 : Int32) (fun r8 M8 => (if r8 = r2 then zk M8 x0 = 7 ∧ w_X7_player M8 x0 x5 (5 : Int32) (fun r9 M9 => zk M9 x1 = 8 ∧ w_X8_twiceOf M9 x1 x5 (fun r10 M10 => (if r9 = r10 then zk M10 x0 = 7 ∧ w_X7_player M10 x0 x5 (6 : Int32) (fun r11 M11 => (if r11 = (if (0 : Int32) < (-(r2 - (zI M2 a3 x5.toNatClampNeg))) then (-(r2 - (zI M2 a3 x5.toNatClampNeg))) else (0 : Int32)) then zk M11 x0 = 7 ∧ w_X7_player M11 x0 x5 (7 : Int32) (fun r12 M12 => (zk M12 x1 = 8 ∧ ∃ a13, zR M12 x1 8 = some a13 ∧ zk M12 a13 = 10 ∧ vp_in x5 (zl M12 a13) ∧ (if r12 = ((if (0 : Int32) < (r2 - (zI M2 a3 x5.toNatClampNeg)) then (r2 - (zI M2 a3 x5.toNatClampNeg)) else (0 : Int32)) * (zI M12 a13 x5.toNatClampNeg)) then l_L_players_8 P K162 K170 n M12 x0 x1 x2 x3 (0 : Int32) (x5 + (1 : Int32)) else K162 M12))) (fun _ _ => False) else K162 M11)) (fun _ _ => False) else K162 M10))) (fun _ _ => False) else K162 M8)) (fun _ _ => False) else K162 M6))) (fun _ _ => False) else zk M4 x0 = 7 ∧ w_X7_player M4 x0 x5 (0 : Int32) (fun r14 M14 => (zk M14 x1 = 8 ∧ ∃ a15, zR M14 x1 9 = some a15 ∧ zk M14 a15 = 10 ∧ vp_in x5 (zl M14 a15) ∧ (if r14 = (zI M14 a15 x5.toNatClampNeg) then zk M14 x0 = 7 ∧ w_X7_player M14 x0 x5 (4 : Int32) (fun r16 M16 => (if r16 = r2 then zk M16 x0 = 7 ∧ w_X7_player M16 x0 x5 (5 : Int32) (fun r17 M17 => zk M17 x1 = 8 ∧ w_X8_twiceOf M17 x1 x5 (fun r18 M18 => (if r17 = r18 then zk M18 x0 = 7 ∧ w_X7_player M18 x0 x5 (6 : Int32) (fun r19 M19 => (if r19 = (if (0 : Int32) < (-(r2 - (zI M2 a3 x5.toNatClampNeg))) then (-(r2 - (zI M2 a3 x5.toNatClampNeg))) else (0 : Int32)) then zk M19 x0 = 7 ∧ w_X7_player M19 x0 x5 (7 : Int32) (fun r20 M20 => (zk M20 x1 = 8 ∧ ∃ a21, zR M20 x1 8 = some a21 ∧ zk M20 a21 = 10 ∧ vp_in x5 (zl M20 a21) ∧ (if r20 = ((if (0 : Int32) < (r2 - (zI M2 a3 x5.toNatClampNeg)) then (r2 - (zI M2 a3 x5.toNatClampNeg)) else (0 : Int32)) * (zI M20 a21 x5.toNatClampNeg)) then l_L_players_8 P K162 K170 n M20 x0 x1 x2 x5 (0 : Int32) (x5 + (1 : Int32)) else K162 M20))) (fun _ _ => False) else K162 M19)) (fun _ _ => False) else K162 M18))) (fun _ _ => False) else K162 M16)) (fun _ _ => False) else K162 M14))) (fun _ _ => False)))) else (if (r2 - (zI M2 a3 x5.toNatClampNeg)) = 0 then zk M2 x1 = 8 ∧ w_X8_count M2 x1 x3 (fun r40 M40 => (zk M40 x1 = 8 ∧ ∃ a41, zR M40 x1 9 = some a41 ∧ zk M40 a41 = 10 ∧ vp_in x3 (zl M40 a41) ∧ (if (r2 - (zI M2 a3 x5.toNatClampNeg)) ≤ (r40 - (zI M40 a41 x3.toNatClampNeg)) then zk M40 x0 = 7 ∧ w_X7_player M40 x0 x5 (0 : Int32) (fun r42 M42 => (zk M42 x1 = 8 ∧ ∃ a43, zR M42 x1 9 = some a43 ∧ zk M42 a43 = 10 ∧ vp_in x5 (zl M42 a43) ∧ (if r42 = (zI M42 a43 x5.toNatClampNeg) then zk M42 x0 = 7 ∧ w_X7_player M42 x0 x5 (4 : Int32) (fun r44 M44 => (if r44 = r2 then zk M44 x0 = 7 ∧ w_X7_player M44 x0 x5 (5 : Int32) (fun r45 M45 => zk M45 x1 = 8 ∧ w_X8_twiceOf M45 x1 x5 (fun r46 M46 => (if r45 = r46 then zk M46 x0 = 7 ∧ w_X7_player M46 x0 x5 (6 : Int32) (fun r47 M47 => (if r47 = (if (0 : Int32) < (-(r2 - (zI M2 a3 x5.toNatClampNeg))) then (-(r2 - (zI M2 a3 x5.toNatClampNeg))) else (0 : Int32)) then zk M47 x0 = 7 ∧ w_X7_player M47 x0 x5 (7 : Int32) (fun r48 M48 => (zk M48 x1 = 8 ∧ ∃ a49, zR M48 x1 8 = some a49 ∧ zk M48 a49 = 10 ∧ vp_in x5 (zl M48 a49) ∧ (if r48 = ((if (0 : Int32) < (r2 - (zI M2 a3 x5.toNatClampNeg)) then (r2 - (zI M2 a3 x5.toNatClampNeg)) else (0 : Int32)) * (zI M48 a49 x5.toNatClampNeg)) then l_L_players_8 P K162 K170 n M48 x0 x1 x2 x3 (1 : Int32) (x5 + (1 : Int32)) else K162 M48))) (fun _ _ => False) else K162 M47)) (fun _ _ => False) else K162 M46))) (fun _ _ => False) else K162 M44)) (fun _ _ => False) else K162 M42))) (fun _ _ => False) else zk M40 x0 = 7 ∧ w_X7_player M40 x0 x5 (0 : Int32) (fun r50 M50 => (zk M50 x1 = 8 ∧ ∃ a51, zR M50 x1 9 = some a51 ∧ zk M50 a51 = 10 ∧ vp_in x5 (zl M50 a51) ∧ (if r50 = (zI M50 a51 x5.toNatClampNeg) then zk M50 x0 = 7 ∧ w_X7_player M50 x0 x5 (4 : Int32) (fun r52 M52 => (if r52 = r2 then zk M52 x0 = 7 ∧ w_X7_player M52 x0 x5 (5 : Int32) (fun r53 M53 => zk M53 x1 = 8 ∧ w_X8_twiceOf M53 x1 x5 (fun r54 M54 => (if r53 = r54 then zk M54 x0 = 7 ∧ w_X7_player M54 x0 x5 (6 : Int32) (fun r55 M55 => (if r55 = (if (0 : Int32) < (-(r2 - (zI M2 a3 x5.toNatClampNeg))) then (-(r2 - (zI M2 a3 x5.toNatClampNeg))) else (0 : Int32)) then zk M55 x0 = 7 ∧ w_X7_player M55 x0 x5 (7 : Int32) (fun r56 M56 => (zk M56 x1 = 8 ∧ ∃ a57, zR M56 x1 8 = some a57 ∧ zk M56 a57 = 10 ∧ vp_in x5 (zl M56 a57) ∧ (if r56 = ((if (0 : Int32) < (r2 - (zI M2 a3 x5.toNatClampNeg)) then (r2 - (zI M2 a3 x5.toNatClampNeg)) else (0 : Int32)) * (zI M56 a57 x5.toNatClampNeg)) then l_L_players_8 P K162 K170 n M56 x0 x1 x2 x5 (1 : Int32) (x5 + (1 : Int32)) else K162 M56))) (fun _ _ => False) else K162 M55)) (fun _ _ => False) else K162 M54))) (fun _ _ => False) else K162 M52)) (fun _ _ => False) else K162 M50))) (fun _ _ => False)))) else zk M2 x1 = 8 ∧ w_X8_count M2 x1 x3 (fun r22 M22 => (zk M22 x1 = 8 ∧ ∃ a23, zR M22 x1 9 = some a23 ∧ zk M22 a23 = 10 ∧ vp_in x3 (zl M22 a23) ∧ (if (r2 - (zI M2 a3 x5.toNatClampNeg)) ≤ (r22 - (zI M22 a23 x3.toNatClampNeg)) then zk M22 x0 = 7 ∧ w_X7_player M22 x0 x5 (0 : Int32) (fun r24 M24 => (zk M24 x1 = 8 ∧ ∃ a25, zR M24 x1 9 = some a25 ∧ zk M24 a25 = 10 ∧ vp_in x5 (zl M24 a25) ∧ (if r24 = (zI M24 a25 x5.toNatClampNeg) then zk M24 x0 = 7 ∧ w_X7_player M24 x0 x5 (4 : Int32) (fun r26 M26 => (if r26 = r2 then zk M26 x0 = 7 ∧ w_X7_player M26 x0 x5 (5 : Int32) (fun r27 M27 => zk M27 x1 = 8 ∧ w_X8_twiceOf M27 x1 x5 (fun r28 M28 => (if r27 = r28 then zk M28 x0 = 7 ∧ w_X7_player M28 x0 x5 (6 : Int32) (fun r29 M29 => (if r29 = (if (0 : Int32) < (-(r2 - (zI M2 a3 x5.toNatClampNeg))) then (-(r2 - (zI M2 a3 x5.toNatClampNeg))) else (0 : Int32)) then zk M29 x0 = 7 ∧ w_X7_player M29 x0 x5 (7 : Int32) (fun r30 M30 => (zk M30 x1 = 8 ∧ ∃ a31, zR M30 x1 8 = some a31 ∧ zk M30 a31 = 10 ∧ vp_in x5 (zl M30 a31) ∧ (if r30 = ((if (0 : Int32) < (r2 - (zI M2 a3 x5.toNatClampNeg)) then (r2 - (zI M2 a3 x5.toNatClampNeg)) else (0 : Int32)) * (zI M30 a31 x5.toNatClampNeg)) then l_L_players_8 P K162 K170 n M30 x0 x1 x2 x3 (0 : Int32) (x5 + (1 : Int32)) else K162 M30))) (fun _ _ => False) else K162 M29)) (fun _ _ => False) else K162 M28))) (fun _ _ => False) else K162 M26)) (fun _ _ => False) else K162 M24))) (fun _ _ => False) else zk M22 x0 = 7 ∧ w_X7_player M22 x0 x5 (0 : Int32) (fun r32 M32 => (zk M32 x1 = 8 ∧ ∃ a33, zR M32 x1 9 = some a33 ∧ zk M32 a33 = 10 ∧ vp_in x5 (zl M32 a33) ∧ (if r32 = (zI M32 a33 x5.toNatClampNeg) then zk M32 x0 = 7 ∧ w_X7_player M32 x0 x5 (4 : Int32) (fun r34 M34 => (if r34 = r2 then zk M34 x0 = 7 ∧ w_X7_player M34 x0 x5 (5 : Int32) (fun r35 M35 => zk M35 x1 = 8 ∧ w_X8_twiceOf M35 x1 x5 (fun r36 M36 => (if r35 = r36 then zk M36 x0 = 7 ∧ w_X7_player M36 x0 x5 (6 : Int32) (fun r37 M37 => (if r37 = (if (0 : Int32) < (-(r2 - (zI M2 a3 x5.toNatClampNeg))) then (-(r2 - (zI M2 a3 x5.toNatClampNeg))) else (0 : Int32)) then zk M37 x0 = 7 ∧ w_X7_player M37 x0 x5 (7 : Int32) (fun r38 M38 => (zk M38 x1 = 8 ∧ ∃ a39, zR M38 x1 8 = some a39 ∧ zk M38 a39 = 10 ∧ vp_in x5 (zl M38 a39) ∧ (if r38 = ((if (0 : Int32) < (r2 - (zI M2 a3 x5.toNatClampNeg)) then (r2 - (zI M2 a3 x5.toNatClampNeg)) else (0 : Int32)) * (zI M38 a39 x5.toNatClampNeg)) then l_L_players_8 P K162 K170 n M38 x0 x1 x2 x5 (0 : Int32) (x5 + (1 : Int32)) else K162 M38))) (fun _ _ => False) else K162 M37)) (fun _ _ => False) else K162 M36))) (fun _ _ => False) else K162 M34)) (fun _ _ => False) else K162 M32))) (fun _ _ => False)))))))))
set_option maxHeartbeats 4000000 in
set_option maxRecDepth 100000 in
theorem jl_L_players_8 {P : Int32 → Mm → Prop} {K162 : Mm → Prop} {K170 : Mm → Nat → Nat → Nat → Int32 → Int32 → Prop} (C : Cx p l s m args meth c cL_players 8 RL (some .boolean) E) (hkc : kc ≤ rm_L_players.cells ∧ ks ≤ rm_L_players.slots) (k162 : ∀ M, K162 M → J p l e rm_L_players s m args below meth c (QI below E P args s rm_L_players.cells rm_L_players.slots) E 8 M kc ks 162 [] []) (k170 : ∀ M x0 x1 x2 x3 x4, K170 M x0 x1 x2 x3 x4 → J p l e rm_L_players s m args below meth c (QI below E P args s rm_L_players.cells rm_L_players.slots) E 8 M kc ks 170 [(0, .ref x0), (1, .ref x1), (2, .ref x2), (3, .int x3), (4, .int x4)] []) : ∀ n M x0 x1 x2 x3 x4 x5, l_L_players_8 P K162 K170 n M x0 x1 x2 x3 x4 x5 → J p l e rm_L_players s m args below meth c (QI below E P args s rm_L_players.cells rm_L_players.slots) E 8 M kc ks 8 [(0, .ref x0), (1, .ref x1), (2, .ref x2), (3, .int x3), (4, .int x4), (5, .int x5)] [] := by
  intro n
  induction n with
  | zero => intro M x0 x1 x2 x3 x4 x5 h; exact h.elim
  | succ n ih =>
    intro M x0 x1 x2 x3 x4 x5 h
    rw [l_L_players_8] at h
    refine j_iload (pc := 8) C 5 dL_players_8 rfl ?_
    refine j_aload_n (pc := 10) C 1 dL_players_10 rfl ?_
    refine gf_L_73 (pc := 11) C dL_players_11 h (fun h => ?_)
    refine j_icmp_ge (pc := 14) C 170 dL_players_14 (by decide) h (fun h => ?_) (fun h => ?_)
    · exact j_weak [0, 1, 2, 3, 4] rfl (k170 _ _ _ _ _ _ h)
    · refine j_aload_n (pc := 17) C 1 dL_players_17 rfl ?_
      refine j_iload (pc := 18) C 5 dL_players_18 rfl ?_
      refine c2_L_182 (pc := 20) C ⟨(Nat.le_of_ble_eq_true rfl), (Nat.le_of_ble_eq_true rfl)⟩ hkc (Nat.le_of_ble_eq_true rfl) dL_players_20 h (fun r2 M2 h => ?_)
      refine j_istore (pc := 23) C [(6, _), (0, _), (1, _), (2, _), (3, _), (4, _), (5, _)] dL_players_23 (by decide) rfl ?_
      refine j_iload (pc := 25) C 0 dL_players_25 rfl ?_
      refine j_aload_n (pc := 27) C 2 dL_players_27 rfl ?_
      refine gf_L_76 (pc := 28) C dL_players_28 h (fun a3 h => ?_)
      refine j_iload (pc := 31) C 6 dL_players_31 rfl ?_
      refine j_iald (pc := 33) C dL_players_33 h (fun h => ?_)
      refine j_isub (pc := 34) C dL_players_34 ?_
      refine j_istore (pc := 35) C [(7, _), (6, _), (0, _), (1, _), (2, _), (3, _), (4, _), (5, _)] dL_players_35 (by decide) rfl ?_
      refine j_iload (pc := 37) C 6 dL_players_37 rfl ?_
      refine j_if_eq (pc := 39) C 51 dL_players_39 (by decide) h (fun h => ?_) (fun h => ?_)
      · refine j_iconst (pc := 51) (v := (0 : Int32)) C dL_players_51 rfl ?_
        refine j_istore (pc := 52) C [(4, _), (7, _), (6, _), (0, _), (1, _), (2, _), (3, _), (5, _)] dL_players_52 (by decide) rfl ?_
        refine j_iload (pc := 54) C 1 dL_players_54 rfl ?_
        refine j_aload_n (pc := 56) C 4 dL_players_56 rfl ?_
        refine j_iload_n (pc := 57) C 6 dL_players_57 rfl ?_
        refine c2_L_182 (pc := 58) C ⟨(Nat.le_of_ble_eq_true rfl), (Nat.le_of_ble_eq_true rfl)⟩ hkc (Nat.le_of_ble_eq_true rfl) dL_players_58 h (fun r4 M4 h => ?_)
        refine j_aload_n (pc := 61) C 4 dL_players_61 rfl ?_
        refine gf_L_76 (pc := 62) C dL_players_62 h (fun a5 h => ?_)
        refine j_iload_n (pc := 65) C 6 dL_players_65 rfl ?_
        refine j_iald (pc := 66) C dL_players_66 h (fun h => ?_)
        refine j_isub (pc := 67) C dL_players_67 ?_
        refine j_icmp_le (pc := 68) C 74 dL_players_68 (by decide) h (fun h => ?_) (fun h => ?_)
        · refine j_aload_n (pc := 74) C 3 dL_players_74 rfl ?_
          refine j_iload (pc := 75) C 7 dL_players_75 rfl ?_
          refine j_iconst (pc := 77) (v := (0 : Int32)) C dL_players_77 rfl ?_
          refine c2_L_185 (pc := 78) C ⟨(Nat.le_of_ble_eq_true rfl), (Nat.le_of_ble_eq_true rfl)⟩ hkc (Nat.le_of_ble_eq_true rfl) dL_players_78 h (fun r6 M6 h => ?_)
          refine j_aload_n (pc := 81) C 4 dL_players_81 rfl ?_
          refine gf_L_76 (pc := 82) C dL_players_82 h (fun a7 h => ?_)
          refine j_iload (pc := 85) C 7 dL_players_85 rfl ?_
          refine j_iald (pc := 87) C dL_players_87 h (fun h => ?_)
          refine j_icmp_ne (pc := 88) C 162 dL_players_88 (by decide) h (fun h => ?_) (fun h => ?_)
          · exact j_weak [] rfl (k162 _ h)
          · refine j_aload_n (pc := 91) C 3 dL_players_91 rfl ?_
            refine j_iload (pc := 92) C 7 dL_players_92 rfl ?_
            refine j_iconst (pc := 94) (v := (4 : Int32)) C dL_players_94 rfl ?_
            refine c2_L_185 (pc := 95) C ⟨(Nat.le_of_ble_eq_true rfl), (Nat.le_of_ble_eq_true rfl)⟩ hkc (Nat.le_of_ble_eq_true rfl) dL_players_95 h (fun r8 M8 h => ?_)
            refine j_iload (pc := 98) C 2 dL_players_98 rfl ?_
            refine j_icmp_ne (pc := 100) C 162 dL_players_100 (by decide) h (fun h => ?_) (fun h => ?_)
            · exact j_weak [] rfl (k162 _ h)
            · refine j_aload_n (pc := 103) C 3 dL_players_103 rfl ?_
              refine j_iload (pc := 104) C 7 dL_players_104 rfl ?_
              refine j_iconst (pc := 106) (v := (5 : Int32)) C dL_players_106 rfl ?_
              refine c2_L_185 (pc := 107) C ⟨(Nat.le_of_ble_eq_true rfl), (Nat.le_of_ble_eq_true rfl)⟩ hkc (Nat.le_of_ble_eq_true rfl) dL_players_107 h (fun r9 M9 h => ?_)
              refine j_aload_n (pc := 110) C 4 dL_players_110 rfl ?_
              refine j_iload (pc := 111) C 7 dL_players_111 rfl ?_
              refine c2_L_188 (pc := 113) C ⟨(Nat.le_of_ble_eq_true rfl), (Nat.le_of_ble_eq_true rfl)⟩ hkc (Nat.le_of_ble_eq_true rfl) dL_players_113 h (fun r10 M10 h => ?_)
              refine j_icmp_ne (pc := 116) C 162 dL_players_116 (by decide) h (fun h => ?_) (fun h => ?_)
              · exact j_weak [] rfl (k162 _ h)
              · refine j_aload_n (pc := 119) C 3 dL_players_119 rfl ?_
                refine j_iload (pc := 120) C 7 dL_players_120 rfl ?_
                refine j_bipush (pc := 122) (v := (6 : Int32)) C dL_players_122 rfl ?_
                refine c2_L_185 (pc := 124) C ⟨(Nat.le_of_ble_eq_true rfl), (Nat.le_of_ble_eq_true rfl)⟩ hkc (Nat.le_of_ble_eq_true rfl) dL_players_124 h (fun r11 M11 h => ?_)
                refine j_iconst (pc := 127) (v := (0 : Int32)) C dL_players_127 rfl ?_
                refine j_iload (pc := 128) C 1 dL_players_128 rfl ?_
                refine j_ineg (pc := 130) C dL_players_130 ?_
                refine j_mmax (pc := 131) C wd_616 wd_439 wd_51 wd_440 dL_players_131 (Nat.le_of_ble_eq_true rfl) (Nat.le_of_ble_eq_true rfl) hkc ?_
                refine j_icmp_ne (pc := 134) C 162 dL_players_134 (by decide) h (fun h => ?_) (fun h => ?_)
                · exact j_weak [] rfl (k162 _ h)
                · refine j_aload_n (pc := 137) C 3 dL_players_137 rfl ?_
                  refine j_iload (pc := 138) C 7 dL_players_138 rfl ?_
                  refine j_bipush (pc := 140) (v := (7 : Int32)) C dL_players_140 rfl ?_
                  refine c2_L_185 (pc := 142) C ⟨(Nat.le_of_ble_eq_true rfl), (Nat.le_of_ble_eq_true rfl)⟩ hkc (Nat.le_of_ble_eq_true rfl) dL_players_142 h (fun r12 M12 h => ?_)
                  refine j_iconst (pc := 145) (v := (0 : Int32)) C dL_players_145 rfl ?_
                  refine j_iload (pc := 146) C 1 dL_players_146 rfl ?_
                  refine j_mmax (pc := 148) C wd_616 wd_439 wd_51 wd_440 dL_players_148 (Nat.le_of_ble_eq_true rfl) (Nat.le_of_ble_eq_true rfl) hkc ?_
                  refine j_aload_n (pc := 151) C 4 dL_players_151 rfl ?_
                  refine gf_L_79 (pc := 152) C dL_players_152 h (fun a13 h => ?_)
                  refine j_iload (pc := 155) C 7 dL_players_155 rfl ?_
                  refine j_iald (pc := 157) C dL_players_157 h (fun h => ?_)
                  refine j_imul (pc := 158) C dL_players_158 ?_
                  refine j_icmp_eq (pc := 159) C 164 dL_players_159 (by decide) h (fun h => ?_) (fun h => ?_)
                  · refine j_iinc (pc := 164) (v := (1 : Int32)) C 7 [(5, _), (4, _), (7, _), (6, _), (0, _), (1, _), (2, _), (3, _)] dL_players_164 rfl rfl (by decide) rfl ?_
                    refine j_goto (pc := 167) C 8 dL_players_167 (by decide) ?_
                    exact j_weak [4, 5, 6, 7, 1, 0] rfl (ih _ _ _ _ _ _ _ h)
                  · exact j_weak [] rfl (k162 _ h)
        · refine j_iload (pc := 71) C 7 dL_players_71 rfl ?_
          refine j_istore_n (pc := 73) C [(3, _), (4, _), (7, _), (6, _), (0, _), (1, _), (2, _), (5, _)] dL_players_73 (by decide) rfl ?_
          refine j_aload_n (pc := 74) C 4 dL_players_74 rfl ?_
          refine j_iload (pc := 75) C 7 dL_players_75 rfl ?_
          refine j_iconst (pc := 77) (v := (0 : Int32)) C dL_players_77 rfl ?_
          refine c2_L_185 (pc := 78) C ⟨(Nat.le_of_ble_eq_true rfl), (Nat.le_of_ble_eq_true rfl)⟩ hkc (Nat.le_of_ble_eq_true rfl) dL_players_78 h (fun r14 M14 h => ?_)
          refine j_aload_n (pc := 81) C 5 dL_players_81 rfl ?_
          refine gf_L_76 (pc := 82) C dL_players_82 h (fun a15 h => ?_)
          refine j_iload (pc := 85) C 7 dL_players_85 rfl ?_
          refine j_iald (pc := 87) C dL_players_87 h (fun h => ?_)
          refine j_icmp_ne (pc := 88) C 162 dL_players_88 (by decide) h (fun h => ?_) (fun h => ?_)
          · exact j_weak [] rfl (k162 _ h)
          · refine j_aload_n (pc := 91) C 4 dL_players_91 rfl ?_
            refine j_iload (pc := 92) C 7 dL_players_92 rfl ?_
            refine j_iconst (pc := 94) (v := (4 : Int32)) C dL_players_94 rfl ?_
            refine c2_L_185 (pc := 95) C ⟨(Nat.le_of_ble_eq_true rfl), (Nat.le_of_ble_eq_true rfl)⟩ hkc (Nat.le_of_ble_eq_true rfl) dL_players_95 h (fun r16 M16 h => ?_)
            refine j_iload (pc := 98) C 3 dL_players_98 rfl ?_
            refine j_icmp_ne (pc := 100) C 162 dL_players_100 (by decide) h (fun h => ?_) (fun h => ?_)
            · exact j_weak [] rfl (k162 _ h)
            · refine j_aload_n (pc := 103) C 4 dL_players_103 rfl ?_
              refine j_iload (pc := 104) C 7 dL_players_104 rfl ?_
              refine j_iconst (pc := 106) (v := (5 : Int32)) C dL_players_106 rfl ?_
              refine c2_L_185 (pc := 107) C ⟨(Nat.le_of_ble_eq_true rfl), (Nat.le_of_ble_eq_true rfl)⟩ hkc (Nat.le_of_ble_eq_true rfl) dL_players_107 h (fun r17 M17 h => ?_)
              refine j_aload_n (pc := 110) C 5 dL_players_110 rfl ?_
              refine j_iload (pc := 111) C 7 dL_players_111 rfl ?_
              refine c2_L_188 (pc := 113) C ⟨(Nat.le_of_ble_eq_true rfl), (Nat.le_of_ble_eq_true rfl)⟩ hkc (Nat.le_of_ble_eq_true rfl) dL_players_113 h (fun r18 M18 h => ?_)
              refine j_icmp_ne (pc := 116) C 162 dL_players_116 (by decide) h (fun h => ?_) (fun h => ?_)
              · exact j_weak [] rfl (k162 _ h)
              · refine j_aload_n (pc := 119) C 4 dL_players_119 rfl ?_
                refine j_iload (pc := 120) C 7 dL_players_120 rfl ?_
                refine j_bipush (pc := 122) (v := (6 : Int32)) C dL_players_122 rfl ?_
                refine c2_L_185 (pc := 124) C ⟨(Nat.le_of_ble_eq_true rfl), (Nat.le_of_ble_eq_true rfl)⟩ hkc (Nat.le_of_ble_eq_true rfl) dL_players_124 h (fun r19 M19 h => ?_)
                refine j_iconst (pc := 127) (v := (0 : Int32)) C dL_players_127 rfl ?_
                refine j_iload (pc := 128) C 2 dL_players_128 rfl ?_
                refine j_ineg (pc := 130) C dL_players_130 ?_
                refine j_mmax (pc := 131) C wd_616 wd_439 wd_51 wd_440 dL_players_131 (Nat.le_of_ble_eq_true rfl) (Nat.le_of_ble_eq_true rfl) hkc ?_
                refine j_icmp_ne (pc := 134) C 162 dL_players_134 (by decide) h (fun h => ?_) (fun h => ?_)
                · exact j_weak [] rfl (k162 _ h)
                · refine j_aload_n (pc := 137) C 4 dL_players_137 rfl ?_
                  refine j_iload (pc := 138) C 7 dL_players_138 rfl ?_
                  refine j_bipush (pc := 140) (v := (7 : Int32)) C dL_players_140 rfl ?_
                  refine c2_L_185 (pc := 142) C ⟨(Nat.le_of_ble_eq_true rfl), (Nat.le_of_ble_eq_true rfl)⟩ hkc (Nat.le_of_ble_eq_true rfl) dL_players_142 h (fun r20 M20 h => ?_)
                  refine j_iconst (pc := 145) (v := (0 : Int32)) C dL_players_145 rfl ?_
                  refine j_iload (pc := 146) C 2 dL_players_146 rfl ?_
                  refine j_mmax (pc := 148) C wd_616 wd_439 wd_51 wd_440 dL_players_148 (Nat.le_of_ble_eq_true rfl) (Nat.le_of_ble_eq_true rfl) hkc ?_
                  refine j_aload_n (pc := 151) C 5 dL_players_151 rfl ?_
                  refine gf_L_79 (pc := 152) C dL_players_152 h (fun a21 h => ?_)
                  refine j_iload (pc := 155) C 7 dL_players_155 rfl ?_
                  refine j_iald (pc := 157) C dL_players_157 h (fun h => ?_)
                  refine j_imul (pc := 158) C dL_players_158 ?_
                  refine j_icmp_eq (pc := 159) C 164 dL_players_159 (by decide) h (fun h => ?_) (fun h => ?_)
                  · refine j_iinc (pc := 164) (v := (1 : Int32)) C 7 [(5, _), (3, _), (4, _), (7, _), (6, _), (0, _), (1, _), (2, _)] dL_players_164 rfl rfl (by decide) rfl ?_
                    refine j_goto (pc := 167) C 8 dL_players_167 (by decide) ?_
                    exact j_weak [5, 6, 7, 1, 2, 0] rfl (ih _ _ _ _ _ _ _ h)
                  · exact j_weak [] rfl (k162 _ h)
      · refine j_iload (pc := 42) C 0 dL_players_42 rfl ?_
        refine j_if_ne (pc := 44) C 51 dL_players_44 (by decide) h (fun h => ?_) (fun h => ?_)
        · refine j_iconst (pc := 51) (v := (0 : Int32)) C dL_players_51 rfl ?_
          refine j_istore (pc := 52) C [(4, _), (7, _), (6, _), (0, _), (1, _), (2, _), (3, _), (5, _)] dL_players_52 (by decide) rfl ?_
          refine j_iload (pc := 54) C 1 dL_players_54 rfl ?_
          refine j_aload_n (pc := 56) C 4 dL_players_56 rfl ?_
          refine j_iload_n (pc := 57) C 6 dL_players_57 rfl ?_
          refine c2_L_182 (pc := 58) C ⟨(Nat.le_of_ble_eq_true rfl), (Nat.le_of_ble_eq_true rfl)⟩ hkc (Nat.le_of_ble_eq_true rfl) dL_players_58 h (fun r22 M22 h => ?_)
          refine j_aload_n (pc := 61) C 4 dL_players_61 rfl ?_
          refine gf_L_76 (pc := 62) C dL_players_62 h (fun a23 h => ?_)
          refine j_iload_n (pc := 65) C 6 dL_players_65 rfl ?_
          refine j_iald (pc := 66) C dL_players_66 h (fun h => ?_)
          refine j_isub (pc := 67) C dL_players_67 ?_
          refine j_icmp_le (pc := 68) C 74 dL_players_68 (by decide) h (fun h => ?_) (fun h => ?_)
          · refine j_aload_n (pc := 74) C 3 dL_players_74 rfl ?_
            refine j_iload (pc := 75) C 7 dL_players_75 rfl ?_
            refine j_iconst (pc := 77) (v := (0 : Int32)) C dL_players_77 rfl ?_
            refine c2_L_185 (pc := 78) C ⟨(Nat.le_of_ble_eq_true rfl), (Nat.le_of_ble_eq_true rfl)⟩ hkc (Nat.le_of_ble_eq_true rfl) dL_players_78 h (fun r24 M24 h => ?_)
            refine j_aload_n (pc := 81) C 4 dL_players_81 rfl ?_
            refine gf_L_76 (pc := 82) C dL_players_82 h (fun a25 h => ?_)
            refine j_iload (pc := 85) C 7 dL_players_85 rfl ?_
            refine j_iald (pc := 87) C dL_players_87 h (fun h => ?_)
            refine j_icmp_ne (pc := 88) C 162 dL_players_88 (by decide) h (fun h => ?_) (fun h => ?_)
            · exact j_weak [] rfl (k162 _ h)
            · refine j_aload_n (pc := 91) C 3 dL_players_91 rfl ?_
              refine j_iload (pc := 92) C 7 dL_players_92 rfl ?_
              refine j_iconst (pc := 94) (v := (4 : Int32)) C dL_players_94 rfl ?_
              refine c2_L_185 (pc := 95) C ⟨(Nat.le_of_ble_eq_true rfl), (Nat.le_of_ble_eq_true rfl)⟩ hkc (Nat.le_of_ble_eq_true rfl) dL_players_95 h (fun r26 M26 h => ?_)
              refine j_iload (pc := 98) C 2 dL_players_98 rfl ?_
              refine j_icmp_ne (pc := 100) C 162 dL_players_100 (by decide) h (fun h => ?_) (fun h => ?_)
              · exact j_weak [] rfl (k162 _ h)
              · refine j_aload_n (pc := 103) C 3 dL_players_103 rfl ?_
                refine j_iload (pc := 104) C 7 dL_players_104 rfl ?_
                refine j_iconst (pc := 106) (v := (5 : Int32)) C dL_players_106 rfl ?_
                refine c2_L_185 (pc := 107) C ⟨(Nat.le_of_ble_eq_true rfl), (Nat.le_of_ble_eq_true rfl)⟩ hkc (Nat.le_of_ble_eq_true rfl) dL_players_107 h (fun r27 M27 h => ?_)
                refine j_aload_n (pc := 110) C 4 dL_players_110 rfl ?_
                refine j_iload (pc := 111) C 7 dL_players_111 rfl ?_
                refine c2_L_188 (pc := 113) C ⟨(Nat.le_of_ble_eq_true rfl), (Nat.le_of_ble_eq_true rfl)⟩ hkc (Nat.le_of_ble_eq_true rfl) dL_players_113 h (fun r28 M28 h => ?_)
                refine j_icmp_ne (pc := 116) C 162 dL_players_116 (by decide) h (fun h => ?_) (fun h => ?_)
                · exact j_weak [] rfl (k162 _ h)
                · refine j_aload_n (pc := 119) C 3 dL_players_119 rfl ?_
                  refine j_iload (pc := 120) C 7 dL_players_120 rfl ?_
                  refine j_bipush (pc := 122) (v := (6 : Int32)) C dL_players_122 rfl ?_
                  refine c2_L_185 (pc := 124) C ⟨(Nat.le_of_ble_eq_true rfl), (Nat.le_of_ble_eq_true rfl)⟩ hkc (Nat.le_of_ble_eq_true rfl) dL_players_124 h (fun r29 M29 h => ?_)
                  refine j_iconst (pc := 127) (v := (0 : Int32)) C dL_players_127 rfl ?_
                  refine j_iload (pc := 128) C 1 dL_players_128 rfl ?_
                  refine j_ineg (pc := 130) C dL_players_130 ?_
                  refine j_mmax (pc := 131) C wd_616 wd_439 wd_51 wd_440 dL_players_131 (Nat.le_of_ble_eq_true rfl) (Nat.le_of_ble_eq_true rfl) hkc ?_
                  refine j_icmp_ne (pc := 134) C 162 dL_players_134 (by decide) h (fun h => ?_) (fun h => ?_)
                  · exact j_weak [] rfl (k162 _ h)
                  · refine j_aload_n (pc := 137) C 3 dL_players_137 rfl ?_
                    refine j_iload (pc := 138) C 7 dL_players_138 rfl ?_
                    refine j_bipush (pc := 140) (v := (7 : Int32)) C dL_players_140 rfl ?_
                    refine c2_L_185 (pc := 142) C ⟨(Nat.le_of_ble_eq_true rfl), (Nat.le_of_ble_eq_true rfl)⟩ hkc (Nat.le_of_ble_eq_true rfl) dL_players_142 h (fun r30 M30 h => ?_)
                    refine j_iconst (pc := 145) (v := (0 : Int32)) C dL_players_145 rfl ?_
                    refine j_iload (pc := 146) C 1 dL_players_146 rfl ?_
                    refine j_mmax (pc := 148) C wd_616 wd_439 wd_51 wd_440 dL_players_148 (Nat.le_of_ble_eq_true rfl) (Nat.le_of_ble_eq_true rfl) hkc ?_
                    refine j_aload_n (pc := 151) C 4 dL_players_151 rfl ?_
                    refine gf_L_79 (pc := 152) C dL_players_152 h (fun a31 h => ?_)
                    refine j_iload (pc := 155) C 7 dL_players_155 rfl ?_
                    refine j_iald (pc := 157) C dL_players_157 h (fun h => ?_)
                    refine j_imul (pc := 158) C dL_players_158 ?_
                    refine j_icmp_eq (pc := 159) C 164 dL_players_159 (by decide) h (fun h => ?_) (fun h => ?_)
                    · refine j_iinc (pc := 164) (v := (1 : Int32)) C 7 [(5, _), (4, _), (7, _), (6, _), (0, _), (1, _), (2, _), (3, _)] dL_players_164 rfl rfl (by decide) rfl ?_
                      refine j_goto (pc := 167) C 8 dL_players_167 (by decide) ?_
                      exact j_weak [4, 5, 6, 7, 1, 0] rfl (ih _ _ _ _ _ _ _ h)
                    · exact j_weak [] rfl (k162 _ h)
          · refine j_iload (pc := 71) C 7 dL_players_71 rfl ?_
            refine j_istore_n (pc := 73) C [(3, _), (4, _), (7, _), (6, _), (0, _), (1, _), (2, _), (5, _)] dL_players_73 (by decide) rfl ?_
            refine j_aload_n (pc := 74) C 4 dL_players_74 rfl ?_
            refine j_iload (pc := 75) C 7 dL_players_75 rfl ?_
            refine j_iconst (pc := 77) (v := (0 : Int32)) C dL_players_77 rfl ?_
            refine c2_L_185 (pc := 78) C ⟨(Nat.le_of_ble_eq_true rfl), (Nat.le_of_ble_eq_true rfl)⟩ hkc (Nat.le_of_ble_eq_true rfl) dL_players_78 h (fun r32 M32 h => ?_)
            refine j_aload_n (pc := 81) C 5 dL_players_81 rfl ?_
            refine gf_L_76 (pc := 82) C dL_players_82 h (fun a33 h => ?_)
            refine j_iload (pc := 85) C 7 dL_players_85 rfl ?_
            refine j_iald (pc := 87) C dL_players_87 h (fun h => ?_)
            refine j_icmp_ne (pc := 88) C 162 dL_players_88 (by decide) h (fun h => ?_) (fun h => ?_)
            · exact j_weak [] rfl (k162 _ h)
            · refine j_aload_n (pc := 91) C 4 dL_players_91 rfl ?_
              refine j_iload (pc := 92) C 7 dL_players_92 rfl ?_
              refine j_iconst (pc := 94) (v := (4 : Int32)) C dL_players_94 rfl ?_
              refine c2_L_185 (pc := 95) C ⟨(Nat.le_of_ble_eq_true rfl), (Nat.le_of_ble_eq_true rfl)⟩ hkc (Nat.le_of_ble_eq_true rfl) dL_players_95 h (fun r34 M34 h => ?_)
              refine j_iload (pc := 98) C 3 dL_players_98 rfl ?_
              refine j_icmp_ne (pc := 100) C 162 dL_players_100 (by decide) h (fun h => ?_) (fun h => ?_)
              · exact j_weak [] rfl (k162 _ h)
              · refine j_aload_n (pc := 103) C 4 dL_players_103 rfl ?_
                refine j_iload (pc := 104) C 7 dL_players_104 rfl ?_
                refine j_iconst (pc := 106) (v := (5 : Int32)) C dL_players_106 rfl ?_
                refine c2_L_185 (pc := 107) C ⟨(Nat.le_of_ble_eq_true rfl), (Nat.le_of_ble_eq_true rfl)⟩ hkc (Nat.le_of_ble_eq_true rfl) dL_players_107 h (fun r35 M35 h => ?_)
                refine j_aload_n (pc := 110) C 5 dL_players_110 rfl ?_
                refine j_iload (pc := 111) C 7 dL_players_111 rfl ?_
                refine c2_L_188 (pc := 113) C ⟨(Nat.le_of_ble_eq_true rfl), (Nat.le_of_ble_eq_true rfl)⟩ hkc (Nat.le_of_ble_eq_true rfl) dL_players_113 h (fun r36 M36 h => ?_)
                refine j_icmp_ne (pc := 116) C 162 dL_players_116 (by decide) h (fun h => ?_) (fun h => ?_)
                · exact j_weak [] rfl (k162 _ h)
                · refine j_aload_n (pc := 119) C 4 dL_players_119 rfl ?_
                  refine j_iload (pc := 120) C 7 dL_players_120 rfl ?_
                  refine j_bipush (pc := 122) (v := (6 : Int32)) C dL_players_122 rfl ?_
                  refine c2_L_185 (pc := 124) C ⟨(Nat.le_of_ble_eq_true rfl), (Nat.le_of_ble_eq_true rfl)⟩ hkc (Nat.le_of_ble_eq_true rfl) dL_players_124 h (fun r37 M37 h => ?_)
                  refine j_iconst (pc := 127) (v := (0 : Int32)) C dL_players_127 rfl ?_
                  refine j_iload (pc := 128) C 2 dL_players_128 rfl ?_
                  refine j_ineg (pc := 130) C dL_players_130 ?_
                  refine j_mmax (pc := 131) C wd_616 wd_439 wd_51 wd_440 dL_players_131 (Nat.le_of_ble_eq_true rfl) (Nat.le_of_ble_eq_true rfl) hkc ?_
                  refine j_icmp_ne (pc := 134) C 162 dL_players_134 (by decide) h (fun h => ?_) (fun h => ?_)
                  · exact j_weak [] rfl (k162 _ h)
                  · refine j_aload_n (pc := 137) C 4 dL_players_137 rfl ?_
                    refine j_iload (pc := 138) C 7 dL_players_138 rfl ?_
                    refine j_bipush (pc := 140) (v := (7 : Int32)) C dL_players_140 rfl ?_
                    refine c2_L_185 (pc := 142) C ⟨(Nat.le_of_ble_eq_true rfl), (Nat.le_of_ble_eq_true rfl)⟩ hkc (Nat.le_of_ble_eq_true rfl) dL_players_142 h (fun r38 M38 h => ?_)
                    refine j_iconst (pc := 145) (v := (0 : Int32)) C dL_players_145 rfl ?_
                    refine j_iload (pc := 146) C 2 dL_players_146 rfl ?_
                    refine j_mmax (pc := 148) C wd_616 wd_439 wd_51 wd_440 dL_players_148 (Nat.le_of_ble_eq_true rfl) (Nat.le_of_ble_eq_true rfl) hkc ?_
                    refine j_aload_n (pc := 151) C 5 dL_players_151 rfl ?_
                    refine gf_L_79 (pc := 152) C dL_players_152 h (fun a39 h => ?_)
                    refine j_iload (pc := 155) C 7 dL_players_155 rfl ?_
                    refine j_iald (pc := 157) C dL_players_157 h (fun h => ?_)
                    refine j_imul (pc := 158) C dL_players_158 ?_
                    refine j_icmp_eq (pc := 159) C 164 dL_players_159 (by decide) h (fun h => ?_) (fun h => ?_)
                    · refine j_iinc (pc := 164) (v := (1 : Int32)) C 7 [(5, _), (3, _), (4, _), (7, _), (6, _), (0, _), (1, _), (2, _)] dL_players_164 rfl rfl (by decide) rfl ?_
                      refine j_goto (pc := 167) C 8 dL_players_167 (by decide) ?_
                      exact j_weak [5, 6, 7, 1, 2, 0] rfl (ih _ _ _ _ _ _ _ h)
                    · exact j_weak [] rfl (k162 _ h)
        · refine j_iconst (pc := 47) (v := (1 : Int32)) C dL_players_47 rfl ?_
          refine j_goto (pc := 48) C 52 dL_players_48 (by decide) ?_
          refine j_istore (pc := 52) C [(4, _), (7, _), (6, _), (0, _), (1, _), (2, _), (3, _), (5, _)] dL_players_52 (by decide) rfl ?_
          refine j_iload (pc := 54) C 1 dL_players_54 rfl ?_
          refine j_aload_n (pc := 56) C 4 dL_players_56 rfl ?_
          refine j_iload_n (pc := 57) C 6 dL_players_57 rfl ?_
          refine c2_L_182 (pc := 58) C ⟨(Nat.le_of_ble_eq_true rfl), (Nat.le_of_ble_eq_true rfl)⟩ hkc (Nat.le_of_ble_eq_true rfl) dL_players_58 h (fun r40 M40 h => ?_)
          refine j_aload_n (pc := 61) C 4 dL_players_61 rfl ?_
          refine gf_L_76 (pc := 62) C dL_players_62 h (fun a41 h => ?_)
          refine j_iload_n (pc := 65) C 6 dL_players_65 rfl ?_
          refine j_iald (pc := 66) C dL_players_66 h (fun h => ?_)
          refine j_isub (pc := 67) C dL_players_67 ?_
          refine j_icmp_le (pc := 68) C 74 dL_players_68 (by decide) h (fun h => ?_) (fun h => ?_)
          · refine j_aload_n (pc := 74) C 3 dL_players_74 rfl ?_
            refine j_iload (pc := 75) C 7 dL_players_75 rfl ?_
            refine j_iconst (pc := 77) (v := (0 : Int32)) C dL_players_77 rfl ?_
            refine c2_L_185 (pc := 78) C ⟨(Nat.le_of_ble_eq_true rfl), (Nat.le_of_ble_eq_true rfl)⟩ hkc (Nat.le_of_ble_eq_true rfl) dL_players_78 h (fun r42 M42 h => ?_)
            refine j_aload_n (pc := 81) C 4 dL_players_81 rfl ?_
            refine gf_L_76 (pc := 82) C dL_players_82 h (fun a43 h => ?_)
            refine j_iload (pc := 85) C 7 dL_players_85 rfl ?_
            refine j_iald (pc := 87) C dL_players_87 h (fun h => ?_)
            refine j_icmp_ne (pc := 88) C 162 dL_players_88 (by decide) h (fun h => ?_) (fun h => ?_)
            · exact j_weak [] rfl (k162 _ h)
            · refine j_aload_n (pc := 91) C 3 dL_players_91 rfl ?_
              refine j_iload (pc := 92) C 7 dL_players_92 rfl ?_
              refine j_iconst (pc := 94) (v := (4 : Int32)) C dL_players_94 rfl ?_
              refine c2_L_185 (pc := 95) C ⟨(Nat.le_of_ble_eq_true rfl), (Nat.le_of_ble_eq_true rfl)⟩ hkc (Nat.le_of_ble_eq_true rfl) dL_players_95 h (fun r44 M44 h => ?_)
              refine j_iload (pc := 98) C 2 dL_players_98 rfl ?_
              refine j_icmp_ne (pc := 100) C 162 dL_players_100 (by decide) h (fun h => ?_) (fun h => ?_)
              · exact j_weak [] rfl (k162 _ h)
              · refine j_aload_n (pc := 103) C 3 dL_players_103 rfl ?_
                refine j_iload (pc := 104) C 7 dL_players_104 rfl ?_
                refine j_iconst (pc := 106) (v := (5 : Int32)) C dL_players_106 rfl ?_
                refine c2_L_185 (pc := 107) C ⟨(Nat.le_of_ble_eq_true rfl), (Nat.le_of_ble_eq_true rfl)⟩ hkc (Nat.le_of_ble_eq_true rfl) dL_players_107 h (fun r45 M45 h => ?_)
                refine j_aload_n (pc := 110) C 4 dL_players_110 rfl ?_
                refine j_iload (pc := 111) C 7 dL_players_111 rfl ?_
                refine c2_L_188 (pc := 113) C ⟨(Nat.le_of_ble_eq_true rfl), (Nat.le_of_ble_eq_true rfl)⟩ hkc (Nat.le_of_ble_eq_true rfl) dL_players_113 h (fun r46 M46 h => ?_)
                refine j_icmp_ne (pc := 116) C 162 dL_players_116 (by decide) h (fun h => ?_) (fun h => ?_)
                · exact j_weak [] rfl (k162 _ h)
                · refine j_aload_n (pc := 119) C 3 dL_players_119 rfl ?_
                  refine j_iload (pc := 120) C 7 dL_players_120 rfl ?_
                  refine j_bipush (pc := 122) (v := (6 : Int32)) C dL_players_122 rfl ?_
                  refine c2_L_185 (pc := 124) C ⟨(Nat.le_of_ble_eq_true rfl), (Nat.le_of_ble_eq_true rfl)⟩ hkc (Nat.le_of_ble_eq_true rfl) dL_players_124 h (fun r47 M47 h => ?_)
                  refine j_iconst (pc := 127) (v := (0 : Int32)) C dL_players_127 rfl ?_
                  refine j_iload (pc := 128) C 1 dL_players_128 rfl ?_
                  refine j_ineg (pc := 130) C dL_players_130 ?_
                  refine j_mmax (pc := 131) C wd_616 wd_439 wd_51 wd_440 dL_players_131 (Nat.le_of_ble_eq_true rfl) (Nat.le_of_ble_eq_true rfl) hkc ?_
                  refine j_icmp_ne (pc := 134) C 162 dL_players_134 (by decide) h (fun h => ?_) (fun h => ?_)
                  · exact j_weak [] rfl (k162 _ h)
                  · refine j_aload_n (pc := 137) C 3 dL_players_137 rfl ?_
                    refine j_iload (pc := 138) C 7 dL_players_138 rfl ?_
                    refine j_bipush (pc := 140) (v := (7 : Int32)) C dL_players_140 rfl ?_
                    refine c2_L_185 (pc := 142) C ⟨(Nat.le_of_ble_eq_true rfl), (Nat.le_of_ble_eq_true rfl)⟩ hkc (Nat.le_of_ble_eq_true rfl) dL_players_142 h (fun r48 M48 h => ?_)
                    refine j_iconst (pc := 145) (v := (0 : Int32)) C dL_players_145 rfl ?_
                    refine j_iload (pc := 146) C 1 dL_players_146 rfl ?_
                    refine j_mmax (pc := 148) C wd_616 wd_439 wd_51 wd_440 dL_players_148 (Nat.le_of_ble_eq_true rfl) (Nat.le_of_ble_eq_true rfl) hkc ?_
                    refine j_aload_n (pc := 151) C 4 dL_players_151 rfl ?_
                    refine gf_L_79 (pc := 152) C dL_players_152 h (fun a49 h => ?_)
                    refine j_iload (pc := 155) C 7 dL_players_155 rfl ?_
                    refine j_iald (pc := 157) C dL_players_157 h (fun h => ?_)
                    refine j_imul (pc := 158) C dL_players_158 ?_
                    refine j_icmp_eq (pc := 159) C 164 dL_players_159 (by decide) h (fun h => ?_) (fun h => ?_)
                    · refine j_iinc (pc := 164) (v := (1 : Int32)) C 7 [(5, _), (4, _), (7, _), (6, _), (0, _), (1, _), (2, _), (3, _)] dL_players_164 rfl rfl (by decide) rfl ?_
                      refine j_goto (pc := 167) C 8 dL_players_167 (by decide) ?_
                      exact j_weak [4, 5, 6, 7, 1, 0] rfl (ih _ _ _ _ _ _ _ h)
                    · exact j_weak [] rfl (k162 _ h)
          · refine j_iload (pc := 71) C 7 dL_players_71 rfl ?_
            refine j_istore_n (pc := 73) C [(3, _), (4, _), (7, _), (6, _), (0, _), (1, _), (2, _), (5, _)] dL_players_73 (by decide) rfl ?_
            refine j_aload_n (pc := 74) C 4 dL_players_74 rfl ?_
            refine j_iload (pc := 75) C 7 dL_players_75 rfl ?_
            refine j_iconst (pc := 77) (v := (0 : Int32)) C dL_players_77 rfl ?_
            refine c2_L_185 (pc := 78) C ⟨(Nat.le_of_ble_eq_true rfl), (Nat.le_of_ble_eq_true rfl)⟩ hkc (Nat.le_of_ble_eq_true rfl) dL_players_78 h (fun r50 M50 h => ?_)
            refine j_aload_n (pc := 81) C 5 dL_players_81 rfl ?_
            refine gf_L_76 (pc := 82) C dL_players_82 h (fun a51 h => ?_)
            refine j_iload (pc := 85) C 7 dL_players_85 rfl ?_
            refine j_iald (pc := 87) C dL_players_87 h (fun h => ?_)
            refine j_icmp_ne (pc := 88) C 162 dL_players_88 (by decide) h (fun h => ?_) (fun h => ?_)
            · exact j_weak [] rfl (k162 _ h)
            · refine j_aload_n (pc := 91) C 4 dL_players_91 rfl ?_
              refine j_iload (pc := 92) C 7 dL_players_92 rfl ?_
              refine j_iconst (pc := 94) (v := (4 : Int32)) C dL_players_94 rfl ?_
              refine c2_L_185 (pc := 95) C ⟨(Nat.le_of_ble_eq_true rfl), (Nat.le_of_ble_eq_true rfl)⟩ hkc (Nat.le_of_ble_eq_true rfl) dL_players_95 h (fun r52 M52 h => ?_)
              refine j_iload (pc := 98) C 3 dL_players_98 rfl ?_
              refine j_icmp_ne (pc := 100) C 162 dL_players_100 (by decide) h (fun h => ?_) (fun h => ?_)
              · exact j_weak [] rfl (k162 _ h)
              · refine j_aload_n (pc := 103) C 4 dL_players_103 rfl ?_
                refine j_iload (pc := 104) C 7 dL_players_104 rfl ?_
                refine j_iconst (pc := 106) (v := (5 : Int32)) C dL_players_106 rfl ?_
                refine c2_L_185 (pc := 107) C ⟨(Nat.le_of_ble_eq_true rfl), (Nat.le_of_ble_eq_true rfl)⟩ hkc (Nat.le_of_ble_eq_true rfl) dL_players_107 h (fun r53 M53 h => ?_)
                refine j_aload_n (pc := 110) C 5 dL_players_110 rfl ?_
                refine j_iload (pc := 111) C 7 dL_players_111 rfl ?_
                refine c2_L_188 (pc := 113) C ⟨(Nat.le_of_ble_eq_true rfl), (Nat.le_of_ble_eq_true rfl)⟩ hkc (Nat.le_of_ble_eq_true rfl) dL_players_113 h (fun r54 M54 h => ?_)
                refine j_icmp_ne (pc := 116) C 162 dL_players_116 (by decide) h (fun h => ?_) (fun h => ?_)
                · exact j_weak [] rfl (k162 _ h)
                · refine j_aload_n (pc := 119) C 4 dL_players_119 rfl ?_
                  refine j_iload (pc := 120) C 7 dL_players_120 rfl ?_
                  refine j_bipush (pc := 122) (v := (6 : Int32)) C dL_players_122 rfl ?_
                  refine c2_L_185 (pc := 124) C ⟨(Nat.le_of_ble_eq_true rfl), (Nat.le_of_ble_eq_true rfl)⟩ hkc (Nat.le_of_ble_eq_true rfl) dL_players_124 h (fun r55 M55 h => ?_)
                  refine j_iconst (pc := 127) (v := (0 : Int32)) C dL_players_127 rfl ?_
                  refine j_iload (pc := 128) C 2 dL_players_128 rfl ?_
                  refine j_ineg (pc := 130) C dL_players_130 ?_
                  refine j_mmax (pc := 131) C wd_616 wd_439 wd_51 wd_440 dL_players_131 (Nat.le_of_ble_eq_true rfl) (Nat.le_of_ble_eq_true rfl) hkc ?_
                  refine j_icmp_ne (pc := 134) C 162 dL_players_134 (by decide) h (fun h => ?_) (fun h => ?_)
                  · exact j_weak [] rfl (k162 _ h)
                  · refine j_aload_n (pc := 137) C 4 dL_players_137 rfl ?_
                    refine j_iload (pc := 138) C 7 dL_players_138 rfl ?_
                    refine j_bipush (pc := 140) (v := (7 : Int32)) C dL_players_140 rfl ?_
                    refine c2_L_185 (pc := 142) C ⟨(Nat.le_of_ble_eq_true rfl), (Nat.le_of_ble_eq_true rfl)⟩ hkc (Nat.le_of_ble_eq_true rfl) dL_players_142 h (fun r56 M56 h => ?_)
                    refine j_iconst (pc := 145) (v := (0 : Int32)) C dL_players_145 rfl ?_
                    refine j_iload (pc := 146) C 2 dL_players_146 rfl ?_
                    refine j_mmax (pc := 148) C wd_616 wd_439 wd_51 wd_440 dL_players_148 (Nat.le_of_ble_eq_true rfl) (Nat.le_of_ble_eq_true rfl) hkc ?_
                    refine j_aload_n (pc := 151) C 5 dL_players_151 rfl ?_
                    refine gf_L_79 (pc := 152) C dL_players_152 h (fun a57 h => ?_)
                    refine j_iload (pc := 155) C 7 dL_players_155 rfl ?_
                    refine j_iald (pc := 157) C dL_players_157 h (fun h => ?_)
                    refine j_imul (pc := 158) C dL_players_158 ?_
                    refine j_icmp_eq (pc := 159) C 164 dL_players_159 (by decide) h (fun h => ?_) (fun h => ?_)
                    · refine j_iinc (pc := 164) (v := (1 : Int32)) C 7 [(5, _), (3, _), (4, _), (7, _), (6, _), (0, _), (1, _), (2, _)] dL_players_164 rfl rfl (by decide) rfl ?_
                      refine j_goto (pc := 167) C 8 dL_players_167 (by decide) ?_
                      exact j_weak [5, 6, 7, 1, 2, 0] rfl (ih _ _ _ _ _ _ _ h)
                    · exact j_weak [] rfl (k162 _ h)
def l_L_players_173 (P : Int32 → Mm → Prop) (K219 : Mm → Prop) (K227 : Mm → Nat → Nat → Nat → Int32 → Int32 → Prop) : Nat → Mm → Nat → Nat → Nat → Int32 → Int32 → Int32 → Prop
  | 0, _, _, _, _, _, _, _ => False
  | n + 1, M, x0, x1, x2, x3, x4, x5 => zk M x1 = 8 ∧ (if (zI M x1 3) ≤ x5 then K227 M x0 x1 x2 x3 x4 else zk M x0 = 7 ∧ w_X7_work M x0 x5 (7 : Int32) (fun r61 M61 => zk M61 x1 = 8 ∧ w_X8_rent M61 x1 x5 (fun r62 M62 => (if r61 = r62 then zk M62 x0 = 7 ∧ w_X7_work M62 x0 x5 (5 : Int32) (fun r63 M63 => zk M63 x1 = 8 ∧ w_X8_rehearsals M63 x1 x5 (999 : Int32) (-1 : Int32) (fun r64 M64 => (if r63 = r64 then l_L_players_173 P K219 K227 n M64 x0 x1 x2 x3 x4 (x5 + (1 : Int32)) else K219 M64))) (fun _ _ => False) else K219 M62))) (fun _ _ => False))
set_option maxHeartbeats 4000000 in
set_option maxRecDepth 100000 in
theorem jl_L_players_173 {P : Int32 → Mm → Prop} {K219 : Mm → Prop} {K227 : Mm → Nat → Nat → Nat → Int32 → Int32 → Prop} (C : Cx p l s m args meth c cL_players 8 RL (some .boolean) E) (hkc : kc ≤ rm_L_players.cells ∧ ks ≤ rm_L_players.slots) (k219 : ∀ M, K219 M → J p l e rm_L_players s m args below meth c (QI below E P args s rm_L_players.cells rm_L_players.slots) E 8 M kc ks 219 [] []) (k227 : ∀ M x0 x1 x2 x3 x4, K227 M x0 x1 x2 x3 x4 → J p l e rm_L_players s m args below meth c (QI below E P args s rm_L_players.cells rm_L_players.slots) E 8 M kc ks 227 [(0, .ref x0), (1, .ref x1), (2, .ref x2), (3, .int x3), (4, .int x4)] []) : ∀ n M x0 x1 x2 x3 x4 x5, l_L_players_173 P K219 K227 n M x0 x1 x2 x3 x4 x5 → J p l e rm_L_players s m args below meth c (QI below E P args s rm_L_players.cells rm_L_players.slots) E 8 M kc ks 173 [(0, .ref x0), (1, .ref x1), (2, .ref x2), (3, .int x3), (4, .int x4), (5, .int x5)] [] := by
  intro n
  induction n with
  | zero => intro M x0 x1 x2 x3 x4 x5 h; exact h.elim
  | succ n ih =>
    intro M x0 x1 x2 x3 x4 x5 h
    rw [l_L_players_173] at h
    refine j_iload (pc := 173) C 5 dL_players_173 rfl ?_
    refine j_aload_n (pc := 175) C 1 dL_players_175 rfl ?_
    refine gf_L_100 (pc := 176) C dL_players_176 h (fun h => ?_)
    refine j_icmp_ge (pc := 179) C 227 dL_players_179 (by decide) h (fun h => ?_) (fun h => ?_)
    · exact j_weak [0, 1, 2, 3, 4] rfl (k227 _ _ _ _ _ _ h)
    · refine j_aload_n (pc := 182) C 0 dL_players_182 rfl ?_
      refine j_iload (pc := 183) C 5 dL_players_183 rfl ?_
      refine j_bipush (pc := 185) (v := (7 : Int32)) C dL_players_185 rfl ?_
      refine c2_L_191 (pc := 187) C ⟨(Nat.le_of_ble_eq_true rfl), (Nat.le_of_ble_eq_true rfl)⟩ hkc (Nat.le_of_ble_eq_true rfl) dL_players_187 h (fun r61 M61 h => ?_)
      refine j_aload_n (pc := 190) C 1 dL_players_190 rfl ?_
      refine j_iload (pc := 191) C 5 dL_players_191 rfl ?_
      refine c2_L_194 (pc := 193) C ⟨(Nat.le_of_ble_eq_true rfl), (Nat.le_of_ble_eq_true rfl)⟩ hkc (Nat.le_of_ble_eq_true rfl) dL_players_193 h (fun r62 M62 h => ?_)
      refine j_icmp_ne (pc := 196) C 219 dL_players_196 (by decide) h (fun h => ?_) (fun h => ?_)
      · exact j_weak [] rfl (k219 _ h)
      · refine j_aload_n (pc := 199) C 0 dL_players_199 rfl ?_
        refine j_iload (pc := 200) C 5 dL_players_200 rfl ?_
        refine j_iconst (pc := 202) (v := (5 : Int32)) C dL_players_202 rfl ?_
        refine c2_L_191 (pc := 203) C ⟨(Nat.le_of_ble_eq_true rfl), (Nat.le_of_ble_eq_true rfl)⟩ hkc (Nat.le_of_ble_eq_true rfl) dL_players_203 h (fun r63 M63 h => ?_)
        refine j_aload_n (pc := 206) C 1 dL_players_206 rfl ?_
        refine j_iload (pc := 207) C 5 dL_players_207 rfl ?_
        refine j_sipush (pc := 209) (v := (999 : Int32)) C dL_players_209 rfl ?_
        refine j_iconst (pc := 212) (v := (-1 : Int32)) C dL_players_212 rfl ?_
        refine c2_L_197 (pc := 213) C ⟨(Nat.le_of_ble_eq_true rfl), (Nat.le_of_ble_eq_true rfl)⟩ hkc (Nat.le_of_ble_eq_true rfl) dL_players_213 h (fun r64 M64 h => ?_)
        refine j_icmp_eq (pc := 216) C 221 dL_players_216 (by decide) h (fun h => ?_) (fun h => ?_)
        · refine j_iinc (pc := 221) (v := (1 : Int32)) C 5 [(5, _), (0, _), (1, _), (2, _), (3, _), (4, _)] dL_players_221 rfl rfl (by decide) rfl ?_
          refine j_goto (pc := 224) C 173 dL_players_224 (by decide) ?_
          exact j_weak [1, 2, 3, 4, 5, 0] rfl (ih _ _ _ _ _ _ _ h)
        · exact j_weak [] rfl (k219 _ h)
def l_L_players_230 (P : Int32 → Mm → Prop) (K251 : Mm → Prop) (K259 : Mm → Nat → Nat → Nat → Int32 → Int32 → Prop) : Nat → Mm → Nat → Nat → Nat → Int32 → Int32 → Int32 → Prop
  | 0, _, _, _, _, _, _, _ => False
  | n + 1, M, x0, x1, x2, x3, x4, x5 => (if (4 : Int32) ≤ x5 then K259 M x0 x1 x2 x3 x4 else zk M x0 = 7 ∧ w_X7_costs M x0 x5 (fun r67 M67 => zk M67 x1 = 8 ∧ w_X8_costs M67 x1 x5 (fun r68 M68 => (if r67 = r68 then l_L_players_230 P K251 K259 n M68 x0 x1 x2 x3 x4 (x5 + (1 : Int32)) else K251 M68))) (fun _ _ => False))
set_option maxHeartbeats 4000000 in
set_option maxRecDepth 100000 in
theorem jl_L_players_230 {P : Int32 → Mm → Prop} {K251 : Mm → Prop} {K259 : Mm → Nat → Nat → Nat → Int32 → Int32 → Prop} (C : Cx p l s m args meth c cL_players 8 RL (some .boolean) E) (hkc : kc ≤ rm_L_players.cells ∧ ks ≤ rm_L_players.slots) (k251 : ∀ M, K251 M → J p l e rm_L_players s m args below meth c (QI below E P args s rm_L_players.cells rm_L_players.slots) E 8 M kc ks 251 [] []) (k259 : ∀ M x0 x1 x2 x3 x4, K259 M x0 x1 x2 x3 x4 → J p l e rm_L_players s m args below meth c (QI below E P args s rm_L_players.cells rm_L_players.slots) E 8 M kc ks 259 [(0, .ref x0), (1, .ref x1), (2, .ref x2), (3, .int x3), (4, .int x4)] []) : ∀ n M x0 x1 x2 x3 x4 x5, l_L_players_230 P K251 K259 n M x0 x1 x2 x3 x4 x5 → J p l e rm_L_players s m args below meth c (QI below E P args s rm_L_players.cells rm_L_players.slots) E 8 M kc ks 230 [(0, .ref x0), (1, .ref x1), (2, .ref x2), (3, .int x3), (4, .int x4), (5, .int x5)] [] := by
  intro n
  induction n with
  | zero => intro M x0 x1 x2 x3 x4 x5 h; exact h.elim
  | succ n ih =>
    intro M x0 x1 x2 x3 x4 x5 h
    rw [l_L_players_230] at h
    refine j_iload (pc := 230) C 5 dL_players_230 rfl ?_
    refine j_iconst (pc := 232) (v := (4 : Int32)) C dL_players_232 rfl ?_
    refine j_icmp_ge (pc := 233) C 259 dL_players_233 (by decide) h (fun h => ?_) (fun h => ?_)
    · exact j_weak [0, 1, 2, 3, 4] rfl (k259 _ _ _ _ _ _ h)
    · refine j_aload_n (pc := 236) C 0 dL_players_236 rfl ?_
      refine j_iload (pc := 237) C 5 dL_players_237 rfl ?_
      refine c2_L_200 (pc := 239) C ⟨(Nat.le_of_ble_eq_true rfl), (Nat.le_of_ble_eq_true rfl)⟩ hkc (Nat.le_of_ble_eq_true rfl) dL_players_239 h (fun r67 M67 h => ?_)
      refine j_aload_n (pc := 242) C 1 dL_players_242 rfl ?_
      refine j_iload (pc := 243) C 5 dL_players_243 rfl ?_
      refine c2_L_203 (pc := 245) C ⟨(Nat.le_of_ble_eq_true rfl), (Nat.le_of_ble_eq_true rfl)⟩ hkc (Nat.le_of_ble_eq_true rfl) dL_players_245 h (fun r68 M68 h => ?_)
      refine j_icmp_eq (pc := 248) C 253 dL_players_248 (by decide) h (fun h => ?_) (fun h => ?_)
      · refine j_iinc (pc := 253) (v := (1 : Int32)) C 5 [(5, _), (0, _), (1, _), (2, _), (3, _), (4, _)] dL_players_253 rfl rfl (by decide) rfl ?_
        refine j_goto (pc := 256) C 230 dL_players_256 (by decide) ?_
        exact j_weak [1, 2, 3, 4, 5, 0] rfl (ih _ _ _ _ _ _ _ h)
      · exact j_weak [] rfl (k251 _ h)
def w_L_players (M : Mm) (x0 : Nat) (x1 : Nat) (x2 : Nat) (P : Int32 → Mm → Prop) : Prop := (∃ n8, l_L_players_8 P (fun M58 => ((0 : Int32) = 0 ∨ (0 : Int32) = 1) ∧ P (0 : Int32) M58) (fun M59 x0_59 x1_59 x2_59 x3_59 x4_59 => (∃ n173, l_L_players_173 P (fun M65 => ((0 : Int32) = 0 ∨ (0 : Int32) = 1) ∧ P (0 : Int32) M65) (fun M66 x0_66 x1_66 x2_66 x3_66 x4_66 => (∃ n230, l_L_players_230 P (fun M69 => ((0 : Int32) = 0 ∨ (0 : Int32) = 1) ∧ P (0 : Int32) M69) (fun M70 x0_70 x1_70 x2_70 x3_70 x4_70 => zk M70 x1_70 = 8 ∧ w_L_draw M70 x2_70 (zI M70 x1_70 2) (fun r72 M72 => zk M72 x1_70 = 8 ∧ w_L_draw M72 x2_70 ((3 : Int32) * (zI M72 x1_70 0)) (fun r74 M74 => zk M74 x0_70 = 7 ∧ w_X7_isFree M74 x0_70 r72 r74 (fun r75 M75 => zk M75 x1_70 = 8 ∧ w_X8_isFree M75 x1_70 r72 r74 (-1 : Int32) (fun r76 M76 => (if r75 = r76 then zk M76 x0_70 = 7 ∧ w_X7_busiest M76 x0_70 (fun r77 M77 => (if r77 = x3_70 then zk M77 x0_70 = 7 ∧ w_X7_isBalanced M77 x0_70 (fun r78 M78 => (if r78 = x4_70 then ((1 : Int32) = 0 ∨ (1 : Int32) = 1) ∧ P (1 : Int32) M78 else ((0 : Int32) = 0 ∨ (0 : Int32) = 1) ∧ P (0 : Int32) M78)) else ((0 : Int32) = 0 ∨ (0 : Int32) = 1) ∧ P (0 : Int32) M77)) else ((0 : Int32) = 0 ∨ (0 : Int32) = 1) ∧ P (0 : Int32) M76))) (fun _ _ => False)))) n230 M66 x0_66 x1_66 x2_66 x3_66 x4_66 (0 : Int32))) n173 M59 x0_59 x1_59 x2_59 x3_59 x4_59 (0 : Int32))) n8 M x0 x1 x2 (0 : Int32) (1 : Int32) (0 : Int32))
set_option maxHeartbeats 4000000 in
set_option maxRecDepth 100000 in
theorem c_L_players (l : Launch) (E : EV) (M : Mm) (x0 : Nat) (x1 : Nat) (x2 : Nat) (P : Int32 → Mm → Prop) (h : w_L_players M x0 x1 x2 P) : CtI l E yL_players cL_players 8 .boolean rm_L_players 0 0 [.ref x0, .ref x1, .ref x2] M P := by
  refine ctI_of (by decide +kernel) (Nat.le_of_ble_eq_true rfl) ?_
  intro p e s m args below meth c C
  rw [w_L_players] at h
  show J p l e rm_L_players s m args below meth c (QI below E P args s 0 0) E 8 M 0 0 0 [(0, .ref x0), (1, .ref x1), (2, .ref x2)] []
  refine j_iconst (pc := 0) (v := (0 : Int32)) C dL_players_0 rfl ?_
  refine j_istore_n (pc := 1) C [(3, _), (0, _), (1, _), (2, _)] dL_players_1 (by decide) rfl ?_
  refine j_iconst (pc := 2) (v := (1 : Int32)) C dL_players_2 rfl ?_
  refine j_istore (pc := 3) C [(4, _), (3, _), (0, _), (1, _), (2, _)] dL_players_3 (by decide) rfl ?_
  refine j_iconst (pc := 5) (v := (0 : Int32)) C dL_players_5 rfl ?_
  refine j_istore (pc := 6) C [(5, _), (4, _), (3, _), (0, _), (1, _), (2, _)] dL_players_6 (by decide) rfl ?_
  obtain ⟨n8, h⟩ := h
  refine j_weak [3, 4, 5, 2, 1, 0] rfl (jl_L_players_8 C ⟨Nat.le_of_ble_eq_true rfl, Nat.le_of_ble_eq_true rfl⟩ (fun M58 h => ?_) (fun M59 x0_59 x1_59 x2_59 x3_59 x4_59 h => ?_) n8 _ _ _ _ _ _ _ h)
  · refine j_iconst (pc := 162) (v := (0 : Int32)) C dL_players_162 rfl ?_
    exact j_zret (pc := 163) C dL_players_163 (Nat.le_of_ble_eq_true rfl) (Nat.le_of_ble_eq_true rfl) h
  · refine j_iconst (pc := 170) (v := (0 : Int32)) C dL_players_170 rfl ?_
    refine j_istore (pc := 171) C [(5, _), (0, _), (1, _), (2, _), (3, _), (4, _)] dL_players_171 (by decide) rfl ?_
    obtain ⟨n173, h⟩ := h
    refine j_weak [1, 2, 3, 4, 5, 0] rfl (jl_L_players_173 C ⟨Nat.le_of_ble_eq_true rfl, Nat.le_of_ble_eq_true rfl⟩ (fun M65 h => ?_) (fun M66 x0_66 x1_66 x2_66 x3_66 x4_66 h => ?_) n173 _ _ _ _ _ _ _ h)
    · refine j_iconst (pc := 219) (v := (0 : Int32)) C dL_players_219 rfl ?_
      exact j_zret (pc := 220) C dL_players_220 (Nat.le_of_ble_eq_true rfl) (Nat.le_of_ble_eq_true rfl) h
    · refine j_iconst (pc := 227) (v := (0 : Int32)) C dL_players_227 rfl ?_
      refine j_istore (pc := 228) C [(5, _), (0, _), (1, _), (2, _), (3, _), (4, _)] dL_players_228 (by decide) rfl ?_
      obtain ⟨n230, h⟩ := h
      refine j_weak [1, 2, 3, 4, 5, 0] rfl (jl_L_players_230 C ⟨Nat.le_of_ble_eq_true rfl, Nat.le_of_ble_eq_true rfl⟩ (fun M69 h => ?_) (fun M70 x0_70 x1_70 x2_70 x3_70 x4_70 h => ?_) n230 _ _ _ _ _ _ _ h)
      · refine j_iconst (pc := 251) (v := (0 : Int32)) C dL_players_251 rfl ?_
        exact j_zret (pc := 252) C dL_players_252 (Nat.le_of_ble_eq_true rfl) (Nat.le_of_ble_eq_true rfl) h
      · refine j_aload_n (pc := 259) C 2 dL_players_259 rfl ?_
        refine j_aload_n (pc := 260) C 1 dL_players_260 rfl ?_
        refine gf_L_73 (pc := 261) C dL_players_261 h (fun h => ?_)
        refine c2_L_39 (pc := 264) C ⟨(Nat.le_of_ble_eq_true rfl), (Nat.le_of_ble_eq_true rfl)⟩ ⟨Nat.le_of_ble_eq_true rfl, Nat.le_of_ble_eq_true rfl⟩ (Nat.le_of_ble_eq_true rfl) dL_players_264 h (fun r72 M72 h => ?_)
        refine j_istore (pc := 267) C [(5, _), (0, _), (1, _), (2, _), (3, _), (4, _)] dL_players_267 (by decide) rfl ?_
        refine j_aload_n (pc := 269) C 3 dL_players_269 rfl ?_
        refine j_iconst (pc := 270) (v := (3 : Int32)) C dL_players_270 rfl ?_
        refine j_aload_n (pc := 271) C 2 dL_players_271 rfl ?_
        refine gf_L_43 (pc := 272) C dL_players_272 h (fun h => ?_)
        refine j_imul (pc := 275) C dL_players_275 ?_
        refine c2_L_39 (pc := 276) C ⟨(Nat.le_of_ble_eq_true rfl), (Nat.le_of_ble_eq_true rfl)⟩ ⟨Nat.le_of_ble_eq_true rfl, Nat.le_of_ble_eq_true rfl⟩ (Nat.le_of_ble_eq_true rfl) dL_players_276 h (fun r74 M74 h => ?_)
        refine j_istore (pc := 279) C [(6, _), (5, _), (0, _), (1, _), (2, _), (3, _), (4, _)] dL_players_279 (by decide) rfl ?_
        refine j_aload_n (pc := 281) C 2 dL_players_281 rfl ?_
        refine j_iload (pc := 282) C 1 dL_players_282 rfl ?_
        refine j_iload (pc := 284) C 0 dL_players_284 rfl ?_
        refine c2_L_204 (pc := 286) C ⟨(Nat.le_of_ble_eq_true rfl), (Nat.le_of_ble_eq_true rfl)⟩ ⟨Nat.le_of_ble_eq_true rfl, Nat.le_of_ble_eq_true rfl⟩ (Nat.le_of_ble_eq_true rfl) dL_players_286 h (fun r75 M75 h => ?_)
        refine j_aload_n (pc := 289) C 3 dL_players_289 rfl ?_
        refine j_iload (pc := 290) C 1 dL_players_290 rfl ?_
        refine j_iload (pc := 292) C 0 dL_players_292 rfl ?_
        refine j_iconst (pc := 294) (v := (-1 : Int32)) C dL_players_294 rfl ?_
        refine c2_L_208 (pc := 295) C ⟨(Nat.le_of_ble_eq_true rfl), (Nat.le_of_ble_eq_true rfl)⟩ ⟨Nat.le_of_ble_eq_true rfl, Nat.le_of_ble_eq_true rfl⟩ (Nat.le_of_ble_eq_true rfl) dL_players_295 h (fun r76 M76 h => ?_)
        refine j_icmp_ne (pc := 298) C 322 dL_players_298 (by decide) h (fun h => ?_) (fun h => ?_)
        · refine j_iconst (pc := 322) (v := (0 : Int32)) C dL_players_322 rfl ?_
          exact j_zret (pc := 323) C dL_players_323 (Nat.le_of_ble_eq_true rfl) (Nat.le_of_ble_eq_true rfl) h
        · refine j_aload_n (pc := 301) C 2 dL_players_301 rfl ?_
          refine c2_L_211 (pc := 302) C ⟨(Nat.le_of_ble_eq_true rfl), (Nat.le_of_ble_eq_true rfl)⟩ ⟨Nat.le_of_ble_eq_true rfl, Nat.le_of_ble_eq_true rfl⟩ (Nat.le_of_ble_eq_true rfl) dL_players_302 h (fun r77 M77 h => ?_)
          refine j_iload_n (pc := 305) C 5 dL_players_305 rfl ?_
          refine j_icmp_ne (pc := 306) C 322 dL_players_306 (by decide) h (fun h => ?_) (fun h => ?_)
          · refine j_iconst (pc := 322) (v := (0 : Int32)) C dL_players_322 rfl ?_
            exact j_zret (pc := 323) C dL_players_323 (Nat.le_of_ble_eq_true rfl) (Nat.le_of_ble_eq_true rfl) h
          · refine j_aload_n (pc := 309) C 2 dL_players_309 rfl ?_
            refine c2_L_214 (pc := 310) C ⟨(Nat.le_of_ble_eq_true rfl), (Nat.le_of_ble_eq_true rfl)⟩ ⟨Nat.le_of_ble_eq_true rfl, Nat.le_of_ble_eq_true rfl⟩ (Nat.le_of_ble_eq_true rfl) dL_players_310 h (fun r78 M78 h => ?_)
            refine j_iload (pc := 313) C 6 dL_players_313 rfl ?_
            refine j_icmp_ne (pc := 315) C 322 dL_players_315 (by decide) h (fun h => ?_) (fun h => ?_)
            · refine j_iconst (pc := 322) (v := (0 : Int32)) C dL_players_322 rfl ?_
              exact j_zret (pc := 323) C dL_players_323 (Nat.le_of_ble_eq_true rfl) (Nat.le_of_ble_eq_true rfl) h
            · refine j_iconst (pc := 318) (v := (1 : Int32)) C dL_players_318 rfl ?_
              refine j_goto (pc := 319) C 323 dL_players_319 (by decide) ?_
              exact j_zret (pc := 323) C dL_players_323 (Nat.le_of_ble_eq_true rfl) (Nat.le_of_ble_eq_true rfl) h
end GL2
