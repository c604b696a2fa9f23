/-! written by a program (wip/p34/gen.py) out of the decode rows and the tables: walks of X0 -/

section GW8
variable {p : Program} {l : Launch} {e : Env} {R : Room} {s : State} {m : MethodId} {args : Array Value} {below : List Frame} {meth : Method} {c : Code} {Q : State → Prop} {cc : ByteArray} {nL : Nat} {ret : Option FieldType} {E : EV} {M : Mm} {kc ks pc : Nat} {lo : List (Nat × Value)} {st : List Value}
theorem cs_X0_53 (C : Cx p l s m args meth c cc nL RX0 ret E) {y0 : Int32} {y1 : Int32} {P : Int32 → Mm → Prop} (hR : rm_X7_has.frames + 1 ≤ R.frames ∧ 8 + (2 + 11) + rm_X7_has.locals ≤ R.locals) (hf : kc ≤ R.cells ∧ ks ≤ R.slots) (hst : (st.map fun v => v.category).sum ≤ 8) (d : decode cc pc = .ok (.invokestatic 53, 3)) (h : w_X7_has M y0 y1 P) (kk : ∀ r M', P r M' → J p l e R s m args below meth c Q E nL M' kc ks (pc + 3) lo (.int r :: st)) : J p l e R s m args below meth c Q E nL M kc ks pc lo (.int y1 :: .int y0 :: st) :=
  j_cSN_I (n := 2) (As := [.int y0, .int y1]) C wd_901 (c_X7_has l E M y0 y1 P h) ⟨wd_902, nw_1158, wd_40, by decide +kernel, by decide +kernel, by decide +kernel⟩ rfl rfl hR hf rfl hst d kk
theorem cs_X0_60 (C : Cx p l s m args meth c cc nL RX0 ret E) {b : Nat} {y0 : Int32} {y1 : Int32} {P : Int32 → Mm → Prop} (hR : rm_X6_doublingOn.frames + 1 ≤ R.frames ∧ 8 + (3 + 11) + rm_X6_doublingOn.locals ≤ R.locals) (hf : kc ≤ R.cells ∧ ks ≤ R.slots) (hst : (st.map fun v => v.category).sum ≤ 8) (d : decode cc pc = .ok (.invokevirtual 60, 3)) (h : zk M b = 6 ∧ w_X6_doublingOn M b y0 y1 P) (kk : ∀ r M', P r M' → J p l e R s m args below meth c Q E nL M' kc ks (pc + 3) lo (.int r :: st)) : J p l e R s m args below meth c Q E nL M kc ks pc lo (.int y1 :: .int y0 :: .ref b :: st) :=
  j_cV_I (n := 2) (As := [.int y0, .int y1]) C co_X6 rfl wd_1160 wd_1161 h.1 (c_X6_doublingOn l E M b y0 y1 P h.2) ⟨wd_1162, wd_1159, wd_43, by decide +kernel, by decide +kernel, by decide +kernel⟩ rfl rfl hR hf rfl hst d kk
abbrev rm_X0_fillNextSeat : Room := { frames := 1, cells := 0, slots := 0, locals := 22 }
def l_X0_fillNextSeat_12 (P : Mm → Prop) (K105 : Mm → Prop) : Nat → Mm → Nat → Nat → Int32 → Int32 → Int32 → Int32 → Prop
  | 0, _, _, _, _, _, _, _ => False
  | n + 1, M, x0, x1, x2, x3, x4, x5 => (zk M x1 = 6 ∧ ∃ a3, zR M x1 5 = some a3 ∧ zk M a3 = 2 ∧ (if (zI M a3 1) ≤ x5 then K105 M else w_X7_has M x3 x5 (fun r4 M4 => (if r4 = 0 then l_X0_fillNextSeat_12 P K105 n M4 x0 x1 x2 x3 x4 (x5 + (1 : Int32)) else (zk M4 x1 = 6 ∧ ∃ a5, zR M4 x1 9 = some a5 ∧ zk M4 a5 = 10 ∧ vp_in x5 (zl M4 a5) ∧ w_X7_has M4 (zI M4 a5 x5.toNatClampNeg) x2 (fun r6 M6 => (if r6 = 0 then l_X0_fillNextSeat_12 P K105 n M6 x0 x1 x2 x3 x4 (x5 + (1 : Int32)) else zk M6 x1 = 6 ∧ w_X6_doublingOn M6 x1 x5 x2 (fun r7 M7 => (zk M7 x0 = 1 ∧ ∃ a8, zR M7 x0 1 = some a8 ∧ zk M7 a8 = 10 ∧ vp_in (x4 ||| ((1 : Int32) <<< (x5 &&& 31))) (zl M7 a8) ∧ (zk M7 x0 = 1 ∧ ∃ a9, zR M7 x0 1 = some a9 ∧ zk M7 a9 = 10 ∧ vp_in x4 (zl M7 a9) ∧ (if (zI M7 a9 x4.toNatClampNeg) ≤ (r7 + (zI M7 a8 (x4 ||| ((1 : Int32) <<< (x5 &&& 31))).toNatClampNeg)) then l_X0_fillNextSeat_12 P K105 n M7 x0 x1 x2 x3 x4 (x5 + (1 : Int32)) else (zk M7 x0 = 1 ∧ ∃ a10, zR M7 x0 1 = some a10 ∧ zk M7 a10 = 10 ∧ vp_in x4 (zl M7 a10) ∧ (∀ M11, M11 = sI M7 a10 x4.toNatClampNeg (r7 + (zI M7 a8 (x4 ||| ((1 : Int32) <<< (x5 &&& 31))).toNatClampNeg)) → (zk M11 x0 = 1 ∧ ∃ a12, zR M11 x0 2 = some a12 ∧ zk M11 a12 = 10 ∧ vp_in x4 (zl M11 a12) ∧ (∀ M13, M13 = sI M11 a12 x4.toNatClampNeg x5 → l_X0_fillNextSeat_12 P K105 n M13 x0 x1 x2 x3 x4 (x5 + (1 : Int32)))))))))))))))))
set_option maxHeartbeats 4000000 in
set_option maxRecDepth 100000 in
theorem jl_X0_fillNextSeat_12 {P : Mm → Prop} {K105 : Mm → Prop} (C : Cx p l s m args meth c cX0_fillNextSeat 7 RX0 none E) (hkc : kc ≤ rm_X0_fillNextSeat.cells ∧ ks ≤ rm_X0_fillNextSeat.slots) (k105 : ∀ M, K105 M → J p l e rm_X0_fillNextSeat s m args below meth c (QV below E P args s rm_X0_fillNextSeat.cells rm_X0_fillNextSeat.slots) E 7 M kc ks 105 [] []) : ∀ n M x0 x1 x2 x3 x4 x5, l_X0_fillNextSeat_12 P K105 n M x0 x1 x2 x3 x4 x5 → J p l e rm_X0_fillNextSeat s m args below meth c (QV below E P args s rm_X0_fillNextSeat.cells rm_X0_fillNextSeat.slots) E 7 M kc ks 12 [(0, .ref x0), (1, .ref x1), (2, .int x2), (3, .int x3), (4, .int x4), (5, .int x5)] [] := by
  intro n
  induction n with
  | zero => intro M x0 x1 x2 x3 x4 x5 h; exact h.elim
  | succ n ih =>
    intro M x0 x1 x2 x3 x4 x5 h
    rw [l_X0_fillNextSeat_12] at h
    refine j_iload (pc := 12) C 5 dX0_fillNextSeat_12 rfl ?_
    refine j_aload_n (pc := 14) C 1 dX0_fillNextSeat_14 rfl ?_
    refine gf_X0_43 (pc := 15) C dX0_fillNextSeat_15 h (fun a3 h => ?_)
    refine gf_X0_47 (pc := 18) C dX0_fillNextSeat_18 h (fun h => ?_)
    refine j_icmp_ge (pc := 21) C 105 dX0_fillNextSeat_21 (by decide) h (fun h => ?_) (fun h => ?_)
    · exact j_weak [] rfl (k105 _ h)
    · refine j_iload_n (pc := 24) C 3 dX0_fillNextSeat_24 rfl ?_
      refine j_iload (pc := 25) C 5 dX0_fillNextSeat_25 rfl ?_
      refine cs_X0_53 (pc := 27) C ⟨Nat.le_of_ble_eq_true rfl, Nat.le_of_ble_eq_true rfl⟩ hkc (Nat.le_of_ble_eq_true rfl) dX0_fillNextSeat_27 h (fun r4 M4 h => ?_)
      refine j_if_eq (pc := 30) C 99 dX0_fillNextSeat_30 (by decide) h (fun h => ?_) (fun h => ?_)
      · refine j_iinc (pc := 99) (v := (1 : Int32)) C 5 [(5, _), (0, _), (1, _), (2, _), (3, _), (4, _)] dX0_fillNextSeat_99 rfl rfl (by decide) rfl ?_
        refine j_goto (pc := 102) C 12 dX0_fillNextSeat_102 (by decide) ?_
        exact j_weak [1, 2, 3, 4, 5, 0] rfl (ih _ _ _ _ _ _ _ h)
      · refine j_aload_n (pc := 33) C 1 dX0_fillNextSeat_33 rfl ?_
        refine gf_X0_57 (pc := 34) C dX0_fillNextSeat_34 h (fun a5 h => ?_)
        refine j_iload (pc := 37) C 5 dX0_fillNextSeat_37 rfl ?_
        refine j_iald (pc := 39) C dX0_fillNextSeat_39 h (fun h => ?_)
        refine j_iload_n (pc := 40) C 2 dX0_fillNextSeat_40 rfl ?_
        refine cs_X0_53 (pc := 41) C ⟨Nat.le_of_ble_eq_true rfl, Nat.le_of_ble_eq_true rfl⟩ hkc (Nat.le_of_ble_eq_true rfl) dX0_fillNextSeat_41 h (fun r6 M6 h => ?_)
        refine j_if_eq (pc := 44) C 99 dX0_fillNextSeat_44 (by decide) h (fun h => ?_) (fun h => ?_)
        · refine j_iinc (pc := 99) (v := (1 : Int32)) C 5 [(5, _), (0, _), (1, _), (2, _), (3, _), (4, _)] dX0_fillNextSeat_99 rfl rfl (by decide) rfl ?_
          refine j_goto (pc := 102) C 12 dX0_fillNextSeat_102 (by decide) ?_
          exact j_weak [1, 2, 3, 4, 5, 0] rfl (ih _ _ _ _ _ _ _ h)
        · refine j_aload_n (pc := 47) C 1 dX0_fillNextSeat_47 rfl ?_
          refine j_iload (pc := 48) C 5 dX0_fillNextSeat_48 rfl ?_
          refine j_iload_n (pc := 50) C 2 dX0_fillNextSeat_50 rfl ?_
          refine cs_X0_60 (pc := 51) C ⟨Nat.le_of_ble_eq_true rfl, Nat.le_of_ble_eq_true rfl⟩ hkc (Nat.le_of_ble_eq_true rfl) dX0_fillNextSeat_51 h (fun r7 M7 h => ?_)
          refine j_aload_n (pc := 54) C 0 dX0_fillNextSeat_54 rfl ?_
          refine gf_X0_15 (pc := 55) C dX0_fillNextSeat_55 h (fun a8 h => ?_)
          refine j_iload (pc := 58) C 4 dX0_fillNextSeat_58 rfl ?_
          refine j_iconst (pc := 60) (v := (1 : Int32)) C dX0_fillNextSeat_60 rfl ?_
          refine j_iload (pc := 61) C 5 dX0_fillNextSeat_61 rfl ?_
          refine j_ishl (pc := 63) C dX0_fillNextSeat_63 ?_
          refine j_ior (pc := 64) C dX0_fillNextSeat_64 ?_
          refine j_iald (pc := 65) C dX0_fillNextSeat_65 h (fun h => ?_)
          refine j_iadd (pc := 66) C dX0_fillNextSeat_66 ?_
          refine j_istore (pc := 67) C [(6, _), (0, _), (1, _), (2, _), (3, _), (4, _), (5, _)] dX0_fillNextSeat_67 (by decide) rfl ?_
          refine j_iload (pc := 69) C 0 dX0_fillNextSeat_69 rfl ?_
          refine j_aload_n (pc := 71) C 1 dX0_fillNextSeat_71 rfl ?_
          refine gf_X0_15 (pc := 72) C dX0_fillNextSeat_72 h (fun a9 h => ?_)
          refine j_iload (pc := 75) C 5 dX0_fillNextSeat_75 rfl ?_
          refine j_iald (pc := 77) C dX0_fillNextSeat_77 h (fun h => ?_)
          refine j_icmp_ge (pc := 78) C 99 dX0_fillNextSeat_78 (by decide) h (fun h => ?_) (fun h => ?_)
          · refine j_iinc (pc := 99) (v := (1 : Int32)) C 6 [(5, _), (6, _), (0, _), (1, _), (2, _), (3, _), (4, _)] dX0_fillNextSeat_99 rfl rfl (by decide) rfl ?_
            refine j_goto (pc := 102) C 12 dX0_fillNextSeat_102 (by decide) ?_
            exact j_weak [2, 3, 4, 5, 6, 0] rfl (ih _ _ _ _ _ _ _ h)
          · refine j_aload_n (pc := 81) C 1 dX0_fillNextSeat_81 rfl ?_
            refine gf_X0_15 (pc := 82) C dX0_fillNextSeat_82 h (fun a10 h => ?_)
            refine j_iload (pc := 85) C 5 dX0_fillNextSeat_85 rfl ?_
            refine j_iload (pc := 87) C 0 dX0_fillNextSeat_87 rfl ?_
            refine n_iast (pc := 89) C dX0_fillNextSeat_89 h (fun M11 h => ?_)
            refine j_aload_n (pc := 90) C 1 dX0_fillNextSeat_90 rfl ?_
            refine gf_X0_18 (pc := 91) C dX0_fillNextSeat_91 h (fun a12 h => ?_)
            refine j_iload (pc := 94) C 5 dX0_fillNextSeat_94 rfl ?_
            refine j_iload (pc := 96) C 6 dX0_fillNextSeat_96 rfl ?_
            refine n_iast (pc := 98) C dX0_fillNextSeat_98 h (fun M13 h => ?_)
            refine j_iinc (pc := 99) (v := (1 : Int32)) C 6 [(5, _), (6, _), (0, _), (1, _), (2, _), (3, _), (4, _)] dX0_fillNextSeat_99 rfl rfl (by decide) rfl ?_
            refine j_goto (pc := 102) C 12 dX0_fillNextSeat_102 (by decide) ?_
            exact j_weak [2, 3, 4, 5, 6, 0] rfl (ih _ _ _ _ _ _ _ h)
def w_X0_fillNextSeat (M : Mm) (x0 : Nat) (x1 : Nat) (x2 : Int32) (x3 : Int32) (x4 : Int32) (P : Mm → Prop) : Prop := (zk M x0 = 1 ∧ ∃ a1, zR M x0 1 = some a1 ∧ zk M a1 = 10 ∧ vp_in x4 (zl M a1) ∧ (∀ M2, M2 = sI M a1 x4.toNatClampNeg (100 : Int32) → (∃ n12, l_X0_fillNextSeat_12 P (fun M14 => P M14) n12 M2 x0 x1 x2 x3 x4 (0 : Int32))))
set_option maxHeartbeats 4000000 in
set_option maxRecDepth 100000 in
theorem c_X0_fillNextSeat (l : Launch) (E : EV) (M : Mm) (x0 : Nat) (x1 : Nat) (x2 : Int32) (x3 : Int32) (x4 : Int32) (P : Mm → Prop) (h : w_X0_fillNextSeat M x0 x1 x2 x3 x4 P) : CtV l E yX0_fillNextSeat cX0_fillNextSeat 7 rm_X0_fillNextSeat 0 0 [.ref x0, .ref x1, .int x2, .int x3, .int x4] M P := by
  refine ctV_of (by decide +kernel) (Nat.le_of_ble_eq_true rfl) ?_
  intro p e s m args below meth c C hnm
  rw [w_X0_fillNextSeat] at h
  show J p l e rm_X0_fillNextSeat s m args below meth c (QV below E P args s 0 0) E 7 M 0 0 0 [(0, .ref x0), (1, .ref x1), (2, .int x2), (3, .int x3), (4, .int x4)] []
  refine j_aload_n (pc := 0) C 0 dX0_fillNextSeat_0 rfl ?_
  refine gf_X0_15 (pc := 1) C dX0_fillNextSeat_1 h (fun a1 h => ?_)
  refine j_iload (pc := 4) C 4 dX0_fillNextSeat_4 rfl ?_
  refine j_bipush (pc := 6) (v := (100 : Int32)) C dX0_fillNextSeat_6 rfl ?_
  refine n_iast (pc := 8) C dX0_fillNextSeat_8 h (fun M2 h => ?_)
  refine j_iconst (pc := 9) (v := (0 : Int32)) C dX0_fillNextSeat_9 rfl ?_
  refine j_istore (pc := 10) C [(5, _), (0, _), (1, _), (2, _), (3, _), (4, _)] dX0_fillNextSeat_10 (by decide) rfl ?_
  obtain ⟨n12, h⟩ := h
  refine j_weak [1, 2, 3, 4, 5, 0] rfl (jl_X0_fillNextSeat_12 C ⟨Nat.le_of_ble_eq_true rfl, Nat.le_of_ble_eq_true rfl⟩ (fun M14 h => ?_) n12 _ _ _ _ _ _ _ h)
  · exact j_vret (pc := 105) C dX0_fillNextSeat_105 (Nat.le_of_ble_eq_true rfl) (Nat.le_of_ble_eq_true rfl) h
theorem cs_X0_26 (C : Cx p l s m args meth c cc nL RX0 ret E) {y0 : Int32} {P : Int32 → Mm → Prop} (hR : rm_X7_firstBits.frames + 1 ≤ R.frames ∧ 8 + (1 + 11) + rm_X7_firstBits.locals ≤ R.locals) (hf : kc ≤ R.cells ∧ ks ≤ R.slots) (hst : (st.map fun v => v.category).sum ≤ 8) (d : decode cc pc = .ok (.invokestatic 26, 3)) (h : w_X7_firstBits M y0 P) (kk : ∀ r M', P r M' → J p l e R s m args below meth c Q E nL M' kc ks (pc + 3) lo (.int r :: st)) : J p l e R s m args below meth c Q E nL M kc ks pc lo (.int y0 :: st) :=
  j_cSN_I (n := 1) (As := [.int y0]) C wd_1142 (c_X7_firstBits l E M y0 P h) ⟨wd_1143, nw_1141, wd_40, by decide +kernel, by decide +kernel, by decide +kernel⟩ rfl rfl hR hf rfl hst d kk
theorem cs_X0_30 (C : Cx p l s m args meth c cc nL RX0 ret E) {y0 : Int32} {P : Int32 → Mm → Prop} (hR : rm_J6_bitCount_0f7a4.frames + 1 ≤ R.frames ∧ 8 + (1 + 11) + rm_J6_bitCount_0f7a4.locals ≤ R.locals) (hf : kc ≤ R.cells ∧ ks ≤ R.slots) (hst : (st.map fun v => v.category).sum ≤ 8) (d : decode cc pc = .ok (.invokestatic 30, 3)) (h : w_J6_bitCount_0f7a4 M y0 P) (kk : ∀ r M', P r M' → J p l e R s m args below meth c Q E nL M' kc ks (pc + 3) lo (.int r :: st)) : J p l e R s m args below meth c Q E nL M kc ks pc lo (.int y0 :: st) :=
  j_cS_I (n := 1) (As := [.int y0]) C wd_1145 (c_J6_bitCount_0f7a4 l E M y0 P h) ⟨wd_1146, wd_1144, wd_56, by decide +kernel, by decide +kernel, by decide +kernel⟩ rfl rfl hR hf rfl hst d kk
theorem cs_X0_35 (C : Cx p l s m args meth c cc nL RX0 ret E) {b : Nat} {y0 : Int32} {y1 : Int32} {P : Int32 → Mm → Prop} (hR : rm_X6_instrumentOfSeat.frames + 1 ≤ R.frames ∧ 8 + (3 + 11) + rm_X6_instrumentOfSeat.locals ≤ R.locals) (hf : kc ≤ R.cells ∧ ks ≤ R.slots) (hst : (st.map fun v => v.category).sum ≤ 8) (d : decode cc pc = .ok (.invokevirtual 35, 3)) (h : zk M b = 6 ∧ w_X6_instrumentOfSeat M b y0 y1 P) (kk : ∀ r M', P r M' → J p l e R s m args below meth c Q E nL M' kc ks (pc + 3) lo (.int r :: st)) : J p l e R s m args below meth c Q E nL M kc ks pc lo (.int y1 :: .int y0 :: .ref b :: st) :=
  j_cV_I (n := 2) (As := [.int y0, .int y1]) C co_X6 rfl wd_1151 wd_1152 h.1 (c_X6_instrumentOfSeat l E M b y0 y1 P h.2) ⟨wd_1153, wd_1150, wd_43, by decide +kernel, by decide +kernel, by decide +kernel⟩ rfl rfl hR hf rfl hst d kk
theorem cs_X0_39 (C : Cx p l s m args meth c cc nL RX0 ret E) {b : Nat} {y0 : Nat} {y1 : Int32} {y2 : Int32} {y3 : Int32} {P : Mm → Prop} (hR : rm_X0_fillNextSeat.frames + 1 ≤ R.frames ∧ 8 + (7 + 11) + rm_X0_fillNextSeat.locals ≤ R.locals) (hf : kc ≤ R.cells ∧ ks ≤ R.slots) (hst : (st.map fun v => v.category).sum ≤ 8) (d : decode cc pc = .ok (.invokevirtual 39, 3)) (h : zk M b = 1 ∧ w_X0_fillNextSeat M b y0 y1 y2 y3 P) (kk : ∀ M', P M' → J p l e R s m args below meth c Q E nL M' kc ks (pc + 3) lo st) : J p l e R s m args below meth c Q E nL M kc ks pc lo (.int y3 :: .int y2 :: .int y1 :: .ref y0 :: .ref b :: st) :=
  j_cV_V (n := 4) (As := [.ref y0, .int y1, .int y2, .int y3]) C co_X0 rfl wd_1156 wd_30 h.1 (c_X0_fillNextSeat l E M b y0 y1 y2 y3 P h.2) ⟨wd_1157, wd_1154, wd_41, by decide +kernel, by decide +kernel, by decide +kernel⟩ rfl rfl hR hf rfl hst d kk
abbrev rm_X0_castWork : Room := { frames := 2, cells := 0, slots := 0, locals := 48 }
def l_X0_castWork_15 (P : Int32 → Mm → Prop) (K80 : Mm → Nat → Int32 → Prop) : Nat → Mm → Nat → Nat → Int32 → Int32 → Int32 → Int32 → Prop
  | 0, _, _, _, _, _, _, _ => False
  | n + 1, M, x0, x1, x2, x3, x4, x5 => (if x5 < 0 then K80 M x0 x4 else w_J6_bitCount_0f7a4 M x5 (fun r3 M3 => (if r3 < x4 then (if (x5 &&& (x3 ^^^ (-1 : Int32))) = 0 then zk M3 x1 = 6 ∧ w_X6_instrumentOfSeat M3 x1 x2 r3 (fun r4 M4 => zk M4 x0 = 1 ∧ w_X0_fillNextSeat M4 x0 x1 r4 (x3 &&& (x5 ^^^ (-1 : Int32))) x5 (fun M5 => l_X0_castWork_15 P K80 n M5 x0 x1 x2 x3 x4 (x5 + (-1 : Int32)))) else l_X0_castWork_15 P K80 n M3 x0 x1 x2 x3 x4 (x5 + (-1 : Int32))) else (zk M3 x0 = 1 ∧ ∃ a6, zR M3 x0 1 = some a6 ∧ zk M3 a6 = 10 ∧ vp_in x5 (zl M3 a6) ∧ (∀ M7, M7 = sI M3 a6 x5.toNatClampNeg (0 : Int32) → l_X0_castWork_15 P K80 n M7 x0 x1 x2 x3 x4 (x5 + (-1 : Int32)))))))
set_option maxHeartbeats 4000000 in
set_option maxRecDepth 100000 in
theorem jl_X0_castWork_15 {P : Int32 → Mm → Prop} {K80 : Mm → Nat → Int32 → Prop} (C : Cx p l s m args meth c cX0_castWork 7 RX0 (some .int) E) (hkc : kc ≤ rm_X0_castWork.cells ∧ ks ≤ rm_X0_castWork.slots) (k80 : ∀ M x0 x4, K80 M x0 x4 → J p l e rm_X0_castWork s m args below meth c (QI below E P args s rm_X0_castWork.cells rm_X0_castWork.slots) E 7 M kc ks 80 [(0, .ref x0), (4, .int x4)] []) : ∀ n M x0 x1 x2 x3 x4 x5, l_X0_castWork_15 P K80 n M x0 x1 x2 x3 x4 x5 → J p l e rm_X0_castWork s m args below meth c (QI below E P args s rm_X0_castWork.cells rm_X0_castWork.slots) E 7 M kc ks 15 [(0, .ref x0), (1, .ref x1), (2, .int x2), (3, .int x3), (4, .int x4), (5, .int x5)] [] := by
  intro n
  induction n with
  | zero => intro M x0 x1 x2 x3 x4 x5 h; exact h.elim
  | succ n ih =>
    intro M x0 x1 x2 x3 x4 x5 h
    rw [l_X0_castWork_15] at h
    refine j_iload (pc := 15) C 5 dX0_castWork_15 rfl ?_
    refine j_if_lt (pc := 17) C 80 dX0_castWork_17 (by decide) h (fun h => ?_) (fun h => ?_)
    · exact j_weak [0, 4] rfl (k80 _ _ _ h)
    · refine j_iload (pc := 20) C 5 dX0_castWork_20 rfl ?_
      refine cs_X0_30 (pc := 22) C ⟨Nat.le_of_ble_eq_true rfl, Nat.le_of_ble_eq_true rfl⟩ hkc (Nat.le_of_ble_eq_true rfl) dX0_castWork_22 h (fun r3 M3 h => ?_)
      refine j_istore (pc := 25) C [(6, _), (0, _), (1, _), (2, _), (3, _), (4, _), (5, _)] dX0_castWork_25 (by decide) rfl ?_
      refine j_iload (pc := 27) C 0 dX0_castWork_27 rfl ?_
      refine j_iload (pc := 29) C 5 dX0_castWork_29 rfl ?_
      refine j_icmp_lt (pc := 31) C 45 dX0_castWork_31 (by decide) h (fun h => ?_) (fun h => ?_)
      · refine j_iload (pc := 45) C 6 dX0_castWork_45 rfl ?_
        refine j_iload_n (pc := 47) C 4 dX0_castWork_47 rfl ?_
        refine j_iconst (pc := 48) (v := (-1 : Int32)) C dX0_castWork_48 rfl ?_
        refine j_ixor (pc := 49) C dX0_castWork_49 ?_
        refine j_iand (pc := 50) C dX0_castWork_50 ?_
        refine j_if_ne (pc := 51) C 74 dX0_castWork_51 (by decide) h (fun h => ?_) (fun h => ?_)
        · refine j_iinc (pc := 74) (v := (-1 : Int32)) C 6 [(5, _), (6, _), (0, _), (1, _), (2, _), (3, _), (4, _)] dX0_castWork_74 rfl rfl (by decide) rfl ?_
          refine j_goto (pc := 77) C 15 dX0_castWork_77 (by decide) ?_
          exact j_weak [2, 3, 4, 5, 6, 0] rfl (ih _ _ _ _ _ _ _ h)
        · refine j_aload_n (pc := 54) C 1 dX0_castWork_54 rfl ?_
          refine j_aload_n (pc := 55) C 2 dX0_castWork_55 rfl ?_
          refine j_aload_n (pc := 56) C 2 dX0_castWork_56 rfl ?_
          refine j_iload_n (pc := 57) C 3 dX0_castWork_57 rfl ?_
          refine j_iload (pc := 58) C 0 dX0_castWork_58 rfl ?_
          refine cs_X0_35 (pc := 60) C ⟨Nat.le_of_ble_eq_true rfl, Nat.le_of_ble_eq_true rfl⟩ hkc (Nat.le_of_ble_eq_true rfl) dX0_castWork_60 h (fun r4 M4 h => ?_)
          refine j_iload_n (pc := 63) C 4 dX0_castWork_63 rfl ?_
          refine j_iload (pc := 64) C 6 dX0_castWork_64 rfl ?_
          refine j_iconst (pc := 66) (v := (-1 : Int32)) C dX0_castWork_66 rfl ?_
          refine j_ixor (pc := 67) C dX0_castWork_67 ?_
          refine j_iand (pc := 68) C dX0_castWork_68 ?_
          refine j_iload (pc := 69) C 6 dX0_castWork_69 rfl ?_
          refine cs_X0_39 (pc := 71) C ⟨Nat.le_of_ble_eq_true rfl, Nat.le_of_ble_eq_true rfl⟩ hkc (Nat.le_of_ble_eq_true rfl) dX0_castWork_71 h (fun M5 h => ?_)
          refine j_iinc (pc := 74) (v := (-1 : Int32)) C 6 [(5, _), (6, _), (0, _), (1, _), (2, _), (3, _), (4, _)] dX0_castWork_74 rfl rfl (by decide) rfl ?_
          refine j_goto (pc := 77) C 15 dX0_castWork_77 (by decide) ?_
          exact j_weak [2, 3, 4, 5, 6, 0] rfl (ih _ _ _ _ _ _ _ h)
      · refine j_aload_n (pc := 34) C 1 dX0_castWork_34 rfl ?_
        refine gf_X0_15 (pc := 35) C dX0_castWork_35 h (fun a6 h => ?_)
        refine j_iload (pc := 38) C 6 dX0_castWork_38 rfl ?_
        refine j_iconst (pc := 40) (v := (0 : Int32)) C dX0_castWork_40 rfl ?_
        refine n_iast (pc := 41) C dX0_castWork_41 h (fun M7 h => ?_)
        refine j_goto (pc := 42) C 74 dX0_castWork_42 (by decide) ?_
        refine j_iinc (pc := 74) (v := (-1 : Int32)) C 6 [(5, _), (6, _), (0, _), (1, _), (2, _), (3, _), (4, _)] dX0_castWork_74 rfl rfl (by decide) rfl ?_
        refine j_goto (pc := 77) C 15 dX0_castWork_77 (by decide) ?_
        exact j_weak [2, 3, 4, 5, 6, 0] rfl (ih _ _ _ _ _ _ _ h)
def l_X0_castWork_86 (P : Int32 → Mm → Prop) (K127 : Mm → Nat → Prop) : Nat → Mm → Nat → Int32 → Int32 → Int32 → Prop
  | 0, _, _, _, _, _ => False
  | n + 1, M, x0, x4, x5, x6 => (if x4 ≤ x6 then K127 M x0 else (zk M x0 = 1 ∧ ∃ a9, zR M x0 0 = some a9 ∧ (zk M x0 = 1 ∧ ∃ a10, zR M x0 2 = some a10 ∧ zk M a10 = 10 ∧ vp_in x5 (zl M a10) ∧ zk M a9 = 10 ∧ vp_in x6 (zl M a9) ∧ (∀ M11, M11 = sI M a9 x6.toNatClampNeg (zI M a10 x5.toNatClampNeg) → (zk M11 x0 = 1 ∧ ∃ a12, zR M11 x0 0 = some a12 ∧ zk M11 a12 = 10 ∧ vp_in x6 (zl M11 a12) ∧ l_X0_castWork_86 P K127 n M11 x0 x4 (x5 ||| ((1 : Int32) <<< ((zI M11 a12 x6.toNatClampNeg) &&& 31))) (x6 + (1 : Int32)))))))
set_option maxHeartbeats 4000000 in
set_option maxRecDepth 100000 in
theorem jl_X0_castWork_86 {P : Int32 → Mm → Prop} {K127 : Mm → Nat → Prop} (C : Cx p l s m args meth c cX0_castWork 7 RX0 (some .int) E) (hkc : kc ≤ rm_X0_castWork.cells ∧ ks ≤ rm_X0_castWork.slots) (k127 : ∀ M x0, K127 M x0 → J p l e rm_X0_castWork s m args below meth c (QI below E P args s rm_X0_castWork.cells rm_X0_castWork.slots) E 7 M kc ks 127 [(0, .ref x0)] []) : ∀ n M x0 x4 x5 x6, l_X0_castWork_86 P K127 n M x0 x4 x5 x6 → J p l e rm_X0_castWork s m args below meth c (QI below E P args s rm_X0_castWork.cells rm_X0_castWork.slots) E 7 M kc ks 86 [(0, .ref x0), (4, .int x4), (5, .int x5), (6, .int x6)] [] := by
  intro n
  induction n with
  | zero => intro M x0 x4 x5 x6 h; exact h.elim
  | succ n ih =>
    intro M x0 x4 x5 x6 h
    rw [l_X0_castWork_86] at h
    refine j_iload (pc := 86) C 3 dX0_castWork_86 rfl ?_
    refine j_iload (pc := 88) C 1 dX0_castWork_88 rfl ?_
    refine j_icmp_ge (pc := 90) C 127 dX0_castWork_90 (by decide) h (fun h => ?_) (fun h => ?_)
    · exact j_weak [0] rfl (k127 _ _ h)
    · refine j_aload_n (pc := 93) C 0 dX0_castWork_93 rfl ?_
      refine gf_X0_9 (pc := 94) C dX0_castWork_94 h (fun a9 h => ?_)
      refine j_iload (pc := 97) C 3 dX0_castWork_97 rfl ?_
      refine j_aload_n (pc := 99) C 0 dX0_castWork_99 rfl ?_
      refine gf_X0_18 (pc := 100) C dX0_castWork_100 h (fun a10 h => ?_)
      refine j_iload (pc := 103) C 2 dX0_castWork_103 rfl ?_
      refine j_iald (pc := 105) C dX0_castWork_105 h (fun h => ?_)
      refine n_iast (pc := 106) C dX0_castWork_106 h (fun M11 h => ?_)
      refine j_iload (pc := 107) C 2 dX0_castWork_107 rfl ?_
      refine j_iconst (pc := 109) (v := (1 : Int32)) C dX0_castWork_109 rfl ?_
      refine j_aload_n (pc := 110) C 0 dX0_castWork_110 rfl ?_
      refine gf_X0_9 (pc := 111) C dX0_castWork_111 h (fun a12 h => ?_)
      refine j_iload (pc := 114) C 3 dX0_castWork_114 rfl ?_
      refine j_iald (pc := 116) C dX0_castWork_116 h (fun h => ?_)
      refine j_ishl (pc := 117) C dX0_castWork_117 ?_
      refine j_ior (pc := 118) C dX0_castWork_118 ?_
      refine j_istore (pc := 119) C [(5, _), (0, _), (4, _), (6, _)] dX0_castWork_119 (by decide) rfl ?_
      refine j_iinc (pc := 121) (v := (1 : Int32)) C 3 [(6, _), (5, _), (0, _), (4, _)] dX0_castWork_121 rfl rfl (by decide) rfl ?_
      refine j_goto (pc := 124) C 86 dX0_castWork_124 (by decide) ?_
      exact j_weak [2, 3, 1, 0] rfl (ih _ _ _ _ _ h)
def w_X0_castWork (M : Mm) (x0 : Nat) (x1 : Nat) (x2 : Int32) (x3 : Int32) (P : Int32 → Mm → Prop) : Prop := (zk M x1 = 6 ∧ ∃ a1, zR M x1 17 = some a1 ∧ zk M a1 = 10 ∧ vp_in x2 (zl M a1) ∧ w_X7_firstBits M (8 : Int32) (fun r2 M2 => (∃ n15, l_X0_castWork_15 P (fun M8 x0_8 x4_8 => (∃ n86, l_X0_castWork_86 P (fun M13 x0_13 => (zk M13 x0_13 = 1 ∧ ∃ a14, zR M13 x0_13 1 = some a14 ∧ zk M13 a14 = 10 ∧ vp_in (0 : Int32) (zl M13 a14) ∧ (if (zI M13 a14 (0 : Int32).toNatClampNeg) < (100 : Int32) then (zk M13 x0_13 = 1 ∧ ∃ a15, zR M13 x0_13 1 = some a15 ∧ zk M13 a15 = 10 ∧ vp_in (0 : Int32) (zl M13 a15) ∧ P (zI M13 a15 (0 : Int32).toNatClampNeg) M13) else P (-1 : Int32) M13))) n86 M8 x0_8 x4_8 (0 : Int32) (0 : Int32))) n15 M2 x0 x1 x2 x3 (zI M a1 x2.toNatClampNeg) r2)))
set_option maxHeartbeats 4000000 in
set_option maxRecDepth 100000 in
theorem c_X0_castWork (l : Launch) (E : EV) (M : Mm) (x0 : Nat) (x1 : Nat) (x2 : Int32) (x3 : Int32) (P : Int32 → Mm → Prop) (h : w_X0_castWork M x0 x1 x2 x3 P) : CtI l E yX0_castWork cX0_castWork 7 .int rm_X0_castWork 0 0 [.ref x0, .ref x1, .int x2, .int x3] M P := by
  refine ctI_of (by decide +kernel) (Nat.le_of_ble_eq_true rfl) ?_
  intro p e s m args below meth c C
  rw [w_X0_castWork] at h
  show J p l e rm_X0_castWork s m args below meth c (QI below E P args s 0 0) E 7 M 0 0 0 [(0, .ref x0), (1, .ref x1), (2, .int x2), (3, .int x3)] []
  refine j_aload_n (pc := 0) C 1 dX0_castWork_0 rfl ?_
  refine gf_X0_21 (pc := 1) C dX0_castWork_1 h (fun a1 h => ?_)
  refine j_iload_n (pc := 4) C 2 dX0_castWork_4 rfl ?_
  refine j_iald (pc := 5) C dX0_castWork_5 h (fun h => ?_)
  refine j_istore (pc := 6) C [(4, _), (0, _), (1, _), (2, _), (3, _)] dX0_castWork_6 (by decide) rfl ?_
  refine j_bipush (pc := 8) (v := (8 : Int32)) C dX0_castWork_8 rfl ?_
  refine cs_X0_26 (pc := 10) C ⟨Nat.le_of_ble_eq_true rfl, Nat.le_of_ble_eq_true rfl⟩ ⟨Nat.le_of_ble_eq_true rfl, Nat.le_of_ble_eq_true rfl⟩ (Nat.le_of_ble_eq_true rfl) dX0_castWork_10 h (fun r2 M2 h => ?_)
  refine j_istore (pc := 13) C [(5, _), (4, _), (0, _), (1, _), (2, _), (3, _)] dX0_castWork_13 (by decide) rfl ?_
  obtain ⟨n15, h⟩ := h
  refine j_weak [2, 3, 4, 5, 1, 0] rfl (jl_X0_castWork_15 C ⟨Nat.le_of_ble_eq_true rfl, Nat.le_of_ble_eq_true rfl⟩ (fun M8 x0_8 x4_8 h => ?_) n15 _ _ _ _ _ _ _ h)
  · refine j_iconst (pc := 80) (v := (0 : Int32)) C dX0_castWork_80 rfl ?_
    refine j_istore (pc := 81) C [(5, _), (0, _), (4, _)] dX0_castWork_81 (by decide) rfl ?_
    refine j_iconst (pc := 83) (v := (0 : Int32)) C dX0_castWork_83 rfl ?_
    refine j_istore (pc := 84) C [(6, _), (5, _), (0, _), (4, _)] dX0_castWork_84 (by decide) rfl ?_
    obtain ⟨n86, h⟩ := h
    refine j_weak [2, 3, 1, 0] rfl (jl_X0_castWork_86 C ⟨Nat.le_of_ble_eq_true rfl, Nat.le_of_ble_eq_true rfl⟩ (fun M13 x0_13 h => ?_) n86 _ _ _ _ _ h)
    · refine j_aload_n (pc := 127) C 0 dX0_castWork_127 rfl ?_
      refine gf_X0_15 (pc := 128) C dX0_castWork_128 h (fun a14 h => ?_)
      refine j_iconst (pc := 131) (v := (0 : Int32)) C dX0_castWork_131 rfl ?_
      refine j_iald (pc := 132) C dX0_castWork_132 h (fun h => ?_)
      refine j_bipush (pc := 133) (v := (100 : Int32)) C dX0_castWork_133 rfl ?_
      refine j_icmp_lt (pc := 135) C 142 dX0_castWork_135 (by decide) h (fun h => ?_) (fun h => ?_)
      · refine j_aload_n (pc := 142) C 0 dX0_castWork_142 rfl ?_
        refine gf_X0_15 (pc := 143) C dX0_castWork_143 h (fun a15 h => ?_)
        refine j_iconst (pc := 146) (v := (0 : Int32)) C dX0_castWork_146 rfl ?_
        refine j_iald (pc := 147) C dX0_castWork_147 h (fun h => ?_)
        exact j_iret (pc := 148) C dX0_castWork_148 (Nat.le_of_ble_eq_true rfl) (Nat.le_of_ble_eq_true rfl) h
      · refine j_iconst (pc := 138) (v := (-1 : Int32)) C dX0_castWork_138 rfl ?_
        refine j_goto (pc := 139) C 148 dX0_castWork_139 (by decide) ?_
        exact j_iret (pc := 148) C dX0_castWork_148 (Nat.le_of_ble_eq_true rfl) (Nat.le_of_ble_eq_true rfl) h
end GW8
