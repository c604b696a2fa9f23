/-! written by a program (wip/p34/gen.py) out of the decode rows and the tables: walks of X1 -/

section GW9
variable {p : Program} {l : Launch} {e : Env} {R : Room} {s : State} {m : MethodId} {args : Array Value} {below : List Frame} {meth : Method} {c : Code} {Q : State → Prop} {cc : ByteArray} {nL : Nat} {ret : Option FieldType} {E : EV} {M : Mm} {kc ks pc : Nat} {lo : List (Nat × Value)} {st : List Value}
theorem cs_X1_89 (C : Cx p l s m args meth c cc nL RX1 ret E) {b : Nat} {y0 : Int32} {y1 : Int32} {y2 : Int32} {P : Int32 → Mm → Prop} (hR : rm_X4_playerOn.frames + 1 ≤ R.frames ∧ 8 + (4 + 11) + rm_X4_playerOn.locals ≤ R.locals) (hf : kc ≤ R.cells ∧ ks ≤ R.slots) (hst : (st.map fun v => v.category).sum ≤ 8) (d : decode cc pc = .ok (.invokevirtual 89, 3)) (h : zk M b = 4 ∧ w_X4_playerOn M b y0 y1 y2 P) (kk : ∀ r M', P r M' → J p l e R s m args below meth c Q E nL M' kc ks (pc + 3) lo (.int r :: st)) : J p l e R s m args below meth c Q E nL M kc ks pc lo (.int y2 :: .int y1 :: .int y0 :: .ref b :: st) :=
  j_cV_I (n := 3) (As := [.int y0, .int y1, .int y2]) C co_X4 rfl wd_1212 wd_1213 h.1 (c_X4_playerOn l E M b y0 y1 y2 P h.2) ⟨wd_1214, wd_1211, wd_42, by decide +kernel, by decide +kernel, by decide +kernel⟩ rfl rfl hR hf rfl hst d kk
theorem cs_X1_44 (C : Cx p l s m args meth c cc nL RX1 ret E) {y0 : Int32} {y1 : Int32} {P : Int32 → Mm → Prop} (hR : rm_X7_has.frames + 1 ≤ R.frames ∧ 8 + (2 + 11) + rm_X7_has.locals ≤ R.locals) (hf : kc ≤ R.cells ∧ ks ≤ R.slots) (hst : (st.map fun v => v.category).sum ≤ 8) (d : decode cc pc = .ok (.invokestatic 44, 3)) (h : w_X7_has M y0 y1 P) (kk : ∀ r M', P r M' → J p l e R s m args below meth c Q E nL M' kc ks (pc + 3) lo (.int r :: st)) : J p l e R s m args below meth c Q E nL M kc ks pc lo (.int y1 :: .int y0 :: st) :=
  j_cSN_I (n := 2) (As := [.int y0, .int y1]) C wd_901 (c_X7_has l E M y0 y1 P h) ⟨wd_902, nw_1215, wd_40, by decide +kernel, by decide +kernel, by decide +kernel⟩ rfl rfl hR hf rfl hst d kk
theorem cs_X1_93 (C : Cx p l s m args meth c cc nL RX1 ret E) {b : Nat} {y0 : Int32} {y1 : Int32} {P : Int32 → Mm → Prop} (hR : rm_X6_instrumentOfSeat.frames + 1 ≤ R.frames ∧ 8 + (3 + 11) + rm_X6_instrumentOfSeat.locals ≤ R.locals) (hf : kc ≤ R.cells ∧ ks ≤ R.slots) (hst : (st.map fun v => v.category).sum ≤ 8) (d : decode cc pc = .ok (.invokevirtual 93, 3)) (h : zk M b = 6 ∧ w_X6_instrumentOfSeat M b y0 y1 P) (kk : ∀ r M', P r M' → J p l e R s m args below meth c Q E nL M' kc ks (pc + 3) lo (.int r :: st)) : J p l e R s m args below meth c Q E nL M kc ks pc lo (.int y1 :: .int y0 :: .ref b :: st) :=
  j_cV_I (n := 2) (As := [.int y0, .int y1]) C co_X6 rfl wd_1151 wd_1152 h.1 (c_X6_instrumentOfSeat l E M b y0 y1 P h.2) ⟨wd_1153, wd_1216, wd_43, by decide +kernel, by decide +kernel, by decide +kernel⟩ rfl rfl hR hf rfl hst d kk
theorem cs_X1_96 (C : Cx p l s m args meth c cc nL RX1 ret E) {b : Nat} {y0 : Int32} {y1 : Int32} {P : Int32 → Mm → Prop} (hR : rm_X6_doublingOn.frames + 1 ≤ R.frames ∧ 8 + (3 + 11) + rm_X6_doublingOn.locals ≤ R.locals) (hf : kc ≤ R.cells ∧ ks ≤ R.slots) (hst : (st.map fun v => v.category).sum ≤ 8) (d : decode cc pc = .ok (.invokevirtual 96, 3)) (h : zk M b = 6 ∧ w_X6_doublingOn M b y0 y1 P) (kk : ∀ r M', P r M' → J p l e R s m args below meth c Q E nL M' kc ks (pc + 3) lo (.int r :: st)) : J p l e R s m args below meth c Q E nL M kc ks pc lo (.int y1 :: .int y0 :: .ref b :: st) :=
  j_cV_I (n := 2) (As := [.int y0, .int y1]) C co_X6 rfl wd_1160 wd_1161 h.1 (c_X6_doublingOn l E M b y0 y1 P h.2) ⟨wd_1162, wd_1217, wd_43, by decide +kernel, by decide +kernel, by decide +kernel⟩ rfl rfl hR hf rfl hst d kk
abbrev rm_X1_doublingsBy : Room := { frames := 2, cells := 0, slots := 0, locals := 44 }
def l_X1_doublingsBy_21 (P : Int32 → Mm → Prop) (K84 : Mm → Nat → Nat → Int32 → Int32 → Int32 → Int32 → Prop) : Nat → Mm → Nat → Nat → Int32 → Int32 → Int32 → Int32 → Int32 → Prop
  | 0, _, _, _, _, _, _, _, _ => False
  | n + 1, M, x0, x1, x2, x3, x4, x5, x6 => (zk M x0 = 6 ∧ ∃ a2, zR M x0 17 = some a2 ∧ zk M a2 = 10 ∧ vp_in x5 (zl M a2) ∧ (if (zI M a2 x5.toNatClampNeg) ≤ x6 then K84 M x0 x1 x2 x3 x4 x5 else zk M x1 = 4 ∧ w_X4_playerOn M x1 x2 x5 x6 (fun r3 M3 => (if r3 = (-1 : Int32) then l_X1_doublingsBy_21 P K84 n M3 x0 x1 x2 x3 x4 x5 (x6 + (1 : Int32)) else w_X7_has M3 x3 r3 (fun r4 M4 => (if r4 = 0 then l_X1_doublingsBy_21 P K84 n M4 x0 x1 x2 x3 x4 x5 (x6 + (1 : Int32)) else zk M4 x0 = 6 ∧ w_X6_instrumentOfSeat M4 x0 x5 x6 (fun r5 M5 => zk M5 x0 = 6 ∧ w_X6_doublingOn M5 x0 r3 r5 (fun r6 M6 => l_X1_doublingsBy_21 P K84 n M6 x0 x1 x2 x3 (x4 + r6) x5 (x6 + (1 : Int32))))))))))
set_option maxHeartbeats 4000000 in
set_option maxRecDepth 100000 in
theorem jl_X1_doublingsBy_21 {P : Int32 → Mm → Prop} {K84 : Mm → Nat → Nat → Int32 → Int32 → Int32 → Int32 → Prop} (C : Cx p l s m args meth c cX1_doublingsBy 8 RX1 (some .int) E) (hkc : kc ≤ rm_X1_doublingsBy.cells ∧ ks ≤ rm_X1_doublingsBy.slots) (k84 : ∀ M x0 x1 x2 x3 x4 x5, K84 M x0 x1 x2 x3 x4 x5 → J p l e rm_X1_doublingsBy s m args below meth c (QI below E P args s rm_X1_doublingsBy.cells rm_X1_doublingsBy.slots) E 8 M kc ks 84 [(0, .ref x0), (1, .ref x1), (2, .int x2), (3, .int x3), (4, .int x4), (5, .int x5)] []) : ∀ n M x0 x1 x2 x3 x4 x5 x6, l_X1_doublingsBy_21 P K84 n M x0 x1 x2 x3 x4 x5 x6 → J p l e rm_X1_doublingsBy s m args below meth c (QI below E P args s rm_X1_doublingsBy.cells rm_X1_doublingsBy.slots) E 8 M kc ks 21 [(0, .ref x0), (1, .ref x1), (2, .int x2), (3, .int x3), (4, .int x4), (5, .int x5), (6, .int x6)] [] := by
  intro n
  induction n with
  | zero => intro M x0 x1 x2 x3 x4 x5 x6 h; exact h.elim
  | succ n ih =>
    intro M x0 x1 x2 x3 x4 x5 x6 h
    rw [l_X1_doublingsBy_21] at h
    refine j_iload (pc := 21) C 6 dX1_doublingsBy_21 rfl ?_
    refine j_aload_n (pc := 23) C 0 dX1_doublingsBy_23 rfl ?_
    refine gf_X1_86 (pc := 24) C dX1_doublingsBy_24 h (fun a2 h => ?_)
    refine j_iload (pc := 27) C 5 dX1_doublingsBy_27 rfl ?_
    refine j_iald (pc := 29) C dX1_doublingsBy_29 h (fun h => ?_)
    refine j_icmp_ge (pc := 30) C 84 dX1_doublingsBy_30 (by decide) h (fun h => ?_) (fun h => ?_)
    · exact j_weak [0, 1, 2, 3, 4, 5] rfl (k84 _ _ _ _ _ _ _ h)
    · refine j_aload_n (pc := 33) C 1 dX1_doublingsBy_33 rfl ?_
      refine j_iload_n (pc := 34) C 2 dX1_doublingsBy_34 rfl ?_
      refine j_iload (pc := 35) C 5 dX1_doublingsBy_35 rfl ?_
      refine j_iload (pc := 37) C 6 dX1_doublingsBy_37 rfl ?_
      refine cs_X1_89 (pc := 39) C ⟨Nat.le_of_ble_eq_true rfl, Nat.le_of_ble_eq_true rfl⟩ hkc (Nat.le_of_ble_eq_true rfl) dX1_doublingsBy_39 h (fun r3 M3 h => ?_)
      refine j_istore (pc := 42) C [(7, _), (0, _), (1, _), (2, _), (3, _), (4, _), (5, _), (6, _)] dX1_doublingsBy_42 (by decide) rfl ?_
      refine j_iload (pc := 44) C 0 dX1_doublingsBy_44 rfl ?_
      refine j_iconst (pc := 46) (v := (-1 : Int32)) C dX1_doublingsBy_46 rfl ?_
      refine j_icmp_eq (pc := 47) C 78 dX1_doublingsBy_47 (by decide) h (fun h => ?_) (fun h => ?_)
      · refine j_iinc (pc := 78) (v := (1 : Int32)) C 7 [(6, _), (7, _), (0, _), (1, _), (2, _), (3, _), (4, _), (5, _)] dX1_doublingsBy_78 rfl rfl (by decide) rfl ?_
        refine j_goto (pc := 81) C 21 dX1_doublingsBy_81 (by decide) ?_
        exact j_weak [2, 3, 4, 5, 6, 7, 0] rfl (ih _ _ _ _ _ _ _ _ h)
      · refine j_iload_n (pc := 50) C 4 dX1_doublingsBy_50 rfl ?_
        refine j_iload (pc := 51) C 0 dX1_doublingsBy_51 rfl ?_
        refine cs_X1_44 (pc := 53) C ⟨Nat.le_of_ble_eq_true rfl, Nat.le_of_ble_eq_true rfl⟩ hkc (Nat.le_of_ble_eq_true rfl) dX1_doublingsBy_53 h (fun r4 M4 h => ?_)
        refine j_if_eq (pc := 56) C 78 dX1_doublingsBy_56 (by decide) h (fun h => ?_) (fun h => ?_)
        · refine j_iinc (pc := 78) (v := (1 : Int32)) C 7 [(6, _), (7, _), (0, _), (1, _), (2, _), (3, _), (4, _), (5, _)] dX1_doublingsBy_78 rfl rfl (by decide) rfl ?_
          refine j_goto (pc := 81) C 21 dX1_doublingsBy_81 (by decide) ?_
          exact j_weak [2, 3, 4, 5, 6, 7, 0] rfl (ih _ _ _ _ _ _ _ _ h)
        · refine j_iload (pc := 59) C 5 dX1_doublingsBy_59 rfl ?_
          refine j_aload_n (pc := 61) C 1 dX1_doublingsBy_61 rfl ?_
          refine j_iload (pc := 62) C 0 dX1_doublingsBy_62 rfl ?_
          refine j_aload_n (pc := 64) C 1 dX1_doublingsBy_64 rfl ?_
          refine j_iload (pc := 65) C 6 dX1_doublingsBy_65 rfl ?_
          refine j_iload (pc := 67) C 7 dX1_doublingsBy_67 rfl ?_
          refine cs_X1_93 (pc := 69) C ⟨Nat.le_of_ble_eq_true rfl, Nat.le_of_ble_eq_true rfl⟩ hkc (Nat.le_of_ble_eq_true rfl) dX1_doublingsBy_69 h (fun r5 M5 h => ?_)
          refine cs_X1_96 (pc := 72) C ⟨Nat.le_of_ble_eq_true rfl, Nat.le_of_ble_eq_true rfl⟩ hkc (Nat.le_of_ble_eq_true rfl) dX1_doublingsBy_72 h (fun r6 M6 h => ?_)
          refine j_iadd (pc := 75) C dX1_doublingsBy_75 ?_
          refine j_istore (pc := 76) C [(4, _), (7, _), (0, _), (1, _), (2, _), (3, _), (5, _), (6, _)] dX1_doublingsBy_76 (by decide) rfl ?_
          refine j_iinc (pc := 78) (v := (1 : Int32)) C 7 [(6, _), (4, _), (7, _), (0, _), (1, _), (2, _), (3, _), (5, _)] dX1_doublingsBy_78 rfl rfl (by decide) rfl ?_
          refine j_goto (pc := 81) C 21 dX1_doublingsBy_81 (by decide) ?_
          exact j_weak [3, 4, 5, 6, 1, 7, 0] rfl (ih _ _ _ _ _ _ _ _ h)
def l_X1_doublingsBy_6 (P : Int32 → Mm → Prop) (K90 : Mm → Int32 → Prop) : Nat → Mm → Nat → Nat → Int32 → Int32 → Int32 → Int32 → Prop
  | 0, _, _, _, _, _, _, _ => False
  | n + 1, M, x0, x1, x2, x3, x4, x5 => (zk M x0 = 6 ∧ ∃ a1, zR M x0 12 = some a1 ∧ zk M a1 = 2 ∧ (if (zI M a1 1) ≤ x5 then K90 M x4 else (∃ n21, l_X1_doublingsBy_21 P (fun M7 x0_7 x1_7 x2_7 x3_7 x4_7 x5_7 => l_X1_doublingsBy_6 P K90 n M7 x0_7 x1_7 x2_7 x3_7 x4_7 (x5_7 + (1 : Int32))) n21 M x0 x1 x2 x3 x4 x5 (0 : Int32))))
set_option maxHeartbeats 4000000 in
set_option maxRecDepth 100000 in
theorem jl_X1_doublingsBy_6 {P : Int32 → Mm → Prop} {K90 : Mm → Int32 → Prop} (C : Cx p l s m args meth c cX1_doublingsBy 8 RX1 (some .int) E) (hkc : kc ≤ rm_X1_doublingsBy.cells ∧ ks ≤ rm_X1_doublingsBy.slots) (k90 : ∀ M x4, K90 M x4 → J p l e rm_X1_doublingsBy s m args below meth c (QI below E P args s rm_X1_doublingsBy.cells rm_X1_doublingsBy.slots) E 8 M kc ks 90 [(4, .int x4)] []) : ∀ n M x0 x1 x2 x3 x4 x5, l_X1_doublingsBy_6 P K90 n M x0 x1 x2 x3 x4 x5 → J p l e rm_X1_doublingsBy s m args below meth c (QI below E P args s rm_X1_doublingsBy.cells rm_X1_doublingsBy.slots) E 8 M kc ks 6 [(0, .ref x0), (1, .ref x1), (2, .int x2), (3, .int x3), (4, .int x4), (5, .int x5)] [] := by
  intro n
  induction n with
  | zero => intro M x0 x1 x2 x3 x4 x5 h; exact h.elim
  | succ n ih =>
    intro M x0 x1 x2 x3 x4 x5 h
    rw [l_X1_doublingsBy_6] at h
    refine j_iload (pc := 6) C 5 dX1_doublingsBy_6 rfl ?_
    refine j_aload_n (pc := 8) C 0 dX1_doublingsBy_8 rfl ?_
    refine gf_X1_21 (pc := 9) C dX1_doublingsBy_9 h (fun a1 h => ?_)
    refine gf_X1_27 (pc := 12) C dX1_doublingsBy_12 h (fun h => ?_)
    refine j_icmp_ge (pc := 15) C 90 dX1_doublingsBy_15 (by decide) h (fun h => ?_) (fun h => ?_)
    · exact j_weak [4] rfl (k90 _ _ h)
    · refine j_iconst (pc := 18) (v := (0 : Int32)) C dX1_doublingsBy_18 rfl ?_
      refine j_istore (pc := 19) C [(6, _), (0, _), (1, _), (2, _), (3, _), (4, _), (5, _)] dX1_doublingsBy_19 (by decide) rfl ?_
      obtain ⟨n21, h⟩ := h
      refine j_weak [1, 2, 3, 4, 5, 6, 0] rfl (jl_X1_doublingsBy_21 C hkc (fun M7 x0_7 x1_7 x2_7 x3_7 x4_7 x5_7 h => ?_) n21 _ _ _ _ _ _ _ _ h)
      · refine j_iinc (pc := 84) (v := (1 : Int32)) C 5 [(5, _), (0, _), (1, _), (2, _), (3, _), (4, _)] dX1_doublingsBy_84 rfl rfl (by decide) rfl ?_
        refine j_goto (pc := 87) C 6 dX1_doublingsBy_87 (by decide) ?_
        exact j_weak [1, 2, 3, 4, 5, 0] rfl (ih _ _ _ _ _ _ _ h)
def w_X1_doublingsBy (M : Mm) (x0 : Nat) (x1 : Nat) (x2 : Int32) (x3 : Int32) (P : Int32 → Mm → Prop) : Prop := (∃ n6, l_X1_doublingsBy_6 P (fun M8 x4_8 => P x4_8 M8) n6 M x0 x1 x2 x3 (0 : Int32) (0 : Int32))
set_option maxHeartbeats 4000000 in
set_option maxRecDepth 100000 in
theorem c_X1_doublingsBy (l : Launch) (E : EV) (M : Mm) (x0 : Nat) (x1 : Nat) (x2 : Int32) (x3 : Int32) (P : Int32 → Mm → Prop) (h : w_X1_doublingsBy M x0 x1 x2 x3 P) : CtI l E yX1_doublingsBy cX1_doublingsBy 8 .int rm_X1_doublingsBy 0 0 [.ref x0, .ref x1, .int x2, .int x3] M P := by
  refine ctI_of (by decide +kernel) (Nat.le_of_ble_eq_true rfl) ?_
  intro p e s m args below meth c C
  rw [w_X1_doublingsBy] at h
  show J p l e rm_X1_doublingsBy s m args below meth c (QI below E P args s 0 0) E 8 M 0 0 0 [(0, .ref x0), (1, .ref x1), (2, .int x2), (3, .int x3)] []
  refine j_iconst (pc := 0) (v := (0 : Int32)) C dX1_doublingsBy_0 rfl ?_
  refine j_istore (pc := 1) C [(4, _), (0, _), (1, _), (2, _), (3, _)] dX1_doublingsBy_1 (by decide) rfl ?_
  refine j_iconst (pc := 3) (v := (0 : Int32)) C dX1_doublingsBy_3 rfl ?_
  refine j_istore (pc := 4) C [(5, _), (4, _), (0, _), (1, _), (2, _), (3, _)] dX1_doublingsBy_4 (by decide) rfl ?_
  obtain ⟨n6, h⟩ := h
  refine j_weak [2, 3, 4, 5, 1, 0] rfl (jl_X1_doublingsBy_6 C ⟨Nat.le_of_ble_eq_true rfl, Nat.le_of_ble_eq_true rfl⟩ (fun M8 x4_8 h => ?_) n6 _ _ _ _ _ _ _ h)
  · refine j_iload (pc := 90) C 0 dX1_doublingsBy_90 rfl ?_
    exact j_iret (pc := 92) C dX1_doublingsBy_92 (Nat.le_of_ble_eq_true rfl) (Nat.le_of_ble_eq_true rfl) h
theorem cs_X1_79 (C : Cx p l s m args meth c cc nL RX1 ret E) {y0 : Int32} {P : Int32 → Mm → Prop} (hR : rm_X7_firstBits.frames + 1 ≤ R.frames ∧ 8 + (1 + 11) + rm_X7_firstBits.locals ≤ R.locals) (hf : kc ≤ R.cells ∧ ks ≤ R.slots) (hst : (st.map fun v => v.category).sum ≤ 8) (d : decode cc pc = .ok (.invokestatic 79, 3)) (h : w_X7_firstBits M y0 P) (kk : ∀ r M', P r M' → J p l e R s m args below meth c Q E nL M' kc ks (pc + 3) lo (.int r :: st)) : J p l e R s m args below meth c Q E nL M kc ks pc lo (.int y0 :: st) :=
  j_cSN_I (n := 1) (As := [.int y0]) C wd_1142 (c_X7_firstBits l E M y0 P h) ⟨wd_1143, nw_1207, wd_40, by decide +kernel, by decide +kernel, by decide +kernel⟩ rfl rfl hR hf rfl hst d kk
theorem cs_X1_82 (C : Cx p l s m args meth c cc nL RX1 ret E) {y0 : Nat} {y1 : Nat} {y2 : Int32} {y3 : Int32} {P : Int32 → Mm → Prop} (hR : rm_X1_doublingsBy.frames + 1 ≤ R.frames ∧ 8 + (8 + 11) + rm_X1_doublingsBy.locals ≤ R.locals) (hf : kc ≤ R.cells ∧ ks ≤ R.slots) (hst : (st.map fun v => v.category).sum ≤ 8) (d : decode cc pc = .ok (.invokestatic 82, 3)) (h : w_X1_doublingsBy M y0 y1 y2 y3 P) (kk : ∀ r M', P r M' → J p l e R s m args below meth c Q E nL M' kc ks (pc + 3) lo (.int r :: st)) : J p l e R s m args below meth c Q E nL M kc ks pc lo (.int y3 :: .int y2 :: .ref y1 :: .ref y0 :: st) :=
  j_cS_I (n := 4) (As := [.ref y0, .ref y1, .int y2, .int y3]) C wd_1209 (c_X1_doublingsBy l E M y0 y1 y2 y3 P h) ⟨wd_1210, wd_1208, wd_65, by decide +kernel, by decide +kernel, by decide +kernel⟩ rfl rfl hR hf rfl hst d kk
abbrev rm_X1_doublingsIn : Room := { frames := 3, cells := 0, slots := 0, locals := 71 }
def w_X1_doublingsIn (M : Mm) (x0 : Nat) (x1 : Nat) (x2 : Int32) (P : Int32 → Mm → Prop) : Prop := w_X7_firstBits M (8 : Int32) (fun r1 M1 => w_X1_doublingsBy M1 x0 x1 x2 r1 (fun r2 M2 => P r2 M2))
set_option maxHeartbeats 4000000 in
set_option maxRecDepth 100000 in
theorem c_X1_doublingsIn (l : Launch) (E : EV) (M : Mm) (x0 : Nat) (x1 : Nat) (x2 : Int32) (P : Int32 → Mm → Prop) (h : w_X1_doublingsIn M x0 x1 x2 P) : CtI l E yX1_doublingsIn cX1_doublingsIn 3 .int rm_X1_doublingsIn 0 0 [.ref x0, .ref x1, .int x2] M P := by
  refine ctI_of (by decide +kernel) (Nat.le_of_ble_eq_true rfl) ?_
  intro p e s m args below meth c C
  rw [w_X1_doublingsIn] at h
  show J p l e rm_X1_doublingsIn s m args below meth c (QI below E P args s 0 0) E 3 M 0 0 0 [(0, .ref x0), (1, .ref x1), (2, .int x2)] []
  refine j_aload_n (pc := 0) C 0 dX1_doublingsIn_0 rfl ?_
  refine j_aload_n (pc := 1) C 1 dX1_doublingsIn_1 rfl ?_
  refine j_iload_n (pc := 2) C 2 dX1_doublingsIn_2 rfl ?_
  refine j_bipush (pc := 3) (v := (8 : Int32)) C dX1_doublingsIn_3 rfl ?_
  refine cs_X1_79 (pc := 5) C ⟨Nat.le_of_ble_eq_true rfl, Nat.le_of_ble_eq_true rfl⟩ ⟨Nat.le_of_ble_eq_true rfl, Nat.le_of_ble_eq_true rfl⟩ (Nat.le_of_ble_eq_true rfl) dX1_doublingsIn_5 h (fun r1 M1 h => ?_)
  refine cs_X1_82 (pc := 8) C ⟨Nat.le_of_ble_eq_true rfl, Nat.le_of_ble_eq_true rfl⟩ ⟨Nat.le_of_ble_eq_true rfl, Nat.le_of_ble_eq_true rfl⟩ (Nat.le_of_ble_eq_true rfl) dX1_doublingsIn_8 h (fun r2 M2 h => ?_)
  exact j_iret (pc := 11) C dX1_doublingsIn_11 (Nat.le_of_ble_eq_true rfl) (Nat.le_of_ble_eq_true rfl) h
theorem cs_X1_73 (C : Cx p l s m args meth c cc nL RX1 ret E) {y0 : Nat} {y1 : Nat} {y2 : Int32} {P : Int32 → Mm → Prop} (hR : rm_X1_doublingsIn.frames + 1 ≤ R.frames ∧ 8 + (3 + 11) + rm_X1_doublingsIn.locals ≤ R.locals) (hf : kc ≤ R.cells ∧ ks ≤ R.slots) (hst : (st.map fun v => v.category).sum ≤ 8) (d : decode cc pc = .ok (.invokestatic 73, 3)) (h : w_X1_doublingsIn M y0 y1 y2 P) (kk : ∀ r M', P r M' → J p l e R s m args below meth c Q E nL M' kc ks (pc + 3) lo (.int r :: st)) : J p l e R s m args below meth c Q E nL M kc ks pc lo (.int y2 :: .ref y1 :: .ref y0 :: st) :=
  j_cS_I (n := 3) (As := [.ref y0, .ref y1, .int y2]) C wd_1205 (c_X1_doublingsIn l E M y0 y1 y2 P h) ⟨wd_1206, wd_1343, wd_65, by decide +kernel, by decide +kernel, by decide +kernel⟩ rfl rfl hR hf rfl hst d kk
abbrev rm_X1_doublings : Room := { frames := 4, cells := 0, slots := 0, locals := 93 }
def l_X1_doublings_4 (P : Int32 → Mm → Prop) (K27 : Mm → Nat → Int32 → Prop) : Nat → Mm → Nat → Nat → Int32 → Int32 → Prop
  | 0, _, _, _, _, _ => False
  | n + 1, M, x0, x1, x2, x3 => zk M x1 = 4 ∧ (if (zI M x1 0) ≤ x3 then K27 M x0 x2 else w_X1_doublingsIn M x0 x1 x3 (fun r1 M1 => l_X1_doublings_4 P K27 n M1 x0 x1 (x2 + r1) (x3 + (1 : Int32))))
set_option maxHeartbeats 4000000 in
set_option maxRecDepth 100000 in
theorem jl_X1_doublings_4 {P : Int32 → Mm → Prop} {K27 : Mm → Nat → Int32 → Prop} (C : Cx p l s m args meth c cX1_doublings 4 RX1 (some .int) E) (hkc : kc ≤ rm_X1_doublings.cells ∧ ks ≤ rm_X1_doublings.slots) (k27 : ∀ M x0 x2, K27 M x0 x2 → J p l e rm_X1_doublings s m args below meth c (QI below E P args s rm_X1_doublings.cells rm_X1_doublings.slots) E 4 M kc ks 27 [(0, .ref x0), (2, .int x2)] []) : ∀ n M x0 x1 x2 x3, l_X1_doublings_4 P K27 n M x0 x1 x2 x3 → J p l e rm_X1_doublings s m args below meth c (QI below E P args s rm_X1_doublings.cells rm_X1_doublings.slots) E 4 M kc ks 4 [(0, .ref x0), (1, .ref x1), (2, .int x2), (3, .int x3)] [] := by
  intro n
  induction n with
  | zero => intro M x0 x1 x2 x3 h; exact h.elim
  | succ n ih =>
    intro M x0 x1 x2 x3 h
    rw [l_X1_doublings_4] at h
    refine j_iload_n (pc := 4) C 3 dX1_doublings_4 rfl ?_
    refine j_aload_n (pc := 5) C 1 dX1_doublings_5 rfl ?_
    refine gf_X1_37 (pc := 6) C dX1_doublings_6 h (fun h => ?_)
    refine j_icmp_ge (pc := 9) C 27 dX1_doublings_9 (by decide) h (fun h => ?_) (fun h => ?_)
    · exact j_weak [0, 2] rfl (k27 _ _ _ h)
    · refine j_iload_n (pc := 12) C 2 dX1_doublings_12 rfl ?_
      refine j_aload_n (pc := 13) C 0 dX1_doublings_13 rfl ?_
      refine j_aload_n (pc := 14) C 1 dX1_doublings_14 rfl ?_
      refine j_iload_n (pc := 15) C 3 dX1_doublings_15 rfl ?_
      refine cs_X1_73 (pc := 16) C ⟨Nat.le_of_ble_eq_true rfl, Nat.le_of_ble_eq_true rfl⟩ hkc (Nat.le_of_ble_eq_true rfl) dX1_doublings_16 h (fun r1 M1 h => ?_)
      refine j_iadd (pc := 19) C dX1_doublings_19 ?_
      refine j_istore_n (pc := 20) C [(2, _), (0, _), (1, _), (3, _)] dX1_doublings_20 (by decide) rfl ?_
      refine j_iinc (pc := 21) (v := (1 : Int32)) C 3 [(3, _), (2, _), (0, _), (1, _)] dX1_doublings_21 rfl rfl (by decide) rfl ?_
      refine j_goto (pc := 24) C 4 dX1_doublings_24 (by decide) ?_
      exact j_weak [2, 3, 1, 0] rfl (ih _ _ _ _ _ h)
def w_X1_doublings (M : Mm) (x0 : Nat) (x1 : Nat) (P : Int32 → Mm → Prop) : Prop := (∃ n4, l_X1_doublings_4 P (fun M2 x0_2 x2_2 => zk M2 x0_2 = 6 ∧ P ((zI M2 x0_2 1) * x2_2) M2) n4 M x0 x1 (0 : Int32) (0 : Int32))
set_option maxHeartbeats 4000000 in
set_option maxRecDepth 100000 in
theorem c_X1_doublings (l : Launch) (E : EV) (M : Mm) (x0 : Nat) (x1 : Nat) (P : Int32 → Mm → Prop) (h : w_X1_doublings M x0 x1 P) : CtI l E yX1_doublings cX1_doublings 4 .int rm_X1_doublings 0 0 [.ref x0, .ref x1] M P := by
  refine ctI_of (by decide +kernel) (Nat.le_of_ble_eq_true rfl) ?_
  intro p e s m args below meth c C
  rw [w_X1_doublings] at h
  show J p l e rm_X1_doublings s m args below meth c (QI below E P args s 0 0) E 4 M 0 0 0 [(0, .ref x0), (1, .ref x1)] []
  refine j_iconst (pc := 0) (v := (0 : Int32)) C dX1_doublings_0 rfl ?_
  refine j_istore_n (pc := 1) C [(2, _), (0, _), (1, _)] dX1_doublings_1 (by decide) rfl ?_
  refine j_iconst (pc := 2) (v := (0 : Int32)) C dX1_doublings_2 rfl ?_
  refine j_istore_n (pc := 3) C [(3, _), (2, _), (0, _), (1, _)] dX1_doublings_3 (by decide) rfl ?_
  obtain ⟨n4, h⟩ := h
  refine j_weak [2, 3, 1, 0] rfl (jl_X1_doublings_4 C ⟨Nat.le_of_ble_eq_true rfl, Nat.le_of_ble_eq_true rfl⟩ (fun M2 x0_2 x2_2 h => ?_) n4 _ _ _ _ _ h)
  · refine j_aload_n (pc := 27) C 0 dX1_doublings_27 rfl ?_
    refine gf_X1_76 (pc := 28) C dX1_doublings_28 h (fun h => ?_)
    refine j_iload_n (pc := 31) C 1 dX1_doublings_31 rfl ?_
    refine j_imul (pc := 32) C dX1_doublings_32 ?_
    exact j_iret (pc := 33) C dX1_doublings_33 (Nat.le_of_ble_eq_true rfl) (Nat.le_of_ble_eq_true rfl) h
theorem cs_X1_63 (C : Cx p l s m args meth c cc nL RX1 ret E) {b : Nat} {y0 : Int32} {P : Int32 → Mm → Prop} (hR : rm_X4_beyondContract.frames + 1 ≤ R.frames ∧ 8 + (2 + 11) + rm_X4_beyondContract.locals ≤ R.locals) (hf : kc ≤ R.cells ∧ ks ≤ R.slots) (hst : (st.map fun v => v.category).sum ≤ 8) (d : decode cc pc = .ok (.invokevirtual 63, 3)) (h : zk M b = 4 ∧ w_X4_beyondContract M b y0 P) (kk : ∀ r M', P r M' → J p l e R s m args below meth c Q E nL M' kc ks (pc + 3) lo (.int r :: st)) : J p l e R s m args below meth c Q E nL M kc ks pc lo (.int y0 :: .ref b :: st) :=
  j_cV_I (n := 1) (As := [.int y0]) C co_X4 rfl wd_1297 wd_1298 h.1 (c_X4_beyondContract l E M b y0 P h.2) ⟨wd_1299, wd_1305, wd_42, by decide +kernel, by decide +kernel, by decide +kernel⟩ rfl rfl hR hf rfl hst d kk
abbrev rm_X1_overtimeOf : Room := { frames := 3, cells := 0, slots := 0, locals := 68 }
def w_X1_overtimeOf (M : Mm) (x0 : Nat) (x1 : Nat) (x2 : Int32) (P : Int32 → Mm → Prop) : Prop := (zk M x0 = 6 ∧ ∃ a1, zR M x0 7 = some a1 ∧ zk M a1 = 10 ∧ vp_in x2 (zl M a1) ∧ zk M x1 = 4 ∧ w_X4_beyondContract M x1 x2 (fun r2 M2 => P ((zI M a1 x2.toNatClampNeg) * (if (0 : Int32) < r2 then r2 else (0 : Int32))) M2))
set_option maxHeartbeats 4000000 in
set_option maxRecDepth 100000 in
theorem c_X1_overtimeOf (l : Launch) (E : EV) (M : Mm) (x0 : Nat) (x1 : Nat) (x2 : Int32) (P : Int32 → Mm → Prop) (h : w_X1_overtimeOf M x0 x1 x2 P) : CtI l E yX1_overtimeOf cX1_overtimeOf 3 .int rm_X1_overtimeOf 0 0 [.ref x0, .ref x1, .int x2] M P := by
  refine ctI_of (by decide +kernel) (Nat.le_of_ble_eq_true rfl) ?_
  intro p e s m args below meth c C
  rw [w_X1_overtimeOf] at h
  show J p l e rm_X1_overtimeOf s m args below meth c (QI below E P args s 0 0) E 3 M 0 0 0 [(0, .ref x0), (1, .ref x1), (2, .int x2)] []
  refine j_aload_n (pc := 0) C 0 dX1_overtimeOf_0 rfl ?_
  refine gf_X1_60 (pc := 1) C dX1_overtimeOf_1 h (fun a1 h => ?_)
  refine j_iload_n (pc := 4) C 2 dX1_overtimeOf_4 rfl ?_
  refine j_iald (pc := 5) C dX1_overtimeOf_5 h (fun h => ?_)
  refine j_iconst (pc := 6) (v := (0 : Int32)) C dX1_overtimeOf_6 rfl ?_
  refine j_aload_n (pc := 7) C 1 dX1_overtimeOf_7 rfl ?_
  refine j_iload_n (pc := 8) C 2 dX1_overtimeOf_8 rfl ?_
  refine cs_X1_63 (pc := 9) C ⟨Nat.le_of_ble_eq_true rfl, Nat.le_of_ble_eq_true rfl⟩ ⟨Nat.le_of_ble_eq_true rfl, Nat.le_of_ble_eq_true rfl⟩ (Nat.le_of_ble_eq_true rfl) dX1_overtimeOf_9 h (fun r2 M2 h => ?_)
  refine j_mmax (pc := 12) C wd_1306 wd_439 wd_51 wd_440 dX1_overtimeOf_12 (Nat.le_of_ble_eq_true rfl) (Nat.le_of_ble_eq_true rfl) ⟨Nat.le_of_ble_eq_true rfl, Nat.le_of_ble_eq_true rfl⟩ ?_
  refine j_imul (pc := 15) C dX1_overtimeOf_15 ?_
  exact j_iret (pc := 16) C dX1_overtimeOf_16 (Nat.le_of_ble_eq_true rfl) (Nat.le_of_ble_eq_true rfl) h
theorem cs_X1_57 (C : Cx p l s m args meth c cc nL RX1 ret E) {y0 : Nat} {y1 : Nat} {y2 : Int32} {P : Int32 → Mm → Prop} (hR : rm_X1_overtimeOf.frames + 1 ≤ R.frames ∧ 8 + (3 + 11) + rm_X1_overtimeOf.locals ≤ R.locals) (hf : kc ≤ R.cells ∧ ks ≤ R.slots) (hst : (st.map fun v => v.category).sum ≤ 8) (d : decode cc pc = .ok (.invokestatic 57, 3)) (h : w_X1_overtimeOf M y0 y1 y2 P) (kk : ∀ r M', P r M' → J p l e R s m args below meth c Q E nL M' kc ks (pc + 3) lo (.int r :: st)) : J p l e R s m args below meth c Q E nL M kc ks pc lo (.int y2 :: .ref y1 :: .ref y0 :: st) :=
  j_cS_I (n := 3) (As := [.ref y0, .ref y1, .int y2]) C wd_1303 (c_X1_overtimeOf l E M y0 y1 y2 P h) ⟨wd_1304, wd_1339, wd_65, by decide +kernel, by decide +kernel, by decide +kernel⟩ rfl rfl hR hf rfl hst d kk
abbrev rm_X1_overtime : Room := { frames := 4, cells := 0, slots := 0, locals := 90 }
def l_X1_overtime_4 (P : Int32 → Mm → Prop) (K30 : Mm → Int32 → Prop) : Nat → Mm → Nat → Nat → Int32 → Int32 → Prop
  | 0, _, _, _, _, _ => False
  | n + 1, M, x0, x1, x2, x3 => (zk M x0 = 6 ∧ ∃ a1, zR M x0 5 = some a1 ∧ zk M a1 = 2 ∧ (if (zI M a1 1) ≤ x3 then K30 M x2 else w_X1_overtimeOf M x0 x1 x3 (fun r2 M2 => l_X1_overtime_4 P K30 n M2 x0 x1 (x2 + r2) (x3 + (1 : Int32)))))
set_option maxHeartbeats 4000000 in
set_option maxRecDepth 100000 in
theorem jl_X1_overtime_4 {P : Int32 → Mm → Prop} {K30 : Mm → Int32 → Prop} (C : Cx p l s m args meth c cX1_overtime 4 RX1 (some .int) E) (hkc : kc ≤ rm_X1_overtime.cells ∧ ks ≤ rm_X1_overtime.slots) (k30 : ∀ M x2, K30 M x2 → J p l e rm_X1_overtime s m args below meth c (QI below E P args s rm_X1_overtime.cells rm_X1_overtime.slots) E 4 M kc ks 30 [(2, .int x2)] []) : ∀ n M x0 x1 x2 x3, l_X1_overtime_4 P K30 n M x0 x1 x2 x3 → J p l e rm_X1_overtime s m args below meth c (QI below E P args s rm_X1_overtime.cells rm_X1_overtime.slots) E 4 M kc ks 4 [(0, .ref x0), (1, .ref x1), (2, .int x2), (3, .int x3)] [] := by
  intro n
  induction n with
  | zero => intro M x0 x1 x2 x3 h; exact h.elim
  | succ n ih =>
    intro M x0 x1 x2 x3 h
    rw [l_X1_overtime_4] at h
    refine j_iload_n (pc := 4) C 3 dX1_overtime_4 rfl ?_
    refine j_aload_n (pc := 5) C 0 dX1_overtime_5 rfl ?_
    refine gf_X1_54 (pc := 6) C dX1_overtime_6 h (fun a1 h => ?_)
    refine gf_X1_27 (pc := 9) C dX1_overtime_9 h (fun h => ?_)
    refine j_icmp_ge (pc := 12) C 30 dX1_overtime_12 (by decide) h (fun h => ?_) (fun h => ?_)
    · exact j_weak [2] rfl (k30 _ _ h)
    · refine j_iload_n (pc := 15) C 2 dX1_overtime_15 rfl ?_
      refine j_aload_n (pc := 16) C 0 dX1_overtime_16 rfl ?_
      refine j_aload_n (pc := 17) C 1 dX1_overtime_17 rfl ?_
      refine j_iload_n (pc := 18) C 3 dX1_overtime_18 rfl ?_
      refine cs_X1_57 (pc := 19) C ⟨Nat.le_of_ble_eq_true rfl, Nat.le_of_ble_eq_true rfl⟩ hkc (Nat.le_of_ble_eq_true rfl) dX1_overtime_19 h (fun r2 M2 h => ?_)
      refine j_iadd (pc := 22) C dX1_overtime_22 ?_
      refine j_istore_n (pc := 23) C [(2, _), (0, _), (1, _), (3, _)] dX1_overtime_23 (by decide) rfl ?_
      refine j_iinc (pc := 24) (v := (1 : Int32)) C 3 [(3, _), (2, _), (0, _), (1, _)] dX1_overtime_24 rfl rfl (by decide) rfl ?_
      refine j_goto (pc := 27) C 4 dX1_overtime_27 (by decide) ?_
      exact j_weak [2, 3, 1, 0] rfl (ih _ _ _ _ _ h)
def w_X1_overtime (M : Mm) (x0 : Nat) (x1 : Nat) (P : Int32 → Mm → Prop) : Prop := (∃ n4, l_X1_overtime_4 P (fun M3 x2_3 => P x2_3 M3) n4 M x0 x1 (0 : Int32) (0 : Int32))
set_option maxHeartbeats 4000000 in
set_option maxRecDepth 100000 in
theorem c_X1_overtime (l : Launch) (E : EV) (M : Mm) (x0 : Nat) (x1 : Nat) (P : Int32 → Mm → Prop) (h : w_X1_overtime M x0 x1 P) : CtI l E yX1_overtime cX1_overtime 4 .int rm_X1_overtime 0 0 [.ref x0, .ref x1] M P := by
  refine ctI_of (by decide +kernel) (Nat.le_of_ble_eq_true rfl) ?_
  intro p e s m args below meth c C
  rw [w_X1_overtime] at h
  show J p l e rm_X1_overtime s m args below meth c (QI below E P args s 0 0) E 4 M 0 0 0 [(0, .ref x0), (1, .ref x1)] []
  refine j_iconst (pc := 0) (v := (0 : Int32)) C dX1_overtime_0 rfl ?_
  refine j_istore_n (pc := 1) C [(2, _), (0, _), (1, _)] dX1_overtime_1 (by decide) rfl ?_
  refine j_iconst (pc := 2) (v := (0 : Int32)) C dX1_overtime_2 rfl ?_
  refine j_istore_n (pc := 3) C [(3, _), (2, _), (0, _), (1, _)] dX1_overtime_3 (by decide) rfl ?_
  obtain ⟨n4, h⟩ := h
  refine j_weak [2, 3, 1, 0] rfl (jl_X1_overtime_4 C ⟨Nat.le_of_ble_eq_true rfl, Nat.le_of_ble_eq_true rfl⟩ (fun M3 x2_3 h => ?_) n4 _ _ _ _ _ h)
  · refine j_iload_n (pc := 30) C 0 dX1_overtime_30 rfl ?_
    exact j_iret (pc := 31) C dX1_overtime_31 (Nat.le_of_ble_eq_true rfl) (Nat.le_of_ble_eq_true rfl) h
abbrev rm_X1_rentOf : Room := { frames := 1, cells := 0, slots := 0, locals := 21 }
def l_X1_rentOf_8 (P : Int32 → Mm → Prop) (K60 : Mm → Nat → Int32 → Int32 → Int32 → Prop) : Nat → Mm → Nat → Nat → Int32 → Int32 → Int32 → Int32 → Prop
  | 0, _, _, _, _, _, _, _ => False
  | n + 1, M, x0, x1, x2, x3, x4, x5 => zk M x1 = 4 ∧ (if (zI M x1 0) ≤ x5 then K60 M x0 x2 x3 x4 else (zk M x1 = 4 ∧ ∃ a1, zR M x1 4 = some a1 ∧ zk M a1 = 10 ∧ vp_in x5 (zl M a1) ∧ w_X7_has M (zI M a1 x5.toNatClampNeg) x2 (fun r2 M2 => (if r2 = 0 then l_X1_rentOf_8 P K60 n M2 x0 x1 x2 x3 x4 (x5 + (1 : Int32)) else (zk M2 x1 = 4 ∧ ∃ a3, zR M2 x1 1 = some a3 ∧ zk M2 a3 = 10 ∧ vp_in x5 (zl M2 a3) ∧ ¬ (3 : Int32) = 0 ∧ (if x3 = (-1 : Int32) then l_X1_rentOf_8 P K60 n M2 x0 x1 x2 ((zI M2 a3 x5.toNatClampNeg) / (3 : Int32)) ((zI M2 a3 x5.toNatClampNeg) / (3 : Int32)) (x5 + (1 : Int32)) else l_X1_rentOf_8 P K60 n M2 x0 x1 x2 x3 ((zI M2 a3 x5.toNatClampNeg) / (3 : Int32)) (x5 + (1 : Int32))))))))
set_option maxHeartbeats 4000000 in
set_option maxRecDepth 100000 in
theorem jl_X1_rentOf_8 {P : Int32 → Mm → Prop} {K60 : Mm → Nat → Int32 → Int32 → Int32 → Prop} (C : Cx p l s m args meth c cX1_rentOf 6 RX1 (some .int) E) (hkc : kc ≤ rm_X1_rentOf.cells ∧ ks ≤ rm_X1_rentOf.slots) (k60 : ∀ M x0 x2 x3 x4, K60 M x0 x2 x3 x4 → J p l e rm_X1_rentOf s m args below meth c (QI below E P args s rm_X1_rentOf.cells rm_X1_rentOf.slots) E 6 M kc ks 60 [(0, .ref x0), (2, .int x2), (3, .int x3), (4, .int x4)] []) : ∀ n M x0 x1 x2 x3 x4 x5, l_X1_rentOf_8 P K60 n M x0 x1 x2 x3 x4 x5 → J p l e rm_X1_rentOf s m args below meth c (QI below E P args s rm_X1_rentOf.cells rm_X1_rentOf.slots) E 6 M kc ks 8 [(0, .ref x0), (1, .ref x1), (2, .int x2), (3, .int x3), (4, .int x4), (5, .int x5)] [] := by
  intro n
  induction n with
  | zero => intro M x0 x1 x2 x3 x4 x5 h; exact h.elim
  | succ n ih =>
    intro M x0 x1 x2 x3 x4 x5 h
    rw [l_X1_rentOf_8] at h
    refine j_iload (pc := 8) C 5 dX1_rentOf_8 rfl ?_
    refine j_aload_n (pc := 10) C 1 dX1_rentOf_10 rfl ?_
    refine gf_X1_37 (pc := 11) C dX1_rentOf_11 h (fun h => ?_)
    refine j_icmp_ge (pc := 14) C 60 dX1_rentOf_14 (by decide) h (fun h => ?_) (fun h => ?_)
    · exact j_weak [0, 2, 3, 4] rfl (k60 _ _ _ _ _ h)
    · refine j_aload_n (pc := 17) C 1 dX1_rentOf_17 rfl ?_
      refine gf_X1_40 (pc := 18) C dX1_rentOf_18 h (fun a1 h => ?_)
      refine j_iload (pc := 21) C 5 dX1_rentOf_21 rfl ?_
      refine j_iald (pc := 23) C dX1_rentOf_23 h (fun h => ?_)
      refine j_iload_n (pc := 24) C 2 dX1_rentOf_24 rfl ?_
      refine cs_X1_44 (pc := 25) C ⟨Nat.le_of_ble_eq_true rfl, Nat.le_of_ble_eq_true rfl⟩ hkc (Nat.le_of_ble_eq_true rfl) dX1_rentOf_25 h (fun r2 M2 h => ?_)
      refine j_if_eq (pc := 28) C 54 dX1_rentOf_28 (by decide) h (fun h => ?_) (fun h => ?_)
      · refine j_iinc (pc := 54) (v := (1 : Int32)) C 5 [(5, _), (0, _), (1, _), (2, _), (3, _), (4, _)] dX1_rentOf_54 rfl rfl (by decide) rfl ?_
        refine j_goto (pc := 57) C 8 dX1_rentOf_57 (by decide) ?_
        exact j_weak [1, 2, 3, 4, 5, 0] rfl (ih _ _ _ _ _ _ _ h)
      · refine j_aload_n (pc := 31) C 1 dX1_rentOf_31 rfl ?_
        refine gf_X1_48 (pc := 32) C dX1_rentOf_32 h (fun a3 h => ?_)
        refine j_iload (pc := 35) C 5 dX1_rentOf_35 rfl ?_
        refine j_iald (pc := 37) C dX1_rentOf_37 h (fun h => ?_)
        refine j_iconst (pc := 38) (v := (3 : Int32)) C dX1_rentOf_38 rfl ?_
        refine j_idiv (pc := 39) C dX1_rentOf_39 h (fun h => ?_)
        refine j_istore (pc := 40) C [(4, _), (0, _), (1, _), (2, _), (3, _), (5, _)] dX1_rentOf_40 (by decide) rfl ?_
        refine j_iload_n (pc := 42) C 4 dX1_rentOf_42 rfl ?_
        refine j_iconst (pc := 43) (v := (-1 : Int32)) C dX1_rentOf_43 rfl ?_
        refine j_icmp_ne (pc := 44) C 52 dX1_rentOf_44 (by decide) h (fun h => ?_) (fun h => ?_)
        · refine j_iload_n (pc := 52) C 4 dX1_rentOf_52 rfl ?_
          refine j_istore_n (pc := 53) C [(3, _), (4, _), (0, _), (1, _), (2, _), (5, _)] dX1_rentOf_53 (by decide) rfl ?_
          refine j_iinc (pc := 54) (v := (1 : Int32)) C 5 [(5, _), (3, _), (4, _), (0, _), (1, _), (2, _)] dX1_rentOf_54 rfl rfl (by decide) rfl ?_
          refine j_goto (pc := 57) C 8 dX1_rentOf_57 (by decide) ?_
          exact j_weak [3, 4, 5, 1, 2, 0] rfl (ih _ _ _ _ _ _ _ h)
        · refine j_iload (pc := 47) C 0 dX1_rentOf_47 rfl ?_
          refine j_goto (pc := 49) C 53 dX1_rentOf_49 (by decide) ?_
          refine j_istore_n (pc := 53) C [(3, _), (4, _), (0, _), (1, _), (2, _), (5, _)] dX1_rentOf_53 (by decide) rfl ?_
          refine j_iinc (pc := 54) (v := (1 : Int32)) C 5 [(5, _), (3, _), (4, _), (0, _), (1, _), (2, _)] dX1_rentOf_54 rfl rfl (by decide) rfl ?_
          refine j_goto (pc := 57) C 8 dX1_rentOf_57 (by decide) ?_
          exact j_weak [3, 4, 5, 1, 2, 0] rfl (ih _ _ _ _ _ _ _ h)
def w_X1_rentOf (M : Mm) (x0 : Nat) (x1 : Nat) (x2 : Int32) (P : Int32 → Mm → Prop) : Prop := (∃ n8, l_X1_rentOf_8 P (fun M4 x0_4 x2_4 x3_4 x4_4 => (if x3_4 = (-1 : Int32) then P (0 : Int32) M4 else (zk M4 x0_4 = 6 ∧ ∃ a5, zR M4 x0_4 16 = some a5 ∧ zk M4 a5 = 10 ∧ vp_in x2_4 (zl M4 a5) ∧ P ((zI M4 a5 x2_4.toNatClampNeg) * ((x4_4 - x3_4) + (1 : Int32))) M4))) n8 M x0 x1 x2 (-1 : Int32) (-1 : Int32) (0 : Int32))
set_option maxHeartbeats 4000000 in
set_option maxRecDepth 100000 in
theorem c_X1_rentOf (l : Launch) (E : EV) (M : Mm) (x0 : Nat) (x1 : Nat) (x2 : Int32) (P : Int32 → Mm → Prop) (h : w_X1_rentOf M x0 x1 x2 P) : CtI l E yX1_rentOf cX1_rentOf 6 .int rm_X1_rentOf 0 0 [.ref x0, .ref x1, .int x2] M P := by
  refine ctI_of (by decide +kernel) (Nat.le_of_ble_eq_true rfl) ?_
  intro p e s m args below meth c C
  rw [w_X1_rentOf] at h
  show J p l e rm_X1_rentOf s m args below meth c (QI below E P args s 0 0) E 6 M 0 0 0 [(0, .ref x0), (1, .ref x1), (2, .int x2)] []
  refine j_iconst (pc := 0) (v := (-1 : Int32)) C dX1_rentOf_0 rfl ?_
  refine j_istore_n (pc := 1) C [(3, _), (0, _), (1, _), (2, _)] dX1_rentOf_1 (by decide) rfl ?_
  refine j_iconst (pc := 2) (v := (-1 : Int32)) C dX1_rentOf_2 rfl ?_
  refine j_istore (pc := 3) C [(4, _), (3, _), (0, _), (1, _), (2, _)] dX1_rentOf_3 (by decide) rfl ?_
  refine j_iconst (pc := 5) (v := (0 : Int32)) C dX1_rentOf_5 rfl ?_
  refine j_istore (pc := 6) C [(5, _), (4, _), (3, _), (0, _), (1, _), (2, _)] dX1_rentOf_6 (by decide) rfl ?_
  obtain ⟨n8, h⟩ := h
  refine j_weak [3, 4, 5, 2, 1, 0] rfl (jl_X1_rentOf_8 C ⟨Nat.le_of_ble_eq_true rfl, Nat.le_of_ble_eq_true rfl⟩ (fun M4 x0_4 x2_4 x3_4 x4_4 h => ?_) n8 _ _ _ _ _ _ _ h)
  · refine j_iload_n (pc := 60) C 2 dX1_rentOf_60 rfl ?_
    refine j_iconst (pc := 61) (v := (-1 : Int32)) C dX1_rentOf_61 rfl ?_
    refine j_icmp_ne (pc := 62) C 69 dX1_rentOf_62 (by decide) h (fun h => ?_) (fun h => ?_)
    · refine j_aload_n (pc := 69) C 0 dX1_rentOf_69 rfl ?_
      refine gf_X1_51 (pc := 70) C dX1_rentOf_70 h (fun a5 h => ?_)
      refine j_iload_n (pc := 73) C 1 dX1_rentOf_73 rfl ?_
      refine j_iald (pc := 74) C dX1_rentOf_74 h (fun h => ?_)
      refine j_iload (pc := 75) C 3 dX1_rentOf_75 rfl ?_
      refine j_iload_n (pc := 77) C 2 dX1_rentOf_77 rfl ?_
      refine j_isub (pc := 78) C dX1_rentOf_78 ?_
      refine j_iconst (pc := 79) (v := (1 : Int32)) C dX1_rentOf_79 rfl ?_
      refine j_iadd (pc := 80) C dX1_rentOf_80 ?_
      refine j_imul (pc := 81) C dX1_rentOf_81 ?_
      exact j_iret (pc := 82) C dX1_rentOf_82 (Nat.le_of_ble_eq_true rfl) (Nat.le_of_ble_eq_true rfl) h
    · refine j_iconst (pc := 65) (v := (0 : Int32)) C dX1_rentOf_65 rfl ?_
      refine j_goto (pc := 66) C 82 dX1_rentOf_66 (by decide) ?_
      exact j_iret (pc := 82) C dX1_rentOf_82 (Nat.le_of_ble_eq_true rfl) (Nat.le_of_ble_eq_true rfl) h
theorem cs_X1_33 (C : Cx p l s m args meth c cc nL RX1 ret E) {y0 : Nat} {y1 : Nat} {y2 : Int32} {P : Int32 → Mm → Prop} (hR : rm_X1_rentOf.frames + 1 ≤ R.frames ∧ 8 + (6 + 11) + rm_X1_rentOf.locals ≤ R.locals) (hf : kc ≤ R.cells ∧ ks ≤ R.slots) (hst : (st.map fun v => v.category).sum ≤ 8) (d : decode cc pc = .ok (.invokestatic 33, 3)) (h : w_X1_rentOf M y0 y1 y2 P) (kk : ∀ r M', P r M' → J p l e R s m args below meth c Q E nL M' kc ks (pc + 3) lo (.int r :: st)) : J p l e R s m args below meth c Q E nL M kc ks pc lo (.int y2 :: .ref y1 :: .ref y0 :: st) :=
  j_cS_I (n := 3) (As := [.ref y0, .ref y1, .int y2]) C wd_1316 (c_X1_rentOf l E M y0 y1 y2 P h) ⟨wd_1317, wd_1335, wd_65, by decide +kernel, by decide +kernel, by decide +kernel⟩ rfl rfl hR hf rfl hst d kk
abbrev rm_X1_rent : Room := { frames := 2, cells := 0, slots := 0, locals := 46 }
def l_X1_rent_4 (P : Int32 → Mm → Prop) (K30 : Mm → Int32 → Prop) : Nat → Mm → Nat → Nat → Int32 → Int32 → Prop
  | 0, _, _, _, _, _ => False
  | n + 1, M, x0, x1, x2, x3 => (zk M x0 = 6 ∧ ∃ a1, zR M x0 12 = some a1 ∧ zk M a1 = 2 ∧ (if (zI M a1 1) ≤ x3 then K30 M x2 else w_X1_rentOf M x0 x1 x3 (fun r2 M2 => l_X1_rent_4 P K30 n M2 x0 x1 (x2 + r2) (x3 + (1 : Int32)))))
set_option maxHeartbeats 4000000 in
set_option maxRecDepth 100000 in
theorem jl_X1_rent_4 {P : Int32 → Mm → Prop} {K30 : Mm → Int32 → Prop} (C : Cx p l s m args meth c cX1_rent 4 RX1 (some .int) E) (hkc : kc ≤ rm_X1_rent.cells ∧ ks ≤ rm_X1_rent.slots) (k30 : ∀ M x2, K30 M x2 → J p l e rm_X1_rent s m args below meth c (QI below E P args s rm_X1_rent.cells rm_X1_rent.slots) E 4 M kc ks 30 [(2, .int x2)] []) : ∀ n M x0 x1 x2 x3, l_X1_rent_4 P K30 n M x0 x1 x2 x3 → J p l e rm_X1_rent s m args below meth c (QI below E P args s rm_X1_rent.cells rm_X1_rent.slots) E 4 M kc ks 4 [(0, .ref x0), (1, .ref x1), (2, .int x2), (3, .int x3)] [] := by
  intro n
  induction n with
  | zero => intro M x0 x1 x2 x3 h; exact h.elim
  | succ n ih =>
    intro M x0 x1 x2 x3 h
    rw [l_X1_rent_4] at h
    refine j_iload_n (pc := 4) C 3 dX1_rent_4 rfl ?_
    refine j_aload_n (pc := 5) C 0 dX1_rent_5 rfl ?_
    refine gf_X1_21 (pc := 6) C dX1_rent_6 h (fun a1 h => ?_)
    refine gf_X1_27 (pc := 9) C dX1_rent_9 h (fun h => ?_)
    refine j_icmp_ge (pc := 12) C 30 dX1_rent_12 (by decide) h (fun h => ?_) (fun h => ?_)
    · exact j_weak [2] rfl (k30 _ _ h)
    · refine j_iload_n (pc := 15) C 2 dX1_rent_15 rfl ?_
      refine j_aload_n (pc := 16) C 0 dX1_rent_16 rfl ?_
      refine j_aload_n (pc := 17) C 1 dX1_rent_17 rfl ?_
      refine j_iload_n (pc := 18) C 3 dX1_rent_18 rfl ?_
      refine cs_X1_33 (pc := 19) C ⟨Nat.le_of_ble_eq_true rfl, Nat.le_of_ble_eq_true rfl⟩ hkc (Nat.le_of_ble_eq_true rfl) dX1_rent_19 h (fun r2 M2 h => ?_)
      refine j_iadd (pc := 22) C dX1_rent_22 ?_
      refine j_istore_n (pc := 23) C [(2, _), (0, _), (1, _), (3, _)] dX1_rent_23 (by decide) rfl ?_
      refine j_iinc (pc := 24) (v := (1 : Int32)) C 3 [(3, _), (2, _), (0, _), (1, _)] dX1_rent_24 rfl rfl (by decide) rfl ?_
      refine j_goto (pc := 27) C 4 dX1_rent_27 (by decide) ?_
      exact j_weak [2, 3, 1, 0] rfl (ih _ _ _ _ _ h)
def w_X1_rent (M : Mm) (x0 : Nat) (x1 : Nat) (P : Int32 → Mm → Prop) : Prop := (∃ n4, l_X1_rent_4 P (fun M3 x2_3 => P x2_3 M3) n4 M x0 x1 (0 : Int32) (0 : Int32))
set_option maxHeartbeats 4000000 in
set_option maxRecDepth 100000 in
theorem c_X1_rent (l : Launch) (E : EV) (M : Mm) (x0 : Nat) (x1 : Nat) (P : Int32 → Mm → Prop) (h : w_X1_rent M x0 x1 P) : CtI l E yX1_rent cX1_rent 4 .int rm_X1_rent 0 0 [.ref x0, .ref x1] M P := by
  refine ctI_of (by decide +kernel) (Nat.le_of_ble_eq_true rfl) ?_
  intro p e s m args below meth c C
  rw [w_X1_rent] at h
  show J p l e rm_X1_rent s m args below meth c (QI below E P args s 0 0) E 4 M 0 0 0 [(0, .ref x0), (1, .ref x1)] []
  refine j_iconst (pc := 0) (v := (0 : Int32)) C dX1_rent_0 rfl ?_
  refine j_istore_n (pc := 1) C [(2, _), (0, _), (1, _)] dX1_rent_1 (by decide) rfl ?_
  refine j_iconst (pc := 2) (v := (0 : Int32)) C dX1_rent_2 rfl ?_
  refine j_istore_n (pc := 3) C [(3, _), (2, _), (0, _), (1, _)] dX1_rent_3 (by decide) rfl ?_
  obtain ⟨n4, h⟩ := h
  refine j_weak [2, 3, 1, 0] rfl (jl_X1_rent_4 C ⟨Nat.le_of_ble_eq_true rfl, Nat.le_of_ble_eq_true rfl⟩ (fun M3 x2_3 h => ?_) n4 _ _ _ _ _ h)
  · refine j_iload_n (pc := 30) C 0 dX1_rent_30 rfl ?_
    exact j_iret (pc := 31) C dX1_rent_31 (Nat.le_of_ble_eq_true rfl) (Nat.le_of_ble_eq_true rfl) h
theorem cs_X1_9 (C : Cx p l s m args meth c cc nL RX1 ret E) {y0 : Nat} {y1 : Nat} {P : Int32 → Mm → Prop} (hR : rm_X1_rent.frames + 1 ≤ R.frames ∧ 8 + (4 + 11) + rm_X1_rent.locals ≤ R.locals) (hf : kc ≤ R.cells ∧ ks ≤ R.slots) (hst : (st.map fun v => v.category).sum ≤ 8) (d : decode cc pc = .ok (.invokestatic 9, 3)) (h : w_X1_rent M y0 y1 P) (kk : ∀ r M', P r M' → J p l e R s m args below meth c Q E nL M' kc ks (pc + 3) lo (.int r :: st)) : J p l e R s m args below meth c Q E nL M kc ks pc lo (.ref y1 :: .ref y0 :: st) :=
  j_cS_I (n := 2) (As := [.ref y0, .ref y1]) C wd_1333 (c_X1_rent l E M y0 y1 P h) ⟨wd_1334, wd_1332, wd_65, by decide +kernel, by decide +kernel, by decide +kernel⟩ rfl rfl hR hf rfl hst d kk
theorem cs_X1_15 (C : Cx p l s m args meth c cc nL RX1 ret E) {y0 : Nat} {y1 : Nat} {P : Int32 → Mm → Prop} (hR : rm_X1_overtime.frames + 1 ≤ R.frames ∧ 8 + (4 + 11) + rm_X1_overtime.locals ≤ R.locals) (hf : kc ≤ R.cells ∧ ks ≤ R.slots) (hst : (st.map fun v => v.category).sum ≤ 8) (d : decode cc pc = .ok (.invokestatic 15, 3)) (h : w_X1_overtime M y0 y1 P) (kk : ∀ r M', P r M' → J p l e R s m args below meth c Q E nL M' kc ks (pc + 3) lo (.int r :: st)) : J p l e R s m args below meth c Q E nL M kc ks pc lo (.ref y1 :: .ref y0 :: st) :=
  j_cS_I (n := 2) (As := [.ref y0, .ref y1]) C wd_1337 (c_X1_overtime l E M y0 y1 P h) ⟨wd_1338, wd_1336, wd_65, by decide +kernel, by decide +kernel, by decide +kernel⟩ rfl rfl hR hf rfl hst d kk
theorem cs_X1_18 (C : Cx p l s m args meth c cc nL RX1 ret E) {y0 : Nat} {y1 : Nat} {P : Int32 → Mm → Prop} (hR : rm_X1_doublings.frames + 1 ≤ R.frames ∧ 8 + (4 + 11) + rm_X1_doublings.locals ≤ R.locals) (hf : kc ≤ R.cells ∧ ks ≤ R.slots) (hst : (st.map fun v => v.category).sum ≤ 8) (d : decode cc pc = .ok (.invokestatic 18, 3)) (h : w_X1_doublings M y0 y1 P) (kk : ∀ r M', P r M' → J p l e R s m args below meth c Q E nL M' kc ks (pc + 3) lo (.int r :: st)) : J p l e R s m args below meth c Q E nL M kc ks pc lo (.ref y1 :: .ref y0 :: st) :=
  j_cS_I (n := 2) (As := [.ref y0, .ref y1]) C wd_1341 (c_X1_doublings l E M y0 y1 P h) ⟨wd_1342, wd_1340, wd_65, by decide +kernel, by decide +kernel, by decide +kernel⟩ rfl rfl hR hf rfl hst d kk
abbrev rm_X1_costsOf : Room := { frames := 5, cells := 0, slots := 0, locals := 116 }
def w_X1_costsOf (M : Mm) (x0 : Nat) (x1 : Nat) (x2 : Int32) (P : Int32 → Mm → Prop) : Prop := (if x2 = (0 : Int32) then w_X1_rent M x0 x1 (fun r1 M1 => P r1 M1) else (if x2 = (1 : Int32) then w_X1_overtime M x0 x1 (fun r2 M2 => P r2 M2) else (if x2 = (2 : Int32) then w_X1_doublings M x0 x1 (fun r3 M3 => P r3 M3) else w_X1_rent M x0 x1 (fun r4 M4 => w_X1_overtime M4 x0 x1 (fun r5 M5 => w_X1_doublings M5 x0 x1 (fun r6 M6 => P ((r4 + r5) + r6) M6))))))
set_option maxHeartbeats 4000000 in
set_option maxRecDepth 100000 in
theorem c_X1_costsOf (l : Launch) (E : EV) (M : Mm) (x0 : Nat) (x1 : Nat) (x2 : Int32) (P : Int32 → Mm → Prop) (h : w_X1_costsOf M x0 x1 x2 P) : CtI l E yX1_costsOf cX1_costsOf 3 .int rm_X1_costsOf 0 0 [.ref x0, .ref x1, .int x2] M P := by
  refine ctI_of (by decide +kernel) (Nat.le_of_ble_eq_true rfl) ?_
  intro p e s m args below meth c C
  rw [w_X1_costsOf] at h
  show J p l e rm_X1_costsOf s m args below meth c (QI below E P args s 0 0) E 3 M 0 0 0 [(0, .ref x0), (1, .ref x1), (2, .int x2)] []
  refine j_iload_n (pc := 0) C 2 dX1_costsOf_0 rfl ?_
  by_cases q1_0 : x2 = (0 : Int32)
  · rw [if_pos q1_0] at h
    refine j_tsI (pc := 1) (off := 27) C 28 dX1_costsOf_1 q1_0 (by decide) (by decide) (by decide) (by decide) ?_
    refine j_aload_n (pc := 28) C 0 dX1_costsOf_28 rfl ?_
    refine j_aload_n (pc := 29) C 1 dX1_costsOf_29 rfl ?_
    refine cs_X1_9 (pc := 30) C ⟨Nat.le_of_ble_eq_true rfl, Nat.le_of_ble_eq_true rfl⟩ ⟨Nat.le_of_ble_eq_true rfl, Nat.le_of_ble_eq_true rfl⟩ (Nat.le_of_ble_eq_true rfl) dX1_costsOf_30 h (fun r1 M1 h => ?_)
    exact j_iret (pc := 33) C dX1_costsOf_33 (Nat.le_of_ble_eq_true rfl) (Nat.le_of_ble_eq_true rfl) h
  rw [if_neg q1_0] at h
  by_cases q1_1 : x2 = (1 : Int32)
  · rw [if_pos q1_1] at h
    refine j_tsI (pc := 1) (off := 33) C 34 dX1_costsOf_1 q1_1 (by decide) (by decide) (by decide) (by decide) ?_
    refine j_aload_n (pc := 34) C 0 dX1_costsOf_34 rfl ?_
    refine j_aload_n (pc := 35) C 1 dX1_costsOf_35 rfl ?_
    refine cs_X1_15 (pc := 36) C ⟨Nat.le_of_ble_eq_true rfl, Nat.le_of_ble_eq_true rfl⟩ ⟨Nat.le_of_ble_eq_true rfl, Nat.le_of_ble_eq_true rfl⟩ (Nat.le_of_ble_eq_true rfl) dX1_costsOf_36 h (fun r2 M2 h => ?_)
    exact j_iret (pc := 39) C dX1_costsOf_39 (Nat.le_of_ble_eq_true rfl) (Nat.le_of_ble_eq_true rfl) h
  rw [if_neg q1_1] at h
  by_cases q1_2 : x2 = (2 : Int32)
  · rw [if_pos q1_2] at h
    refine j_tsI (pc := 1) (off := 39) C 40 dX1_costsOf_1 q1_2 (by decide) (by decide) (by decide) (by decide) ?_
    refine j_aload_n (pc := 40) C 0 dX1_costsOf_40 rfl ?_
    refine j_aload_n (pc := 41) C 1 dX1_costsOf_41 rfl ?_
    refine cs_X1_18 (pc := 42) C ⟨Nat.le_of_ble_eq_true rfl, Nat.le_of_ble_eq_true rfl⟩ ⟨Nat.le_of_ble_eq_true rfl, Nat.le_of_ble_eq_true rfl⟩ (Nat.le_of_ble_eq_true rfl) dX1_costsOf_42 h (fun r3 M3 h => ?_)
    exact j_iret (pc := 45) C dX1_costsOf_45 (Nat.le_of_ble_eq_true rfl) (Nat.le_of_ble_eq_true rfl) h
  rw [if_neg q1_2] at h
  refine j_tsO (pc := 1) C 46 dX1_costsOf_1 (fun k h1 h2 => ?_) (by decide) ?_
  · rcases (show k = 0 ∨ k = 1 ∨ k = 2 by omega) with rfl | rfl | rfl
    · exact ts_no q1_0 (by decide)
    · exact ts_no q1_1 (by decide)
    · exact ts_no q1_2 (by decide)
  refine j_aload_n (pc := 46) C 0 dX1_costsOf_46 rfl ?_
  refine j_aload_n (pc := 47) C 1 dX1_costsOf_47 rfl ?_
  refine cs_X1_9 (pc := 48) C ⟨Nat.le_of_ble_eq_true rfl, Nat.le_of_ble_eq_true rfl⟩ ⟨Nat.le_of_ble_eq_true rfl, Nat.le_of_ble_eq_true rfl⟩ (Nat.le_of_ble_eq_true rfl) dX1_costsOf_48 h (fun r4 M4 h => ?_)
  refine j_aload_n (pc := 51) C 0 dX1_costsOf_51 rfl ?_
  refine j_aload_n (pc := 52) C 1 dX1_costsOf_52 rfl ?_
  refine cs_X1_15 (pc := 53) C ⟨Nat.le_of_ble_eq_true rfl, Nat.le_of_ble_eq_true rfl⟩ ⟨Nat.le_of_ble_eq_true rfl, Nat.le_of_ble_eq_true rfl⟩ (Nat.le_of_ble_eq_true rfl) dX1_costsOf_53 h (fun r5 M5 h => ?_)
  refine j_iadd (pc := 56) C dX1_costsOf_56 ?_
  refine j_aload_n (pc := 57) C 0 dX1_costsOf_57 rfl ?_
  refine j_aload_n (pc := 58) C 1 dX1_costsOf_58 rfl ?_
  refine cs_X1_18 (pc := 59) C ⟨Nat.le_of_ble_eq_true rfl, Nat.le_of_ble_eq_true rfl⟩ ⟨Nat.le_of_ble_eq_true rfl, Nat.le_of_ble_eq_true rfl⟩ (Nat.le_of_ble_eq_true rfl) dX1_costsOf_59 h (fun r6 M6 h => ?_)
  refine j_iadd (pc := 62) C dX1_costsOf_62 ?_
  exact j_iret (pc := 63) C dX1_costsOf_63 (Nat.le_of_ble_eq_true rfl) (Nat.le_of_ble_eq_true rfl) h
abbrev rm_X1_doublingsOf : Room := { frames := 3, cells := 0, slots := 0, locals := 71 }
def l_X1_doublingsOf_5 (P : Int32 → Mm → Prop) (K33 : Mm → Int32 → Prop) : Nat → Mm → Nat → Nat → Int32 → Int32 → Int32 → Prop
  | 0, _, _, _, _, _, _ => False
  | n + 1, M, x0, x1, x2, x3, x4 => zk M x1 = 4 ∧ (if (zI M x1 0) ≤ x4 then K33 M x3 else w_X1_doublingsBy M x0 x1 x4 ((1 : Int32) <<< (x2 &&& 31)) (fun r1 M1 => l_X1_doublingsOf_5 P K33 n M1 x0 x1 x2 (x3 + r1) (x4 + (1 : Int32))))
set_option maxHeartbeats 4000000 in
set_option maxRecDepth 100000 in
theorem jl_X1_doublingsOf_5 {P : Int32 → Mm → Prop} {K33 : Mm → Int32 → Prop} (C : Cx p l s m args meth c cX1_doublingsOf 5 RX1 (some .int) E) (hkc : kc ≤ rm_X1_doublingsOf.cells ∧ ks ≤ rm_X1_doublingsOf.slots) (k33 : ∀ M x3, K33 M x3 → J p l e rm_X1_doublingsOf s m args below meth c (QI below E P args s rm_X1_doublingsOf.cells rm_X1_doublingsOf.slots) E 5 M kc ks 33 [(3, .int x3)] []) : ∀ n M x0 x1 x2 x3 x4, l_X1_doublingsOf_5 P K33 n M x0 x1 x2 x3 x4 → J p l e rm_X1_doublingsOf s m args below meth c (QI below E P args s rm_X1_doublingsOf.cells rm_X1_doublingsOf.slots) E 5 M kc ks 5 [(0, .ref x0), (1, .ref x1), (2, .int x2), (3, .int x3), (4, .int x4)] [] := by
  intro n
  induction n with
  | zero => intro M x0 x1 x2 x3 x4 h; exact h.elim
  | succ n ih =>
    intro M x0 x1 x2 x3 x4 h
    rw [l_X1_doublingsOf_5] at h
    refine j_iload (pc := 5) C 4 dX1_doublingsOf_5 rfl ?_
    refine j_aload_n (pc := 7) C 1 dX1_doublingsOf_7 rfl ?_
    refine gf_X1_37 (pc := 8) C dX1_doublingsOf_8 h (fun h => ?_)
    refine j_icmp_ge (pc := 11) C 33 dX1_doublingsOf_11 (by decide) h (fun h => ?_) (fun h => ?_)
    · exact j_weak [3] rfl (k33 _ _ h)
    · refine j_iload_n (pc := 14) C 3 dX1_doublingsOf_14 rfl ?_
      refine j_aload_n (pc := 15) C 0 dX1_doublingsOf_15 rfl ?_
      refine j_aload_n (pc := 16) C 1 dX1_doublingsOf_16 rfl ?_
      refine j_iload (pc := 17) C 4 dX1_doublingsOf_17 rfl ?_
      refine j_iconst (pc := 19) (v := (1 : Int32)) C dX1_doublingsOf_19 rfl ?_
      refine j_iload_n (pc := 20) C 2 dX1_doublingsOf_20 rfl ?_
      refine j_ishl (pc := 21) C dX1_doublingsOf_21 ?_
      refine cs_X1_82 (pc := 22) C ⟨Nat.le_of_ble_eq_true rfl, Nat.le_of_ble_eq_true rfl⟩ hkc (Nat.le_of_ble_eq_true rfl) dX1_doublingsOf_22 h (fun r1 M1 h => ?_)
      refine j_iadd (pc := 25) C dX1_doublingsOf_25 ?_
      refine j_istore_n (pc := 26) C [(3, _), (0, _), (1, _), (2, _), (4, _)] dX1_doublingsOf_26 (by decide) rfl ?_
      refine j_iinc (pc := 27) (v := (1 : Int32)) C 4 [(4, _), (3, _), (0, _), (1, _), (2, _)] dX1_doublingsOf_27 rfl rfl (by decide) rfl ?_
      refine j_goto (pc := 30) C 5 dX1_doublingsOf_30 (by decide) ?_
      exact j_weak [2, 3, 4, 1, 0] rfl (ih _ _ _ _ _ _ h)
def w_X1_doublingsOf (M : Mm) (x0 : Nat) (x1 : Nat) (x2 : Int32) (P : Int32 → Mm → Prop) : Prop := (∃ n5, l_X1_doublingsOf_5 P (fun M2 x3_2 => P x3_2 M2) n5 M x0 x1 x2 (0 : Int32) (0 : Int32))
set_option maxHeartbeats 4000000 in
set_option maxRecDepth 100000 in
theorem c_X1_doublingsOf (l : Launch) (E : EV) (M : Mm) (x0 : Nat) (x1 : Nat) (x2 : Int32) (P : Int32 → Mm → Prop) (h : w_X1_doublingsOf M x0 x1 x2 P) : CtI l E yX1_doublingsOf cX1_doublingsOf 5 .int rm_X1_doublingsOf 0 0 [.ref x0, .ref x1, .int x2] M P := by
  refine ctI_of (by decide +kernel) (Nat.le_of_ble_eq_true rfl) ?_
  intro p e s m args below meth c C
  rw [w_X1_doublingsOf] at h
  show J p l e rm_X1_doublingsOf s m args below meth c (QI below E P args s 0 0) E 5 M 0 0 0 [(0, .ref x0), (1, .ref x1), (2, .int x2)] []
  refine j_iconst (pc := 0) (v := (0 : Int32)) C dX1_doublingsOf_0 rfl ?_
  refine j_istore_n (pc := 1) C [(3, _), (0, _), (1, _), (2, _)] dX1_doublingsOf_1 (by decide) rfl ?_
  refine j_iconst (pc := 2) (v := (0 : Int32)) C dX1_doublingsOf_2 rfl ?_
  refine j_istore (pc := 3) C [(4, _), (3, _), (0, _), (1, _), (2, _)] dX1_doublingsOf_3 (by decide) rfl ?_
  obtain ⟨n5, h⟩ := h
  refine j_weak [2, 3, 4, 1, 0] rfl (jl_X1_doublingsOf_5 C ⟨Nat.le_of_ble_eq_true rfl, Nat.le_of_ble_eq_true rfl⟩ (fun M2 x3_2 h => ?_) n5 _ _ _ _ _ _ h)
  · refine j_iload_n (pc := 33) C 0 dX1_doublingsOf_33 rfl ?_
    exact j_iret (pc := 34) C dX1_doublingsOf_34 (Nat.le_of_ble_eq_true rfl) (Nat.le_of_ble_eq_true rfl) h
end GW9
