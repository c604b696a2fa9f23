/-! written by a program (wip/whole/gen.py) out of the decode rows and the tables: walks of X0 -/

section GW8
variable {p : Program} {l : Launch} {e : Env} {R : Room} {s : State} {m : MethodId} {args : Array Value} {below : List Frame} {meth : Method} {c : Code} {Q : State → Prop} {cc : ByteArray} {nL : Nat} {ret : Option FieldType} {E : EV} {M : Mm} {kc ks pc : Nat} {lo : List (Nat × Value)} {st : List Value}
theorem cs_X0_54 (C : Cx p l s m args meth c cc nL RX0 ret E) {y0 : Int32} {y1 : Int32} {P : Int32 → Mm → Prop} (hR : rm_X7_has.frames + 1 ≤ R.frames ∧ 8 + (2 + 11) + rm_X7_has.locals ≤ R.locals) (hf : kc ≤ R.cells ∧ ks ≤ R.slots) (hst : (st.map fun v => v.category).sum ≤ 8) (d : decode cc pc = .ok (.invokestatic 54, 3)) (h : w_X7_has M y0 y1 P) (kk : ∀ r M', P r M' → J p l e R s m args below meth c Q E nL M' kc ks (pc + 3) lo (.int r :: st)) : J p l e R s m args below meth c Q E nL M kc ks pc lo (.int y1 :: .int y0 :: st) :=
  j_cSN_I (n := 2) (As := [.int y0, .int y1]) C wd_380 (c_X7_has l E M y0 y1 P h) ⟨wd_381, nw_916, wd_103, by decide +kernel, by decide +kernel, by decide +kernel⟩ rfl rfl hR hf rfl hst d kk
theorem cs_X0_61 (C : Cx p l s m args meth c cc nL RX0 ret E) {b : Nat} {y0 : Int32} {y1 : Int32} {P : Int32 → Mm → Prop} (hR : rm_X6_doublingOn.frames + 1 ≤ R.frames ∧ 8 + (3 + 11) + rm_X6_doublingOn.locals ≤ R.locals) (hf : kc ≤ R.cells ∧ ks ≤ R.slots) (hst : (st.map fun v => v.category).sum ≤ 8) (d : decode cc pc = .ok (.invokevirtual 61, 3)) (h : zk M b = 6 ∧ w_X6_doublingOn M b y0 y1 P) (kk : ∀ r M', P r M' → J p l e R s m args below meth c Q E nL M' kc ks (pc + 3) lo (.int r :: st)) : J p l e R s m args below meth c Q E nL M kc ks pc lo (.int y1 :: .int y0 :: .ref b :: st) :=
  j_cV_I (n := 2) (As := [.int y0, .int y1]) C co_X6 rfl wd_782 wd_783 h.1 (c_X6_doublingOn l E M b y0 y1 P h.2) ⟨wd_784, wd_917, wd_106, by decide +kernel, by decide +kernel, by decide +kernel⟩ rfl rfl hR hf rfl hst d kk
abbrev rm_X0_firstFrom : Room := { frames := 1, cells := 0, slots := 0, locals := 22 }
def l_X0_firstFrom_3 (P : Int32 → Mm → Prop) (K68 : Mm → Int32 → Prop) (K77 : Mm → Prop) : Nat → Mm → Nat → Nat → Int32 → Int32 → Int32 → Int32 → Prop
  | 0, _, _, _, _, _, _, _ => False
  | n + 1, M, x0, x1, x2, x3, x4, x5 => (zk M x1 = 6 ∧ ∃ a1, zR M x1 5 = some a1 ∧ zk M a1 = 2 ∧ (if (zI M a1 1) ≤ x5 then K77 M else w_X7_has M x3 x5 (fun r2 M2 => (if r2 = 0 then l_X0_firstFrom_3 P K68 K77 n M2 x0 x1 x2 x3 x4 (x5 + (1 : Int32)) else (zk M2 x1 = 6 ∧ ∃ a3, zR M2 x1 9 = some a3 ∧ zk M2 a3 = 10 ∧ vp_in x5 (zl M2 a3) ∧ w_X7_has M2 (zI M2 a3 x5.toNatClampNeg) x2 (fun r4 M4 => (if r4 = 0 then l_X0_firstFrom_3 P K68 K77 n M4 x0 x1 x2 x3 x4 (x5 + (1 : Int32)) else zk M4 x1 = 6 ∧ w_X6_doublingOn M4 x1 x5 x2 (fun r5 M5 => (zk M5 x0 = 1 ∧ ∃ a6, zR M5 x0 1 = some a6 ∧ zk M5 a6 = 10 ∧ vp_in (x4 ||| ((1 : Int32) <<< (x5 &&& 31))) (zl M5 a6) ∧ (zk M5 x0 = 1 ∧ ∃ a7, zR M5 x0 1 = some a7 ∧ zk M5 a7 = 10 ∧ vp_in x4 (zl M5 a7) ∧ (if (r5 + (zI M5 a6 (x4 ||| ((1 : Int32) <<< (x5 &&& 31))).toNatClampNeg)) = (zI M5 a7 x4.toNatClampNeg) then K68 M5 x5 else l_X0_firstFrom_3 P K68 K77 n M5 x0 x1 x2 x3 x4 (x5 + (1 : Int32)))))))))))))
set_option maxHeartbeats 4000000 in
set_option maxRecDepth 100000 in
theorem jl_X0_firstFrom_3 {P : Int32 → Mm → Prop} {K68 : Mm → Int32 → Prop} {K77 : Mm → Prop} (C : Cx p l s m args meth c cX0_firstFrom 6 RX0 (some .int) E) (hkc : kc ≤ rm_X0_firstFrom.cells ∧ ks ≤ rm_X0_firstFrom.slots) (k68 : ∀ M x5, K68 M x5 → J p l e rm_X0_firstFrom s m args below meth c (QI below E P args s rm_X0_firstFrom.cells rm_X0_firstFrom.slots) E 6 M kc ks 68 [(5, .int x5)] []) (k77 : ∀ M, K77 M → J p l e rm_X0_firstFrom s m args below meth c (QI below E P args s rm_X0_firstFrom.cells rm_X0_firstFrom.slots) E 6 M kc ks 77 [] []) : ∀ n M x0 x1 x2 x3 x4 x5, l_X0_firstFrom_3 P K68 K77 n M x0 x1 x2 x3 x4 x5 → J p l e rm_X0_firstFrom s m args below meth c (QI below E P args s rm_X0_firstFrom.cells rm_X0_firstFrom.slots) E 6 M kc ks 3 [(0, .ref x0), (1, .ref x1), (2, .int x2), (3, .int x3), (4, .int x4), (5, .int x5)] [] := by
  intro n
  induction n with
  | zero => intro M x0 x1 x2 x3 x4 x5 h; exact h.elim
  | succ n ih =>
    intro M x0 x1 x2 x3 x4 x5 h
    rw [l_X0_firstFrom_3] at h
    refine j_iload (pc := 3) C 5 dX0_firstFrom_3 rfl ?_
    refine j_aload_n (pc := 5) C 1 dX0_firstFrom_5 rfl ?_
    refine gf_X0_44 (pc := 6) C dX0_firstFrom_6 h (fun a1 h => ?_)
    refine gf_X0_48 (pc := 9) C dX0_firstFrom_9 h (fun h => ?_)
    refine j_icmp_ge (pc := 12) C 77 dX0_firstFrom_12 (by decide) h (fun h => ?_) (fun h => ?_)
    · exact j_weak [] rfl (k77 _ h)
    · refine j_iload_n (pc := 15) C 3 dX0_firstFrom_15 rfl ?_
      refine j_iload (pc := 16) C 5 dX0_firstFrom_16 rfl ?_
      refine cs_X0_54 (pc := 18) C ⟨Nat.le_of_ble_eq_true rfl, Nat.le_of_ble_eq_true rfl⟩ hkc (Nat.le_of_ble_eq_true rfl) dX0_firstFrom_18 h (fun r2 M2 h => ?_)
      refine j_if_eq (pc := 21) C 71 dX0_firstFrom_21 (by decide) h (fun h => ?_) (fun h => ?_)
      · refine j_iinc (pc := 71) (v := (1 : Int32)) C 5 [(5, _), (0, _), (1, _), (2, _), (3, _), (4, _)] dX0_firstFrom_71 rfl rfl (by decide) rfl ?_
        refine j_goto (pc := 74) C 3 dX0_firstFrom_74 (by decide) ?_
        exact j_weak [1, 2, 3, 4, 5, 0] rfl (ih _ _ _ _ _ _ _ h)
      · refine j_aload_n (pc := 24) C 1 dX0_firstFrom_24 rfl ?_
        refine gf_X0_58 (pc := 25) C dX0_firstFrom_25 h (fun a3 h => ?_)
        refine j_iload (pc := 28) C 5 dX0_firstFrom_28 rfl ?_
        refine j_iald (pc := 30) C dX0_firstFrom_30 h (fun h => ?_)
        refine j_iload_n (pc := 31) C 2 dX0_firstFrom_31 rfl ?_
        refine cs_X0_54 (pc := 32) C ⟨Nat.le_of_ble_eq_true rfl, Nat.le_of_ble_eq_true rfl⟩ hkc (Nat.le_of_ble_eq_true rfl) dX0_firstFrom_32 h (fun r4 M4 h => ?_)
        refine j_if_eq (pc := 35) C 71 dX0_firstFrom_35 (by decide) h (fun h => ?_) (fun h => ?_)
        · refine j_iinc (pc := 71) (v := (1 : Int32)) C 5 [(5, _), (0, _), (1, _), (2, _), (3, _), (4, _)] dX0_firstFrom_71 rfl rfl (by decide) rfl ?_
          refine j_goto (pc := 74) C 3 dX0_firstFrom_74 (by decide) ?_
          exact j_weak [1, 2, 3, 4, 5, 0] rfl (ih _ _ _ _ _ _ _ h)
        · refine j_aload_n (pc := 38) C 1 dX0_firstFrom_38 rfl ?_
          refine j_iload (pc := 39) C 5 dX0_firstFrom_39 rfl ?_
          refine j_iload_n (pc := 41) C 2 dX0_firstFrom_41 rfl ?_
          refine cs_X0_61 (pc := 42) C ⟨Nat.le_of_ble_eq_true rfl, Nat.le_of_ble_eq_true rfl⟩ hkc (Nat.le_of_ble_eq_true rfl) dX0_firstFrom_42 h (fun r5 M5 h => ?_)
          refine j_aload_n (pc := 45) C 0 dX0_firstFrom_45 rfl ?_
          refine gf_X0_15 (pc := 46) C dX0_firstFrom_46 h (fun a6 h => ?_)
          refine j_iload (pc := 49) C 4 dX0_firstFrom_49 rfl ?_
          refine j_iconst (pc := 51) (v := (1 : Int32)) C dX0_firstFrom_51 rfl ?_
          refine j_iload (pc := 52) C 5 dX0_firstFrom_52 rfl ?_
          refine j_ishl (pc := 54) C dX0_firstFrom_54 ?_
          refine j_ior (pc := 55) C dX0_firstFrom_55 ?_
          refine j_iald (pc := 56) C dX0_firstFrom_56 h (fun h => ?_)
          refine j_iadd (pc := 57) C dX0_firstFrom_57 ?_
          refine j_aload_n (pc := 58) C 0 dX0_firstFrom_58 rfl ?_
          refine gf_X0_15 (pc := 59) C dX0_firstFrom_59 h (fun a7 h => ?_)
          refine j_iload (pc := 62) C 4 dX0_firstFrom_62 rfl ?_
          refine j_iald (pc := 64) C dX0_firstFrom_64 h (fun h => ?_)
          refine j_icmp_ne (pc := 65) C 71 dX0_firstFrom_65 (by decide) h (fun h => ?_) (fun h => ?_)
          · refine j_iinc (pc := 71) (v := (1 : Int32)) C 5 [(5, _), (0, _), (1, _), (2, _), (3, _), (4, _)] dX0_firstFrom_71 rfl rfl (by decide) rfl ?_
            refine j_goto (pc := 74) C 3 dX0_firstFrom_74 (by decide) ?_
            exact j_weak [1, 2, 3, 4, 5, 0] rfl (ih _ _ _ _ _ _ _ h)
          · exact j_weak [5] rfl (k68 _ _ h)
def w_X0_firstFrom (M : Mm) (x0 : Nat) (x1 : Nat) (x2 : Int32) (x3 : Int32) (x4 : Int32) (P : Int32 → Mm → Prop) : Prop := (∃ n3, l_X0_firstFrom_3 P (fun M8 x5_8 => P x5_8 M8) (fun M9 => P (-1 : Int32) M9) n3 M x0 x1 x2 x3 x4 (0 : Int32))
set_option maxHeartbeats 4000000 in
set_option maxRecDepth 100000 in
theorem c_X0_firstFrom (l : Launch) (E : EV) (M : Mm) (x0 : Nat) (x1 : Nat) (x2 : Int32) (x3 : Int32) (x4 : Int32) (P : Int32 → Mm → Prop) (h : w_X0_firstFrom M x0 x1 x2 x3 x4 P) : CtI l E yX0_firstFrom cX0_firstFrom 6 .int rm_X0_firstFrom 0 0 [.ref x0, .ref x1, .int x2, .int x3, .int x4] M P := by
  refine ctI_of (by decide +kernel) (Nat.le_of_ble_eq_true rfl) ?_
  intro p e s m args below meth c C
  rw [w_X0_firstFrom] at h
  show J p l e rm_X0_firstFrom s m args below meth c (QI below E P args s 0 0) E 6 M 0 0 0 [(0, .ref x0), (1, .ref x1), (2, .int x2), (3, .int x3), (4, .int x4)] []
  refine j_iconst (pc := 0) (v := (0 : Int32)) C dX0_firstFrom_0 rfl ?_
  refine j_istore (pc := 1) C [(5, _), (0, _), (1, _), (2, _), (3, _), (4, _)] dX0_firstFrom_1 (by decide) rfl ?_
  obtain ⟨n3, h⟩ := h
  refine j_weak [1, 2, 3, 4, 5, 0] rfl (jl_X0_firstFrom_3 C ⟨Nat.le_of_ble_eq_true rfl, Nat.le_of_ble_eq_true rfl⟩ (fun M8 x5_8 h => ?_) (fun M9 h => ?_) n3 _ _ _ _ _ _ _ h)
  · refine j_iload (pc := 68) C 0 dX0_firstFrom_68 rfl ?_
    exact j_iret (pc := 70) C dX0_firstFrom_70 (Nat.le_of_ble_eq_true rfl) (Nat.le_of_ble_eq_true rfl) h
  · refine j_iconst (pc := 77) (v := (-1 : Int32)) C dX0_firstFrom_77 rfl ?_
    exact j_iret (pc := 78) C dX0_firstFrom_78 (Nat.le_of_ble_eq_true rfl) (Nat.le_of_ble_eq_true rfl) h
theorem cs_X0_32 (C : Cx p l s m args meth c cc nL RX0 ret E) {b : Nat} {y0 : Int32} {y1 : Int32} {P : Int32 → Mm → Prop} (hR : rm_X6_instrumentOfSeat.frames + 1 ≤ R.frames ∧ 8 + (3 + 11) + rm_X6_instrumentOfSeat.locals ≤ R.locals) (hf : kc ≤ R.cells ∧ ks ≤ R.slots) (hst : (st.map fun v => v.category).sum ≤ 8) (d : decode cc pc = .ok (.invokevirtual 32, 3)) (h : zk M b = 6 ∧ w_X6_instrumentOfSeat M b y0 y1 P) (kk : ∀ r M', P r M' → J p l e R s m args below meth c Q E nL M' kc ks (pc + 3) lo (.int r :: st)) : J p l e R s m args below meth c Q E nL M kc ks pc lo (.int y1 :: .int y0 :: .ref b :: st) :=
  j_cV_I (n := 2) (As := [.int y0, .int y1]) C co_X6 rfl wd_778 wd_779 h.1 (c_X6_instrumentOfSeat l E M b y0 y1 P h.2) ⟨wd_780, wd_911, wd_106, by decide +kernel, by decide +kernel, by decide +kernel⟩ rfl rfl hR hf rfl hst d kk
theorem cs_X0_69 (C : Cx p l s m args meth c cc nL RX0 ret E) {b : Nat} {y0 : Nat} {y1 : Int32} {y2 : Int32} {y3 : Int32} {P : Int32 → Mm → Prop} (hR : rm_X0_firstFrom.frames + 1 ≤ R.frames ∧ 8 + (6 + 11) + rm_X0_firstFrom.locals ≤ R.locals) (hf : kc ≤ R.cells ∧ ks ≤ R.slots) (hst : (st.map fun v => v.category).sum ≤ 8) (d : decode cc pc = .ok (.invokevirtual 69, 3)) (h : zk M b = 1 ∧ w_X0_firstFrom M b y0 y1 y2 y3 P) (kk : ∀ r M', P r M' → J p l e R s m args below meth c Q E nL M' kc ks (pc + 3) lo (.int r :: st)) : J p l e R s m args below meth c Q E nL M kc ks pc lo (.int y3 :: .int y2 :: .int y1 :: .ref y0 :: .ref b :: st) :=
  j_cV_I (n := 4) (As := [.ref y0, .int y1, .int y2, .int y3]) C co_X0 rfl wd_927 wd_28 h.1 (c_X0_firstFrom l E M b y0 y1 y2 y3 P h.2) ⟨wd_928, wd_925, wd_104, by decide +kernel, by decide +kernel, by decide +kernel⟩ rfl rfl hR hf rfl hst d kk
abbrev rm_X0_chooseFirst : Room := { frames := 2, cells := 0, slots := 0, locals := 47 }
def l_X0_chooseFirst_6 (P : Mm → Prop) (K67 : Mm → Prop) : Nat → Mm → Nat → Nat → Int32 → Int32 → Int32 → Int32 → Prop
  | 0, _, _, _, _, _, _, _ => False
  | n + 1, M, x0, x1, x2, x3, x4, x5 => (zk M x1 = 6 ∧ ∃ a1, zR M x1 17 = some a1 ∧ zk M a1 = 10 ∧ vp_in x2 (zl M a1) ∧ (if (zI M a1 x2.toNatClampNeg) ≤ x5 then K67 M else zk M x1 = 6 ∧ w_X6_instrumentOfSeat M x1 x2 x5 (fun r2 M2 => zk M2 x0 = 1 ∧ w_X0_firstFrom M2 x0 x1 r2 (x3 &&& (x4 ^^^ (-1 : Int32))) x4 (fun r3 M3 => (zk M3 x0 = 1 ∧ ∃ a4, zR M3 x0 0 = some a4 ∧ zk M3 a4 = 10 ∧ vp_in x5 (zl M3 a4) ∧ (∀ M5, M5 = sI M3 a4 x5.toNatClampNeg r3 → l_X0_chooseFirst_6 P K67 n M5 x0 x1 x2 x3 (x4 ||| ((1 : Int32) <<< (r3 &&& 31))) (x5 + (1 : Int32))))))))
set_option maxHeartbeats 4000000 in
set_option maxRecDepth 100000 in
theorem jl_X0_chooseFirst_6 {P : Mm → Prop} {K67 : Mm → Prop} (C : Cx p l s m args meth c cX0_chooseFirst 8 RX0 none E) (hkc : kc ≤ rm_X0_chooseFirst.cells ∧ ks ≤ rm_X0_chooseFirst.slots) (k67 : ∀ M, K67 M → J p l e rm_X0_chooseFirst s m args below meth c (QV below E P args s rm_X0_chooseFirst.cells rm_X0_chooseFirst.slots) E 8 M kc ks 67 [] []) : ∀ n M x0 x1 x2 x3 x4 x5, l_X0_chooseFirst_6 P K67 n M x0 x1 x2 x3 x4 x5 → J p l e rm_X0_chooseFirst s m args below meth c (QV below E P args s rm_X0_chooseFirst.cells rm_X0_chooseFirst.slots) E 8 M kc ks 6 [(0, .ref x0), (1, .ref x1), (2, .int x2), (3, .int x3), (4, .int x4), (5, .int x5)] [] := by
  intro n
  induction n with
  | zero => intro M x0 x1 x2 x3 x4 x5 h; exact h.elim
  | succ n ih =>
    intro M x0 x1 x2 x3 x4 x5 h
    rw [l_X0_chooseFirst_6] at h
    refine j_iload (pc := 6) C 5 dX0_chooseFirst_6 rfl ?_
    refine j_aload_n (pc := 8) C 1 dX0_chooseFirst_8 rfl ?_
    refine gf_X0_18 (pc := 9) C dX0_chooseFirst_9 h (fun a1 h => ?_)
    refine j_iload_n (pc := 12) C 2 dX0_chooseFirst_12 rfl ?_
    refine j_iald (pc := 13) C dX0_chooseFirst_13 h (fun h => ?_)
    refine j_icmp_ge (pc := 14) C 67 dX0_chooseFirst_14 (by decide) h (fun h => ?_) (fun h => ?_)
    · exact j_weak [] rfl (k67 _ h)
    · refine j_aload_n (pc := 17) C 1 dX0_chooseFirst_17 rfl ?_
      refine j_iload_n (pc := 18) C 2 dX0_chooseFirst_18 rfl ?_
      refine j_iload (pc := 19) C 5 dX0_chooseFirst_19 rfl ?_
      refine cs_X0_32 (pc := 21) C ⟨Nat.le_of_ble_eq_true rfl, Nat.le_of_ble_eq_true rfl⟩ hkc (Nat.le_of_ble_eq_true rfl) dX0_chooseFirst_21 h (fun r2 M2 h => ?_)
      refine j_istore (pc := 24) C [(6, _), (0, _), (1, _), (2, _), (3, _), (4, _), (5, _)] dX0_chooseFirst_24 (by decide) rfl ?_
      refine j_aload_n (pc := 26) C 1 dX0_chooseFirst_26 rfl ?_
      refine j_aload_n (pc := 27) C 2 dX0_chooseFirst_27 rfl ?_
      refine j_iload (pc := 28) C 0 dX0_chooseFirst_28 rfl ?_
      refine j_iload_n (pc := 30) C 4 dX0_chooseFirst_30 rfl ?_
      refine j_iload (pc := 31) C 5 dX0_chooseFirst_31 rfl ?_
      refine j_iconst (pc := 33) (v := (-1 : Int32)) C dX0_chooseFirst_33 rfl ?_
      refine j_ixor (pc := 34) C dX0_chooseFirst_34 ?_
      refine j_iand (pc := 35) C dX0_chooseFirst_35 ?_
      refine j_iload (pc := 36) C 5 dX0_chooseFirst_36 rfl ?_
      refine cs_X0_69 (pc := 38) C ⟨Nat.le_of_ble_eq_true rfl, Nat.le_of_ble_eq_true rfl⟩ hkc (Nat.le_of_ble_eq_true rfl) dX0_chooseFirst_38 h (fun r3 M3 h => ?_)
      refine j_istore (pc := 41) C [(7, _), (6, _), (0, _), (1, _), (2, _), (3, _), (4, _), (5, _)] dX0_chooseFirst_41 (by decide) rfl ?_
      refine j_aload_n (pc := 43) C 2 dX0_chooseFirst_43 rfl ?_
      refine gf_X0_9 (pc := 44) C dX0_chooseFirst_44 h (fun a4 h => ?_)
      refine j_iload (pc := 47) C 7 dX0_chooseFirst_47 rfl ?_
      refine j_iload (pc := 49) C 0 dX0_chooseFirst_49 rfl ?_
      refine n_iast (pc := 51) C dX0_chooseFirst_51 h (fun M5 h => ?_)
      refine j_iload (pc := 52) C 6 dX0_chooseFirst_52 rfl ?_
      refine j_iconst (pc := 54) (v := (1 : Int32)) C dX0_chooseFirst_54 rfl ?_
      refine j_iload (pc := 55) C 0 dX0_chooseFirst_55 rfl ?_
      refine j_ishl (pc := 57) C dX0_chooseFirst_57 ?_
      refine j_ior (pc := 58) C dX0_chooseFirst_58 ?_
      refine j_istore (pc := 59) C [(4, _), (7, _), (6, _), (0, _), (1, _), (2, _), (3, _), (5, _)] dX0_chooseFirst_59 (by decide) rfl ?_
      refine j_iinc (pc := 61) (v := (1 : Int32)) C 7 [(5, _), (4, _), (7, _), (6, _), (0, _), (1, _), (2, _), (3, _)] dX0_chooseFirst_61 rfl rfl (by decide) rfl ?_
      refine j_goto (pc := 64) C 6 dX0_chooseFirst_64 (by decide) ?_
      exact j_weak [4, 5, 6, 7, 1, 0] rfl (ih _ _ _ _ _ _ _ h)
def w_X0_chooseFirst (M : Mm) (x0 : Nat) (x1 : Nat) (x2 : Int32) (x3 : Int32) (P : Mm → Prop) : Prop := (∃ n6, l_X0_chooseFirst_6 P (fun M6 => P M6) n6 M x0 x1 x2 x3 (0 : Int32) (0 : Int32))
set_option maxHeartbeats 4000000 in
set_option maxRecDepth 100000 in
theorem c_X0_chooseFirst (l : Launch) (E : EV) (M : Mm) (x0 : Nat) (x1 : Nat) (x2 : Int32) (x3 : Int32) (P : Mm → Prop) (h : w_X0_chooseFirst M x0 x1 x2 x3 P) : CtV l E yX0_chooseFirst cX0_chooseFirst 8 rm_X0_chooseFirst 0 0 [.ref x0, .ref x1, .int x2, .int x3] M P := by
  refine ctV_of (by decide +kernel) (Nat.le_of_ble_eq_true rfl) ?_
  intro p e s m args below meth c C hnm
  rw [w_X0_chooseFirst] at h
  show J p l e rm_X0_chooseFirst s m args below meth c (QV below E P args s 0 0) E 8 M 0 0 0 [(0, .ref x0), (1, .ref x1), (2, .int x2), (3, .int x3)] []
  refine j_iconst (pc := 0) (v := (0 : Int32)) C dX0_chooseFirst_0 rfl ?_
  refine j_istore (pc := 1) C [(4, _), (0, _), (1, _), (2, _), (3, _)] dX0_chooseFirst_1 (by decide) rfl ?_
  refine j_iconst (pc := 3) (v := (0 : Int32)) C dX0_chooseFirst_3 rfl ?_
  refine j_istore (pc := 4) C [(5, _), (4, _), (0, _), (1, _), (2, _), (3, _)] dX0_chooseFirst_4 (by decide) rfl ?_
  obtain ⟨n6, h⟩ := h
  refine j_weak [2, 3, 4, 5, 1, 0] rfl (jl_X0_chooseFirst_6 C ⟨Nat.le_of_ble_eq_true rfl, Nat.le_of_ble_eq_true rfl⟩ (fun M6 h => ?_) n6 _ _ _ _ _ _ _ h)
  · exact j_vret (pc := 67) C dX0_chooseFirst_67 (Nat.le_of_ble_eq_true rfl) (Nat.le_of_ble_eq_true rfl) h
abbrev rm_X0_fewestFrom : Room := { frames := 1, cells := 0, slots := 0, locals := 22 }
def l_X0_fewestFrom_7 (P : Int32 → Mm → Prop) (K75 : Mm → Int32 → Prop) : Nat → Mm → Nat → Nat → Int32 → Int32 → Int32 → Int32 → Int32 → Prop
  | 0, _, _, _, _, _, _, _, _ => False
  | n + 1, M, x0, x1, x2, x3, x4, x5, x6 => (zk M x1 = 6 ∧ ∃ a1, zR M x1 5 = some a1 ∧ zk M a1 = 2 ∧ (if (zI M a1 1) ≤ x6 then K75 M x5 else w_X7_has M x3 x6 (fun r2 M2 => (if r2 = 0 then l_X0_fewestFrom_7 P K75 n M2 x0 x1 x2 x3 x4 x5 (x6 + (1 : Int32)) else (zk M2 x1 = 6 ∧ ∃ a3, zR M2 x1 9 = some a3 ∧ zk M2 a3 = 10 ∧ vp_in x6 (zl M2 a3) ∧ w_X7_has M2 (zI M2 a3 x6.toNatClampNeg) x2 (fun r4 M4 => (if r4 = 0 then l_X0_fewestFrom_7 P K75 n M4 x0 x1 x2 x3 x4 x5 (x6 + (1 : Int32)) else zk M4 x1 = 6 ∧ w_X6_doublingOn M4 x1 x6 x2 (fun r5 M5 => (zk M5 x0 = 1 ∧ ∃ a6, zR M5 x0 1 = some a6 ∧ zk M5 a6 = 10 ∧ vp_in (x4 ||| ((1 : Int32) <<< (x6 &&& 31))) (zl M5 a6) ∧ l_X0_fewestFrom_7 P K75 n M5 x0 x1 x2 x3 x4 (if (r5 + (zI M5 a6 (x4 ||| ((1 : Int32) <<< (x6 &&& 31))).toNatClampNeg)) < x5 then (r5 + (zI M5 a6 (x4 ||| ((1 : Int32) <<< (x6 &&& 31))).toNatClampNeg)) else x5) (x6 + (1 : Int32)))))))))))
set_option maxHeartbeats 4000000 in
set_option maxRecDepth 100000 in
theorem jl_X0_fewestFrom_7 {P : Int32 → Mm → Prop} {K75 : Mm → Int32 → Prop} (C : Cx p l s m args meth c cX0_fewestFrom 7 RX0 (some .int) E) (hkc : kc ≤ rm_X0_fewestFrom.cells ∧ ks ≤ rm_X0_fewestFrom.slots) (k75 : ∀ M x5, K75 M x5 → J p l e rm_X0_fewestFrom s m args below meth c (QI below E P args s rm_X0_fewestFrom.cells rm_X0_fewestFrom.slots) E 7 M kc ks 75 [(5, .int x5)] []) : ∀ n M x0 x1 x2 x3 x4 x5 x6, l_X0_fewestFrom_7 P K75 n M x0 x1 x2 x3 x4 x5 x6 → J p l e rm_X0_fewestFrom s m args below meth c (QI below E P args s rm_X0_fewestFrom.cells rm_X0_fewestFrom.slots) E 7 M kc ks 7 [(0, .ref x0), (1, .ref x1), (2, .int x2), (3, .int x3), (4, .int x4), (5, .int x5), (6, .int x6)] [] := by
  intro n
  induction n with
  | zero => intro M x0 x1 x2 x3 x4 x5 x6 h; exact h.elim
  | succ n ih =>
    intro M x0 x1 x2 x3 x4 x5 x6 h
    rw [l_X0_fewestFrom_7] at h
    refine j_iload (pc := 7) C 6 dX0_fewestFrom_7 rfl ?_
    refine j_aload_n (pc := 9) C 1 dX0_fewestFrom_9 rfl ?_
    refine gf_X0_44 (pc := 10) C dX0_fewestFrom_10 h (fun a1 h => ?_)
    refine gf_X0_48 (pc := 13) C dX0_fewestFrom_13 h (fun h => ?_)
    refine j_icmp_ge (pc := 16) C 75 dX0_fewestFrom_16 (by decide) h (fun h => ?_) (fun h => ?_)
    · exact j_weak [5] rfl (k75 _ _ h)
    · refine j_iload_n (pc := 19) C 3 dX0_fewestFrom_19 rfl ?_
      refine j_iload (pc := 20) C 6 dX0_fewestFrom_20 rfl ?_
      refine cs_X0_54 (pc := 22) C ⟨Nat.le_of_ble_eq_true rfl, Nat.le_of_ble_eq_true rfl⟩ hkc (Nat.le_of_ble_eq_true rfl) dX0_fewestFrom_22 h (fun r2 M2 h => ?_)
      refine j_if_eq (pc := 25) C 69 dX0_fewestFrom_25 (by decide) h (fun h => ?_) (fun h => ?_)
      · refine j_iinc (pc := 69) (v := (1 : Int32)) C 6 [(6, _), (0, _), (1, _), (2, _), (3, _), (4, _), (5, _)] dX0_fewestFrom_69 rfl rfl (by decide) rfl ?_
        refine j_goto (pc := 72) C 7 dX0_fewestFrom_72 (by decide) ?_
        exact j_weak [1, 2, 3, 4, 5, 6, 0] rfl (ih _ _ _ _ _ _ _ _ h)
      · refine j_aload_n (pc := 28) C 1 dX0_fewestFrom_28 rfl ?_
        refine gf_X0_58 (pc := 29) C dX0_fewestFrom_29 h (fun a3 h => ?_)
        refine j_iload (pc := 32) C 6 dX0_fewestFrom_32 rfl ?_
        refine j_iald (pc := 34) C dX0_fewestFrom_34 h (fun h => ?_)
        refine j_iload_n (pc := 35) C 2 dX0_fewestFrom_35 rfl ?_
        refine cs_X0_54 (pc := 36) C ⟨Nat.le_of_ble_eq_true rfl, Nat.le_of_ble_eq_true rfl⟩ hkc (Nat.le_of_ble_eq_true rfl) dX0_fewestFrom_36 h (fun r4 M4 h => ?_)
        refine j_if_eq (pc := 39) C 69 dX0_fewestFrom_39 (by decide) h (fun h => ?_) (fun h => ?_)
        · refine j_iinc (pc := 69) (v := (1 : Int32)) C 6 [(6, _), (0, _), (1, _), (2, _), (3, _), (4, _), (5, _)] dX0_fewestFrom_69 rfl rfl (by decide) rfl ?_
          refine j_goto (pc := 72) C 7 dX0_fewestFrom_72 (by decide) ?_
          exact j_weak [1, 2, 3, 4, 5, 6, 0] rfl (ih _ _ _ _ _ _ _ _ h)
        · refine j_iload (pc := 42) C 5 dX0_fewestFrom_42 rfl ?_
          refine j_aload_n (pc := 44) C 1 dX0_fewestFrom_44 rfl ?_
          refine j_iload (pc := 45) C 6 dX0_fewestFrom_45 rfl ?_
          refine j_iload_n (pc := 47) C 2 dX0_fewestFrom_47 rfl ?_
          refine cs_X0_61 (pc := 48) C ⟨Nat.le_of_ble_eq_true rfl, Nat.le_of_ble_eq_true rfl⟩ hkc (Nat.le_of_ble_eq_true rfl) dX0_fewestFrom_48 h (fun r5 M5 h => ?_)
          refine j_aload_n (pc := 51) C 0 dX0_fewestFrom_51 rfl ?_
          refine gf_X0_15 (pc := 52) C dX0_fewestFrom_52 h (fun a6 h => ?_)
          refine j_iload (pc := 55) C 4 dX0_fewestFrom_55 rfl ?_
          refine j_iconst (pc := 57) (v := (1 : Int32)) C dX0_fewestFrom_57 rfl ?_
          refine j_iload (pc := 58) C 6 dX0_fewestFrom_58 rfl ?_
          refine j_ishl (pc := 60) C dX0_fewestFrom_60 ?_
          refine j_ior (pc := 61) C dX0_fewestFrom_61 ?_
          refine j_iald (pc := 62) C dX0_fewestFrom_62 h (fun h => ?_)
          refine j_iadd (pc := 63) C dX0_fewestFrom_63 ?_
          refine j_mmin (pc := 64) C wd_918 wd_919 wd_122 wd_920 dX0_fewestFrom_64 (Nat.le_of_ble_eq_true rfl) (Nat.le_of_ble_eq_true rfl) hkc ?_
          refine j_istore (pc := 67) C [(5, _), (0, _), (1, _), (2, _), (3, _), (4, _), (6, _)] dX0_fewestFrom_67 (by decide) rfl ?_
          refine j_iinc (pc := 69) (v := (1 : Int32)) C 6 [(6, _), (5, _), (0, _), (1, _), (2, _), (3, _), (4, _)] dX0_fewestFrom_69 rfl rfl (by decide) rfl ?_
          refine j_goto (pc := 72) C 7 dX0_fewestFrom_72 (by decide) ?_
          exact j_weak [2, 3, 4, 5, 6, 1, 0] rfl (ih _ _ _ _ _ _ _ _ h)
def w_X0_fewestFrom (M : Mm) (x0 : Nat) (x1 : Nat) (x2 : Int32) (x3 : Int32) (x4 : Int32) (P : Int32 → Mm → Prop) : Prop := (∃ n7, l_X0_fewestFrom_7 P (fun M7 x5_7 => P x5_7 M7) n7 M x0 x1 x2 x3 x4 (100 : Int32) (0 : Int32))
set_option maxHeartbeats 4000000 in
set_option maxRecDepth 100000 in
theorem c_X0_fewestFrom (l : Launch) (E : EV) (M : Mm) (x0 : Nat) (x1 : Nat) (x2 : Int32) (x3 : Int32) (x4 : Int32) (P : Int32 → Mm → Prop) (h : w_X0_fewestFrom M x0 x1 x2 x3 x4 P) : CtI l E yX0_fewestFrom cX0_fewestFrom 7 .int rm_X0_fewestFrom 0 0 [.ref x0, .ref x1, .int x2, .int x3, .int x4] M P := by
  refine ctI_of (by decide +kernel) (Nat.le_of_ble_eq_true rfl) ?_
  intro p e s m args below meth c C
  rw [w_X0_fewestFrom] at h
  show J p l e rm_X0_fewestFrom s m args below meth c (QI below E P args s 0 0) E 7 M 0 0 0 [(0, .ref x0), (1, .ref x1), (2, .int x2), (3, .int x3), (4, .int x4)] []
  refine j_bipush (pc := 0) (v := (100 : Int32)) C dX0_fewestFrom_0 rfl ?_
  refine j_istore (pc := 2) C [(5, _), (0, _), (1, _), (2, _), (3, _), (4, _)] dX0_fewestFrom_2 (by decide) rfl ?_
  refine j_iconst (pc := 4) (v := (0 : Int32)) C dX0_fewestFrom_4 rfl ?_
  refine j_istore (pc := 5) C [(6, _), (5, _), (0, _), (1, _), (2, _), (3, _), (4, _)] dX0_fewestFrom_5 (by decide) rfl ?_
  obtain ⟨n7, h⟩ := h
  refine j_weak [2, 3, 4, 5, 6, 1, 0] rfl (jl_X0_fewestFrom_7 C ⟨Nat.le_of_ble_eq_true rfl, Nat.le_of_ble_eq_true rfl⟩ (fun M7 x5_7 h => ?_) n7 _ _ _ _ _ _ _ _ h)
  · refine j_iload (pc := 75) C 0 dX0_fewestFrom_75 rfl ?_
    exact j_iret (pc := 77) C dX0_fewestFrom_77 (Nat.le_of_ble_eq_true rfl) (Nat.le_of_ble_eq_true rfl) h
theorem cs_X0_23 (C : Cx p l s m args meth c cc nL RX0 ret E) {y0 : Int32} {P : Int32 → Mm → Prop} (hR : rm_X7_firstBits.frames + 1 ≤ R.frames ∧ 8 + (1 + 11) + rm_X7_firstBits.locals ≤ R.locals) (hf : kc ≤ R.cells ∧ ks ≤ R.slots) (hst : (st.map fun v => v.category).sum ≤ 8) (d : decode cc pc = .ok (.invokestatic 23, 3)) (h : w_X7_firstBits M y0 P) (kk : ∀ r M', P r M' → J p l e R s m args below meth c Q E nL M' kc ks (pc + 3) lo (.int r :: st)) : J p l e R s m args below meth c Q E nL M kc ks pc lo (.int y0 :: st) :=
  j_cSN_I (n := 1) (As := [.int y0]) C wd_872 (c_X7_firstBits l E M y0 P h) ⟨wd_873, nw_904, wd_103, by decide +kernel, by decide +kernel, by decide +kernel⟩ rfl rfl hR hf rfl hst d kk
theorem cs_X0_27 (C : Cx p l s m args meth c cc nL RX0 ret E) {y0 : Int32} {P : Int32 → Mm → Prop} (hR : rm_J6_bitCount_0f7a4.frames + 1 ≤ R.frames ∧ 8 + (1 + 11) + rm_J6_bitCount_0f7a4.locals ≤ R.locals) (hf : kc ≤ R.cells ∧ ks ≤ R.slots) (hst : (st.map fun v => v.category).sum ≤ 8) (d : decode cc pc = .ok (.invokestatic 27, 3)) (h : w_J6_bitCount_0f7a4 M y0 P) (kk : ∀ r M', P r M' → J p l e R s m args below meth c Q E nL M' kc ks (pc + 3) lo (.int r :: st)) : J p l e R s m args below meth c Q E nL M kc ks pc lo (.int y0 :: st) :=
  j_cS_I (n := 1) (As := [.int y0]) C wd_906 (c_J6_bitCount_0f7a4 l E M y0 P h) ⟨wd_907, wd_905, wd_123, by decide +kernel, by decide +kernel, by decide +kernel⟩ rfl rfl hR hf rfl hst d kk
theorem cs_X0_36 (C : Cx p l s m args meth c cc nL RX0 ret E) {b : Nat} {y0 : Nat} {y1 : Int32} {y2 : Int32} {y3 : Int32} {P : Int32 → Mm → Prop} (hR : rm_X0_fewestFrom.frames + 1 ≤ R.frames ∧ 8 + (7 + 11) + rm_X0_fewestFrom.locals ≤ R.locals) (hf : kc ≤ R.cells ∧ ks ≤ R.slots) (hst : (st.map fun v => v.category).sum ≤ 8) (d : decode cc pc = .ok (.invokevirtual 36, 3)) (h : zk M b = 1 ∧ w_X0_fewestFrom M b y0 y1 y2 y3 P) (kk : ∀ r M', P r M' → J p l e R s m args below meth c Q E nL M' kc ks (pc + 3) lo (.int r :: st)) : J p l e R s m args below meth c Q E nL M kc ks pc lo (.int y3 :: .int y2 :: .int y1 :: .ref y0 :: .ref b :: st) :=
  j_cV_I (n := 4) (As := [.ref y0, .int y1, .int y2, .int y3]) C co_X0 rfl wd_914 wd_26 h.1 (c_X0_fewestFrom l E M b y0 y1 y2 y3 P h.2) ⟨wd_915, wd_912, wd_104, by decide +kernel, by decide +kernel, by decide +kernel⟩ rfl rfl hR hf rfl hst d kk
theorem cs_X0_40 (C : Cx p l s m args meth c cc nL RX0 ret E) {b : Nat} {y0 : Nat} {y1 : Int32} {y2 : Int32} {P : Mm → Prop} (hR : rm_X0_chooseFirst.frames + 1 ≤ R.frames ∧ 8 + (8 + 11) + rm_X0_chooseFirst.locals ≤ R.locals) (hf : kc ≤ R.cells ∧ ks ≤ R.slots) (hst : (st.map fun v => v.category).sum ≤ 8) (d : decode cc pc = .ok (.invokevirtual 40, 3)) (h : zk M b = 1 ∧ w_X0_chooseFirst M b y0 y1 y2 P) (kk : ∀ M', P M' → J p l e R s m args below meth c Q E nL M' kc ks (pc + 3) lo st) : J p l e R s m args below meth c Q E nL M kc ks pc lo (.int y2 :: .int y1 :: .ref y0 :: .ref b :: st) :=
  j_cV_V (n := 3) (As := [.ref y0, .int y1, .int y2]) C co_X0 rfl wd_923 wd_27 h.1 (c_X0_chooseFirst l E M b y0 y1 y2 P h.2) ⟨wd_924, wd_921, wd_104, by decide +kernel, by decide +kernel, by decide +kernel⟩ rfl rfl hR hf rfl hst d kk
abbrev rm_X0_castWork : Room := { frames := 3, cells := 0, slots := 0, locals := 74 }
def l_X0_castWork_15 (P : Int32 → Mm → Prop) (K87 : Mm → Nat → Nat → Int32 → Int32 → Prop) : Nat → Mm → Nat → Nat → Int32 → Int32 → Int32 → Int32 → Prop
  | 0, _, _, _, _, _, _, _ => False
  | n + 1, M, x0, x1, x2, x3, x4, x5 => (if x5 < 0 then K87 M x0 x1 x2 x3 else w_J6_bitCount_0f7a4 M x5 (fun r3 M3 => (if (x5 &&& (x3 ^^^ (-1 : Int32))) = 0 then (if x4 < r3 then l_X0_castWork_15 P K87 n M3 x0 x1 x2 x3 x4 (x5 + (-1 : Int32)) else (zk M3 x0 = 1 ∧ ∃ a4, zR M3 x0 1 = some a4 ∧ (if r3 = x4 then zk M3 a4 = 10 ∧ vp_in x5 (zl M3 a4) ∧ (∀ M8, M8 = sI M3 a4 x5.toNatClampNeg (0 : Int32) → l_X0_castWork_15 P K87 n M8 x0 x1 x2 x3 x4 (x5 + (-1 : Int32))) else zk M3 x1 = 6 ∧ w_X6_instrumentOfSeat M3 x1 x2 r3 (fun r5 M5 => zk M5 x0 = 1 ∧ w_X0_fewestFrom M5 x0 x1 r5 (x3 &&& (x5 ^^^ (-1 : Int32))) x5 (fun r6 M6 => zk M6 a4 = 10 ∧ vp_in x5 (zl M6 a4) ∧ (∀ M7, M7 = sI M6 a4 x5.toNatClampNeg r6 → l_X0_castWork_15 P K87 n M7 x0 x1 x2 x3 x4 (x5 + (-1 : Int32)))))))) else l_X0_castWork_15 P K87 n M3 x0 x1 x2 x3 x4 (x5 + (-1 : Int32)))))
set_option maxHeartbeats 4000000 in
set_option maxRecDepth 100000 in
theorem jl_X0_castWork_15 {P : Int32 → Mm → Prop} {K87 : Mm → Nat → Nat → Int32 → Int32 → Prop} (C : Cx p l s m args meth c cX0_castWork 7 RX0 (some .int) E) (hkc : kc ≤ rm_X0_castWork.cells ∧ ks ≤ rm_X0_castWork.slots) (k87 : ∀ M x0 x1 x2 x3, K87 M x0 x1 x2 x3 → J p l e rm_X0_castWork s m args below meth c (QI below E P args s rm_X0_castWork.cells rm_X0_castWork.slots) E 7 M kc ks 87 [(0, .ref x0), (1, .ref x1), (2, .int x2), (3, .int x3)] []) : ∀ n M x0 x1 x2 x3 x4 x5, l_X0_castWork_15 P K87 n M x0 x1 x2 x3 x4 x5 → J p l e rm_X0_castWork s m args below meth c (QI below E P args s rm_X0_castWork.cells rm_X0_castWork.slots) E 7 M kc ks 15 [(0, .ref x0), (1, .ref x1), (2, .int x2), (3, .int x3), (4, .int x4), (5, .int x5)] [] := by
  intro n
  induction n with
  | zero => intro M x0 x1 x2 x3 x4 x5 h; exact h.elim
  | succ n ih =>
    intro M x0 x1 x2 x3 x4 x5 h
    rw [l_X0_castWork_15] at h
    refine j_iload (pc := 15) C 5 dX0_castWork_15 rfl ?_
    refine j_if_lt (pc := 17) C 87 dX0_castWork_17 (by decide) h (fun h => ?_) (fun h => ?_)
    · exact j_weak [0, 1, 2, 3] rfl (k87 _ _ _ _ _ h)
    · refine j_iload (pc := 20) C 5 dX0_castWork_20 rfl ?_
      refine cs_X0_27 (pc := 22) C ⟨Nat.le_of_ble_eq_true rfl, Nat.le_of_ble_eq_true rfl⟩ hkc (Nat.le_of_ble_eq_true rfl) dX0_castWork_22 h (fun r3 M3 h => ?_)
      refine j_istore (pc := 25) C [(6, _), (0, _), (1, _), (2, _), (3, _), (4, _), (5, _)] dX0_castWork_25 (by decide) rfl ?_
      refine j_iload (pc := 27) C 6 dX0_castWork_27 rfl ?_
      refine j_iload_n (pc := 29) C 4 dX0_castWork_29 rfl ?_
      refine j_iconst (pc := 30) (v := (-1 : Int32)) C dX0_castWork_30 rfl ?_
      refine j_ixor (pc := 31) C dX0_castWork_31 ?_
      refine j_iand (pc := 32) C dX0_castWork_32 ?_
      refine j_if_ne (pc := 33) C 81 dX0_castWork_33 (by decide) h (fun h => ?_) (fun h => ?_)
      · refine j_iinc (pc := 81) (v := (-1 : Int32)) C 6 [(5, _), (6, _), (0, _), (1, _), (2, _), (3, _), (4, _)] dX0_castWork_81 rfl rfl (by decide) rfl ?_
        refine j_goto (pc := 84) C 15 dX0_castWork_84 (by decide) ?_
        exact j_weak [2, 3, 4, 5, 6, 0] rfl (ih _ _ _ _ _ _ _ h)
      · refine j_iload (pc := 36) C 0 dX0_castWork_36 rfl ?_
        refine j_iload (pc := 38) C 5 dX0_castWork_38 rfl ?_
        refine j_icmp_gt (pc := 40) C 81 dX0_castWork_40 (by decide) h (fun h => ?_) (fun h => ?_)
        · refine j_iinc (pc := 81) (v := (-1 : Int32)) C 6 [(5, _), (6, _), (0, _), (1, _), (2, _), (3, _), (4, _)] dX0_castWork_81 rfl rfl (by decide) rfl ?_
          refine j_goto (pc := 84) C 15 dX0_castWork_84 (by decide) ?_
          exact j_weak [2, 3, 4, 5, 6, 0] rfl (ih _ _ _ _ _ _ _ h)
        · refine j_aload_n (pc := 43) C 1 dX0_castWork_43 rfl ?_
          refine gf_X0_15 (pc := 44) C dX0_castWork_44 h (fun a4 h => ?_)
          refine j_iload (pc := 47) C 6 dX0_castWork_47 rfl ?_
          refine j_iload (pc := 49) C 0 dX0_castWork_49 rfl ?_
          refine j_iload (pc := 51) C 5 dX0_castWork_51 rfl ?_
          refine j_icmp_ne (pc := 53) C 60 dX0_castWork_53 (by decide) h (fun h => ?_) (fun h => ?_)
          · refine j_aload_n (pc := 60) C 1 dX0_castWork_60 rfl ?_
            refine j_aload_n (pc := 61) C 2 dX0_castWork_61 rfl ?_
            refine j_aload_n (pc := 62) C 2 dX0_castWork_62 rfl ?_
            refine j_iload_n (pc := 63) C 3 dX0_castWork_63 rfl ?_
            refine j_iload (pc := 64) C 0 dX0_castWork_64 rfl ?_
            refine cs_X0_32 (pc := 66) C ⟨Nat.le_of_ble_eq_true rfl, Nat.le_of_ble_eq_true rfl⟩ hkc (Nat.le_of_ble_eq_true rfl) dX0_castWork_66 h (fun r5 M5 h => ?_)
            refine j_iload_n (pc := 69) C 4 dX0_castWork_69 rfl ?_
            refine j_iload (pc := 70) C 6 dX0_castWork_70 rfl ?_
            refine j_iconst (pc := 72) (v := (-1 : Int32)) C dX0_castWork_72 rfl ?_
            refine j_ixor (pc := 73) C dX0_castWork_73 ?_
            refine j_iand (pc := 74) C dX0_castWork_74 ?_
            refine j_iload (pc := 75) C 6 dX0_castWork_75 rfl ?_
            refine cs_X0_36 (pc := 77) C ⟨Nat.le_of_ble_eq_true rfl, Nat.le_of_ble_eq_true rfl⟩ hkc (Nat.le_of_ble_eq_true rfl) dX0_castWork_77 h (fun r6 M6 h => ?_)
            refine n_iast (pc := 80) C dX0_castWork_80 h (fun M7 h => ?_)
            refine j_iinc (pc := 81) (v := (-1 : Int32)) C 6 [(5, _), (6, _), (0, _), (1, _), (2, _), (3, _), (4, _)] dX0_castWork_81 rfl rfl (by decide) rfl ?_
            refine j_goto (pc := 84) C 15 dX0_castWork_84 (by decide) ?_
            exact j_weak [2, 3, 4, 5, 6, 0] rfl (ih _ _ _ _ _ _ _ h)
          · refine j_iconst (pc := 56) (v := (0 : Int32)) C dX0_castWork_56 rfl ?_
            refine j_goto (pc := 57) C 80 dX0_castWork_57 (by decide) ?_
            refine n_iast (pc := 80) C dX0_castWork_80 h (fun M8 h => ?_)
            refine j_iinc (pc := 81) (v := (-1 : Int32)) C 6 [(5, _), (6, _), (0, _), (1, _), (2, _), (3, _), (4, _)] dX0_castWork_81 rfl rfl (by decide) rfl ?_
            refine j_goto (pc := 84) C 15 dX0_castWork_84 (by decide) ?_
            exact j_weak [2, 3, 4, 5, 6, 0] rfl (ih _ _ _ _ _ _ _ h)
def w_X0_castWork (M : Mm) (x0 : Nat) (x1 : Nat) (x2 : Int32) (x3 : Int32) (P : Int32 → Mm → Prop) : Prop := (zk M x1 = 6 ∧ ∃ a1, zR M x1 17 = some a1 ∧ zk M a1 = 10 ∧ vp_in x2 (zl M a1) ∧ w_X7_firstBits M (8 : Int32) (fun r2 M2 => (∃ n15, l_X0_castWork_15 P (fun M9 x0_9 x1_9 x2_9 x3_9 => (zk M9 x0_9 = 1 ∧ ∃ a10, zR M9 x0_9 1 = some a10 ∧ zk M9 a10 = 10 ∧ vp_in (0 : Int32) (zl M9 a10) ∧ (if (zI M9 a10 (0 : Int32).toNatClampNeg) < (100 : Int32) then zk M9 x0_9 = 1 ∧ w_X0_chooseFirst M9 x0_9 x1_9 x2_9 x3_9 (fun M11 => (zk M11 x0_9 = 1 ∧ ∃ a12, zR M11 x0_9 1 = some a12 ∧ zk M11 a12 = 10 ∧ vp_in (0 : Int32) (zl M11 a12) ∧ P (zI M11 a12 (0 : Int32).toNatClampNeg) M11)) else P (-1 : Int32) M9))) n15 M2 x0 x1 x2 x3 (zI M a1 x2.toNatClampNeg) r2)))
set_option maxHeartbeats 4000000 in
set_option maxRecDepth 100000 in
theorem c_X0_castWork (l : Launch) (E : EV) (M : Mm) (x0 : Nat) (x1 : Nat) (x2 : Int32) (x3 : Int32) (P : Int32 → Mm → Prop) (h : w_X0_castWork M x0 x1 x2 x3 P) : CtI l E yX0_castWork cX0_castWork 7 .int rm_X0_castWork 0 0 [.ref x0, .ref x1, .int x2, .int x3] M P := by
  refine ctI_of (by decide +kernel) (Nat.le_of_ble_eq_true rfl) ?_
  intro p e s m args below meth c C
  rw [w_X0_castWork] at h
  show J p l e rm_X0_castWork s m args below meth c (QI below E P args s 0 0) E 7 M 0 0 0 [(0, .ref x0), (1, .ref x1), (2, .int x2), (3, .int x3)] []
  refine j_aload_n (pc := 0) C 1 dX0_castWork_0 rfl ?_
  refine gf_X0_18 (pc := 1) C dX0_castWork_1 h (fun a1 h => ?_)
  refine j_iload_n (pc := 4) C 2 dX0_castWork_4 rfl ?_
  refine j_iald (pc := 5) C dX0_castWork_5 h (fun h => ?_)
  refine j_istore (pc := 6) C [(4, _), (0, _), (1, _), (2, _), (3, _)] dX0_castWork_6 (by decide) rfl ?_
  refine j_bipush (pc := 8) (v := (8 : Int32)) C dX0_castWork_8 rfl ?_
  refine cs_X0_23 (pc := 10) C ⟨Nat.le_of_ble_eq_true rfl, Nat.le_of_ble_eq_true rfl⟩ ⟨Nat.le_of_ble_eq_true rfl, Nat.le_of_ble_eq_true rfl⟩ (Nat.le_of_ble_eq_true rfl) dX0_castWork_10 h (fun r2 M2 h => ?_)
  refine j_istore (pc := 13) C [(5, _), (4, _), (0, _), (1, _), (2, _), (3, _)] dX0_castWork_13 (by decide) rfl ?_
  obtain ⟨n15, h⟩ := h
  refine j_weak [2, 3, 4, 5, 1, 0] rfl (jl_X0_castWork_15 C ⟨Nat.le_of_ble_eq_true rfl, Nat.le_of_ble_eq_true rfl⟩ (fun M9 x0_9 x1_9 x2_9 x3_9 h => ?_) n15 _ _ _ _ _ _ _ h)
  · refine j_aload_n (pc := 87) C 0 dX0_castWork_87 rfl ?_
    refine gf_X0_15 (pc := 88) C dX0_castWork_88 h (fun a10 h => ?_)
    refine j_iconst (pc := 91) (v := (0 : Int32)) C dX0_castWork_91 rfl ?_
    refine j_iald (pc := 92) C dX0_castWork_92 h (fun h => ?_)
    refine j_bipush (pc := 93) (v := (100 : Int32)) C dX0_castWork_93 rfl ?_
    refine j_icmp_lt (pc := 95) C 100 dX0_castWork_95 (by decide) h (fun h => ?_) (fun h => ?_)
    · refine j_aload_n (pc := 100) C 0 dX0_castWork_100 rfl ?_
      refine j_aload_n (pc := 101) C 1 dX0_castWork_101 rfl ?_
      refine j_iload_n (pc := 102) C 2 dX0_castWork_102 rfl ?_
      refine j_iload_n (pc := 103) C 3 dX0_castWork_103 rfl ?_
      refine cs_X0_40 (pc := 104) C ⟨Nat.le_of_ble_eq_true rfl, Nat.le_of_ble_eq_true rfl⟩ ⟨Nat.le_of_ble_eq_true rfl, Nat.le_of_ble_eq_true rfl⟩ (Nat.le_of_ble_eq_true rfl) dX0_castWork_104 h (fun M11 h => ?_)
      refine j_aload_n (pc := 107) C 0 dX0_castWork_107 rfl ?_
      refine gf_X0_15 (pc := 108) C dX0_castWork_108 h (fun a12 h => ?_)
      refine j_iconst (pc := 111) (v := (0 : Int32)) C dX0_castWork_111 rfl ?_
      refine j_iald (pc := 112) C dX0_castWork_112 h (fun h => ?_)
      exact j_iret (pc := 113) C dX0_castWork_113 (Nat.le_of_ble_eq_true rfl) (Nat.le_of_ble_eq_true rfl) h
    · refine j_iconst (pc := 98) (v := (-1 : Int32)) C dX0_castWork_98 rfl ?_
      exact j_iret (pc := 99) C dX0_castWork_99 (Nat.le_of_ble_eq_true rfl) (Nat.le_of_ble_eq_true rfl) h
end GW8
