/-! written by a program (wip/whole/gen.py) out of the decode rows and the tables: walks of X8 -/

section GW25
variable {p : Program} {l : Launch} {e : Env} {R : Room} {s : State} {m : MethodId} {args : Array Value} {below : List Frame} {meth : Method} {c : Code} {Q : State → Prop} {cc : ByteArray} {nL : Nat} {ret : Option FieldType} {E : EV} {M : Mm} {kc ks pc : Nat} {lo : List (Nat × Value)} {st : List Value}
theorem cs_X8_318 (C : Cx p l s m args meth c cc nL RX8 ret E) {b : Nat} {y0 : Int32} {P : Int32 → Mm → Prop} (hR : rm_X8_costOf.frames + 1 ≤ R.frames ∧ 8 + (4 + 11) + rm_X8_costOf.locals ≤ R.locals) (hf : kc ≤ R.cells ∧ ks ≤ R.slots) (hst : (st.map fun v => v.category).sum ≤ 8) (d : decode cc pc = .ok (.invokevirtual 318, 3)) (h : zk M b = 8 ∧ w_X8_costOf M b y0 P) (kk : ∀ r M', P r M' → J p l e R s m args below meth c Q E nL M' kc ks (pc + 3) lo (.int r :: st)) : J p l e R s m args below meth c Q E nL M kc ks pc lo (.int y0 :: .ref b :: st) :=
  j_cV_I (n := 1) (As := [.int y0]) C co_X8 rfl wd_1537 wd_96 h.1 (c_X8_costOf l E M b y0 P h.2) ⟨wd_1538, wd_1535, wd_106, by decide +kernel, by decide +kernel, by decide +kernel⟩ rfl rfl hR hf rfl hst d kk
abbrev rm_X8_costs : Room := { frames := 7, cells := 0, slots := 0, locals := 157 }
def w_X8_costs (M : Mm) (x0 : Nat) (x1 : Int32) (P : Int32 → Mm → Prop) : Prop := zk M x0 = 8 ∧ (∀ M1, M1 = sI M x0 0 (0 : Int32) → w_X8_within M1 x1 (0 : Int32) (3 : Int32) (fun r2 M2 => (if r2 = 0 then zk M2 x0 = 8 ∧ w_X8_throwsIf M2 x0 (1 : Int32) (1 : Int32) (fun r5 M5 => (if r5 = 0 then zk M5 x0 = 8 ∧ w_X8_costOf M5 x0 x1 (fun r6 M6 => P r6 M6) else P (0 : Int32) M5)) else zk M2 x0 = 8 ∧ w_X8_throwsIf M2 x0 (0 : Int32) (1 : Int32) (fun r3 M3 => (if r3 = 0 then zk M3 x0 = 8 ∧ w_X8_costOf M3 x0 x1 (fun r4 M4 => P r4 M4) else P (0 : Int32) M3)))))
set_option maxHeartbeats 4000000 in
set_option maxRecDepth 100000 in
theorem c_X8_costs (l : Launch) (E : EV) (M : Mm) (x0 : Nat) (x1 : Int32) (P : Int32 → Mm → Prop) (h : w_X8_costs M x0 x1 P) : CtI l E yX8_costs cX8_costs 2 .int rm_X8_costs 0 0 [.ref x0, .int x1] M P := by
  refine ctI_of (by decide +kernel) (Nat.le_of_ble_eq_true rfl) ?_
  intro p e s m args below meth c C
  rw [w_X8_costs] at h
  show J p l e rm_X8_costs s m args below meth c (QI below E P args s 0 0) E 2 M 0 0 0 [(0, .ref x0), (1, .int x1)] []
  refine j_aload_n (pc := 0) C 0 dX8_costs_0 rfl ?_
  refine j_iconst (pc := 1) (v := (0 : Int32)) C dX8_costs_1 rfl ?_
  refine pf_X8_56 (pc := 2) C dX8_costs_2 h (fun M1 h => ?_)
  refine j_aload_n (pc := 5) C 0 dX8_costs_5 rfl ?_
  refine j_iload_n (pc := 6) C 1 dX8_costs_6 rfl ?_
  refine j_iconst (pc := 7) (v := (0 : Int32)) C dX8_costs_7 rfl ?_
  refine j_iconst (pc := 8) (v := (3 : Int32)) C dX8_costs_8 rfl ?_
  refine cs_X8_80 (pc := 9) C ⟨Nat.le_of_ble_eq_true rfl, Nat.le_of_ble_eq_true rfl⟩ ⟨Nat.le_of_ble_eq_true rfl, Nat.le_of_ble_eq_true rfl⟩ (Nat.le_of_ble_eq_true rfl) dX8_costs_9 h (fun r2 M2 h => ?_)
  refine j_if_ne (pc := 12) C 19 dX8_costs_12 (by decide) h (fun h => ?_) (fun h => ?_)
  · refine j_iconst (pc := 19) (v := (0 : Int32)) C dX8_costs_19 rfl ?_
    refine j_iconst (pc := 20) (v := (1 : Int32)) C dX8_costs_20 rfl ?_
    refine cs_X8_176 (pc := 21) C ⟨Nat.le_of_ble_eq_true rfl, Nat.le_of_ble_eq_true rfl⟩ ⟨Nat.le_of_ble_eq_true rfl, Nat.le_of_ble_eq_true rfl⟩ (Nat.le_of_ble_eq_true rfl) dX8_costs_21 h (fun r3 M3 h => ?_)
    refine j_if_eq (pc := 24) C 31 dX8_costs_24 (by decide) h (fun h => ?_) (fun h => ?_)
    · refine j_aload_n (pc := 31) C 0 dX8_costs_31 rfl ?_
      refine j_iload_n (pc := 32) C 1 dX8_costs_32 rfl ?_
      refine cs_X8_318 (pc := 33) C ⟨Nat.le_of_ble_eq_true rfl, Nat.le_of_ble_eq_true rfl⟩ ⟨Nat.le_of_ble_eq_true rfl, Nat.le_of_ble_eq_true rfl⟩ (Nat.le_of_ble_eq_true rfl) dX8_costs_33 h (fun r4 M4 h => ?_)
      exact j_iret (pc := 36) C dX8_costs_36 (Nat.le_of_ble_eq_true rfl) (Nat.le_of_ble_eq_true rfl) h
    · refine j_iconst (pc := 27) (v := (0 : Int32)) C dX8_costs_27 rfl ?_
      refine j_goto (pc := 28) C 36 dX8_costs_28 (by decide) ?_
      exact j_iret (pc := 36) C dX8_costs_36 (Nat.le_of_ble_eq_true rfl) (Nat.le_of_ble_eq_true rfl) h
  · refine j_iconst (pc := 15) (v := (1 : Int32)) C dX8_costs_15 rfl ?_
    refine j_goto (pc := 16) C 20 dX8_costs_16 (by decide) ?_
    refine j_iconst (pc := 20) (v := (1 : Int32)) C dX8_costs_20 rfl ?_
    refine cs_X8_176 (pc := 21) C ⟨Nat.le_of_ble_eq_true rfl, Nat.le_of_ble_eq_true rfl⟩ ⟨Nat.le_of_ble_eq_true rfl, Nat.le_of_ble_eq_true rfl⟩ (Nat.le_of_ble_eq_true rfl) dX8_costs_21 h (fun r5 M5 h => ?_)
    refine j_if_eq (pc := 24) C 31 dX8_costs_24 (by decide) h (fun h => ?_) (fun h => ?_)
    · refine j_aload_n (pc := 31) C 0 dX8_costs_31 rfl ?_
      refine j_iload_n (pc := 32) C 1 dX8_costs_32 rfl ?_
      refine cs_X8_318 (pc := 33) C ⟨Nat.le_of_ble_eq_true rfl, Nat.le_of_ble_eq_true rfl⟩ ⟨Nat.le_of_ble_eq_true rfl, Nat.le_of_ble_eq_true rfl⟩ (Nat.le_of_ble_eq_true rfl) dX8_costs_33 h (fun r6 M6 h => ?_)
      exact j_iret (pc := 36) C dX8_costs_36 (Nat.le_of_ble_eq_true rfl) (Nat.le_of_ble_eq_true rfl) h
    · refine j_iconst (pc := 27) (v := (0 : Int32)) C dX8_costs_27 rfl ?_
      refine j_goto (pc := 28) C 36 dX8_costs_28 (by decide) ?_
      exact j_iret (pc := 36) C dX8_costs_36 (Nat.le_of_ble_eq_true rfl) (Nat.le_of_ble_eq_true rfl) h
abbrev rm_X8_costsWith : Room := { frames := 14, cells := 0, slots := 0, locals := 351 }
def w_X8_costsWith (M : Mm) (x0 : Nat) (x1 : Int32) (x2 : Int32) (x3 : Int32) (x4 : Int32) (P : Int32 → Mm → Prop) : Prop := zk M x0 = 8 ∧ w_X8_noPlace M x0 x1 x2 (fun r1 M1 => (if r1 = 0 then zk M1 x0 = 8 ∧ w_X8_noSet M1 x0 x3 x4 (fun r2 M2 => (if r2 = 0 then zk M2 x0 = 8 ∧ w_X8_why M2 x0 x1 x2 x3 x4 (fun r3 M3 => (if r3 ≤ 0 then (zk M3 x0 = 8 ∧ ∃ a4, zR M3 x0 2 = some a4 ∧ (zk M3 x0 = 8 ∧ ∃ a5, zR M3 x0 22 = some a5 ∧ zk M3 x0 = 8 ∧ w_X8_puts M3 x0 a4 a5 (fun M6 => (if x4 = 0 then zk M6 x0 = 8 ∧ w_X8_comes M6 x0 x1 x2 x3 (0 : Int32) (fun r7 M7 => zk M7 x0 = 8 ∧ w_X8_costOf M7 x0 (3 : Int32) (fun r8 M8 => (zk M8 x0 = 8 ∧ ∃ a9, zR M8 x0 22 = some a9 ∧ (zk M8 x0 = 8 ∧ ∃ a10, zR M8 x0 2 = some a10 ∧ zk M8 x0 = 8 ∧ w_X8_puts M8 x0 a9 a10 (fun M11 => P r8 M11))))) else zk M6 x0 = 8 ∧ w_X8_comes M6 x0 x1 x2 x3 (1 : Int32) (fun r12 M12 => zk M12 x0 = 8 ∧ w_X8_costOf M12 x0 (3 : Int32) (fun r13 M13 => (zk M13 x0 = 8 ∧ ∃ a14, zR M13 x0 22 = some a14 ∧ (zk M13 x0 = 8 ∧ ∃ a15, zR M13 x0 2 = some a15 ∧ zk M13 x0 = 8 ∧ w_X8_puts M13 x0 a14 a15 (fun M16 => P r13 M16))))))))) else P (-1 : Int32) M3)) else P (0 : Int32) M2)) else P (0 : Int32) M1))
set_option maxHeartbeats 4000000 in
set_option maxRecDepth 100000 in
theorem c_X8_costsWith (l : Launch) (E : EV) (M : Mm) (x0 : Nat) (x1 : Int32) (x2 : Int32) (x3 : Int32) (x4 : Int32) (P : Int32 → Mm → Prop) (h : w_X8_costsWith M x0 x1 x2 x3 x4 P) : CtI l E yX8_costsWith cX8_costsWith 7 .int rm_X8_costsWith 0 0 [.ref x0, .int x1, .int x2, .int x3, .int x4] M P := by
  refine ctI_of (by decide +kernel) (Nat.le_of_ble_eq_true rfl) ?_
  intro p e s m args below meth c C
  rw [w_X8_costsWith] at h
  show J p l e rm_X8_costsWith s m args below meth c (QI below E P args s 0 0) E 7 M 0 0 0 [(0, .ref x0), (1, .int x1), (2, .int x2), (3, .int x3), (4, .int x4)] []
  refine j_aload_n (pc := 0) C 0 dX8_costsWith_0 rfl ?_
  refine j_iload_n (pc := 1) C 1 dX8_costsWith_1 rfl ?_
  refine j_iload_n (pc := 2) C 2 dX8_costsWith_2 rfl ?_
  refine cs_X8_285 (pc := 3) C ⟨Nat.le_of_ble_eq_true rfl, Nat.le_of_ble_eq_true rfl⟩ ⟨Nat.le_of_ble_eq_true rfl, Nat.le_of_ble_eq_true rfl⟩ (Nat.le_of_ble_eq_true rfl) dX8_costsWith_3 h (fun r1 M1 h => ?_)
  refine j_if_ne (pc := 6) C 19 dX8_costsWith_6 (by decide) h (fun h => ?_) (fun h => ?_)
  · refine j_iconst (pc := 19) (v := (0 : Int32)) C dX8_costsWith_19 rfl ?_
    exact j_iret (pc := 20) C dX8_costsWith_20 (Nat.le_of_ble_eq_true rfl) (Nat.le_of_ble_eq_true rfl) h
  · refine j_aload_n (pc := 9) C 0 dX8_costsWith_9 rfl ?_
    refine j_iload_n (pc := 10) C 3 dX8_costsWith_10 rfl ?_
    refine j_iload (pc := 11) C 4 dX8_costsWith_11 rfl ?_
    refine cs_X8_291 (pc := 13) C ⟨Nat.le_of_ble_eq_true rfl, Nat.le_of_ble_eq_true rfl⟩ ⟨Nat.le_of_ble_eq_true rfl, Nat.le_of_ble_eq_true rfl⟩ (Nat.le_of_ble_eq_true rfl) dX8_costsWith_13 h (fun r2 M2 h => ?_)
    refine j_if_eq (pc := 16) C 21 dX8_costsWith_16 (by decide) h (fun h => ?_) (fun h => ?_)
    · refine j_aload_n (pc := 21) C 0 dX8_costsWith_21 rfl ?_
      refine j_iload_n (pc := 22) C 1 dX8_costsWith_22 rfl ?_
      refine j_iload_n (pc := 23) C 2 dX8_costsWith_23 rfl ?_
      refine j_iload_n (pc := 24) C 3 dX8_costsWith_24 rfl ?_
      refine j_iload (pc := 25) C 4 dX8_costsWith_25 rfl ?_
      refine cs_X8_294 (pc := 27) C ⟨Nat.le_of_ble_eq_true rfl, Nat.le_of_ble_eq_true rfl⟩ ⟨Nat.le_of_ble_eq_true rfl, Nat.le_of_ble_eq_true rfl⟩ (Nat.le_of_ble_eq_true rfl) dX8_costsWith_27 h (fun r3 M3 h => ?_)
      refine j_if_le (pc := 30) C 35 dX8_costsWith_30 (by decide) h (fun h => ?_) (fun h => ?_)
      · refine j_aload_n (pc := 35) C 0 dX8_costsWith_35 rfl ?_
        refine j_aload_n (pc := 36) C 0 dX8_costsWith_36 rfl ?_
        refine gf_X8_13 (pc := 37) C dX8_costsWith_37 h (fun a4 h => ?_)
        refine j_aload_n (pc := 40) C 0 dX8_costsWith_40 rfl ?_
        refine gf_X8_43 (pc := 41) C dX8_costsWith_41 h (fun a5 h => ?_)
        refine cs_X8_311 (pc := 44) C ⟨Nat.le_of_ble_eq_true rfl, Nat.le_of_ble_eq_true rfl⟩ ⟨Nat.le_of_ble_eq_true rfl, Nat.le_of_ble_eq_true rfl⟩ (Nat.le_of_ble_eq_true rfl) dX8_costsWith_44 h (fun M6 h => ?_)
        refine j_aload_n (pc := 47) C 0 dX8_costsWith_47 rfl ?_
        refine j_iload_n (pc := 48) C 1 dX8_costsWith_48 rfl ?_
        refine j_iload_n (pc := 49) C 2 dX8_costsWith_49 rfl ?_
        refine j_iload_n (pc := 50) C 3 dX8_costsWith_50 rfl ?_
        refine j_iload (pc := 51) C 4 dX8_costsWith_51 rfl ?_
        refine j_if_eq (pc := 53) C 60 dX8_costsWith_53 (by decide) h (fun h => ?_) (fun h => ?_)
        · refine j_iconst (pc := 60) (v := (0 : Int32)) C dX8_costsWith_60 rfl ?_
          refine cs_X8_301 (pc := 61) C ⟨Nat.le_of_ble_eq_true rfl, Nat.le_of_ble_eq_true rfl⟩ ⟨Nat.le_of_ble_eq_true rfl, Nat.le_of_ble_eq_true rfl⟩ (Nat.le_of_ble_eq_true rfl) dX8_costsWith_61 h (fun r7 M7 h => ?_)
          refine j_istore (pc := 64) C [(5, _), (0, _), (1, _), (2, _), (3, _), (4, _)] dX8_costsWith_64 (by decide) rfl ?_
          refine j_aload_n (pc := 66) C 1 dX8_costsWith_66 rfl ?_
          refine j_iconst (pc := 67) (v := (3 : Int32)) C dX8_costsWith_67 rfl ?_
          refine cs_X8_318 (pc := 68) C ⟨Nat.le_of_ble_eq_true rfl, Nat.le_of_ble_eq_true rfl⟩ ⟨Nat.le_of_ble_eq_true rfl, Nat.le_of_ble_eq_true rfl⟩ (Nat.le_of_ble_eq_true rfl) dX8_costsWith_68 h (fun r8 M8 h => ?_)
          refine j_istore (pc := 71) C [(6, _), (5, _), (0, _), (1, _), (2, _), (3, _), (4, _)] dX8_costsWith_71 (by decide) rfl ?_
          refine j_aload_n (pc := 73) C 2 dX8_costsWith_73 rfl ?_
          refine j_aload_n (pc := 74) C 2 dX8_costsWith_74 rfl ?_
          refine gf_X8_43 (pc := 75) C dX8_costsWith_75 h (fun a9 h => ?_)
          refine j_aload_n (pc := 78) C 2 dX8_costsWith_78 rfl ?_
          refine gf_X8_13 (pc := 79) C dX8_costsWith_79 h (fun a10 h => ?_)
          refine cs_X8_311 (pc := 82) C ⟨Nat.le_of_ble_eq_true rfl, Nat.le_of_ble_eq_true rfl⟩ ⟨Nat.le_of_ble_eq_true rfl, Nat.le_of_ble_eq_true rfl⟩ (Nat.le_of_ble_eq_true rfl) dX8_costsWith_82 h (fun M11 h => ?_)
          refine j_iload (pc := 85) C 0 dX8_costsWith_85 rfl ?_
          exact j_iret (pc := 87) C dX8_costsWith_87 (Nat.le_of_ble_eq_true rfl) (Nat.le_of_ble_eq_true rfl) h
        · refine j_iconst (pc := 56) (v := (1 : Int32)) C dX8_costsWith_56 rfl ?_
          refine j_goto (pc := 57) C 61 dX8_costsWith_57 (by decide) ?_
          refine cs_X8_301 (pc := 61) C ⟨Nat.le_of_ble_eq_true rfl, Nat.le_of_ble_eq_true rfl⟩ ⟨Nat.le_of_ble_eq_true rfl, Nat.le_of_ble_eq_true rfl⟩ (Nat.le_of_ble_eq_true rfl) dX8_costsWith_61 h (fun r12 M12 h => ?_)
          refine j_istore (pc := 64) C [(5, _), (0, _), (1, _), (2, _), (3, _), (4, _)] dX8_costsWith_64 (by decide) rfl ?_
          refine j_aload_n (pc := 66) C 1 dX8_costsWith_66 rfl ?_
          refine j_iconst (pc := 67) (v := (3 : Int32)) C dX8_costsWith_67 rfl ?_
          refine cs_X8_318 (pc := 68) C ⟨Nat.le_of_ble_eq_true rfl, Nat.le_of_ble_eq_true rfl⟩ ⟨Nat.le_of_ble_eq_true rfl, Nat.le_of_ble_eq_true rfl⟩ (Nat.le_of_ble_eq_true rfl) dX8_costsWith_68 h (fun r13 M13 h => ?_)
          refine j_istore (pc := 71) C [(6, _), (5, _), (0, _), (1, _), (2, _), (3, _), (4, _)] dX8_costsWith_71 (by decide) rfl ?_
          refine j_aload_n (pc := 73) C 2 dX8_costsWith_73 rfl ?_
          refine j_aload_n (pc := 74) C 2 dX8_costsWith_74 rfl ?_
          refine gf_X8_43 (pc := 75) C dX8_costsWith_75 h (fun a14 h => ?_)
          refine j_aload_n (pc := 78) C 2 dX8_costsWith_78 rfl ?_
          refine gf_X8_13 (pc := 79) C dX8_costsWith_79 h (fun a15 h => ?_)
          refine cs_X8_311 (pc := 82) C ⟨Nat.le_of_ble_eq_true rfl, Nat.le_of_ble_eq_true rfl⟩ ⟨Nat.le_of_ble_eq_true rfl, Nat.le_of_ble_eq_true rfl⟩ (Nat.le_of_ble_eq_true rfl) dX8_costsWith_82 h (fun M16 h => ?_)
          refine j_iload (pc := 85) C 0 dX8_costsWith_85 rfl ?_
          exact j_iret (pc := 87) C dX8_costsWith_87 (Nat.le_of_ble_eq_true rfl) (Nat.le_of_ble_eq_true rfl) h
      · refine j_iconst (pc := 33) (v := (-1 : Int32)) C dX8_costsWith_33 rfl ?_
        exact j_iret (pc := 34) C dX8_costsWith_34 (Nat.le_of_ble_eq_true rfl) (Nat.le_of_ble_eq_true rfl) h
    · refine j_iconst (pc := 19) (v := (0 : Int32)) C dX8_costsWith_19 rfl ?_
      exact j_iret (pc := 20) C dX8_costsWith_20 (Nat.le_of_ble_eq_true rfl) (Nat.le_of_ble_eq_true rfl) h
abbrev rm_X8_isBalanced : Room := { frames := 5, cells := 0, slots := 0, locals := 113 }
def l_X8_isBalanced_9 (P : Int32 → Mm → Prop) (K43 : Mm → Int32 → Prop) : Nat → Mm → Nat → Int32 → Int32 → Prop
  | 0, _, _, _, _ => False
  | n + 1, M, x0, x1, x2 => (zk M x0 = 8 ∧ ∃ a2, zR M x0 1 = some a2 ∧ zk M a2 = 10 ∧ vp_in (2 : Int32) (zl M a2) ∧ (if (zI M a2 (2 : Int32).toNatClampNeg) ≤ x2 then K43 M x1 else (if x1 = 0 then l_X8_isBalanced_9 P K43 n M x0 (0 : Int32) (x2 + (1 : Int32)) else zk M x0 = 8 ∧ w_X8_beyond M x0 x2 (fun r3 M3 => (if r3 = 0 then l_X8_isBalanced_9 P K43 n M3 x0 (1 : Int32) (x2 + (1 : Int32)) else l_X8_isBalanced_9 P K43 n M3 x0 (0 : Int32) (x2 + (1 : Int32)))))))
set_option maxHeartbeats 4000000 in
set_option maxRecDepth 100000 in
theorem jl_X8_isBalanced_9 {P : Int32 → Mm → Prop} {K43 : Mm → Int32 → Prop} (C : Cx p l s m args meth c cX8_isBalanced 3 RX8 (some .boolean) E) (hkc : kc ≤ rm_X8_isBalanced.cells ∧ ks ≤ rm_X8_isBalanced.slots) (k43 : ∀ M x1, K43 M x1 → J p l e rm_X8_isBalanced s m args below meth c (QI below E P args s rm_X8_isBalanced.cells rm_X8_isBalanced.slots) E 3 M kc ks 43 [(1, .int x1)] []) : ∀ n M x0 x1 x2, l_X8_isBalanced_9 P K43 n M x0 x1 x2 → J p l e rm_X8_isBalanced s m args below meth c (QI below E P args s rm_X8_isBalanced.cells rm_X8_isBalanced.slots) E 3 M kc ks 9 [(0, .ref x0), (1, .int x1), (2, .int x2)] [] := by
  intro n
  induction n with
  | zero => intro M x0 x1 x2 h; exact h.elim
  | succ n ih =>
    intro M x0 x1 x2 h
    rw [l_X8_isBalanced_9] at h
    refine j_iload_n (pc := 9) C 2 dX8_isBalanced_9 rfl ?_
    refine j_aload_n (pc := 10) C 0 dX8_isBalanced_10 rfl ?_
    refine gf_X8_7 (pc := 11) C dX8_isBalanced_11 h (fun a2 h => ?_)
    refine j_iconst (pc := 14) (v := (2 : Int32)) C dX8_isBalanced_14 rfl ?_
    refine j_iald (pc := 15) C dX8_isBalanced_15 h (fun h => ?_)
    refine j_icmp_ge (pc := 16) C 43 dX8_isBalanced_16 (by decide) h (fun h => ?_) (fun h => ?_)
    · exact j_weak [1] rfl (k43 _ _ h)
    · refine j_iload_n (pc := 19) C 1 dX8_isBalanced_19 rfl ?_
      refine j_if_eq (pc := 20) C 35 dX8_isBalanced_20 (by decide) h (fun h => ?_) (fun h => ?_)
      · refine j_iconst (pc := 35) (v := (0 : Int32)) C dX8_isBalanced_35 rfl ?_
        refine j_istore_n (pc := 36) C [(1, _), (0, _), (2, _)] dX8_isBalanced_36 (by decide) rfl ?_
        refine j_iinc (pc := 37) (v := (1 : Int32)) C 2 [(2, _), (1, _), (0, _)] dX8_isBalanced_37 rfl rfl (by decide) rfl ?_
        refine j_goto (pc := 40) C 9 dX8_isBalanced_40 (by decide) ?_
        exact j_weak [2, 1, 0] rfl (ih _ _ _ _ h)
      · refine j_aload_n (pc := 23) C 0 dX8_isBalanced_23 rfl ?_
        refine j_iload_n (pc := 24) C 2 dX8_isBalanced_24 rfl ?_
        refine cs_X8_258 (pc := 25) C ⟨Nat.le_of_ble_eq_true rfl, Nat.le_of_ble_eq_true rfl⟩ hkc (Nat.le_of_ble_eq_true rfl) dX8_isBalanced_25 h (fun r3 M3 h => ?_)
        refine j_if_ne (pc := 28) C 35 dX8_isBalanced_28 (by decide) h (fun h => ?_) (fun h => ?_)
        · refine j_iconst (pc := 35) (v := (0 : Int32)) C dX8_isBalanced_35 rfl ?_
          refine j_istore_n (pc := 36) C [(1, _), (0, _), (2, _)] dX8_isBalanced_36 (by decide) rfl ?_
          refine j_iinc (pc := 37) (v := (1 : Int32)) C 2 [(2, _), (1, _), (0, _)] dX8_isBalanced_37 rfl rfl (by decide) rfl ?_
          refine j_goto (pc := 40) C 9 dX8_isBalanced_40 (by decide) ?_
          exact j_weak [2, 1, 0] rfl (ih _ _ _ _ h)
        · refine j_iconst (pc := 31) (v := (1 : Int32)) C dX8_isBalanced_31 rfl ?_
          refine j_goto (pc := 32) C 36 dX8_isBalanced_32 (by decide) ?_
          refine j_istore_n (pc := 36) C [(1, _), (0, _), (2, _)] dX8_isBalanced_36 (by decide) rfl ?_
          refine j_iinc (pc := 37) (v := (1 : Int32)) C 2 [(2, _), (1, _), (0, _)] dX8_isBalanced_37 rfl rfl (by decide) rfl ?_
          refine j_goto (pc := 40) C 9 dX8_isBalanced_40 (by decide) ?_
          exact j_weak [2, 1, 0] rfl (ih _ _ _ _ h)
def w_X8_isBalanced (M : Mm) (x0 : Nat) (P : Int32 → Mm → Prop) : Prop := zk M x0 = 8 ∧ (∀ M1, M1 = sI M x0 0 (0 : Int32) → (∃ n9, l_X8_isBalanced_9 P (fun M4 x1_4 => (x1_4 = 0 ∨ x1_4 = 1) ∧ P x1_4 M4) n9 M1 x0 (1 : Int32) (0 : Int32)))
set_option maxHeartbeats 4000000 in
set_option maxRecDepth 100000 in
theorem c_X8_isBalanced (l : Launch) (E : EV) (M : Mm) (x0 : Nat) (P : Int32 → Mm → Prop) (h : w_X8_isBalanced M x0 P) : CtI l E yX8_isBalanced cX8_isBalanced 3 .boolean rm_X8_isBalanced 0 0 [.ref x0] M P := by
  refine ctI_of (by decide +kernel) (Nat.le_of_ble_eq_true rfl) ?_
  intro p e s m args below meth c C
  rw [w_X8_isBalanced] at h
  show J p l e rm_X8_isBalanced s m args below meth c (QI below E P args s 0 0) E 3 M 0 0 0 [(0, .ref x0)] []
  refine j_aload_n (pc := 0) C 0 dX8_isBalanced_0 rfl ?_
  refine j_iconst (pc := 1) (v := (0 : Int32)) C dX8_isBalanced_1 rfl ?_
  refine pf_X8_56 (pc := 2) C dX8_isBalanced_2 h (fun M1 h => ?_)
  refine j_iconst (pc := 5) (v := (1 : Int32)) C dX8_isBalanced_5 rfl ?_
  refine j_istore_n (pc := 6) C [(1, _), (0, _)] dX8_isBalanced_6 (by decide) rfl ?_
  refine j_iconst (pc := 7) (v := (0 : Int32)) C dX8_isBalanced_7 rfl ?_
  refine j_istore_n (pc := 8) C [(2, _), (1, _), (0, _)] dX8_isBalanced_8 (by decide) rfl ?_
  obtain ⟨n9, h⟩ := h
  refine j_weak [2, 1, 0] rfl (jl_X8_isBalanced_9 C ⟨Nat.le_of_ble_eq_true rfl, Nat.le_of_ble_eq_true rfl⟩ (fun M4 x1_4 h => ?_) n9 _ _ _ _ h)
  · refine j_iload_n (pc := 43) C 0 dX8_isBalanced_43 rfl ?_
    exact j_zret (pc := 44) C dX8_isBalanced_44 (Nat.le_of_ble_eq_true rfl) (Nat.le_of_ble_eq_true rfl) h
abbrev rm_X8_isCastRight : Room := { frames := 2, cells := 0, slots := 0, locals := 45 }
def l_X8_isCastRight_20 (P : Int32 → Mm → Prop) (K87 : Mm → Nat → Int32 → Int32 → Int32 → Prop) : Nat → Mm → Nat → Int32 → Int32 → Int32 → Int32 → Int32 → Prop
  | 0, _, _, _, _, _, _, _ => False
  | n + 1, M, x0, x1, x2, x3, x4, x5 => zk M x0 = 8 ∧ w_X8_ofWork M x0 x3 (4 : Int32) (fun r2 M2 => (if r2 ≤ x5 then K87 M2 x0 x1 x2 x3 else zk M2 x0 = 8 ∧ w_X8_hasWork M2 x0 x1 x3 (fun r3 M3 => (if r3 = 0 then K87 M3 x0 x1 x2 x3 else (if x2 = 0 then zk M3 x0 = 8 ∧ w_X8_castOf M3 x0 x1 x3 x5 (fun r4 M4 => l_X8_isCastRight_20 P K87 n M4 x0 x1 (0 : Int32) x3 (x4 ||| ((1 : Int32) <<< (r4 &&& 31))) (x5 + (1 : Int32))) else zk M3 x0 = 8 ∧ w_X8_castOf M3 x0 x1 x3 x5 (fun r5 M5 => (if ((x4 >>> (r5 &&& 31)) &&& (1 : Int32)) = 0 then zk M5 x0 = 8 ∧ w_X8_castOf M5 x0 x1 x3 x5 (fun r7 M7 => l_X8_isCastRight_20 P K87 n M7 x0 x1 (1 : Int32) x3 (x4 ||| ((1 : Int32) <<< (r7 &&& 31))) (x5 + (1 : Int32))) else zk M5 x0 = 8 ∧ w_X8_castOf M5 x0 x1 x3 x5 (fun r6 M6 => l_X8_isCastRight_20 P K87 n M6 x0 x1 (0 : Int32) x3 (x4 ||| ((1 : Int32) <<< (r6 &&& 31))) (x5 + (1 : Int32))))))))))
set_option maxHeartbeats 4000000 in
set_option maxRecDepth 100000 in
theorem jl_X8_isCastRight_20 {P : Int32 → Mm → Prop} {K87 : Mm → Nat → Int32 → Int32 → Int32 → Prop} (C : Cx p l s m args meth c cX8_isCastRight 6 RX8 (some .boolean) E) (hkc : kc ≤ rm_X8_isCastRight.cells ∧ ks ≤ rm_X8_isCastRight.slots) (k87 : ∀ M x0 x1 x2 x3, K87 M x0 x1 x2 x3 → J p l e rm_X8_isCastRight s m args below meth c (QI below E P args s rm_X8_isCastRight.cells rm_X8_isCastRight.slots) E 6 M kc ks 87 [(0, .ref x0), (1, .int x1), (2, .int x2), (3, .int x3)] []) : ∀ n M x0 x1 x2 x3 x4 x5, l_X8_isCastRight_20 P K87 n M x0 x1 x2 x3 x4 x5 → J p l e rm_X8_isCastRight s m args below meth c (QI below E P args s rm_X8_isCastRight.cells rm_X8_isCastRight.slots) E 6 M kc ks 20 [(0, .ref x0), (1, .int x1), (2, .int x2), (3, .int x3), (4, .int x4), (5, .int x5)] [] := by
  intro n
  induction n with
  | zero => intro M x0 x1 x2 x3 x4 x5 h; exact h.elim
  | succ n ih =>
    intro M x0 x1 x2 x3 x4 x5 h
    rw [l_X8_isCastRight_20] at h
    refine j_iload (pc := 20) C 5 dX8_isCastRight_20 rfl ?_
    refine j_aload_n (pc := 22) C 0 dX8_isCastRight_22 rfl ?_
    refine j_iload_n (pc := 23) C 3 dX8_isCastRight_23 rfl ?_
    refine j_iconst (pc := 24) (v := (4 : Int32)) C dX8_isCastRight_24 rfl ?_
    refine cs_X8_201 (pc := 25) C ⟨Nat.le_of_ble_eq_true rfl, Nat.le_of_ble_eq_true rfl⟩ hkc (Nat.le_of_ble_eq_true rfl) dX8_isCastRight_25 h (fun r2 M2 h => ?_)
    refine j_icmp_ge (pc := 28) C 87 dX8_isCastRight_28 (by decide) h (fun h => ?_) (fun h => ?_)
    · exact j_weak [0, 1, 2, 3] rfl (k87 _ _ _ _ _ h)
    · refine j_aload_n (pc := 31) C 0 dX8_isCastRight_31 rfl ?_
      refine j_iload_n (pc := 32) C 1 dX8_isCastRight_32 rfl ?_
      refine j_iload_n (pc := 33) C 3 dX8_isCastRight_33 rfl ?_
      refine cs_X8_204 (pc := 34) C ⟨Nat.le_of_ble_eq_true rfl, Nat.le_of_ble_eq_true rfl⟩ hkc (Nat.le_of_ble_eq_true rfl) dX8_isCastRight_34 h (fun r3 M3 h => ?_)
      refine j_if_eq (pc := 37) C 87 dX8_isCastRight_37 (by decide) h (fun h => ?_) (fun h => ?_)
      · exact j_weak [0, 1, 2, 3] rfl (k87 _ _ _ _ _ h)
      · refine j_iload_n (pc := 40) C 2 dX8_isCastRight_40 rfl ?_
        refine j_if_eq (pc := 41) C 64 dX8_isCastRight_41 (by decide) h (fun h => ?_) (fun h => ?_)
        · refine j_iconst (pc := 64) (v := (0 : Int32)) C dX8_isCastRight_64 rfl ?_
          refine j_istore_n (pc := 65) C [(2, _), (0, _), (1, _), (3, _), (4, _), (5, _)] dX8_isCastRight_65 (by decide) rfl ?_
          refine j_iload (pc := 66) C 4 dX8_isCastRight_66 rfl ?_
          refine j_iconst (pc := 68) (v := (1 : Int32)) C dX8_isCastRight_68 rfl ?_
          refine j_aload_n (pc := 69) C 1 dX8_isCastRight_69 rfl ?_
          refine j_iload_n (pc := 70) C 2 dX8_isCastRight_70 rfl ?_
          refine j_iload_n (pc := 71) C 3 dX8_isCastRight_71 rfl ?_
          refine j_iload (pc := 72) C 5 dX8_isCastRight_72 rfl ?_
          refine cs_X8_207 (pc := 74) C ⟨Nat.le_of_ble_eq_true rfl, Nat.le_of_ble_eq_true rfl⟩ hkc (Nat.le_of_ble_eq_true rfl) dX8_isCastRight_74 h (fun r4 M4 h => ?_)
          refine j_ishl (pc := 77) C dX8_isCastRight_77 ?_
          refine j_ior (pc := 78) C dX8_isCastRight_78 ?_
          refine j_istore (pc := 79) C [(4, _), (2, _), (0, _), (1, _), (3, _), (5, _)] dX8_isCastRight_79 (by decide) rfl ?_
          refine j_iinc (pc := 81) (v := (1 : Int32)) C 5 [(5, _), (4, _), (2, _), (0, _), (1, _), (3, _)] dX8_isCastRight_81 rfl rfl (by decide) rfl ?_
          refine j_goto (pc := 84) C 20 dX8_isCastRight_84 (by decide) ?_
          exact j_weak [3, 4, 2, 5, 1, 0] rfl (ih _ _ _ _ _ _ _ h)
        · refine j_iload (pc := 44) C 4 dX8_isCastRight_44 rfl ?_
          refine j_aload_n (pc := 46) C 0 dX8_isCastRight_46 rfl ?_
          refine j_iload_n (pc := 47) C 1 dX8_isCastRight_47 rfl ?_
          refine j_iload_n (pc := 48) C 3 dX8_isCastRight_48 rfl ?_
          refine j_iload (pc := 49) C 5 dX8_isCastRight_49 rfl ?_
          refine cs_X8_207 (pc := 51) C ⟨Nat.le_of_ble_eq_true rfl, Nat.le_of_ble_eq_true rfl⟩ hkc (Nat.le_of_ble_eq_true rfl) dX8_isCastRight_51 h (fun r5 M5 h => ?_)
          refine j_ishr (pc := 54) C dX8_isCastRight_54 ?_
          refine j_iconst (pc := 55) (v := (1 : Int32)) C dX8_isCastRight_55 rfl ?_
          refine j_iand (pc := 56) C dX8_isCastRight_56 ?_
          refine j_if_ne (pc := 57) C 64 dX8_isCastRight_57 (by decide) h (fun h => ?_) (fun h => ?_)
          · refine j_iconst (pc := 64) (v := (0 : Int32)) C dX8_isCastRight_64 rfl ?_
            refine j_istore_n (pc := 65) C [(2, _), (0, _), (1, _), (3, _), (4, _), (5, _)] dX8_isCastRight_65 (by decide) rfl ?_
            refine j_iload (pc := 66) C 4 dX8_isCastRight_66 rfl ?_
            refine j_iconst (pc := 68) (v := (1 : Int32)) C dX8_isCastRight_68 rfl ?_
            refine j_aload_n (pc := 69) C 1 dX8_isCastRight_69 rfl ?_
            refine j_iload_n (pc := 70) C 2 dX8_isCastRight_70 rfl ?_
            refine j_iload_n (pc := 71) C 3 dX8_isCastRight_71 rfl ?_
            refine j_iload (pc := 72) C 5 dX8_isCastRight_72 rfl ?_
            refine cs_X8_207 (pc := 74) C ⟨Nat.le_of_ble_eq_true rfl, Nat.le_of_ble_eq_true rfl⟩ hkc (Nat.le_of_ble_eq_true rfl) dX8_isCastRight_74 h (fun r6 M6 h => ?_)
            refine j_ishl (pc := 77) C dX8_isCastRight_77 ?_
            refine j_ior (pc := 78) C dX8_isCastRight_78 ?_
            refine j_istore (pc := 79) C [(4, _), (2, _), (0, _), (1, _), (3, _), (5, _)] dX8_isCastRight_79 (by decide) rfl ?_
            refine j_iinc (pc := 81) (v := (1 : Int32)) C 5 [(5, _), (4, _), (2, _), (0, _), (1, _), (3, _)] dX8_isCastRight_81 rfl rfl (by decide) rfl ?_
            refine j_goto (pc := 84) C 20 dX8_isCastRight_84 (by decide) ?_
            exact j_weak [3, 4, 2, 5, 1, 0] rfl (ih _ _ _ _ _ _ _ h)
          · refine j_iconst (pc := 60) (v := (1 : Int32)) C dX8_isCastRight_60 rfl ?_
            refine j_goto (pc := 61) C 65 dX8_isCastRight_61 (by decide) ?_
            refine j_istore_n (pc := 65) C [(2, _), (0, _), (1, _), (3, _), (4, _), (5, _)] dX8_isCastRight_65 (by decide) rfl ?_
            refine j_iload (pc := 66) C 4 dX8_isCastRight_66 rfl ?_
            refine j_iconst (pc := 68) (v := (1 : Int32)) C dX8_isCastRight_68 rfl ?_
            refine j_aload_n (pc := 69) C 1 dX8_isCastRight_69 rfl ?_
            refine j_iload_n (pc := 70) C 2 dX8_isCastRight_70 rfl ?_
            refine j_iload_n (pc := 71) C 3 dX8_isCastRight_71 rfl ?_
            refine j_iload (pc := 72) C 5 dX8_isCastRight_72 rfl ?_
            refine cs_X8_207 (pc := 74) C ⟨Nat.le_of_ble_eq_true rfl, Nat.le_of_ble_eq_true rfl⟩ hkc (Nat.le_of_ble_eq_true rfl) dX8_isCastRight_74 h (fun r7 M7 h => ?_)
            refine j_ishl (pc := 77) C dX8_isCastRight_77 ?_
            refine j_ior (pc := 78) C dX8_isCastRight_78 ?_
            refine j_istore (pc := 79) C [(4, _), (2, _), (0, _), (1, _), (3, _), (5, _)] dX8_isCastRight_79 (by decide) rfl ?_
            refine j_iinc (pc := 81) (v := (1 : Int32)) C 5 [(5, _), (4, _), (2, _), (0, _), (1, _), (3, _)] dX8_isCastRight_81 rfl rfl (by decide) rfl ?_
            refine j_goto (pc := 84) C 20 dX8_isCastRight_84 (by decide) ?_
            exact j_weak [3, 4, 2, 5, 1, 0] rfl (ih _ _ _ _ _ _ _ h)
def l_X8_isCastRight_4 (P : Int32 → Mm → Prop) (K93 : Mm → Int32 → Prop) : Nat → Mm → Nat → Int32 → Int32 → Int32 → Prop
  | 0, _, _, _, _, _ => False
  | n + 1, M, x0, x1, x2, x3 => (zk M x0 = 8 ∧ ∃ a1, zR M x0 1 = some a1 ∧ zk M a1 = 10 ∧ vp_in (3 : Int32) (zl M a1) ∧ (if (zI M a1 (3 : Int32).toNatClampNeg) ≤ x3 then K93 M x2 else (∃ n20, l_X8_isCastRight_20 P (fun M8 x0_8 x1_8 x2_8 x3_8 => l_X8_isCastRight_4 P K93 n M8 x0_8 x1_8 x2_8 (x3_8 + (1 : Int32))) n20 M x0 x1 x2 x3 (0 : Int32) (0 : Int32))))
set_option maxHeartbeats 4000000 in
set_option maxRecDepth 100000 in
theorem jl_X8_isCastRight_4 {P : Int32 → Mm → Prop} {K93 : Mm → Int32 → Prop} (C : Cx p l s m args meth c cX8_isCastRight 6 RX8 (some .boolean) E) (hkc : kc ≤ rm_X8_isCastRight.cells ∧ ks ≤ rm_X8_isCastRight.slots) (k93 : ∀ M x2, K93 M x2 → J p l e rm_X8_isCastRight s m args below meth c (QI below E P args s rm_X8_isCastRight.cells rm_X8_isCastRight.slots) E 6 M kc ks 93 [(2, .int x2)] []) : ∀ n M x0 x1 x2 x3, l_X8_isCastRight_4 P K93 n M x0 x1 x2 x3 → J p l e rm_X8_isCastRight s m args below meth c (QI below E P args s rm_X8_isCastRight.cells rm_X8_isCastRight.slots) E 6 M kc ks 4 [(0, .ref x0), (1, .int x1), (2, .int x2), (3, .int x3)] [] := by
  intro n
  induction n with
  | zero => intro M x0 x1 x2 x3 h; exact h.elim
  | succ n ih =>
    intro M x0 x1 x2 x3 h
    rw [l_X8_isCastRight_4] at h
    refine j_iload_n (pc := 4) C 3 dX8_isCastRight_4 rfl ?_
    refine j_aload_n (pc := 5) C 0 dX8_isCastRight_5 rfl ?_
    refine gf_X8_7 (pc := 6) C dX8_isCastRight_6 h (fun a1 h => ?_)
    refine j_iconst (pc := 9) (v := (3 : Int32)) C dX8_isCastRight_9 rfl ?_
    refine j_iald (pc := 10) C dX8_isCastRight_10 h (fun h => ?_)
    refine j_icmp_ge (pc := 11) C 93 dX8_isCastRight_11 (by decide) h (fun h => ?_) (fun h => ?_)
    · exact j_weak [2] rfl (k93 _ _ h)
    · refine j_iconst (pc := 14) (v := (0 : Int32)) C dX8_isCastRight_14 rfl ?_
      refine j_istore (pc := 15) C [(4, _), (0, _), (1, _), (2, _), (3, _)] dX8_isCastRight_15 (by decide) rfl ?_
      refine j_iconst (pc := 17) (v := (0 : Int32)) C dX8_isCastRight_17 rfl ?_
      refine j_istore (pc := 18) C [(5, _), (4, _), (0, _), (1, _), (2, _), (3, _)] dX8_isCastRight_18 (by decide) rfl ?_
      obtain ⟨n20, h⟩ := h
      refine j_weak [2, 3, 4, 5, 1, 0] rfl (jl_X8_isCastRight_20 C hkc (fun M8 x0_8 x1_8 x2_8 x3_8 h => ?_) n20 _ _ _ _ _ _ _ h)
      · refine j_iinc (pc := 87) (v := (1 : Int32)) C 3 [(3, _), (0, _), (1, _), (2, _)] dX8_isCastRight_87 rfl rfl (by decide) rfl ?_
        refine j_goto (pc := 90) C 4 dX8_isCastRight_90 (by decide) ?_
        exact j_weak [1, 2, 3, 0] rfl (ih _ _ _ _ _ h)
def w_X8_isCastRight (M : Mm) (x0 : Nat) (x1 : Int32) (P : Int32 → Mm → Prop) : Prop := (∃ n4, l_X8_isCastRight_4 P (fun M9 x2_9 => (x2_9 = 0 ∨ x2_9 = 1) ∧ P x2_9 M9) n4 M x0 x1 (1 : Int32) (0 : Int32))
set_option maxHeartbeats 4000000 in
set_option maxRecDepth 100000 in
theorem c_X8_isCastRight (l : Launch) (E : EV) (M : Mm) (x0 : Nat) (x1 : Int32) (P : Int32 → Mm → Prop) (h : w_X8_isCastRight M x0 x1 P) : CtI l E yX8_isCastRight cX8_isCastRight 6 .boolean rm_X8_isCastRight 0 0 [.ref x0, .int x1] M P := by
  refine ctI_of (by decide +kernel) (Nat.le_of_ble_eq_true rfl) ?_
  intro p e s m args below meth c C
  rw [w_X8_isCastRight] at h
  show J p l e rm_X8_isCastRight s m args below meth c (QI below E P args s 0 0) E 6 M 0 0 0 [(0, .ref x0), (1, .int x1)] []
  refine j_iconst (pc := 0) (v := (1 : Int32)) C dX8_isCastRight_0 rfl ?_
  refine j_istore_n (pc := 1) C [(2, _), (0, _), (1, _)] dX8_isCastRight_1 (by decide) rfl ?_
  refine j_iconst (pc := 2) (v := (0 : Int32)) C dX8_isCastRight_2 rfl ?_
  refine j_istore_n (pc := 3) C [(3, _), (2, _), (0, _), (1, _)] dX8_isCastRight_3 (by decide) rfl ?_
  obtain ⟨n4, h⟩ := h
  refine j_weak [2, 3, 1, 0] rfl (jl_X8_isCastRight_4 C ⟨Nat.le_of_ble_eq_true rfl, Nat.le_of_ble_eq_true rfl⟩ (fun M9 x2_9 h => ?_) n4 _ _ _ _ _ h)
  · refine j_iload_n (pc := 93) C 0 dX8_isCastRight_93 rfl ?_
    exact j_zret (pc := 94) C dX8_isCastRight_94 (Nat.le_of_ble_eq_true rfl) (Nat.le_of_ble_eq_true rfl) h
theorem cs_X8_321 (C : Cx p l s m args meth c cc nL RX8 ret E) {b : Nat} {y0 : Int32} {P : Int32 → Mm → Prop} (hR : rm_X8_isCastRight.frames + 1 ≤ R.frames ∧ 8 + (6 + 11) + rm_X8_isCastRight.locals ≤ R.locals) (hf : kc ≤ R.cells ∧ ks ≤ R.slots) (hst : (st.map fun v => v.category).sum ≤ 8) (d : decode cc pc = .ok (.invokevirtual 321, 3)) (h : zk M b = 8 ∧ w_X8_isCastRight M b y0 P) (kk : ∀ r M', P r M' → J p l e R s m args below meth c Q E nL M' kc ks (pc + 3) lo (.int r :: st)) : J p l e R s m args below meth c Q E nL M kc ks pc lo (.int y0 :: .ref b :: st) :=
  j_cV_I (n := 1) (As := [.int y0]) C co_X8 rfl wd_1553 wd_97 h.1 (c_X8_isCastRight l E M b y0 P h.2) ⟨wd_1554, wd_1551, wd_106, by decide +kernel, by decide +kernel, by decide +kernel⟩ rfl rfl hR hf rfl hst d kk
abbrev rm_X8_isWithoutClash : Room := { frames := 3, cells := 0, slots := 0, locals := 70 }
def l_X8_isWithoutClash_39 (P : Int32 → Mm → Prop) (K89 : Mm → Nat → Int32 → Int32 → Prop) : Nat → Mm → Nat → Int32 → Int32 → Int32 → Prop
  | 0, _, _, _, _, _ => False
  | n + 1, M, x0, x1, x2, x3 => (if x2 ≤ x3 then K89 M x0 x1 x2 else (if x1 = 0 then l_X8_isWithoutClash_39 P K89 n M x0 (0 : Int32) x2 (x3 + (1 : Int32)) else zk M x0 = 8 ∧ w_X8_of M x0 x3 (0 : Int32) (fun r3 M3 => zk M3 x0 = 8 ∧ w_X8_of M3 x0 x2 (0 : Int32) (fun r4 M4 => (if r3 = r4 then zk M4 x0 = 8 ∧ w_X8_inService M4 x0 x3 (fun r5 M5 => zk M5 x0 = 8 ∧ w_X8_inService M5 x0 x2 (fun r6 M6 => (if (r5 &&& r6) = 0 then l_X8_isWithoutClash_39 P K89 n M6 x0 (1 : Int32) x2 (x3 + (1 : Int32)) else l_X8_isWithoutClash_39 P K89 n M6 x0 (0 : Int32) x2 (x3 + (1 : Int32))))) else l_X8_isWithoutClash_39 P K89 n M4 x0 (1 : Int32) x2 (x3 + (1 : Int32)))))))
set_option maxHeartbeats 4000000 in
set_option maxRecDepth 100000 in
theorem jl_X8_isWithoutClash_39 {P : Int32 → Mm → Prop} {K89 : Mm → Nat → Int32 → Int32 → Prop} (C : Cx p l s m args meth c cX8_isWithoutClash 4 RX8 (some .boolean) E) (hkc : kc ≤ rm_X8_isWithoutClash.cells ∧ ks ≤ rm_X8_isWithoutClash.slots) (k89 : ∀ M x0 x1 x2, K89 M x0 x1 x2 → J p l e rm_X8_isWithoutClash s m args below meth c (QI below E P args s rm_X8_isWithoutClash.cells rm_X8_isWithoutClash.slots) E 4 M kc ks 89 [(0, .ref x0), (1, .int x1), (2, .int x2)] []) : ∀ n M x0 x1 x2 x3, l_X8_isWithoutClash_39 P K89 n M x0 x1 x2 x3 → J p l e rm_X8_isWithoutClash s m args below meth c (QI below E P args s rm_X8_isWithoutClash.cells rm_X8_isWithoutClash.slots) E 4 M kc ks 39 [(0, .ref x0), (1, .int x1), (2, .int x2), (3, .int x3)] [] := by
  intro n
  induction n with
  | zero => intro M x0 x1 x2 x3 h; exact h.elim
  | succ n ih =>
    intro M x0 x1 x2 x3 h
    rw [l_X8_isWithoutClash_39] at h
    refine j_iload_n (pc := 39) C 3 dX8_isWithoutClash_39 rfl ?_
    refine j_iload_n (pc := 40) C 2 dX8_isWithoutClash_40 rfl ?_
    refine j_icmp_ge (pc := 41) C 89 dX8_isWithoutClash_41 (by decide) h (fun h => ?_) (fun h => ?_)
    · exact j_weak [0, 1, 2] rfl (k89 _ _ _ _ h)
    · refine j_iload_n (pc := 44) C 1 dX8_isWithoutClash_44 rfl ?_
      refine j_if_eq (pc := 45) C 81 dX8_isWithoutClash_45 (by decide) h (fun h => ?_) (fun h => ?_)
      · refine j_iconst (pc := 81) (v := (0 : Int32)) C dX8_isWithoutClash_81 rfl ?_
        refine j_istore_n (pc := 82) C [(1, _), (0, _), (2, _), (3, _)] dX8_isWithoutClash_82 (by decide) rfl ?_
        refine j_iinc (pc := 83) (v := (1 : Int32)) C 3 [(3, _), (1, _), (0, _), (2, _)] dX8_isWithoutClash_83 rfl rfl (by decide) rfl ?_
        refine j_goto (pc := 86) C 39 dX8_isWithoutClash_86 (by decide) ?_
        exact j_weak [2, 1, 3, 0] rfl (ih _ _ _ _ _ h)
      · refine j_aload_n (pc := 48) C 0 dX8_isWithoutClash_48 rfl ?_
        refine j_iload_n (pc := 49) C 3 dX8_isWithoutClash_49 rfl ?_
        refine j_iconst (pc := 50) (v := (0 : Int32)) C dX8_isWithoutClash_50 rfl ?_
        refine cs_X8_198 (pc := 51) C ⟨Nat.le_of_ble_eq_true rfl, Nat.le_of_ble_eq_true rfl⟩ hkc (Nat.le_of_ble_eq_true rfl) dX8_isWithoutClash_51 h (fun r3 M3 h => ?_)
        refine j_aload_n (pc := 54) C 0 dX8_isWithoutClash_54 rfl ?_
        refine j_iload_n (pc := 55) C 2 dX8_isWithoutClash_55 rfl ?_
        refine j_iconst (pc := 56) (v := (0 : Int32)) C dX8_isWithoutClash_56 rfl ?_
        refine cs_X8_198 (pc := 57) C ⟨Nat.le_of_ble_eq_true rfl, Nat.le_of_ble_eq_true rfl⟩ hkc (Nat.le_of_ble_eq_true rfl) dX8_isWithoutClash_57 h (fun r4 M4 h => ?_)
        refine j_icmp_ne (pc := 60) C 77 dX8_isWithoutClash_60 (by decide) h (fun h => ?_) (fun h => ?_)
        · refine j_iconst (pc := 77) (v := (1 : Int32)) C dX8_isWithoutClash_77 rfl ?_
          refine j_goto (pc := 78) C 82 dX8_isWithoutClash_78 (by decide) ?_
          refine j_istore_n (pc := 82) C [(1, _), (0, _), (2, _), (3, _)] dX8_isWithoutClash_82 (by decide) rfl ?_
          refine j_iinc (pc := 83) (v := (1 : Int32)) C 3 [(3, _), (1, _), (0, _), (2, _)] dX8_isWithoutClash_83 rfl rfl (by decide) rfl ?_
          refine j_goto (pc := 86) C 39 dX8_isWithoutClash_86 (by decide) ?_
          exact j_weak [2, 1, 3, 0] rfl (ih _ _ _ _ _ h)
        · refine j_aload_n (pc := 63) C 0 dX8_isWithoutClash_63 rfl ?_
          refine j_iload_n (pc := 64) C 3 dX8_isWithoutClash_64 rfl ?_
          refine cs_X8_211 (pc := 65) C ⟨Nat.le_of_ble_eq_true rfl, Nat.le_of_ble_eq_true rfl⟩ hkc (Nat.le_of_ble_eq_true rfl) dX8_isWithoutClash_65 h (fun r5 M5 h => ?_)
          refine j_aload_n (pc := 68) C 0 dX8_isWithoutClash_68 rfl ?_
          refine j_iload_n (pc := 69) C 2 dX8_isWithoutClash_69 rfl ?_
          refine cs_X8_211 (pc := 70) C ⟨Nat.le_of_ble_eq_true rfl, Nat.le_of_ble_eq_true rfl⟩ hkc (Nat.le_of_ble_eq_true rfl) dX8_isWithoutClash_70 h (fun r6 M6 h => ?_)
          refine j_iand (pc := 73) C dX8_isWithoutClash_73 ?_
          refine j_if_ne (pc := 74) C 81 dX8_isWithoutClash_74 (by decide) h (fun h => ?_) (fun h => ?_)
          · refine j_iconst (pc := 81) (v := (0 : Int32)) C dX8_isWithoutClash_81 rfl ?_
            refine j_istore_n (pc := 82) C [(1, _), (0, _), (2, _), (3, _)] dX8_isWithoutClash_82 (by decide) rfl ?_
            refine j_iinc (pc := 83) (v := (1 : Int32)) C 3 [(3, _), (1, _), (0, _), (2, _)] dX8_isWithoutClash_83 rfl rfl (by decide) rfl ?_
            refine j_goto (pc := 86) C 39 dX8_isWithoutClash_86 (by decide) ?_
            exact j_weak [2, 1, 3, 0] rfl (ih _ _ _ _ _ h)
          · refine j_iconst (pc := 77) (v := (1 : Int32)) C dX8_isWithoutClash_77 rfl ?_
            refine j_goto (pc := 78) C 82 dX8_isWithoutClash_78 (by decide) ?_
            refine j_istore_n (pc := 82) C [(1, _), (0, _), (2, _), (3, _)] dX8_isWithoutClash_82 (by decide) rfl ?_
            refine j_iinc (pc := 83) (v := (1 : Int32)) C 3 [(3, _), (1, _), (0, _), (2, _)] dX8_isWithoutClash_83 rfl rfl (by decide) rfl ?_
            refine j_goto (pc := 86) C 39 dX8_isWithoutClash_86 (by decide) ?_
            exact j_weak [2, 1, 3, 0] rfl (ih _ _ _ _ _ h)
def l_X8_isWithoutClash_9 (P : Int32 → Mm → Prop) (K95 : Mm → Int32 → Prop) : Nat → Mm → Nat → Int32 → Int32 → Prop
  | 0, _, _, _, _ => False
  | n + 1, M, x0, x1, x2 => (zk M x0 = 8 ∧ ∃ a2, zR M x0 2 = some a2 ∧ zk M a2 = 10 ∧ vp_in (0 : Int32) (zl M a2) ∧ (if (zI M a2 (0 : Int32).toNatClampNeg) ≤ x2 then K95 M x1 else (if x1 = 0 then (∃ n39, l_X8_isWithoutClash_39 P (fun M7 x0_7 x1_7 x2_7 => l_X8_isWithoutClash_9 P K95 n M7 x0_7 x1_7 (x2_7 + (1 : Int32))) n39 M x0 (0 : Int32) x2 (0 : Int32)) else zk M x0 = 8 ∧ w_X8_isCastRight M x0 x2 (fun r8 M8 => (if r8 = 0 then (∃ n39, l_X8_isWithoutClash_39 P (fun M9 x0_9 x1_9 x2_9 => l_X8_isWithoutClash_9 P K95 n M9 x0_9 x1_9 (x2_9 + (1 : Int32))) n39 M8 x0 (0 : Int32) x2 (0 : Int32)) else (∃ n39, l_X8_isWithoutClash_39 P (fun M10 x0_10 x1_10 x2_10 => l_X8_isWithoutClash_9 P K95 n M10 x0_10 x1_10 (x2_10 + (1 : Int32))) n39 M8 x0 (1 : Int32) x2 (0 : Int32)))))))
set_option maxHeartbeats 4000000 in
set_option maxRecDepth 100000 in
theorem jl_X8_isWithoutClash_9 {P : Int32 → Mm → Prop} {K95 : Mm → Int32 → Prop} (C : Cx p l s m args meth c cX8_isWithoutClash 4 RX8 (some .boolean) E) (hkc : kc ≤ rm_X8_isWithoutClash.cells ∧ ks ≤ rm_X8_isWithoutClash.slots) (k95 : ∀ M x1, K95 M x1 → J p l e rm_X8_isWithoutClash s m args below meth c (QI below E P args s rm_X8_isWithoutClash.cells rm_X8_isWithoutClash.slots) E 4 M kc ks 95 [(1, .int x1)] []) : ∀ n M x0 x1 x2, l_X8_isWithoutClash_9 P K95 n M x0 x1 x2 → J p l e rm_X8_isWithoutClash s m args below meth c (QI below E P args s rm_X8_isWithoutClash.cells rm_X8_isWithoutClash.slots) E 4 M kc ks 9 [(0, .ref x0), (1, .int x1), (2, .int x2)] [] := by
  intro n
  induction n with
  | zero => intro M x0 x1 x2 h; exact h.elim
  | succ n ih =>
    intro M x0 x1 x2 h
    rw [l_X8_isWithoutClash_9] at h
    refine j_iload_n (pc := 9) C 2 dX8_isWithoutClash_9 rfl ?_
    refine j_aload_n (pc := 10) C 0 dX8_isWithoutClash_10 rfl ?_
    refine gf_X8_13 (pc := 11) C dX8_isWithoutClash_11 h (fun a2 h => ?_)
    refine j_iconst (pc := 14) (v := (0 : Int32)) C dX8_isWithoutClash_14 rfl ?_
    refine j_iald (pc := 15) C dX8_isWithoutClash_15 h (fun h => ?_)
    refine j_icmp_ge (pc := 16) C 95 dX8_isWithoutClash_16 (by decide) h (fun h => ?_) (fun h => ?_)
    · exact j_weak [1] rfl (k95 _ _ h)
    · refine j_iload_n (pc := 19) C 1 dX8_isWithoutClash_19 rfl ?_
      refine j_if_eq (pc := 20) C 35 dX8_isWithoutClash_20 (by decide) h (fun h => ?_) (fun h => ?_)
      · refine j_iconst (pc := 35) (v := (0 : Int32)) C dX8_isWithoutClash_35 rfl ?_
        refine j_istore_n (pc := 36) C [(1, _), (0, _), (2, _)] dX8_isWithoutClash_36 (by decide) rfl ?_
        refine j_iconst (pc := 37) (v := (0 : Int32)) C dX8_isWithoutClash_37 rfl ?_
        refine j_istore_n (pc := 38) C [(3, _), (1, _), (0, _), (2, _)] dX8_isWithoutClash_38 (by decide) rfl ?_
        obtain ⟨n39, h⟩ := h
        refine j_weak [2, 1, 3, 0] rfl (jl_X8_isWithoutClash_39 C hkc (fun M7 x0_7 x1_7 x2_7 h => ?_) n39 _ _ _ _ _ h)
        · refine j_iinc (pc := 89) (v := (1 : Int32)) C 2 [(2, _), (0, _), (1, _)] dX8_isWithoutClash_89 rfl rfl (by decide) rfl ?_
          refine j_goto (pc := 92) C 9 dX8_isWithoutClash_92 (by decide) ?_
          exact j_weak [1, 2, 0] rfl (ih _ _ _ _ h)
      · refine j_aload_n (pc := 23) C 0 dX8_isWithoutClash_23 rfl ?_
        refine j_iload_n (pc := 24) C 2 dX8_isWithoutClash_24 rfl ?_
        refine cs_X8_321 (pc := 25) C ⟨Nat.le_of_ble_eq_true rfl, Nat.le_of_ble_eq_true rfl⟩ hkc (Nat.le_of_ble_eq_true rfl) dX8_isWithoutClash_25 h (fun r8 M8 h => ?_)
        refine j_if_eq (pc := 28) C 35 dX8_isWithoutClash_28 (by decide) h (fun h => ?_) (fun h => ?_)
        · refine j_iconst (pc := 35) (v := (0 : Int32)) C dX8_isWithoutClash_35 rfl ?_
          refine j_istore_n (pc := 36) C [(1, _), (0, _), (2, _)] dX8_isWithoutClash_36 (by decide) rfl ?_
          refine j_iconst (pc := 37) (v := (0 : Int32)) C dX8_isWithoutClash_37 rfl ?_
          refine j_istore_n (pc := 38) C [(3, _), (1, _), (0, _), (2, _)] dX8_isWithoutClash_38 (by decide) rfl ?_
          obtain ⟨n39, h⟩ := h
          refine j_weak [2, 1, 3, 0] rfl (jl_X8_isWithoutClash_39 C hkc (fun M9 x0_9 x1_9 x2_9 h => ?_) n39 _ _ _ _ _ h)
          · refine j_iinc (pc := 89) (v := (1 : Int32)) C 2 [(2, _), (0, _), (1, _)] dX8_isWithoutClash_89 rfl rfl (by decide) rfl ?_
            refine j_goto (pc := 92) C 9 dX8_isWithoutClash_92 (by decide) ?_
            exact j_weak [1, 2, 0] rfl (ih _ _ _ _ h)
        · refine j_iconst (pc := 31) (v := (1 : Int32)) C dX8_isWithoutClash_31 rfl ?_
          refine j_goto (pc := 32) C 36 dX8_isWithoutClash_32 (by decide) ?_
          refine j_istore_n (pc := 36) C [(1, _), (0, _), (2, _)] dX8_isWithoutClash_36 (by decide) rfl ?_
          refine j_iconst (pc := 37) (v := (0 : Int32)) C dX8_isWithoutClash_37 rfl ?_
          refine j_istore_n (pc := 38) C [(3, _), (1, _), (0, _), (2, _)] dX8_isWithoutClash_38 (by decide) rfl ?_
          obtain ⟨n39, h⟩ := h
          refine j_weak [2, 1, 3, 0] rfl (jl_X8_isWithoutClash_39 C hkc (fun M10 x0_10 x1_10 x2_10 h => ?_) n39 _ _ _ _ _ h)
          · refine j_iinc (pc := 89) (v := (1 : Int32)) C 2 [(2, _), (0, _), (1, _)] dX8_isWithoutClash_89 rfl rfl (by decide) rfl ?_
            refine j_goto (pc := 92) C 9 dX8_isWithoutClash_92 (by decide) ?_
            exact j_weak [1, 2, 0] rfl (ih _ _ _ _ h)
def w_X8_isWithoutClash (M : Mm) (x0 : Nat) (P : Int32 → Mm → Prop) : Prop := zk M x0 = 8 ∧ (∀ M1, M1 = sI M x0 0 (0 : Int32) → (∃ n9, l_X8_isWithoutClash_9 P (fun M11 x1_11 => (x1_11 = 0 ∨ x1_11 = 1) ∧ P x1_11 M11) n9 M1 x0 (1 : Int32) (0 : Int32)))
set_option maxHeartbeats 4000000 in
set_option maxRecDepth 100000 in
theorem c_X8_isWithoutClash (l : Launch) (E : EV) (M : Mm) (x0 : Nat) (P : Int32 → Mm → Prop) (h : w_X8_isWithoutClash M x0 P) : CtI l E yX8_isWithoutClash cX8_isWithoutClash 4 .boolean rm_X8_isWithoutClash 0 0 [.ref x0] M P := by
  refine ctI_of (by decide +kernel) (Nat.le_of_ble_eq_true rfl) ?_
  intro p e s m args below meth c C
  rw [w_X8_isWithoutClash] at h
  show J p l e rm_X8_isWithoutClash s m args below meth c (QI below E P args s 0 0) E 4 M 0 0 0 [(0, .ref x0)] []
  refine j_aload_n (pc := 0) C 0 dX8_isWithoutClash_0 rfl ?_
  refine j_iconst (pc := 1) (v := (0 : Int32)) C dX8_isWithoutClash_1 rfl ?_
  refine pf_X8_56 (pc := 2) C dX8_isWithoutClash_2 h (fun M1 h => ?_)
  refine j_iconst (pc := 5) (v := (1 : Int32)) C dX8_isWithoutClash_5 rfl ?_
  refine j_istore_n (pc := 6) C [(1, _), (0, _)] dX8_isWithoutClash_6 (by decide) rfl ?_
  refine j_iconst (pc := 7) (v := (0 : Int32)) C dX8_isWithoutClash_7 rfl ?_
  refine j_istore_n (pc := 8) C [(2, _), (1, _), (0, _)] dX8_isWithoutClash_8 (by decide) rfl ?_
  obtain ⟨n9, h⟩ := h
  refine j_weak [2, 1, 0] rfl (jl_X8_isWithoutClash_9 C ⟨Nat.le_of_ble_eq_true rfl, Nat.le_of_ble_eq_true rfl⟩ (fun M11 x1_11 h => ?_) n9 _ _ _ _ h)
  · refine j_iload_n (pc := 95) C 0 dX8_isWithoutClash_95 rfl ?_
    exact j_zret (pc := 96) C dX8_isWithoutClash_96 (Nat.le_of_ble_eq_true rfl) (Nat.le_of_ble_eq_true rfl) h
abbrev rm_X8_busiest : Room := { frames := 5, cells := 0, slots := 0, locals := 113 }
def l_X8_busiest_9 (P : Int32 → Mm → Prop) (K49 : Mm → Int32 → Prop) : Nat → Mm → Nat → Int32 → Int32 → Prop
  | 0, _, _, _, _ => False
  | n + 1, M, x0, x1, x2 => (zk M x0 = 8 ∧ ∃ a2, zR M x0 1 = some a2 ∧ zk M a2 = 10 ∧ vp_in (2 : Int32) (zl M a2) ∧ (if (zI M a2 (2 : Int32).toNatClampNeg) ≤ x2 then K49 M x1 else (if x1 = (-1 : Int32) then l_X8_busiest_9 P K49 n M x0 x2 (x2 + (1 : Int32)) else zk M x0 = 8 ∧ w_X8_beyond M x0 x2 (fun r3 M3 => zk M3 x0 = 8 ∧ w_X8_beyond M3 x0 x1 (fun r4 M4 => (if r3 ≤ r4 then l_X8_busiest_9 P K49 n M4 x0 x1 (x2 + (1 : Int32)) else l_X8_busiest_9 P K49 n M4 x0 x2 (x2 + (1 : Int32))))))))
set_option maxHeartbeats 4000000 in
set_option maxRecDepth 100000 in
theorem jl_X8_busiest_9 {P : Int32 → Mm → Prop} {K49 : Mm → Int32 → Prop} (C : Cx p l s m args meth c cX8_busiest 3 RX8 (some .int) E) (hkc : kc ≤ rm_X8_busiest.cells ∧ ks ≤ rm_X8_busiest.slots) (k49 : ∀ M x1, K49 M x1 → J p l e rm_X8_busiest s m args below meth c (QI below E P args s rm_X8_busiest.cells rm_X8_busiest.slots) E 3 M kc ks 49 [(1, .int x1)] []) : ∀ n M x0 x1 x2, l_X8_busiest_9 P K49 n M x0 x1 x2 → J p l e rm_X8_busiest s m args below meth c (QI below E P args s rm_X8_busiest.cells rm_X8_busiest.slots) E 3 M kc ks 9 [(0, .ref x0), (1, .int x1), (2, .int x2)] [] := by
  intro n
  induction n with
  | zero => intro M x0 x1 x2 h; exact h.elim
  | succ n ih =>
    intro M x0 x1 x2 h
    rw [l_X8_busiest_9] at h
    refine j_iload_n (pc := 9) C 2 dX8_busiest_9 rfl ?_
    refine j_aload_n (pc := 10) C 0 dX8_busiest_10 rfl ?_
    refine gf_X8_7 (pc := 11) C dX8_busiest_11 h (fun a2 h => ?_)
    refine j_iconst (pc := 14) (v := (2 : Int32)) C dX8_busiest_14 rfl ?_
    refine j_iald (pc := 15) C dX8_busiest_15 h (fun h => ?_)
    refine j_icmp_ge (pc := 16) C 49 dX8_busiest_16 (by decide) h (fun h => ?_) (fun h => ?_)
    · exact j_weak [1] rfl (k49 _ _ h)
    · refine j_iload_n (pc := 19) C 1 dX8_busiest_19 rfl ?_
      refine j_iconst (pc := 20) (v := (-1 : Int32)) C dX8_busiest_20 rfl ?_
      refine j_icmp_eq (pc := 21) C 37 dX8_busiest_21 (by decide) h (fun h => ?_) (fun h => ?_)
      · refine j_iload_n (pc := 37) C 2 dX8_busiest_37 rfl ?_
        refine j_goto (pc := 38) C 42 dX8_busiest_38 (by decide) ?_
        refine j_istore_n (pc := 42) C [(1, _), (0, _), (2, _)] dX8_busiest_42 (by decide) rfl ?_
        refine j_iinc (pc := 43) (v := (1 : Int32)) C 2 [(2, _), (1, _), (0, _)] dX8_busiest_43 rfl rfl (by decide) rfl ?_
        refine j_goto (pc := 46) C 9 dX8_busiest_46 (by decide) ?_
        exact j_weak [2, 1, 0] rfl (ih _ _ _ _ h)
      · refine j_aload_n (pc := 24) C 0 dX8_busiest_24 rfl ?_
        refine j_iload_n (pc := 25) C 2 dX8_busiest_25 rfl ?_
        refine cs_X8_258 (pc := 26) C ⟨Nat.le_of_ble_eq_true rfl, Nat.le_of_ble_eq_true rfl⟩ hkc (Nat.le_of_ble_eq_true rfl) dX8_busiest_26 h (fun r3 M3 h => ?_)
        refine j_aload_n (pc := 29) C 0 dX8_busiest_29 rfl ?_
        refine j_iload_n (pc := 30) C 1 dX8_busiest_30 rfl ?_
        refine cs_X8_258 (pc := 31) C ⟨Nat.le_of_ble_eq_true rfl, Nat.le_of_ble_eq_true rfl⟩ hkc (Nat.le_of_ble_eq_true rfl) dX8_busiest_31 h (fun r4 M4 h => ?_)
        refine j_icmp_le (pc := 34) C 41 dX8_busiest_34 (by decide) h (fun h => ?_) (fun h => ?_)
        · refine j_iload_n (pc := 41) C 1 dX8_busiest_41 rfl ?_
          refine j_istore_n (pc := 42) C [(1, _), (0, _), (2, _)] dX8_busiest_42 (by decide) rfl ?_
          refine j_iinc (pc := 43) (v := (1 : Int32)) C 2 [(2, _), (1, _), (0, _)] dX8_busiest_43 rfl rfl (by decide) rfl ?_
          refine j_goto (pc := 46) C 9 dX8_busiest_46 (by decide) ?_
          exact j_weak [2, 1, 0] rfl (ih _ _ _ _ h)
        · refine j_iload_n (pc := 37) C 2 dX8_busiest_37 rfl ?_
          refine j_goto (pc := 38) C 42 dX8_busiest_38 (by decide) ?_
          refine j_istore_n (pc := 42) C [(1, _), (0, _), (2, _)] dX8_busiest_42 (by decide) rfl ?_
          refine j_iinc (pc := 43) (v := (1 : Int32)) C 2 [(2, _), (1, _), (0, _)] dX8_busiest_43 rfl rfl (by decide) rfl ?_
          refine j_goto (pc := 46) C 9 dX8_busiest_46 (by decide) ?_
          exact j_weak [2, 1, 0] rfl (ih _ _ _ _ h)
def w_X8_busiest (M : Mm) (x0 : Nat) (P : Int32 → Mm → Prop) : Prop := zk M x0 = 8 ∧ (∀ M1, M1 = sI M x0 0 (0 : Int32) → (∃ n9, l_X8_busiest_9 P (fun M5 x1_5 => P x1_5 M5) n9 M1 x0 (-1 : Int32) (0 : Int32)))
set_option maxHeartbeats 4000000 in
set_option maxRecDepth 100000 in
theorem c_X8_busiest (l : Launch) (E : EV) (M : Mm) (x0 : Nat) (P : Int32 → Mm → Prop) (h : w_X8_busiest M x0 P) : CtI l E yX8_busiest cX8_busiest 3 .int rm_X8_busiest 0 0 [.ref x0] M P := by
  refine ctI_of (by decide +kernel) (Nat.le_of_ble_eq_true rfl) ?_
  intro p e s m args below meth c C
  rw [w_X8_busiest] at h
  show J p l e rm_X8_busiest s m args below meth c (QI below E P args s 0 0) E 3 M 0 0 0 [(0, .ref x0)] []
  refine j_aload_n (pc := 0) C 0 dX8_busiest_0 rfl ?_
  refine j_iconst (pc := 1) (v := (0 : Int32)) C dX8_busiest_1 rfl ?_
  refine pf_X8_56 (pc := 2) C dX8_busiest_2 h (fun M1 h => ?_)
  refine j_iconst (pc := 5) (v := (-1 : Int32)) C dX8_busiest_5 rfl ?_
  refine j_istore_n (pc := 6) C [(1, _), (0, _)] dX8_busiest_6 (by decide) rfl ?_
  refine j_iconst (pc := 7) (v := (0 : Int32)) C dX8_busiest_7 rfl ?_
  refine j_istore_n (pc := 8) C [(2, _), (1, _), (0, _)] dX8_busiest_8 (by decide) rfl ?_
  obtain ⟨n9, h⟩ := h
  refine j_weak [2, 1, 0] rfl (jl_X8_busiest_9 C ⟨Nat.le_of_ble_eq_true rfl, Nat.le_of_ble_eq_true rfl⟩ (fun M5 x1_5 h => ?_) n9 _ _ _ _ h)
  · refine j_iload_n (pc := 49) C 0 dX8_busiest_49 rfl ?_
    exact j_iret (pc := 50) C dX8_busiest_50 (Nat.le_of_ble_eq_true rfl) (Nat.le_of_ble_eq_true rfl) h
abbrev rm_X8_copies : Room := { frames := 0, cells := 0, slots := 0, locals := 0 }
def l_X8_copies_3 (P : Mm → Prop) (K29 : Mm → Prop) : Nat → Mm → Nat → Int32 → Nat → Int32 → Int32 → Prop
  | 0, _, _, _, _, _, _ => False
  | n + 1, M, x0, x1, x2, x3, x4 => (if (689 : Int32) ≤ x4 then K29 M else zk M x0 = 10 ∧ vp_in (x1 + x4) (zl M x0) ∧ zk M x2 = 10 ∧ vp_in (x3 + x4) (zl M x2) ∧ (∀ M1, M1 = sI M x2 (x3 + x4).toNatClampNeg (zI M x0 (x1 + x4).toNatClampNeg) → l_X8_copies_3 P K29 n M1 x0 x1 x2 x3 (x4 + (1 : Int32))))
set_option maxHeartbeats 4000000 in
set_option maxRecDepth 100000 in
theorem jl_X8_copies_3 {P : Mm → Prop} {K29 : Mm → Prop} (C : Cx p l s m args meth c cX8_copies 5 RX8 none E) (hkc : kc ≤ rm_X8_copies.cells ∧ ks ≤ rm_X8_copies.slots) (k29 : ∀ M, K29 M → J p l e rm_X8_copies s m args below meth c (QV below E P args s rm_X8_copies.cells rm_X8_copies.slots) E 5 M kc ks 29 [] []) : ∀ n M x0 x1 x2 x3 x4, l_X8_copies_3 P K29 n M x0 x1 x2 x3 x4 → J p l e rm_X8_copies s m args below meth c (QV below E P args s rm_X8_copies.cells rm_X8_copies.slots) E 5 M kc ks 3 [(0, .ref x0), (1, .int x1), (2, .ref x2), (3, .int x3), (4, .int x4)] [] := by
  intro n
  induction n with
  | zero => intro M x0 x1 x2 x3 x4 h; exact h.elim
  | succ n ih =>
    intro M x0 x1 x2 x3 x4 h
    rw [l_X8_copies_3] at h
    refine j_iload (pc := 3) C 4 dX8_copies_3 rfl ?_
    refine j_sipush (pc := 5) (v := (689 : Int32)) C dX8_copies_5 rfl ?_
    refine j_icmp_ge (pc := 8) C 29 dX8_copies_8 (by decide) h (fun h => ?_) (fun h => ?_)
    · exact j_weak [] rfl (k29 _ h)
    · refine j_aload_n (pc := 11) C 2 dX8_copies_11 rfl ?_
      refine j_iload_n (pc := 12) C 3 dX8_copies_12 rfl ?_
      refine j_iload (pc := 13) C 4 dX8_copies_13 rfl ?_
      refine j_iadd (pc := 15) C dX8_copies_15 ?_
      refine j_aload_n (pc := 16) C 0 dX8_copies_16 rfl ?_
      refine j_iload_n (pc := 17) C 1 dX8_copies_17 rfl ?_
      refine j_iload (pc := 18) C 4 dX8_copies_18 rfl ?_
      refine j_iadd (pc := 20) C dX8_copies_20 ?_
      refine j_iald (pc := 21) C dX8_copies_21 h (fun h => ?_)
      refine n_iast (pc := 22) C dX8_copies_22 h (fun M1 h => ?_)
      refine j_iinc (pc := 23) (v := (1 : Int32)) C 4 [(4, _), (0, _), (1, _), (2, _), (3, _)] dX8_copies_23 rfl rfl (by decide) rfl ?_
      refine j_goto (pc := 26) C 3 dX8_copies_26 (by decide) ?_
      exact j_weak [1, 2, 3, 4, 0] rfl (ih _ _ _ _ _ _ h)
def w_X8_copies (M : Mm) (x0 : Nat) (x1 : Int32) (x2 : Nat) (x3 : Int32) (P : Mm → Prop) : Prop := (∃ n3, l_X8_copies_3 P (fun M2 => P M2) n3 M x0 x1 x2 x3 (0 : Int32))
set_option maxHeartbeats 4000000 in
set_option maxRecDepth 100000 in
theorem c_X8_copies (l : Launch) (E : EV) (M : Mm) (x0 : Nat) (x1 : Int32) (x2 : Nat) (x3 : Int32) (P : Mm → Prop) (h : w_X8_copies M x0 x1 x2 x3 P) : CtV l E yX8_copies cX8_copies 5 rm_X8_copies 0 0 [.ref x0, .int x1, .ref x2, .int x3] M P := by
  refine ctV_of (by decide +kernel) (Nat.le_of_ble_eq_true rfl) ?_
  intro p e s m args below meth c C hnm
  rw [w_X8_copies] at h
  show J p l e rm_X8_copies s m args below meth c (QV below E P args s 0 0) E 5 M 0 0 0 [(0, .ref x0), (1, .int x1), (2, .ref x2), (3, .int x3)] []
  refine j_iconst (pc := 0) (v := (0 : Int32)) C dX8_copies_0 rfl ?_
  refine j_istore (pc := 1) C [(4, _), (0, _), (1, _), (2, _), (3, _)] dX8_copies_1 (by decide) rfl ?_
  obtain ⟨n3, h⟩ := h
  refine j_weak [1, 2, 3, 4, 0] rfl (jl_X8_copies_3 C ⟨Nat.le_of_ble_eq_true rfl, Nat.le_of_ble_eq_true rfl⟩ (fun M2 h => ?_) n3 _ _ _ _ _ _ h)
  · exact j_vret (pc := 29) C dX8_copies_29 (Nat.le_of_ble_eq_true rfl) (Nat.le_of_ble_eq_true rfl) h
theorem cs_X8_327 (C : Cx p l s m args meth c cc nL RX8 ret E) {y0 : Nat} {y1 : Int32} {y2 : Nat} {y3 : Int32} {P : Mm → Prop} (hR : rm_X8_copies.frames + 1 ≤ R.frames ∧ 8 + (5 + 11) + rm_X8_copies.locals ≤ R.locals) (hf : kc ≤ R.cells ∧ ks ≤ R.slots) (hst : (st.map fun v => v.category).sum ≤ 8) (d : decode cc pc = .ok (.invokestatic 327, 3)) (h : w_X8_copies M y0 y1 y2 y3 P) (kk : ∀ M', P M' → J p l e R s m args below meth c Q E nL M' kc ks (pc + 3) lo st) : J p l e R s m args below meth c Q E nL M kc ks pc lo (.int y3 :: .ref y2 :: .int y1 :: .ref y0 :: st) :=
  j_cS_V (n := 4) (As := [.ref y0, .int y1, .ref y2, .int y3]) C wd_1568 (c_X8_copies l E M y0 y1 y2 y3 P h) ⟨wd_1569, wd_1567, wd_106, by decide +kernel, by decide +kernel, by decide +kernel⟩ rfl rfl hR hf rfl hst d kk
abbrev rm_X8_keeps : Room := { frames := 1, cells := 0, slots := 0, locals := 24 }
def l_X8_keeps_21 (P : Mm → Prop) (K58 : Mm → Nat → Prop) : Nat → Mm → Nat → Int32 → Prop
  | 0, _, _, _ => False
  | n + 1, M, x0, x1 => zk M x0 = 8 ∧ (if (zI M x0 24) ≤ x1 then K58 M x0 else (zk M x0 = 8 ∧ ∃ a6, zR M x0 25 = some a6 ∧ (zk M x0 = 8 ∧ ∃ a7, zR M x0 25 = some a7 ∧ w_X8_copies M a6 ((689 : Int32) * (x1 + (1 : Int32))) a7 ((689 : Int32) * x1) (fun M8 => l_X8_keeps_21 P K58 n M8 x0 (x1 + (1 : Int32))))))
set_option maxHeartbeats 4000000 in
set_option maxRecDepth 100000 in
theorem jl_X8_keeps_21 {P : Mm → Prop} {K58 : Mm → Nat → Prop} (C : Cx p l s m args meth c cX8_keeps 2 RX8 none E) (hkc : kc ≤ rm_X8_keeps.cells ∧ ks ≤ rm_X8_keeps.slots) (k58 : ∀ M x0, K58 M x0 → J p l e rm_X8_keeps s m args below meth c (QV below E P args s rm_X8_keeps.cells rm_X8_keeps.slots) E 2 M kc ks 58 [(0, .ref x0)] []) : ∀ n M x0 x1, l_X8_keeps_21 P K58 n M x0 x1 → J p l e rm_X8_keeps s m args below meth c (QV below E P args s rm_X8_keeps.cells rm_X8_keeps.slots) E 2 M kc ks 21 [(0, .ref x0), (1, .int x1)] [] := by
  intro n
  induction n with
  | zero => intro M x0 x1 h; exact h.elim
  | succ n ih =>
    intro M x0 x1 h
    rw [l_X8_keeps_21] at h
    refine j_iload_n (pc := 21) C 1 dX8_keeps_21 rfl ?_
    refine j_aload_n (pc := 22) C 0 dX8_keeps_22 rfl ?_
    refine gf_X8_191 (pc := 23) C dX8_keeps_23 h (fun h => ?_)
    refine j_icmp_ge (pc := 26) C 58 dX8_keeps_26 (by decide) h (fun h => ?_) (fun h => ?_)
    · exact j_weak [0] rfl (k58 _ _ h)
    · refine j_aload_n (pc := 29) C 0 dX8_keeps_29 rfl ?_
      refine gf_X8_46 (pc := 30) C dX8_keeps_30 h (fun a6 h => ?_)
      refine j_sipush (pc := 33) (v := (689 : Int32)) C dX8_keeps_33 rfl ?_
      refine j_iload_n (pc := 36) C 1 dX8_keeps_36 rfl ?_
      refine j_iconst (pc := 37) (v := (1 : Int32)) C dX8_keeps_37 rfl ?_
      refine j_iadd (pc := 38) C dX8_keeps_38 ?_
      refine j_imul (pc := 39) C dX8_keeps_39 ?_
      refine j_aload_n (pc := 40) C 0 dX8_keeps_40 rfl ?_
      refine gf_X8_46 (pc := 41) C dX8_keeps_41 h (fun a7 h => ?_)
      refine j_sipush (pc := 44) (v := (689 : Int32)) C dX8_keeps_44 rfl ?_
      refine j_iload_n (pc := 47) C 1 dX8_keeps_47 rfl ?_
      refine j_imul (pc := 48) C dX8_keeps_48 ?_
      refine cs_X8_327 (pc := 49) C ⟨Nat.le_of_ble_eq_true rfl, Nat.le_of_ble_eq_true rfl⟩ hkc (Nat.le_of_ble_eq_true rfl) dX8_keeps_49 h (fun M8 h => ?_)
      refine j_iinc (pc := 52) (v := (1 : Int32)) C 1 [(1, _), (0, _)] dX8_keeps_52 rfl rfl (by decide) rfl ?_
      refine j_goto (pc := 55) C 21 dX8_keeps_55 (by decide) ?_
      exact j_weak [1, 0] rfl (ih _ _ _ h)
def w_X8_keeps (M : Mm) (x0 : Nat) (P : Mm → Prop) : Prop := zk M x0 = 8 ∧ (if (zI M x0 24) = (10 : Int32) then zk M x0 = 8 ∧ zk M x0 = 8 ∧ (∀ M5, M5 = sI M x0 24 ((zI M x0 24) - (1 : Int32)) → (∃ n21, l_X8_keeps_21 P (fun M9 x0_9 => (zk M9 x0_9 = 8 ∧ ∃ a10, zR M9 x0_9 2 = some a10 ∧ (zk M9 x0_9 = 8 ∧ ∃ a11, zR M9 x0_9 25 = some a11 ∧ zk M9 x0_9 = 8 ∧ w_X8_copies M9 a10 (0 : Int32) a11 ((689 : Int32) * (zI M9 x0_9 24)) (fun M12 => zk M12 x0_9 = 8 ∧ zk M12 x0_9 = 8 ∧ (∀ M13, M13 = sI M12 x0_9 24 ((zI M12 x0_9 24) + (1 : Int32)) → P M13))))) n21 M5 x0 (0 : Int32))) else (zk M x0 = 8 ∧ ∃ a1, zR M x0 2 = some a1 ∧ (zk M x0 = 8 ∧ ∃ a2, zR M x0 25 = some a2 ∧ zk M x0 = 8 ∧ w_X8_copies M a1 (0 : Int32) a2 ((689 : Int32) * (zI M x0 24)) (fun M3 => zk M3 x0 = 8 ∧ zk M3 x0 = 8 ∧ (∀ M4, M4 = sI M3 x0 24 ((zI M3 x0 24) + (1 : Int32)) → P M4)))))
set_option maxHeartbeats 4000000 in
set_option maxRecDepth 100000 in
theorem c_X8_keeps (l : Launch) (E : EV) (M : Mm) (x0 : Nat) (P : Mm → Prop) (h : w_X8_keeps M x0 P) : CtV l E yX8_keeps cX8_keeps 2 rm_X8_keeps 0 0 [.ref x0] M P := by
  refine ctV_of (by decide +kernel) (Nat.le_of_ble_eq_true rfl) ?_
  intro p e s m args below meth c C hnm
  rw [w_X8_keeps] at h
  show J p l e rm_X8_keeps s m args below meth c (QV below E P args s 0 0) E 2 M 0 0 0 [(0, .ref x0)] []
  refine j_aload_n (pc := 0) C 0 dX8_keeps_0 rfl ?_
  refine gf_X8_191 (pc := 1) C dX8_keeps_1 h (fun h => ?_)
  refine j_bipush (pc := 4) (v := (10 : Int32)) C dX8_keeps_4 rfl ?_
  refine j_icmp_ne (pc := 6) C 58 dX8_keeps_6 (by decide) h (fun h => ?_) (fun h => ?_)
  · refine j_aload_n (pc := 58) C 0 dX8_keeps_58 rfl ?_
    refine gf_X8_13 (pc := 59) C dX8_keeps_59 h (fun a1 h => ?_)
    refine j_iconst (pc := 62) (v := (0 : Int32)) C dX8_keeps_62 rfl ?_
    refine j_aload_n (pc := 63) C 0 dX8_keeps_63 rfl ?_
    refine gf_X8_46 (pc := 64) C dX8_keeps_64 h (fun a2 h => ?_)
    refine j_sipush (pc := 67) (v := (689 : Int32)) C dX8_keeps_67 rfl ?_
    refine j_aload_n (pc := 70) C 0 dX8_keeps_70 rfl ?_
    refine gf_X8_191 (pc := 71) C dX8_keeps_71 h (fun h => ?_)
    refine j_imul (pc := 74) C dX8_keeps_74 ?_
    refine cs_X8_327 (pc := 75) C ⟨Nat.le_of_ble_eq_true rfl, Nat.le_of_ble_eq_true rfl⟩ ⟨Nat.le_of_ble_eq_true rfl, Nat.le_of_ble_eq_true rfl⟩ (Nat.le_of_ble_eq_true rfl) dX8_keeps_75 h (fun M3 h => ?_)
    refine j_aload_n (pc := 78) C 0 dX8_keeps_78 rfl ?_
    refine j_dup (pc := 79) C dX8_keeps_79 rfl ?_
    refine gf_X8_191 (pc := 80) C dX8_keeps_80 h (fun h => ?_)
    refine j_iconst (pc := 83) (v := (1 : Int32)) C dX8_keeps_83 rfl ?_
    refine j_iadd (pc := 84) C dX8_keeps_84 ?_
    refine pf_X8_191 (pc := 85) C dX8_keeps_85 h (fun M4 h => ?_)
    exact j_vret (pc := 88) C dX8_keeps_88 (Nat.le_of_ble_eq_true rfl) (Nat.le_of_ble_eq_true rfl) h
  · refine j_aload_n (pc := 9) C 0 dX8_keeps_9 rfl ?_
    refine j_dup (pc := 10) C dX8_keeps_10 rfl ?_
    refine gf_X8_191 (pc := 11) C dX8_keeps_11 h (fun h => ?_)
    refine j_iconst (pc := 14) (v := (1 : Int32)) C dX8_keeps_14 rfl ?_
    refine j_isub (pc := 15) C dX8_keeps_15 ?_
    refine pf_X8_191 (pc := 16) C dX8_keeps_16 h (fun M5 h => ?_)
    refine j_iconst (pc := 19) (v := (0 : Int32)) C dX8_keeps_19 rfl ?_
    refine j_istore_n (pc := 20) C [(1, _), (0, _)] dX8_keeps_20 (by decide) rfl ?_
    obtain ⟨n21, h⟩ := h
    refine j_weak [1, 0] rfl (jl_X8_keeps_21 C ⟨Nat.le_of_ble_eq_true rfl, Nat.le_of_ble_eq_true rfl⟩ (fun M9 x0_9 h => ?_) n21 _ _ _ h)
    · refine j_aload_n (pc := 58) C 0 dX8_keeps_58 rfl ?_
      refine gf_X8_13 (pc := 59) C dX8_keeps_59 h (fun a10 h => ?_)
      refine j_iconst (pc := 62) (v := (0 : Int32)) C dX8_keeps_62 rfl ?_
      refine j_aload_n (pc := 63) C 0 dX8_keeps_63 rfl ?_
      refine gf_X8_46 (pc := 64) C dX8_keeps_64 h (fun a11 h => ?_)
      refine j_sipush (pc := 67) (v := (689 : Int32)) C dX8_keeps_67 rfl ?_
      refine j_aload_n (pc := 70) C 0 dX8_keeps_70 rfl ?_
      refine gf_X8_191 (pc := 71) C dX8_keeps_71 h (fun h => ?_)
      refine j_imul (pc := 74) C dX8_keeps_74 ?_
      refine cs_X8_327 (pc := 75) C ⟨Nat.le_of_ble_eq_true rfl, Nat.le_of_ble_eq_true rfl⟩ ⟨Nat.le_of_ble_eq_true rfl, Nat.le_of_ble_eq_true rfl⟩ (Nat.le_of_ble_eq_true rfl) dX8_keeps_75 h (fun M12 h => ?_)
      refine j_aload_n (pc := 78) C 0 dX8_keeps_78 rfl ?_
      refine j_dup (pc := 79) C dX8_keeps_79 rfl ?_
      refine gf_X8_191 (pc := 80) C dX8_keeps_80 h (fun h => ?_)
      refine j_iconst (pc := 83) (v := (1 : Int32)) C dX8_keeps_83 rfl ?_
      refine j_iadd (pc := 84) C dX8_keeps_84 ?_
      refine pf_X8_191 (pc := 85) C dX8_keeps_85 h (fun M13 h => ?_)
      exact j_vret (pc := 88) C dX8_keeps_88 (Nat.le_of_ble_eq_true rfl) (Nat.le_of_ble_eq_true rfl) h
theorem cs_X8_324 (C : Cx p l s m args meth c cc nL RX8 ret E) {b : Nat} {P : Mm → Prop} (hR : rm_X8_keeps.frames + 1 ≤ R.frames ∧ 8 + (2 + 11) + rm_X8_keeps.locals ≤ R.locals) (hf : kc ≤ R.cells ∧ ks ≤ R.slots) (hst : (st.map fun v => v.category).sum ≤ 8) (d : decode cc pc = .ok (.invokevirtual 324, 3)) (h : zk M b = 8 ∧ w_X8_keeps M b P) (kk : ∀ M', P M' → J p l e R s m args below meth c Q E nL M' kc ks (pc + 3) lo st) : J p l e R s m args below meth c Q E nL M kc ks pc lo (.ref b :: st) :=
  j_cV_V (n := 0) (As := []) C co_X8 rfl wd_1565 wd_98 h.1 (c_X8_keeps l E M b P h.2) ⟨wd_1566, wd_1563, wd_106, by decide +kernel, by decide +kernel, by decide +kernel⟩ rfl rfl hR hf rfl hst d kk
abbrev rm_X8_rehearse : Room := { frames := 14, cells := 0, slots := 0, locals := 351 }
def w_X8_rehearse (M : Mm) (x0 : Nat) (x1 : Int32) (x2 : Int32) (x3 : Int32) (P : Int32 → Mm → Prop) : Prop := zk M x0 = 8 ∧ w_X8_noPlace M x0 x1 x2 (fun r1 M1 => (if r1 = 0 then (zk M1 x0 = 8 ∧ ∃ a2, zR M1 x0 1 = some a2 ∧ zk M1 a2 = 10 ∧ vp_in (3 : Int32) (zl M1 a2) ∧ zk M1 x0 = 8 ∧ w_X8_no M1 x0 x3 (zI M1 a2 (3 : Int32).toNatClampNeg) (fun r3 M3 => (if r3 = 0 then zk M3 x0 = 8 ∧ w_X8_why M3 x0 x1 x2 ((1 : Int32) <<< (x3 &&& 31)) (0 : Int32) (fun r4 M4 => (if r4 = 0 then zk M4 x0 = 8 ∧ w_X8_throwsIf M4 x0 (0 : Int32) (2 : Int32) (fun r5 M5 => (if r5 = 0 then zk M5 x0 = 8 ∧ w_X8_keeps M5 x0 (fun M6 => zk M6 x0 = 8 ∧ w_X8_comes M6 x0 x1 x2 ((1 : Int32) <<< (x3 &&& 31)) (0 : Int32) (fun r7 M7 => P r7 M7)) else P (0 : Int32) M5)) else zk M4 x0 = 8 ∧ w_X8_throwsIf M4 x0 (1 : Int32) (2 : Int32) (fun r8 M8 => (if r8 = 0 then zk M8 x0 = 8 ∧ w_X8_keeps M8 x0 (fun M9 => zk M9 x0 = 8 ∧ w_X8_comes M9 x0 x1 x2 ((1 : Int32) <<< (x3 &&& 31)) (0 : Int32) (fun r10 M10 => P r10 M10)) else P (0 : Int32) M8)))) else P (0 : Int32) M3))) else P (0 : Int32) M1))
set_option maxHeartbeats 4000000 in
set_option maxRecDepth 100000 in
theorem c_X8_rehearse (l : Launch) (E : EV) (M : Mm) (x0 : Nat) (x1 : Int32) (x2 : Int32) (x3 : Int32) (P : Int32 → Mm → Prop) (h : w_X8_rehearse M x0 x1 x2 x3 P) : CtI l E yX8_rehearse cX8_rehearse 4 .int rm_X8_rehearse 0 0 [.ref x0, .int x1, .int x2, .int x3] M P := by
  refine ctI_of (by decide +kernel) (Nat.le_of_ble_eq_true rfl) ?_
  intro p e s m args below meth c C
  rw [w_X8_rehearse] at h
  show J p l e rm_X8_rehearse s m args below meth c (QI below E P args s 0 0) E 4 M 0 0 0 [(0, .ref x0), (1, .int x1), (2, .int x2), (3, .int x3)] []
  refine j_aload_n (pc := 0) C 0 dX8_rehearse_0 rfl ?_
  refine j_iload_n (pc := 1) C 1 dX8_rehearse_1 rfl ?_
  refine j_iload_n (pc := 2) C 2 dX8_rehearse_2 rfl ?_
  refine cs_X8_285 (pc := 3) C ⟨Nat.le_of_ble_eq_true rfl, Nat.le_of_ble_eq_true rfl⟩ ⟨Nat.le_of_ble_eq_true rfl, Nat.le_of_ble_eq_true rfl⟩ (Nat.le_of_ble_eq_true rfl) dX8_rehearse_3 h (fun r1 M1 h => ?_)
  refine j_if_ne (pc := 6) C 49 dX8_rehearse_6 (by decide) h (fun h => ?_) (fun h => ?_)
  · refine j_iconst (pc := 49) (v := (0 : Int32)) C dX8_rehearse_49 rfl ?_
    exact j_iret (pc := 50) C dX8_rehearse_50 (Nat.le_of_ble_eq_true rfl) (Nat.le_of_ble_eq_true rfl) h
  · refine j_aload_n (pc := 9) C 0 dX8_rehearse_9 rfl ?_
    refine j_iload_n (pc := 10) C 3 dX8_rehearse_10 rfl ?_
    refine j_aload_n (pc := 11) C 0 dX8_rehearse_11 rfl ?_
    refine gf_X8_7 (pc := 12) C dX8_rehearse_12 h (fun a2 h => ?_)
    refine j_iconst (pc := 15) (v := (3 : Int32)) C dX8_rehearse_15 rfl ?_
    refine j_iald (pc := 16) C dX8_rehearse_16 h (fun h => ?_)
    refine cs_X8_249 (pc := 17) C ⟨Nat.le_of_ble_eq_true rfl, Nat.le_of_ble_eq_true rfl⟩ ⟨Nat.le_of_ble_eq_true rfl, Nat.le_of_ble_eq_true rfl⟩ (Nat.le_of_ble_eq_true rfl) dX8_rehearse_17 h (fun r3 M3 h => ?_)
    refine j_if_ne (pc := 20) C 49 dX8_rehearse_20 (by decide) h (fun h => ?_) (fun h => ?_)
    · refine j_iconst (pc := 49) (v := (0 : Int32)) C dX8_rehearse_49 rfl ?_
      exact j_iret (pc := 50) C dX8_rehearse_50 (Nat.le_of_ble_eq_true rfl) (Nat.le_of_ble_eq_true rfl) h
    · refine j_aload_n (pc := 23) C 0 dX8_rehearse_23 rfl ?_
      refine j_aload_n (pc := 24) C 0 dX8_rehearse_24 rfl ?_
      refine j_iload_n (pc := 25) C 1 dX8_rehearse_25 rfl ?_
      refine j_iload_n (pc := 26) C 2 dX8_rehearse_26 rfl ?_
      refine j_iconst (pc := 27) (v := (1 : Int32)) C dX8_rehearse_27 rfl ?_
      refine j_iload_n (pc := 28) C 3 dX8_rehearse_28 rfl ?_
      refine j_ishl (pc := 29) C dX8_rehearse_29 ?_
      refine j_iconst (pc := 30) (v := (0 : Int32)) C dX8_rehearse_30 rfl ?_
      refine cs_X8_294 (pc := 31) C ⟨Nat.le_of_ble_eq_true rfl, Nat.le_of_ble_eq_true rfl⟩ ⟨Nat.le_of_ble_eq_true rfl, Nat.le_of_ble_eq_true rfl⟩ (Nat.le_of_ble_eq_true rfl) dX8_rehearse_31 h (fun r4 M4 h => ?_)
      refine j_if_eq (pc := 34) C 41 dX8_rehearse_34 (by decide) h (fun h => ?_) (fun h => ?_)
      · refine j_iconst (pc := 41) (v := (0 : Int32)) C dX8_rehearse_41 rfl ?_
        refine j_iconst (pc := 42) (v := (2 : Int32)) C dX8_rehearse_42 rfl ?_
        refine cs_X8_176 (pc := 43) C ⟨Nat.le_of_ble_eq_true rfl, Nat.le_of_ble_eq_true rfl⟩ ⟨Nat.le_of_ble_eq_true rfl, Nat.le_of_ble_eq_true rfl⟩ (Nat.le_of_ble_eq_true rfl) dX8_rehearse_43 h (fun r5 M5 h => ?_)
        refine j_if_eq (pc := 46) C 51 dX8_rehearse_46 (by decide) h (fun h => ?_) (fun h => ?_)
        · refine j_aload_n (pc := 51) C 0 dX8_rehearse_51 rfl ?_
          refine cs_X8_324 (pc := 52) C ⟨Nat.le_of_ble_eq_true rfl, Nat.le_of_ble_eq_true rfl⟩ ⟨Nat.le_of_ble_eq_true rfl, Nat.le_of_ble_eq_true rfl⟩ (Nat.le_of_ble_eq_true rfl) dX8_rehearse_52 h (fun M6 h => ?_)
          refine j_aload_n (pc := 55) C 0 dX8_rehearse_55 rfl ?_
          refine j_iload_n (pc := 56) C 1 dX8_rehearse_56 rfl ?_
          refine j_iload_n (pc := 57) C 2 dX8_rehearse_57 rfl ?_
          refine j_iconst (pc := 58) (v := (1 : Int32)) C dX8_rehearse_58 rfl ?_
          refine j_iload_n (pc := 59) C 3 dX8_rehearse_59 rfl ?_
          refine j_ishl (pc := 60) C dX8_rehearse_60 ?_
          refine j_iconst (pc := 61) (v := (0 : Int32)) C dX8_rehearse_61 rfl ?_
          refine cs_X8_301 (pc := 62) C ⟨Nat.le_of_ble_eq_true rfl, Nat.le_of_ble_eq_true rfl⟩ ⟨Nat.le_of_ble_eq_true rfl, Nat.le_of_ble_eq_true rfl⟩ (Nat.le_of_ble_eq_true rfl) dX8_rehearse_62 h (fun r7 M7 h => ?_)
          exact j_iret (pc := 65) C dX8_rehearse_65 (Nat.le_of_ble_eq_true rfl) (Nat.le_of_ble_eq_true rfl) h
        · refine j_iconst (pc := 49) (v := (0 : Int32)) C dX8_rehearse_49 rfl ?_
          exact j_iret (pc := 50) C dX8_rehearse_50 (Nat.le_of_ble_eq_true rfl) (Nat.le_of_ble_eq_true rfl) h
      · refine j_iconst (pc := 37) (v := (1 : Int32)) C dX8_rehearse_37 rfl ?_
        refine j_goto (pc := 38) C 42 dX8_rehearse_38 (by decide) ?_
        refine j_iconst (pc := 42) (v := (2 : Int32)) C dX8_rehearse_42 rfl ?_
        refine cs_X8_176 (pc := 43) C ⟨Nat.le_of_ble_eq_true rfl, Nat.le_of_ble_eq_true rfl⟩ ⟨Nat.le_of_ble_eq_true rfl, Nat.le_of_ble_eq_true rfl⟩ (Nat.le_of_ble_eq_true rfl) dX8_rehearse_43 h (fun r8 M8 h => ?_)
        refine j_if_eq (pc := 46) C 51 dX8_rehearse_46 (by decide) h (fun h => ?_) (fun h => ?_)
        · refine j_aload_n (pc := 51) C 0 dX8_rehearse_51 rfl ?_
          refine cs_X8_324 (pc := 52) C ⟨Nat.le_of_ble_eq_true rfl, Nat.le_of_ble_eq_true rfl⟩ ⟨Nat.le_of_ble_eq_true rfl, Nat.le_of_ble_eq_true rfl⟩ (Nat.le_of_ble_eq_true rfl) dX8_rehearse_52 h (fun M9 h => ?_)
          refine j_aload_n (pc := 55) C 0 dX8_rehearse_55 rfl ?_
          refine j_iload_n (pc := 56) C 1 dX8_rehearse_56 rfl ?_
          refine j_iload_n (pc := 57) C 2 dX8_rehearse_57 rfl ?_
          refine j_iconst (pc := 58) (v := (1 : Int32)) C dX8_rehearse_58 rfl ?_
          refine j_iload_n (pc := 59) C 3 dX8_rehearse_59 rfl ?_
          refine j_ishl (pc := 60) C dX8_rehearse_60 ?_
          refine j_iconst (pc := 61) (v := (0 : Int32)) C dX8_rehearse_61 rfl ?_
          refine cs_X8_301 (pc := 62) C ⟨Nat.le_of_ble_eq_true rfl, Nat.le_of_ble_eq_true rfl⟩ ⟨Nat.le_of_ble_eq_true rfl, Nat.le_of_ble_eq_true rfl⟩ (Nat.le_of_ble_eq_true rfl) dX8_rehearse_62 h (fun r10 M10 h => ?_)
          exact j_iret (pc := 65) C dX8_rehearse_65 (Nat.le_of_ble_eq_true rfl) (Nat.le_of_ble_eq_true rfl) h
        · refine j_iconst (pc := 49) (v := (0 : Int32)) C dX8_rehearse_49 rfl ?_
          exact j_iret (pc := 50) C dX8_rehearse_50 (Nat.le_of_ble_eq_true rfl) (Nat.le_of_ble_eq_true rfl) h
abbrev rm_X8_concert : Room := { frames := 14, cells := 0, slots := 0, locals := 351 }
def w_X8_concert (M : Mm) (x0 : Nat) (x1 : Int32) (x2 : Int32) (x3 : Int32) (P : Int32 → Mm → Prop) : Prop := zk M x0 = 8 ∧ w_X8_noPlace M x0 x1 x2 (fun r1 M1 => (if r1 = 0 then zk M1 x0 = 8 ∧ w_X8_noSet M1 x0 x3 (1 : Int32) (fun r2 M2 => (if r2 = 0 then zk M2 x0 = 8 ∧ w_X8_why M2 x0 x1 x2 x3 (1 : Int32) (fun r3 M3 => (if r3 = 0 then zk M3 x0 = 8 ∧ w_X8_throwsIf M3 x0 (0 : Int32) (3 : Int32) (fun r4 M4 => (if r4 = 0 then zk M4 x0 = 8 ∧ w_X8_keeps M4 x0 (fun M5 => zk M5 x0 = 8 ∧ w_X8_comes M5 x0 x1 x2 x3 (1 : Int32) (fun r6 M6 => P r6 M6)) else P (0 : Int32) M4)) else zk M3 x0 = 8 ∧ w_X8_throwsIf M3 x0 (1 : Int32) (3 : Int32) (fun r7 M7 => (if r7 = 0 then zk M7 x0 = 8 ∧ w_X8_keeps M7 x0 (fun M8 => zk M8 x0 = 8 ∧ w_X8_comes M8 x0 x1 x2 x3 (1 : Int32) (fun r9 M9 => P r9 M9)) else P (0 : Int32) M7)))) else P (0 : Int32) M2)) else P (0 : Int32) M1))
set_option maxHeartbeats 4000000 in
set_option maxRecDepth 100000 in
theorem c_X8_concert (l : Launch) (E : EV) (M : Mm) (x0 : Nat) (x1 : Int32) (x2 : Int32) (x3 : Int32) (P : Int32 → Mm → Prop) (h : w_X8_concert M x0 x1 x2 x3 P) : CtI l E yX8_concert cX8_concert 4 .int rm_X8_concert 0 0 [.ref x0, .int x1, .int x2, .int x3] M P := by
  refine ctI_of (by decide +kernel) (Nat.le_of_ble_eq_true rfl) ?_
  intro p e s m args below meth c C
  rw [w_X8_concert] at h
  show J p l e rm_X8_concert s m args below meth c (QI below E P args s 0 0) E 4 M 0 0 0 [(0, .ref x0), (1, .int x1), (2, .int x2), (3, .int x3)] []
  refine j_aload_n (pc := 0) C 0 dX8_concert_0 rfl ?_
  refine j_iload_n (pc := 1) C 1 dX8_concert_1 rfl ?_
  refine j_iload_n (pc := 2) C 2 dX8_concert_2 rfl ?_
  refine cs_X8_285 (pc := 3) C ⟨Nat.le_of_ble_eq_true rfl, Nat.le_of_ble_eq_true rfl⟩ ⟨Nat.le_of_ble_eq_true rfl, Nat.le_of_ble_eq_true rfl⟩ (Nat.le_of_ble_eq_true rfl) dX8_concert_3 h (fun r1 M1 h => ?_)
  refine j_if_ne (pc := 6) C 42 dX8_concert_6 (by decide) h (fun h => ?_) (fun h => ?_)
  · refine j_iconst (pc := 42) (v := (0 : Int32)) C dX8_concert_42 rfl ?_
    exact j_iret (pc := 43) C dX8_concert_43 (Nat.le_of_ble_eq_true rfl) (Nat.le_of_ble_eq_true rfl) h
  · refine j_aload_n (pc := 9) C 0 dX8_concert_9 rfl ?_
    refine j_iload_n (pc := 10) C 3 dX8_concert_10 rfl ?_
    refine j_iconst (pc := 11) (v := (1 : Int32)) C dX8_concert_11 rfl ?_
    refine cs_X8_291 (pc := 12) C ⟨Nat.le_of_ble_eq_true rfl, Nat.le_of_ble_eq_true rfl⟩ ⟨Nat.le_of_ble_eq_true rfl, Nat.le_of_ble_eq_true rfl⟩ (Nat.le_of_ble_eq_true rfl) dX8_concert_12 h (fun r2 M2 h => ?_)
    refine j_if_ne (pc := 15) C 42 dX8_concert_15 (by decide) h (fun h => ?_) (fun h => ?_)
    · refine j_iconst (pc := 42) (v := (0 : Int32)) C dX8_concert_42 rfl ?_
      exact j_iret (pc := 43) C dX8_concert_43 (Nat.le_of_ble_eq_true rfl) (Nat.le_of_ble_eq_true rfl) h
    · refine j_aload_n (pc := 18) C 0 dX8_concert_18 rfl ?_
      refine j_aload_n (pc := 19) C 0 dX8_concert_19 rfl ?_
      refine j_iload_n (pc := 20) C 1 dX8_concert_20 rfl ?_
      refine j_iload_n (pc := 21) C 2 dX8_concert_21 rfl ?_
      refine j_iload_n (pc := 22) C 3 dX8_concert_22 rfl ?_
      refine j_iconst (pc := 23) (v := (1 : Int32)) C dX8_concert_23 rfl ?_
      refine cs_X8_294 (pc := 24) C ⟨Nat.le_of_ble_eq_true rfl, Nat.le_of_ble_eq_true rfl⟩ ⟨Nat.le_of_ble_eq_true rfl, Nat.le_of_ble_eq_true rfl⟩ (Nat.le_of_ble_eq_true rfl) dX8_concert_24 h (fun r3 M3 h => ?_)
      refine j_if_eq (pc := 27) C 34 dX8_concert_27 (by decide) h (fun h => ?_) (fun h => ?_)
      · refine j_iconst (pc := 34) (v := (0 : Int32)) C dX8_concert_34 rfl ?_
        refine j_iconst (pc := 35) (v := (3 : Int32)) C dX8_concert_35 rfl ?_
        refine cs_X8_176 (pc := 36) C ⟨Nat.le_of_ble_eq_true rfl, Nat.le_of_ble_eq_true rfl⟩ ⟨Nat.le_of_ble_eq_true rfl, Nat.le_of_ble_eq_true rfl⟩ (Nat.le_of_ble_eq_true rfl) dX8_concert_36 h (fun r4 M4 h => ?_)
        refine j_if_eq (pc := 39) C 44 dX8_concert_39 (by decide) h (fun h => ?_) (fun h => ?_)
        · refine j_aload_n (pc := 44) C 0 dX8_concert_44 rfl ?_
          refine cs_X8_324 (pc := 45) C ⟨Nat.le_of_ble_eq_true rfl, Nat.le_of_ble_eq_true rfl⟩ ⟨Nat.le_of_ble_eq_true rfl, Nat.le_of_ble_eq_true rfl⟩ (Nat.le_of_ble_eq_true rfl) dX8_concert_45 h (fun M5 h => ?_)
          refine j_aload_n (pc := 48) C 0 dX8_concert_48 rfl ?_
          refine j_iload_n (pc := 49) C 1 dX8_concert_49 rfl ?_
          refine j_iload_n (pc := 50) C 2 dX8_concert_50 rfl ?_
          refine j_iload_n (pc := 51) C 3 dX8_concert_51 rfl ?_
          refine j_iconst (pc := 52) (v := (1 : Int32)) C dX8_concert_52 rfl ?_
          refine cs_X8_301 (pc := 53) C ⟨Nat.le_of_ble_eq_true rfl, Nat.le_of_ble_eq_true rfl⟩ ⟨Nat.le_of_ble_eq_true rfl, Nat.le_of_ble_eq_true rfl⟩ (Nat.le_of_ble_eq_true rfl) dX8_concert_53 h (fun r6 M6 h => ?_)
          exact j_iret (pc := 56) C dX8_concert_56 (Nat.le_of_ble_eq_true rfl) (Nat.le_of_ble_eq_true rfl) h
        · refine j_iconst (pc := 42) (v := (0 : Int32)) C dX8_concert_42 rfl ?_
          exact j_iret (pc := 43) C dX8_concert_43 (Nat.le_of_ble_eq_true rfl) (Nat.le_of_ble_eq_true rfl) h
      · refine j_iconst (pc := 30) (v := (1 : Int32)) C dX8_concert_30 rfl ?_
        refine j_goto (pc := 31) C 35 dX8_concert_31 (by decide) ?_
        refine j_iconst (pc := 35) (v := (3 : Int32)) C dX8_concert_35 rfl ?_
        refine cs_X8_176 (pc := 36) C ⟨Nat.le_of_ble_eq_true rfl, Nat.le_of_ble_eq_true rfl⟩ ⟨Nat.le_of_ble_eq_true rfl, Nat.le_of_ble_eq_true rfl⟩ (Nat.le_of_ble_eq_true rfl) dX8_concert_36 h (fun r7 M7 h => ?_)
        refine j_if_eq (pc := 39) C 44 dX8_concert_39 (by decide) h (fun h => ?_) (fun h => ?_)
        · refine j_aload_n (pc := 44) C 0 dX8_concert_44 rfl ?_
          refine cs_X8_324 (pc := 45) C ⟨Nat.le_of_ble_eq_true rfl, Nat.le_of_ble_eq_true rfl⟩ ⟨Nat.le_of_ble_eq_true rfl, Nat.le_of_ble_eq_true rfl⟩ (Nat.le_of_ble_eq_true rfl) dX8_concert_45 h (fun M8 h => ?_)
          refine j_aload_n (pc := 48) C 0 dX8_concert_48 rfl ?_
          refine j_iload_n (pc := 49) C 1 dX8_concert_49 rfl ?_
          refine j_iload_n (pc := 50) C 2 dX8_concert_50 rfl ?_
          refine j_iload_n (pc := 51) C 3 dX8_concert_51 rfl ?_
          refine j_iconst (pc := 52) (v := (1 : Int32)) C dX8_concert_52 rfl ?_
          refine cs_X8_301 (pc := 53) C ⟨Nat.le_of_ble_eq_true rfl, Nat.le_of_ble_eq_true rfl⟩ ⟨Nat.le_of_ble_eq_true rfl, Nat.le_of_ble_eq_true rfl⟩ (Nat.le_of_ble_eq_true rfl) dX8_concert_53 h (fun r9 M9 h => ?_)
          exact j_iret (pc := 56) C dX8_concert_56 (Nat.le_of_ble_eq_true rfl) (Nat.le_of_ble_eq_true rfl) h
        · refine j_iconst (pc := 42) (v := (0 : Int32)) C dX8_concert_42 rfl ?_
          exact j_iret (pc := 43) C dX8_concert_43 (Nat.le_of_ble_eq_true rfl) (Nat.le_of_ble_eq_true rfl) h
abbrev rm_X8_cancel : Room := { frames := 5, cells := 0, slots := 0, locals := 114 }
def w_X8_cancel (M : Mm) (x0 : Nat) (x1 : Int32) (P : Int32 → Mm → Prop) : Prop := zk M x0 = 8 ∧ w_X8_noService M x0 x1 (fun r1 M1 => (if r1 = 0 then (zk M1 x0 = 8 ∧ ∃ a2, zR M1 x0 2 = some a2 ∧ (zk M1 x0 = 8 ∧ ∃ a3, zR M1 x0 22 = some a3 ∧ zk M1 x0 = 8 ∧ w_X8_puts M1 x0 a2 a3 (fun M4 => zk M4 x0 = 8 ∧ w_X8_takesOff M4 x0 x1 (fun M5 => zk M5 x0 = 8 ∧ w_X8_isRehearsed M5 x0 (fun r6 M6 => (zk M6 x0 = 8 ∧ ∃ a7, zR M6 x0 22 = some a7 ∧ (zk M6 x0 = 8 ∧ ∃ a8, zR M6 x0 2 = some a8 ∧ zk M6 x0 = 8 ∧ w_X8_puts M6 x0 a7 a8 (fun M9 => (if r6 = 0 then zk M9 x0 = 8 ∧ w_X8_throwsIf M9 x0 (1 : Int32) (2 : Int32) (fun r14 M14 => (if r14 = 0 then zk M14 x0 = 8 ∧ w_X8_keeps M14 x0 (fun M15 => zk M15 x0 = 8 ∧ w_X8_takesOff M15 x0 x1 (fun M16 => (zk M16 x0 = 8 ∧ ∃ a17, zR M16 x0 2 = some a17 ∧ zk M16 a17 = 10 ∧ vp_in (0 : Int32) (zl M16 a17) ∧ P (zI M16 a17 (0 : Int32).toNatClampNeg) M16))) else P (0 : Int32) M14)) else zk M9 x0 = 8 ∧ w_X8_throwsIf M9 x0 (0 : Int32) (2 : Int32) (fun r10 M10 => (if r10 = 0 then zk M10 x0 = 8 ∧ w_X8_keeps M10 x0 (fun M11 => zk M11 x0 = 8 ∧ w_X8_takesOff M11 x0 x1 (fun M12 => (zk M12 x0 = 8 ∧ ∃ a13, zR M12 x0 2 = some a13 ∧ zk M12 a13 = 10 ∧ vp_in (0 : Int32) (zl M12 a13) ∧ P (zI M12 a13 (0 : Int32).toNatClampNeg) M12))) else P (0 : Int32) M10))))))))))) else P (0 : Int32) M1))
set_option maxHeartbeats 4000000 in
set_option maxRecDepth 100000 in
theorem c_X8_cancel (l : Launch) (E : EV) (M : Mm) (x0 : Nat) (x1 : Int32) (P : Int32 → Mm → Prop) (h : w_X8_cancel M x0 x1 P) : CtI l E yX8_cancel cX8_cancel 3 .int rm_X8_cancel 0 0 [.ref x0, .int x1] M P := by
  refine ctI_of (by decide +kernel) (Nat.le_of_ble_eq_true rfl) ?_
  intro p e s m args below meth c C
  rw [w_X8_cancel] at h
  show J p l e rm_X8_cancel s m args below meth c (QI below E P args s 0 0) E 3 M 0 0 0 [(0, .ref x0), (1, .int x1)] []
  refine j_aload_n (pc := 0) C 0 dX8_cancel_0 rfl ?_
  refine j_iload_n (pc := 1) C 1 dX8_cancel_1 rfl ?_
  refine cs_X8_282 (pc := 2) C ⟨Nat.le_of_ble_eq_true rfl, Nat.le_of_ble_eq_true rfl⟩ ⟨Nat.le_of_ble_eq_true rfl, Nat.le_of_ble_eq_true rfl⟩ (Nat.le_of_ble_eq_true rfl) dX8_cancel_2 h (fun r1 M1 h => ?_)
  refine j_if_eq (pc := 5) C 10 dX8_cancel_5 (by decide) h (fun h => ?_) (fun h => ?_)
  · refine j_aload_n (pc := 10) C 0 dX8_cancel_10 rfl ?_
    refine j_aload_n (pc := 11) C 0 dX8_cancel_11 rfl ?_
    refine gf_X8_13 (pc := 12) C dX8_cancel_12 h (fun a2 h => ?_)
    refine j_aload_n (pc := 15) C 0 dX8_cancel_15 rfl ?_
    refine gf_X8_43 (pc := 16) C dX8_cancel_16 h (fun a3 h => ?_)
    refine cs_X8_311 (pc := 19) C ⟨Nat.le_of_ble_eq_true rfl, Nat.le_of_ble_eq_true rfl⟩ ⟨Nat.le_of_ble_eq_true rfl, Nat.le_of_ble_eq_true rfl⟩ (Nat.le_of_ble_eq_true rfl) dX8_cancel_19 h (fun M4 h => ?_)
    refine j_aload_n (pc := 22) C 0 dX8_cancel_22 rfl ?_
    refine j_iload_n (pc := 23) C 1 dX8_cancel_23 rfl ?_
    refine cs_X8_298 (pc := 24) C ⟨Nat.le_of_ble_eq_true rfl, Nat.le_of_ble_eq_true rfl⟩ ⟨Nat.le_of_ble_eq_true rfl, Nat.le_of_ble_eq_true rfl⟩ (Nat.le_of_ble_eq_true rfl) dX8_cancel_24 h (fun M5 h => ?_)
    refine j_aload_n (pc := 27) C 0 dX8_cancel_27 rfl ?_
    refine cs_X8_308 (pc := 28) C ⟨Nat.le_of_ble_eq_true rfl, Nat.le_of_ble_eq_true rfl⟩ ⟨Nat.le_of_ble_eq_true rfl, Nat.le_of_ble_eq_true rfl⟩ (Nat.le_of_ble_eq_true rfl) dX8_cancel_28 h (fun r6 M6 h => ?_)
    refine j_istore_n (pc := 31) C [(2, _), (0, _), (1, _)] dX8_cancel_31 (by decide) rfl ?_
    refine j_aload_n (pc := 32) C 1 dX8_cancel_32 rfl ?_
    refine j_aload_n (pc := 33) C 1 dX8_cancel_33 rfl ?_
    refine gf_X8_43 (pc := 34) C dX8_cancel_34 h (fun a7 h => ?_)
    refine j_aload_n (pc := 37) C 1 dX8_cancel_37 rfl ?_
    refine gf_X8_13 (pc := 38) C dX8_cancel_38 h (fun a8 h => ?_)
    refine cs_X8_311 (pc := 41) C ⟨Nat.le_of_ble_eq_true rfl, Nat.le_of_ble_eq_true rfl⟩ ⟨Nat.le_of_ble_eq_true rfl, Nat.le_of_ble_eq_true rfl⟩ (Nat.le_of_ble_eq_true rfl) dX8_cancel_41 h (fun M9 h => ?_)
    refine j_aload_n (pc := 44) C 1 dX8_cancel_44 rfl ?_
    refine j_iload_n (pc := 45) C 0 dX8_cancel_45 rfl ?_
    refine j_if_ne (pc := 46) C 53 dX8_cancel_46 (by decide) h (fun h => ?_) (fun h => ?_)
    · refine j_iconst (pc := 53) (v := (0 : Int32)) C dX8_cancel_53 rfl ?_
      refine j_iconst (pc := 54) (v := (2 : Int32)) C dX8_cancel_54 rfl ?_
      refine cs_X8_176 (pc := 55) C ⟨Nat.le_of_ble_eq_true rfl, Nat.le_of_ble_eq_true rfl⟩ ⟨Nat.le_of_ble_eq_true rfl, Nat.le_of_ble_eq_true rfl⟩ (Nat.le_of_ble_eq_true rfl) dX8_cancel_55 h (fun r10 M10 h => ?_)
      refine j_if_eq (pc := 58) C 63 dX8_cancel_58 (by decide) h (fun h => ?_) (fun h => ?_)
      · refine j_aload_n (pc := 63) C 1 dX8_cancel_63 rfl ?_
        refine cs_X8_324 (pc := 64) C ⟨Nat.le_of_ble_eq_true rfl, Nat.le_of_ble_eq_true rfl⟩ ⟨Nat.le_of_ble_eq_true rfl, Nat.le_of_ble_eq_true rfl⟩ (Nat.le_of_ble_eq_true rfl) dX8_cancel_64 h (fun M11 h => ?_)
        refine j_aload_n (pc := 67) C 1 dX8_cancel_67 rfl ?_
        refine j_iload_n (pc := 68) C 2 dX8_cancel_68 rfl ?_
        refine cs_X8_298 (pc := 69) C ⟨Nat.le_of_ble_eq_true rfl, Nat.le_of_ble_eq_true rfl⟩ ⟨Nat.le_of_ble_eq_true rfl, Nat.le_of_ble_eq_true rfl⟩ (Nat.le_of_ble_eq_true rfl) dX8_cancel_69 h (fun M12 h => ?_)
        refine j_aload_n (pc := 72) C 1 dX8_cancel_72 rfl ?_
        refine gf_X8_13 (pc := 73) C dX8_cancel_73 h (fun a13 h => ?_)
        refine j_iconst (pc := 76) (v := (0 : Int32)) C dX8_cancel_76 rfl ?_
        refine j_iald (pc := 77) C dX8_cancel_77 h (fun h => ?_)
        exact j_iret (pc := 78) C dX8_cancel_78 (Nat.le_of_ble_eq_true rfl) (Nat.le_of_ble_eq_true rfl) h
      · refine j_iconst (pc := 61) (v := (0 : Int32)) C dX8_cancel_61 rfl ?_
        exact j_iret (pc := 62) C dX8_cancel_62 (Nat.le_of_ble_eq_true rfl) (Nat.le_of_ble_eq_true rfl) h
    · refine j_iconst (pc := 49) (v := (1 : Int32)) C dX8_cancel_49 rfl ?_
      refine j_goto (pc := 50) C 54 dX8_cancel_50 (by decide) ?_
      refine j_iconst (pc := 54) (v := (2 : Int32)) C dX8_cancel_54 rfl ?_
      refine cs_X8_176 (pc := 55) C ⟨Nat.le_of_ble_eq_true rfl, Nat.le_of_ble_eq_true rfl⟩ ⟨Nat.le_of_ble_eq_true rfl, Nat.le_of_ble_eq_true rfl⟩ (Nat.le_of_ble_eq_true rfl) dX8_cancel_55 h (fun r14 M14 h => ?_)
      refine j_if_eq (pc := 58) C 63 dX8_cancel_58 (by decide) h (fun h => ?_) (fun h => ?_)
      · refine j_aload_n (pc := 63) C 1 dX8_cancel_63 rfl ?_
        refine cs_X8_324 (pc := 64) C ⟨Nat.le_of_ble_eq_true rfl, Nat.le_of_ble_eq_true rfl⟩ ⟨Nat.le_of_ble_eq_true rfl, Nat.le_of_ble_eq_true rfl⟩ (Nat.le_of_ble_eq_true rfl) dX8_cancel_64 h (fun M15 h => ?_)
        refine j_aload_n (pc := 67) C 1 dX8_cancel_67 rfl ?_
        refine j_iload_n (pc := 68) C 2 dX8_cancel_68 rfl ?_
        refine cs_X8_298 (pc := 69) C ⟨Nat.le_of_ble_eq_true rfl, Nat.le_of_ble_eq_true rfl⟩ ⟨Nat.le_of_ble_eq_true rfl, Nat.le_of_ble_eq_true rfl⟩ (Nat.le_of_ble_eq_true rfl) dX8_cancel_69 h (fun M16 h => ?_)
        refine j_aload_n (pc := 72) C 1 dX8_cancel_72 rfl ?_
        refine gf_X8_13 (pc := 73) C dX8_cancel_73 h (fun a17 h => ?_)
        refine j_iconst (pc := 76) (v := (0 : Int32)) C dX8_cancel_76 rfl ?_
        refine j_iald (pc := 77) C dX8_cancel_77 h (fun h => ?_)
        exact j_iret (pc := 78) C dX8_cancel_78 (Nat.le_of_ble_eq_true rfl) (Nat.le_of_ble_eq_true rfl) h
      · refine j_iconst (pc := 61) (v := (0 : Int32)) C dX8_cancel_61 rfl ?_
        exact j_iret (pc := 62) C dX8_cancel_62 (Nat.le_of_ble_eq_true rfl) (Nat.le_of_ble_eq_true rfl) h
  · refine j_iconst (pc := 8) (v := (0 : Int32)) C dX8_cancel_8 rfl ?_
    exact j_iret (pc := 9) C dX8_cancel_9 (Nat.le_of_ble_eq_true rfl) (Nat.le_of_ble_eq_true rfl) h
abbrev rm_X8_move : Room := { frames := 15, cells := 0, slots := 0, locals := 377 }
def w_X8_move (M : Mm) (x0 : Nat) (x1 : Int32) (x2 : Int32) (P : Int32 → Mm → Prop) : Prop := zk M x0 = 8 ∧ w_X8_noService M x0 x1 (fun r1 M1 => (if r1 = 0 then zk M1 x0 = 8 ∧ w_X8_slotMany M1 x0 (fun r2 M2 => zk M2 x0 = 8 ∧ w_X8_no M2 x0 x2 r2 (fun r3 M3 => (if r3 = 0 then (zk M3 x0 = 8 ∧ ∃ a4, zR M3 x0 2 = some a4 ∧ (zk M3 x0 = 8 ∧ ∃ a5, zR M3 x0 22 = some a5 ∧ zk M3 x0 = 8 ∧ w_X8_puts M3 x0 a4 a5 (fun M6 => zk M6 x0 = 8 ∧ w_X8_moves M6 x0 x1 x2 (fun r7 M7 => (zk M7 x0 = 8 ∧ ∃ a8, zR M7 x0 22 = some a8 ∧ (zk M7 x0 = 8 ∧ ∃ a9, zR M7 x0 2 = some a9 ∧ zk M7 x0 = 8 ∧ w_X8_puts M7 x0 a8 a9 (fun M10 => (if r7 = 0 then zk M10 x0 = 8 ∧ w_X8_throwsIf M10 x0 (0 : Int32) (2 : Int32) (fun r11 M11 => (if r11 = 0 then zk M11 x0 = 8 ∧ w_X8_keeps M11 x0 (fun M12 => zk M12 x0 = 8 ∧ w_X8_moves M12 x0 x1 x2 (fun r13 M13 => zk M13 x0 = 8 ∧ P (zI M13 x0 23) M13)) else P (0 : Int32) M11)) else zk M10 x0 = 8 ∧ w_X8_throwsIf M10 x0 (1 : Int32) (2 : Int32) (fun r14 M14 => (if r14 = 0 then zk M14 x0 = 8 ∧ w_X8_keeps M14 x0 (fun M15 => zk M15 x0 = 8 ∧ w_X8_moves M15 x0 x1 x2 (fun r16 M16 => zk M16 x0 = 8 ∧ P (zI M16 x0 23) M16)) else P (0 : Int32) M14)))))))))) else P (0 : Int32) M3))) else P (0 : Int32) M1))
set_option maxHeartbeats 4000000 in
set_option maxRecDepth 100000 in
theorem c_X8_move (l : Launch) (E : EV) (M : Mm) (x0 : Nat) (x1 : Int32) (x2 : Int32) (P : Int32 → Mm → Prop) (h : w_X8_move M x0 x1 x2 P) : CtI l E yX8_move cX8_move 5 .int rm_X8_move 0 0 [.ref x0, .int x1, .int x2] M P := by
  refine ctI_of (by decide +kernel) (Nat.le_of_ble_eq_true rfl) ?_
  intro p e s m args below meth c C
  rw [w_X8_move] at h
  show J p l e rm_X8_move s m args below meth c (QI below E P args s 0 0) E 5 M 0 0 0 [(0, .ref x0), (1, .int x1), (2, .int x2)] []
  refine j_aload_n (pc := 0) C 0 dX8_move_0 rfl ?_
  refine j_iload_n (pc := 1) C 1 dX8_move_1 rfl ?_
  refine cs_X8_282 (pc := 2) C ⟨Nat.le_of_ble_eq_true rfl, Nat.le_of_ble_eq_true rfl⟩ ⟨Nat.le_of_ble_eq_true rfl, Nat.le_of_ble_eq_true rfl⟩ (Nat.le_of_ble_eq_true rfl) dX8_move_2 h (fun r1 M1 h => ?_)
  refine j_if_ne (pc := 5) C 20 dX8_move_5 (by decide) h (fun h => ?_) (fun h => ?_)
  · refine j_iconst (pc := 20) (v := (0 : Int32)) C dX8_move_20 rfl ?_
    exact j_iret (pc := 21) C dX8_move_21 (Nat.le_of_ble_eq_true rfl) (Nat.le_of_ble_eq_true rfl) h
  · refine j_aload_n (pc := 8) C 0 dX8_move_8 rfl ?_
    refine j_iload_n (pc := 9) C 2 dX8_move_9 rfl ?_
    refine j_aload_n (pc := 10) C 0 dX8_move_10 rfl ?_
    refine cs_X8_273 (pc := 11) C ⟨Nat.le_of_ble_eq_true rfl, Nat.le_of_ble_eq_true rfl⟩ ⟨Nat.le_of_ble_eq_true rfl, Nat.le_of_ble_eq_true rfl⟩ (Nat.le_of_ble_eq_true rfl) dX8_move_11 h (fun r2 M2 h => ?_)
    refine cs_X8_249 (pc := 14) C ⟨Nat.le_of_ble_eq_true rfl, Nat.le_of_ble_eq_true rfl⟩ ⟨Nat.le_of_ble_eq_true rfl, Nat.le_of_ble_eq_true rfl⟩ (Nat.le_of_ble_eq_true rfl) dX8_move_14 h (fun r3 M3 h => ?_)
    refine j_if_eq (pc := 17) C 22 dX8_move_17 (by decide) h (fun h => ?_) (fun h => ?_)
    · refine j_aload_n (pc := 22) C 0 dX8_move_22 rfl ?_
      refine j_aload_n (pc := 23) C 0 dX8_move_23 rfl ?_
      refine gf_X8_13 (pc := 24) C dX8_move_24 h (fun a4 h => ?_)
      refine j_aload_n (pc := 27) C 0 dX8_move_27 rfl ?_
      refine gf_X8_43 (pc := 28) C dX8_move_28 h (fun a5 h => ?_)
      refine cs_X8_311 (pc := 31) C ⟨Nat.le_of_ble_eq_true rfl, Nat.le_of_ble_eq_true rfl⟩ ⟨Nat.le_of_ble_eq_true rfl, Nat.le_of_ble_eq_true rfl⟩ (Nat.le_of_ble_eq_true rfl) dX8_move_31 h (fun M6 h => ?_)
      refine j_aload_n (pc := 34) C 0 dX8_move_34 rfl ?_
      refine j_iload_n (pc := 35) C 1 dX8_move_35 rfl ?_
      refine j_iload_n (pc := 36) C 2 dX8_move_36 rfl ?_
      refine cs_X8_315 (pc := 37) C ⟨Nat.le_of_ble_eq_true rfl, Nat.le_of_ble_eq_true rfl⟩ ⟨Nat.le_of_ble_eq_true rfl, Nat.le_of_ble_eq_true rfl⟩ (Nat.le_of_ble_eq_true rfl) dX8_move_37 h (fun r7 M7 h => ?_)
      refine j_istore_n (pc := 40) C [(3, _), (0, _), (1, _), (2, _)] dX8_move_40 (by decide) rfl ?_
      refine j_aload_n (pc := 41) C 1 dX8_move_41 rfl ?_
      refine j_aload_n (pc := 42) C 1 dX8_move_42 rfl ?_
      refine gf_X8_43 (pc := 43) C dX8_move_43 h (fun a8 h => ?_)
      refine j_aload_n (pc := 46) C 1 dX8_move_46 rfl ?_
      refine gf_X8_13 (pc := 47) C dX8_move_47 h (fun a9 h => ?_)
      refine cs_X8_311 (pc := 50) C ⟨Nat.le_of_ble_eq_true rfl, Nat.le_of_ble_eq_true rfl⟩ ⟨Nat.le_of_ble_eq_true rfl, Nat.le_of_ble_eq_true rfl⟩ (Nat.le_of_ble_eq_true rfl) dX8_move_50 h (fun M10 h => ?_)
      refine j_aload_n (pc := 53) C 1 dX8_move_53 rfl ?_
      refine j_iload_n (pc := 54) C 0 dX8_move_54 rfl ?_
      refine j_if_eq (pc := 55) C 62 dX8_move_55 (by decide) h (fun h => ?_) (fun h => ?_)
      · refine j_iconst (pc := 62) (v := (0 : Int32)) C dX8_move_62 rfl ?_
        refine j_iconst (pc := 63) (v := (2 : Int32)) C dX8_move_63 rfl ?_
        refine cs_X8_176 (pc := 64) C ⟨Nat.le_of_ble_eq_true rfl, Nat.le_of_ble_eq_true rfl⟩ ⟨Nat.le_of_ble_eq_true rfl, Nat.le_of_ble_eq_true rfl⟩ (Nat.le_of_ble_eq_true rfl) dX8_move_64 h (fun r11 M11 h => ?_)
        refine j_if_eq (pc := 67) C 72 dX8_move_67 (by decide) h (fun h => ?_) (fun h => ?_)
        · refine j_aload_n (pc := 72) C 1 dX8_move_72 rfl ?_
          refine cs_X8_324 (pc := 73) C ⟨Nat.le_of_ble_eq_true rfl, Nat.le_of_ble_eq_true rfl⟩ ⟨Nat.le_of_ble_eq_true rfl, Nat.le_of_ble_eq_true rfl⟩ (Nat.le_of_ble_eq_true rfl) dX8_move_73 h (fun M12 h => ?_)
          refine j_aload_n (pc := 76) C 1 dX8_move_76 rfl ?_
          refine j_iload_n (pc := 77) C 2 dX8_move_77 rfl ?_
          refine j_iload_n (pc := 78) C 3 dX8_move_78 rfl ?_
          refine cs_X8_315 (pc := 79) C ⟨Nat.le_of_ble_eq_true rfl, Nat.le_of_ble_eq_true rfl⟩ ⟨Nat.le_of_ble_eq_true rfl, Nat.le_of_ble_eq_true rfl⟩ (Nat.le_of_ble_eq_true rfl) dX8_move_79 h (fun r13 M13 h => ?_)
          refine j_istore (pc := 82) C [(4, _), (3, _), (0, _), (1, _), (2, _)] dX8_move_82 (by decide) rfl ?_
          refine j_aload_n (pc := 84) C 2 dX8_move_84 rfl ?_
          refine gf_X8_305 (pc := 85) C dX8_move_85 h (fun h => ?_)
          exact j_iret (pc := 88) C dX8_move_88 (Nat.le_of_ble_eq_true rfl) (Nat.le_of_ble_eq_true rfl) h
        · refine j_iconst (pc := 70) (v := (0 : Int32)) C dX8_move_70 rfl ?_
          exact j_iret (pc := 71) C dX8_move_71 (Nat.le_of_ble_eq_true rfl) (Nat.le_of_ble_eq_true rfl) h
      · refine j_iconst (pc := 58) (v := (1 : Int32)) C dX8_move_58 rfl ?_
        refine j_goto (pc := 59) C 63 dX8_move_59 (by decide) ?_
        refine j_iconst (pc := 63) (v := (2 : Int32)) C dX8_move_63 rfl ?_
        refine cs_X8_176 (pc := 64) C ⟨Nat.le_of_ble_eq_true rfl, Nat.le_of_ble_eq_true rfl⟩ ⟨Nat.le_of_ble_eq_true rfl, Nat.le_of_ble_eq_true rfl⟩ (Nat.le_of_ble_eq_true rfl) dX8_move_64 h (fun r14 M14 h => ?_)
        refine j_if_eq (pc := 67) C 72 dX8_move_67 (by decide) h (fun h => ?_) (fun h => ?_)
        · refine j_aload_n (pc := 72) C 1 dX8_move_72 rfl ?_
          refine cs_X8_324 (pc := 73) C ⟨Nat.le_of_ble_eq_true rfl, Nat.le_of_ble_eq_true rfl⟩ ⟨Nat.le_of_ble_eq_true rfl, Nat.le_of_ble_eq_true rfl⟩ (Nat.le_of_ble_eq_true rfl) dX8_move_73 h (fun M15 h => ?_)
          refine j_aload_n (pc := 76) C 1 dX8_move_76 rfl ?_
          refine j_iload_n (pc := 77) C 2 dX8_move_77 rfl ?_
          refine j_iload_n (pc := 78) C 3 dX8_move_78 rfl ?_
          refine cs_X8_315 (pc := 79) C ⟨Nat.le_of_ble_eq_true rfl, Nat.le_of_ble_eq_true rfl⟩ ⟨Nat.le_of_ble_eq_true rfl, Nat.le_of_ble_eq_true rfl⟩ (Nat.le_of_ble_eq_true rfl) dX8_move_79 h (fun r16 M16 h => ?_)
          refine j_istore (pc := 82) C [(4, _), (3, _), (0, _), (1, _), (2, _)] dX8_move_82 (by decide) rfl ?_
          refine j_aload_n (pc := 84) C 2 dX8_move_84 rfl ?_
          refine gf_X8_305 (pc := 85) C dX8_move_85 h (fun h => ?_)
          exact j_iret (pc := 88) C dX8_move_88 (Nat.le_of_ble_eq_true rfl) (Nat.le_of_ble_eq_true rfl) h
        · refine j_iconst (pc := 70) (v := (0 : Int32)) C dX8_move_70 rfl ?_
          exact j_iret (pc := 71) C dX8_move_71 (Nat.le_of_ble_eq_true rfl) (Nat.le_of_ble_eq_true rfl) h
    · refine j_iconst (pc := 20) (v := (0 : Int32)) C dX8_move_20 rfl ?_
      exact j_iret (pc := 21) C dX8_move_21 (Nat.le_of_ble_eq_true rfl) (Nat.le_of_ble_eq_true rfl) h
abbrev rm_X8_recast : Room := { frames := 13, cells := 0, slots := 0, locals := 332 }
def w_X8_recast (M : Mm) (x0 : Nat) (x1 : Int32) (P : Int32 → Mm → Prop) : Prop := zk M x0 = 8 ∧ w_X8_noService M x0 x1 (fun r1 M1 => (if r1 = 0 then zk M1 x0 = 8 ∧ w_X8_keeps M1 x0 (fun M2 => zk M2 x0 = 8 ∧ w_X8_of M2 x0 x1 (1 : Int32) (fun r3 M3 => zk M3 x0 = 8 ∧ w_X8_of M3 x0 x1 (0 : Int32) (fun r4 M4 => zk M4 x0 = 8 ∧ w_X8_of M4 x0 x1 (3 : Int32) (fun r5 M5 => zk M5 x0 = 8 ∧ w_X8_of M5 x0 x1 (2 : Int32) (fun r6 M6 => zk M6 x0 = 8 ∧ w_X8_takesOff M6 x0 x1 (fun M7 => zk M7 x0 = 8 ∧ w_X8_comes M7 x0 r3 r4 r5 r6 (fun r8 M8 => zk M8 x0 = 8 ∧ w_X8_doublingsIn M8 x0 r8 (-1 : Int32) (fun r9 M9 => P r9 M9)))))))) else P (0 : Int32) M1))
set_option maxHeartbeats 4000000 in
set_option maxRecDepth 100000 in
theorem c_X8_recast (l : Launch) (E : EV) (M : Mm) (x0 : Nat) (x1 : Int32) (P : Int32 → Mm → Prop) (h : w_X8_recast M x0 x1 P) : CtI l E yX8_recast cX8_recast 6 .int rm_X8_recast 0 0 [.ref x0, .int x1] M P := by
  refine ctI_of (by decide +kernel) (Nat.le_of_ble_eq_true rfl) ?_
  intro p e s m args below meth c C
  rw [w_X8_recast] at h
  show J p l e rm_X8_recast s m args below meth c (QI below E P args s 0 0) E 6 M 0 0 0 [(0, .ref x0), (1, .int x1)] []
  refine j_aload_n (pc := 0) C 0 dX8_recast_0 rfl ?_
  refine j_iload_n (pc := 1) C 1 dX8_recast_1 rfl ?_
  refine cs_X8_282 (pc := 2) C ⟨Nat.le_of_ble_eq_true rfl, Nat.le_of_ble_eq_true rfl⟩ ⟨Nat.le_of_ble_eq_true rfl, Nat.le_of_ble_eq_true rfl⟩ (Nat.le_of_ble_eq_true rfl) dX8_recast_2 h (fun r1 M1 h => ?_)
  refine j_if_eq (pc := 5) C 10 dX8_recast_5 (by decide) h (fun h => ?_) (fun h => ?_)
  · refine j_aload_n (pc := 10) C 0 dX8_recast_10 rfl ?_
    refine cs_X8_324 (pc := 11) C ⟨Nat.le_of_ble_eq_true rfl, Nat.le_of_ble_eq_true rfl⟩ ⟨Nat.le_of_ble_eq_true rfl, Nat.le_of_ble_eq_true rfl⟩ (Nat.le_of_ble_eq_true rfl) dX8_recast_11 h (fun M2 h => ?_)
    refine j_aload_n (pc := 14) C 0 dX8_recast_14 rfl ?_
    refine j_iload_n (pc := 15) C 1 dX8_recast_15 rfl ?_
    refine j_iconst (pc := 16) (v := (1 : Int32)) C dX8_recast_16 rfl ?_
    refine cs_X8_198 (pc := 17) C ⟨Nat.le_of_ble_eq_true rfl, Nat.le_of_ble_eq_true rfl⟩ ⟨Nat.le_of_ble_eq_true rfl, Nat.le_of_ble_eq_true rfl⟩ (Nat.le_of_ble_eq_true rfl) dX8_recast_17 h (fun r3 M3 h => ?_)
    refine j_istore_n (pc := 20) C [(2, _), (0, _), (1, _)] dX8_recast_20 (by decide) rfl ?_
    refine j_aload_n (pc := 21) C 1 dX8_recast_21 rfl ?_
    refine j_iload_n (pc := 22) C 2 dX8_recast_22 rfl ?_
    refine j_iconst (pc := 23) (v := (0 : Int32)) C dX8_recast_23 rfl ?_
    refine cs_X8_198 (pc := 24) C ⟨Nat.le_of_ble_eq_true rfl, Nat.le_of_ble_eq_true rfl⟩ ⟨Nat.le_of_ble_eq_true rfl, Nat.le_of_ble_eq_true rfl⟩ (Nat.le_of_ble_eq_true rfl) dX8_recast_24 h (fun r4 M4 h => ?_)
    refine j_istore_n (pc := 27) C [(3, _), (2, _), (0, _), (1, _)] dX8_recast_27 (by decide) rfl ?_
    refine j_aload_n (pc := 28) C 2 dX8_recast_28 rfl ?_
    refine j_iload_n (pc := 29) C 3 dX8_recast_29 rfl ?_
    refine j_iconst (pc := 30) (v := (3 : Int32)) C dX8_recast_30 rfl ?_
    refine cs_X8_198 (pc := 31) C ⟨Nat.le_of_ble_eq_true rfl, Nat.le_of_ble_eq_true rfl⟩ ⟨Nat.le_of_ble_eq_true rfl, Nat.le_of_ble_eq_true rfl⟩ (Nat.le_of_ble_eq_true rfl) dX8_recast_31 h (fun r5 M5 h => ?_)
    refine j_istore (pc := 34) C [(4, _), (3, _), (2, _), (0, _), (1, _)] dX8_recast_34 (by decide) rfl ?_
    refine j_aload_n (pc := 36) C 3 dX8_recast_36 rfl ?_
    refine j_iload_n (pc := 37) C 4 dX8_recast_37 rfl ?_
    refine j_iconst (pc := 38) (v := (2 : Int32)) C dX8_recast_38 rfl ?_
    refine cs_X8_198 (pc := 39) C ⟨Nat.le_of_ble_eq_true rfl, Nat.le_of_ble_eq_true rfl⟩ ⟨Nat.le_of_ble_eq_true rfl, Nat.le_of_ble_eq_true rfl⟩ (Nat.le_of_ble_eq_true rfl) dX8_recast_39 h (fun r6 M6 h => ?_)
    refine j_istore (pc := 42) C [(5, _), (4, _), (3, _), (2, _), (0, _), (1, _)] dX8_recast_42 (by decide) rfl ?_
    refine j_aload_n (pc := 44) C 4 dX8_recast_44 rfl ?_
    refine j_iload_n (pc := 45) C 5 dX8_recast_45 rfl ?_
    refine cs_X8_298 (pc := 46) C ⟨Nat.le_of_ble_eq_true rfl, Nat.le_of_ble_eq_true rfl⟩ ⟨Nat.le_of_ble_eq_true rfl, Nat.le_of_ble_eq_true rfl⟩ (Nat.le_of_ble_eq_true rfl) dX8_recast_46 h (fun M7 h => ?_)
    refine j_aload_n (pc := 49) C 4 dX8_recast_49 rfl ?_
    refine j_aload_n (pc := 50) C 4 dX8_recast_50 rfl ?_
    refine j_iload_n (pc := 51) C 3 dX8_recast_51 rfl ?_
    refine j_iload_n (pc := 52) C 2 dX8_recast_52 rfl ?_
    refine j_iload (pc := 53) C 1 dX8_recast_53 rfl ?_
    refine j_iload (pc := 55) C 0 dX8_recast_55 rfl ?_
    refine cs_X8_301 (pc := 57) C ⟨Nat.le_of_ble_eq_true rfl, Nat.le_of_ble_eq_true rfl⟩ ⟨Nat.le_of_ble_eq_true rfl, Nat.le_of_ble_eq_true rfl⟩ (Nat.le_of_ble_eq_true rfl) dX8_recast_57 h (fun r8 M8 h => ?_)
    refine j_iconst (pc := 60) (v := (-1 : Int32)) C dX8_recast_60 rfl ?_
    refine cs_X8_252 (pc := 61) C ⟨Nat.le_of_ble_eq_true rfl, Nat.le_of_ble_eq_true rfl⟩ ⟨Nat.le_of_ble_eq_true rfl, Nat.le_of_ble_eq_true rfl⟩ (Nat.le_of_ble_eq_true rfl) dX8_recast_61 h (fun r9 M9 h => ?_)
    exact j_iret (pc := 64) C dX8_recast_64 (Nat.le_of_ble_eq_true rfl) (Nat.le_of_ble_eq_true rfl) h
  · refine j_iconst (pc := 8) (v := (0 : Int32)) C dX8_recast_8 rfl ?_
    exact j_iret (pc := 9) C dX8_recast_9 (Nat.le_of_ble_eq_true rfl) (Nat.le_of_ble_eq_true rfl) h
abbrev rm_X8_setContract : Room := { frames := 2, cells := 0, slots := 0, locals := 45 }
def w_X8_setContract (M : Mm) (x0 : Nat) (x1 : Int32) (x2 : Int32) (P : Int32 → Mm → Prop) : Prop := zk M x0 = 8 ∧ (∀ M1, M1 = sI M x0 0 (0 : Int32) → (zk M1 x0 = 8 ∧ ∃ a2, zR M1 x0 1 = some a2 ∧ zk M1 a2 = 10 ∧ vp_in (2 : Int32) (zl M1 a2) ∧ zk M1 x0 = 8 ∧ w_X8_no M1 x0 x1 (zI M1 a2 (2 : Int32).toNatClampNeg) (fun r3 M3 => (if r3 = 0 then w_X8_within M3 x2 (0 : Int32) (40 : Int32) (fun r4 M4 => (if r4 = 0 then zk M4 x0 = 8 ∧ w_X8_throwsIf M4 x0 (1 : Int32) (2 : Int32) (fun r10 M10 => (if r10 = 0 then zk M10 x0 = 8 ∧ w_X8_keeps M10 x0 (fun M11 => (zk M11 x0 = 8 ∧ ∃ a12, zR M11 x0 2 = some a12 ∧ zk M11 a12 = 10 ∧ vp_in ((1 : Int32) + x1) (zl M11 a12) ∧ (zk M11 x0 = 8 ∧ ∃ a13, zR M11 x0 2 = some a13 ∧ zk M11 a13 = 10 ∧ vp_in ((1 : Int32) + x1) (zl M11 a13) ∧ (∀ M14, M14 = sI M11 a13 ((1 : Int32) + x1).toNatClampNeg x2 → P (zI M11 a12 ((1 : Int32) + x1).toNatClampNeg) M14)))) else P (0 : Int32) M10)) else zk M4 x0 = 8 ∧ w_X8_throwsIf M4 x0 (0 : Int32) (2 : Int32) (fun r5 M5 => (if r5 = 0 then zk M5 x0 = 8 ∧ w_X8_keeps M5 x0 (fun M6 => (zk M6 x0 = 8 ∧ ∃ a7, zR M6 x0 2 = some a7 ∧ zk M6 a7 = 10 ∧ vp_in ((1 : Int32) + x1) (zl M6 a7) ∧ (zk M6 x0 = 8 ∧ ∃ a8, zR M6 x0 2 = some a8 ∧ zk M6 a8 = 10 ∧ vp_in ((1 : Int32) + x1) (zl M6 a8) ∧ (∀ M9, M9 = sI M6 a8 ((1 : Int32) + x1).toNatClampNeg x2 → P (zI M6 a7 ((1 : Int32) + x1).toNatClampNeg) M9)))) else P (0 : Int32) M5)))) else P (0 : Int32) M3))))
set_option maxHeartbeats 4000000 in
set_option maxRecDepth 100000 in
theorem c_X8_setContract (l : Launch) (E : EV) (M : Mm) (x0 : Nat) (x1 : Int32) (x2 : Int32) (P : Int32 → Mm → Prop) (h : w_X8_setContract M x0 x1 x2 P) : CtI l E yX8_setContract cX8_setContract 4 .int rm_X8_setContract 0 0 [.ref x0, .int x1, .int x2] M P := by
  refine ctI_of (by decide +kernel) (Nat.le_of_ble_eq_true rfl) ?_
  intro p e s m args below meth c C
  rw [w_X8_setContract] at h
  show J p l e rm_X8_setContract s m args below meth c (QI below E P args s 0 0) E 4 M 0 0 0 [(0, .ref x0), (1, .int x1), (2, .int x2)] []
  refine j_aload_n (pc := 0) C 0 dX8_setContract_0 rfl ?_
  refine j_iconst (pc := 1) (v := (0 : Int32)) C dX8_setContract_1 rfl ?_
  refine pf_X8_56 (pc := 2) C dX8_setContract_2 h (fun M1 h => ?_)
  refine j_aload_n (pc := 5) C 0 dX8_setContract_5 rfl ?_
  refine j_iload_n (pc := 6) C 1 dX8_setContract_6 rfl ?_
  refine j_aload_n (pc := 7) C 0 dX8_setContract_7 rfl ?_
  refine gf_X8_7 (pc := 8) C dX8_setContract_8 h (fun a2 h => ?_)
  refine j_iconst (pc := 11) (v := (2 : Int32)) C dX8_setContract_11 rfl ?_
  refine j_iald (pc := 12) C dX8_setContract_12 h (fun h => ?_)
  refine cs_X8_249 (pc := 13) C ⟨Nat.le_of_ble_eq_true rfl, Nat.le_of_ble_eq_true rfl⟩ ⟨Nat.le_of_ble_eq_true rfl, Nat.le_of_ble_eq_true rfl⟩ (Nat.le_of_ble_eq_true rfl) dX8_setContract_13 h (fun r3 M3 h => ?_)
  refine j_if_ne (pc := 16) C 42 dX8_setContract_16 (by decide) h (fun h => ?_) (fun h => ?_)
  · refine j_iconst (pc := 42) (v := (0 : Int32)) C dX8_setContract_42 rfl ?_
    exact j_iret (pc := 43) C dX8_setContract_43 (Nat.le_of_ble_eq_true rfl) (Nat.le_of_ble_eq_true rfl) h
  · refine j_aload_n (pc := 19) C 0 dX8_setContract_19 rfl ?_
    refine j_iload_n (pc := 20) C 2 dX8_setContract_20 rfl ?_
    refine j_iconst (pc := 21) (v := (0 : Int32)) C dX8_setContract_21 rfl ?_
    refine j_bipush (pc := 22) (v := (40 : Int32)) C dX8_setContract_22 rfl ?_
    refine cs_X8_80 (pc := 24) C ⟨Nat.le_of_ble_eq_true rfl, Nat.le_of_ble_eq_true rfl⟩ ⟨Nat.le_of_ble_eq_true rfl, Nat.le_of_ble_eq_true rfl⟩ (Nat.le_of_ble_eq_true rfl) dX8_setContract_24 h (fun r4 M4 h => ?_)
    refine j_if_ne (pc := 27) C 34 dX8_setContract_27 (by decide) h (fun h => ?_) (fun h => ?_)
    · refine j_iconst (pc := 34) (v := (0 : Int32)) C dX8_setContract_34 rfl ?_
      refine j_iconst (pc := 35) (v := (2 : Int32)) C dX8_setContract_35 rfl ?_
      refine cs_X8_176 (pc := 36) C ⟨Nat.le_of_ble_eq_true rfl, Nat.le_of_ble_eq_true rfl⟩ ⟨Nat.le_of_ble_eq_true rfl, Nat.le_of_ble_eq_true rfl⟩ (Nat.le_of_ble_eq_true rfl) dX8_setContract_36 h (fun r5 M5 h => ?_)
      refine j_if_eq (pc := 39) C 44 dX8_setContract_39 (by decide) h (fun h => ?_) (fun h => ?_)
      · refine j_aload_n (pc := 44) C 0 dX8_setContract_44 rfl ?_
        refine cs_X8_324 (pc := 45) C ⟨Nat.le_of_ble_eq_true rfl, Nat.le_of_ble_eq_true rfl⟩ ⟨Nat.le_of_ble_eq_true rfl, Nat.le_of_ble_eq_true rfl⟩ (Nat.le_of_ble_eq_true rfl) dX8_setContract_45 h (fun M6 h => ?_)
        refine j_aload_n (pc := 48) C 0 dX8_setContract_48 rfl ?_
        refine gf_X8_13 (pc := 49) C dX8_setContract_49 h (fun a7 h => ?_)
        refine j_iconst (pc := 52) (v := (1 : Int32)) C dX8_setContract_52 rfl ?_
        refine j_iload_n (pc := 53) C 1 dX8_setContract_53 rfl ?_
        refine j_iadd (pc := 54) C dX8_setContract_54 ?_
        refine j_iald (pc := 55) C dX8_setContract_55 h (fun h => ?_)
        refine j_istore_n (pc := 56) C [(3, _), (0, _), (1, _), (2, _)] dX8_setContract_56 (by decide) rfl ?_
        refine j_aload_n (pc := 57) C 1 dX8_setContract_57 rfl ?_
        refine gf_X8_13 (pc := 58) C dX8_setContract_58 h (fun a8 h => ?_)
        refine j_iconst (pc := 61) (v := (1 : Int32)) C dX8_setContract_61 rfl ?_
        refine j_iload_n (pc := 62) C 2 dX8_setContract_62 rfl ?_
        refine j_iadd (pc := 63) C dX8_setContract_63 ?_
        refine j_iload_n (pc := 64) C 3 dX8_setContract_64 rfl ?_
        refine n_iast (pc := 65) C dX8_setContract_65 h (fun M9 h => ?_)
        refine j_iload_n (pc := 66) C 0 dX8_setContract_66 rfl ?_
        exact j_iret (pc := 67) C dX8_setContract_67 (Nat.le_of_ble_eq_true rfl) (Nat.le_of_ble_eq_true rfl) h
      · refine j_iconst (pc := 42) (v := (0 : Int32)) C dX8_setContract_42 rfl ?_
        exact j_iret (pc := 43) C dX8_setContract_43 (Nat.le_of_ble_eq_true rfl) (Nat.le_of_ble_eq_true rfl) h
    · refine j_iconst (pc := 30) (v := (1 : Int32)) C dX8_setContract_30 rfl ?_
      refine j_goto (pc := 31) C 35 dX8_setContract_31 (by decide) ?_
      refine j_iconst (pc := 35) (v := (2 : Int32)) C dX8_setContract_35 rfl ?_
      refine cs_X8_176 (pc := 36) C ⟨Nat.le_of_ble_eq_true rfl, Nat.le_of_ble_eq_true rfl⟩ ⟨Nat.le_of_ble_eq_true rfl, Nat.le_of_ble_eq_true rfl⟩ (Nat.le_of_ble_eq_true rfl) dX8_setContract_36 h (fun r10 M10 h => ?_)
      refine j_if_eq (pc := 39) C 44 dX8_setContract_39 (by decide) h (fun h => ?_) (fun h => ?_)
      · refine j_aload_n (pc := 44) C 0 dX8_setContract_44 rfl ?_
        refine cs_X8_324 (pc := 45) C ⟨Nat.le_of_ble_eq_true rfl, Nat.le_of_ble_eq_true rfl⟩ ⟨Nat.le_of_ble_eq_true rfl, Nat.le_of_ble_eq_true rfl⟩ (Nat.le_of_ble_eq_true rfl) dX8_setContract_45 h (fun M11 h => ?_)
        refine j_aload_n (pc := 48) C 0 dX8_setContract_48 rfl ?_
        refine gf_X8_13 (pc := 49) C dX8_setContract_49 h (fun a12 h => ?_)
        refine j_iconst (pc := 52) (v := (1 : Int32)) C dX8_setContract_52 rfl ?_
        refine j_iload_n (pc := 53) C 1 dX8_setContract_53 rfl ?_
        refine j_iadd (pc := 54) C dX8_setContract_54 ?_
        refine j_iald (pc := 55) C dX8_setContract_55 h (fun h => ?_)
        refine j_istore_n (pc := 56) C [(3, _), (0, _), (1, _), (2, _)] dX8_setContract_56 (by decide) rfl ?_
        refine j_aload_n (pc := 57) C 1 dX8_setContract_57 rfl ?_
        refine gf_X8_13 (pc := 58) C dX8_setContract_58 h (fun a13 h => ?_)
        refine j_iconst (pc := 61) (v := (1 : Int32)) C dX8_setContract_61 rfl ?_
        refine j_iload_n (pc := 62) C 2 dX8_setContract_62 rfl ?_
        refine j_iadd (pc := 63) C dX8_setContract_63 ?_
        refine j_iload_n (pc := 64) C 3 dX8_setContract_64 rfl ?_
        refine n_iast (pc := 65) C dX8_setContract_65 h (fun M14 h => ?_)
        refine j_iload_n (pc := 66) C 0 dX8_setContract_66 rfl ?_
        exact j_iret (pc := 67) C dX8_setContract_67 (Nat.le_of_ble_eq_true rfl) (Nat.le_of_ble_eq_true rfl) h
      · refine j_iconst (pc := 42) (v := (0 : Int32)) C dX8_setContract_42 rfl ?_
        exact j_iret (pc := 43) C dX8_setContract_43 (Nat.le_of_ble_eq_true rfl) (Nat.le_of_ble_eq_true rfl) h
abbrev rm_X8_undo : Room := { frames := 1, cells := 0, slots := 0, locals := 24 }
def w_X8_undo (M : Mm) (x0 : Nat) (P : Int32 → Mm → Prop) : Prop := zk M x0 = 8 ∧ (∀ M1, M1 = sI M x0 0 (0 : Int32) → zk M1 x0 = 8 ∧ (if (zI M1 x0 24) = 0 then P (-1 : Int32) M1 else zk M1 x0 = 8 ∧ zk M1 x0 = 8 ∧ (∀ M2, M2 = sI M1 x0 24 ((zI M1 x0 24) - (1 : Int32)) → (zk M2 x0 = 8 ∧ ∃ a3, zR M2 x0 25 = some a3 ∧ zk M2 x0 = 8 ∧ (zk M2 x0 = 8 ∧ ∃ a4, zR M2 x0 2 = some a4 ∧ w_X8_copies M2 a3 ((689 : Int32) * (zI M2 x0 24)) a4 (0 : Int32) (fun M5 => zk M5 x0 = 8 ∧ P (zI M5 x0 24) M5))))))
set_option maxHeartbeats 4000000 in
set_option maxRecDepth 100000 in
theorem c_X8_undo (l : Launch) (E : EV) (M : Mm) (x0 : Nat) (P : Int32 → Mm → Prop) (h : w_X8_undo M x0 P) : CtI l E yX8_undo cX8_undo 1 .int rm_X8_undo 0 0 [.ref x0] M P := by
  refine ctI_of (by decide +kernel) (Nat.le_of_ble_eq_true rfl) ?_
  intro p e s m args below meth c C
  rw [w_X8_undo] at h
  show J p l e rm_X8_undo s m args below meth c (QI below E P args s 0 0) E 1 M 0 0 0 [(0, .ref x0)] []
  refine j_aload_n (pc := 0) C 0 dX8_undo_0 rfl ?_
  refine j_iconst (pc := 1) (v := (0 : Int32)) C dX8_undo_1 rfl ?_
  refine pf_X8_56 (pc := 2) C dX8_undo_2 h (fun M1 h => ?_)
  refine j_aload_n (pc := 5) C 0 dX8_undo_5 rfl ?_
  refine gf_X8_191 (pc := 6) C dX8_undo_6 h (fun h => ?_)
  refine j_if_ne (pc := 9) C 14 dX8_undo_9 (by decide) h (fun h => ?_) (fun h => ?_)
  · refine j_aload_n (pc := 14) C 0 dX8_undo_14 rfl ?_
    refine j_dup (pc := 15) C dX8_undo_15 rfl ?_
    refine gf_X8_191 (pc := 16) C dX8_undo_16 h (fun h => ?_)
    refine j_iconst (pc := 19) (v := (1 : Int32)) C dX8_undo_19 rfl ?_
    refine j_isub (pc := 20) C dX8_undo_20 ?_
    refine pf_X8_191 (pc := 21) C dX8_undo_21 h (fun M2 h => ?_)
    refine j_aload_n (pc := 24) C 0 dX8_undo_24 rfl ?_
    refine gf_X8_46 (pc := 25) C dX8_undo_25 h (fun a3 h => ?_)
    refine j_sipush (pc := 28) (v := (689 : Int32)) C dX8_undo_28 rfl ?_
    refine j_aload_n (pc := 31) C 0 dX8_undo_31 rfl ?_
    refine gf_X8_191 (pc := 32) C dX8_undo_32 h (fun h => ?_)
    refine j_imul (pc := 35) C dX8_undo_35 ?_
    refine j_aload_n (pc := 36) C 0 dX8_undo_36 rfl ?_
    refine gf_X8_13 (pc := 37) C dX8_undo_37 h (fun a4 h => ?_)
    refine j_iconst (pc := 40) (v := (0 : Int32)) C dX8_undo_40 rfl ?_
    refine cs_X8_327 (pc := 41) C ⟨Nat.le_of_ble_eq_true rfl, Nat.le_of_ble_eq_true rfl⟩ ⟨Nat.le_of_ble_eq_true rfl, Nat.le_of_ble_eq_true rfl⟩ (Nat.le_of_ble_eq_true rfl) dX8_undo_41 h (fun M5 h => ?_)
    refine j_aload_n (pc := 44) C 0 dX8_undo_44 rfl ?_
    refine gf_X8_191 (pc := 45) C dX8_undo_45 h (fun h => ?_)
    exact j_iret (pc := 48) C dX8_undo_48 (Nat.le_of_ble_eq_true rfl) (Nat.le_of_ble_eq_true rfl) h
  · refine j_iconst (pc := 12) (v := (-1 : Int32)) C dX8_undo_12 rfl ?_
    exact j_iret (pc := 13) C dX8_undo_13 (Nat.le_of_ble_eq_true rfl) (Nat.le_of_ble_eq_true rfl) h
end GW25
