/-! written by a program (wip/p34/gen.py) out of the decode rows and the tables: walks of X4 -/

section GW5
variable {p : Program} {l : Launch} {e : Env} {R : Room} {s : State} {m : MethodId} {args : Array Value} {below : List Frame} {meth : Method} {c : Code} {Q : State → Prop} {cc : ByteArray} {nL : Nat} {ret : Option FieldType} {E : EV} {M : Mm} {kc ks pc : Nat} {lo : List (Nat × Value)} {st : List Value}
abbrev rm_X4_init : Room := { frames := 1, cells := 6, slots := 688, locals := 20 }
def w_X4_init (M : Mm) (x0 : Nat) (P : Mm → Prop) : Prop := ¬ (20 : Int32) < 0 ∧ (20 : Int32).toNatClampNeg ≤ 20 ∧ (∀ a1 M1, a1 = zn M → M1 = sN M 10 (20 : Int32).toNatClampNeg → zk M1 x0 = 4 ∧ (∀ M2, M2 = sR M1 x0 1 (some a1) → ¬ (20 : Int32) < 0 ∧ (20 : Int32).toNatClampNeg ≤ 20 ∧ (∀ a3 M3, a3 = zn M2 → M3 = sN M2 10 (20 : Int32).toNatClampNeg → zk M3 x0 = 4 ∧ (∀ M4, M4 = sR M3 x0 2 (some a3) → ¬ (20 : Int32) < 0 ∧ (20 : Int32).toNatClampNeg ≤ 20 ∧ (∀ a5 M5, a5 = zn M4 → M5 = sN M4 10 (20 : Int32).toNatClampNeg → zk M5 x0 = 4 ∧ (∀ M6, M6 = sR M5 x0 3 (some a5) → ¬ (20 : Int32) < 0 ∧ (20 : Int32).toNatClampNeg ≤ 20 ∧ (∀ a7 M7, a7 = zn M6 → M7 = sN M6 10 (20 : Int32).toNatClampNeg → zk M7 x0 = 4 ∧ (∀ M8, M8 = sR M7 x0 4 (some a7) → ¬ (600 : Int32) < 0 ∧ (600 : Int32).toNatClampNeg ≤ 600 ∧ (∀ a9 M9, a9 = zn M8 → M9 = sN M8 10 (600 : Int32).toNatClampNeg → zk M9 x0 = 4 ∧ (∀ M10, M10 = sR M9 x0 5 (some a9) → ¬ (8 : Int32) < 0 ∧ (8 : Int32).toNatClampNeg ≤ 8 ∧ (∀ a11 M11, a11 = zn M10 → M11 = sN M10 10 (8 : Int32).toNatClampNeg → zk M11 x0 = 4 ∧ (∀ M12, M12 = sR M11 x0 6 (some a11) → P M12))))))))))))
set_option maxHeartbeats 4000000 in
set_option maxRecDepth 100000 in
theorem c_X4_init (l : Launch) (E : EV) (M : Mm) (x0 : Nat) (P : Mm → Prop) (h : w_X4_init M x0 P) : CtV l E yX4_init cX4_init 1 rm_X4_init 6 688 [.ref x0] M P := by
  refine ctV_of (by decide +kernel) (Nat.le_of_ble_eq_true rfl) ?_
  intro p e s m args below meth c C hnm
  rw [w_X4_init] at h
  show J p l e rm_X4_init s m args below meth c (QV below E P args s 6 688) E 1 M 0 0 0 [(0, .ref x0)] []
  refine j_aload_n (pc := 0) C 0 dX4_init_0 rfl ?_
  refine j_objInit (pc := 1) C wd_98 wd_72 wd_73 dX4_init_1 (Nat.le_of_ble_eq_true rfl) (Nat.le_of_ble_eq_true rfl) ?_
  refine j_aload_n (pc := 4) C 0 dX4_init_4 rfl ?_
  refine j_bipush (pc := 5) (v := (20 : Int32)) C dX4_init_5 rfl ?_
  refine n_newi (pc := 7) C 20 wd_92 dX4_init_7 (Nat.le_of_ble_eq_true rfl) (Nat.le_of_ble_eq_true rfl) (Nat.le_of_ble_eq_true rfl) h (fun a1 M1 h => ?_)
  refine pf_X4_9 (pc := 9) C hnm dX4_init_9 h (fun M2 h => ?_)
  refine j_aload_n (pc := 12) C 0 dX4_init_12 rfl ?_
  refine j_bipush (pc := 13) (v := (20 : Int32)) C dX4_init_13 rfl ?_
  refine n_newi (pc := 15) C 20 wd_92 dX4_init_15 (Nat.le_of_ble_eq_true rfl) (Nat.le_of_ble_eq_true rfl) (Nat.le_of_ble_eq_true rfl) h (fun a3 M3 h => ?_)
  refine pf_X4_15 (pc := 17) C hnm dX4_init_17 h (fun M4 h => ?_)
  refine j_aload_n (pc := 20) C 0 dX4_init_20 rfl ?_
  refine j_bipush (pc := 21) (v := (20 : Int32)) C dX4_init_21 rfl ?_
  refine n_newi (pc := 23) C 20 wd_92 dX4_init_23 (Nat.le_of_ble_eq_true rfl) (Nat.le_of_ble_eq_true rfl) (Nat.le_of_ble_eq_true rfl) h (fun a5 M5 h => ?_)
  refine pf_X4_18 (pc := 25) C hnm dX4_init_25 h (fun M6 h => ?_)
  refine j_aload_n (pc := 28) C 0 dX4_init_28 rfl ?_
  refine j_bipush (pc := 29) (v := (20 : Int32)) C dX4_init_29 rfl ?_
  refine n_newi (pc := 31) C 20 wd_92 dX4_init_31 (Nat.le_of_ble_eq_true rfl) (Nat.le_of_ble_eq_true rfl) (Nat.le_of_ble_eq_true rfl) h (fun a7 M7 h => ?_)
  refine pf_X4_21 (pc := 33) C hnm dX4_init_33 h (fun M8 h => ?_)
  refine j_aload_n (pc := 36) C 0 dX4_init_36 rfl ?_
  refine j_sipush (pc := 37) (v := (600 : Int32)) C dX4_init_37 rfl ?_
  refine n_newi (pc := 40) C 600 wd_92 dX4_init_40 (Nat.le_of_ble_eq_true rfl) (Nat.le_of_ble_eq_true rfl) (Nat.le_of_ble_eq_true rfl) h (fun a9 M9 h => ?_)
  refine pf_X4_24 (pc := 42) C hnm dX4_init_42 h (fun M10 h => ?_)
  refine j_aload_n (pc := 45) C 0 dX4_init_45 rfl ?_
  refine j_bipush (pc := 46) (v := (8 : Int32)) C dX4_init_46 rfl ?_
  refine n_newi (pc := 48) C 8 wd_92 dX4_init_48 (Nat.le_of_ble_eq_true rfl) (Nat.le_of_ble_eq_true rfl) (Nat.le_of_ble_eq_true rfl) h (fun a11 M11 h => ?_)
  refine pf_X4_27 (pc := 50) C hnm dX4_init_50 h (fun M12 h => ?_)
  exact j_vret (pc := 53) C dX4_init_53 (Nat.le_of_ble_eq_true rfl) (Nat.le_of_ble_eq_true rfl) h
abbrev rm_X4_begin : Room := { frames := 1, cells := 0, slots := 0, locals := 60 }
def w_X4_begin (M : Mm) (x0 : Nat) (x1 : Nat) (P : Mm → Prop) : Prop := zk M x0 = 4 ∧ (∀ M1, M1 = sI M x0 0 (0 : Int32) → (zk M1 x0 = 4 ∧ ∃ a2, zR M1 x0 6 = some a2 ∧ zk M1 x1 = 10 ∧ zk M1 a2 = 10 ∧ ¬ (0 : Int32) < 0 ∧ ¬ (0 : Int32) < 0 ∧ ¬ (8 : Int32) < 0 ∧ (0 : Int32).toNatClampNeg + (8 : Int32).toNatClampNeg ≤ zl M1 x1 ∧ (0 : Int32).toNatClampNeg + (8 : Int32).toNatClampNeg ≤ zl M1 a2 ∧ (∀ M3, M3 = sC M1 x1 (0 : Int32).toNatClampNeg a2 (0 : Int32).toNatClampNeg (8 : Int32).toNatClampNeg → P M3)))
set_option maxHeartbeats 4000000 in
set_option maxRecDepth 100000 in
theorem c_X4_begin (l : Launch) (E : EV) (M : Mm) (x0 : Nat) (x1 : Nat) (P : Mm → Prop) (h : w_X4_begin M x0 x1 P) : CtV l E yX4_begin cX4_begin 2 rm_X4_begin 0 0 [.ref x0, .ref x1] M P := by
  refine ctV_of (by decide +kernel) (Nat.le_of_ble_eq_true rfl) ?_
  intro p e s m args below meth c C hnm
  rw [w_X4_begin] at h
  show J p l e rm_X4_begin s m args below meth c (QV below E P args s 0 0) E 2 M 0 0 0 [(0, .ref x0), (1, .ref x1)] []
  refine j_aload_n (pc := 0) C 0 dX4_begin_0 rfl ?_
  refine j_iconst (pc := 1) (v := (0 : Int32)) C dX4_begin_1 rfl ?_
  refine pf_X4_30 (pc := 2) C dX4_begin_2 h (fun M1 h => ?_)
  refine j_aload_n (pc := 5) C 1 dX4_begin_5 rfl ?_
  refine j_iconst (pc := 6) (v := (0 : Int32)) C dX4_begin_6 rfl ?_
  refine j_aload_n (pc := 7) C 0 dX4_begin_7 rfl ?_
  refine gf_X4_27 (pc := 8) C dX4_begin_8 h (fun a2 h => ?_)
  refine j_iconst (pc := 11) (v := (0 : Int32)) C dX4_begin_11 rfl ?_
  refine j_bipush (pc := 12) (v := (8 : Int32)) C dX4_begin_12 rfl ?_
  refine n_copyi (pc := 14) C wd_934 wd_461 wd_460 wd_53 dX4_begin_14 (Nat.le_of_ble_eq_true rfl) (Nat.le_of_ble_eq_true rfl) h (fun M3 h => ?_)
  exact j_vret (pc := 17) C dX4_begin_17 (Nat.le_of_ble_eq_true rfl) (Nat.le_of_ble_eq_true rfl) h
abbrev rm_X4_copyServices : Room := { frames := 1, cells := 0, slots := 0, locals := 60 }
def w_X4_copyServices (M : Mm) (x0 : Nat) (x1 : Nat) (x2 : Int32) (x3 : Int32) (x4 : Int32) (P : Mm → Prop) : Prop := (zk M x1 = 4 ∧ ∃ a1, zR M x1 1 = some a1 ∧ (zk M x0 = 4 ∧ ∃ a2, zR M x0 1 = some a2 ∧ zk M a1 = 10 ∧ zk M a2 = 10 ∧ ¬ x2 < 0 ∧ ¬ x3 < 0 ∧ ¬ x4 < 0 ∧ x2.toNatClampNeg + x4.toNatClampNeg ≤ zl M a1 ∧ x3.toNatClampNeg + x4.toNatClampNeg ≤ zl M a2 ∧ (∀ M3, M3 = sC M a1 x2.toNatClampNeg a2 x3.toNatClampNeg x4.toNatClampNeg → (zk M3 x1 = 4 ∧ ∃ a4, zR M3 x1 2 = some a4 ∧ (zk M3 x0 = 4 ∧ ∃ a5, zR M3 x0 2 = some a5 ∧ zk M3 a4 = 10 ∧ zk M3 a5 = 10 ∧ ¬ x2 < 0 ∧ ¬ x3 < 0 ∧ ¬ x4 < 0 ∧ x2.toNatClampNeg + x4.toNatClampNeg ≤ zl M3 a4 ∧ x3.toNatClampNeg + x4.toNatClampNeg ≤ zl M3 a5 ∧ (∀ M6, M6 = sC M3 a4 x2.toNatClampNeg a5 x3.toNatClampNeg x4.toNatClampNeg → (zk M6 x1 = 4 ∧ ∃ a7, zR M6 x1 3 = some a7 ∧ (zk M6 x0 = 4 ∧ ∃ a8, zR M6 x0 3 = some a8 ∧ zk M6 a7 = 10 ∧ zk M6 a8 = 10 ∧ ¬ x2 < 0 ∧ ¬ x3 < 0 ∧ ¬ x4 < 0 ∧ x2.toNatClampNeg + x4.toNatClampNeg ≤ zl M6 a7 ∧ x3.toNatClampNeg + x4.toNatClampNeg ≤ zl M6 a8 ∧ (∀ M9, M9 = sC M6 a7 x2.toNatClampNeg a8 x3.toNatClampNeg x4.toNatClampNeg → (zk M9 x1 = 4 ∧ ∃ a10, zR M9 x1 4 = some a10 ∧ (zk M9 x0 = 4 ∧ ∃ a11, zR M9 x0 4 = some a11 ∧ zk M9 a10 = 10 ∧ zk M9 a11 = 10 ∧ ¬ x2 < 0 ∧ ¬ x3 < 0 ∧ ¬ x4 < 0 ∧ x2.toNatClampNeg + x4.toNatClampNeg ≤ zl M9 a10 ∧ x3.toNatClampNeg + x4.toNatClampNeg ≤ zl M9 a11 ∧ (∀ M12, M12 = sC M9 a10 x2.toNatClampNeg a11 x3.toNatClampNeg x4.toNatClampNeg → (zk M12 x1 = 4 ∧ ∃ a13, zR M12 x1 5 = some a13 ∧ (zk M12 x0 = 4 ∧ ∃ a14, zR M12 x0 5 = some a14 ∧ zk M12 a13 = 10 ∧ zk M12 a14 = 10 ∧ ¬ (x2 * (30 : Int32)) < 0 ∧ ¬ (x3 * (30 : Int32)) < 0 ∧ ¬ (x4 * (30 : Int32)) < 0 ∧ (x2 * (30 : Int32)).toNatClampNeg + (x4 * (30 : Int32)).toNatClampNeg ≤ zl M12 a13 ∧ (x3 * (30 : Int32)).toNatClampNeg + (x4 * (30 : Int32)).toNatClampNeg ≤ zl M12 a14 ∧ (∀ M15, M15 = sC M12 a13 (x2 * (30 : Int32)).toNatClampNeg a14 (x3 * (30 : Int32)).toNatClampNeg (x4 * (30 : Int32)).toNatClampNeg → P M15)))))))))))))))
set_option maxHeartbeats 4000000 in
set_option maxRecDepth 100000 in
theorem c_X4_copyServices (l : Launch) (E : EV) (M : Mm) (x0 : Nat) (x1 : Nat) (x2 : Int32) (x3 : Int32) (x4 : Int32) (P : Mm → Prop) (h : w_X4_copyServices M x0 x1 x2 x3 x4 P) : CtV l E yX4_copyServices cX4_copyServices 5 rm_X4_copyServices 0 0 [.ref x0, .ref x1, .int x2, .int x3, .int x4] M P := by
  refine ctV_of (by decide +kernel) (Nat.le_of_ble_eq_true rfl) ?_
  intro p e s m args below meth c C hnm
  rw [w_X4_copyServices] at h
  show J p l e rm_X4_copyServices s m args below meth c (QV below E P args s 0 0) E 5 M 0 0 0 [(0, .ref x0), (1, .ref x1), (2, .int x2), (3, .int x3), (4, .int x4)] []
  refine j_aload_n (pc := 0) C 1 dX4_copyServices_0 rfl ?_
  refine gf_X4_9 (pc := 1) C dX4_copyServices_1 h (fun a1 h => ?_)
  refine j_iload_n (pc := 4) C 2 dX4_copyServices_4 rfl ?_
  refine j_aload_n (pc := 5) C 0 dX4_copyServices_5 rfl ?_
  refine gf_X4_9 (pc := 6) C dX4_copyServices_6 h (fun a2 h => ?_)
  refine j_iload_n (pc := 9) C 3 dX4_copyServices_9 rfl ?_
  refine j_iload (pc := 10) C 4 dX4_copyServices_10 rfl ?_
  refine n_copyi (pc := 12) C wd_934 wd_461 wd_460 wd_53 dX4_copyServices_12 (Nat.le_of_ble_eq_true rfl) (Nat.le_of_ble_eq_true rfl) h (fun M3 h => ?_)
  refine j_aload_n (pc := 15) C 1 dX4_copyServices_15 rfl ?_
  refine gf_X4_15 (pc := 16) C dX4_copyServices_16 h (fun a4 h => ?_)
  refine j_iload_n (pc := 19) C 2 dX4_copyServices_19 rfl ?_
  refine j_aload_n (pc := 20) C 0 dX4_copyServices_20 rfl ?_
  refine gf_X4_15 (pc := 21) C dX4_copyServices_21 h (fun a5 h => ?_)
  refine j_iload_n (pc := 24) C 3 dX4_copyServices_24 rfl ?_
  refine j_iload (pc := 25) C 4 dX4_copyServices_25 rfl ?_
  refine n_copyi (pc := 27) C wd_934 wd_461 wd_460 wd_53 dX4_copyServices_27 (Nat.le_of_ble_eq_true rfl) (Nat.le_of_ble_eq_true rfl) h (fun M6 h => ?_)
  refine j_aload_n (pc := 30) C 1 dX4_copyServices_30 rfl ?_
  refine gf_X4_18 (pc := 31) C dX4_copyServices_31 h (fun a7 h => ?_)
  refine j_iload_n (pc := 34) C 2 dX4_copyServices_34 rfl ?_
  refine j_aload_n (pc := 35) C 0 dX4_copyServices_35 rfl ?_
  refine gf_X4_18 (pc := 36) C dX4_copyServices_36 h (fun a8 h => ?_)
  refine j_iload_n (pc := 39) C 3 dX4_copyServices_39 rfl ?_
  refine j_iload (pc := 40) C 4 dX4_copyServices_40 rfl ?_
  refine n_copyi (pc := 42) C wd_934 wd_461 wd_460 wd_53 dX4_copyServices_42 (Nat.le_of_ble_eq_true rfl) (Nat.le_of_ble_eq_true rfl) h (fun M9 h => ?_)
  refine j_aload_n (pc := 45) C 1 dX4_copyServices_45 rfl ?_
  refine gf_X4_21 (pc := 46) C dX4_copyServices_46 h (fun a10 h => ?_)
  refine j_iload_n (pc := 49) C 2 dX4_copyServices_49 rfl ?_
  refine j_aload_n (pc := 50) C 0 dX4_copyServices_50 rfl ?_
  refine gf_X4_21 (pc := 51) C dX4_copyServices_51 h (fun a11 h => ?_)
  refine j_iload_n (pc := 54) C 3 dX4_copyServices_54 rfl ?_
  refine j_iload (pc := 55) C 4 dX4_copyServices_55 rfl ?_
  refine n_copyi (pc := 57) C wd_934 wd_461 wd_460 wd_53 dX4_copyServices_57 (Nat.le_of_ble_eq_true rfl) (Nat.le_of_ble_eq_true rfl) h (fun M12 h => ?_)
  refine j_aload_n (pc := 60) C 1 dX4_copyServices_60 rfl ?_
  refine gf_X4_24 (pc := 61) C dX4_copyServices_61 h (fun a13 h => ?_)
  refine j_iload_n (pc := 64) C 2 dX4_copyServices_64 rfl ?_
  refine j_bipush (pc := 65) (v := (30 : Int32)) C dX4_copyServices_65 rfl ?_
  refine j_imul (pc := 67) C dX4_copyServices_67 ?_
  refine j_aload_n (pc := 68) C 0 dX4_copyServices_68 rfl ?_
  refine gf_X4_24 (pc := 69) C dX4_copyServices_69 h (fun a14 h => ?_)
  refine j_iload_n (pc := 72) C 3 dX4_copyServices_72 rfl ?_
  refine j_bipush (pc := 73) (v := (30 : Int32)) C dX4_copyServices_73 rfl ?_
  refine j_imul (pc := 75) C dX4_copyServices_75 ?_
  refine j_iload (pc := 76) C 4 dX4_copyServices_76 rfl ?_
  refine j_bipush (pc := 78) (v := (30 : Int32)) C dX4_copyServices_78 rfl ?_
  refine j_imul (pc := 80) C dX4_copyServices_80 ?_
  refine n_copyi (pc := 81) C wd_934 wd_461 wd_460 wd_53 dX4_copyServices_81 (Nat.le_of_ble_eq_true rfl) (Nat.le_of_ble_eq_true rfl) h (fun M15 h => ?_)
  exact j_vret (pc := 84) C dX4_copyServices_84 (Nat.le_of_ble_eq_true rfl) (Nat.le_of_ble_eq_true rfl) h
theorem cs_X4_40 (C : Cx p l s m args meth c cc nL RX4 ret E) {b : Nat} {y0 : Nat} {y1 : Int32} {y2 : Int32} {y3 : Int32} {P : Mm → Prop} (hR : rm_X4_copyServices.frames + 1 ≤ R.frames ∧ 8 + (5 + 11) + rm_X4_copyServices.locals ≤ R.locals) (hf : kc ≤ R.cells ∧ ks ≤ R.slots) (hst : (st.map fun v => v.category).sum ≤ 8) (d : decode cc pc = .ok (.invokevirtual 40, 3)) (h : zk M b = 4 ∧ w_X4_copyServices M b y0 y1 y2 y3 P) (kk : ∀ M', P M' → J p l e R s m args below meth c Q E nL M' kc ks (pc + 3) lo st) : J p l e R s m args below meth c Q E nL M kc ks pc lo (.int y3 :: .int y2 :: .int y1 :: .ref y0 :: .ref b :: st) :=
  j_cV_V (n := 4) (As := [.ref y0, .int y1, .int y2, .int y3]) C co_X4 rfl wd_970 wd_18 h.1 (c_X4_copyServices l E M b y0 y1 y2 y3 P h.2) ⟨wd_971, wd_968, wd_42, by decide +kernel, by decide +kernel, by decide +kernel⟩ rfl rfl hR hf rfl hst d kk
abbrev rm_X4_copyFrom : Room := { frames := 2, cells := 0, slots := 0, locals := 84 }
def w_X4_copyFrom (M : Mm) (x0 : Nat) (x1 : Nat) (P : Mm → Prop) : Prop := zk M x1 = 4 ∧ zk M x0 = 4 ∧ (∀ M1, M1 = sI M x0 0 (zI M x1 0) → (zk M1 x1 = 4 ∧ ∃ a2, zR M1 x1 6 = some a2 ∧ (zk M1 x0 = 4 ∧ ∃ a3, zR M1 x0 6 = some a3 ∧ zk M1 a2 = 10 ∧ zk M1 a3 = 10 ∧ ¬ (0 : Int32) < 0 ∧ ¬ (0 : Int32) < 0 ∧ ¬ (8 : Int32) < 0 ∧ (0 : Int32).toNatClampNeg + (8 : Int32).toNatClampNeg ≤ zl M1 a2 ∧ (0 : Int32).toNatClampNeg + (8 : Int32).toNatClampNeg ≤ zl M1 a3 ∧ (∀ M4, M4 = sC M1 a2 (0 : Int32).toNatClampNeg a3 (0 : Int32).toNatClampNeg (8 : Int32).toNatClampNeg → zk M4 x1 = 4 ∧ zk M4 x0 = 4 ∧ w_X4_copyServices M4 x0 x1 (0 : Int32) (0 : Int32) (zI M4 x1 0) (fun M5 => P M5)))))
set_option maxHeartbeats 4000000 in
set_option maxRecDepth 100000 in
theorem c_X4_copyFrom (l : Launch) (E : EV) (M : Mm) (x0 : Nat) (x1 : Nat) (P : Mm → Prop) (h : w_X4_copyFrom M x0 x1 P) : CtV l E yX4_copyFrom cX4_copyFrom 2 rm_X4_copyFrom 0 0 [.ref x0, .ref x1] M P := by
  refine ctV_of (by decide +kernel) (Nat.le_of_ble_eq_true rfl) ?_
  intro p e s m args below meth c C hnm
  rw [w_X4_copyFrom] at h
  show J p l e rm_X4_copyFrom s m args below meth c (QV below E P args s 0 0) E 2 M 0 0 0 [(0, .ref x0), (1, .ref x1)] []
  refine j_aload_n (pc := 0) C 0 dX4_copyFrom_0 rfl ?_
  refine j_aload_n (pc := 1) C 1 dX4_copyFrom_1 rfl ?_
  refine gf_X4_30 (pc := 2) C dX4_copyFrom_2 h (fun h => ?_)
  refine pf_X4_30 (pc := 5) C dX4_copyFrom_5 h (fun M1 h => ?_)
  refine j_aload_n (pc := 8) C 1 dX4_copyFrom_8 rfl ?_
  refine gf_X4_27 (pc := 9) C dX4_copyFrom_9 h (fun a2 h => ?_)
  refine j_iconst (pc := 12) (v := (0 : Int32)) C dX4_copyFrom_12 rfl ?_
  refine j_aload_n (pc := 13) C 0 dX4_copyFrom_13 rfl ?_
  refine gf_X4_27 (pc := 14) C dX4_copyFrom_14 h (fun a3 h => ?_)
  refine j_iconst (pc := 17) (v := (0 : Int32)) C dX4_copyFrom_17 rfl ?_
  refine j_bipush (pc := 18) (v := (8 : Int32)) C dX4_copyFrom_18 rfl ?_
  refine n_copyi (pc := 20) C wd_934 wd_461 wd_460 wd_53 dX4_copyFrom_20 (Nat.le_of_ble_eq_true rfl) (Nat.le_of_ble_eq_true rfl) h (fun M4 h => ?_)
  refine j_aload_n (pc := 23) C 0 dX4_copyFrom_23 rfl ?_
  refine j_aload_n (pc := 24) C 1 dX4_copyFrom_24 rfl ?_
  refine j_iconst (pc := 25) (v := (0 : Int32)) C dX4_copyFrom_25 rfl ?_
  refine j_iconst (pc := 26) (v := (0 : Int32)) C dX4_copyFrom_26 rfl ?_
  refine j_aload_n (pc := 27) C 1 dX4_copyFrom_27 rfl ?_
  refine gf_X4_30 (pc := 28) C dX4_copyFrom_28 h (fun h => ?_)
  refine cs_X4_40 (pc := 31) C ⟨Nat.le_of_ble_eq_true rfl, Nat.le_of_ble_eq_true rfl⟩ ⟨Nat.le_of_ble_eq_true rfl, Nat.le_of_ble_eq_true rfl⟩ (Nat.le_of_ble_eq_true rfl) dX4_copyFrom_31 h (fun M5 h => ?_)
  exact j_vret (pc := 34) C dX4_copyFrom_34 (Nat.le_of_ble_eq_true rfl) (Nat.le_of_ble_eq_true rfl) h
abbrev rm_X4_clearCast : Room := { frames := 0, cells := 0, slots := 0, locals := 0 }
def l_X4_clearCast_2 (P : Mm → Prop) (K26 : Mm → Prop) : Nat → Mm → Nat → Int32 → Int32 → Prop
  | 0, _, _, _, _ => False
  | n + 1, M, x0, x1, x2 => (if (30 : Int32) ≤ x2 then K26 M else (zk M x0 = 4 ∧ ∃ a1, zR M x0 5 = some a1 ∧ zk M a1 = 10 ∧ vp_in ((x1 * (30 : Int32)) + x2) (zl M a1) ∧ (∀ M2, M2 = sI M a1 ((x1 * (30 : Int32)) + x2).toNatClampNeg (-1 : Int32) → l_X4_clearCast_2 P K26 n M2 x0 x1 (x2 + (1 : Int32)))))
set_option maxHeartbeats 4000000 in
set_option maxRecDepth 100000 in
theorem jl_X4_clearCast_2 {P : Mm → Prop} {K26 : Mm → Prop} (C : Cx p l s m args meth c cX4_clearCast 3 RX4 none E) (hkc : kc ≤ rm_X4_clearCast.cells ∧ ks ≤ rm_X4_clearCast.slots) (k26 : ∀ M, K26 M → J p l e rm_X4_clearCast s m args below meth c (QV below E P args s rm_X4_clearCast.cells rm_X4_clearCast.slots) E 3 M kc ks 26 [] []) : ∀ n M x0 x1 x2, l_X4_clearCast_2 P K26 n M x0 x1 x2 → J p l e rm_X4_clearCast s m args below meth c (QV below E P args s rm_X4_clearCast.cells rm_X4_clearCast.slots) E 3 M kc ks 2 [(0, .ref x0), (1, .int x1), (2, .int x2)] [] := by
  intro n
  induction n with
  | zero => intro M x0 x1 x2 h; exact h.elim
  | succ n ih =>
    intro M x0 x1 x2 h
    rw [l_X4_clearCast_2] at h
    refine j_iload_n (pc := 2) C 2 dX4_clearCast_2 rfl ?_
    refine j_bipush (pc := 3) (v := (30 : Int32)) C dX4_clearCast_3 rfl ?_
    refine j_icmp_ge (pc := 5) C 26 dX4_clearCast_5 (by decide) h (fun h => ?_) (fun h => ?_)
    · exact j_weak [] rfl (k26 _ h)
    · refine j_aload_n (pc := 8) C 0 dX4_clearCast_8 rfl ?_
      refine gf_X4_24 (pc := 9) C dX4_clearCast_9 h (fun a1 h => ?_)
      refine j_iload_n (pc := 12) C 1 dX4_clearCast_12 rfl ?_
      refine j_bipush (pc := 13) (v := (30 : Int32)) C dX4_clearCast_13 rfl ?_
      refine j_imul (pc := 15) C dX4_clearCast_15 ?_
      refine j_iload_n (pc := 16) C 2 dX4_clearCast_16 rfl ?_
      refine j_iadd (pc := 17) C dX4_clearCast_17 ?_
      refine j_iconst (pc := 18) (v := (-1 : Int32)) C dX4_clearCast_18 rfl ?_
      refine n_iast (pc := 19) C dX4_clearCast_19 h (fun M2 h => ?_)
      refine j_iinc (pc := 20) (v := (1 : Int32)) C 2 [(2, _), (0, _), (1, _)] dX4_clearCast_20 rfl rfl (by decide) rfl ?_
      refine j_goto (pc := 23) C 2 dX4_clearCast_23 (by decide) ?_
      exact j_weak [1, 2, 0] rfl (ih _ _ _ _ h)
def w_X4_clearCast (M : Mm) (x0 : Nat) (x1 : Int32) (P : Mm → Prop) : Prop := (∃ n2, l_X4_clearCast_2 P (fun M3 => P M3) n2 M x0 x1 (0 : Int32))
set_option maxHeartbeats 4000000 in
set_option maxRecDepth 100000 in
theorem c_X4_clearCast (l : Launch) (E : EV) (M : Mm) (x0 : Nat) (x1 : Int32) (P : Mm → Prop) (h : w_X4_clearCast M x0 x1 P) : CtV l E yX4_clearCast cX4_clearCast 3 rm_X4_clearCast 0 0 [.ref x0, .int x1] M P := by
  refine ctV_of (by decide +kernel) (Nat.le_of_ble_eq_true rfl) ?_
  intro p e s m args below meth c C hnm
  rw [w_X4_clearCast] at h
  show J p l e rm_X4_clearCast s m args below meth c (QV below E P args s 0 0) E 3 M 0 0 0 [(0, .ref x0), (1, .int x1)] []
  refine j_iconst (pc := 0) (v := (0 : Int32)) C dX4_clearCast_0 rfl ?_
  refine j_istore_n (pc := 1) C [(2, _), (0, _), (1, _)] dX4_clearCast_1 (by decide) rfl ?_
  obtain ⟨n2, h⟩ := h
  refine j_weak [1, 2, 0] rfl (jl_X4_clearCast_2 C ⟨Nat.le_of_ble_eq_true rfl, Nat.le_of_ble_eq_true rfl⟩ (fun M3 h => ?_) n2 _ _ _ _ h)
  · exact j_vret (pc := 26) C dX4_clearCast_26 (Nat.le_of_ble_eq_true rfl) (Nat.le_of_ble_eq_true rfl) h
abbrev rm_X4_isEarlier : Room := { frames := 0, cells := 0, slots := 0, locals := 0 }
def w_X4_isEarlier (M : Mm) (x0 : Nat) (x1 : Int32) (x2 : Int32) (x3 : Int32) (P : Int32 → Mm → Prop) : Prop := (zk M x0 = 4 ∧ ∃ a1, zR M x0 1 = some a1 ∧ zk M a1 = 10 ∧ vp_in x1 (zl M a1) ∧ (if (zI M a1 x1.toNatClampNeg) < x3 then ((1 : Int32) = 0 ∨ (1 : Int32) = 1) ∧ P (1 : Int32) M else (zk M x0 = 4 ∧ ∃ a2, zR M x0 1 = some a2 ∧ zk M a2 = 10 ∧ vp_in x1 (zl M a2) ∧ (if (zI M a2 x1.toNatClampNeg) = x3 then (zk M x0 = 4 ∧ ∃ a3, zR M x0 2 = some a3 ∧ zk M a3 = 10 ∧ vp_in x1 (zl M a3) ∧ (if x2 ≤ (zI M a3 x1.toNatClampNeg) then ((0 : Int32) = 0 ∨ (0 : Int32) = 1) ∧ P (0 : Int32) M else ((1 : Int32) = 0 ∨ (1 : Int32) = 1) ∧ P (1 : Int32) M)) else ((0 : Int32) = 0 ∨ (0 : Int32) = 1) ∧ P (0 : Int32) M))))
set_option maxHeartbeats 4000000 in
set_option maxRecDepth 100000 in
theorem c_X4_isEarlier (l : Launch) (E : EV) (M : Mm) (x0 : Nat) (x1 : Int32) (x2 : Int32) (x3 : Int32) (P : Int32 → Mm → Prop) (h : w_X4_isEarlier M x0 x1 x2 x3 P) : CtI l E yX4_isEarlier cX4_isEarlier 4 .boolean rm_X4_isEarlier 0 0 [.ref x0, .int x1, .int x2, .int x3] M P := by
  refine ctI_of (by decide +kernel) (Nat.le_of_ble_eq_true rfl) ?_
  intro p e s m args below meth c C
  rw [w_X4_isEarlier] at h
  show J p l e rm_X4_isEarlier s m args below meth c (QI below E P args s 0 0) E 4 M 0 0 0 [(0, .ref x0), (1, .int x1), (2, .int x2), (3, .int x3)] []
  refine j_aload_n (pc := 0) C 0 dX4_isEarlier_0 rfl ?_
  refine gf_X4_9 (pc := 1) C dX4_isEarlier_1 h (fun a1 h => ?_)
  refine j_iload_n (pc := 4) C 1 dX4_isEarlier_4 rfl ?_
  refine j_iald (pc := 5) C dX4_isEarlier_5 h (fun h => ?_)
  refine j_iload_n (pc := 6) C 3 dX4_isEarlier_6 rfl ?_
  refine j_icmp_lt (pc := 7) C 30 dX4_isEarlier_7 (by decide) h (fun h => ?_) (fun h => ?_)
  · refine j_iconst (pc := 30) (v := (1 : Int32)) C dX4_isEarlier_30 rfl ?_
    refine j_goto (pc := 31) C 35 dX4_isEarlier_31 (by decide) ?_
    exact j_zret (pc := 35) C dX4_isEarlier_35 (Nat.le_of_ble_eq_true rfl) (Nat.le_of_ble_eq_true rfl) h
  · refine j_aload_n (pc := 10) C 0 dX4_isEarlier_10 rfl ?_
    refine gf_X4_9 (pc := 11) C dX4_isEarlier_11 h (fun a2 h => ?_)
    refine j_iload_n (pc := 14) C 1 dX4_isEarlier_14 rfl ?_
    refine j_iald (pc := 15) C dX4_isEarlier_15 h (fun h => ?_)
    refine j_iload_n (pc := 16) C 3 dX4_isEarlier_16 rfl ?_
    refine j_icmp_ne (pc := 17) C 34 dX4_isEarlier_17 (by decide) h (fun h => ?_) (fun h => ?_)
    · refine j_iconst (pc := 34) (v := (0 : Int32)) C dX4_isEarlier_34 rfl ?_
      exact j_zret (pc := 35) C dX4_isEarlier_35 (Nat.le_of_ble_eq_true rfl) (Nat.le_of_ble_eq_true rfl) h
    · refine j_aload_n (pc := 20) C 0 dX4_isEarlier_20 rfl ?_
      refine gf_X4_15 (pc := 21) C dX4_isEarlier_21 h (fun a3 h => ?_)
      refine j_iload_n (pc := 24) C 1 dX4_isEarlier_24 rfl ?_
      refine j_iald (pc := 25) C dX4_isEarlier_25 h (fun h => ?_)
      refine j_iload_n (pc := 26) C 2 dX4_isEarlier_26 rfl ?_
      refine j_icmp_ge (pc := 27) C 34 dX4_isEarlier_27 (by decide) h (fun h => ?_) (fun h => ?_)
      · refine j_iconst (pc := 34) (v := (0 : Int32)) C dX4_isEarlier_34 rfl ?_
        exact j_zret (pc := 35) C dX4_isEarlier_35 (Nat.le_of_ble_eq_true rfl) (Nat.le_of_ble_eq_true rfl) h
      · refine j_iconst (pc := 30) (v := (1 : Int32)) C dX4_isEarlier_30 rfl ?_
        refine j_goto (pc := 31) C 35 dX4_isEarlier_31 (by decide) ?_
        exact j_zret (pc := 35) C dX4_isEarlier_35 (Nat.le_of_ble_eq_true rfl) (Nat.le_of_ble_eq_true rfl) h
theorem cs_X4_44 (C : Cx p l s m args meth c cc nL RX4 ret E) {b : Nat} {y0 : Int32} {y1 : Int32} {y2 : Int32} {P : Int32 → Mm → Prop} (hR : rm_X4_isEarlier.frames + 1 ≤ R.frames ∧ 8 + (4 + 11) + rm_X4_isEarlier.locals ≤ R.locals) (hf : kc ≤ R.cells ∧ ks ≤ R.slots) (hst : (st.map fun v => v.category).sum ≤ 8) (d : decode cc pc = .ok (.invokevirtual 44, 3)) (h : zk M b = 4 ∧ w_X4_isEarlier M b y0 y1 y2 P) (kk : ∀ r M', P r M' → J p l e R s m args below meth c Q E nL M' kc ks (pc + 3) lo (.int r :: st)) : J p l e R s m args below meth c Q E nL M kc ks pc lo (.int y2 :: .int y1 :: .int y0 :: .ref b :: st) :=
  j_cV_I (n := 3) (As := [.int y0, .int y1, .int y2]) C co_X4 rfl wd_1173 wd_32 h.1 (c_X4_isEarlier l E M b y0 y1 y2 P h.2) ⟨wd_1174, wd_1171, wd_42, by decide +kernel, by decide +kernel, by decide +kernel⟩ rfl rfl hR hf rfl hst d kk
theorem cs_X4_48 (C : Cx p l s m args meth c cc nL RX4 ret E) {b : Nat} {y0 : Int32} {P : Mm → Prop} (hR : rm_X4_clearCast.frames + 1 ≤ R.frames ∧ 8 + (3 + 11) + rm_X4_clearCast.locals ≤ R.locals) (hf : kc ≤ R.cells ∧ ks ≤ R.slots) (hst : (st.map fun v => v.category).sum ≤ 8) (d : decode cc pc = .ok (.invokevirtual 48, 3)) (h : zk M b = 4 ∧ w_X4_clearCast M b y0 P) (kk : ∀ M', P M' → J p l e R s m args below meth c Q E nL M' kc ks (pc + 3) lo st) : J p l e R s m args below meth c Q E nL M kc ks pc lo (.int y0 :: .ref b :: st) :=
  j_cV_V (n := 1) (As := [.int y0]) C co_X4 rfl wd_1176 wd_1177 h.1 (c_X4_clearCast l E M b y0 P h.2) ⟨wd_1178, wd_1175, wd_42, by decide +kernel, by decide +kernel, by decide +kernel⟩ rfl rfl hR hf rfl hst d kk
abbrev rm_X4_insert : Room := { frames := 2, cells := 0, slots := 0, locals := 84 }
def l_X4_insert_3 (P : Int32 → Mm → Prop) (K29 : Mm → Nat → Int32 → Int32 → Int32 → Int32 → Int32 → Prop) : Nat → Mm → Nat → Int32 → Int32 → Int32 → Int32 → Int32 → Prop
  | 0, _, _, _, _, _, _, _ => False
  | n + 1, M, x0, x1, x2, x3, x4, x5 => zk M x0 = 4 ∧ (if (zI M x0 0) ≤ x5 then K29 M x0 x1 x2 x3 x4 x5 else zk M x0 = 4 ∧ w_X4_isEarlier M x0 x5 x1 x2 (fun r1 M1 => (if r1 = 0 then K29 M1 x0 x1 x2 x3 x4 x5 else l_X4_insert_3 P K29 n M1 x0 x1 x2 x3 x4 (x5 + (1 : Int32)))))
set_option maxHeartbeats 4000000 in
set_option maxRecDepth 100000 in
theorem jl_X4_insert_3 {P : Int32 → Mm → Prop} {K29 : Mm → Nat → Int32 → Int32 → Int32 → Int32 → Int32 → Prop} (C : Cx p l s m args meth c cX4_insert 6 RX4 (some .int) E) (hkc : kc ≤ rm_X4_insert.cells ∧ ks ≤ rm_X4_insert.slots) (k29 : ∀ M x0 x1 x2 x3 x4 x5, K29 M x0 x1 x2 x3 x4 x5 → J p l e rm_X4_insert s m args below meth c (QI below E P args s rm_X4_insert.cells rm_X4_insert.slots) E 6 M kc ks 29 [(0, .ref x0), (1, .int x1), (2, .int x2), (3, .int x3), (4, .int x4), (5, .int x5)] []) : ∀ n M x0 x1 x2 x3 x4 x5, l_X4_insert_3 P K29 n M x0 x1 x2 x3 x4 x5 → J p l e rm_X4_insert s m args below meth c (QI below E P args s rm_X4_insert.cells rm_X4_insert.slots) E 6 M kc ks 3 [(0, .ref x0), (1, .int x1), (2, .int x2), (3, .int x3), (4, .int x4), (5, .int x5)] [] := by
  intro n
  induction n with
  | zero => intro M x0 x1 x2 x3 x4 x5 h; exact h.elim
  | succ n ih =>
    intro M x0 x1 x2 x3 x4 x5 h
    rw [l_X4_insert_3] at h
    refine j_iload (pc := 3) C 5 dX4_insert_3 rfl ?_
    refine j_aload_n (pc := 5) C 0 dX4_insert_5 rfl ?_
    refine gf_X4_30 (pc := 6) C dX4_insert_6 h (fun h => ?_)
    refine j_icmp_ge (pc := 9) C 29 dX4_insert_9 (by decide) h (fun h => ?_) (fun h => ?_)
    · exact j_weak [0, 1, 2, 3, 4, 5] rfl (k29 _ _ _ _ _ _ _ h)
    · refine j_aload_n (pc := 12) C 0 dX4_insert_12 rfl ?_
      refine j_iload (pc := 13) C 5 dX4_insert_13 rfl ?_
      refine j_iload_n (pc := 15) C 1 dX4_insert_15 rfl ?_
      refine j_iload_n (pc := 16) C 2 dX4_insert_16 rfl ?_
      refine cs_X4_44 (pc := 17) C ⟨Nat.le_of_ble_eq_true rfl, Nat.le_of_ble_eq_true rfl⟩ hkc (Nat.le_of_ble_eq_true rfl) dX4_insert_17 h (fun r1 M1 h => ?_)
      refine j_if_eq (pc := 20) C 29 dX4_insert_20 (by decide) h (fun h => ?_) (fun h => ?_)
      · exact j_weak [0, 1, 2, 3, 4, 5] rfl (k29 _ _ _ _ _ _ _ h)
      · refine j_iinc (pc := 23) (v := (1 : Int32)) C 5 [(5, _), (0, _), (1, _), (2, _), (3, _), (4, _)] dX4_insert_23 rfl rfl (by decide) rfl ?_
        refine j_goto (pc := 26) C 3 dX4_insert_26 (by decide) ?_
        exact j_weak [1, 2, 3, 4, 5, 0] rfl (ih _ _ _ _ _ _ _ h)
def w_X4_insert (M : Mm) (x0 : Nat) (x1 : Int32) (x2 : Int32) (x3 : Int32) (x4 : Int32) (P : Int32 → Mm → Prop) : Prop := (∃ n3, l_X4_insert_3 P (fun M2 x0_2 x1_2 x2_2 x3_2 x4_2 x5_2 => zk M2 x0_2 = 4 ∧ zk M2 x0_2 = 4 ∧ w_X4_copyServices M2 x0_2 x0_2 x5_2 (x5_2 + (1 : Int32)) ((zI M2 x0_2 0) - x5_2) (fun M3 => zk M3 x0_2 = 4 ∧ zk M3 x0_2 = 4 ∧ (∀ M4, M4 = sI M3 x0_2 0 ((zI M3 x0_2 0) + (1 : Int32)) → (zk M4 x0_2 = 4 ∧ ∃ a5, zR M4 x0_2 1 = some a5 ∧ zk M4 a5 = 10 ∧ vp_in x5_2 (zl M4 a5) ∧ (∀ M6, M6 = sI M4 a5 x5_2.toNatClampNeg x2_2 → (zk M6 x0_2 = 4 ∧ ∃ a7, zR M6 x0_2 2 = some a7 ∧ zk M6 a7 = 10 ∧ vp_in x5_2 (zl M6 a7) ∧ (∀ M8, M8 = sI M6 a7 x5_2.toNatClampNeg x1_2 → (zk M8 x0_2 = 4 ∧ ∃ a9, zR M8 x0_2 3 = some a9 ∧ (if x4_2 = 0 then zk M8 a9 = 10 ∧ vp_in x5_2 (zl M8 a9) ∧ (∀ M10, M10 = sI M8 a9 x5_2.toNatClampNeg (0 : Int32) → (zk M10 x0_2 = 4 ∧ ∃ a11, zR M10 x0_2 4 = some a11 ∧ zk M10 a11 = 10 ∧ vp_in x5_2 (zl M10 a11) ∧ (∀ M12, M12 = sI M10 a11 x5_2.toNatClampNeg x3_2 → zk M12 x0_2 = 4 ∧ w_X4_clearCast M12 x0_2 x5_2 (fun M13 => P x5_2 M13)))) else zk M8 a9 = 10 ∧ vp_in x5_2 (zl M8 a9) ∧ (∀ M14, M14 = sI M8 a9 x5_2.toNatClampNeg (1 : Int32) → (zk M14 x0_2 = 4 ∧ ∃ a15, zR M14 x0_2 4 = some a15 ∧ zk M14 a15 = 10 ∧ vp_in x5_2 (zl M14 a15) ∧ (∀ M16, M16 = sI M14 a15 x5_2.toNatClampNeg x3_2 → zk M16 x0_2 = 4 ∧ w_X4_clearCast M16 x0_2 x5_2 (fun M17 => P x5_2 M17))))))))))))) n3 M x0 x1 x2 x3 x4 (0 : Int32))
set_option maxHeartbeats 4000000 in
set_option maxRecDepth 100000 in
theorem c_X4_insert (l : Launch) (E : EV) (M : Mm) (x0 : Nat) (x1 : Int32) (x2 : Int32) (x3 : Int32) (x4 : Int32) (P : Int32 → Mm → Prop) (h : w_X4_insert M x0 x1 x2 x3 x4 P) : CtI l E yX4_insert cX4_insert 6 .int rm_X4_insert 0 0 [.ref x0, .int x1, .int x2, .int x3, .int x4] M P := by
  refine ctI_of (by decide +kernel) (Nat.le_of_ble_eq_true rfl) ?_
  intro p e s m args below meth c C
  rw [w_X4_insert] at h
  show J p l e rm_X4_insert s m args below meth c (QI below E P args s 0 0) E 6 M 0 0 0 [(0, .ref x0), (1, .int x1), (2, .int x2), (3, .int x3), (4, .int x4)] []
  refine j_iconst (pc := 0) (v := (0 : Int32)) C dX4_insert_0 rfl ?_
  refine j_istore (pc := 1) C [(5, _), (0, _), (1, _), (2, _), (3, _), (4, _)] dX4_insert_1 (by decide) rfl ?_
  obtain ⟨n3, h⟩ := h
  refine j_weak [1, 2, 3, 4, 5, 0] rfl (jl_X4_insert_3 C ⟨Nat.le_of_ble_eq_true rfl, Nat.le_of_ble_eq_true rfl⟩ (fun M2 x0_2 x1_2 x2_2 x3_2 x4_2 x5_2 h => ?_) n3 _ _ _ _ _ _ _ h)
  · refine j_aload_n (pc := 29) C 0 dX4_insert_29 rfl ?_
    refine j_aload_n (pc := 30) C 0 dX4_insert_30 rfl ?_
    refine j_iload (pc := 31) C 5 dX4_insert_31 rfl ?_
    refine j_iload (pc := 33) C 5 dX4_insert_33 rfl ?_
    refine j_iconst (pc := 35) (v := (1 : Int32)) C dX4_insert_35 rfl ?_
    refine j_iadd (pc := 36) C dX4_insert_36 ?_
    refine j_aload_n (pc := 37) C 0 dX4_insert_37 rfl ?_
    refine gf_X4_30 (pc := 38) C dX4_insert_38 h (fun h => ?_)
    refine j_iload (pc := 41) C 5 dX4_insert_41 rfl ?_
    refine j_isub (pc := 43) C dX4_insert_43 ?_
    refine cs_X4_40 (pc := 44) C ⟨Nat.le_of_ble_eq_true rfl, Nat.le_of_ble_eq_true rfl⟩ ⟨Nat.le_of_ble_eq_true rfl, Nat.le_of_ble_eq_true rfl⟩ (Nat.le_of_ble_eq_true rfl) dX4_insert_44 h (fun M3 h => ?_)
    refine j_aload_n (pc := 47) C 0 dX4_insert_47 rfl ?_
    refine j_dup (pc := 48) C dX4_insert_48 rfl ?_
    refine gf_X4_30 (pc := 49) C dX4_insert_49 h (fun h => ?_)
    refine j_iconst (pc := 52) (v := (1 : Int32)) C dX4_insert_52 rfl ?_
    refine j_iadd (pc := 53) C dX4_insert_53 ?_
    refine pf_X4_30 (pc := 54) C dX4_insert_54 h (fun M4 h => ?_)
    refine j_aload_n (pc := 57) C 0 dX4_insert_57 rfl ?_
    refine gf_X4_9 (pc := 58) C dX4_insert_58 h (fun a5 h => ?_)
    refine j_iload (pc := 61) C 5 dX4_insert_61 rfl ?_
    refine j_iload_n (pc := 63) C 2 dX4_insert_63 rfl ?_
    refine n_iast (pc := 64) C dX4_insert_64 h (fun M6 h => ?_)
    refine j_aload_n (pc := 65) C 0 dX4_insert_65 rfl ?_
    refine gf_X4_15 (pc := 66) C dX4_insert_66 h (fun a7 h => ?_)
    refine j_iload (pc := 69) C 5 dX4_insert_69 rfl ?_
    refine j_iload_n (pc := 71) C 1 dX4_insert_71 rfl ?_
    refine n_iast (pc := 72) C dX4_insert_72 h (fun M8 h => ?_)
    refine j_aload_n (pc := 73) C 0 dX4_insert_73 rfl ?_
    refine gf_X4_18 (pc := 74) C dX4_insert_74 h (fun a9 h => ?_)
    refine j_iload (pc := 77) C 5 dX4_insert_77 rfl ?_
    refine j_iload (pc := 79) C 4 dX4_insert_79 rfl ?_
    refine j_if_eq (pc := 81) C 88 dX4_insert_81 (by decide) h (fun h => ?_) (fun h => ?_)
    · refine j_iconst (pc := 88) (v := (0 : Int32)) C dX4_insert_88 rfl ?_
      refine n_iast (pc := 89) C dX4_insert_89 h (fun M10 h => ?_)
      refine j_aload_n (pc := 90) C 0 dX4_insert_90 rfl ?_
      refine gf_X4_21 (pc := 91) C dX4_insert_91 h (fun a11 h => ?_)
      refine j_iload (pc := 94) C 5 dX4_insert_94 rfl ?_
      refine j_iload_n (pc := 96) C 3 dX4_insert_96 rfl ?_
      refine n_iast (pc := 97) C dX4_insert_97 h (fun M12 h => ?_)
      refine j_aload_n (pc := 98) C 0 dX4_insert_98 rfl ?_
      refine j_iload (pc := 99) C 5 dX4_insert_99 rfl ?_
      refine cs_X4_48 (pc := 101) C ⟨Nat.le_of_ble_eq_true rfl, Nat.le_of_ble_eq_true rfl⟩ ⟨Nat.le_of_ble_eq_true rfl, Nat.le_of_ble_eq_true rfl⟩ (Nat.le_of_ble_eq_true rfl) dX4_insert_101 h (fun M13 h => ?_)
      refine j_iload (pc := 104) C 5 dX4_insert_104 rfl ?_
      exact j_iret (pc := 106) C dX4_insert_106 (Nat.le_of_ble_eq_true rfl) (Nat.le_of_ble_eq_true rfl) h
    · refine j_iconst (pc := 84) (v := (1 : Int32)) C dX4_insert_84 rfl ?_
      refine j_goto (pc := 85) C 89 dX4_insert_85 (by decide) ?_
      refine n_iast (pc := 89) C dX4_insert_89 h (fun M14 h => ?_)
      refine j_aload_n (pc := 90) C 0 dX4_insert_90 rfl ?_
      refine gf_X4_21 (pc := 91) C dX4_insert_91 h (fun a15 h => ?_)
      refine j_iload (pc := 94) C 5 dX4_insert_94 rfl ?_
      refine j_iload_n (pc := 96) C 3 dX4_insert_96 rfl ?_
      refine n_iast (pc := 97) C dX4_insert_97 h (fun M16 h => ?_)
      refine j_aload_n (pc := 98) C 0 dX4_insert_98 rfl ?_
      refine j_iload (pc := 99) C 5 dX4_insert_99 rfl ?_
      refine cs_X4_48 (pc := 101) C ⟨Nat.le_of_ble_eq_true rfl, Nat.le_of_ble_eq_true rfl⟩ ⟨Nat.le_of_ble_eq_true rfl, Nat.le_of_ble_eq_true rfl⟩ (Nat.le_of_ble_eq_true rfl) dX4_insert_101 h (fun M17 h => ?_)
      refine j_iload (pc := 104) C 5 dX4_insert_104 rfl ?_
      exact j_iret (pc := 106) C dX4_insert_106 (Nat.le_of_ble_eq_true rfl) (Nat.le_of_ble_eq_true rfl) h
abbrev rm_X4_remove : Room := { frames := 2, cells := 0, slots := 0, locals := 84 }
def w_X4_remove (M : Mm) (x0 : Nat) (x1 : Int32) (P : Mm → Prop) : Prop := zk M x0 = 4 ∧ zk M x0 = 4 ∧ w_X4_copyServices M x0 x0 (x1 + (1 : Int32)) x1 (((zI M x0 0) - x1) - (1 : Int32)) (fun M1 => zk M1 x0 = 4 ∧ zk M1 x0 = 4 ∧ (∀ M2, M2 = sI M1 x0 0 ((zI M1 x0 0) - (1 : Int32)) → P M2))
set_option maxHeartbeats 4000000 in
set_option maxRecDepth 100000 in
theorem c_X4_remove (l : Launch) (E : EV) (M : Mm) (x0 : Nat) (x1 : Int32) (P : Mm → Prop) (h : w_X4_remove M x0 x1 P) : CtV l E yX4_remove cX4_remove 2 rm_X4_remove 0 0 [.ref x0, .int x1] M P := by
  refine ctV_of (by decide +kernel) (Nat.le_of_ble_eq_true rfl) ?_
  intro p e s m args below meth c C hnm
  rw [w_X4_remove] at h
  show J p l e rm_X4_remove s m args below meth c (QV below E P args s 0 0) E 2 M 0 0 0 [(0, .ref x0), (1, .int x1)] []
  refine j_aload_n (pc := 0) C 0 dX4_remove_0 rfl ?_
  refine j_aload_n (pc := 1) C 0 dX4_remove_1 rfl ?_
  refine j_iload_n (pc := 2) C 1 dX4_remove_2 rfl ?_
  refine j_iconst (pc := 3) (v := (1 : Int32)) C dX4_remove_3 rfl ?_
  refine j_iadd (pc := 4) C dX4_remove_4 ?_
  refine j_iload_n (pc := 5) C 1 dX4_remove_5 rfl ?_
  refine j_aload_n (pc := 6) C 0 dX4_remove_6 rfl ?_
  refine gf_X4_30 (pc := 7) C dX4_remove_7 h (fun h => ?_)
  refine j_iload_n (pc := 10) C 1 dX4_remove_10 rfl ?_
  refine j_isub (pc := 11) C dX4_remove_11 ?_
  refine j_iconst (pc := 12) (v := (1 : Int32)) C dX4_remove_12 rfl ?_
  refine j_isub (pc := 13) C dX4_remove_13 ?_
  refine cs_X4_40 (pc := 14) C ⟨Nat.le_of_ble_eq_true rfl, Nat.le_of_ble_eq_true rfl⟩ ⟨Nat.le_of_ble_eq_true rfl, Nat.le_of_ble_eq_true rfl⟩ (Nat.le_of_ble_eq_true rfl) dX4_remove_14 h (fun M1 h => ?_)
  refine j_aload_n (pc := 17) C 0 dX4_remove_17 rfl ?_
  refine j_dup (pc := 18) C dX4_remove_18 rfl ?_
  refine gf_X4_30 (pc := 19) C dX4_remove_19 h (fun h => ?_)
  refine j_iconst (pc := 22) (v := (1 : Int32)) C dX4_remove_22 rfl ?_
  refine j_isub (pc := 23) C dX4_remove_23 ?_
  refine pf_X4_30 (pc := 24) C dX4_remove_24 h (fun M2 h => ?_)
  exact j_vret (pc := 27) C dX4_remove_27 (Nat.le_of_ble_eq_true rfl) (Nat.le_of_ble_eq_true rfl) h
abbrev rm_X4_placeOf : Room := { frames := 0, cells := 0, slots := 0, locals := 0 }
def w_X4_placeOf (M : Mm) (x0 : Int32) (x1 : Int32) (P : Int32 → Mm → Prop) : Prop := P ((x0 * (30 : Int32)) + (x1 * (6 : Int32))) M
set_option maxHeartbeats 4000000 in
set_option maxRecDepth 100000 in
theorem c_X4_placeOf (l : Launch) (E : EV) (M : Mm) (x0 : Int32) (x1 : Int32) (P : Int32 → Mm → Prop) (h : w_X4_placeOf M x0 x1 P) : CtI l E yX4_placeOf cX4_placeOf 2 .int rm_X4_placeOf 0 0 [.int x0, .int x1] M P := by
  refine ctI_of (by decide +kernel) (Nat.le_of_ble_eq_true rfl) ?_
  intro p e s m args below meth c C
  rw [w_X4_placeOf] at h
  show J p l e rm_X4_placeOf s m args below meth c (QI below E P args s 0 0) E 2 M 0 0 0 [(0, .int x0), (1, .int x1)] []
  refine j_iload_n (pc := 0) C 0 dX4_placeOf_0 rfl ?_
  refine j_bipush (pc := 1) (v := (30 : Int32)) C dX4_placeOf_1 rfl ?_
  refine j_imul (pc := 3) C dX4_placeOf_3 ?_
  refine j_iload_n (pc := 4) C 1 dX4_placeOf_4 rfl ?_
  refine j_bipush (pc := 5) (v := (6 : Int32)) C dX4_placeOf_5 rfl ?_
  refine j_imul (pc := 7) C dX4_placeOf_7 ?_
  refine j_iadd (pc := 8) C dX4_placeOf_8 ?_
  exact j_iret (pc := 9) C dX4_placeOf_9 (Nat.le_of_ble_eq_true rfl) (Nat.le_of_ble_eq_true rfl) h
theorem cs_X4_52 (C : Cx p l s m args meth c cc nL RX4 ret E) {y0 : Int32} {y1 : Int32} {P : Int32 → Mm → Prop} (hR : rm_X4_placeOf.frames + 1 ≤ R.frames ∧ 8 + (2 + 11) + rm_X4_placeOf.locals ≤ R.locals) (hf : kc ≤ R.cells ∧ ks ≤ R.slots) (hst : (st.map fun v => v.category).sum ≤ 8) (d : decode cc pc = .ok (.invokestatic 52, 3)) (h : w_X4_placeOf M y0 y1 P) (kk : ∀ r M', P r M' → J p l e R s m args below meth c Q E nL M' kc ks (pc + 3) lo (.int r :: st)) : J p l e R s m args below meth c Q E nL M kc ks pc lo (.int y1 :: .int y0 :: st) :=
  j_cS_I (n := 2) (As := [.int y0, .int y1]) C wd_1188 (c_X4_placeOf l E M y0 y1 P h) ⟨wd_1189, wd_1187, wd_42, by decide +kernel, by decide +kernel, by decide +kernel⟩ rfl rfl hR hf rfl hst d kk
abbrev rm_X4_setCast : Room := { frames := 1, cells := 0, slots := 0, locals := 60 }
def w_X4_setCast (M : Mm) (x0 : Nat) (x1 : Int32) (x2 : Int32) (x3 : Nat) (x4 : Int32) (P : Mm → Prop) : Prop := (zk M x0 = 4 ∧ ∃ a1, zR M x0 5 = some a1 ∧ w_X4_placeOf M x1 x2 (fun r2 M2 => zk M2 x3 = 10 ∧ zk M2 a1 = 10 ∧ ¬ (0 : Int32) < 0 ∧ ¬ r2 < 0 ∧ ¬ x4 < 0 ∧ (0 : Int32).toNatClampNeg + x4.toNatClampNeg ≤ zl M2 x3 ∧ r2.toNatClampNeg + x4.toNatClampNeg ≤ zl M2 a1 ∧ (∀ M3, M3 = sC M2 x3 (0 : Int32).toNatClampNeg a1 r2.toNatClampNeg x4.toNatClampNeg → P M3)))
set_option maxHeartbeats 4000000 in
set_option maxRecDepth 100000 in
theorem c_X4_setCast (l : Launch) (E : EV) (M : Mm) (x0 : Nat) (x1 : Int32) (x2 : Int32) (x3 : Nat) (x4 : Int32) (P : Mm → Prop) (h : w_X4_setCast M x0 x1 x2 x3 x4 P) : CtV l E yX4_setCast cX4_setCast 5 rm_X4_setCast 0 0 [.ref x0, .int x1, .int x2, .ref x3, .int x4] M P := by
  refine ctV_of (by decide +kernel) (Nat.le_of_ble_eq_true rfl) ?_
  intro p e s m args below meth c C hnm
  rw [w_X4_setCast] at h
  show J p l e rm_X4_setCast s m args below meth c (QV below E P args s 0 0) E 5 M 0 0 0 [(0, .ref x0), (1, .int x1), (2, .int x2), (3, .ref x3), (4, .int x4)] []
  refine j_aload_n (pc := 0) C 3 dX4_setCast_0 rfl ?_
  refine j_iconst (pc := 1) (v := (0 : Int32)) C dX4_setCast_1 rfl ?_
  refine j_aload_n (pc := 2) C 0 dX4_setCast_2 rfl ?_
  refine gf_X4_24 (pc := 3) C dX4_setCast_3 h (fun a1 h => ?_)
  refine j_iload_n (pc := 6) C 1 dX4_setCast_6 rfl ?_
  refine j_iload_n (pc := 7) C 2 dX4_setCast_7 rfl ?_
  refine cs_X4_52 (pc := 8) C ⟨Nat.le_of_ble_eq_true rfl, Nat.le_of_ble_eq_true rfl⟩ ⟨Nat.le_of_ble_eq_true rfl, Nat.le_of_ble_eq_true rfl⟩ (Nat.le_of_ble_eq_true rfl) dX4_setCast_8 h (fun r2 M2 h => ?_)
  refine j_iload (pc := 11) C 4 dX4_setCast_11 rfl ?_
  refine n_copyi (pc := 13) C wd_934 wd_461 wd_460 wd_53 dX4_setCast_13 (Nat.le_of_ble_eq_true rfl) (Nat.le_of_ble_eq_true rfl) h (fun M3 h => ?_)
  exact j_vret (pc := 16) C dX4_setCast_16 (Nat.le_of_ble_eq_true rfl) (Nat.le_of_ble_eq_true rfl) h
abbrev rm_X4_playerOn : Room := { frames := 1, cells := 0, slots := 0, locals := 21 }
def w_X4_playerOn (M : Mm) (x0 : Nat) (x1 : Int32) (x2 : Int32) (x3 : Int32) (P : Int32 → Mm → Prop) : Prop := (zk M x0 = 4 ∧ ∃ a1, zR M x0 5 = some a1 ∧ w_X4_placeOf M x1 x2 (fun r2 M2 => zk M2 a1 = 10 ∧ vp_in (r2 + x3) (zl M2 a1) ∧ P (zI M2 a1 (r2 + x3).toNatClampNeg) M2))
set_option maxHeartbeats 4000000 in
set_option maxRecDepth 100000 in
theorem c_X4_playerOn (l : Launch) (E : EV) (M : Mm) (x0 : Nat) (x1 : Int32) (x2 : Int32) (x3 : Int32) (P : Int32 → Mm → Prop) (h : w_X4_playerOn M x0 x1 x2 x3 P) : CtI l E yX4_playerOn cX4_playerOn 4 .int rm_X4_playerOn 0 0 [.ref x0, .int x1, .int x2, .int x3] M P := by
  refine ctI_of (by decide +kernel) (Nat.le_of_ble_eq_true rfl) ?_
  intro p e s m args below meth c C
  rw [w_X4_playerOn] at h
  show J p l e rm_X4_playerOn s m args below meth c (QI below E P args s 0 0) E 4 M 0 0 0 [(0, .ref x0), (1, .int x1), (2, .int x2), (3, .int x3)] []
  refine j_aload_n (pc := 0) C 0 dX4_playerOn_0 rfl ?_
  refine gf_X4_24 (pc := 1) C dX4_playerOn_1 h (fun a1 h => ?_)
  refine j_iload_n (pc := 4) C 1 dX4_playerOn_4 rfl ?_
  refine j_iload_n (pc := 5) C 2 dX4_playerOn_5 rfl ?_
  refine cs_X4_52 (pc := 6) C ⟨Nat.le_of_ble_eq_true rfl, Nat.le_of_ble_eq_true rfl⟩ ⟨Nat.le_of_ble_eq_true rfl, Nat.le_of_ble_eq_true rfl⟩ (Nat.le_of_ble_eq_true rfl) dX4_playerOn_6 h (fun r2 M2 h => ?_)
  refine j_iload_n (pc := 9) C 3 dX4_playerOn_9 rfl ?_
  refine j_iadd (pc := 10) C dX4_playerOn_10 ?_
  refine j_iald (pc := 11) C dX4_playerOn_11 h (fun h => ?_)
  exact j_iret (pc := 12) C dX4_playerOn_12 (Nat.le_of_ble_eq_true rfl) (Nat.le_of_ble_eq_true rfl) h
abbrev rm_X4_isConcert : Room := { frames := 0, cells := 0, slots := 0, locals := 0 }
def w_X4_isConcert (M : Mm) (x0 : Nat) (x1 : Int32) (P : Int32 → Mm → Prop) : Prop := (zk M x0 = 4 ∧ ∃ a1, zR M x0 3 = some a1 ∧ zk M a1 = 10 ∧ vp_in x1 (zl M a1) ∧ (if (zI M a1 x1.toNatClampNeg) = (1 : Int32) then ((1 : Int32) = 0 ∨ (1 : Int32) = 1) ∧ P (1 : Int32) M else ((0 : Int32) = 0 ∨ (0 : Int32) = 1) ∧ P (0 : Int32) M))
set_option maxHeartbeats 4000000 in
set_option maxRecDepth 100000 in
theorem c_X4_isConcert (l : Launch) (E : EV) (M : Mm) (x0 : Nat) (x1 : Int32) (P : Int32 → Mm → Prop) (h : w_X4_isConcert M x0 x1 P) : CtI l E yX4_isConcert cX4_isConcert 2 .boolean rm_X4_isConcert 0 0 [.ref x0, .int x1] M P := by
  refine ctI_of (by decide +kernel) (Nat.le_of_ble_eq_true rfl) ?_
  intro p e s m args below meth c C
  rw [w_X4_isConcert] at h
  show J p l e rm_X4_isConcert s m args below meth c (QI below E P args s 0 0) E 2 M 0 0 0 [(0, .ref x0), (1, .int x1)] []
  refine j_aload_n (pc := 0) C 0 dX4_isConcert_0 rfl ?_
  refine gf_X4_18 (pc := 1) C dX4_isConcert_1 h (fun a1 h => ?_)
  refine j_iload_n (pc := 4) C 1 dX4_isConcert_4 rfl ?_
  refine j_iald (pc := 5) C dX4_isConcert_5 h (fun h => ?_)
  refine j_iconst (pc := 6) (v := (1 : Int32)) C dX4_isConcert_6 rfl ?_
  refine j_icmp_ne (pc := 7) C 14 dX4_isConcert_7 (by decide) h (fun h => ?_) (fun h => ?_)
  · refine j_iconst (pc := 14) (v := (0 : Int32)) C dX4_isConcert_14 rfl ?_
    exact j_zret (pc := 15) C dX4_isConcert_15 (Nat.le_of_ble_eq_true rfl) (Nat.le_of_ble_eq_true rfl) h
  · refine j_iconst (pc := 10) (v := (1 : Int32)) C dX4_isConcert_10 rfl ?_
    refine j_goto (pc := 11) C 15 dX4_isConcert_11 (by decide) ?_
    exact j_zret (pc := 15) C dX4_isConcert_15 (Nat.le_of_ble_eq_true rfl) (Nat.le_of_ble_eq_true rfl) h
abbrev rm_X4_playersIn : Room := { frames := 0, cells := 0, slots := 0, locals := 0 }
def l_X4_playersIn_4 (P : Int32 → Mm → Prop) (K42 : Mm → Int32 → Prop) : Nat → Mm → Nat → Int32 → Int32 → Int32 → Prop
  | 0, _, _, _, _, _ => False
  | n + 1, M, x0, x1, x2, x3 => (if (30 : Int32) ≤ x3 then K42 M x2 else (zk M x0 = 4 ∧ ∃ a1, zR M x0 5 = some a1 ∧ zk M a1 = 10 ∧ vp_in ((x1 * (30 : Int32)) + x3) (zl M a1) ∧ (if (zI M a1 ((x1 * (30 : Int32)) + x3).toNatClampNeg) = (-1 : Int32) then l_X4_playersIn_4 P K42 n M x0 x1 x2 (x3 + (1 : Int32)) else l_X4_playersIn_4 P K42 n M x0 x1 (x2 ||| ((1 : Int32) <<< ((zI M a1 ((x1 * (30 : Int32)) + x3).toNatClampNeg) &&& 31))) (x3 + (1 : Int32)))))
set_option maxHeartbeats 4000000 in
set_option maxRecDepth 100000 in
theorem jl_X4_playersIn_4 {P : Int32 → Mm → Prop} {K42 : Mm → Int32 → Prop} (C : Cx p l s m args meth c cX4_playersIn 5 RX4 (some .int) E) (hkc : kc ≤ rm_X4_playersIn.cells ∧ ks ≤ rm_X4_playersIn.slots) (k42 : ∀ M x2, K42 M x2 → J p l e rm_X4_playersIn s m args below meth c (QI below E P args s rm_X4_playersIn.cells rm_X4_playersIn.slots) E 5 M kc ks 42 [(2, .int x2)] []) : ∀ n M x0 x1 x2 x3, l_X4_playersIn_4 P K42 n M x0 x1 x2 x3 → J p l e rm_X4_playersIn s m args below meth c (QI below E P args s rm_X4_playersIn.cells rm_X4_playersIn.slots) E 5 M kc ks 4 [(0, .ref x0), (1, .int x1), (2, .int x2), (3, .int x3)] [] := by
  intro n
  induction n with
  | zero => intro M x0 x1 x2 x3 h; exact h.elim
  | succ n ih =>
    intro M x0 x1 x2 x3 h
    rw [l_X4_playersIn_4] at h
    refine j_iload_n (pc := 4) C 3 dX4_playersIn_4 rfl ?_
    refine j_bipush (pc := 5) (v := (30 : Int32)) C dX4_playersIn_5 rfl ?_
    refine j_icmp_ge (pc := 7) C 42 dX4_playersIn_7 (by decide) h (fun h => ?_) (fun h => ?_)
    · exact j_weak [2] rfl (k42 _ _ h)
    · refine j_aload_n (pc := 10) C 0 dX4_playersIn_10 rfl ?_
      refine gf_X4_24 (pc := 11) C dX4_playersIn_11 h (fun a1 h => ?_)
      refine j_iload_n (pc := 14) C 1 dX4_playersIn_14 rfl ?_
      refine j_bipush (pc := 15) (v := (30 : Int32)) C dX4_playersIn_15 rfl ?_
      refine j_imul (pc := 17) C dX4_playersIn_17 ?_
      refine j_iload_n (pc := 18) C 3 dX4_playersIn_18 rfl ?_
      refine j_iadd (pc := 19) C dX4_playersIn_19 ?_
      refine j_iald (pc := 20) C dX4_playersIn_20 h (fun h => ?_)
      refine j_istore (pc := 21) C [(4, _), (0, _), (1, _), (2, _), (3, _)] dX4_playersIn_21 (by decide) rfl ?_
      refine j_iload (pc := 23) C 0 dX4_playersIn_23 rfl ?_
      refine j_iconst (pc := 25) (v := (-1 : Int32)) C dX4_playersIn_25 rfl ?_
      refine j_icmp_eq (pc := 26) C 36 dX4_playersIn_26 (by decide) h (fun h => ?_) (fun h => ?_)
      · refine j_iinc (pc := 36) (v := (1 : Int32)) C 4 [(3, _), (4, _), (0, _), (1, _), (2, _)] dX4_playersIn_36 rfl rfl (by decide) rfl ?_
        refine j_goto (pc := 39) C 4 dX4_playersIn_39 (by decide) ?_
        exact j_weak [2, 3, 4, 0] rfl (ih _ _ _ _ _ h)
      · refine j_iload_n (pc := 29) C 3 dX4_playersIn_29 rfl ?_
        refine j_iconst (pc := 30) (v := (1 : Int32)) C dX4_playersIn_30 rfl ?_
        refine j_iload (pc := 31) C 0 dX4_playersIn_31 rfl ?_
        refine j_ishl (pc := 33) C dX4_playersIn_33 ?_
        refine j_ior (pc := 34) C dX4_playersIn_34 ?_
        refine j_istore_n (pc := 35) C [(2, _), (4, _), (0, _), (1, _), (3, _)] dX4_playersIn_35 (by decide) rfl ?_
        refine j_iinc (pc := 36) (v := (1 : Int32)) C 4 [(3, _), (2, _), (4, _), (0, _), (1, _)] dX4_playersIn_36 rfl rfl (by decide) rfl ?_
        refine j_goto (pc := 39) C 4 dX4_playersIn_39 (by decide) ?_
        exact j_weak [3, 4, 1, 0] rfl (ih _ _ _ _ _ h)
def w_X4_playersIn (M : Mm) (x0 : Nat) (x1 : Int32) (P : Int32 → Mm → Prop) : Prop := (∃ n4, l_X4_playersIn_4 P (fun M2 x2_2 => P x2_2 M2) n4 M x0 x1 (0 : Int32) (0 : Int32))
set_option maxHeartbeats 4000000 in
set_option maxRecDepth 100000 in
theorem c_X4_playersIn (l : Launch) (E : EV) (M : Mm) (x0 : Nat) (x1 : Int32) (P : Int32 → Mm → Prop) (h : w_X4_playersIn M x0 x1 P) : CtI l E yX4_playersIn cX4_playersIn 5 .int rm_X4_playersIn 0 0 [.ref x0, .int x1] M P := by
  refine ctI_of (by decide +kernel) (Nat.le_of_ble_eq_true rfl) ?_
  intro p e s m args below meth c C
  rw [w_X4_playersIn] at h
  show J p l e rm_X4_playersIn s m args below meth c (QI below E P args s 0 0) E 5 M 0 0 0 [(0, .ref x0), (1, .int x1)] []
  refine j_iconst (pc := 0) (v := (0 : Int32)) C dX4_playersIn_0 rfl ?_
  refine j_istore_n (pc := 1) C [(2, _), (0, _), (1, _)] dX4_playersIn_1 (by decide) rfl ?_
  refine j_iconst (pc := 2) (v := (0 : Int32)) C dX4_playersIn_2 rfl ?_
  refine j_istore_n (pc := 3) C [(3, _), (2, _), (0, _), (1, _)] dX4_playersIn_3 (by decide) rfl ?_
  obtain ⟨n4, h⟩ := h
  refine j_weak [2, 3, 1, 0] rfl (jl_X4_playersIn_4 C ⟨Nat.le_of_ble_eq_true rfl, Nat.le_of_ble_eq_true rfl⟩ (fun M2 x2_2 h => ?_) n4 _ _ _ _ _ h)
  · refine j_iload_n (pc := 42) C 0 dX4_playersIn_42 rfl ?_
    exact j_iret (pc := 43) C dX4_playersIn_43 (Nat.le_of_ble_eq_true rfl) (Nat.le_of_ble_eq_true rfl) h
theorem cs_X4_56 (C : Cx p l s m args meth c cc nL RX4 ret E) {b : Nat} {y0 : Int32} {P : Int32 → Mm → Prop} (hR : rm_X4_playersIn.frames + 1 ≤ R.frames ∧ 8 + (5 + 11) + rm_X4_playersIn.locals ≤ R.locals) (hf : kc ≤ R.cells ∧ ks ≤ R.slots) (hst : (st.map fun v => v.category).sum ≤ 8) (d : decode cc pc = .ok (.invokevirtual 56, 3)) (h : zk M b = 4 ∧ w_X4_playersIn M b y0 P) (kk : ∀ r M', P r M' → J p l e R s m args below meth c Q E nL M' kc ks (pc + 3) lo (.int r :: st)) : J p l e R s m args below meth c Q E nL M kc ks pc lo (.int y0 :: .ref b :: st) :=
  j_cV_I (n := 1) (As := [.int y0]) C co_X4 rfl wd_1130 wd_1131 h.1 (c_X4_playersIn l E M b y0 P h.2) ⟨wd_1132, wd_1129, wd_42, by decide +kernel, by decide +kernel, by decide +kernel⟩ rfl rfl hR hf rfl hst d kk
abbrev rm_X4_playersAt : Room := { frames := 1, cells := 0, slots := 0, locals := 24 }
def l_X4_playersAt_4 (P : Int32 → Mm → Prop) (K36 : Mm → Int32 → Prop) : Nat → Mm → Nat → Int32 → Int32 → Int32 → Prop
  | 0, _, _, _, _, _ => False
  | n + 1, M, x0, x1, x2, x3 => zk M x0 = 4 ∧ (if (zI M x0 0) ≤ x3 then K36 M x2 else (zk M x0 = 4 ∧ ∃ a1, zR M x0 1 = some a1 ∧ zk M a1 = 10 ∧ vp_in x3 (zl M a1) ∧ (if (zI M a1 x3.toNatClampNeg) = x1 then zk M x0 = 4 ∧ w_X4_playersIn M x0 x3 (fun r2 M2 => l_X4_playersAt_4 P K36 n M2 x0 x1 (x2 ||| r2) (x3 + (1 : Int32))) else l_X4_playersAt_4 P K36 n M x0 x1 x2 (x3 + (1 : Int32)))))
set_option maxHeartbeats 4000000 in
set_option maxRecDepth 100000 in
theorem jl_X4_playersAt_4 {P : Int32 → Mm → Prop} {K36 : Mm → Int32 → Prop} (C : Cx p l s m args meth c cX4_playersAt 4 RX4 (some .int) E) (hkc : kc ≤ rm_X4_playersAt.cells ∧ ks ≤ rm_X4_playersAt.slots) (k36 : ∀ M x2, K36 M x2 → J p l e rm_X4_playersAt s m args below meth c (QI below E P args s rm_X4_playersAt.cells rm_X4_playersAt.slots) E 4 M kc ks 36 [(2, .int x2)] []) : ∀ n M x0 x1 x2 x3, l_X4_playersAt_4 P K36 n M x0 x1 x2 x3 → J p l e rm_X4_playersAt s m args below meth c (QI below E P args s rm_X4_playersAt.cells rm_X4_playersAt.slots) E 4 M kc ks 4 [(0, .ref x0), (1, .int x1), (2, .int x2), (3, .int x3)] [] := by
  intro n
  induction n with
  | zero => intro M x0 x1 x2 x3 h; exact h.elim
  | succ n ih =>
    intro M x0 x1 x2 x3 h
    rw [l_X4_playersAt_4] at h
    refine j_iload_n (pc := 4) C 3 dX4_playersAt_4 rfl ?_
    refine j_aload_n (pc := 5) C 0 dX4_playersAt_5 rfl ?_
    refine gf_X4_30 (pc := 6) C dX4_playersAt_6 h (fun h => ?_)
    refine j_icmp_ge (pc := 9) C 36 dX4_playersAt_9 (by decide) h (fun h => ?_) (fun h => ?_)
    · exact j_weak [2] rfl (k36 _ _ h)
    · refine j_aload_n (pc := 12) C 0 dX4_playersAt_12 rfl ?_
      refine gf_X4_9 (pc := 13) C dX4_playersAt_13 h (fun a1 h => ?_)
      refine j_iload_n (pc := 16) C 3 dX4_playersAt_16 rfl ?_
      refine j_iald (pc := 17) C dX4_playersAt_17 h (fun h => ?_)
      refine j_iload_n (pc := 18) C 1 dX4_playersAt_18 rfl ?_
      refine j_icmp_ne (pc := 19) C 30 dX4_playersAt_19 (by decide) h (fun h => ?_) (fun h => ?_)
      · refine j_iinc (pc := 30) (v := (1 : Int32)) C 3 [(3, _), (0, _), (1, _), (2, _)] dX4_playersAt_30 rfl rfl (by decide) rfl ?_
        refine j_goto (pc := 33) C 4 dX4_playersAt_33 (by decide) ?_
        exact j_weak [1, 2, 3, 0] rfl (ih _ _ _ _ _ h)
      · refine j_iload_n (pc := 22) C 2 dX4_playersAt_22 rfl ?_
        refine j_aload_n (pc := 23) C 0 dX4_playersAt_23 rfl ?_
        refine j_iload_n (pc := 24) C 3 dX4_playersAt_24 rfl ?_
        refine cs_X4_56 (pc := 25) C ⟨Nat.le_of_ble_eq_true rfl, Nat.le_of_ble_eq_true rfl⟩ hkc (Nat.le_of_ble_eq_true rfl) dX4_playersAt_25 h (fun r2 M2 h => ?_)
        refine j_ior (pc := 28) C dX4_playersAt_28 ?_
        refine j_istore_n (pc := 29) C [(2, _), (0, _), (1, _), (3, _)] dX4_playersAt_29 (by decide) rfl ?_
        refine j_iinc (pc := 30) (v := (1 : Int32)) C 3 [(3, _), (2, _), (0, _), (1, _)] dX4_playersAt_30 rfl rfl (by decide) rfl ?_
        refine j_goto (pc := 33) C 4 dX4_playersAt_33 (by decide) ?_
        exact j_weak [2, 3, 1, 0] rfl (ih _ _ _ _ _ h)
def w_X4_playersAt (M : Mm) (x0 : Nat) (x1 : Int32) (P : Int32 → Mm → Prop) : Prop := (∃ n4, l_X4_playersAt_4 P (fun M3 x2_3 => P x2_3 M3) n4 M x0 x1 (0 : Int32) (0 : Int32))
set_option maxHeartbeats 4000000 in
set_option maxRecDepth 100000 in
theorem c_X4_playersAt (l : Launch) (E : EV) (M : Mm) (x0 : Nat) (x1 : Int32) (P : Int32 → Mm → Prop) (h : w_X4_playersAt M x0 x1 P) : CtI l E yX4_playersAt cX4_playersAt 4 .int rm_X4_playersAt 0 0 [.ref x0, .int x1] M P := by
  refine ctI_of (by decide +kernel) (Nat.le_of_ble_eq_true rfl) ?_
  intro p e s m args below meth c C
  rw [w_X4_playersAt] at h
  show J p l e rm_X4_playersAt s m args below meth c (QI below E P args s 0 0) E 4 M 0 0 0 [(0, .ref x0), (1, .int x1)] []
  refine j_iconst (pc := 0) (v := (0 : Int32)) C dX4_playersAt_0 rfl ?_
  refine j_istore_n (pc := 1) C [(2, _), (0, _), (1, _)] dX4_playersAt_1 (by decide) rfl ?_
  refine j_iconst (pc := 2) (v := (0 : Int32)) C dX4_playersAt_2 rfl ?_
  refine j_istore_n (pc := 3) C [(3, _), (2, _), (0, _), (1, _)] dX4_playersAt_3 (by decide) rfl ?_
  obtain ⟨n4, h⟩ := h
  refine j_weak [2, 3, 1, 0] rfl (jl_X4_playersAt_4 C ⟨Nat.le_of_ble_eq_true rfl, Nat.le_of_ble_eq_true rfl⟩ (fun M3 x2_3 h => ?_) n4 _ _ _ _ _ h)
  · refine j_iload_n (pc := 36) C 0 dX4_playersAt_36 rfl ?_
    exact j_iret (pc := 37) C dX4_playersAt_37 (Nat.le_of_ble_eq_true rfl) (Nat.le_of_ble_eq_true rfl) h
theorem cs_X4_60 (C : Cx p l s m args meth c cc nL RX4 ret E) {y0 : Int32} {y1 : Int32} {P : Int32 → Mm → Prop} (hR : rm_X7_has.frames + 1 ≤ R.frames ∧ 8 + (2 + 11) + rm_X7_has.locals ≤ R.locals) (hf : kc ≤ R.cells ∧ ks ≤ R.slots) (hst : (st.map fun v => v.category).sum ≤ 8) (d : decode cc pc = .ok (.invokestatic 60, 3)) (h : w_X7_has M y0 y1 P) (kk : ∀ r M', P r M' → J p l e R s m args below meth c Q E nL M' kc ks (pc + 3) lo (.int r :: st)) : J p l e R s m args below meth c Q E nL M kc ks pc lo (.int y1 :: .int y0 :: st) :=
  j_cSN_I (n := 2) (As := [.int y0, .int y1]) C wd_901 (c_X7_has l E M y0 y1 P h) ⟨wd_902, nw_1022, wd_40, by decide +kernel, by decide +kernel, by decide +kernel⟩ rfl rfl hR hf rfl hst d kk
abbrev rm_X4_servicesOf : Room := { frames := 1, cells := 0, slots := 0, locals := 24 }
def l_X4_servicesOf_4 (P : Int32 → Mm → Prop) (K33 : Mm → Int32 → Prop) : Nat → Mm → Nat → Int32 → Int32 → Int32 → Prop
  | 0, _, _, _, _, _ => False
  | n + 1, M, x0, x1, x2, x3 => zk M x0 = 4 ∧ (if (zI M x0 0) ≤ x3 then K33 M x2 else zk M x0 = 4 ∧ w_X4_playersIn M x0 x3 (fun r1 M1 => w_X7_has M1 r1 x1 (fun r2 M2 => (if r2 = 0 then l_X4_servicesOf_4 P K33 n M2 x0 x1 x2 (x3 + (1 : Int32)) else l_X4_servicesOf_4 P K33 n M2 x0 x1 (x2 + (1 : Int32)) (x3 + (1 : Int32))))))
set_option maxHeartbeats 4000000 in
set_option maxRecDepth 100000 in
theorem jl_X4_servicesOf_4 {P : Int32 → Mm → Prop} {K33 : Mm → Int32 → Prop} (C : Cx p l s m args meth c cX4_servicesOf 4 RX4 (some .int) E) (hkc : kc ≤ rm_X4_servicesOf.cells ∧ ks ≤ rm_X4_servicesOf.slots) (k33 : ∀ M x2, K33 M x2 → J p l e rm_X4_servicesOf s m args below meth c (QI below E P args s rm_X4_servicesOf.cells rm_X4_servicesOf.slots) E 4 M kc ks 33 [(2, .int x2)] []) : ∀ n M x0 x1 x2 x3, l_X4_servicesOf_4 P K33 n M x0 x1 x2 x3 → J p l e rm_X4_servicesOf s m args below meth c (QI below E P args s rm_X4_servicesOf.cells rm_X4_servicesOf.slots) E 4 M kc ks 4 [(0, .ref x0), (1, .int x1), (2, .int x2), (3, .int x3)] [] := by
  intro n
  induction n with
  | zero => intro M x0 x1 x2 x3 h; exact h.elim
  | succ n ih =>
    intro M x0 x1 x2 x3 h
    rw [l_X4_servicesOf_4] at h
    refine j_iload_n (pc := 4) C 3 dX4_servicesOf_4 rfl ?_
    refine j_aload_n (pc := 5) C 0 dX4_servicesOf_5 rfl ?_
    refine gf_X4_30 (pc := 6) C dX4_servicesOf_6 h (fun h => ?_)
    refine j_icmp_ge (pc := 9) C 33 dX4_servicesOf_9 (by decide) h (fun h => ?_) (fun h => ?_)
    · exact j_weak [2] rfl (k33 _ _ h)
    · refine j_aload_n (pc := 12) C 0 dX4_servicesOf_12 rfl ?_
      refine j_iload_n (pc := 13) C 3 dX4_servicesOf_13 rfl ?_
      refine cs_X4_56 (pc := 14) C ⟨Nat.le_of_ble_eq_true rfl, Nat.le_of_ble_eq_true rfl⟩ hkc (Nat.le_of_ble_eq_true rfl) dX4_servicesOf_14 h (fun r1 M1 h => ?_)
      refine j_iload_n (pc := 17) C 1 dX4_servicesOf_17 rfl ?_
      refine cs_X4_60 (pc := 18) C ⟨Nat.le_of_ble_eq_true rfl, Nat.le_of_ble_eq_true rfl⟩ hkc (Nat.le_of_ble_eq_true rfl) dX4_servicesOf_18 h (fun r2 M2 h => ?_)
      refine j_if_eq (pc := 21) C 27 dX4_servicesOf_21 (by decide) h (fun h => ?_) (fun h => ?_)
      · refine j_iinc (pc := 27) (v := (1 : Int32)) C 3 [(3, _), (0, _), (1, _), (2, _)] dX4_servicesOf_27 rfl rfl (by decide) rfl ?_
        refine j_goto (pc := 30) C 4 dX4_servicesOf_30 (by decide) ?_
        exact j_weak [1, 2, 3, 0] rfl (ih _ _ _ _ _ h)
      · refine j_iinc (pc := 24) (v := (1 : Int32)) C 2 [(2, _), (0, _), (1, _), (3, _)] dX4_servicesOf_24 rfl rfl (by decide) rfl ?_
        refine j_iinc (pc := 27) (v := (1 : Int32)) C 3 [(3, _), (2, _), (0, _), (1, _)] dX4_servicesOf_27 rfl rfl (by decide) rfl ?_
        refine j_goto (pc := 30) C 4 dX4_servicesOf_30 (by decide) ?_
        exact j_weak [2, 3, 1, 0] rfl (ih _ _ _ _ _ h)
def w_X4_servicesOf (M : Mm) (x0 : Nat) (x1 : Int32) (P : Int32 → Mm → Prop) : Prop := (∃ n4, l_X4_servicesOf_4 P (fun M3 x2_3 => P x2_3 M3) n4 M x0 x1 (0 : Int32) (0 : Int32))
set_option maxHeartbeats 4000000 in
set_option maxRecDepth 100000 in
theorem c_X4_servicesOf (l : Launch) (E : EV) (M : Mm) (x0 : Nat) (x1 : Int32) (P : Int32 → Mm → Prop) (h : w_X4_servicesOf M x0 x1 P) : CtI l E yX4_servicesOf cX4_servicesOf 4 .int rm_X4_servicesOf 0 0 [.ref x0, .int x1] M P := by
  refine ctI_of (by decide +kernel) (Nat.le_of_ble_eq_true rfl) ?_
  intro p e s m args below meth c C
  rw [w_X4_servicesOf] at h
  show J p l e rm_X4_servicesOf s m args below meth c (QI below E P args s 0 0) E 4 M 0 0 0 [(0, .ref x0), (1, .int x1)] []
  refine j_iconst (pc := 0) (v := (0 : Int32)) C dX4_servicesOf_0 rfl ?_
  refine j_istore_n (pc := 1) C [(2, _), (0, _), (1, _)] dX4_servicesOf_1 (by decide) rfl ?_
  refine j_iconst (pc := 2) (v := (0 : Int32)) C dX4_servicesOf_2 rfl ?_
  refine j_istore_n (pc := 3) C [(3, _), (2, _), (0, _), (1, _)] dX4_servicesOf_3 (by decide) rfl ?_
  obtain ⟨n4, h⟩ := h
  refine j_weak [2, 3, 1, 0] rfl (jl_X4_servicesOf_4 C ⟨Nat.le_of_ble_eq_true rfl, Nat.le_of_ble_eq_true rfl⟩ (fun M3 x2_3 h => ?_) n4 _ _ _ _ _ h)
  · refine j_iload_n (pc := 33) C 0 dX4_servicesOf_33 rfl ?_
    exact j_iret (pc := 34) C dX4_servicesOf_34 (Nat.le_of_ble_eq_true rfl) (Nat.le_of_ble_eq_true rfl) h
theorem cs_X4_64 (C : Cx p l s m args meth c cc nL RX4 ret E) {b : Nat} {y0 : Int32} {P : Int32 → Mm → Prop} (hR : rm_X4_servicesOf.frames + 1 ≤ R.frames ∧ 8 + (4 + 11) + rm_X4_servicesOf.locals ≤ R.locals) (hf : kc ≤ R.cells ∧ ks ≤ R.slots) (hst : (st.map fun v => v.category).sum ≤ 8) (d : decode cc pc = .ok (.invokevirtual 64, 3)) (h : zk M b = 4 ∧ w_X4_servicesOf M b y0 P) (kk : ∀ r M', P r M' → J p l e R s m args below meth c Q E nL M' kc ks (pc + 3) lo (.int r :: st)) : J p l e R s m args below meth c Q E nL M kc ks pc lo (.int y0 :: .ref b :: st) :=
  j_cV_I (n := 1) (As := [.int y0]) C co_X4 rfl wd_1290 wd_1291 h.1 (c_X4_servicesOf l E M b y0 P h.2) ⟨wd_1292, wd_1300, wd_42, by decide +kernel, by decide +kernel, by decide +kernel⟩ rfl rfl hR hf rfl hst d kk
abbrev rm_X4_beyondContract : Room := { frames := 2, cells := 0, slots := 0, locals := 47 }
def w_X4_beyondContract (M : Mm) (x0 : Nat) (x1 : Int32) (P : Int32 → Mm → Prop) : Prop := zk M x0 = 4 ∧ w_X4_servicesOf M x0 x1 (fun r1 M1 => (zk M1 x0 = 4 ∧ ∃ a2, zR M1 x0 6 = some a2 ∧ zk M1 a2 = 10 ∧ vp_in x1 (zl M1 a2) ∧ P (r1 - (zI M1 a2 x1.toNatClampNeg)) M1))
set_option maxHeartbeats 4000000 in
set_option maxRecDepth 100000 in
theorem c_X4_beyondContract (l : Launch) (E : EV) (M : Mm) (x0 : Nat) (x1 : Int32) (P : Int32 → Mm → Prop) (h : w_X4_beyondContract M x0 x1 P) : CtI l E yX4_beyondContract cX4_beyondContract 2 .int rm_X4_beyondContract 0 0 [.ref x0, .int x1] M P := by
  refine ctI_of (by decide +kernel) (Nat.le_of_ble_eq_true rfl) ?_
  intro p e s m args below meth c C
  rw [w_X4_beyondContract] at h
  show J p l e rm_X4_beyondContract s m args below meth c (QI below E P args s 0 0) E 2 M 0 0 0 [(0, .ref x0), (1, .int x1)] []
  refine j_aload_n (pc := 0) C 0 dX4_beyondContract_0 rfl ?_
  refine j_iload_n (pc := 1) C 1 dX4_beyondContract_1 rfl ?_
  refine cs_X4_64 (pc := 2) C ⟨Nat.le_of_ble_eq_true rfl, Nat.le_of_ble_eq_true rfl⟩ ⟨Nat.le_of_ble_eq_true rfl, Nat.le_of_ble_eq_true rfl⟩ (Nat.le_of_ble_eq_true rfl) dX4_beyondContract_2 h (fun r1 M1 h => ?_)
  refine j_aload_n (pc := 5) C 0 dX4_beyondContract_5 rfl ?_
  refine gf_X4_27 (pc := 6) C dX4_beyondContract_6 h (fun a2 h => ?_)
  refine j_iload_n (pc := 9) C 1 dX4_beyondContract_9 rfl ?_
  refine j_iald (pc := 10) C dX4_beyondContract_10 h (fun h => ?_)
  refine j_isub (pc := 11) C dX4_beyondContract_11 ?_
  exact j_iret (pc := 12) C dX4_beyondContract_12 (Nat.le_of_ble_eq_true rfl) (Nat.le_of_ble_eq_true rfl) h
theorem cs_X4_67 (C : Cx p l s m args meth c cc nL RX4 ret E) {b : Nat} {y0 : Int32} {P : Int32 → Mm → Prop} (hR : rm_X4_isConcert.frames + 1 ≤ R.frames ∧ 8 + (2 + 11) + rm_X4_isConcert.locals ≤ R.locals) (hf : kc ≤ R.cells ∧ ks ≤ R.slots) (hst : (st.map fun v => v.category).sum ≤ 8) (d : decode cc pc = .ok (.invokevirtual 67, 3)) (h : zk M b = 4 ∧ w_X4_isConcert M b y0 P) (kk : ∀ r M', P r M' → J p l e R s m args below meth c Q E nL M' kc ks (pc + 3) lo (.int r :: st)) : J p l e R s m args below meth c Q E nL M kc ks pc lo (.int y0 :: .ref b :: st) :=
  j_cV_I (n := 1) (As := [.int y0]) C co_X4 rfl wd_1009 wd_1010 h.1 (c_X4_isConcert l E M b y0 P h.2) ⟨wd_1011, wd_1021, wd_42, by decide +kernel, by decide +kernel, by decide +kernel⟩ rfl rfl hR hf rfl hst d kk
abbrev rm_X4_servicesWith : Room := { frames := 1, cells := 0, slots := 0, locals := 21 }
def l_X4_servicesWith_6 (P : Int32 → Mm → Prop) (K59 : Mm → Int32 → Prop) : Nat → Mm → Nat → Int32 → Int32 → Int32 → Int32 → Int32 → Prop
  | 0, _, _, _, _, _, _, _ => False
  | n + 1, M, x0, x1, x2, x3, x4, x5 => zk M x0 = 4 ∧ (if (zI M x0 0) ≤ x5 then K59 M x4 else zk M x0 = 4 ∧ w_X4_isConcert M x0 x5 (fun r1 M1 => (if r1 = x2 then (zk M1 x0 = 4 ∧ ∃ a2, zR M1 x0 4 = some a2 ∧ zk M1 a2 = 10 ∧ vp_in x5 (zl M1 a2) ∧ w_X7_has M1 (zI M1 a2 x5.toNatClampNeg) x1 (fun r3 M3 => (if r3 = 0 then l_X4_servicesWith_6 P K59 n M3 x0 x1 x2 x3 x4 (x5 + (1 : Int32)) else (zk M3 x0 = 4 ∧ ∃ a4, zR M3 x0 1 = some a4 ∧ zk M3 a4 = 10 ∧ vp_in x5 (zl M3 a4) ∧ (if x3 ≤ (zI M3 a4 x5.toNatClampNeg) then l_X4_servicesWith_6 P K59 n M3 x0 x1 x2 x3 x4 (x5 + (1 : Int32)) else l_X4_servicesWith_6 P K59 n M3 x0 x1 x2 x3 (x4 + (1 : Int32)) (x5 + (1 : Int32))))))) else l_X4_servicesWith_6 P K59 n M1 x0 x1 x2 x3 x4 (x5 + (1 : Int32)))))
set_option maxHeartbeats 4000000 in
set_option maxRecDepth 100000 in
theorem jl_X4_servicesWith_6 {P : Int32 → Mm → Prop} {K59 : Mm → Int32 → Prop} (C : Cx p l s m args meth c cX4_servicesWith 6 RX4 (some .int) E) (hkc : kc ≤ rm_X4_servicesWith.cells ∧ ks ≤ rm_X4_servicesWith.slots) (k59 : ∀ M x4, K59 M x4 → J p l e rm_X4_servicesWith s m args below meth c (QI below E P args s rm_X4_servicesWith.cells rm_X4_servicesWith.slots) E 6 M kc ks 59 [(4, .int x4)] []) : ∀ n M x0 x1 x2 x3 x4 x5, l_X4_servicesWith_6 P K59 n M x0 x1 x2 x3 x4 x5 → J p l e rm_X4_servicesWith s m args below meth c (QI below E P args s rm_X4_servicesWith.cells rm_X4_servicesWith.slots) E 6 M kc ks 6 [(0, .ref x0), (1, .int x1), (2, .int x2), (3, .int x3), (4, .int x4), (5, .int x5)] [] := by
  intro n
  induction n with
  | zero => intro M x0 x1 x2 x3 x4 x5 h; exact h.elim
  | succ n ih =>
    intro M x0 x1 x2 x3 x4 x5 h
    rw [l_X4_servicesWith_6] at h
    refine j_iload (pc := 6) C 5 dX4_servicesWith_6 rfl ?_
    refine j_aload_n (pc := 8) C 0 dX4_servicesWith_8 rfl ?_
    refine gf_X4_30 (pc := 9) C dX4_servicesWith_9 h (fun h => ?_)
    refine j_icmp_ge (pc := 12) C 59 dX4_servicesWith_12 (by decide) h (fun h => ?_) (fun h => ?_)
    · exact j_weak [4] rfl (k59 _ _ h)
    · refine j_aload_n (pc := 15) C 0 dX4_servicesWith_15 rfl ?_
      refine j_iload (pc := 16) C 5 dX4_servicesWith_16 rfl ?_
      refine cs_X4_67 (pc := 18) C ⟨Nat.le_of_ble_eq_true rfl, Nat.le_of_ble_eq_true rfl⟩ hkc (Nat.le_of_ble_eq_true rfl) dX4_servicesWith_18 h (fun r1 M1 h => ?_)
      refine j_iload_n (pc := 21) C 2 dX4_servicesWith_21 rfl ?_
      refine j_icmp_ne (pc := 22) C 53 dX4_servicesWith_22 (by decide) h (fun h => ?_) (fun h => ?_)
      · refine j_iinc (pc := 53) (v := (1 : Int32)) C 5 [(5, _), (0, _), (1, _), (2, _), (3, _), (4, _)] dX4_servicesWith_53 rfl rfl (by decide) rfl ?_
        refine j_goto (pc := 56) C 6 dX4_servicesWith_56 (by decide) ?_
        exact j_weak [1, 2, 3, 4, 5, 0] rfl (ih _ _ _ _ _ _ _ h)
      · refine j_aload_n (pc := 25) C 0 dX4_servicesWith_25 rfl ?_
        refine gf_X4_21 (pc := 26) C dX4_servicesWith_26 h (fun a2 h => ?_)
        refine j_iload (pc := 29) C 5 dX4_servicesWith_29 rfl ?_
        refine j_iald (pc := 31) C dX4_servicesWith_31 h (fun h => ?_)
        refine j_iload_n (pc := 32) C 1 dX4_servicesWith_32 rfl ?_
        refine cs_X4_60 (pc := 33) C ⟨Nat.le_of_ble_eq_true rfl, Nat.le_of_ble_eq_true rfl⟩ hkc (Nat.le_of_ble_eq_true rfl) dX4_servicesWith_33 h (fun r3 M3 h => ?_)
        refine j_if_eq (pc := 36) C 53 dX4_servicesWith_36 (by decide) h (fun h => ?_) (fun h => ?_)
        · refine j_iinc (pc := 53) (v := (1 : Int32)) C 5 [(5, _), (0, _), (1, _), (2, _), (3, _), (4, _)] dX4_servicesWith_53 rfl rfl (by decide) rfl ?_
          refine j_goto (pc := 56) C 6 dX4_servicesWith_56 (by decide) ?_
          exact j_weak [1, 2, 3, 4, 5, 0] rfl (ih _ _ _ _ _ _ _ h)
        · refine j_aload_n (pc := 39) C 0 dX4_servicesWith_39 rfl ?_
          refine gf_X4_9 (pc := 40) C dX4_servicesWith_40 h (fun a4 h => ?_)
          refine j_iload (pc := 43) C 5 dX4_servicesWith_43 rfl ?_
          refine j_iald (pc := 45) C dX4_servicesWith_45 h (fun h => ?_)
          refine j_iload_n (pc := 46) C 3 dX4_servicesWith_46 rfl ?_
          refine j_icmp_ge (pc := 47) C 53 dX4_servicesWith_47 (by decide) h (fun h => ?_) (fun h => ?_)
          · refine j_iinc (pc := 53) (v := (1 : Int32)) C 5 [(5, _), (0, _), (1, _), (2, _), (3, _), (4, _)] dX4_servicesWith_53 rfl rfl (by decide) rfl ?_
            refine j_goto (pc := 56) C 6 dX4_servicesWith_56 (by decide) ?_
            exact j_weak [1, 2, 3, 4, 5, 0] rfl (ih _ _ _ _ _ _ _ h)
          · refine j_iinc (pc := 50) (v := (1 : Int32)) C 4 [(4, _), (0, _), (1, _), (2, _), (3, _), (5, _)] dX4_servicesWith_50 rfl rfl (by decide) rfl ?_
            refine j_iinc (pc := 53) (v := (1 : Int32)) C 5 [(5, _), (4, _), (0, _), (1, _), (2, _), (3, _)] dX4_servicesWith_53 rfl rfl (by decide) rfl ?_
            refine j_goto (pc := 56) C 6 dX4_servicesWith_56 (by decide) ?_
            exact j_weak [2, 3, 4, 5, 1, 0] rfl (ih _ _ _ _ _ _ _ h)
def w_X4_servicesWith (M : Mm) (x0 : Nat) (x1 : Int32) (x2 : Int32) (x3 : Int32) (P : Int32 → Mm → Prop) : Prop := (∃ n6, l_X4_servicesWith_6 P (fun M5 x4_5 => P x4_5 M5) n6 M x0 x1 x2 x3 (0 : Int32) (0 : Int32))
set_option maxHeartbeats 4000000 in
set_option maxRecDepth 100000 in
theorem c_X4_servicesWith (l : Launch) (E : EV) (M : Mm) (x0 : Nat) (x1 : Int32) (x2 : Int32) (x3 : Int32) (P : Int32 → Mm → Prop) (h : w_X4_servicesWith M x0 x1 x2 x3 P) : CtI l E yX4_servicesWith cX4_servicesWith 6 .int rm_X4_servicesWith 0 0 [.ref x0, .int x1, .int x2, .int x3] M P := by
  refine ctI_of (by decide +kernel) (Nat.le_of_ble_eq_true rfl) ?_
  intro p e s m args below meth c C
  rw [w_X4_servicesWith] at h
  show J p l e rm_X4_servicesWith s m args below meth c (QI below E P args s 0 0) E 6 M 0 0 0 [(0, .ref x0), (1, .int x1), (2, .int x2), (3, .int x3)] []
  refine j_iconst (pc := 0) (v := (0 : Int32)) C dX4_servicesWith_0 rfl ?_
  refine j_istore (pc := 1) C [(4, _), (0, _), (1, _), (2, _), (3, _)] dX4_servicesWith_1 (by decide) rfl ?_
  refine j_iconst (pc := 3) (v := (0 : Int32)) C dX4_servicesWith_3 rfl ?_
  refine j_istore (pc := 4) C [(5, _), (4, _), (0, _), (1, _), (2, _), (3, _)] dX4_servicesWith_4 (by decide) rfl ?_
  obtain ⟨n6, h⟩ := h
  refine j_weak [2, 3, 4, 5, 1, 0] rfl (jl_X4_servicesWith_6 C ⟨Nat.le_of_ble_eq_true rfl, Nat.le_of_ble_eq_true rfl⟩ (fun M5 x4_5 h => ?_) n6 _ _ _ _ _ _ _ h)
  · refine j_iload (pc := 59) C 0 dX4_servicesWith_59 rfl ?_
    exact j_iret (pc := 61) C dX4_servicesWith_61 (Nat.le_of_ble_eq_true rfl) (Nat.le_of_ble_eq_true rfl) h
abbrev rm_X4_numberAt : Room := { frames := 0, cells := 0, slots := 0, locals := 0 }
def l_X4_numberAt_2 (P : Int32 → Mm → Prop) (K30 : Mm → Int32 → Prop) (K38 : Mm → Prop) : Nat → Mm → Nat → Int32 → Int32 → Int32 → Prop
  | 0, _, _, _, _, _ => False
  | n + 1, M, x0, x1, x2, x3 => zk M x0 = 4 ∧ (if (zI M x0 0) ≤ x3 then K38 M else (zk M x0 = 4 ∧ ∃ a1, zR M x0 2 = some a1 ∧ zk M a1 = 10 ∧ vp_in x3 (zl M a1) ∧ (if (zI M a1 x3.toNatClampNeg) = x1 then (zk M x0 = 4 ∧ ∃ a2, zR M x0 1 = some a2 ∧ zk M a2 = 10 ∧ vp_in x3 (zl M a2) ∧ (if (zI M a2 x3.toNatClampNeg) = x2 then K30 M x3 else l_X4_numberAt_2 P K30 K38 n M x0 x1 x2 (x3 + (1 : Int32)))) else l_X4_numberAt_2 P K30 K38 n M x0 x1 x2 (x3 + (1 : Int32)))))
set_option maxHeartbeats 4000000 in
set_option maxRecDepth 100000 in
theorem jl_X4_numberAt_2 {P : Int32 → Mm → Prop} {K30 : Mm → Int32 → Prop} {K38 : Mm → Prop} (C : Cx p l s m args meth c cX4_numberAt 4 RX4 (some .int) E) (hkc : kc ≤ rm_X4_numberAt.cells ∧ ks ≤ rm_X4_numberAt.slots) (k30 : ∀ M x3, K30 M x3 → J p l e rm_X4_numberAt s m args below meth c (QI below E P args s rm_X4_numberAt.cells rm_X4_numberAt.slots) E 4 M kc ks 30 [(3, .int x3)] []) (k38 : ∀ M, K38 M → J p l e rm_X4_numberAt s m args below meth c (QI below E P args s rm_X4_numberAt.cells rm_X4_numberAt.slots) E 4 M kc ks 38 [] []) : ∀ n M x0 x1 x2 x3, l_X4_numberAt_2 P K30 K38 n M x0 x1 x2 x3 → J p l e rm_X4_numberAt s m args below meth c (QI below E P args s rm_X4_numberAt.cells rm_X4_numberAt.slots) E 4 M kc ks 2 [(0, .ref x0), (1, .int x1), (2, .int x2), (3, .int x3)] [] := by
  intro n
  induction n with
  | zero => intro M x0 x1 x2 x3 h; exact h.elim
  | succ n ih =>
    intro M x0 x1 x2 x3 h
    rw [l_X4_numberAt_2] at h
    refine j_iload_n (pc := 2) C 3 dX4_numberAt_2 rfl ?_
    refine j_aload_n (pc := 3) C 0 dX4_numberAt_3 rfl ?_
    refine gf_X4_30 (pc := 4) C dX4_numberAt_4 h (fun h => ?_)
    refine j_icmp_ge (pc := 7) C 38 dX4_numberAt_7 (by decide) h (fun h => ?_) (fun h => ?_)
    · exact j_weak [] rfl (k38 _ h)
    · refine j_aload_n (pc := 10) C 0 dX4_numberAt_10 rfl ?_
      refine gf_X4_15 (pc := 11) C dX4_numberAt_11 h (fun a1 h => ?_)
      refine j_iload_n (pc := 14) C 3 dX4_numberAt_14 rfl ?_
      refine j_iald (pc := 15) C dX4_numberAt_15 h (fun h => ?_)
      refine j_iload_n (pc := 16) C 1 dX4_numberAt_16 rfl ?_
      refine j_icmp_ne (pc := 17) C 32 dX4_numberAt_17 (by decide) h (fun h => ?_) (fun h => ?_)
      · refine j_iinc (pc := 32) (v := (1 : Int32)) C 3 [(3, _), (0, _), (1, _), (2, _)] dX4_numberAt_32 rfl rfl (by decide) rfl ?_
        refine j_goto (pc := 35) C 2 dX4_numberAt_35 (by decide) ?_
        exact j_weak [1, 2, 3, 0] rfl (ih _ _ _ _ _ h)
      · refine j_aload_n (pc := 20) C 0 dX4_numberAt_20 rfl ?_
        refine gf_X4_9 (pc := 21) C dX4_numberAt_21 h (fun a2 h => ?_)
        refine j_iload_n (pc := 24) C 3 dX4_numberAt_24 rfl ?_
        refine j_iald (pc := 25) C dX4_numberAt_25 h (fun h => ?_)
        refine j_iload_n (pc := 26) C 2 dX4_numberAt_26 rfl ?_
        refine j_icmp_ne (pc := 27) C 32 dX4_numberAt_27 (by decide) h (fun h => ?_) (fun h => ?_)
        · refine j_iinc (pc := 32) (v := (1 : Int32)) C 3 [(3, _), (0, _), (1, _), (2, _)] dX4_numberAt_32 rfl rfl (by decide) rfl ?_
          refine j_goto (pc := 35) C 2 dX4_numberAt_35 (by decide) ?_
          exact j_weak [1, 2, 3, 0] rfl (ih _ _ _ _ _ h)
        · exact j_weak [3] rfl (k30 _ _ h)
def w_X4_numberAt (M : Mm) (x0 : Nat) (x1 : Int32) (x2 : Int32) (P : Int32 → Mm → Prop) : Prop := (∃ n2, l_X4_numberAt_2 P (fun M3 x3_3 => P x3_3 M3) (fun M4 => P (-1 : Int32) M4) n2 M x0 x1 x2 (0 : Int32))
set_option maxHeartbeats 4000000 in
set_option maxRecDepth 100000 in
theorem c_X4_numberAt (l : Launch) (E : EV) (M : Mm) (x0 : Nat) (x1 : Int32) (x2 : Int32) (P : Int32 → Mm → Prop) (h : w_X4_numberAt M x0 x1 x2 P) : CtI l E yX4_numberAt cX4_numberAt 4 .int rm_X4_numberAt 0 0 [.ref x0, .int x1, .int x2] M P := by
  refine ctI_of (by decide +kernel) (Nat.le_of_ble_eq_true rfl) ?_
  intro p e s m args below meth c C
  rw [w_X4_numberAt] at h
  show J p l e rm_X4_numberAt s m args below meth c (QI below E P args s 0 0) E 4 M 0 0 0 [(0, .ref x0), (1, .int x1), (2, .int x2)] []
  refine j_iconst (pc := 0) (v := (0 : Int32)) C dX4_numberAt_0 rfl ?_
  refine j_istore_n (pc := 1) C [(3, _), (0, _), (1, _), (2, _)] dX4_numberAt_1 (by decide) rfl ?_
  obtain ⟨n2, h⟩ := h
  refine j_weak [1, 2, 3, 0] rfl (jl_X4_numberAt_2 C ⟨Nat.le_of_ble_eq_true rfl, Nat.le_of_ble_eq_true rfl⟩ (fun M3 x3_3 h => ?_) (fun M4 h => ?_) n2 _ _ _ _ _ h)
  · refine j_iload_n (pc := 30) C 0 dX4_numberAt_30 rfl ?_
    exact j_iret (pc := 31) C dX4_numberAt_31 (Nat.le_of_ble_eq_true rfl) (Nat.le_of_ble_eq_true rfl) h
  · refine j_iconst (pc := 38) (v := (-1 : Int32)) C dX4_numberAt_38 rfl ?_
    exact j_iret (pc := 39) C dX4_numberAt_39 (Nat.le_of_ble_eq_true rfl) (Nat.le_of_ble_eq_true rfl) h
abbrev rm_X4_isHallTaken : Room := { frames := 1, cells := 0, slots := 0, locals := 22 }
def l_X4_isHallTaken_3 (P : Int32 → Mm → Prop) (K39 : Mm → Prop) (K47 : Mm → Prop) : Nat → Mm → Nat → Int32 → Int32 → Int32 → Int32 → Prop
  | 0, _, _, _, _, _, _ => False
  | n + 1, M, x0, x1, x2, x3, x4 => zk M x0 = 4 ∧ (if (zI M x0 0) ≤ x4 then K47 M else (zk M x0 = 4 ∧ ∃ a1, zR M x0 2 = some a1 ∧ zk M a1 = 10 ∧ vp_in x4 (zl M a1) ∧ (if (zI M a1 x4.toNatClampNeg) = x1 then (zk M x0 = 4 ∧ ∃ a2, zR M x0 1 = some a2 ∧ zk M a2 = 10 ∧ vp_in x4 (zl M a2) ∧ (if x3 < (if 0 ≤ ((zI M a2 x4.toNatClampNeg) - x2) then ((zI M a2 x4.toNatClampNeg) - x2) else 0 - ((zI M a2 x4.toNatClampNeg) - x2)) then l_X4_isHallTaken_3 P K39 K47 n M x0 x1 x2 x3 (x4 + (1 : Int32)) else K39 M)) else l_X4_isHallTaken_3 P K39 K47 n M x0 x1 x2 x3 (x4 + (1 : Int32)))))
set_option maxHeartbeats 4000000 in
set_option maxRecDepth 100000 in
theorem jl_X4_isHallTaken_3 {P : Int32 → Mm → Prop} {K39 : Mm → Prop} {K47 : Mm → Prop} (C : Cx p l s m args meth c cX4_isHallTaken 5 RX4 (some .boolean) E) (hkc : kc ≤ rm_X4_isHallTaken.cells ∧ ks ≤ rm_X4_isHallTaken.slots) (k39 : ∀ M, K39 M → J p l e rm_X4_isHallTaken s m args below meth c (QI below E P args s rm_X4_isHallTaken.cells rm_X4_isHallTaken.slots) E 5 M kc ks 39 [] []) (k47 : ∀ M, K47 M → J p l e rm_X4_isHallTaken s m args below meth c (QI below E P args s rm_X4_isHallTaken.cells rm_X4_isHallTaken.slots) E 5 M kc ks 47 [] []) : ∀ n M x0 x1 x2 x3 x4, l_X4_isHallTaken_3 P K39 K47 n M x0 x1 x2 x3 x4 → J p l e rm_X4_isHallTaken s m args below meth c (QI below E P args s rm_X4_isHallTaken.cells rm_X4_isHallTaken.slots) E 5 M kc ks 3 [(0, .ref x0), (1, .int x1), (2, .int x2), (3, .int x3), (4, .int x4)] [] := by
  intro n
  induction n with
  | zero => intro M x0 x1 x2 x3 x4 h; exact h.elim
  | succ n ih =>
    intro M x0 x1 x2 x3 x4 h
    rw [l_X4_isHallTaken_3] at h
    refine j_iload (pc := 3) C 4 dX4_isHallTaken_3 rfl ?_
    refine j_aload_n (pc := 5) C 0 dX4_isHallTaken_5 rfl ?_
    refine gf_X4_30 (pc := 6) C dX4_isHallTaken_6 h (fun h => ?_)
    refine j_icmp_ge (pc := 9) C 47 dX4_isHallTaken_9 (by decide) h (fun h => ?_) (fun h => ?_)
    · exact j_weak [] rfl (k47 _ h)
    · refine j_aload_n (pc := 12) C 0 dX4_isHallTaken_12 rfl ?_
      refine gf_X4_15 (pc := 13) C dX4_isHallTaken_13 h (fun a1 h => ?_)
      refine j_iload (pc := 16) C 4 dX4_isHallTaken_16 rfl ?_
      refine j_iald (pc := 18) C dX4_isHallTaken_18 h (fun h => ?_)
      refine j_iload_n (pc := 19) C 1 dX4_isHallTaken_19 rfl ?_
      refine j_icmp_ne (pc := 20) C 41 dX4_isHallTaken_20 (by decide) h (fun h => ?_) (fun h => ?_)
      · refine j_iinc (pc := 41) (v := (1 : Int32)) C 4 [(4, _), (0, _), (1, _), (2, _), (3, _)] dX4_isHallTaken_41 rfl rfl (by decide) rfl ?_
        refine j_goto (pc := 44) C 3 dX4_isHallTaken_44 (by decide) ?_
        exact j_weak [1, 2, 3, 4, 0] rfl (ih _ _ _ _ _ _ h)
      · refine j_aload_n (pc := 23) C 0 dX4_isHallTaken_23 rfl ?_
        refine gf_X4_9 (pc := 24) C dX4_isHallTaken_24 h (fun a2 h => ?_)
        refine j_iload (pc := 27) C 4 dX4_isHallTaken_27 rfl ?_
        refine j_iald (pc := 29) C dX4_isHallTaken_29 h (fun h => ?_)
        refine j_iload_n (pc := 30) C 2 dX4_isHallTaken_30 rfl ?_
        refine j_isub (pc := 31) C dX4_isHallTaken_31 ?_
        refine j_mabs (pc := 32) C wd_1116 wd_1053 wd_51 wd_1054 dX4_isHallTaken_32 (Nat.le_of_ble_eq_true rfl) (Nat.le_of_ble_eq_true rfl) hkc ?_
        refine j_iload_n (pc := 35) C 3 dX4_isHallTaken_35 rfl ?_
        refine j_icmp_gt (pc := 36) C 41 dX4_isHallTaken_36 (by decide) h (fun h => ?_) (fun h => ?_)
        · refine j_iinc (pc := 41) (v := (1 : Int32)) C 4 [(4, _), (0, _), (1, _), (2, _), (3, _)] dX4_isHallTaken_41 rfl rfl (by decide) rfl ?_
          refine j_goto (pc := 44) C 3 dX4_isHallTaken_44 (by decide) ?_
          exact j_weak [1, 2, 3, 4, 0] rfl (ih _ _ _ _ _ _ h)
        · exact j_weak [] rfl (k39 _ h)
def w_X4_isHallTaken (M : Mm) (x0 : Nat) (x1 : Int32) (x2 : Int32) (x3 : Int32) (P : Int32 → Mm → Prop) : Prop := (∃ n3, l_X4_isHallTaken_3 P (fun M3 => ((1 : Int32) = 0 ∨ (1 : Int32) = 1) ∧ P (1 : Int32) M3) (fun M4 => ((0 : Int32) = 0 ∨ (0 : Int32) = 1) ∧ P (0 : Int32) M4) n3 M x0 x1 x2 x3 (0 : Int32))
set_option maxHeartbeats 4000000 in
set_option maxRecDepth 100000 in
theorem c_X4_isHallTaken (l : Launch) (E : EV) (M : Mm) (x0 : Nat) (x1 : Int32) (x2 : Int32) (x3 : Int32) (P : Int32 → Mm → Prop) (h : w_X4_isHallTaken M x0 x1 x2 x3 P) : CtI l E yX4_isHallTaken cX4_isHallTaken 5 .boolean rm_X4_isHallTaken 0 0 [.ref x0, .int x1, .int x2, .int x3] M P := by
  refine ctI_of (by decide +kernel) (Nat.le_of_ble_eq_true rfl) ?_
  intro p e s m args below meth c C
  rw [w_X4_isHallTaken] at h
  show J p l e rm_X4_isHallTaken s m args below meth c (QI below E P args s 0 0) E 5 M 0 0 0 [(0, .ref x0), (1, .int x1), (2, .int x2), (3, .int x3)] []
  refine j_iconst (pc := 0) (v := (0 : Int32)) C dX4_isHallTaken_0 rfl ?_
  refine j_istore (pc := 1) C [(4, _), (0, _), (1, _), (2, _), (3, _)] dX4_isHallTaken_1 (by decide) rfl ?_
  obtain ⟨n3, h⟩ := h
  refine j_weak [1, 2, 3, 4, 0] rfl (jl_X4_isHallTaken_3 C ⟨Nat.le_of_ble_eq_true rfl, Nat.le_of_ble_eq_true rfl⟩ (fun M3 h => ?_) (fun M4 h => ?_) n3 _ _ _ _ _ _ h)
  · refine j_iconst (pc := 39) (v := (1 : Int32)) C dX4_isHallTaken_39 rfl ?_
    exact j_zret (pc := 40) C dX4_isHallTaken_40 (Nat.le_of_ble_eq_true rfl) (Nat.le_of_ble_eq_true rfl) h
  · refine j_iconst (pc := 47) (v := (0 : Int32)) C dX4_isHallTaken_47 rfl ?_
    exact j_zret (pc := 48) C dX4_isHallTaken_48 (Nat.le_of_ble_eq_true rfl) (Nat.le_of_ble_eq_true rfl) h
abbrev rm_X4_sharesPlayers : Room := { frames := 1, cells := 0, slots := 0, locals := 24 }
def l_X4_sharesPlayers_2 (P : Int32 → Mm → Prop) (K44 : Mm → Prop) (K52 : Mm → Prop) : Nat → Mm → Nat → Int32 → Int32 → Prop
  | 0, _, _, _, _ => False
  | n + 1, M, x0, x1, x2 => zk M x0 = 4 ∧ (if (zI M x0 0) ≤ x2 then K52 M else (if x2 = x1 then l_X4_sharesPlayers_2 P K44 K52 n M x0 x1 (x2 + (1 : Int32)) else (zk M x0 = 4 ∧ ∃ a1, zR M x0 1 = some a1 ∧ zk M a1 = 10 ∧ vp_in x2 (zl M a1) ∧ (zk M x0 = 4 ∧ ∃ a2, zR M x0 1 = some a2 ∧ zk M a2 = 10 ∧ vp_in x1 (zl M a2) ∧ (if (zI M a1 x2.toNatClampNeg) = (zI M a2 x1.toNatClampNeg) then zk M x0 = 4 ∧ w_X4_playersIn M x0 x2 (fun r3 M3 => zk M3 x0 = 4 ∧ w_X4_playersIn M3 x0 x1 (fun r4 M4 => (if (r3 &&& r4) = 0 then l_X4_sharesPlayers_2 P K44 K52 n M4 x0 x1 (x2 + (1 : Int32)) else K44 M4))) else l_X4_sharesPlayers_2 P K44 K52 n M x0 x1 (x2 + (1 : Int32)))))))
set_option maxHeartbeats 4000000 in
set_option maxRecDepth 100000 in
theorem jl_X4_sharesPlayers_2 {P : Int32 → Mm → Prop} {K44 : Mm → Prop} {K52 : Mm → Prop} (C : Cx p l s m args meth c cX4_sharesPlayers 3 RX4 (some .boolean) E) (hkc : kc ≤ rm_X4_sharesPlayers.cells ∧ ks ≤ rm_X4_sharesPlayers.slots) (k44 : ∀ M, K44 M → J p l e rm_X4_sharesPlayers s m args below meth c (QI below E P args s rm_X4_sharesPlayers.cells rm_X4_sharesPlayers.slots) E 3 M kc ks 44 [] []) (k52 : ∀ M, K52 M → J p l e rm_X4_sharesPlayers s m args below meth c (QI below E P args s rm_X4_sharesPlayers.cells rm_X4_sharesPlayers.slots) E 3 M kc ks 52 [] []) : ∀ n M x0 x1 x2, l_X4_sharesPlayers_2 P K44 K52 n M x0 x1 x2 → J p l e rm_X4_sharesPlayers s m args below meth c (QI below E P args s rm_X4_sharesPlayers.cells rm_X4_sharesPlayers.slots) E 3 M kc ks 2 [(0, .ref x0), (1, .int x1), (2, .int x2)] [] := by
  intro n
  induction n with
  | zero => intro M x0 x1 x2 h; exact h.elim
  | succ n ih =>
    intro M x0 x1 x2 h
    rw [l_X4_sharesPlayers_2] at h
    refine j_iload_n (pc := 2) C 2 dX4_sharesPlayers_2 rfl ?_
    refine j_aload_n (pc := 3) C 0 dX4_sharesPlayers_3 rfl ?_
    refine gf_X4_30 (pc := 4) C dX4_sharesPlayers_4 h (fun h => ?_)
    refine j_icmp_ge (pc := 7) C 52 dX4_sharesPlayers_7 (by decide) h (fun h => ?_) (fun h => ?_)
    · exact j_weak [] rfl (k52 _ h)
    · refine j_iload_n (pc := 10) C 2 dX4_sharesPlayers_10 rfl ?_
      refine j_iload_n (pc := 11) C 1 dX4_sharesPlayers_11 rfl ?_
      refine j_icmp_eq (pc := 12) C 46 dX4_sharesPlayers_12 (by decide) h (fun h => ?_) (fun h => ?_)
      · refine j_iinc (pc := 46) (v := (1 : Int32)) C 2 [(2, _), (0, _), (1, _)] dX4_sharesPlayers_46 rfl rfl (by decide) rfl ?_
        refine j_goto (pc := 49) C 2 dX4_sharesPlayers_49 (by decide) ?_
        exact j_weak [1, 2, 0] rfl (ih _ _ _ _ h)
      · refine j_aload_n (pc := 15) C 0 dX4_sharesPlayers_15 rfl ?_
        refine gf_X4_9 (pc := 16) C dX4_sharesPlayers_16 h (fun a1 h => ?_)
        refine j_iload_n (pc := 19) C 2 dX4_sharesPlayers_19 rfl ?_
        refine j_iald (pc := 20) C dX4_sharesPlayers_20 h (fun h => ?_)
        refine j_aload_n (pc := 21) C 0 dX4_sharesPlayers_21 rfl ?_
        refine gf_X4_9 (pc := 22) C dX4_sharesPlayers_22 h (fun a2 h => ?_)
        refine j_iload_n (pc := 25) C 1 dX4_sharesPlayers_25 rfl ?_
        refine j_iald (pc := 26) C dX4_sharesPlayers_26 h (fun h => ?_)
        refine j_icmp_ne (pc := 27) C 46 dX4_sharesPlayers_27 (by decide) h (fun h => ?_) (fun h => ?_)
        · refine j_iinc (pc := 46) (v := (1 : Int32)) C 2 [(2, _), (0, _), (1, _)] dX4_sharesPlayers_46 rfl rfl (by decide) rfl ?_
          refine j_goto (pc := 49) C 2 dX4_sharesPlayers_49 (by decide) ?_
          exact j_weak [1, 2, 0] rfl (ih _ _ _ _ h)
        · refine j_aload_n (pc := 30) C 0 dX4_sharesPlayers_30 rfl ?_
          refine j_iload_n (pc := 31) C 2 dX4_sharesPlayers_31 rfl ?_
          refine cs_X4_56 (pc := 32) C ⟨Nat.le_of_ble_eq_true rfl, Nat.le_of_ble_eq_true rfl⟩ hkc (Nat.le_of_ble_eq_true rfl) dX4_sharesPlayers_32 h (fun r3 M3 h => ?_)
          refine j_aload_n (pc := 35) C 0 dX4_sharesPlayers_35 rfl ?_
          refine j_iload_n (pc := 36) C 1 dX4_sharesPlayers_36 rfl ?_
          refine cs_X4_56 (pc := 37) C ⟨Nat.le_of_ble_eq_true rfl, Nat.le_of_ble_eq_true rfl⟩ hkc (Nat.le_of_ble_eq_true rfl) dX4_sharesPlayers_37 h (fun r4 M4 h => ?_)
          refine j_iand (pc := 40) C dX4_sharesPlayers_40 ?_
          refine j_if_eq (pc := 41) C 46 dX4_sharesPlayers_41 (by decide) h (fun h => ?_) (fun h => ?_)
          · refine j_iinc (pc := 46) (v := (1 : Int32)) C 2 [(2, _), (0, _), (1, _)] dX4_sharesPlayers_46 rfl rfl (by decide) rfl ?_
            refine j_goto (pc := 49) C 2 dX4_sharesPlayers_49 (by decide) ?_
            exact j_weak [1, 2, 0] rfl (ih _ _ _ _ h)
          · exact j_weak [] rfl (k44 _ h)
def w_X4_sharesPlayers (M : Mm) (x0 : Nat) (x1 : Int32) (P : Int32 → Mm → Prop) : Prop := (∃ n2, l_X4_sharesPlayers_2 P (fun M5 => ((1 : Int32) = 0 ∨ (1 : Int32) = 1) ∧ P (1 : Int32) M5) (fun M6 => ((0 : Int32) = 0 ∨ (0 : Int32) = 1) ∧ P (0 : Int32) M6) n2 M x0 x1 (0 : Int32))
set_option maxHeartbeats 4000000 in
set_option maxRecDepth 100000 in
theorem c_X4_sharesPlayers (l : Launch) (E : EV) (M : Mm) (x0 : Nat) (x1 : Int32) (P : Int32 → Mm → Prop) (h : w_X4_sharesPlayers M x0 x1 P) : CtI l E yX4_sharesPlayers cX4_sharesPlayers 3 .boolean rm_X4_sharesPlayers 0 0 [.ref x0, .int x1] M P := by
  refine ctI_of (by decide +kernel) (Nat.le_of_ble_eq_true rfl) ?_
  intro p e s m args below meth c C
  rw [w_X4_sharesPlayers] at h
  show J p l e rm_X4_sharesPlayers s m args below meth c (QI below E P args s 0 0) E 3 M 0 0 0 [(0, .ref x0), (1, .int x1)] []
  refine j_iconst (pc := 0) (v := (0 : Int32)) C dX4_sharesPlayers_0 rfl ?_
  refine j_istore_n (pc := 1) C [(2, _), (0, _), (1, _)] dX4_sharesPlayers_1 (by decide) rfl ?_
  obtain ⟨n2, h⟩ := h
  refine j_weak [1, 2, 0] rfl (jl_X4_sharesPlayers_2 C ⟨Nat.le_of_ble_eq_true rfl, Nat.le_of_ble_eq_true rfl⟩ (fun M5 h => ?_) (fun M6 h => ?_) n2 _ _ _ _ h)
  · refine j_iconst (pc := 44) (v := (1 : Int32)) C dX4_sharesPlayers_44 rfl ?_
    exact j_zret (pc := 45) C dX4_sharesPlayers_45 (Nat.le_of_ble_eq_true rfl) (Nat.le_of_ble_eq_true rfl) h
  · refine j_iconst (pc := 52) (v := (0 : Int32)) C dX4_sharesPlayers_52 rfl ?_
    exact j_zret (pc := 53) C dX4_sharesPlayers_53 (Nat.le_of_ble_eq_true rfl) (Nat.le_of_ble_eq_true rfl) h
theorem cs_X4_76 (C : Cx p l s m args meth c cc nL RX4 ret E) {b : Nat} {y0 : Int32} {y1 : Int32} {y2 : Int32} {P : Int32 → Mm → Prop} (hR : rm_X4_playerOn.frames + 1 ≤ R.frames ∧ 8 + (4 + 11) + rm_X4_playerOn.locals ≤ R.locals) (hf : kc ≤ R.cells ∧ ks ≤ R.slots) (hst : (st.map fun v => v.category).sum ≤ 8) (d : decode cc pc = .ok (.invokevirtual 76, 3)) (h : zk M b = 4 ∧ w_X4_playerOn M b y0 y1 y2 P) (kk : ∀ r M', P r M' → J p l e R s m args below meth c Q E nL M' kc ks (pc + 3) lo (.int r :: st)) : J p l e R s m args below meth c Q E nL M kc ks pc lo (.int y2 :: .int y1 :: .int y0 :: .ref b :: st) :=
  j_cV_I (n := 3) (As := [.int y0, .int y1, .int y2]) C co_X4 rfl wd_1212 wd_1213 h.1 (c_X4_playerOn l E M b y0 y1 y2 P h.2) ⟨wd_1214, wd_1277, wd_42, by decide +kernel, by decide +kernel, by decide +kernel⟩ rfl rfl hR hf rfl hst d kk
abbrev rm_X4_hasPlayerTwice : Room := { frames := 2, cells := 0, slots := 0, locals := 44 }
def l_X4_hasPlayerTwice_12 (P : Int32 → Mm → Prop) (K44 : Mm → Prop) (K69 : Mm → Nat → Int32 → Int32 → Prop) : Nat → Mm → Nat → Int32 → Int32 → Int32 → Int32 → Prop
  | 0, _, _, _, _, _, _ => False
  | n + 1, M, x0, x1, x2, x3, x4 => (if (6 : Int32) ≤ x4 then K69 M x0 x1 x2 else zk M x0 = 4 ∧ w_X4_playerOn M x0 x1 x2 x4 (fun r1 M1 => (if r1 = (-1 : Int32) then (if r1 = (-1 : Int32) then l_X4_hasPlayerTwice_12 P K44 K69 n M1 x0 x1 x2 (x3 ||| (0 : Int32)) (x4 + (1 : Int32)) else l_X4_hasPlayerTwice_12 P K44 K69 n M1 x0 x1 x2 (x3 ||| ((1 : Int32) <<< (r1 &&& 31))) (x4 + (1 : Int32))) else w_X7_has M1 x3 r1 (fun r2 M2 => (if r2 = 0 then (if r1 = (-1 : Int32) then l_X4_hasPlayerTwice_12 P K44 K69 n M2 x0 x1 x2 (x3 ||| (0 : Int32)) (x4 + (1 : Int32)) else l_X4_hasPlayerTwice_12 P K44 K69 n M2 x0 x1 x2 (x3 ||| ((1 : Int32) <<< (r1 &&& 31))) (x4 + (1 : Int32))) else K44 M2)))))
set_option maxHeartbeats 4000000 in
set_option maxRecDepth 100000 in
theorem jl_X4_hasPlayerTwice_12 {P : Int32 → Mm → Prop} {K44 : Mm → Prop} {K69 : Mm → Nat → Int32 → Int32 → Prop} (C : Cx p l s m args meth c cX4_hasPlayerTwice 6 RX4 (some .boolean) E) (hkc : kc ≤ rm_X4_hasPlayerTwice.cells ∧ ks ≤ rm_X4_hasPlayerTwice.slots) (k44 : ∀ M, K44 M → J p l e rm_X4_hasPlayerTwice s m args below meth c (QI below E P args s rm_X4_hasPlayerTwice.cells rm_X4_hasPlayerTwice.slots) E 6 M kc ks 44 [] []) (k69 : ∀ M x0 x1 x2, K69 M x0 x1 x2 → J p l e rm_X4_hasPlayerTwice s m args below meth c (QI below E P args s rm_X4_hasPlayerTwice.cells rm_X4_hasPlayerTwice.slots) E 6 M kc ks 69 [(0, .ref x0), (1, .int x1), (2, .int x2)] []) : ∀ n M x0 x1 x2 x3 x4, l_X4_hasPlayerTwice_12 P K44 K69 n M x0 x1 x2 x3 x4 → J p l e rm_X4_hasPlayerTwice s m args below meth c (QI below E P args s rm_X4_hasPlayerTwice.cells rm_X4_hasPlayerTwice.slots) E 6 M kc ks 12 [(0, .ref x0), (1, .int x1), (2, .int x2), (3, .int x3), (4, .int x4)] [] := by
  intro n
  induction n with
  | zero => intro M x0 x1 x2 x3 x4 h; exact h.elim
  | succ n ih =>
    intro M x0 x1 x2 x3 x4 h
    rw [l_X4_hasPlayerTwice_12] at h
    refine j_iload (pc := 12) C 4 dX4_hasPlayerTwice_12 rfl ?_
    refine j_bipush (pc := 14) (v := (6 : Int32)) C dX4_hasPlayerTwice_14 rfl ?_
    refine j_icmp_ge (pc := 16) C 69 dX4_hasPlayerTwice_16 (by decide) h (fun h => ?_) (fun h => ?_)
    · exact j_weak [0, 1, 2] rfl (k69 _ _ _ _ h)
    · refine j_aload_n (pc := 19) C 0 dX4_hasPlayerTwice_19 rfl ?_
      refine j_iload_n (pc := 20) C 1 dX4_hasPlayerTwice_20 rfl ?_
      refine j_iload_n (pc := 21) C 2 dX4_hasPlayerTwice_21 rfl ?_
      refine j_iload (pc := 22) C 4 dX4_hasPlayerTwice_22 rfl ?_
      refine cs_X4_76 (pc := 24) C ⟨Nat.le_of_ble_eq_true rfl, Nat.le_of_ble_eq_true rfl⟩ hkc (Nat.le_of_ble_eq_true rfl) dX4_hasPlayerTwice_24 h (fun r1 M1 h => ?_)
      refine j_istore (pc := 27) C [(5, _), (0, _), (1, _), (2, _), (3, _), (4, _)] dX4_hasPlayerTwice_27 (by decide) rfl ?_
      refine j_iload (pc := 29) C 0 dX4_hasPlayerTwice_29 rfl ?_
      refine j_iconst (pc := 31) (v := (-1 : Int32)) C dX4_hasPlayerTwice_31 rfl ?_
      refine j_icmp_eq (pc := 32) C 46 dX4_hasPlayerTwice_32 (by decide) h (fun h => ?_) (fun h => ?_)
      · refine j_iload_n (pc := 46) C 4 dX4_hasPlayerTwice_46 rfl ?_
        refine j_iload (pc := 47) C 0 dX4_hasPlayerTwice_47 rfl ?_
        refine j_iconst (pc := 49) (v := (-1 : Int32)) C dX4_hasPlayerTwice_49 rfl ?_
        refine j_icmp_ne (pc := 50) C 57 dX4_hasPlayerTwice_50 (by decide) h (fun h => ?_) (fun h => ?_)
        · refine j_iconst (pc := 57) (v := (1 : Int32)) C dX4_hasPlayerTwice_57 rfl ?_
          refine j_iload (pc := 58) C 0 dX4_hasPlayerTwice_58 rfl ?_
          refine j_ishl (pc := 60) C dX4_hasPlayerTwice_60 ?_
          refine j_ior (pc := 61) C dX4_hasPlayerTwice_61 ?_
          refine j_istore_n (pc := 62) C [(3, _), (5, _), (0, _), (1, _), (2, _), (4, _)] dX4_hasPlayerTwice_62 (by decide) rfl ?_
          refine j_iinc (pc := 63) (v := (1 : Int32)) C 5 [(4, _), (3, _), (5, _), (0, _), (1, _), (2, _)] dX4_hasPlayerTwice_63 rfl rfl (by decide) rfl ?_
          refine j_goto (pc := 66) C 12 dX4_hasPlayerTwice_66 (by decide) ?_
          exact j_weak [3, 4, 5, 1, 0] rfl (ih _ _ _ _ _ _ h)
        · refine j_iconst (pc := 53) (v := (0 : Int32)) C dX4_hasPlayerTwice_53 rfl ?_
          refine j_goto (pc := 54) C 61 dX4_hasPlayerTwice_54 (by decide) ?_
          refine j_ior (pc := 61) C dX4_hasPlayerTwice_61 ?_
          refine j_istore_n (pc := 62) C [(3, _), (5, _), (0, _), (1, _), (2, _), (4, _)] dX4_hasPlayerTwice_62 (by decide) rfl ?_
          refine j_iinc (pc := 63) (v := (1 : Int32)) C 5 [(4, _), (3, _), (5, _), (0, _), (1, _), (2, _)] dX4_hasPlayerTwice_63 rfl rfl (by decide) rfl ?_
          refine j_goto (pc := 66) C 12 dX4_hasPlayerTwice_66 (by decide) ?_
          exact j_weak [3, 4, 5, 1, 0] rfl (ih _ _ _ _ _ _ h)
      · refine j_iload_n (pc := 35) C 4 dX4_hasPlayerTwice_35 rfl ?_
        refine j_iload (pc := 36) C 0 dX4_hasPlayerTwice_36 rfl ?_
        refine cs_X4_60 (pc := 38) C ⟨Nat.le_of_ble_eq_true rfl, Nat.le_of_ble_eq_true rfl⟩ hkc (Nat.le_of_ble_eq_true rfl) dX4_hasPlayerTwice_38 h (fun r2 M2 h => ?_)
        refine j_if_eq (pc := 41) C 46 dX4_hasPlayerTwice_41 (by decide) h (fun h => ?_) (fun h => ?_)
        · refine j_iload_n (pc := 46) C 4 dX4_hasPlayerTwice_46 rfl ?_
          refine j_iload (pc := 47) C 0 dX4_hasPlayerTwice_47 rfl ?_
          refine j_iconst (pc := 49) (v := (-1 : Int32)) C dX4_hasPlayerTwice_49 rfl ?_
          refine j_icmp_ne (pc := 50) C 57 dX4_hasPlayerTwice_50 (by decide) h (fun h => ?_) (fun h => ?_)
          · refine j_iconst (pc := 57) (v := (1 : Int32)) C dX4_hasPlayerTwice_57 rfl ?_
            refine j_iload (pc := 58) C 0 dX4_hasPlayerTwice_58 rfl ?_
            refine j_ishl (pc := 60) C dX4_hasPlayerTwice_60 ?_
            refine j_ior (pc := 61) C dX4_hasPlayerTwice_61 ?_
            refine j_istore_n (pc := 62) C [(3, _), (5, _), (0, _), (1, _), (2, _), (4, _)] dX4_hasPlayerTwice_62 (by decide) rfl ?_
            refine j_iinc (pc := 63) (v := (1 : Int32)) C 5 [(4, _), (3, _), (5, _), (0, _), (1, _), (2, _)] dX4_hasPlayerTwice_63 rfl rfl (by decide) rfl ?_
            refine j_goto (pc := 66) C 12 dX4_hasPlayerTwice_66 (by decide) ?_
            exact j_weak [3, 4, 5, 1, 0] rfl (ih _ _ _ _ _ _ h)
          · refine j_iconst (pc := 53) (v := (0 : Int32)) C dX4_hasPlayerTwice_53 rfl ?_
            refine j_goto (pc := 54) C 61 dX4_hasPlayerTwice_54 (by decide) ?_
            refine j_ior (pc := 61) C dX4_hasPlayerTwice_61 ?_
            refine j_istore_n (pc := 62) C [(3, _), (5, _), (0, _), (1, _), (2, _), (4, _)] dX4_hasPlayerTwice_62 (by decide) rfl ?_
            refine j_iinc (pc := 63) (v := (1 : Int32)) C 5 [(4, _), (3, _), (5, _), (0, _), (1, _), (2, _)] dX4_hasPlayerTwice_63 rfl rfl (by decide) rfl ?_
            refine j_goto (pc := 66) C 12 dX4_hasPlayerTwice_66 (by decide) ?_
            exact j_weak [3, 4, 5, 1, 0] rfl (ih _ _ _ _ _ _ h)
        · exact j_weak [] rfl (k44 _ h)
def l_X4_hasPlayerTwice_2 (P : Int32 → Mm → Prop) (K44 : Mm → Prop) (K75 : Mm → Prop) : Nat → Mm → Nat → Int32 → Int32 → Prop
  | 0, _, _, _, _ => False
  | n + 1, M, x0, x1, x2 => (if (5 : Int32) ≤ x2 then K75 M else (∃ n12, l_X4_hasPlayerTwice_12 P (fun M3 => K44 M3) (fun M4 x0_4 x1_4 x2_4 => l_X4_hasPlayerTwice_2 P K44 K75 n M4 x0_4 x1_4 (x2_4 + (1 : Int32))) n12 M x0 x1 x2 (0 : Int32) (0 : Int32)))
set_option maxHeartbeats 4000000 in
set_option maxRecDepth 100000 in
theorem jl_X4_hasPlayerTwice_2 {P : Int32 → Mm → Prop} {K44 : Mm → Prop} {K75 : Mm → Prop} (C : Cx p l s m args meth c cX4_hasPlayerTwice 6 RX4 (some .boolean) E) (hkc : kc ≤ rm_X4_hasPlayerTwice.cells ∧ ks ≤ rm_X4_hasPlayerTwice.slots) (k44 : ∀ M, K44 M → J p l e rm_X4_hasPlayerTwice s m args below meth c (QI below E P args s rm_X4_hasPlayerTwice.cells rm_X4_hasPlayerTwice.slots) E 6 M kc ks 44 [] []) (k75 : ∀ M, K75 M → J p l e rm_X4_hasPlayerTwice s m args below meth c (QI below E P args s rm_X4_hasPlayerTwice.cells rm_X4_hasPlayerTwice.slots) E 6 M kc ks 75 [] []) : ∀ n M x0 x1 x2, l_X4_hasPlayerTwice_2 P K44 K75 n M x0 x1 x2 → J p l e rm_X4_hasPlayerTwice s m args below meth c (QI below E P args s rm_X4_hasPlayerTwice.cells rm_X4_hasPlayerTwice.slots) E 6 M kc ks 2 [(0, .ref x0), (1, .int x1), (2, .int x2)] [] := by
  intro n
  induction n with
  | zero => intro M x0 x1 x2 h; exact h.elim
  | succ n ih =>
    intro M x0 x1 x2 h
    rw [l_X4_hasPlayerTwice_2] at h
    refine j_iload_n (pc := 2) C 2 dX4_hasPlayerTwice_2 rfl ?_
    refine j_iconst (pc := 3) (v := (5 : Int32)) C dX4_hasPlayerTwice_3 rfl ?_
    refine j_icmp_ge (pc := 4) C 75 dX4_hasPlayerTwice_4 (by decide) h (fun h => ?_) (fun h => ?_)
    · exact j_weak [] rfl (k75 _ h)
    · refine j_iconst (pc := 7) (v := (0 : Int32)) C dX4_hasPlayerTwice_7 rfl ?_
      refine j_istore_n (pc := 8) C [(3, _), (0, _), (1, _), (2, _)] dX4_hasPlayerTwice_8 (by decide) rfl ?_
      refine j_iconst (pc := 9) (v := (0 : Int32)) C dX4_hasPlayerTwice_9 rfl ?_
      refine j_istore (pc := 10) C [(4, _), (3, _), (0, _), (1, _), (2, _)] dX4_hasPlayerTwice_10 (by decide) rfl ?_
      obtain ⟨n12, h⟩ := h
      refine j_weak [2, 3, 4, 1, 0] rfl (jl_X4_hasPlayerTwice_12 C hkc (fun M3 h => ?_) (fun M4 x0_4 x1_4 x2_4 h => ?_) n12 _ _ _ _ _ _ h)
      · exact j_weak [] rfl (k44 _ h)
      · refine j_iinc (pc := 69) (v := (1 : Int32)) C 2 [(2, _), (0, _), (1, _)] dX4_hasPlayerTwice_69 rfl rfl (by decide) rfl ?_
        refine j_goto (pc := 72) C 2 dX4_hasPlayerTwice_72 (by decide) ?_
        exact j_weak [1, 2, 0] rfl (ih _ _ _ _ h)
def w_X4_hasPlayerTwice (M : Mm) (x0 : Nat) (x1 : Int32) (P : Int32 → Mm → Prop) : Prop := (∃ n2, l_X4_hasPlayerTwice_2 P (fun M5 => ((1 : Int32) = 0 ∨ (1 : Int32) = 1) ∧ P (1 : Int32) M5) (fun M6 => ((0 : Int32) = 0 ∨ (0 : Int32) = 1) ∧ P (0 : Int32) M6) n2 M x0 x1 (0 : Int32))
set_option maxHeartbeats 4000000 in
set_option maxRecDepth 100000 in
theorem c_X4_hasPlayerTwice (l : Launch) (E : EV) (M : Mm) (x0 : Nat) (x1 : Int32) (P : Int32 → Mm → Prop) (h : w_X4_hasPlayerTwice M x0 x1 P) : CtI l E yX4_hasPlayerTwice cX4_hasPlayerTwice 6 .boolean rm_X4_hasPlayerTwice 0 0 [.ref x0, .int x1] M P := by
  refine ctI_of (by decide +kernel) (Nat.le_of_ble_eq_true rfl) ?_
  intro p e s m args below meth c C
  rw [w_X4_hasPlayerTwice] at h
  show J p l e rm_X4_hasPlayerTwice s m args below meth c (QI below E P args s 0 0) E 6 M 0 0 0 [(0, .ref x0), (1, .int x1)] []
  refine j_iconst (pc := 0) (v := (0 : Int32)) C dX4_hasPlayerTwice_0 rfl ?_
  refine j_istore_n (pc := 1) C [(2, _), (0, _), (1, _)] dX4_hasPlayerTwice_1 (by decide) rfl ?_
  obtain ⟨n2, h⟩ := h
  refine j_weak [1, 2, 0] rfl (jl_X4_hasPlayerTwice_2 C ⟨Nat.le_of_ble_eq_true rfl, Nat.le_of_ble_eq_true rfl⟩ (fun M5 h => ?_) (fun M6 h => ?_) n2 _ _ _ _ h)
  · refine j_iconst (pc := 44) (v := (1 : Int32)) C dX4_hasPlayerTwice_44 rfl ?_
    exact j_zret (pc := 45) C dX4_hasPlayerTwice_45 (Nat.le_of_ble_eq_true rfl) (Nat.le_of_ble_eq_true rfl) h
  · refine j_iconst (pc := 75) (v := (0 : Int32)) C dX4_hasPlayerTwice_75 rfl ?_
    exact j_zret (pc := 76) C dX4_hasPlayerTwice_76 (Nat.le_of_ble_eq_true rfl) (Nat.le_of_ble_eq_true rfl) h
end GW5
