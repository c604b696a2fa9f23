/-! written by a program (wip/whole/gen.py) out of the decode rows and the tables: walks of X8 -/

section GW20
variable {p : Program} {l : Launch} {e : Env} {R : Room} {s : State} {m : MethodId} {args : Array Value} {below : List Frame} {meth : Method} {c : Code} {Q : State → Prop} {cc : ByteArray} {nL : Nat} {ret : Option FieldType} {E : EV} {M : Mm} {kc ks pc : Nat} {lo : List (Nat × Value)} {st : List Value}
abbrev rm_X8_init : Room := { frames := 1, cells := 13, slots := 10572, locals := 20 }
def w_X8_init (M : Mm) (x0 : Nat) (P : Mm → Prop) : Prop := ¬ (120 : Int32) < 0 ∧ (120 : Int32).toNatClampNeg ≤ 120 ∧ (∀ a1 M1, a1 = zn M → M1 = sN M 10 (120 : Int32).toNatClampNeg → zk M1 x0 = 8 ∧ (∀ M2, M2 = sR M1 x0 1 (some a1) → ¬ (689 : Int32) < 0 ∧ (689 : Int32).toNatClampNeg ≤ 689 ∧ (∀ a3 M3, a3 = zn M2 → M3 = sN M2 10 (689 : Int32).toNatClampNeg → zk M3 x0 = 8 ∧ (∀ M4, M4 = sR M3 x0 2 (some a3) → ¬ (32 : Int32) < 0 ∧ (32 : Int32).toNatClampNeg ≤ 32 ∧ (∀ a5 M5, a5 = zn M4 → M5 = sN M4 11 (32 : Int32).toNatClampNeg → zk M5 x0 = 8 ∧ (∀ M6, M6 = sR M5 x0 3 (some a5) → ¬ (600 : Int32) < 0 ∧ (600 : Int32).toNatClampNeg ≤ 600 ∧ (∀ a7 M7, a7 = zn M6 → M7 = sN M6 9 (600 : Int32).toNatClampNeg → zk M7 x0 = 8 ∧ (∀ M8, M8 = sR M7 x0 4 (some a7) → zk M8 x0 = 8 ∧ (∀ M9, M9 = sI M8 x0 13 (-1 : Int32) → ¬ (120 : Int32) < 0 ∧ (120 : Int32).toNatClampNeg ≤ 120 ∧ (∀ a10 M10, a10 = zn M9 → M10 = sN M9 10 (120 : Int32).toNatClampNeg → zk M10 x0 = 8 ∧ (∀ M11, M11 = sR M10 x0 16 (some a10) → ¬ (8 : Int32) < 0 ∧ (8 : Int32).toNatClampNeg ≤ 8 ∧ (∀ a12 M12, a12 = zn M11 → M12 = sN M11 10 (8 : Int32).toNatClampNeg → zk M12 x0 = 8 ∧ (∀ M13, M13 = sR M12 x0 17 (some a12) → ¬ (32 : Int32) < 0 ∧ (32 : Int32).toNatClampNeg ≤ 32 ∧ (∀ a14 M14, a14 = zn M13 → M14 = sN M13 11 (32 : Int32).toNatClampNeg → zk M14 x0 = 8 ∧ (∀ M15, M15 = sR M14 x0 18 (some a14) → ¬ (6 : Int32) < 0 ∧ (6 : Int32).toNatClampNeg ≤ 6 ∧ (∀ a16 M16, a16 = zn M15 → M16 = sN M15 10 (6 : Int32).toNatClampNeg → zk M16 x0 = 8 ∧ (∀ M17, M17 = sR M16 x0 19 (some a16) → ¬ (6 : Int32) < 0 ∧ (6 : Int32).toNatClampNeg ≤ 6 ∧ (∀ a18 M18, a18 = zn M17 → M18 = sN M17 10 (6 : Int32).toNatClampNeg → zk M18 x0 = 8 ∧ (∀ M19, M19 = sR M18 x0 20 (some a18) → ¬ (689 : Int32) < 0 ∧ (689 : Int32).toNatClampNeg ≤ 689 ∧ (∀ a20 M20, a20 = zn M19 → M20 = sN M19 10 (689 : Int32).toNatClampNeg → zk M20 x0 = 8 ∧ (∀ M21, M21 = sR M20 x0 22 (some a20) → ¬ (6890 : Int32) < 0 ∧ (6890 : Int32).toNatClampNeg ≤ 6890 ∧ (∀ a22 M22, a22 = zn M21 → M22 = sN M21 10 (6890 : Int32).toNatClampNeg → zk M22 x0 = 8 ∧ (∀ M23, M23 = sR M22 x0 25 (some a22) → ¬ (1378 : Int32) < 0 ∧ (1378 : Int32).toNatClampNeg ≤ 1378 ∧ (∀ a24 M24, a24 = zn M23 → M24 = sN M23 10 (1378 : Int32).toNatClampNeg → zk M24 x0 = 8 ∧ (∀ M25, M25 = sR M24 x0 26 (some a24) → ¬ (2 : Int32) < 0 ∧ (2 : Int32).toNatClampNeg ≤ 2 ∧ (∀ a26 M26, a26 = zn M25 → M26 = sN M25 12 (2 : Int32).toNatClampNeg → zk M26 x0 = 8 ∧ (∀ M27, M27 = sR M26 x0 27 (some a26) → (zk M27 x0 = 8 ∧ ∃ a28, zR M27 x0 1 = some a28 ∧ zk M27 a28 = 10 ∧ vp_in (0 : Int32) (zl M27 a28) ∧ (∀ M29, M29 = sI M27 a28 (0 : Int32).toNatClampNeg (1 : Int32) → P M29)))))))))))))))))))))))))))))
set_option maxHeartbeats 4000000 in
set_option maxRecDepth 100000 in
theorem c_X8_init (l : Launch) (E : EV) (M : Mm) (x0 : Nat) (P : Mm → Prop) (h : w_X8_init M x0 P) : CtV l E yX8_init cX8_init 1 rm_X8_init 13 10572 [.ref x0] M P := by
  refine ctV_of (by decide +kernel) (Nat.le_of_ble_eq_true rfl) ?_
  intro p e s m args below meth c C hnm
  rw [w_X8_init] at h
  show J p l e rm_X8_init s m args below meth c (QV below E P args s 13 10572) E 1 M 0 0 0 [(0, .ref x0)] []
  refine j_aload_n (pc := 0) C 0 dX8_init_0 rfl ?_
  refine j_objInit (pc := 1) C wd_1128 wd_129 wd_130 dX8_init_1 (Nat.le_of_ble_eq_true rfl) (Nat.le_of_ble_eq_true rfl) ?_
  refine j_aload_n (pc := 4) C 0 dX8_init_4 rfl ?_
  refine j_bipush (pc := 5) (v := (120 : Int32)) C dX8_init_5 rfl ?_
  refine n_newi (pc := 7) C 120 wd_149 dX8_init_7 (Nat.le_of_ble_eq_true rfl) (Nat.le_of_ble_eq_true rfl) (Nat.le_of_ble_eq_true rfl) h (fun a1 M1 h => ?_)
  refine pf_X8_7 (pc := 9) C hnm dX8_init_9 h (fun M2 h => ?_)
  refine j_aload_n (pc := 12) C 0 dX8_init_12 rfl ?_
  refine j_sipush (pc := 13) (v := (689 : Int32)) C dX8_init_13 rfl ?_
  refine n_newi (pc := 16) C 689 wd_149 dX8_init_16 (Nat.le_of_ble_eq_true rfl) (Nat.le_of_ble_eq_true rfl) (Nat.le_of_ble_eq_true rfl) h (fun a3 M3 h => ?_)
  refine pf_X8_13 (pc := 18) C hnm dX8_init_18 h (fun M4 h => ?_)
  refine j_aload_n (pc := 21) C 0 dX8_init_21 rfl ?_
  refine j_bipush (pc := 22) (v := (32 : Int32)) C dX8_init_22 rfl ?_
  refine n_newl (pc := 24) C 32 wd_213 dX8_init_24 (Nat.le_of_ble_eq_true rfl) (Nat.le_of_ble_eq_true rfl) (Nat.le_of_ble_eq_true rfl) h (fun a5 M5 h => ?_)
  refine pf_X8_16 (pc := 26) C hnm dX8_init_26 h (fun M6 h => ?_)
  refine j_aload_n (pc := 29) C 0 dX8_init_29 rfl ?_
  refine j_sipush (pc := 30) (v := (600 : Int32)) C dX8_init_30 rfl ?_
  refine n_newb (pc := 33) C 600 wd_148 dX8_init_33 (Nat.le_of_ble_eq_true rfl) (Nat.le_of_ble_eq_true rfl) (Nat.le_of_ble_eq_true rfl) h (fun a7 M7 h => ?_)
  refine pf_X8_20 (pc := 35) C hnm dX8_init_35 h (fun M8 h => ?_)
  refine j_aload_n (pc := 38) C 0 dX8_init_38 rfl ?_
  refine j_iconst (pc := 39) (v := (-1 : Int32)) C dX8_init_39 rfl ?_
  refine pf_X8_24 (pc := 40) C dX8_init_40 h (fun M9 h => ?_)
  refine j_aload_n (pc := 43) C 0 dX8_init_43 rfl ?_
  refine j_bipush (pc := 44) (v := (120 : Int32)) C dX8_init_44 rfl ?_
  refine n_newi (pc := 46) C 120 wd_149 dX8_init_46 (Nat.le_of_ble_eq_true rfl) (Nat.le_of_ble_eq_true rfl) (Nat.le_of_ble_eq_true rfl) h (fun a10 M10 h => ?_)
  refine pf_X8_28 (pc := 48) C hnm dX8_init_48 h (fun M11 h => ?_)
  refine j_aload_n (pc := 51) C 0 dX8_init_51 rfl ?_
  refine j_bipush (pc := 52) (v := (8 : Int32)) C dX8_init_52 rfl ?_
  refine n_newi (pc := 54) C 8 wd_149 dX8_init_54 (Nat.le_of_ble_eq_true rfl) (Nat.le_of_ble_eq_true rfl) (Nat.le_of_ble_eq_true rfl) h (fun a12 M12 h => ?_)
  refine pf_X8_31 (pc := 56) C hnm dX8_init_56 h (fun M13 h => ?_)
  refine j_aload_n (pc := 59) C 0 dX8_init_59 rfl ?_
  refine j_bipush (pc := 60) (v := (32 : Int32)) C dX8_init_60 rfl ?_
  refine n_newl (pc := 62) C 32 wd_213 dX8_init_62 (Nat.le_of_ble_eq_true rfl) (Nat.le_of_ble_eq_true rfl) (Nat.le_of_ble_eq_true rfl) h (fun a14 M14 h => ?_)
  refine pf_X8_34 (pc := 64) C hnm dX8_init_64 h (fun M15 h => ?_)
  refine j_aload_n (pc := 67) C 0 dX8_init_67 rfl ?_
  refine j_bipush (pc := 68) (v := (6 : Int32)) C dX8_init_68 rfl ?_
  refine n_newi (pc := 70) C 6 wd_149 dX8_init_70 (Nat.le_of_ble_eq_true rfl) (Nat.le_of_ble_eq_true rfl) (Nat.le_of_ble_eq_true rfl) h (fun a16 M16 h => ?_)
  refine pf_X8_37 (pc := 72) C hnm dX8_init_72 h (fun M17 h => ?_)
  refine j_aload_n (pc := 75) C 0 dX8_init_75 rfl ?_
  refine j_bipush (pc := 76) (v := (6 : Int32)) C dX8_init_76 rfl ?_
  refine n_newi (pc := 78) C 6 wd_149 dX8_init_78 (Nat.le_of_ble_eq_true rfl) (Nat.le_of_ble_eq_true rfl) (Nat.le_of_ble_eq_true rfl) h (fun a18 M18 h => ?_)
  refine pf_X8_40 (pc := 80) C hnm dX8_init_80 h (fun M19 h => ?_)
  refine j_aload_n (pc := 83) C 0 dX8_init_83 rfl ?_
  refine j_sipush (pc := 84) (v := (689 : Int32)) C dX8_init_84 rfl ?_
  refine n_newi (pc := 87) C 689 wd_149 dX8_init_87 (Nat.le_of_ble_eq_true rfl) (Nat.le_of_ble_eq_true rfl) (Nat.le_of_ble_eq_true rfl) h (fun a20 M20 h => ?_)
  refine pf_X8_43 (pc := 89) C hnm dX8_init_89 h (fun M21 h => ?_)
  refine j_aload_n (pc := 92) C 0 dX8_init_92 rfl ?_
  refine j_sipush (pc := 93) (v := (6890 : Int32)) C dX8_init_93 rfl ?_
  refine n_newi (pc := 96) C 6890 wd_149 dX8_init_96 (Nat.le_of_ble_eq_true rfl) (Nat.le_of_ble_eq_true rfl) (Nat.le_of_ble_eq_true rfl) h (fun a22 M22 h => ?_)
  refine pf_X8_46 (pc := 98) C hnm dX8_init_98 h (fun M23 h => ?_)
  refine j_aload_n (pc := 101) C 0 dX8_init_101 rfl ?_
  refine j_sipush (pc := 102) (v := (1378 : Int32)) C dX8_init_102 rfl ?_
  refine n_newi (pc := 105) C 1378 wd_149 dX8_init_105 (Nat.le_of_ble_eq_true rfl) (Nat.le_of_ble_eq_true rfl) (Nat.le_of_ble_eq_true rfl) h (fun a24 M24 h => ?_)
  refine pf_X8_49 (pc := 107) C hnm dX8_init_107 h (fun M25 h => ?_)
  refine j_aload_n (pc := 110) C 0 dX8_init_110 rfl ?_
  refine j_iconst (pc := 111) (v := (2 : Int32)) C dX8_init_111 rfl ?_
  refine n_newz (pc := 112) C 2 wd_212 dX8_init_112 (Nat.le_of_ble_eq_true rfl) (Nat.le_of_ble_eq_true rfl) (Nat.le_of_ble_eq_true rfl) h (fun a26 M26 h => ?_)
  refine pf_X8_52 (pc := 114) C hnm dX8_init_114 h (fun M27 h => ?_)
  refine j_aload_n (pc := 117) C 0 dX8_init_117 rfl ?_
  refine gf_X8_7 (pc := 118) C dX8_init_118 h (fun a28 h => ?_)
  refine j_iconst (pc := 121) (v := (0 : Int32)) C dX8_init_121 rfl ?_
  refine j_iconst (pc := 122) (v := (1 : Int32)) C dX8_init_122 rfl ?_
  refine n_iast (pc := 123) C dX8_init_123 h (fun M29 h => ?_)
  exact j_vret (pc := 124) C dX8_init_124 (Nat.le_of_ble_eq_true rfl) (Nat.le_of_ble_eq_true rfl) h
abbrev rm_X8_thrown : Room := { frames := 0, cells := 0, slots := 0, locals := 0 }
def w_X8_thrown (M : Mm) (x0 : Nat) (P : Int32 → Mm → Prop) : Prop := zk M x0 = 8 ∧ P (zI M x0 0) M
set_option maxHeartbeats 4000000 in
set_option maxRecDepth 100000 in
theorem c_X8_thrown (l : Launch) (E : EV) (M : Mm) (x0 : Nat) (P : Int32 → Mm → Prop) (h : w_X8_thrown M x0 P) : CtI l E yX8_thrown cX8_thrown 1 .int rm_X8_thrown 0 0 [.ref x0] M P := by
  refine ctI_of (by decide +kernel) (Nat.le_of_ble_eq_true rfl) ?_
  intro p e s m args below meth c C
  rw [w_X8_thrown] at h
  show J p l e rm_X8_thrown s m args below meth c (QI below E P args s 0 0) E 1 M 0 0 0 [(0, .ref x0)] []
  refine j_aload_n (pc := 0) C 0 dX8_thrown_0 rfl ?_
  refine gf_X8_56 (pc := 1) C dX8_thrown_1 h (fun h => ?_)
  exact j_iret (pc := 4) C dX8_thrown_4 (Nat.le_of_ble_eq_true rfl) (Nat.le_of_ble_eq_true rfl) h
abbrev rm_X8_within : Room := { frames := 0, cells := 0, slots := 0, locals := 0 }
def w_X8_within (M : Mm) (x0 : Int32) (x1 : Int32) (x2 : Int32) (P : Int32 → Mm → Prop) : Prop := (if x0 < x1 then ((0 : Int32) = 0 ∨ (0 : Int32) = 1) ∧ P (0 : Int32) M else (if x2 < x0 then ((0 : Int32) = 0 ∨ (0 : Int32) = 1) ∧ P (0 : Int32) M else ((1 : Int32) = 0 ∨ (1 : Int32) = 1) ∧ P (1 : Int32) M))
set_option maxHeartbeats 4000000 in
set_option maxRecDepth 100000 in
theorem c_X8_within (l : Launch) (E : EV) (M : Mm) (x0 : Int32) (x1 : Int32) (x2 : Int32) (P : Int32 → Mm → Prop) (h : w_X8_within M x0 x1 x2 P) : CtI l E yX8_within cX8_within 3 .boolean rm_X8_within 0 0 [.int x0, .int x1, .int x2] M P := by
  refine ctI_of (by decide +kernel) (Nat.le_of_ble_eq_true rfl) ?_
  intro p e s m args below meth c C
  rw [w_X8_within] at h
  show J p l e rm_X8_within s m args below meth c (QI below E P args s 0 0) E 3 M 0 0 0 [(0, .int x0), (1, .int x1), (2, .int x2)] []
  refine j_iload_n (pc := 0) C 0 dX8_within_0 rfl ?_
  refine j_iload_n (pc := 1) C 1 dX8_within_1 rfl ?_
  refine j_icmp_lt (pc := 2) C 14 dX8_within_2 (by decide) h (fun h => ?_) (fun h => ?_)
  · refine j_iconst (pc := 14) (v := (0 : Int32)) C dX8_within_14 rfl ?_
    exact j_zret (pc := 15) C dX8_within_15 (Nat.le_of_ble_eq_true rfl) (Nat.le_of_ble_eq_true rfl) h
  · refine j_iload_n (pc := 5) C 0 dX8_within_5 rfl ?_
    refine j_iload_n (pc := 6) C 2 dX8_within_6 rfl ?_
    refine j_icmp_gt (pc := 7) C 14 dX8_within_7 (by decide) h (fun h => ?_) (fun h => ?_)
    · refine j_iconst (pc := 14) (v := (0 : Int32)) C dX8_within_14 rfl ?_
      exact j_zret (pc := 15) C dX8_within_15 (Nat.le_of_ble_eq_true rfl) (Nat.le_of_ble_eq_true rfl) h
    · refine j_iconst (pc := 10) (v := (1 : Int32)) C dX8_within_10 rfl ?_
      refine j_goto (pc := 11) C 15 dX8_within_11 (by decide) ?_
      exact j_zret (pc := 15) C dX8_within_15 (Nat.le_of_ble_eq_true rfl) (Nat.le_of_ble_eq_true rfl) h
abbrev rm_X8_throwsIf : Room := { frames := 0, cells := 0, slots := 0, locals := 0 }
def w_X8_throwsIf (M : Mm) (x0 : Nat) (x1 : Int32) (x2 : Int32) (P : Int32 → Mm → Prop) : Prop := zk M x0 = 8 ∧ (if (zI M x0 0) = 0 then (if x1 = 0 then zk M x0 = 8 ∧ (if (zI M x0 0) ≤ 0 then ((0 : Int32) = 0 ∨ (0 : Int32) = 1) ∧ P (0 : Int32) M else ((1 : Int32) = 0 ∨ (1 : Int32) = 1) ∧ P (1 : Int32) M) else zk M x0 = 8 ∧ (∀ M1, M1 = sI M x0 0 x2 → zk M1 x0 = 8 ∧ (if (zI M1 x0 0) ≤ 0 then ((0 : Int32) = 0 ∨ (0 : Int32) = 1) ∧ P (0 : Int32) M1 else ((1 : Int32) = 0 ∨ (1 : Int32) = 1) ∧ P (1 : Int32) M1))) else zk M x0 = 8 ∧ (if (zI M x0 0) ≤ 0 then ((0 : Int32) = 0 ∨ (0 : Int32) = 1) ∧ P (0 : Int32) M else ((1 : Int32) = 0 ∨ (1 : Int32) = 1) ∧ P (1 : Int32) M))
set_option maxHeartbeats 4000000 in
set_option maxRecDepth 100000 in
theorem c_X8_throwsIf (l : Launch) (E : EV) (M : Mm) (x0 : Nat) (x1 : Int32) (x2 : Int32) (P : Int32 → Mm → Prop) (h : w_X8_throwsIf M x0 x1 x2 P) : CtI l E yX8_throwsIf cX8_throwsIf 3 .boolean rm_X8_throwsIf 0 0 [.ref x0, .int x1, .int x2] M P := by
  refine ctI_of (by decide +kernel) (Nat.le_of_ble_eq_true rfl) ?_
  intro p e s m args below meth c C
  rw [w_X8_throwsIf] at h
  show J p l e rm_X8_throwsIf s m args below meth c (QI below E P args s 0 0) E 3 M 0 0 0 [(0, .ref x0), (1, .int x1), (2, .int x2)] []
  refine j_aload_n (pc := 0) C 0 dX8_throwsIf_0 rfl ?_
  refine gf_X8_56 (pc := 1) C dX8_throwsIf_1 h (fun h => ?_)
  refine j_if_ne (pc := 4) C 16 dX8_throwsIf_4 (by decide) h (fun h => ?_) (fun h => ?_)
  · refine j_aload_n (pc := 16) C 0 dX8_throwsIf_16 rfl ?_
    refine gf_X8_56 (pc := 17) C dX8_throwsIf_17 h (fun h => ?_)
    refine j_if_le (pc := 20) C 27 dX8_throwsIf_20 (by decide) h (fun h => ?_) (fun h => ?_)
    · refine j_iconst (pc := 27) (v := (0 : Int32)) C dX8_throwsIf_27 rfl ?_
      exact j_zret (pc := 28) C dX8_throwsIf_28 (Nat.le_of_ble_eq_true rfl) (Nat.le_of_ble_eq_true rfl) h
    · refine j_iconst (pc := 23) (v := (1 : Int32)) C dX8_throwsIf_23 rfl ?_
      refine j_goto (pc := 24) C 28 dX8_throwsIf_24 (by decide) ?_
      exact j_zret (pc := 28) C dX8_throwsIf_28 (Nat.le_of_ble_eq_true rfl) (Nat.le_of_ble_eq_true rfl) h
  · refine j_iload_n (pc := 7) C 1 dX8_throwsIf_7 rfl ?_
    refine j_if_eq (pc := 8) C 16 dX8_throwsIf_8 (by decide) h (fun h => ?_) (fun h => ?_)
    · refine j_aload_n (pc := 16) C 0 dX8_throwsIf_16 rfl ?_
      refine gf_X8_56 (pc := 17) C dX8_throwsIf_17 h (fun h => ?_)
      refine j_if_le (pc := 20) C 27 dX8_throwsIf_20 (by decide) h (fun h => ?_) (fun h => ?_)
      · refine j_iconst (pc := 27) (v := (0 : Int32)) C dX8_throwsIf_27 rfl ?_
        exact j_zret (pc := 28) C dX8_throwsIf_28 (Nat.le_of_ble_eq_true rfl) (Nat.le_of_ble_eq_true rfl) h
      · refine j_iconst (pc := 23) (v := (1 : Int32)) C dX8_throwsIf_23 rfl ?_
        refine j_goto (pc := 24) C 28 dX8_throwsIf_24 (by decide) ?_
        exact j_zret (pc := 28) C dX8_throwsIf_28 (Nat.le_of_ble_eq_true rfl) (Nat.le_of_ble_eq_true rfl) h
    · refine j_aload_n (pc := 11) C 0 dX8_throwsIf_11 rfl ?_
      refine j_iload_n (pc := 12) C 2 dX8_throwsIf_12 rfl ?_
      refine pf_X8_56 (pc := 13) C dX8_throwsIf_13 h (fun M1 h => ?_)
      refine j_aload_n (pc := 16) C 0 dX8_throwsIf_16 rfl ?_
      refine gf_X8_56 (pc := 17) C dX8_throwsIf_17 h (fun h => ?_)
      refine j_if_le (pc := 20) C 27 dX8_throwsIf_20 (by decide) h (fun h => ?_) (fun h => ?_)
      · refine j_iconst (pc := 27) (v := (0 : Int32)) C dX8_throwsIf_27 rfl ?_
        exact j_zret (pc := 28) C dX8_throwsIf_28 (Nat.le_of_ble_eq_true rfl) (Nat.le_of_ble_eq_true rfl) h
      · refine j_iconst (pc := 23) (v := (1 : Int32)) C dX8_throwsIf_23 rfl ?_
        refine j_goto (pc := 24) C 28 dX8_throwsIf_24 (by decide) ?_
        exact j_zret (pc := 28) C dX8_throwsIf_28 (Nat.le_of_ble_eq_true rfl) (Nat.le_of_ble_eq_true rfl) h
abbrev rm_X8_bytesOf : Room := { frames := 0, cells := 0, slots := 0, locals := 0 }
def l_X8_bytesOf_3 (P : Mm → Prop) (K36 : Mm → Prop) : Nat → Mm → Nat → Int32 → Int32 → Prop
  | 0, _, _, _, _ => False
  | n + 1, M, x0, x1, x2 => (if x2 < 0 then K36 M else (zk M x0 = 8 ∧ ∃ a1, zR M x0 4 = some a1 ∧ zk M x0 = 8 ∧ zk M a1 = 9 ∧ vp_in (zI M x0 5) (zl M a1) ∧ (∀ M2, M2 = sI M a1 (zI M x0 5).toNatClampNeg (vp_nar .byte (x1 >>> (x2 &&& 31)).toInt8.toInt32) → zk M2 x0 = 8 ∧ zk M2 x0 = 8 ∧ (∀ M3, M3 = sI M2 x0 5 ((zI M2 x0 5) + (1 : Int32)) → l_X8_bytesOf_3 P K36 n M3 x0 x1 (x2 + (-8 : Int32))))))
set_option maxHeartbeats 4000000 in
set_option maxRecDepth 100000 in
theorem jl_X8_bytesOf_3 {P : Mm → Prop} {K36 : Mm → Prop} (C : Cx p l s m args meth c cX8_bytesOf 3 RX8 none E) (hkc : kc ≤ rm_X8_bytesOf.cells ∧ ks ≤ rm_X8_bytesOf.slots) (k36 : ∀ M, K36 M → J p l e rm_X8_bytesOf s m args below meth c (QV below E P args s rm_X8_bytesOf.cells rm_X8_bytesOf.slots) E 3 M kc ks 36 [] []) : ∀ n M x0 x1 x2, l_X8_bytesOf_3 P K36 n M x0 x1 x2 → J p l e rm_X8_bytesOf s m args below meth c (QV below E P args s rm_X8_bytesOf.cells rm_X8_bytesOf.slots) E 3 M kc ks 3 [(0, .ref x0), (1, .int x1), (2, .int x2)] [] := by
  intro n
  induction n with
  | zero => intro M x0 x1 x2 h; exact h.elim
  | succ n ih =>
    intro M x0 x1 x2 h
    rw [l_X8_bytesOf_3] at h
    refine j_iload_n (pc := 3) C 2 dX8_bytesOf_3 rfl ?_
    refine j_if_lt (pc := 4) C 36 dX8_bytesOf_4 (by decide) h (fun h => ?_) (fun h => ?_)
    · exact j_weak [] rfl (k36 _ h)
    · refine j_aload_n (pc := 7) C 0 dX8_bytesOf_7 rfl ?_
      refine gf_X8_20 (pc := 8) C dX8_bytesOf_8 h (fun a1 h => ?_)
      refine j_aload_n (pc := 11) C 0 dX8_bytesOf_11 rfl ?_
      refine gf_X8_59 (pc := 12) C dX8_bytesOf_12 h (fun h => ?_)
      refine j_iload_n (pc := 15) C 1 dX8_bytesOf_15 rfl ?_
      refine j_iload_n (pc := 16) C 2 dX8_bytesOf_16 rfl ?_
      refine j_ishr (pc := 17) C dX8_bytesOf_17 ?_
      refine j_i2b (pc := 18) C dX8_bytesOf_18 ?_
      refine n_bast (pc := 19) C dX8_bytesOf_19 h (fun M2 h => ?_)
      refine j_aload_n (pc := 20) C 0 dX8_bytesOf_20 rfl ?_
      refine j_dup (pc := 21) C dX8_bytesOf_21 rfl ?_
      refine gf_X8_59 (pc := 22) C dX8_bytesOf_22 h (fun h => ?_)
      refine j_iconst (pc := 25) (v := (1 : Int32)) C dX8_bytesOf_25 rfl ?_
      refine j_iadd (pc := 26) C dX8_bytesOf_26 ?_
      refine pf_X8_59 (pc := 27) C dX8_bytesOf_27 h (fun M3 h => ?_)
      refine j_iinc (pc := 30) (v := (-8 : Int32)) C 2 [(2, _), (0, _), (1, _)] dX8_bytesOf_30 rfl rfl (by decide) rfl ?_
      refine j_goto (pc := 33) C 3 dX8_bytesOf_33 (by decide) ?_
      exact j_weak [1, 2, 0] rfl (ih _ _ _ _ h)
def w_X8_bytesOf (M : Mm) (x0 : Nat) (x1 : Int32) (P : Mm → Prop) : Prop := (∃ n3, l_X8_bytesOf_3 P (fun M4 => P M4) n3 M x0 x1 (24 : Int32))
set_option maxHeartbeats 4000000 in
set_option maxRecDepth 100000 in
theorem c_X8_bytesOf (l : Launch) (E : EV) (M : Mm) (x0 : Nat) (x1 : Int32) (P : Mm → Prop) (h : w_X8_bytesOf M x0 x1 P) : CtV l E yX8_bytesOf cX8_bytesOf 3 rm_X8_bytesOf 0 0 [.ref x0, .int x1] M P := by
  refine ctV_of (by decide +kernel) (Nat.le_of_ble_eq_true rfl) ?_
  intro p e s m args below meth c C hnm
  rw [w_X8_bytesOf] at h
  show J p l e rm_X8_bytesOf s m args below meth c (QV below E P args s 0 0) E 3 M 0 0 0 [(0, .ref x0), (1, .int x1)] []
  refine j_bipush (pc := 0) (v := (24 : Int32)) C dX8_bytesOf_0 rfl ?_
  refine j_istore_n (pc := 2) C [(2, _), (0, _), (1, _)] dX8_bytesOf_2 (by decide) rfl ?_
  obtain ⟨n3, h⟩ := h
  refine j_weak [1, 2, 0] rfl (jl_X8_bytesOf_3 C ⟨Nat.le_of_ble_eq_true rfl, Nat.le_of_ble_eq_true rfl⟩ (fun M4 h => ?_) n3 _ _ _ _ h)
  · exact j_vret (pc := 36) C dX8_bytesOf_36 (Nat.le_of_ble_eq_true rfl) (Nat.le_of_ble_eq_true rfl) h
theorem cs_X8_62 (C : Cx p l s m args meth c cc nL RX8 ret E) {b : Nat} {y0 : Int32} {P : Mm → Prop} (hR : rm_X8_bytesOf.frames + 1 ≤ R.frames ∧ 8 + (3 + 11) + rm_X8_bytesOf.locals ≤ R.locals) (hf : kc ≤ R.cells ∧ ks ≤ R.slots) (hst : (st.map fun v => v.category).sum ≤ 8) (d : decode cc pc = .ok (.invokevirtual 62, 3)) (h : zk M b = 8 ∧ w_X8_bytesOf M b y0 P) (kk : ∀ M', P M' → J p l e R s m args below meth c Q E nL M' kc ks (pc + 3) lo st) : J p l e R s m args below meth c Q E nL M kc ks pc lo (.int y0 :: .ref b :: st) :=
  j_cV_V (n := 1) (As := [.int y0]) C co_X8 rfl wd_1224 wd_39 h.1 (c_X8_bytesOf l E M b y0 P h.2) ⟨wd_1225, wd_1222, wd_106, by decide +kernel, by decide +kernel, by decide +kernel⟩ rfl rfl hR hf rfl hst d kk
abbrev rm_X8_append : Room := { frames := 1, cells := 0, slots := 0, locals := 22 }
def w_X8_append (M : Mm) (x0 : Nat) (x1 : Int32) (x2 : Int32) (x3 : Int32) (x4 : Int32) (x5 : Int32) (P : Int32 → Mm → Prop) : Prop := zk M x0 = 8 ∧ (∀ M1, M1 = sI M x0 0 (0 : Int32) → zk M1 x0 = 8 ∧ (if ((zI M1 x0 5) + (20 : Int32)) ≤ (600 : Int32) then zk M1 x0 = 8 ∧ w_X8_bytesOf M1 x0 x1 (fun M2 => zk M2 x0 = 8 ∧ w_X8_bytesOf M2 x0 x2 (fun M3 => zk M3 x0 = 8 ∧ w_X8_bytesOf M3 x0 x3 (fun M4 => zk M4 x0 = 8 ∧ w_X8_bytesOf M4 x0 x4 (fun M5 => zk M5 x0 = 8 ∧ w_X8_bytesOf M5 x0 x5 (fun M6 => zk M6 x0 = 8 ∧ P (zI M6 x0 5) M6))))) else P (-1 : Int32) M1))
set_option maxHeartbeats 4000000 in
set_option maxRecDepth 100000 in
theorem c_X8_append (l : Launch) (E : EV) (M : Mm) (x0 : Nat) (x1 : Int32) (x2 : Int32) (x3 : Int32) (x4 : Int32) (x5 : Int32) (P : Int32 → Mm → Prop) (h : w_X8_append M x0 x1 x2 x3 x4 x5 P) : CtI l E yX8_append cX8_append 6 .int rm_X8_append 0 0 [.ref x0, .int x1, .int x2, .int x3, .int x4, .int x5] M P := by
  refine ctI_of (by decide +kernel) (Nat.le_of_ble_eq_true rfl) ?_
  intro p e s m args below meth c C
  rw [w_X8_append] at h
  show J p l e rm_X8_append s m args below meth c (QI below E P args s 0 0) E 6 M 0 0 0 [(0, .ref x0), (1, .int x1), (2, .int x2), (3, .int x3), (4, .int x4), (5, .int x5)] []
  refine j_aload_n (pc := 0) C 0 dX8_append_0 rfl ?_
  refine j_iconst (pc := 1) (v := (0 : Int32)) C dX8_append_1 rfl ?_
  refine pf_X8_56 (pc := 2) C dX8_append_2 h (fun M1 h => ?_)
  refine j_aload_n (pc := 5) C 0 dX8_append_5 rfl ?_
  refine gf_X8_59 (pc := 6) C dX8_append_6 h (fun h => ?_)
  refine j_bipush (pc := 9) (v := (20 : Int32)) C dX8_append_9 rfl ?_
  refine j_iadd (pc := 11) C dX8_append_11 ?_
  refine j_sipush (pc := 12) (v := (600 : Int32)) C dX8_append_12 rfl ?_
  refine j_icmp_le (pc := 15) C 20 dX8_append_15 (by decide) h (fun h => ?_) (fun h => ?_)
  · refine j_aload_n (pc := 20) C 0 dX8_append_20 rfl ?_
    refine j_iload_n (pc := 21) C 1 dX8_append_21 rfl ?_
    refine cs_X8_62 (pc := 22) C ⟨Nat.le_of_ble_eq_true rfl, Nat.le_of_ble_eq_true rfl⟩ ⟨Nat.le_of_ble_eq_true rfl, Nat.le_of_ble_eq_true rfl⟩ (Nat.le_of_ble_eq_true rfl) dX8_append_22 h (fun M2 h => ?_)
    refine j_aload_n (pc := 25) C 0 dX8_append_25 rfl ?_
    refine j_iload_n (pc := 26) C 2 dX8_append_26 rfl ?_
    refine cs_X8_62 (pc := 27) C ⟨Nat.le_of_ble_eq_true rfl, Nat.le_of_ble_eq_true rfl⟩ ⟨Nat.le_of_ble_eq_true rfl, Nat.le_of_ble_eq_true rfl⟩ (Nat.le_of_ble_eq_true rfl) dX8_append_27 h (fun M3 h => ?_)
    refine j_aload_n (pc := 30) C 0 dX8_append_30 rfl ?_
    refine j_iload_n (pc := 31) C 3 dX8_append_31 rfl ?_
    refine cs_X8_62 (pc := 32) C ⟨Nat.le_of_ble_eq_true rfl, Nat.le_of_ble_eq_true rfl⟩ ⟨Nat.le_of_ble_eq_true rfl, Nat.le_of_ble_eq_true rfl⟩ (Nat.le_of_ble_eq_true rfl) dX8_append_32 h (fun M4 h => ?_)
    refine j_aload_n (pc := 35) C 0 dX8_append_35 rfl ?_
    refine j_iload (pc := 36) C 4 dX8_append_36 rfl ?_
    refine cs_X8_62 (pc := 38) C ⟨Nat.le_of_ble_eq_true rfl, Nat.le_of_ble_eq_true rfl⟩ ⟨Nat.le_of_ble_eq_true rfl, Nat.le_of_ble_eq_true rfl⟩ (Nat.le_of_ble_eq_true rfl) dX8_append_38 h (fun M5 h => ?_)
    refine j_aload_n (pc := 41) C 0 dX8_append_41 rfl ?_
    refine j_iload (pc := 42) C 5 dX8_append_42 rfl ?_
    refine cs_X8_62 (pc := 44) C ⟨Nat.le_of_ble_eq_true rfl, Nat.le_of_ble_eq_true rfl⟩ ⟨Nat.le_of_ble_eq_true rfl, Nat.le_of_ble_eq_true rfl⟩ (Nat.le_of_ble_eq_true rfl) dX8_append_44 h (fun M6 h => ?_)
    refine j_aload_n (pc := 47) C 0 dX8_append_47 rfl ?_
    refine gf_X8_59 (pc := 48) C dX8_append_48 h (fun h => ?_)
    exact j_iret (pc := 51) C dX8_append_51 (Nat.le_of_ble_eq_true rfl) (Nat.le_of_ble_eq_true rfl) h
  · refine j_iconst (pc := 18) (v := (-1 : Int32)) C dX8_append_18 rfl ?_
    exact j_iret (pc := 19) C dX8_append_19 (Nat.le_of_ble_eq_true rfl) (Nat.le_of_ble_eq_true rfl) h
abbrev rm_X8_byteAt : Room := { frames := 0, cells := 0, slots := 0, locals := 0 }
def w_X8_byteAt (M : Mm) (x0 : Nat) (x1 : Int32) (P : Int32 → Mm → Prop) : Prop := zk M x0 = 8 ∧ (if (zI M x0 6) ≤ x1 then P (-1 : Int32) M else (zk M x0 = 8 ∧ ∃ a1, zR M x0 4 = some a1 ∧ zk M a1 = 9 ∧ vp_in x1 (zl M a1) ∧ P ((zI M a1 x1.toNatClampNeg) &&& (255 : Int32)) M))
set_option maxHeartbeats 4000000 in
set_option maxRecDepth 100000 in
theorem c_X8_byteAt (l : Launch) (E : EV) (M : Mm) (x0 : Nat) (x1 : Int32) (P : Int32 → Mm → Prop) (h : w_X8_byteAt M x0 x1 P) : CtI l E yX8_byteAt cX8_byteAt 2 .int rm_X8_byteAt 0 0 [.ref x0, .int x1] M P := by
  refine ctI_of (by decide +kernel) (Nat.le_of_ble_eq_true rfl) ?_
  intro p e s m args below meth c C
  rw [w_X8_byteAt] at h
  show J p l e rm_X8_byteAt s m args below meth c (QI below E P args s 0 0) E 2 M 0 0 0 [(0, .ref x0), (1, .int x1)] []
  refine j_iload_n (pc := 0) C 1 dX8_byteAt_0 rfl ?_
  refine j_aload_n (pc := 1) C 0 dX8_byteAt_1 rfl ?_
  refine gf_X8_66 (pc := 2) C dX8_byteAt_2 h (fun h => ?_)
  refine j_icmp_ge (pc := 5) C 21 dX8_byteAt_5 (by decide) h (fun h => ?_) (fun h => ?_)
  · refine j_iconst (pc := 21) (v := (-1 : Int32)) C dX8_byteAt_21 rfl ?_
    exact j_iret (pc := 22) C dX8_byteAt_22 (Nat.le_of_ble_eq_true rfl) (Nat.le_of_ble_eq_true rfl) h
  · refine j_aload_n (pc := 8) C 0 dX8_byteAt_8 rfl ?_
    refine gf_X8_20 (pc := 9) C dX8_byteAt_9 h (fun a1 h => ?_)
    refine j_iload_n (pc := 12) C 1 dX8_byteAt_12 rfl ?_
    refine j_bald (pc := 13) C dX8_byteAt_13 h (fun h => ?_)
    refine j_sipush (pc := 14) (v := (255 : Int32)) C dX8_byteAt_14 rfl ?_
    refine j_iand (pc := 17) C dX8_byteAt_17 ?_
    refine j_goto (pc := 18) C 22 dX8_byteAt_18 (by decide) ?_
    exact j_iret (pc := 22) C dX8_byteAt_22 (Nat.le_of_ble_eq_true rfl) (Nat.le_of_ble_eq_true rfl) h
theorem cs_X8_76 (C : Cx p l s m args meth c cc nL RX8 ret E) {b : Nat} {y0 : Int32} {P : Int32 → Mm → Prop} (hR : rm_X8_byteAt.frames + 1 ≤ R.frames ∧ 8 + (2 + 11) + rm_X8_byteAt.locals ≤ R.locals) (hf : kc ≤ R.cells ∧ ks ≤ R.slots) (hst : (st.map fun v => v.category).sum ≤ 8) (d : decode cc pc = .ok (.invokevirtual 76, 3)) (h : zk M b = 8 ∧ w_X8_byteAt M b y0 P) (kk : ∀ r M', P r M' → J p l e R s m args below meth c Q E nL M' kc ks (pc + 3) lo (.int r :: st)) : J p l e R s m args below meth c Q E nL M kc ks pc lo (.int y0 :: .ref b :: st) :=
  j_cV_I (n := 1) (As := [.int y0]) C co_X8 rfl wd_1243 wd_42 h.1 (c_X8_byteAt l E M b y0 P h.2) ⟨wd_1244, wd_1241, wd_106, by decide +kernel, by decide +kernel, by decide +kernel⟩ rfl rfl hR hf rfl hst d kk
theorem cs_X8_80 (C : Cx p l s m args meth c cc nL RX8 ret E) {y0 : Int32} {y1 : Int32} {y2 : Int32} {P : Int32 → Mm → Prop} (hR : rm_X8_within.frames + 1 ≤ R.frames ∧ 8 + (3 + 11) + rm_X8_within.locals ≤ R.locals) (hf : kc ≤ R.cells ∧ ks ≤ R.slots) (hst : (st.map fun v => v.category).sum ≤ 8) (d : decode cc pc = .ok (.invokestatic 80, 3)) (h : w_X8_within M y0 y1 y2 P) (kk : ∀ r M', P r M' → J p l e R s m args below meth c Q E nL M' kc ks (pc + 3) lo (.int r :: st)) : J p l e R s m args below meth c Q E nL M kc ks pc lo (.int y2 :: .int y1 :: .int y0 :: st) :=
  j_cS_I (n := 3) (As := [.int y0, .int y1, .int y2]) C wd_1231 (c_X8_within l E M y0 y1 y2 P h) ⟨wd_1232, wd_1230, wd_106, by decide +kernel, by decide +kernel, by decide +kernel⟩ rfl rfl hR hf rfl hst d kk
abbrev rm_X8_takesLetters : Room := { frames := 1, cells := 0, slots := 0, locals := 22 }
def l_X8_takesLetters_5 (P : Mm → Prop) (K78 : Mm → Prop) : Nat → Mm → Nat → Prop
  | 0, _, _ => False
  | n + 1, M, x0 => zk M x0 = 8 ∧ zk M x0 = 8 ∧ w_X8_byteAt M x0 (zI M x0 8) (fun r2 M2 => w_X8_within M2 r2 (97 : Int32) (122 : Int32) (fun r3 M3 => (if r3 = 0 then K78 M3 else zk M3 x0 = 8 ∧ zk M3 x0 = 8 ∧ (if (8 : Int32) ≤ ((zI M3 x0 8) - (zI M3 x0 7)) then zk M3 x0 = 8 ∧ zk M3 x0 = 8 ∧ (∀ M4, M4 = sJ M3 x0 11 (zJ M3 x0 11) → zk M4 x0 = 8 ∧ zk M4 x0 = 8 ∧ (∀ M5, M5 = sI M4 x0 8 ((zI M4 x0 8) + (1 : Int32)) → l_X8_takesLetters_5 P K78 n M5 x0)) else zk M3 x0 = 8 ∧ zk M3 x0 = 8 ∧ zk M3 x0 = 8 ∧ w_X8_byteAt M3 x0 (zI M3 x0 8) (fun r6 M6 => zk M6 x0 = 8 ∧ (∀ M7, M7 = sJ M6 x0 11 (((zJ M3 x0 11) <<< ((8 : Int32).toInt64 &&& 63)) ||| r6.toInt64) → zk M7 x0 = 8 ∧ zk M7 x0 = 8 ∧ (∀ M8, M8 = sI M7 x0 8 ((zI M7 x0 8) + (1 : Int32)) → l_X8_takesLetters_5 P K78 n M8 x0)))))))
set_option maxHeartbeats 4000000 in
set_option maxRecDepth 100000 in
theorem jl_X8_takesLetters_5 {P : Mm → Prop} {K78 : Mm → Prop} (C : Cx p l s m args meth c cX8_takesLetters 1 RX8 none E) (hkc : kc ≤ rm_X8_takesLetters.cells ∧ ks ≤ rm_X8_takesLetters.slots) (k78 : ∀ M, K78 M → J p l e rm_X8_takesLetters s m args below meth c (QV below E P args s rm_X8_takesLetters.cells rm_X8_takesLetters.slots) E 1 M kc ks 78 [] []) : ∀ n M x0, l_X8_takesLetters_5 P K78 n M x0 → J p l e rm_X8_takesLetters s m args below meth c (QV below E P args s rm_X8_takesLetters.cells rm_X8_takesLetters.slots) E 1 M kc ks 5 [(0, .ref x0)] [] := by
  intro n
  induction n with
  | zero => intro M x0 h; exact h.elim
  | succ n ih =>
    intro M x0 h
    rw [l_X8_takesLetters_5] at h
    refine j_aload_n (pc := 5) C 0 dX8_takesLetters_5 rfl ?_
    refine j_aload_n (pc := 6) C 0 dX8_takesLetters_6 rfl ?_
    refine gf_X8_73 (pc := 7) C dX8_takesLetters_7 h (fun h => ?_)
    refine cs_X8_76 (pc := 10) C ⟨Nat.le_of_ble_eq_true rfl, Nat.le_of_ble_eq_true rfl⟩ hkc (Nat.le_of_ble_eq_true rfl) dX8_takesLetters_10 h (fun r2 M2 h => ?_)
    refine j_bipush (pc := 13) (v := (97 : Int32)) C dX8_takesLetters_13 rfl ?_
    refine j_bipush (pc := 15) (v := (122 : Int32)) C dX8_takesLetters_15 rfl ?_
    refine cs_X8_80 (pc := 17) C ⟨Nat.le_of_ble_eq_true rfl, Nat.le_of_ble_eq_true rfl⟩ hkc (Nat.le_of_ble_eq_true rfl) dX8_takesLetters_17 h (fun r3 M3 h => ?_)
    refine j_if_eq (pc := 20) C 78 dX8_takesLetters_20 (by decide) h (fun h => ?_) (fun h => ?_)
    · exact j_weak [] rfl (k78 _ h)
    · refine j_aload_n (pc := 23) C 0 dX8_takesLetters_23 rfl ?_
      refine j_aload_n (pc := 24) C 0 dX8_takesLetters_24 rfl ?_
      refine gf_X8_73 (pc := 25) C dX8_takesLetters_25 h (fun h => ?_)
      refine j_aload_n (pc := 28) C 0 dX8_takesLetters_28 rfl ?_
      refine gf_X8_84 (pc := 29) C dX8_takesLetters_29 h (fun h => ?_)
      refine j_isub (pc := 32) C dX8_takesLetters_32 ?_
      refine j_bipush (pc := 33) (v := (8 : Int32)) C dX8_takesLetters_33 rfl ?_
      refine j_icmp_ge (pc := 35) C 58 dX8_takesLetters_35 (by decide) h (fun h => ?_) (fun h => ?_)
      · refine j_aload_n (pc := 58) C 0 dX8_takesLetters_58 rfl ?_
        refine gf_X8_69 (pc := 59) C dX8_takesLetters_59 h (fun h => ?_)
        refine pf_X8_69 (pc := 62) C dX8_takesLetters_62 h (fun M4 h => ?_)
        refine j_aload_n (pc := 65) C 0 dX8_takesLetters_65 rfl ?_
        refine j_dup (pc := 66) C dX8_takesLetters_66 rfl ?_
        refine gf_X8_73 (pc := 67) C dX8_takesLetters_67 h (fun h => ?_)
        refine j_iconst (pc := 70) (v := (1 : Int32)) C dX8_takesLetters_70 rfl ?_
        refine j_iadd (pc := 71) C dX8_takesLetters_71 ?_
        refine pf_X8_73 (pc := 72) C dX8_takesLetters_72 h (fun M5 h => ?_)
        refine j_goto (pc := 75) C 5 dX8_takesLetters_75 (by decide) ?_
        exact j_weak [0] rfl (ih _ _ h)
      · refine j_aload_n (pc := 38) C 0 dX8_takesLetters_38 rfl ?_
        refine gf_X8_69 (pc := 39) C dX8_takesLetters_39 h (fun h => ?_)
        refine j_bipush (pc := 42) (v := (8 : Int32)) C dX8_takesLetters_42 rfl ?_
        refine j_lshl (pc := 44) C dX8_takesLetters_44 ?_
        refine j_aload_n (pc := 45) C 0 dX8_takesLetters_45 rfl ?_
        refine j_aload_n (pc := 46) C 0 dX8_takesLetters_46 rfl ?_
        refine gf_X8_73 (pc := 47) C dX8_takesLetters_47 h (fun h => ?_)
        refine cs_X8_76 (pc := 50) C ⟨Nat.le_of_ble_eq_true rfl, Nat.le_of_ble_eq_true rfl⟩ hkc (Nat.le_of_ble_eq_true rfl) dX8_takesLetters_50 h (fun r6 M6 h => ?_)
        refine j_i2l (pc := 53) C dX8_takesLetters_53 ?_
        refine j_lor (pc := 54) C dX8_takesLetters_54 ?_
        refine j_goto (pc := 55) C 62 dX8_takesLetters_55 (by decide) ?_
        refine pf_X8_69 (pc := 62) C dX8_takesLetters_62 h (fun M7 h => ?_)
        refine j_aload_n (pc := 65) C 0 dX8_takesLetters_65 rfl ?_
        refine j_dup (pc := 66) C dX8_takesLetters_66 rfl ?_
        refine gf_X8_73 (pc := 67) C dX8_takesLetters_67 h (fun h => ?_)
        refine j_iconst (pc := 70) (v := (1 : Int32)) C dX8_takesLetters_70 rfl ?_
        refine j_iadd (pc := 71) C dX8_takesLetters_71 ?_
        refine pf_X8_73 (pc := 72) C dX8_takesLetters_72 h (fun M8 h => ?_)
        refine j_goto (pc := 75) C 5 dX8_takesLetters_75 (by decide) ?_
        exact j_weak [0] rfl (ih _ _ h)
def w_X8_takesLetters (M : Mm) (x0 : Nat) (P : Mm → Prop) : Prop := zk M x0 = 8 ∧ (∀ M1, M1 = sJ M x0 11 (0 : Int64) → (∃ n5, l_X8_takesLetters_5 P (fun M9 => P M9) n5 M1 x0))
set_option maxHeartbeats 4000000 in
set_option maxRecDepth 100000 in
theorem c_X8_takesLetters (l : Launch) (E : EV) (M : Mm) (x0 : Nat) (P : Mm → Prop) (h : w_X8_takesLetters M x0 P) : CtV l E yX8_takesLetters cX8_takesLetters 1 rm_X8_takesLetters 0 0 [.ref x0] M P := by
  refine ctV_of (by decide +kernel) (Nat.le_of_ble_eq_true rfl) ?_
  intro p e s m args below meth c C hnm
  rw [w_X8_takesLetters] at h
  show J p l e rm_X8_takesLetters s m args below meth c (QV below E P args s 0 0) E 1 M 0 0 0 [(0, .ref x0)] []
  refine j_aload_n (pc := 0) C 0 dX8_takesLetters_0 rfl ?_
  refine j_lconst (pc := 1) (v := (0 : Int64)) C dX8_takesLetters_1 rfl ?_
  refine pf_X8_69 (pc := 2) C dX8_takesLetters_2 h (fun M1 h => ?_)
  obtain ⟨n5, h⟩ := h
  refine j_weak [0] rfl (jl_X8_takesLetters_5 C ⟨Nat.le_of_ble_eq_true rfl, Nat.le_of_ble_eq_true rfl⟩ (fun M9 h => ?_) n5 _ _ h)
  · exact j_vret (pc := 78) C dX8_takesLetters_78 (Nat.le_of_ble_eq_true rfl) (Nat.le_of_ble_eq_true rfl) h
theorem cs_X8_93 (C : Cx p l s m args meth c cc nL RX8 ret E) {b : Nat} {P : Mm → Prop} (hR : rm_X8_takesLetters.frames + 1 ≤ R.frames ∧ 8 + (1 + 11) + rm_X8_takesLetters.locals ≤ R.locals) (hf : kc ≤ R.cells ∧ ks ≤ R.slots) (hst : (st.map fun v => v.category).sum ≤ 8) (d : decode cc pc = .ok (.invokevirtual 93, 3)) (h : zk M b = 8 ∧ w_X8_takesLetters M b P) (kk : ∀ M', P M' → J p l e R s m args below meth c Q E nL M' kc ks (pc + 3) lo st) : J p l e R s m args below meth c Q E nL M kc ks pc lo (.ref b :: st) :=
  j_cV_V (n := 0) (As := []) C co_X8 rfl wd_1247 wd_43 h.1 (c_X8_takesLetters l E M b P h.2) ⟨wd_1248, wd_1245, wd_106, by decide +kernel, by decide +kernel, by decide +kernel⟩ rfl rfl hR hf rfl hst d kk
abbrev rm_X8_advance : Room := { frames := 2, cells := 0, slots := 0, locals := 42 }
def l_X8_advance_0 (P : Mm → Prop) (K39 : Mm → Nat → Prop) : Nat → Mm → Nat → Prop
  | 0, _, _ => False
  | n + 1, M, x0 => zk M x0 = 8 ∧ zk M x0 = 8 ∧ w_X8_byteAt M x0 (zI M x0 8) (fun r1 M1 => (if r1 = (32 : Int32) then zk M1 x0 = 8 ∧ zk M1 x0 = 8 ∧ (∀ M2, M2 = sI M1 x0 8 ((zI M1 x0 8) + (1 : Int32)) → l_X8_advance_0 P K39 n M2 x0) else zk M1 x0 = 8 ∧ zk M1 x0 = 8 ∧ w_X8_byteAt M1 x0 (zI M1 x0 8) (fun r3 M3 => (if r3 = (10 : Int32) then zk M3 x0 = 8 ∧ zk M3 x0 = 8 ∧ (∀ M4, M4 = sI M3 x0 8 ((zI M3 x0 8) + (1 : Int32)) → l_X8_advance_0 P K39 n M4 x0) else K39 M3 x0))))
set_option maxHeartbeats 4000000 in
set_option maxRecDepth 100000 in
theorem jl_X8_advance_0 {P : Mm → Prop} {K39 : Mm → Nat → Prop} (C : Cx p l s m args meth c cX8_advance 2 RX8 none E) (hkc : kc ≤ rm_X8_advance.cells ∧ ks ≤ rm_X8_advance.slots) (k39 : ∀ M x0, K39 M x0 → J p l e rm_X8_advance s m args below meth c (QV below E P args s rm_X8_advance.cells rm_X8_advance.slots) E 2 M kc ks 39 [(0, .ref x0)] []) : ∀ n M x0, l_X8_advance_0 P K39 n M x0 → J p l e rm_X8_advance s m args below meth c (QV below E P args s rm_X8_advance.cells rm_X8_advance.slots) E 2 M kc ks 0 [(0, .ref x0)] [] := by
  intro n
  induction n with
  | zero => intro M x0 h; exact h.elim
  | succ n ih =>
    intro M x0 h
    rw [l_X8_advance_0] at h
    refine j_aload_n (pc := 0) C 0 dX8_advance_0 rfl ?_
    refine j_aload_n (pc := 1) C 0 dX8_advance_1 rfl ?_
    refine gf_X8_73 (pc := 2) C dX8_advance_2 h (fun h => ?_)
    refine cs_X8_76 (pc := 5) C ⟨Nat.le_of_ble_eq_true rfl, Nat.le_of_ble_eq_true rfl⟩ hkc (Nat.le_of_ble_eq_true rfl) dX8_advance_5 h (fun r1 M1 h => ?_)
    refine j_bipush (pc := 8) (v := (32 : Int32)) C dX8_advance_8 rfl ?_
    refine j_icmp_eq (pc := 10) C 26 dX8_advance_10 (by decide) h (fun h => ?_) (fun h => ?_)
    · refine j_aload_n (pc := 26) C 0 dX8_advance_26 rfl ?_
      refine j_dup (pc := 27) C dX8_advance_27 rfl ?_
      refine gf_X8_73 (pc := 28) C dX8_advance_28 h (fun h => ?_)
      refine j_iconst (pc := 31) (v := (1 : Int32)) C dX8_advance_31 rfl ?_
      refine j_iadd (pc := 32) C dX8_advance_32 ?_
      refine pf_X8_73 (pc := 33) C dX8_advance_33 h (fun M2 h => ?_)
      refine j_goto (pc := 36) C 0 dX8_advance_36 (by decide) ?_
      exact j_weak [0] rfl (ih _ _ h)
    · refine j_aload_n (pc := 13) C 0 dX8_advance_13 rfl ?_
      refine j_aload_n (pc := 14) C 0 dX8_advance_14 rfl ?_
      refine gf_X8_73 (pc := 15) C dX8_advance_15 h (fun h => ?_)
      refine cs_X8_76 (pc := 18) C ⟨Nat.le_of_ble_eq_true rfl, Nat.le_of_ble_eq_true rfl⟩ hkc (Nat.le_of_ble_eq_true rfl) dX8_advance_18 h (fun r3 M3 h => ?_)
      refine j_bipush (pc := 21) (v := (10 : Int32)) C dX8_advance_21 rfl ?_
      refine j_icmp_ne (pc := 23) C 39 dX8_advance_23 (by decide) h (fun h => ?_) (fun h => ?_)
      · exact j_weak [0] rfl (k39 _ _ h)
      · refine j_aload_n (pc := 26) C 0 dX8_advance_26 rfl ?_
        refine j_dup (pc := 27) C dX8_advance_27 rfl ?_
        refine gf_X8_73 (pc := 28) C dX8_advance_28 h (fun h => ?_)
        refine j_iconst (pc := 31) (v := (1 : Int32)) C dX8_advance_31 rfl ?_
        refine j_iadd (pc := 32) C dX8_advance_32 ?_
        refine pf_X8_73 (pc := 33) C dX8_advance_33 h (fun M4 h => ?_)
        refine j_goto (pc := 36) C 0 dX8_advance_36 (by decide) ?_
        exact j_weak [0] rfl (ih _ _ h)
def l_X8_advance_126 (P : Mm → Prop) (K200 : Mm → Nat → Prop) : Nat → Mm → Nat → Prop
  | 0, _, _ => False
  | n + 1, M, x0 => zk M x0 = 8 ∧ zk M x0 = 8 ∧ w_X8_byteAt M x0 (zI M x0 8) (fun r14 M14 => w_X8_within M14 r14 (48 : Int32) (57 : Int32) (fun r15 M15 => (if r15 = 0 then K200 M15 x0 else zk M15 x0 = 8 ∧ zk M15 x0 = 8 ∧ (if (3 : Int32) ≤ ((zI M15 x0 8) - (zI M15 x0 7)) then zk M15 x0 = 8 ∧ zk M15 x0 = 8 ∧ (∀ M16, M16 = sI M15 x0 10 (zI M15 x0 10) → zk M16 x0 = 8 ∧ zk M16 x0 = 8 ∧ (∀ M17, M17 = sI M16 x0 8 ((zI M16 x0 8) + (1 : Int32)) → l_X8_advance_126 P K200 n M17 x0)) else zk M15 x0 = 8 ∧ zk M15 x0 = 8 ∧ zk M15 x0 = 8 ∧ w_X8_byteAt M15 x0 (zI M15 x0 8) (fun r18 M18 => zk M18 x0 = 8 ∧ (∀ M19, M19 = sI M18 x0 10 ((((10 : Int32) * (zI M15 x0 10)) + r18) - (48 : Int32)) → zk M19 x0 = 8 ∧ zk M19 x0 = 8 ∧ (∀ M20, M20 = sI M19 x0 8 ((zI M19 x0 8) + (1 : Int32)) → l_X8_advance_126 P K200 n M20 x0)))))))
set_option maxHeartbeats 4000000 in
set_option maxRecDepth 100000 in
theorem jl_X8_advance_126 {P : Mm → Prop} {K200 : Mm → Nat → Prop} (C : Cx p l s m args meth c cX8_advance 2 RX8 none E) (hkc : kc ≤ rm_X8_advance.cells ∧ ks ≤ rm_X8_advance.slots) (k200 : ∀ M x0, K200 M x0 → J p l e rm_X8_advance s m args below meth c (QV below E P args s rm_X8_advance.cells rm_X8_advance.slots) E 2 M kc ks 200 [(0, .ref x0)] []) : ∀ n M x0, l_X8_advance_126 P K200 n M x0 → J p l e rm_X8_advance s m args below meth c (QV below E P args s rm_X8_advance.cells rm_X8_advance.slots) E 2 M kc ks 126 [(0, .ref x0)] [] := by
  intro n
  induction n with
  | zero => intro M x0 h; exact h.elim
  | succ n ih =>
    intro M x0 h
    rw [l_X8_advance_126] at h
    refine j_aload_n (pc := 126) C 0 dX8_advance_126 rfl ?_
    refine j_aload_n (pc := 127) C 0 dX8_advance_127 rfl ?_
    refine gf_X8_73 (pc := 128) C dX8_advance_128 h (fun h => ?_)
    refine cs_X8_76 (pc := 131) C ⟨Nat.le_of_ble_eq_true rfl, Nat.le_of_ble_eq_true rfl⟩ hkc (Nat.le_of_ble_eq_true rfl) dX8_advance_131 h (fun r14 M14 h => ?_)
    refine j_bipush (pc := 134) (v := (48 : Int32)) C dX8_advance_134 rfl ?_
    refine j_bipush (pc := 136) (v := (57 : Int32)) C dX8_advance_136 rfl ?_
    refine cs_X8_80 (pc := 138) C ⟨Nat.le_of_ble_eq_true rfl, Nat.le_of_ble_eq_true rfl⟩ hkc (Nat.le_of_ble_eq_true rfl) dX8_advance_138 h (fun r15 M15 h => ?_)
    refine j_if_eq (pc := 141) C 200 dX8_advance_141 (by decide) h (fun h => ?_) (fun h => ?_)
    · exact j_weak [0] rfl (k200 _ _ h)
    · refine j_aload_n (pc := 144) C 0 dX8_advance_144 rfl ?_
      refine j_aload_n (pc := 145) C 0 dX8_advance_145 rfl ?_
      refine gf_X8_73 (pc := 146) C dX8_advance_146 h (fun h => ?_)
      refine j_aload_n (pc := 149) C 0 dX8_advance_149 rfl ?_
      refine gf_X8_84 (pc := 150) C dX8_advance_150 h (fun h => ?_)
      refine j_isub (pc := 153) C dX8_advance_153 ?_
      refine j_iconst (pc := 154) (v := (3 : Int32)) C dX8_advance_154 rfl ?_
      refine j_icmp_ge (pc := 155) C 180 dX8_advance_155 (by decide) h (fun h => ?_) (fun h => ?_)
      · refine j_aload_n (pc := 180) C 0 dX8_advance_180 rfl ?_
        refine gf_X8_87 (pc := 181) C dX8_advance_181 h (fun h => ?_)
        refine pf_X8_87 (pc := 184) C dX8_advance_184 h (fun M16 h => ?_)
        refine j_aload_n (pc := 187) C 0 dX8_advance_187 rfl ?_
        refine j_dup (pc := 188) C dX8_advance_188 rfl ?_
        refine gf_X8_73 (pc := 189) C dX8_advance_189 h (fun h => ?_)
        refine j_iconst (pc := 192) (v := (1 : Int32)) C dX8_advance_192 rfl ?_
        refine j_iadd (pc := 193) C dX8_advance_193 ?_
        refine pf_X8_73 (pc := 194) C dX8_advance_194 h (fun M17 h => ?_)
        refine j_goto (pc := 197) C 126 dX8_advance_197 (by decide) ?_
        exact j_weak [0] rfl (ih _ _ h)
      · refine j_bipush (pc := 158) (v := (10 : Int32)) C dX8_advance_158 rfl ?_
        refine j_aload_n (pc := 160) C 0 dX8_advance_160 rfl ?_
        refine gf_X8_87 (pc := 161) C dX8_advance_161 h (fun h => ?_)
        refine j_imul (pc := 164) C dX8_advance_164 ?_
        refine j_aload_n (pc := 165) C 0 dX8_advance_165 rfl ?_
        refine j_aload_n (pc := 166) C 0 dX8_advance_166 rfl ?_
        refine gf_X8_73 (pc := 167) C dX8_advance_167 h (fun h => ?_)
        refine cs_X8_76 (pc := 170) C ⟨Nat.le_of_ble_eq_true rfl, Nat.le_of_ble_eq_true rfl⟩ hkc (Nat.le_of_ble_eq_true rfl) dX8_advance_170 h (fun r18 M18 h => ?_)
        refine j_iadd (pc := 173) C dX8_advance_173 ?_
        refine j_bipush (pc := 174) (v := (48 : Int32)) C dX8_advance_174 rfl ?_
        refine j_isub (pc := 176) C dX8_advance_176 ?_
        refine j_goto (pc := 177) C 184 dX8_advance_177 (by decide) ?_
        refine pf_X8_87 (pc := 184) C dX8_advance_184 h (fun M19 h => ?_)
        refine j_aload_n (pc := 187) C 0 dX8_advance_187 rfl ?_
        refine j_dup (pc := 188) C dX8_advance_188 rfl ?_
        refine gf_X8_73 (pc := 189) C dX8_advance_189 h (fun h => ?_)
        refine j_iconst (pc := 192) (v := (1 : Int32)) C dX8_advance_192 rfl ?_
        refine j_iadd (pc := 193) C dX8_advance_193 ?_
        refine pf_X8_73 (pc := 194) C dX8_advance_194 h (fun M20 h => ?_)
        refine j_goto (pc := 197) C 126 dX8_advance_197 (by decide) ?_
        exact j_weak [0] rfl (ih _ _ h)
def w_X8_advance (M : Mm) (x0 : Nat) (P : Mm → Prop) : Prop := (∃ n0, l_X8_advance_0 P (fun M5 x0_5 => zk M5 x0_5 = 8 ∧ zk M5 x0_5 = 8 ∧ (∀ M6, M6 = sI M5 x0_5 7 (zI M5 x0_5 8) → zk M6 x0_5 = 8 ∧ (∀ M7, M7 = sI M6 x0_5 10 (0 : Int32) → zk M7 x0_5 = 8 ∧ zk M7 x0_5 = 8 ∧ w_X8_byteAt M7 x0_5 (zI M7 x0_5 8) (fun r8 M8 => (if r8 = (-1 : Int32) then zk M8 x0_5 = 8 ∧ (∀ M27, M27 = sI M8 x0_5 9 (0 : Int32) → P M27) else w_X8_within M8 r8 (97 : Int32) (122 : Int32) (fun r9 M9 => (if r9 = 0 then w_X8_within M9 r8 (48 : Int32) (57 : Int32) (fun r10 M10 => (if r10 = 0 then zk M10 x0_5 = 8 ∧ zk M10 x0_5 = 8 ∧ (∀ M11, M11 = sI M10 x0_5 8 ((zI M10 x0_5 8) + (1 : Int32)) → (if r8 = (59 : Int32) then zk M11 x0_5 = 8 ∧ (∀ M13, M13 = sI M11 x0_5 9 (3 : Int32) → P M13) else zk M11 x0_5 = 8 ∧ (∀ M12, M12 = sI M11 x0_5 9 (4 : Int32) → P M12))) else (∃ n126, l_X8_advance_126 P (fun M21 x0_21 => zk M21 x0_21 = 8 ∧ zk M21 x0_21 = 8 ∧ (if ((zI M21 x0_21 8) - (zI M21 x0_21 7)) ≤ (3 : Int32) then zk M21 x0_21 = 8 ∧ (∀ M22, M22 = sI M21 x0_21 9 (2 : Int32) → P M22) else zk M21 x0_21 = 8 ∧ (∀ M23, M23 = sI M21 x0_21 9 (4 : Int32) → P M23))) n126 M10 x0_5))) else zk M9 x0_5 = 8 ∧ w_X8_takesLetters M9 x0_5 (fun M24 => zk M24 x0_5 = 8 ∧ zk M24 x0_5 = 8 ∧ (if ((zI M24 x0_5 8) - (zI M24 x0_5 7)) ≤ (8 : Int32) then zk M24 x0_5 = 8 ∧ (∀ M25, M25 = sI M24 x0_5 9 (1 : Int32) → P M25) else zk M24 x0_5 = 8 ∧ (∀ M26, M26 = sI M24 x0_5 9 (4 : Int32) → P M26)))))))))) n0 M x0)
set_option maxHeartbeats 4000000 in
set_option maxRecDepth 100000 in
theorem c_X8_advance (l : Launch) (E : EV) (M : Mm) (x0 : Nat) (P : Mm → Prop) (h : w_X8_advance M x0 P) : CtV l E yX8_advance cX8_advance 2 rm_X8_advance 0 0 [.ref x0] M P := by
  refine ctV_of (by decide +kernel) (Nat.le_of_ble_eq_true rfl) ?_
  intro p e s m args below meth c C hnm
  rw [w_X8_advance] at h
  show J p l e rm_X8_advance s m args below meth c (QV below E P args s 0 0) E 2 M 0 0 0 [(0, .ref x0)] []
  obtain ⟨n0, h⟩ := h
  refine j_weak [0] rfl (jl_X8_advance_0 C ⟨Nat.le_of_ble_eq_true rfl, Nat.le_of_ble_eq_true rfl⟩ (fun M5 x0_5 h => ?_) n0 _ _ h)
  · refine j_aload_n (pc := 39) C 0 dX8_advance_39 rfl ?_
    refine j_aload_n (pc := 40) C 0 dX8_advance_40 rfl ?_
    refine gf_X8_73 (pc := 41) C dX8_advance_41 h (fun h => ?_)
    refine pf_X8_84 (pc := 44) C dX8_advance_44 h (fun M6 h => ?_)
    refine j_aload_n (pc := 47) C 0 dX8_advance_47 rfl ?_
    refine j_iconst (pc := 48) (v := (0 : Int32)) C dX8_advance_48 rfl ?_
    refine pf_X8_87 (pc := 49) C dX8_advance_49 h (fun M7 h => ?_)
    refine j_aload_n (pc := 52) C 0 dX8_advance_52 rfl ?_
    refine j_aload_n (pc := 53) C 0 dX8_advance_53 rfl ?_
    refine gf_X8_73 (pc := 54) C dX8_advance_54 h (fun h => ?_)
    refine cs_X8_76 (pc := 57) C ⟨Nat.le_of_ble_eq_true rfl, Nat.le_of_ble_eq_true rfl⟩ ⟨Nat.le_of_ble_eq_true rfl, Nat.le_of_ble_eq_true rfl⟩ (Nat.le_of_ble_eq_true rfl) dX8_advance_57 h (fun r8 M8 h => ?_)
    refine j_istore_n (pc := 60) C [(1, _), (0, _)] dX8_advance_60 (by decide) rfl ?_
    refine j_iload_n (pc := 61) C 0 dX8_advance_61 rfl ?_
    refine j_iconst (pc := 62) (v := (-1 : Int32)) C dX8_advance_62 rfl ?_
    refine j_icmp_ne (pc := 63) C 74 dX8_advance_63 (by decide) h (fun h => ?_) (fun h => ?_)
    · refine j_iload_n (pc := 74) C 0 dX8_advance_74 rfl ?_
      refine j_bipush (pc := 75) (v := (97 : Int32)) C dX8_advance_75 rfl ?_
      refine j_bipush (pc := 77) (v := (122 : Int32)) C dX8_advance_77 rfl ?_
      refine cs_X8_80 (pc := 79) C ⟨Nat.le_of_ble_eq_true rfl, Nat.le_of_ble_eq_true rfl⟩ ⟨Nat.le_of_ble_eq_true rfl, Nat.le_of_ble_eq_true rfl⟩ (Nat.le_of_ble_eq_true rfl) dX8_advance_79 h (fun r9 M9 h => ?_)
      refine j_if_eq (pc := 82) C 115 dX8_advance_82 (by decide) h (fun h => ?_) (fun h => ?_)
      · refine j_iload_n (pc := 115) C 0 dX8_advance_115 rfl ?_
        refine j_bipush (pc := 116) (v := (48 : Int32)) C dX8_advance_116 rfl ?_
        refine j_bipush (pc := 118) (v := (57 : Int32)) C dX8_advance_118 rfl ?_
        refine cs_X8_80 (pc := 120) C ⟨Nat.le_of_ble_eq_true rfl, Nat.le_of_ble_eq_true rfl⟩ ⟨Nat.le_of_ble_eq_true rfl, Nat.le_of_ble_eq_true rfl⟩ (Nat.le_of_ble_eq_true rfl) dX8_advance_120 h (fun r10 M10 h => ?_)
        refine j_if_eq (pc := 123) C 225 dX8_advance_123 (by decide) h (fun h => ?_) (fun h => ?_)
        · refine j_aload_n (pc := 225) C 1 dX8_advance_225 rfl ?_
          refine j_dup (pc := 226) C dX8_advance_226 rfl ?_
          refine gf_X8_73 (pc := 227) C dX8_advance_227 h (fun h => ?_)
          refine j_iconst (pc := 230) (v := (1 : Int32)) C dX8_advance_230 rfl ?_
          refine j_iadd (pc := 231) C dX8_advance_231 ?_
          refine pf_X8_73 (pc := 232) C dX8_advance_232 h (fun M11 h => ?_)
          refine j_aload_n (pc := 235) C 1 dX8_advance_235 rfl ?_
          refine j_iload_n (pc := 236) C 0 dX8_advance_236 rfl ?_
          refine j_bipush (pc := 237) (v := (59 : Int32)) C dX8_advance_237 rfl ?_
          refine j_icmp_ne (pc := 239) C 246 dX8_advance_239 (by decide) h (fun h => ?_) (fun h => ?_)
          · refine j_iconst (pc := 246) (v := (4 : Int32)) C dX8_advance_246 rfl ?_
            refine pf_X8_90 (pc := 247) C dX8_advance_247 h (fun M12 h => ?_)
            exact j_vret (pc := 250) C dX8_advance_250 (Nat.le_of_ble_eq_true rfl) (Nat.le_of_ble_eq_true rfl) h
          · refine j_iconst (pc := 242) (v := (3 : Int32)) C dX8_advance_242 rfl ?_
            refine j_goto (pc := 243) C 247 dX8_advance_243 (by decide) ?_
            refine pf_X8_90 (pc := 247) C dX8_advance_247 h (fun M13 h => ?_)
            exact j_vret (pc := 250) C dX8_advance_250 (Nat.le_of_ble_eq_true rfl) (Nat.le_of_ble_eq_true rfl) h
        · obtain ⟨n126, h⟩ := h
          refine j_weak [1] rfl (jl_X8_advance_126 C ⟨Nat.le_of_ble_eq_true rfl, Nat.le_of_ble_eq_true rfl⟩ (fun M21 x0_21 h => ?_) n126 _ _ h)
          · refine j_aload_n (pc := 200) C 0 dX8_advance_200 rfl ?_
            refine j_aload_n (pc := 201) C 0 dX8_advance_201 rfl ?_
            refine gf_X8_73 (pc := 202) C dX8_advance_202 h (fun h => ?_)
            refine j_aload_n (pc := 205) C 0 dX8_advance_205 rfl ?_
            refine gf_X8_84 (pc := 206) C dX8_advance_206 h (fun h => ?_)
            refine j_isub (pc := 209) C dX8_advance_209 ?_
            refine j_iconst (pc := 210) (v := (3 : Int32)) C dX8_advance_210 rfl ?_
            refine j_icmp_le (pc := 211) C 218 dX8_advance_211 (by decide) h (fun h => ?_) (fun h => ?_)
            · refine j_iconst (pc := 218) (v := (2 : Int32)) C dX8_advance_218 rfl ?_
              refine pf_X8_90 (pc := 219) C dX8_advance_219 h (fun M22 h => ?_)
              refine j_goto (pc := 222) C 250 dX8_advance_222 (by decide) ?_
              exact j_vret (pc := 250) C dX8_advance_250 (Nat.le_of_ble_eq_true rfl) (Nat.le_of_ble_eq_true rfl) h
            · refine j_iconst (pc := 214) (v := (4 : Int32)) C dX8_advance_214 rfl ?_
              refine j_goto (pc := 215) C 219 dX8_advance_215 (by decide) ?_
              refine pf_X8_90 (pc := 219) C dX8_advance_219 h (fun M23 h => ?_)
              refine j_goto (pc := 222) C 250 dX8_advance_222 (by decide) ?_
              exact j_vret (pc := 250) C dX8_advance_250 (Nat.le_of_ble_eq_true rfl) (Nat.le_of_ble_eq_true rfl) h
      · refine j_aload_n (pc := 85) C 1 dX8_advance_85 rfl ?_
        refine cs_X8_93 (pc := 86) C ⟨Nat.le_of_ble_eq_true rfl, Nat.le_of_ble_eq_true rfl⟩ ⟨Nat.le_of_ble_eq_true rfl, Nat.le_of_ble_eq_true rfl⟩ (Nat.le_of_ble_eq_true rfl) dX8_advance_86 h (fun M24 h => ?_)
        refine j_aload_n (pc := 89) C 1 dX8_advance_89 rfl ?_
        refine j_aload_n (pc := 90) C 1 dX8_advance_90 rfl ?_
        refine gf_X8_73 (pc := 91) C dX8_advance_91 h (fun h => ?_)
        refine j_aload_n (pc := 94) C 1 dX8_advance_94 rfl ?_
        refine gf_X8_84 (pc := 95) C dX8_advance_95 h (fun h => ?_)
        refine j_isub (pc := 98) C dX8_advance_98 ?_
        refine j_bipush (pc := 99) (v := (8 : Int32)) C dX8_advance_99 rfl ?_
        refine j_icmp_le (pc := 101) C 108 dX8_advance_101 (by decide) h (fun h => ?_) (fun h => ?_)
        · refine j_iconst (pc := 108) (v := (1 : Int32)) C dX8_advance_108 rfl ?_
          refine pf_X8_90 (pc := 109) C dX8_advance_109 h (fun M25 h => ?_)
          refine j_goto (pc := 112) C 250 dX8_advance_112 (by decide) ?_
          exact j_vret (pc := 250) C dX8_advance_250 (Nat.le_of_ble_eq_true rfl) (Nat.le_of_ble_eq_true rfl) h
        · refine j_iconst (pc := 104) (v := (4 : Int32)) C dX8_advance_104 rfl ?_
          refine j_goto (pc := 105) C 109 dX8_advance_105 (by decide) ?_
          refine pf_X8_90 (pc := 109) C dX8_advance_109 h (fun M26 h => ?_)
          refine j_goto (pc := 112) C 250 dX8_advance_112 (by decide) ?_
          exact j_vret (pc := 250) C dX8_advance_250 (Nat.le_of_ble_eq_true rfl) (Nat.le_of_ble_eq_true rfl) h
    · refine j_aload_n (pc := 66) C 1 dX8_advance_66 rfl ?_
      refine j_iconst (pc := 67) (v := (0 : Int32)) C dX8_advance_67 rfl ?_
      refine pf_X8_90 (pc := 68) C dX8_advance_68 h (fun M27 h => ?_)
      refine j_goto (pc := 71) C 250 dX8_advance_71 (by decide) ?_
      exact j_vret (pc := 250) C dX8_advance_250 (Nat.le_of_ble_eq_true rfl) (Nat.le_of_ble_eq_true rfl) h
theorem cs_X8_96 (C : Cx p l s m args meth c cc nL RX8 ret E) {b : Nat} {P : Int32 → Mm → Prop} (hR : rm_J0_length_8abf5.frames + 1 ≤ R.frames ∧ 8 + (1 + 11) + rm_J0_length_8abf5.locals ≤ R.locals) (hf : kc ≤ R.cells ∧ ks ≤ R.slots) (hst : (st.map fun v => v.category).sum ≤ 8) (d : decode cc pc = .ok (.invokevirtual 96, 3)) (h : w_J0_length_8abf5 M b P) (kk : ∀ r M', P r M' → J p l e R s m args below meth c Q E nL M' kc ks (pc + 3) lo (.int r :: st)) : J p l e R s m args below meth c Q E nL M kc ks pc lo (.ref (E.2.2.2.1 b) :: st) :=
  j_cVs_I (n := 0) (As := []) C (w_J0_length_8abf5_lt h) wd_578 wd_579 (c_J0_length_8abf5 l E M b P h) ⟨wd_580, wd_1254, wd_113, by decide +kernel, by decide +kernel, by decide +kernel⟩ rfl rfl hR hf rfl hst d kk
theorem cs_X8_101 (C : Cx p l s m args meth c cc nL RX8 ret E) {b : Nat} {y0 : Int32} {P : Int32 → Mm → Prop} (hR : rm_J0_charAt_5068e.frames + 1 ≤ R.frames ∧ 8 + (2 + 11) + rm_J0_charAt_5068e.locals ≤ R.locals) (hf : kc ≤ R.cells ∧ ks ≤ R.slots) (hst : (st.map fun v => v.category).sum ≤ 8) (d : decode cc pc = .ok (.invokevirtual 101, 3)) (h : w_J0_charAt_5068e M b y0 P) (kk : ∀ r M', P r M' → J p l e R s m args below meth c Q E nL M' kc ks (pc + 3) lo (.int r :: st)) : J p l e R s m args below meth c Q E nL M kc ks pc lo (.int y0 :: .ref (E.2.2.2.1 b) :: st) :=
  j_cVs_I (n := 1) (As := [.int y0]) C (w_J0_charAt_5068e_lt h) wd_588 wd_589 (c_J0_charAt_5068e l E M b y0 P h) ⟨wd_590, wd_1255, wd_113, by decide +kernel, by decide +kernel, by decide +kernel⟩ rfl rfl hR hf rfl hst d kk
abbrev rm_X8_isWord : Room := { frames := 5, cells := 0, slots := 0, locals := 141 }
def l_X8_isWord_32 (P : Int32 → Mm → Prop) (K75 : Mm → Int32 → Prop) : Nat → Mm → Nat → Nat → Int32 → Int32 → Prop
  | 0, _, _, _, _, _ => False
  | n + 1, M, x0, x1, x2, x3 => w_J0_length_8abf5 M x1 (fun r1 M1 => (if r1 ≤ x3 then K75 M1 x2 else (if x2 = 0 then K75 M1 x2 else (zk M1 x0 = 8 ∧ ∃ a2, zR M1 x0 4 = some a2 ∧ zk M1 x0 = 8 ∧ zk M1 a2 = 9 ∧ vp_in ((zI M1 x0 7) + x3) (zl M1 a2) ∧ w_J0_charAt_5068e M1 x1 x3 (fun r3 M3 => (if (zI M1 a2 ((zI M1 x0 7) + x3).toNatClampNeg) = r3 then l_X8_isWord_32 P K75 n M3 x0 x1 (1 : Int32) (x3 + (1 : Int32)) else l_X8_isWord_32 P K75 n M3 x0 x1 (0 : Int32) (x3 + (1 : Int32))))))))
set_option maxHeartbeats 4000000 in
set_option maxRecDepth 100000 in
theorem jl_X8_isWord_32 {P : Int32 → Mm → Prop} {K75 : Mm → Int32 → Prop} (C : Cx p l s m args meth c cX8_isWord 4 RX8 (some .boolean) E) (hkc : kc ≤ rm_X8_isWord.cells ∧ ks ≤ rm_X8_isWord.slots) (k75 : ∀ M x2, K75 M x2 → J p l e rm_X8_isWord s m args below meth c (QI below E P args s rm_X8_isWord.cells rm_X8_isWord.slots) E 4 M kc ks 75 [(2, .int x2)] []) : ∀ n M x0 x1 x2 x3, l_X8_isWord_32 P K75 n M x0 x1 x2 x3 → J p l e rm_X8_isWord s m args below meth c (QI below E P args s rm_X8_isWord.cells rm_X8_isWord.slots) E 4 M kc ks 32 [(0, .ref x0), (1, .ref (E.2.2.2.1 x1)), (2, .int x2), (3, .int x3)] [] := by
  intro n
  induction n with
  | zero => intro M x0 x1 x2 x3 h; exact h.elim
  | succ n ih =>
    intro M x0 x1 x2 x3 h
    rw [l_X8_isWord_32] at h
    refine j_iload_n (pc := 32) C 3 dX8_isWord_32 rfl ?_
    refine j_aload_n (pc := 33) C 1 dX8_isWord_33 rfl ?_
    refine cs_X8_96 (pc := 34) C ⟨Nat.le_of_ble_eq_true rfl, Nat.le_of_ble_eq_true rfl⟩ hkc (Nat.le_of_ble_eq_true rfl) dX8_isWord_34 h (fun r1 M1 h => ?_)
    refine j_icmp_ge (pc := 37) C 75 dX8_isWord_37 (by decide) h (fun h => ?_) (fun h => ?_)
    · exact j_weak [2] rfl (k75 _ _ h)
    · refine j_iload_n (pc := 40) C 2 dX8_isWord_40 rfl ?_
      refine j_if_eq (pc := 41) C 75 dX8_isWord_41 (by decide) h (fun h => ?_) (fun h => ?_)
      · exact j_weak [2] rfl (k75 _ _ h)
      · refine j_aload_n (pc := 44) C 0 dX8_isWord_44 rfl ?_
        refine gf_X8_20 (pc := 45) C dX8_isWord_45 h (fun a2 h => ?_)
        refine j_aload_n (pc := 48) C 0 dX8_isWord_48 rfl ?_
        refine gf_X8_84 (pc := 49) C dX8_isWord_49 h (fun h => ?_)
        refine j_iload_n (pc := 52) C 3 dX8_isWord_52 rfl ?_
        refine j_iadd (pc := 53) C dX8_isWord_53 ?_
        refine j_bald (pc := 54) C dX8_isWord_54 h (fun h => ?_)
        refine j_aload_n (pc := 55) C 1 dX8_isWord_55 rfl ?_
        refine j_iload_n (pc := 56) C 3 dX8_isWord_56 rfl ?_
        refine cs_X8_101 (pc := 57) C ⟨Nat.le_of_ble_eq_true rfl, Nat.le_of_ble_eq_true rfl⟩ hkc (Nat.le_of_ble_eq_true rfl) dX8_isWord_57 h (fun r3 M3 h => ?_)
        refine j_icmp_ne (pc := 60) C 67 dX8_isWord_60 (by decide) h (fun h => ?_) (fun h => ?_)
        · refine j_iconst (pc := 67) (v := (0 : Int32)) C dX8_isWord_67 rfl ?_
          refine j_istore_n (pc := 68) C [(2, _), (0, _), (1, _), (3, _)] dX8_isWord_68 (by decide) rfl ?_
          refine j_iinc (pc := 69) (v := (1 : Int32)) C 3 [(3, _), (2, _), (0, _), (1, _)] dX8_isWord_69 rfl rfl (by decide) rfl ?_
          refine j_goto (pc := 72) C 32 dX8_isWord_72 (by decide) ?_
          exact j_weak [2, 3, 1, 0] rfl (ih _ _ _ _ _ h)
        · refine j_iconst (pc := 63) (v := (1 : Int32)) C dX8_isWord_63 rfl ?_
          refine j_goto (pc := 64) C 68 dX8_isWord_64 (by decide) ?_
          refine j_istore_n (pc := 68) C [(2, _), (0, _), (1, _), (3, _)] dX8_isWord_68 (by decide) rfl ?_
          refine j_iinc (pc := 69) (v := (1 : Int32)) C 3 [(3, _), (2, _), (0, _), (1, _)] dX8_isWord_69 rfl rfl (by decide) rfl ?_
          refine j_goto (pc := 72) C 32 dX8_isWord_72 (by decide) ?_
          exact j_weak [2, 3, 1, 0] rfl (ih _ _ _ _ _ h)
def w_X8_isWord (M : Mm) (x0 : Nat) (x1 : Nat) (P : Int32 → Mm → Prop) : Prop := zk M x0 = 8 ∧ (if (zI M x0 9) = (1 : Int32) then zk M x0 = 8 ∧ zk M x0 = 8 ∧ w_J0_length_8abf5 M x1 (fun r5 M5 => (if ((zI M x0 8) - (zI M x0 7)) = r5 then (∃ n32, l_X8_isWord_32 P (fun M7 x2_7 => (x2_7 = 0 ∨ x2_7 = 1) ∧ P x2_7 M7) n32 M5 x0 x1 (1 : Int32) (0 : Int32)) else (∃ n32, l_X8_isWord_32 P (fun M6 x2_6 => (x2_6 = 0 ∨ x2_6 = 1) ∧ P x2_6 M6) n32 M5 x0 x1 (0 : Int32) (0 : Int32)))) else (∃ n32, l_X8_isWord_32 P (fun M4 x2_4 => (x2_4 = 0 ∨ x2_4 = 1) ∧ P x2_4 M4) n32 M x0 x1 (0 : Int32) (0 : Int32)))
set_option maxHeartbeats 4000000 in
set_option maxRecDepth 100000 in
theorem c_X8_isWord (l : Launch) (E : EV) (M : Mm) (x0 : Nat) (x1 : Nat) (P : Int32 → Mm → Prop) (h : w_X8_isWord M x0 x1 P) : CtI l E yX8_isWord cX8_isWord 4 .boolean rm_X8_isWord 0 0 [.ref x0, .ref (E.2.2.2.1 x1)] M P := by
  refine ctI_of (by decide +kernel) (Nat.le_of_ble_eq_true rfl) ?_
  intro p e s m args below meth c C
  rw [w_X8_isWord] at h
  show J p l e rm_X8_isWord s m args below meth c (QI below E P args s 0 0) E 4 M 0 0 0 [(0, .ref x0), (1, .ref (E.2.2.2.1 x1))] []
  refine j_aload_n (pc := 0) C 0 dX8_isWord_0 rfl ?_
  refine gf_X8_90 (pc := 1) C dX8_isWord_1 h (fun h => ?_)
  refine j_iconst (pc := 4) (v := (1 : Int32)) C dX8_isWord_4 rfl ?_
  refine j_icmp_ne (pc := 5) C 28 dX8_isWord_5 (by decide) h (fun h => ?_) (fun h => ?_)
  · refine j_iconst (pc := 28) (v := (0 : Int32)) C dX8_isWord_28 rfl ?_
    refine j_istore_n (pc := 29) C [(2, _), (0, _), (1, _)] dX8_isWord_29 (by decide) rfl ?_
    refine j_iconst (pc := 30) (v := (0 : Int32)) C dX8_isWord_30 rfl ?_
    refine j_istore_n (pc := 31) C [(3, _), (2, _), (0, _), (1, _)] dX8_isWord_31 (by decide) rfl ?_
    obtain ⟨n32, h⟩ := h
    refine j_weak [2, 3, 1, 0] rfl (jl_X8_isWord_32 C ⟨Nat.le_of_ble_eq_true rfl, Nat.le_of_ble_eq_true rfl⟩ (fun M4 x2_4 h => ?_) n32 _ _ _ _ _ h)
    · refine j_iload_n (pc := 75) C 0 dX8_isWord_75 rfl ?_
      exact j_zret (pc := 76) C dX8_isWord_76 (Nat.le_of_ble_eq_true rfl) (Nat.le_of_ble_eq_true rfl) h
  · refine j_aload_n (pc := 8) C 0 dX8_isWord_8 rfl ?_
    refine gf_X8_73 (pc := 9) C dX8_isWord_9 h (fun h => ?_)
    refine j_aload_n (pc := 12) C 0 dX8_isWord_12 rfl ?_
    refine gf_X8_84 (pc := 13) C dX8_isWord_13 h (fun h => ?_)
    refine j_isub (pc := 16) C dX8_isWord_16 ?_
    refine j_aload_n (pc := 17) C 1 dX8_isWord_17 rfl ?_
    refine cs_X8_96 (pc := 18) C ⟨Nat.le_of_ble_eq_true rfl, Nat.le_of_ble_eq_true rfl⟩ ⟨Nat.le_of_ble_eq_true rfl, Nat.le_of_ble_eq_true rfl⟩ (Nat.le_of_ble_eq_true rfl) dX8_isWord_18 h (fun r5 M5 h => ?_)
    refine j_icmp_ne (pc := 21) C 28 dX8_isWord_21 (by decide) h (fun h => ?_) (fun h => ?_)
    · refine j_iconst (pc := 28) (v := (0 : Int32)) C dX8_isWord_28 rfl ?_
      refine j_istore_n (pc := 29) C [(2, _), (0, _), (1, _)] dX8_isWord_29 (by decide) rfl ?_
      refine j_iconst (pc := 30) (v := (0 : Int32)) C dX8_isWord_30 rfl ?_
      refine j_istore_n (pc := 31) C [(3, _), (2, _), (0, _), (1, _)] dX8_isWord_31 (by decide) rfl ?_
      obtain ⟨n32, h⟩ := h
      refine j_weak [2, 3, 1, 0] rfl (jl_X8_isWord_32 C ⟨Nat.le_of_ble_eq_true rfl, Nat.le_of_ble_eq_true rfl⟩ (fun M6 x2_6 h => ?_) n32 _ _ _ _ _ h)
      · refine j_iload_n (pc := 75) C 0 dX8_isWord_75 rfl ?_
        exact j_zret (pc := 76) C dX8_isWord_76 (Nat.le_of_ble_eq_true rfl) (Nat.le_of_ble_eq_true rfl) h
    · refine j_iconst (pc := 24) (v := (1 : Int32)) C dX8_isWord_24 rfl ?_
      refine j_goto (pc := 25) C 29 dX8_isWord_25 (by decide) ?_
      refine j_istore_n (pc := 29) C [(2, _), (0, _), (1, _)] dX8_isWord_29 (by decide) rfl ?_
      refine j_iconst (pc := 30) (v := (0 : Int32)) C dX8_isWord_30 rfl ?_
      refine j_istore_n (pc := 31) C [(3, _), (2, _), (0, _), (1, _)] dX8_isWord_31 (by decide) rfl ?_
      obtain ⟨n32, h⟩ := h
      refine j_weak [2, 3, 1, 0] rfl (jl_X8_isWord_32 C ⟨Nat.le_of_ble_eq_true rfl, Nat.le_of_ble_eq_true rfl⟩ (fun M7 x2_7 h => ?_) n32 _ _ _ _ _ h)
      · refine j_iload_n (pc := 75) C 0 dX8_isWord_75 rfl ?_
        exact j_zret (pc := 76) C dX8_isWord_76 (Nat.le_of_ble_eq_true rfl) (Nat.le_of_ble_eq_true rfl) h
abbrev rm_X8_fails : Room := { frames := 0, cells := 0, slots := 0, locals := 0 }
def w_X8_fails (M : Mm) (x0 : Nat) (x1 : Int32) (P : Int32 → Mm → Prop) : Prop := zk M x0 = 8 ∧ (if (zI M x0 12) = 0 then zk M x0 = 8 ∧ (∀ M1, M1 = sI M x0 12 x1 → zk M1 x0 = 8 ∧ zk M1 x0 = 8 ∧ (∀ M2, M2 = sI M1 x0 13 (zI M1 x0 7) → ((0 : Int32) = 0 ∨ (0 : Int32) = 1) ∧ P (0 : Int32) M2)) else ((0 : Int32) = 0 ∨ (0 : Int32) = 1) ∧ P (0 : Int32) M)
set_option maxHeartbeats 4000000 in
set_option maxRecDepth 100000 in
theorem c_X8_fails (l : Launch) (E : EV) (M : Mm) (x0 : Nat) (x1 : Int32) (P : Int32 → Mm → Prop) (h : w_X8_fails M x0 x1 P) : CtI l E yX8_fails cX8_fails 2 .boolean rm_X8_fails 0 0 [.ref x0, .int x1] M P := by
  refine ctI_of (by decide +kernel) (Nat.le_of_ble_eq_true rfl) ?_
  intro p e s m args below meth c C
  rw [w_X8_fails] at h
  show J p l e rm_X8_fails s m args below meth c (QI below E P args s 0 0) E 2 M 0 0 0 [(0, .ref x0), (1, .int x1)] []
  refine j_aload_n (pc := 0) C 0 dX8_fails_0 rfl ?_
  refine gf_X8_105 (pc := 1) C dX8_fails_1 h (fun h => ?_)
  refine j_if_ne (pc := 4) C 20 dX8_fails_4 (by decide) h (fun h => ?_) (fun h => ?_)
  · refine j_iconst (pc := 20) (v := (0 : Int32)) C dX8_fails_20 rfl ?_
    exact j_zret (pc := 21) C dX8_fails_21 (Nat.le_of_ble_eq_true rfl) (Nat.le_of_ble_eq_true rfl) h
  · refine j_aload_n (pc := 7) C 0 dX8_fails_7 rfl ?_
    refine j_iload_n (pc := 8) C 1 dX8_fails_8 rfl ?_
    refine pf_X8_105 (pc := 9) C dX8_fails_9 h (fun M1 h => ?_)
    refine j_aload_n (pc := 12) C 0 dX8_fails_12 rfl ?_
    refine j_aload_n (pc := 13) C 0 dX8_fails_13 rfl ?_
    refine gf_X8_84 (pc := 14) C dX8_fails_14 h (fun h => ?_)
    refine pf_X8_24 (pc := 17) C dX8_fails_17 h (fun M2 h => ?_)
    refine j_iconst (pc := 20) (v := (0 : Int32)) C dX8_fails_20 rfl ?_
    exact j_zret (pc := 21) C dX8_fails_21 (Nat.le_of_ble_eq_true rfl) (Nat.le_of_ble_eq_true rfl) h
theorem cs_X8_108 (C : Cx p l s m args meth c cc nL RX8 ret E) {b : Nat} {y0 : Int32} {P : Int32 → Mm → Prop} (hR : rm_X8_fails.frames + 1 ≤ R.frames ∧ 8 + (2 + 11) + rm_X8_fails.locals ≤ R.locals) (hf : kc ≤ R.cells ∧ ks ≤ R.slots) (hst : (st.map fun v => v.category).sum ≤ 8) (d : decode cc pc = .ok (.invokevirtual 108, 3)) (h : zk M b = 8 ∧ w_X8_fails M b y0 P) (kk : ∀ r M', P r M' → J p l e R s m args below meth c Q E nL M' kc ks (pc + 3) lo (.int r :: st)) : J p l e R s m args below meth c Q E nL M kc ks pc lo (.int y0 :: .ref b :: st) :=
  j_cV_I (n := 1) (As := [.int y0]) C co_X8 rfl wd_1262 wd_46 h.1 (c_X8_fails l E M b y0 P h.2) ⟨wd_1263, wd_1260, wd_106, by decide +kernel, by decide +kernel, by decide +kernel⟩ rfl rfl hR hf rfl hst d kk
theorem cs_X8_112 (C : Cx p l s m args meth c cc nL RX8 ret E) {b : Nat} {P : Mm → Prop} (hR : rm_X8_advance.frames + 1 ≤ R.frames ∧ 8 + (2 + 11) + rm_X8_advance.locals ≤ R.locals) (hf : kc ≤ R.cells ∧ ks ≤ R.slots) (hst : (st.map fun v => v.category).sum ≤ 8) (d : decode cc pc = .ok (.invokevirtual 112, 3)) (h : zk M b = 8 ∧ w_X8_advance M b P) (kk : ∀ M', P M' → J p l e R s m args below meth c Q E nL M' kc ks (pc + 3) lo st) : J p l e R s m args below meth c Q E nL M kc ks pc lo (.ref b :: st) :=
  j_cV_V (n := 0) (As := []) C co_X8 rfl wd_1239 wd_41 h.1 (c_X8_advance l E M b P h.2) ⟨wd_1240, wd_1237, wd_106, by decide +kernel, by decide +kernel, by decide +kernel⟩ rfl rfl hR hf rfl hst d kk
abbrev rm_X8_starts : Room := { frames := 3, cells := 0, slots := 0, locals := 63 }
def w_X8_starts (M : Mm) (x0 : Nat) (x1 : Int32) (x2 : Int32) (P : Int32 → Mm → Prop) : Prop := (if x2 = 0 then zk M x0 = 8 ∧ w_X8_fails M x0 x1 (fun r2 M2 => (r2 = 0 ∨ r2 = 1) ∧ P r2 M2) else zk M x0 = 8 ∧ w_X8_advance M x0 (fun M1 => ((1 : Int32) = 0 ∨ (1 : Int32) = 1) ∧ P (1 : Int32) M1))
set_option maxHeartbeats 4000000 in
set_option maxRecDepth 100000 in
theorem c_X8_starts (l : Launch) (E : EV) (M : Mm) (x0 : Nat) (x1 : Int32) (x2 : Int32) (P : Int32 → Mm → Prop) (h : w_X8_starts M x0 x1 x2 P) : CtI l E yX8_starts cX8_starts 3 .boolean rm_X8_starts 0 0 [.ref x0, .int x1, .int x2] M P := by
  refine ctI_of (by decide +kernel) (Nat.le_of_ble_eq_true rfl) ?_
  intro p e s m args below meth c C
  rw [w_X8_starts] at h
  show J p l e rm_X8_starts s m args below meth c (QI below E P args s 0 0) E 3 M 0 0 0 [(0, .ref x0), (1, .int x1), (2, .int x2)] []
  refine j_iload_n (pc := 0) C 2 dX8_starts_0 rfl ?_
  refine j_if_ne (pc := 1) C 10 dX8_starts_1 (by decide) h (fun h => ?_) (fun h => ?_)
  · refine j_aload_n (pc := 10) C 0 dX8_starts_10 rfl ?_
    refine cs_X8_112 (pc := 11) C ⟨Nat.le_of_ble_eq_true rfl, Nat.le_of_ble_eq_true rfl⟩ ⟨Nat.le_of_ble_eq_true rfl, Nat.le_of_ble_eq_true rfl⟩ (Nat.le_of_ble_eq_true rfl) dX8_starts_11 h (fun M1 h => ?_)
    refine j_iconst (pc := 14) (v := (1 : Int32)) C dX8_starts_14 rfl ?_
    exact j_zret (pc := 15) C dX8_starts_15 (Nat.le_of_ble_eq_true rfl) (Nat.le_of_ble_eq_true rfl) h
  · refine j_aload_n (pc := 4) C 0 dX8_starts_4 rfl ?_
    refine j_iload_n (pc := 5) C 1 dX8_starts_5 rfl ?_
    refine cs_X8_108 (pc := 6) C ⟨Nat.le_of_ble_eq_true rfl, Nat.le_of_ble_eq_true rfl⟩ ⟨Nat.le_of_ble_eq_true rfl, Nat.le_of_ble_eq_true rfl⟩ (Nat.le_of_ble_eq_true rfl) dX8_starts_6 h (fun r2 M2 h => ?_)
    exact j_zret (pc := 9) C dX8_starts_9 (Nat.le_of_ble_eq_true rfl) (Nat.le_of_ble_eq_true rfl) h
abbrev rm_X8_takes : Room := { frames := 3, cells := 0, slots := 0, locals := 63 }
def w_X8_takes (M : Mm) (x0 : Nat) (x1 : Int32) (x2 : Int32) (P : Int32 → Mm → Prop) : Prop := zk M x0 = 8 ∧ (if (zI M x0 9) = (2 : Int32) then zk M x0 = 8 ∧ w_X8_within M (zI M x0 10) x1 x2 (fun r1 M1 => (if r1 = 0 then zk M1 x0 = 8 ∧ w_X8_fails M1 x0 (3 : Int32) (fun r4 M4 => (r4 = 0 ∨ r4 = 1) ∧ P r4 M4) else zk M1 x0 = 8 ∧ zk M1 x0 = 8 ∧ (∀ M2, M2 = sI M1 x0 14 (zI M1 x0 10) → zk M2 x0 = 8 ∧ w_X8_advance M2 x0 (fun M3 => ((1 : Int32) = 0 ∨ (1 : Int32) = 1) ∧ P (1 : Int32) M3)))) else zk M x0 = 8 ∧ w_X8_fails M x0 (1 : Int32) (fun r5 M5 => (r5 = 0 ∨ r5 = 1) ∧ P r5 M5))
set_option maxHeartbeats 4000000 in
set_option maxRecDepth 100000 in
theorem c_X8_takes (l : Launch) (E : EV) (M : Mm) (x0 : Nat) (x1 : Int32) (x2 : Int32) (P : Int32 → Mm → Prop) (h : w_X8_takes M x0 x1 x2 P) : CtI l E yX8_takes cX8_takes 3 .boolean rm_X8_takes 0 0 [.ref x0, .int x1, .int x2] M P := by
  refine ctI_of (by decide +kernel) (Nat.le_of_ble_eq_true rfl) ?_
  intro p e s m args below meth c C
  rw [w_X8_takes] at h
  show J p l e rm_X8_takes s m args below meth c (QI below E P args s 0 0) E 3 M 0 0 0 [(0, .ref x0), (1, .int x1), (2, .int x2)] []
  refine j_aload_n (pc := 0) C 0 dX8_takes_0 rfl ?_
  refine gf_X8_90 (pc := 1) C dX8_takes_1 h (fun h => ?_)
  refine j_iconst (pc := 4) (v := (2 : Int32)) C dX8_takes_4 rfl ?_
  refine j_icmp_eq (pc := 5) C 14 dX8_takes_5 (by decide) h (fun h => ?_) (fun h => ?_)
  · refine j_aload_n (pc := 14) C 0 dX8_takes_14 rfl ?_
    refine gf_X8_87 (pc := 15) C dX8_takes_15 h (fun h => ?_)
    refine j_iload_n (pc := 18) C 1 dX8_takes_18 rfl ?_
    refine j_iload_n (pc := 19) C 2 dX8_takes_19 rfl ?_
    refine cs_X8_80 (pc := 20) C ⟨Nat.le_of_ble_eq_true rfl, Nat.le_of_ble_eq_true rfl⟩ ⟨Nat.le_of_ble_eq_true rfl, Nat.le_of_ble_eq_true rfl⟩ (Nat.le_of_ble_eq_true rfl) dX8_takes_20 h (fun r1 M1 h => ?_)
    refine j_if_ne (pc := 23) C 32 dX8_takes_23 (by decide) h (fun h => ?_) (fun h => ?_)
    · refine j_aload_n (pc := 32) C 0 dX8_takes_32 rfl ?_
      refine j_aload_n (pc := 33) C 0 dX8_takes_33 rfl ?_
      refine gf_X8_87 (pc := 34) C dX8_takes_34 h (fun h => ?_)
      refine pf_X8_115 (pc := 37) C dX8_takes_37 h (fun M2 h => ?_)
      refine j_aload_n (pc := 40) C 0 dX8_takes_40 rfl ?_
      refine cs_X8_112 (pc := 41) C ⟨Nat.le_of_ble_eq_true rfl, Nat.le_of_ble_eq_true rfl⟩ ⟨Nat.le_of_ble_eq_true rfl, Nat.le_of_ble_eq_true rfl⟩ (Nat.le_of_ble_eq_true rfl) dX8_takes_41 h (fun M3 h => ?_)
      refine j_iconst (pc := 44) (v := (1 : Int32)) C dX8_takes_44 rfl ?_
      exact j_zret (pc := 45) C dX8_takes_45 (Nat.le_of_ble_eq_true rfl) (Nat.le_of_ble_eq_true rfl) h
    · refine j_aload_n (pc := 26) C 0 dX8_takes_26 rfl ?_
      refine j_iconst (pc := 27) (v := (3 : Int32)) C dX8_takes_27 rfl ?_
      refine cs_X8_108 (pc := 28) C ⟨Nat.le_of_ble_eq_true rfl, Nat.le_of_ble_eq_true rfl⟩ ⟨Nat.le_of_ble_eq_true rfl, Nat.le_of_ble_eq_true rfl⟩ (Nat.le_of_ble_eq_true rfl) dX8_takes_28 h (fun r4 M4 h => ?_)
      exact j_zret (pc := 31) C dX8_takes_31 (Nat.le_of_ble_eq_true rfl) (Nat.le_of_ble_eq_true rfl) h
  · refine j_aload_n (pc := 8) C 0 dX8_takes_8 rfl ?_
    refine j_iconst (pc := 9) (v := (1 : Int32)) C dX8_takes_9 rfl ?_
    refine cs_X8_108 (pc := 10) C ⟨Nat.le_of_ble_eq_true rfl, Nat.le_of_ble_eq_true rfl⟩ ⟨Nat.le_of_ble_eq_true rfl, Nat.le_of_ble_eq_true rfl⟩ (Nat.le_of_ble_eq_true rfl) dX8_takes_10 h (fun r5 M5 h => ?_)
    exact j_zret (pc := 13) C dX8_takes_13 (Nat.le_of_ble_eq_true rfl) (Nat.le_of_ble_eq_true rfl) h
theorem cs_X8_118 (C : Cx p l s m args meth c cc nL RX8 ret E) {b : Nat} {y0 : Int32} {y1 : Int32} {P : Int32 → Mm → Prop} (hR : rm_X8_takes.frames + 1 ≤ R.frames ∧ 8 + (3 + 11) + rm_X8_takes.locals ≤ R.locals) (hf : kc ≤ R.cells ∧ ks ≤ R.slots) (hst : (st.map fun v => v.category).sum ≤ 8) (d : decode cc pc = .ok (.invokevirtual 118, 3)) (h : zk M b = 8 ∧ w_X8_takes M b y0 y1 P) (kk : ∀ r M', P r M' → J p l e R s m args below meth c Q E nL M' kc ks (pc + 3) lo (.int r :: st)) : J p l e R s m args below meth c Q E nL M kc ks pc lo (.int y1 :: .int y0 :: .ref b :: st) :=
  j_cV_I (n := 2) (As := [.int y0, .int y1]) C co_X8 rfl wd_1270 wd_48 h.1 (c_X8_takes l E M b y0 y1 P h.2) ⟨wd_1271, wd_1268, wd_106, by decide +kernel, by decide +kernel, by decide +kernel⟩ rfl rfl hR hf rfl hst d kk
abbrev rm_X8_lays : Room := { frames := 4, cells := 0, slots := 0, locals := 85 }
def w_X8_lays (M : Mm) (x0 : Nat) (x1 : Int32) (x2 : Int32) (x3 : Int32) (P : Int32 → Mm → Prop) : Prop := zk M x0 = 8 ∧ w_X8_takes M x0 x2 x3 (fun r1 M1 => (if r1 = 0 then ((0 : Int32) = 0 ∨ (0 : Int32) = 1) ∧ P (0 : Int32) M1 else (zk M1 x0 = 8 ∧ ∃ a2, zR M1 x0 16 = some a2 ∧ zk M1 x0 = 8 ∧ zk M1 a2 = 10 ∧ vp_in x1 (zl M1 a2) ∧ (∀ M3, M3 = sI M1 a2 x1.toNatClampNeg (zI M1 x0 14) → ((1 : Int32) = 0 ∨ (1 : Int32) = 1) ∧ P (1 : Int32) M3))))
set_option maxHeartbeats 4000000 in
set_option maxRecDepth 100000 in
theorem c_X8_lays (l : Launch) (E : EV) (M : Mm) (x0 : Nat) (x1 : Int32) (x2 : Int32) (x3 : Int32) (P : Int32 → Mm → Prop) (h : w_X8_lays M x0 x1 x2 x3 P) : CtI l E yX8_lays cX8_lays 4 .boolean rm_X8_lays 0 0 [.ref x0, .int x1, .int x2, .int x3] M P := by
  refine ctI_of (by decide +kernel) (Nat.le_of_ble_eq_true rfl) ?_
  intro p e s m args below meth c C
  rw [w_X8_lays] at h
  show J p l e rm_X8_lays s m args below meth c (QI below E P args s 0 0) E 4 M 0 0 0 [(0, .ref x0), (1, .int x1), (2, .int x2), (3, .int x3)] []
  refine j_aload_n (pc := 0) C 0 dX8_lays_0 rfl ?_
  refine j_iload_n (pc := 1) C 2 dX8_lays_1 rfl ?_
  refine j_iload_n (pc := 2) C 3 dX8_lays_2 rfl ?_
  refine cs_X8_118 (pc := 3) C ⟨Nat.le_of_ble_eq_true rfl, Nat.le_of_ble_eq_true rfl⟩ ⟨Nat.le_of_ble_eq_true rfl, Nat.le_of_ble_eq_true rfl⟩ (Nat.le_of_ble_eq_true rfl) dX8_lays_3 h (fun r1 M1 h => ?_)
  refine j_if_ne (pc := 6) C 11 dX8_lays_6 (by decide) h (fun h => ?_) (fun h => ?_)
  · refine j_aload_n (pc := 11) C 0 dX8_lays_11 rfl ?_
    refine gf_X8_28 (pc := 12) C dX8_lays_12 h (fun a2 h => ?_)
    refine j_iload_n (pc := 15) C 1 dX8_lays_15 rfl ?_
    refine j_aload_n (pc := 16) C 0 dX8_lays_16 rfl ?_
    refine gf_X8_115 (pc := 17) C dX8_lays_17 h (fun h => ?_)
    refine n_iast (pc := 20) C dX8_lays_20 h (fun M3 h => ?_)
    refine j_iconst (pc := 21) (v := (1 : Int32)) C dX8_lays_21 rfl ?_
    exact j_zret (pc := 22) C dX8_lays_22 (Nat.le_of_ble_eq_true rfl) (Nat.le_of_ble_eq_true rfl) h
  · refine j_iconst (pc := 9) (v := (0 : Int32)) C dX8_lays_9 rfl ?_
    exact j_zret (pc := 10) C dX8_lays_10 (Nat.le_of_ble_eq_true rfl) (Nat.le_of_ble_eq_true rfl) h
theorem cs_X8_122 (C : Cx p l s m args meth c cc nL RX8 ret E) {b : Nat} {y0 : Int32} {y1 : Int32} {P : Int32 → Mm → Prop} (hR : rm_X8_starts.frames + 1 ≤ R.frames ∧ 8 + (3 + 11) + rm_X8_starts.locals ≤ R.locals) (hf : kc ≤ R.cells ∧ ks ≤ R.slots) (hst : (st.map fun v => v.category).sum ≤ 8) (d : decode cc pc = .ok (.invokevirtual 122, 3)) (h : zk M b = 8 ∧ w_X8_starts M b y0 y1 P) (kk : ∀ r M', P r M' → J p l e R s m args below meth c Q E nL M' kc ks (pc + 3) lo (.int r :: st)) : J p l e R s m args below meth c Q E nL M kc ks pc lo (.int y1 :: .int y0 :: .ref b :: st) :=
  j_cV_I (n := 2) (As := [.int y0, .int y1]) C co_X8 rfl wd_1258 wd_45 h.1 (c_X8_starts l E M b y0 y1 P h.2) ⟨wd_1259, wd_1256, wd_106, by decide +kernel, by decide +kernel, by decide +kernel⟩ rfl rfl hR hf rfl hst d kk
abbrev rm_X8_closes : Room := { frames := 4, cells := 0, slots := 0, locals := 85 }
def w_X8_closes (M : Mm) (x0 : Nat) (P : Int32 → Mm → Prop) : Prop := zk M x0 = 8 ∧ (if (zI M x0 9) = (3 : Int32) then zk M x0 = 8 ∧ w_X8_starts M x0 (1 : Int32) (1 : Int32) (fun r2 M2 => (r2 = 0 ∨ r2 = 1) ∧ P r2 M2) else zk M x0 = 8 ∧ w_X8_starts M x0 (1 : Int32) (0 : Int32) (fun r1 M1 => (r1 = 0 ∨ r1 = 1) ∧ P r1 M1))
set_option maxHeartbeats 4000000 in
set_option maxRecDepth 100000 in
theorem c_X8_closes (l : Launch) (E : EV) (M : Mm) (x0 : Nat) (P : Int32 → Mm → Prop) (h : w_X8_closes M x0 P) : CtI l E yX8_closes cX8_closes 1 .boolean rm_X8_closes 0 0 [.ref x0] M P := by
  refine ctI_of (by decide +kernel) (Nat.le_of_ble_eq_true rfl) ?_
  intro p e s m args below meth c C
  rw [w_X8_closes] at h
  show J p l e rm_X8_closes s m args below meth c (QI below E P args s 0 0) E 1 M 0 0 0 [(0, .ref x0)] []
  refine j_aload_n (pc := 0) C 0 dX8_closes_0 rfl ?_
  refine j_iconst (pc := 1) (v := (1 : Int32)) C dX8_closes_1 rfl ?_
  refine j_aload_n (pc := 2) C 0 dX8_closes_2 rfl ?_
  refine gf_X8_90 (pc := 3) C dX8_closes_3 h (fun h => ?_)
  refine j_iconst (pc := 6) (v := (3 : Int32)) C dX8_closes_6 rfl ?_
  refine j_icmp_ne (pc := 7) C 14 dX8_closes_7 (by decide) h (fun h => ?_) (fun h => ?_)
  · refine j_iconst (pc := 14) (v := (0 : Int32)) C dX8_closes_14 rfl ?_
    refine cs_X8_122 (pc := 15) C ⟨Nat.le_of_ble_eq_true rfl, Nat.le_of_ble_eq_true rfl⟩ ⟨Nat.le_of_ble_eq_true rfl, Nat.le_of_ble_eq_true rfl⟩ (Nat.le_of_ble_eq_true rfl) dX8_closes_15 h (fun r1 M1 h => ?_)
    exact j_zret (pc := 18) C dX8_closes_18 (Nat.le_of_ble_eq_true rfl) (Nat.le_of_ble_eq_true rfl) h
  · refine j_iconst (pc := 10) (v := (1 : Int32)) C dX8_closes_10 rfl ?_
    refine j_goto (pc := 11) C 15 dX8_closes_11 (by decide) ?_
    refine cs_X8_122 (pc := 15) C ⟨Nat.le_of_ble_eq_true rfl, Nat.le_of_ble_eq_true rfl⟩ ⟨Nat.le_of_ble_eq_true rfl, Nat.le_of_ble_eq_true rfl⟩ (Nat.le_of_ble_eq_true rfl) dX8_closes_15 h (fun r2 M2 h => ?_)
    exact j_zret (pc := 18) C dX8_closes_18 (Nat.le_of_ble_eq_true rfl) (Nat.le_of_ble_eq_true rfl) h
abbrev rm_X8_named : Room := { frames := 0, cells := 0, slots := 0, locals := 0 }
def l_X8_named_3 (P : Int32 → Mm → Prop) (K23 : Mm → Int32 → Prop) (K32 : Mm → Prop) : Nat → Mm → Nat → Int32 → Int32 → Int64 → Int32 → Prop
  | 0, _, _, _, _, _, _ => False
  | n + 1, M, x0, x1, x2, x3, x5 => (if x2 ≤ x5 then K32 M else zk M x0 = 11 ∧ vp_in (((8 : Int32) * x1) + x5) (zl M x0) ∧ (if (lg_cmp (zJ M x0 (((8 : Int32) * x1) + x5).toNatClampNeg) x3) = 0 then K23 M x5 else l_X8_named_3 P K23 K32 n M x0 x1 x2 x3 (x5 + (1 : Int32))))
set_option maxHeartbeats 4000000 in
set_option maxRecDepth 100000 in
theorem jl_X8_named_3 {P : Int32 → Mm → Prop} {K23 : Mm → Int32 → Prop} {K32 : Mm → Prop} (C : Cx p l s m args meth c cX8_named 6 RX8 (some .int) E) (hkc : kc ≤ rm_X8_named.cells ∧ ks ≤ rm_X8_named.slots) (k23 : ∀ M x5, K23 M x5 → J p l e rm_X8_named s m args below meth c (QI below E P args s rm_X8_named.cells rm_X8_named.slots) E 6 M kc ks 23 [(5, .int x5)] []) (k32 : ∀ M, K32 M → J p l e rm_X8_named s m args below meth c (QI below E P args s rm_X8_named.cells rm_X8_named.slots) E 6 M kc ks 32 [] []) : ∀ n M x0 x1 x2 x3 x5, l_X8_named_3 P K23 K32 n M x0 x1 x2 x3 x5 → J p l e rm_X8_named s m args below meth c (QI below E P args s rm_X8_named.cells rm_X8_named.slots) E 6 M kc ks 3 [(0, .ref x0), (1, .int x1), (2, .int x2), (3, .long x3), (5, .int x5)] [] := by
  intro n
  induction n with
  | zero => intro M x0 x1 x2 x3 x5 h; exact h.elim
  | succ n ih =>
    intro M x0 x1 x2 x3 x5 h
    rw [l_X8_named_3] at h
    refine j_iload (pc := 3) C 4 dX8_named_3 rfl ?_
    refine j_iload_n (pc := 5) C 2 dX8_named_5 rfl ?_
    refine j_icmp_ge (pc := 6) C 32 dX8_named_6 (by decide) h (fun h => ?_) (fun h => ?_)
    · exact j_weak [] rfl (k32 _ h)
    · refine j_aload_n (pc := 9) C 0 dX8_named_9 rfl ?_
      refine j_bipush (pc := 10) (v := (8 : Int32)) C dX8_named_10 rfl ?_
      refine j_iload_n (pc := 12) C 1 dX8_named_12 rfl ?_
      refine j_imul (pc := 13) C dX8_named_13 ?_
      refine j_iload (pc := 14) C 4 dX8_named_14 rfl ?_
      refine j_iadd (pc := 16) C dX8_named_16 ?_
      refine j_lald (pc := 17) C dX8_named_17 h (fun h => ?_)
      refine j_lload_n (pc := 18) C 3 dX8_named_18 rfl ?_
      refine j_lcmp (pc := 19) C dX8_named_19 ?_
      refine j_if_ne (pc := 20) C 26 dX8_named_20 (by decide) h (fun h => ?_) (fun h => ?_)
      · refine j_iinc (pc := 26) (v := (1 : Int32)) C 4 [(5, _), (0, _), (1, _), (2, _), (3, _)] dX8_named_26 rfl rfl (by decide) rfl ?_
        refine j_goto (pc := 29) C 3 dX8_named_29 (by decide) ?_
        exact j_weak [1, 2, 3, 4, 0] rfl (ih _ _ _ _ _ _ h)
      · exact j_weak [4] rfl (k23 _ _ h)
def w_X8_named (M : Mm) (x0 : Nat) (x1 : Int32) (x2 : Int32) (x3 : Int64) (P : Int32 → Mm → Prop) : Prop := (∃ n3, l_X8_named_3 P (fun M1 x5_1 => P x5_1 M1) (fun M2 => P (-1 : Int32) M2) n3 M x0 x1 x2 x3 (0 : Int32))
set_option maxHeartbeats 4000000 in
set_option maxRecDepth 100000 in
theorem c_X8_named (l : Launch) (E : EV) (M : Mm) (x0 : Nat) (x1 : Int32) (x2 : Int32) (x3 : Int64) (P : Int32 → Mm → Prop) (h : w_X8_named M x0 x1 x2 x3 P) : CtI l E yX8_named cX8_named 6 .int rm_X8_named 0 0 [.ref x0, .int x1, .int x2, .long x3] M P := by
  refine ctI_of (by decide +kernel) (Nat.le_of_ble_eq_true rfl) ?_
  intro p e s m args below meth c C
  rw [w_X8_named] at h
  show J p l e rm_X8_named s m args below meth c (QI below E P args s 0 0) E 6 M 0 0 0 [(0, .ref x0), (1, .int x1), (2, .int x2), (3, .long x3)] []
  refine j_iconst (pc := 0) (v := (0 : Int32)) C dX8_named_0 rfl ?_
  refine j_istore (pc := 1) C [(5, _), (0, _), (1, _), (2, _), (3, _)] dX8_named_1 (by decide) rfl ?_
  obtain ⟨n3, h⟩ := h
  refine j_weak [1, 2, 3, 4, 0] rfl (jl_X8_named_3 C ⟨Nat.le_of_ble_eq_true rfl, Nat.le_of_ble_eq_true rfl⟩ (fun M1 x5_1 h => ?_) (fun M2 h => ?_) n3 _ _ _ _ _ _ h)
  · refine j_iload (pc := 23) C 0 dX8_named_23 rfl ?_
    exact j_iret (pc := 25) C dX8_named_25 (Nat.le_of_ble_eq_true rfl) (Nat.le_of_ble_eq_true rfl) h
  · refine j_iconst (pc := 32) (v := (-1 : Int32)) C dX8_named_32 rfl ?_
    exact j_iret (pc := 33) C dX8_named_33 (Nat.le_of_ble_eq_true rfl) (Nat.le_of_ble_eq_true rfl) h
theorem cs_X8_126 (C : Cx p l s m args meth c cc nL RX8 ret E) {y0 : Nat} {y1 : Int32} {y2 : Int32} {y3 : Int64} {P : Int32 → Mm → Prop} (hR : rm_X8_named.frames + 1 ≤ R.frames ∧ 8 + (6 + 11) + rm_X8_named.locals ≤ R.locals) (hf : kc ≤ R.cells ∧ ks ≤ R.slots) (hst : (st.map fun v => v.category).sum ≤ 8) (d : decode cc pc = .ok (.invokestatic 126, 3)) (h : w_X8_named M y0 y1 y2 y3 P) (kk : ∀ r M', P r M' → J p l e R s m args below meth c Q E nL M' kc ks (pc + 3) lo (.int r :: st)) : J p l e R s m args below meth c Q E nL M kc ks pc lo (.long y3 :: .int y2 :: .int y1 :: .ref y0 :: st) :=
  j_cS_I (n := 4) (As := [.ref y0, .int y1, .int y2, .long y3]) C wd_1290 (c_X8_named l E M y0 y1 y2 y3 P h) ⟨wd_1291, wd_1289, wd_106, by decide +kernel, by decide +kernel, by decide +kernel⟩ rfl rfl hR hf rfl hst d kk
abbrev rm_X8_nameRead : Room := { frames := 4, cells := 0, slots := 0, locals := 85 }
def w_X8_nameRead (M : Mm) (x0 : Nat) (x1 : Int32) (x2 : Int32) (P : Int32 → Mm → Prop) : Prop := zk M x0 = 8 ∧ (if (zI M x0 9) = (1 : Int32) then (zk M x0 = 8 ∧ ∃ a1, zR M x0 18 = some a1 ∧ zk M x0 = 8 ∧ w_X8_named M a1 x1 x2 (zJ M x0 11) (fun r2 M2 => (if r2 = (-1 : Int32) then (if (1 : Int32) = 0 then zk M2 x0 = 8 ∧ w_X8_starts M2 x0 (2 : Int32) (1 : Int32) (fun r7 M7 => (r7 = 0 ∨ r7 = 1) ∧ P r7 M7) else (zk M2 x0 = 8 ∧ ∃ a8, zR M2 x0 18 = some a8 ∧ zk M2 x0 = 8 ∧ zk M2 a8 = 11 ∧ vp_in (((8 : Int32) * x1) + x2) (zl M2 a8) ∧ (∀ M9, M9 = sJ M2 a8 (((8 : Int32) * x1) + x2).toNatClampNeg (zJ M2 x0 11) → zk M9 x0 = 8 ∧ w_X8_starts M9 x0 (2 : Int32) (1 : Int32) (fun r10 M10 => (r10 = 0 ∨ r10 = 1) ∧ P r10 M10)))) else (if (0 : Int32) = 0 then zk M2 x0 = 8 ∧ w_X8_starts M2 x0 (2 : Int32) (0 : Int32) (fun r3 M3 => (r3 = 0 ∨ r3 = 1) ∧ P r3 M3) else (zk M2 x0 = 8 ∧ ∃ a4, zR M2 x0 18 = some a4 ∧ zk M2 x0 = 8 ∧ zk M2 a4 = 11 ∧ vp_in (((8 : Int32) * x1) + x2) (zl M2 a4) ∧ (∀ M5, M5 = sJ M2 a4 (((8 : Int32) * x1) + x2).toNatClampNeg (zJ M2 x0 11) → zk M5 x0 = 8 ∧ w_X8_starts M5 x0 (2 : Int32) (0 : Int32) (fun r6 M6 => (r6 = 0 ∨ r6 = 1) ∧ P r6 M6))))))) else zk M x0 = 8 ∧ w_X8_fails M x0 (1 : Int32) (fun r11 M11 => (r11 = 0 ∨ r11 = 1) ∧ P r11 M11))
set_option maxHeartbeats 4000000 in
set_option maxRecDepth 100000 in
theorem c_X8_nameRead (l : Launch) (E : EV) (M : Mm) (x0 : Nat) (x1 : Int32) (x2 : Int32) (P : Int32 → Mm → Prop) (h : w_X8_nameRead M x0 x1 x2 P) : CtI l E yX8_nameRead cX8_nameRead 4 .boolean rm_X8_nameRead 0 0 [.ref x0, .int x1, .int x2] M P := by
  refine ctI_of (by decide +kernel) (Nat.le_of_ble_eq_true rfl) ?_
  intro p e s m args below meth c C
  rw [w_X8_nameRead] at h
  show J p l e rm_X8_nameRead s m args below meth c (QI below E P args s 0 0) E 4 M 0 0 0 [(0, .ref x0), (1, .int x1), (2, .int x2)] []
  refine j_aload_n (pc := 0) C 0 dX8_nameRead_0 rfl ?_
  refine gf_X8_90 (pc := 1) C dX8_nameRead_1 h (fun h => ?_)
  refine j_iconst (pc := 4) (v := (1 : Int32)) C dX8_nameRead_4 rfl ?_
  refine j_icmp_eq (pc := 5) C 14 dX8_nameRead_5 (by decide) h (fun h => ?_) (fun h => ?_)
  · refine j_aload_n (pc := 14) C 0 dX8_nameRead_14 rfl ?_
    refine gf_X8_34 (pc := 15) C dX8_nameRead_15 h (fun a1 h => ?_)
    refine j_iload_n (pc := 18) C 1 dX8_nameRead_18 rfl ?_
    refine j_iload_n (pc := 19) C 2 dX8_nameRead_19 rfl ?_
    refine j_aload_n (pc := 20) C 0 dX8_nameRead_20 rfl ?_
    refine gf_X8_69 (pc := 21) C dX8_nameRead_21 h (fun h => ?_)
    refine cs_X8_126 (pc := 24) C ⟨Nat.le_of_ble_eq_true rfl, Nat.le_of_ble_eq_true rfl⟩ ⟨Nat.le_of_ble_eq_true rfl, Nat.le_of_ble_eq_true rfl⟩ (Nat.le_of_ble_eq_true rfl) dX8_nameRead_24 h (fun r2 M2 h => ?_)
    refine j_iconst (pc := 27) (v := (-1 : Int32)) C dX8_nameRead_27 rfl ?_
    refine j_icmp_ne (pc := 28) C 35 dX8_nameRead_28 (by decide) h (fun h => ?_) (fun h => ?_)
    · refine j_iconst (pc := 35) (v := (0 : Int32)) C dX8_nameRead_35 rfl ?_
      refine j_istore_n (pc := 36) C [(3, _), (0, _), (1, _), (2, _)] dX8_nameRead_36 (by decide) rfl ?_
      refine j_iload_n (pc := 37) C 0 dX8_nameRead_37 rfl ?_
      refine j_if_eq (pc := 38) C 56 dX8_nameRead_38 (by decide) h (fun h => ?_) (fun h => ?_)
      · refine j_aload_n (pc := 56) C 1 dX8_nameRead_56 rfl ?_
        refine j_iconst (pc := 57) (v := (2 : Int32)) C dX8_nameRead_57 rfl ?_
        refine j_iload_n (pc := 58) C 0 dX8_nameRead_58 rfl ?_
        refine cs_X8_122 (pc := 59) C ⟨Nat.le_of_ble_eq_true rfl, Nat.le_of_ble_eq_true rfl⟩ ⟨Nat.le_of_ble_eq_true rfl, Nat.le_of_ble_eq_true rfl⟩ (Nat.le_of_ble_eq_true rfl) dX8_nameRead_59 h (fun r3 M3 h => ?_)
        exact j_zret (pc := 62) C dX8_nameRead_62 (Nat.le_of_ble_eq_true rfl) (Nat.le_of_ble_eq_true rfl) h
      · refine j_aload_n (pc := 41) C 1 dX8_nameRead_41 rfl ?_
        refine gf_X8_34 (pc := 42) C dX8_nameRead_42 h (fun a4 h => ?_)
        refine j_bipush (pc := 45) (v := (8 : Int32)) C dX8_nameRead_45 rfl ?_
        refine j_iload_n (pc := 47) C 2 dX8_nameRead_47 rfl ?_
        refine j_imul (pc := 48) C dX8_nameRead_48 ?_
        refine j_iload_n (pc := 49) C 3 dX8_nameRead_49 rfl ?_
        refine j_iadd (pc := 50) C dX8_nameRead_50 ?_
        refine j_aload_n (pc := 51) C 1 dX8_nameRead_51 rfl ?_
        refine gf_X8_69 (pc := 52) C dX8_nameRead_52 h (fun h => ?_)
        refine n_last (pc := 55) C dX8_nameRead_55 h (fun M5 h => ?_)
        refine j_aload_n (pc := 56) C 1 dX8_nameRead_56 rfl ?_
        refine j_iconst (pc := 57) (v := (2 : Int32)) C dX8_nameRead_57 rfl ?_
        refine j_iload_n (pc := 58) C 0 dX8_nameRead_58 rfl ?_
        refine cs_X8_122 (pc := 59) C ⟨Nat.le_of_ble_eq_true rfl, Nat.le_of_ble_eq_true rfl⟩ ⟨Nat.le_of_ble_eq_true rfl, Nat.le_of_ble_eq_true rfl⟩ (Nat.le_of_ble_eq_true rfl) dX8_nameRead_59 h (fun r6 M6 h => ?_)
        exact j_zret (pc := 62) C dX8_nameRead_62 (Nat.le_of_ble_eq_true rfl) (Nat.le_of_ble_eq_true rfl) h
    · refine j_iconst (pc := 31) (v := (1 : Int32)) C dX8_nameRead_31 rfl ?_
      refine j_goto (pc := 32) C 36 dX8_nameRead_32 (by decide) ?_
      refine j_istore_n (pc := 36) C [(3, _), (0, _), (1, _), (2, _)] dX8_nameRead_36 (by decide) rfl ?_
      refine j_iload_n (pc := 37) C 0 dX8_nameRead_37 rfl ?_
      refine j_if_eq (pc := 38) C 56 dX8_nameRead_38 (by decide) h (fun h => ?_) (fun h => ?_)
      · refine j_aload_n (pc := 56) C 1 dX8_nameRead_56 rfl ?_
        refine j_iconst (pc := 57) (v := (2 : Int32)) C dX8_nameRead_57 rfl ?_
        refine j_iload_n (pc := 58) C 0 dX8_nameRead_58 rfl ?_
        refine cs_X8_122 (pc := 59) C ⟨Nat.le_of_ble_eq_true rfl, Nat.le_of_ble_eq_true rfl⟩ ⟨Nat.le_of_ble_eq_true rfl, Nat.le_of_ble_eq_true rfl⟩ (Nat.le_of_ble_eq_true rfl) dX8_nameRead_59 h (fun r7 M7 h => ?_)
        exact j_zret (pc := 62) C dX8_nameRead_62 (Nat.le_of_ble_eq_true rfl) (Nat.le_of_ble_eq_true rfl) h
      · refine j_aload_n (pc := 41) C 1 dX8_nameRead_41 rfl ?_
        refine gf_X8_34 (pc := 42) C dX8_nameRead_42 h (fun a8 h => ?_)
        refine j_bipush (pc := 45) (v := (8 : Int32)) C dX8_nameRead_45 rfl ?_
        refine j_iload_n (pc := 47) C 2 dX8_nameRead_47 rfl ?_
        refine j_imul (pc := 48) C dX8_nameRead_48 ?_
        refine j_iload_n (pc := 49) C 3 dX8_nameRead_49 rfl ?_
        refine j_iadd (pc := 50) C dX8_nameRead_50 ?_
        refine j_aload_n (pc := 51) C 1 dX8_nameRead_51 rfl ?_
        refine gf_X8_69 (pc := 52) C dX8_nameRead_52 h (fun h => ?_)
        refine n_last (pc := 55) C dX8_nameRead_55 h (fun M9 h => ?_)
        refine j_aload_n (pc := 56) C 1 dX8_nameRead_56 rfl ?_
        refine j_iconst (pc := 57) (v := (2 : Int32)) C dX8_nameRead_57 rfl ?_
        refine j_iload_n (pc := 58) C 0 dX8_nameRead_58 rfl ?_
        refine cs_X8_122 (pc := 59) C ⟨Nat.le_of_ble_eq_true rfl, Nat.le_of_ble_eq_true rfl⟩ ⟨Nat.le_of_ble_eq_true rfl, Nat.le_of_ble_eq_true rfl⟩ (Nat.le_of_ble_eq_true rfl) dX8_nameRead_59 h (fun r10 M10 h => ?_)
        exact j_zret (pc := 62) C dX8_nameRead_62 (Nat.le_of_ble_eq_true rfl) (Nat.le_of_ble_eq_true rfl) h
  · refine j_aload_n (pc := 8) C 0 dX8_nameRead_8 rfl ?_
    refine j_iconst (pc := 9) (v := (1 : Int32)) C dX8_nameRead_9 rfl ?_
    refine cs_X8_108 (pc := 10) C ⟨Nat.le_of_ble_eq_true rfl, Nat.le_of_ble_eq_true rfl⟩ ⟨Nat.le_of_ble_eq_true rfl, Nat.le_of_ble_eq_true rfl⟩ (Nat.le_of_ble_eq_true rfl) dX8_nameRead_10 h (fun r11 M11 h => ?_)
    exact j_zret (pc := 13) C dX8_nameRead_13 (Nat.le_of_ble_eq_true rfl) (Nat.le_of_ble_eq_true rfl) h
theorem cs_X8_130 (C : Cx p l s m args meth c cc nL RX8 ret E) {b : Nat} {y0 : Int32} {y1 : Int32} {P : Int32 → Mm → Prop} (hR : rm_X8_nameRead.frames + 1 ≤ R.frames ∧ 8 + (4 + 11) + rm_X8_nameRead.locals ≤ R.locals) (hf : kc ≤ R.cells ∧ ks ≤ R.slots) (hst : (st.map fun v => v.category).sum ≤ 8) (d : decode cc pc = .ok (.invokevirtual 130, 3)) (h : zk M b = 8 ∧ w_X8_nameRead M b y0 y1 P) (kk : ∀ r M', P r M' → J p l e R s m args below meth c Q E nL M' kc ks (pc + 3) lo (.int r :: st)) : J p l e R s m args below meth c Q E nL M kc ks pc lo (.int y1 :: .int y0 :: .ref b :: st) :=
  j_cV_I (n := 2) (As := [.int y0, .int y1]) C co_X8 rfl wd_1287 wd_52 h.1 (c_X8_nameRead l E M b y0 y1 P h.2) ⟨wd_1288, wd_1285, wd_106, by decide +kernel, by decide +kernel, by decide +kernel⟩ rfl rfl hR hf rfl hst d kk
theorem cs_X8_133 (C : Cx p l s m args meth c cc nL RX8 ret E) {b : Nat} {y0 : Int32} {y1 : Int32} {y2 : Int32} {P : Int32 → Mm → Prop} (hR : rm_X8_lays.frames + 1 ≤ R.frames ∧ 8 + (4 + 11) + rm_X8_lays.locals ≤ R.locals) (hf : kc ≤ R.cells ∧ ks ≤ R.slots) (hst : (st.map fun v => v.category).sum ≤ 8) (d : decode cc pc = .ok (.invokevirtual 133, 3)) (h : zk M b = 8 ∧ w_X8_lays M b y0 y1 y2 P) (kk : ∀ r M', P r M' → J p l e R s m args below meth c Q E nL M' kc ks (pc + 3) lo (.int r :: st)) : J p l e R s m args below meth c Q E nL M kc ks pc lo (.int y2 :: .int y1 :: .int y0 :: .ref b :: st) :=
  j_cV_I (n := 3) (As := [.int y0, .int y1, .int y2]) C co_X8 rfl wd_1266 wd_47 h.1 (c_X8_lays l E M b y0 y1 y2 P h.2) ⟨wd_1267, wd_1264, wd_106, by decide +kernel, by decide +kernel, by decide +kernel⟩ rfl rfl hR hf rfl hst d kk
abbrev rm_X8_hallLine : Room := { frames := 5, cells := 0, slots := 0, locals := 108 }
def w_X8_hallLine (M : Mm) (x0 : Nat) (P : Int32 → Mm → Prop) : Prop := (zk M x0 = 8 ∧ ∃ a1, zR M x0 16 = some a1 ∧ zk M a1 = 10 ∧ vp_in (1 : Int32) (zl M a1) ∧ (if (3 : Int32) ≤ (zI M a1 (1 : Int32).toNatClampNeg) then zk M x0 = 8 ∧ w_X8_starts M x0 (5 : Int32) (0 : Int32) (fun r2 M2 => (if r2 = 0 then ((0 : Int32) = 0 ∨ (0 : Int32) = 1) ∧ P (0 : Int32) M2 else zk M2 x0 = 8 ∧ w_X8_nameRead M2 x0 (0 : Int32) (zI M a1 (1 : Int32).toNatClampNeg) (fun r3 M3 => (if r3 = 0 then ((0 : Int32) = 0 ∨ (0 : Int32) = 1) ∧ P (0 : Int32) M3 else zk M3 x0 = 8 ∧ w_X8_lays M3 x0 ((6 : Int32) + (zI M a1 (1 : Int32).toNatClampNeg)) (0 : Int32) (9 : Int32) (fun r4 M4 => (if r4 = 0 then ((0 : Int32) = 0 ∨ (0 : Int32) = 1) ∧ P (0 : Int32) M4 else (zk M4 x0 = 8 ∧ ∃ a5, zR M4 x0 16 = some a5 ∧ zk M4 a5 = 10 ∧ vp_in (1 : Int32) (zl M4 a5) ∧ zk M4 a5 = 10 ∧ vp_in (1 : Int32) (zl M4 a5) ∧ (∀ M6, M6 = sI M4 a5 (1 : Int32).toNatClampNeg ((zI M4 a5 (1 : Int32).toNatClampNeg) + (1 : Int32)) → ((1 : Int32) = 0 ∨ (1 : Int32) = 1) ∧ P (1 : Int32) M6)))))))) else zk M x0 = 8 ∧ w_X8_starts M x0 (5 : Int32) (1 : Int32) (fun r7 M7 => (if r7 = 0 then ((0 : Int32) = 0 ∨ (0 : Int32) = 1) ∧ P (0 : Int32) M7 else zk M7 x0 = 8 ∧ w_X8_nameRead M7 x0 (0 : Int32) (zI M a1 (1 : Int32).toNatClampNeg) (fun r8 M8 => (if r8 = 0 then ((0 : Int32) = 0 ∨ (0 : Int32) = 1) ∧ P (0 : Int32) M8 else zk M8 x0 = 8 ∧ w_X8_lays M8 x0 ((6 : Int32) + (zI M a1 (1 : Int32).toNatClampNeg)) (0 : Int32) (9 : Int32) (fun r9 M9 => (if r9 = 0 then ((0 : Int32) = 0 ∨ (0 : Int32) = 1) ∧ P (0 : Int32) M9 else (zk M9 x0 = 8 ∧ ∃ a10, zR M9 x0 16 = some a10 ∧ zk M9 a10 = 10 ∧ vp_in (1 : Int32) (zl M9 a10) ∧ zk M9 a10 = 10 ∧ vp_in (1 : Int32) (zl M9 a10) ∧ (∀ M11, M11 = sI M9 a10 (1 : Int32).toNatClampNeg ((zI M9 a10 (1 : Int32).toNatClampNeg) + (1 : Int32)) → ((1 : Int32) = 0 ∨ (1 : Int32) = 1) ∧ P (1 : Int32) M11))))))))))
set_option maxHeartbeats 4000000 in
set_option maxRecDepth 100000 in
theorem c_X8_hallLine (l : Launch) (E : EV) (M : Mm) (x0 : Nat) (P : Int32 → Mm → Prop) (h : w_X8_hallLine M x0 P) : CtI l E yX8_hallLine cX8_hallLine 2 .boolean rm_X8_hallLine 0 0 [.ref x0] M P := by
  refine ctI_of (by decide +kernel) (Nat.le_of_ble_eq_true rfl) ?_
  intro p e s m args below meth c C
  rw [w_X8_hallLine] at h
  show J p l e rm_X8_hallLine s m args below meth c (QI below E P args s 0 0) E 2 M 0 0 0 [(0, .ref x0)] []
  refine j_aload_n (pc := 0) C 0 dX8_hallLine_0 rfl ?_
  refine gf_X8_28 (pc := 1) C dX8_hallLine_1 h (fun a1 h => ?_)
  refine j_iconst (pc := 4) (v := (1 : Int32)) C dX8_hallLine_4 rfl ?_
  refine j_iald (pc := 5) C dX8_hallLine_5 h (fun h => ?_)
  refine j_istore_n (pc := 6) C [(1, _), (0, _)] dX8_hallLine_6 (by decide) rfl ?_
  refine j_aload_n (pc := 7) C 1 dX8_hallLine_7 rfl ?_
  refine j_iconst (pc := 8) (v := (5 : Int32)) C dX8_hallLine_8 rfl ?_
  refine j_iload_n (pc := 9) C 0 dX8_hallLine_9 rfl ?_
  refine j_iconst (pc := 10) (v := (3 : Int32)) C dX8_hallLine_10 rfl ?_
  refine j_icmp_ge (pc := 11) C 18 dX8_hallLine_11 (by decide) h (fun h => ?_) (fun h => ?_)
  · refine j_iconst (pc := 18) (v := (0 : Int32)) C dX8_hallLine_18 rfl ?_
    refine cs_X8_122 (pc := 19) C ⟨Nat.le_of_ble_eq_true rfl, Nat.le_of_ble_eq_true rfl⟩ ⟨Nat.le_of_ble_eq_true rfl, Nat.le_of_ble_eq_true rfl⟩ (Nat.le_of_ble_eq_true rfl) dX8_hallLine_19 h (fun r2 M2 h => ?_)
    refine j_if_eq (pc := 22) C 48 dX8_hallLine_22 (by decide) h (fun h => ?_) (fun h => ?_)
    · refine j_iconst (pc := 48) (v := (0 : Int32)) C dX8_hallLine_48 rfl ?_
      exact j_zret (pc := 49) C dX8_hallLine_49 (Nat.le_of_ble_eq_true rfl) (Nat.le_of_ble_eq_true rfl) h
    · refine j_aload_n (pc := 25) C 1 dX8_hallLine_25 rfl ?_
      refine j_iconst (pc := 26) (v := (0 : Int32)) C dX8_hallLine_26 rfl ?_
      refine j_iload_n (pc := 27) C 0 dX8_hallLine_27 rfl ?_
      refine cs_X8_130 (pc := 28) C ⟨Nat.le_of_ble_eq_true rfl, Nat.le_of_ble_eq_true rfl⟩ ⟨Nat.le_of_ble_eq_true rfl, Nat.le_of_ble_eq_true rfl⟩ (Nat.le_of_ble_eq_true rfl) dX8_hallLine_28 h (fun r3 M3 h => ?_)
      refine j_if_eq (pc := 31) C 48 dX8_hallLine_31 (by decide) h (fun h => ?_) (fun h => ?_)
      · refine j_iconst (pc := 48) (v := (0 : Int32)) C dX8_hallLine_48 rfl ?_
        exact j_zret (pc := 49) C dX8_hallLine_49 (Nat.le_of_ble_eq_true rfl) (Nat.le_of_ble_eq_true rfl) h
      · refine j_aload_n (pc := 34) C 1 dX8_hallLine_34 rfl ?_
        refine j_bipush (pc := 35) (v := (6 : Int32)) C dX8_hallLine_35 rfl ?_
        refine j_iload_n (pc := 37) C 0 dX8_hallLine_37 rfl ?_
        refine j_iadd (pc := 38) C dX8_hallLine_38 ?_
        refine j_iconst (pc := 39) (v := (0 : Int32)) C dX8_hallLine_39 rfl ?_
        refine j_bipush (pc := 40) (v := (9 : Int32)) C dX8_hallLine_40 rfl ?_
        refine cs_X8_133 (pc := 42) C ⟨Nat.le_of_ble_eq_true rfl, Nat.le_of_ble_eq_true rfl⟩ ⟨Nat.le_of_ble_eq_true rfl, Nat.le_of_ble_eq_true rfl⟩ (Nat.le_of_ble_eq_true rfl) dX8_hallLine_42 h (fun r4 M4 h => ?_)
        refine j_if_ne (pc := 45) C 50 dX8_hallLine_45 (by decide) h (fun h => ?_) (fun h => ?_)
        · refine j_aload_n (pc := 50) C 1 dX8_hallLine_50 rfl ?_
          refine gf_X8_28 (pc := 51) C dX8_hallLine_51 h (fun a5 h => ?_)
          refine j_iconst (pc := 54) (v := (1 : Int32)) C dX8_hallLine_54 rfl ?_
          refine j_dup2 (pc := 55) C dX8_hallLine_55 rfl rfl ?_
          refine j_iald (pc := 56) C dX8_hallLine_56 h (fun h => ?_)
          refine j_iconst (pc := 57) (v := (1 : Int32)) C dX8_hallLine_57 rfl ?_
          refine j_iadd (pc := 58) C dX8_hallLine_58 ?_
          refine n_iast (pc := 59) C dX8_hallLine_59 h (fun M6 h => ?_)
          refine j_iconst (pc := 60) (v := (1 : Int32)) C dX8_hallLine_60 rfl ?_
          exact j_zret (pc := 61) C dX8_hallLine_61 (Nat.le_of_ble_eq_true rfl) (Nat.le_of_ble_eq_true rfl) h
        · refine j_iconst (pc := 48) (v := (0 : Int32)) C dX8_hallLine_48 rfl ?_
          exact j_zret (pc := 49) C dX8_hallLine_49 (Nat.le_of_ble_eq_true rfl) (Nat.le_of_ble_eq_true rfl) h
  · refine j_iconst (pc := 14) (v := (1 : Int32)) C dX8_hallLine_14 rfl ?_
    refine j_goto (pc := 15) C 19 dX8_hallLine_15 (by decide) ?_
    refine cs_X8_122 (pc := 19) C ⟨Nat.le_of_ble_eq_true rfl, Nat.le_of_ble_eq_true rfl⟩ ⟨Nat.le_of_ble_eq_true rfl, Nat.le_of_ble_eq_true rfl⟩ (Nat.le_of_ble_eq_true rfl) dX8_hallLine_19 h (fun r7 M7 h => ?_)
    refine j_if_eq (pc := 22) C 48 dX8_hallLine_22 (by decide) h (fun h => ?_) (fun h => ?_)
    · refine j_iconst (pc := 48) (v := (0 : Int32)) C dX8_hallLine_48 rfl ?_
      exact j_zret (pc := 49) C dX8_hallLine_49 (Nat.le_of_ble_eq_true rfl) (Nat.le_of_ble_eq_true rfl) h
    · refine j_aload_n (pc := 25) C 1 dX8_hallLine_25 rfl ?_
      refine j_iconst (pc := 26) (v := (0 : Int32)) C dX8_hallLine_26 rfl ?_
      refine j_iload_n (pc := 27) C 0 dX8_hallLine_27 rfl ?_
      refine cs_X8_130 (pc := 28) C ⟨Nat.le_of_ble_eq_true rfl, Nat.le_of_ble_eq_true rfl⟩ ⟨Nat.le_of_ble_eq_true rfl, Nat.le_of_ble_eq_true rfl⟩ (Nat.le_of_ble_eq_true rfl) dX8_hallLine_28 h (fun r8 M8 h => ?_)
      refine j_if_eq (pc := 31) C 48 dX8_hallLine_31 (by decide) h (fun h => ?_) (fun h => ?_)
      · refine j_iconst (pc := 48) (v := (0 : Int32)) C dX8_hallLine_48 rfl ?_
        exact j_zret (pc := 49) C dX8_hallLine_49 (Nat.le_of_ble_eq_true rfl) (Nat.le_of_ble_eq_true rfl) h
      · refine j_aload_n (pc := 34) C 1 dX8_hallLine_34 rfl ?_
        refine j_bipush (pc := 35) (v := (6 : Int32)) C dX8_hallLine_35 rfl ?_
        refine j_iload_n (pc := 37) C 0 dX8_hallLine_37 rfl ?_
        refine j_iadd (pc := 38) C dX8_hallLine_38 ?_
        refine j_iconst (pc := 39) (v := (0 : Int32)) C dX8_hallLine_39 rfl ?_
        refine j_bipush (pc := 40) (v := (9 : Int32)) C dX8_hallLine_40 rfl ?_
        refine cs_X8_133 (pc := 42) C ⟨Nat.le_of_ble_eq_true rfl, Nat.le_of_ble_eq_true rfl⟩ ⟨Nat.le_of_ble_eq_true rfl, Nat.le_of_ble_eq_true rfl⟩ (Nat.le_of_ble_eq_true rfl) dX8_hallLine_42 h (fun r9 M9 h => ?_)
        refine j_if_ne (pc := 45) C 50 dX8_hallLine_45 (by decide) h (fun h => ?_) (fun h => ?_)
        · refine j_aload_n (pc := 50) C 1 dX8_hallLine_50 rfl ?_
          refine gf_X8_28 (pc := 51) C dX8_hallLine_51 h (fun a10 h => ?_)
          refine j_iconst (pc := 54) (v := (1 : Int32)) C dX8_hallLine_54 rfl ?_
          refine j_dup2 (pc := 55) C dX8_hallLine_55 rfl rfl ?_
          refine j_iald (pc := 56) C dX8_hallLine_56 h (fun h => ?_)
          refine j_iconst (pc := 57) (v := (1 : Int32)) C dX8_hallLine_57 rfl ?_
          refine j_iadd (pc := 58) C dX8_hallLine_58 ?_
          refine n_iast (pc := 59) C dX8_hallLine_59 h (fun M11 h => ?_)
          refine j_iconst (pc := 60) (v := (1 : Int32)) C dX8_hallLine_60 rfl ?_
          exact j_zret (pc := 61) C dX8_hallLine_61 (Nat.le_of_ble_eq_true rfl) (Nat.le_of_ble_eq_true rfl) h
        · refine j_iconst (pc := 48) (v := (0 : Int32)) C dX8_hallLine_48 rfl ?_
          exact j_zret (pc := 49) C dX8_hallLine_49 (Nat.le_of_ble_eq_true rfl) (Nat.le_of_ble_eq_true rfl) h
abbrev rm_X8_ownRead : Room := { frames := 3, cells := 0, slots := 0, locals := 63 }
def l_X8_ownRead_38 (P : Int32 → Mm → Prop) (K82 : Mm → Nat → Int32 → Int32 → Int32 → Prop) : Nat → Mm → Nat → Int32 → Int32 → Int32 → Int32 → Prop
  | 0, _, _, _, _, _, _ => False
  | n + 1, M, x0, x1, x2, x3, x4 => (zk M x0 = 8 ∧ ∃ a4, zR M x0 16 = some a4 ∧ zk M a4 = 10 ∧ vp_in (x1 + (2 : Int32)) (zl M a4) ∧ (if (zI M a4 (x1 + (2 : Int32)).toNatClampNeg) ≤ x4 then K82 M x0 x1 x2 x3 else (if x3 = 0 then (zk M x0 = 8 ∧ ∃ a5, zR M x0 16 = some a5 ∧ zk M a5 = 10 ∧ vp_in ((x1 + (3 : Int32)) + x4) (zl M a5) ∧ (if x2 = (zI M a5 ((x1 + (3 : Int32)) + x4).toNatClampNeg) then l_X8_ownRead_38 P K82 n M x0 x1 x2 (1 : Int32) (x4 + (1 : Int32)) else l_X8_ownRead_38 P K82 n M x0 x1 x2 (0 : Int32) (x4 + (1 : Int32)))) else l_X8_ownRead_38 P K82 n M x0 x1 x2 (1 : Int32) (x4 + (1 : Int32)))))
set_option maxHeartbeats 4000000 in
set_option maxRecDepth 100000 in
theorem jl_X8_ownRead_38 {P : Int32 → Mm → Prop} {K82 : Mm → Nat → Int32 → Int32 → Int32 → Prop} (C : Cx p l s m args meth c cX8_ownRead 5 RX8 (some .boolean) E) (hkc : kc ≤ rm_X8_ownRead.cells ∧ ks ≤ rm_X8_ownRead.slots) (k82 : ∀ M x0 x1 x2 x3, K82 M x0 x1 x2 x3 → J p l e rm_X8_ownRead s m args below meth c (QI below E P args s rm_X8_ownRead.cells rm_X8_ownRead.slots) E 5 M kc ks 82 [(0, .ref x0), (1, .int x1), (2, .int x2), (3, .int x3)] []) : ∀ n M x0 x1 x2 x3 x4, l_X8_ownRead_38 P K82 n M x0 x1 x2 x3 x4 → J p l e rm_X8_ownRead s m args below meth c (QI below E P args s rm_X8_ownRead.cells rm_X8_ownRead.slots) E 5 M kc ks 38 [(0, .ref x0), (1, .int x1), (2, .int x2), (3, .int x3), (4, .int x4)] [] := by
  intro n
  induction n with
  | zero => intro M x0 x1 x2 x3 x4 h; exact h.elim
  | succ n ih =>
    intro M x0 x1 x2 x3 x4 h
    rw [l_X8_ownRead_38] at h
    refine j_iload (pc := 38) C 4 dX8_ownRead_38 rfl ?_
    refine j_aload_n (pc := 40) C 0 dX8_ownRead_40 rfl ?_
    refine gf_X8_28 (pc := 41) C dX8_ownRead_41 h (fun a4 h => ?_)
    refine j_iload_n (pc := 44) C 1 dX8_ownRead_44 rfl ?_
    refine j_iconst (pc := 45) (v := (2 : Int32)) C dX8_ownRead_45 rfl ?_
    refine j_iadd (pc := 46) C dX8_ownRead_46 ?_
    refine j_iald (pc := 47) C dX8_ownRead_47 h (fun h => ?_)
    refine j_icmp_ge (pc := 48) C 82 dX8_ownRead_48 (by decide) h (fun h => ?_) (fun h => ?_)
    · exact j_weak [0, 1, 2, 3] rfl (k82 _ _ _ _ _ h)
    · refine j_iload_n (pc := 51) C 3 dX8_ownRead_51 rfl ?_
      refine j_if_ne (pc := 52) C 70 dX8_ownRead_52 (by decide) h (fun h => ?_) (fun h => ?_)
      · refine j_iconst (pc := 70) (v := (1 : Int32)) C dX8_ownRead_70 rfl ?_
        refine j_goto (pc := 71) C 75 dX8_ownRead_71 (by decide) ?_
        refine j_istore_n (pc := 75) C [(3, _), (0, _), (1, _), (2, _), (4, _)] dX8_ownRead_75 (by decide) rfl ?_
        refine j_iinc (pc := 76) (v := (1 : Int32)) C 4 [(4, _), (3, _), (0, _), (1, _), (2, _)] dX8_ownRead_76 rfl rfl (by decide) rfl ?_
        refine j_goto (pc := 79) C 38 dX8_ownRead_79 (by decide) ?_
        exact j_weak [2, 3, 4, 1, 0] rfl (ih _ _ _ _ _ _ h)
      · refine j_iload_n (pc := 55) C 2 dX8_ownRead_55 rfl ?_
        refine j_aload_n (pc := 56) C 0 dX8_ownRead_56 rfl ?_
        refine gf_X8_28 (pc := 57) C dX8_ownRead_57 h (fun a5 h => ?_)
        refine j_iload_n (pc := 60) C 1 dX8_ownRead_60 rfl ?_
        refine j_iconst (pc := 61) (v := (3 : Int32)) C dX8_ownRead_61 rfl ?_
        refine j_iadd (pc := 62) C dX8_ownRead_62 ?_
        refine j_iload (pc := 63) C 4 dX8_ownRead_63 rfl ?_
        refine j_iadd (pc := 65) C dX8_ownRead_65 ?_
        refine j_iald (pc := 66) C dX8_ownRead_66 h (fun h => ?_)
        refine j_icmp_ne (pc := 67) C 74 dX8_ownRead_67 (by decide) h (fun h => ?_) (fun h => ?_)
        · refine j_iconst (pc := 74) (v := (0 : Int32)) C dX8_ownRead_74 rfl ?_
          refine j_istore_n (pc := 75) C [(3, _), (0, _), (1, _), (2, _), (4, _)] dX8_ownRead_75 (by decide) rfl ?_
          refine j_iinc (pc := 76) (v := (1 : Int32)) C 4 [(4, _), (3, _), (0, _), (1, _), (2, _)] dX8_ownRead_76 rfl rfl (by decide) rfl ?_
          refine j_goto (pc := 79) C 38 dX8_ownRead_79 (by decide) ?_
          exact j_weak [2, 3, 4, 1, 0] rfl (ih _ _ _ _ _ _ h)
        · refine j_iconst (pc := 70) (v := (1 : Int32)) C dX8_ownRead_70 rfl ?_
          refine j_goto (pc := 71) C 75 dX8_ownRead_71 (by decide) ?_
          refine j_istore_n (pc := 75) C [(3, _), (0, _), (1, _), (2, _), (4, _)] dX8_ownRead_75 (by decide) rfl ?_
          refine j_iinc (pc := 76) (v := (1 : Int32)) C 4 [(4, _), (3, _), (0, _), (1, _), (2, _)] dX8_ownRead_76 rfl rfl (by decide) rfl ?_
          refine j_goto (pc := 79) C 38 dX8_ownRead_79 (by decide) ?_
          exact j_weak [2, 3, 4, 1, 0] rfl (ih _ _ _ _ _ _ h)
def w_X8_ownRead (M : Mm) (x0 : Nat) (x1 : Int32) (P : Int32 → Mm → Prop) : Prop := zk M x0 = 8 ∧ (if (zI M x0 9) = (1 : Int32) then (zk M x0 = 8 ∧ ∃ a1, zR M x0 18 = some a1 ∧ (zk M x0 = 8 ∧ ∃ a2, zR M x0 16 = some a2 ∧ zk M a2 = 10 ∧ vp_in (4 : Int32) (zl M a2) ∧ zk M x0 = 8 ∧ w_X8_named M a1 (3 : Int32) (zI M a2 (4 : Int32).toNatClampNeg) (zJ M x0 11) (fun r3 M3 => (∃ n38, l_X8_ownRead_38 P (fun M6 x0_6 x1_6 x2_6 x3_6 => (if x3_6 = 0 then (zk M6 x0_6 = 8 ∧ ∃ a7, zR M6 x0_6 16 = some a7 ∧ zk M6 a7 = 10 ∧ vp_in (x1_6 + (2 : Int32)) (zl M6 a7) ∧ (if (zI M6 a7 (x1_6 + (2 : Int32)).toNatClampNeg) = (4 : Int32) then zk M6 x0_6 = 8 ∧ w_X8_fails M6 x0_6 (5 : Int32) (fun r8 M8 => (r8 = 0 ∨ r8 = 1) ∧ P r8 M8) else (if x2_6 = (-1 : Int32) then (zk M6 x0_6 = 8 ∧ ∃ a26, zR M6 x0_6 16 = some a26 ∧ zk M6 a26 = 10 ∧ vp_in (4 : Int32) (zl M6 a26) ∧ (if (zI M6 a26 (4 : Int32).toNatClampNeg) = (8 : Int32) then zk M6 x0_6 = 8 ∧ w_X8_fails M6 x0_6 (5 : Int32) (fun r44 M44 => (r44 = 0 ∨ r44 = 1) ∧ P r44 M44) else (if x2_6 = (-1 : Int32) then (zk M6 x0_6 = 8 ∧ ∃ a33, zR M6 x0_6 16 = some a33 ∧ zk M6 a33 = 10 ∧ vp_in (4 : Int32) (zl M6 a33) ∧ (zk M6 x0_6 = 8 ∧ ∃ a34, zR M6 x0_6 18 = some a34 ∧ zk M6 x0_6 = 8 ∧ zk M6 a34 = 11 ∧ vp_in ((24 : Int32) + (zI M6 a33 (4 : Int32).toNatClampNeg)) (zl M6 a34) ∧ (∀ M35, M35 = sJ M6 a34 ((24 : Int32) + (zI M6 a33 (4 : Int32).toNatClampNeg)).toNatClampNeg (zJ M6 x0_6 11) → (zk M35 x0_6 = 8 ∧ ∃ a36, zR M35 x0_6 16 = some a36 ∧ zk M35 a36 = 10 ∧ vp_in (4 : Int32) (zl M35 a36) ∧ zk M35 a36 = 10 ∧ vp_in (4 : Int32) (zl M35 a36) ∧ (∀ M37, M37 = sI M35 a36 (4 : Int32).toNatClampNeg ((zI M35 a36 (4 : Int32).toNatClampNeg) + (1 : Int32)) → (zk M37 x0_6 = 8 ∧ ∃ a38, zR M37 x0_6 16 = some a38 ∧ (zk M37 x0_6 = 8 ∧ ∃ a39, zR M37 x0_6 16 = some a39 ∧ zk M37 a39 = 10 ∧ vp_in (x1_6 + (2 : Int32)) (zl M37 a39) ∧ zk M37 a38 = 10 ∧ vp_in ((x1_6 + (3 : Int32)) + (zI M37 a39 (x1_6 + (2 : Int32)).toNatClampNeg)) (zl M37 a38) ∧ (∀ M40, M40 = sI M37 a38 ((x1_6 + (3 : Int32)) + (zI M37 a39 (x1_6 + (2 : Int32)).toNatClampNeg)).toNatClampNeg (zI M6 a33 (4 : Int32).toNatClampNeg) → (zk M40 x0_6 = 8 ∧ ∃ a41, zR M40 x0_6 16 = some a41 ∧ zk M40 a41 = 10 ∧ vp_in (x1_6 + (2 : Int32)) (zl M40 a41) ∧ zk M40 a41 = 10 ∧ vp_in (x1_6 + (2 : Int32)) (zl M40 a41) ∧ (∀ M42, M42 = sI M40 a41 (x1_6 + (2 : Int32)).toNatClampNeg ((zI M40 a41 (x1_6 + (2 : Int32)).toNatClampNeg) + (1 : Int32)) → zk M42 x0_6 = 8 ∧ w_X8_advance M42 x0_6 (fun M43 => ((1 : Int32) = 0 ∨ (1 : Int32) = 1) ∧ P (1 : Int32) M43))))))))))) else (zk M6 x0_6 = 8 ∧ ∃ a27, zR M6 x0_6 16 = some a27 ∧ (zk M6 x0_6 = 8 ∧ ∃ a28, zR M6 x0_6 16 = some a28 ∧ zk M6 a28 = 10 ∧ vp_in (x1_6 + (2 : Int32)) (zl M6 a28) ∧ zk M6 a27 = 10 ∧ vp_in ((x1_6 + (3 : Int32)) + (zI M6 a28 (x1_6 + (2 : Int32)).toNatClampNeg)) (zl M6 a27) ∧ (∀ M29, M29 = sI M6 a27 ((x1_6 + (3 : Int32)) + (zI M6 a28 (x1_6 + (2 : Int32)).toNatClampNeg)).toNatClampNeg x2_6 → (zk M29 x0_6 = 8 ∧ ∃ a30, zR M29 x0_6 16 = some a30 ∧ zk M29 a30 = 10 ∧ vp_in (x1_6 + (2 : Int32)) (zl M29 a30) ∧ zk M29 a30 = 10 ∧ vp_in (x1_6 + (2 : Int32)) (zl M29 a30) ∧ (∀ M31, M31 = sI M29 a30 (x1_6 + (2 : Int32)).toNatClampNeg ((zI M29 a30 (x1_6 + (2 : Int32)).toNatClampNeg) + (1 : Int32)) → zk M31 x0_6 = 8 ∧ w_X8_advance M31 x0_6 (fun M32 => ((1 : Int32) = 0 ∨ (1 : Int32) = 1) ∧ P (1 : Int32) M32))))))))) else (if x2_6 = (-1 : Int32) then (zk M6 x0_6 = 8 ∧ ∃ a15, zR M6 x0_6 16 = some a15 ∧ zk M6 a15 = 10 ∧ vp_in (4 : Int32) (zl M6 a15) ∧ (zk M6 x0_6 = 8 ∧ ∃ a16, zR M6 x0_6 18 = some a16 ∧ zk M6 x0_6 = 8 ∧ zk M6 a16 = 11 ∧ vp_in ((24 : Int32) + (zI M6 a15 (4 : Int32).toNatClampNeg)) (zl M6 a16) ∧ (∀ M17, M17 = sJ M6 a16 ((24 : Int32) + (zI M6 a15 (4 : Int32).toNatClampNeg)).toNatClampNeg (zJ M6 x0_6 11) → (zk M17 x0_6 = 8 ∧ ∃ a18, zR M17 x0_6 16 = some a18 ∧ zk M17 a18 = 10 ∧ vp_in (4 : Int32) (zl M17 a18) ∧ zk M17 a18 = 10 ∧ vp_in (4 : Int32) (zl M17 a18) ∧ (∀ M19, M19 = sI M17 a18 (4 : Int32).toNatClampNeg ((zI M17 a18 (4 : Int32).toNatClampNeg) + (1 : Int32)) → (zk M19 x0_6 = 8 ∧ ∃ a20, zR M19 x0_6 16 = some a20 ∧ (zk M19 x0_6 = 8 ∧ ∃ a21, zR M19 x0_6 16 = some a21 ∧ zk M19 a21 = 10 ∧ vp_in (x1_6 + (2 : Int32)) (zl M19 a21) ∧ zk M19 a20 = 10 ∧ vp_in ((x1_6 + (3 : Int32)) + (zI M19 a21 (x1_6 + (2 : Int32)).toNatClampNeg)) (zl M19 a20) ∧ (∀ M22, M22 = sI M19 a20 ((x1_6 + (3 : Int32)) + (zI M19 a21 (x1_6 + (2 : Int32)).toNatClampNeg)).toNatClampNeg (zI M6 a15 (4 : Int32).toNatClampNeg) → (zk M22 x0_6 = 8 ∧ ∃ a23, zR M22 x0_6 16 = some a23 ∧ zk M22 a23 = 10 ∧ vp_in (x1_6 + (2 : Int32)) (zl M22 a23) ∧ zk M22 a23 = 10 ∧ vp_in (x1_6 + (2 : Int32)) (zl M22 a23) ∧ (∀ M24, M24 = sI M22 a23 (x1_6 + (2 : Int32)).toNatClampNeg ((zI M22 a23 (x1_6 + (2 : Int32)).toNatClampNeg) + (1 : Int32)) → zk M24 x0_6 = 8 ∧ w_X8_advance M24 x0_6 (fun M25 => ((1 : Int32) = 0 ∨ (1 : Int32) = 1) ∧ P (1 : Int32) M25))))))))))) else (zk M6 x0_6 = 8 ∧ ∃ a9, zR M6 x0_6 16 = some a9 ∧ (zk M6 x0_6 = 8 ∧ ∃ a10, zR M6 x0_6 16 = some a10 ∧ zk M6 a10 = 10 ∧ vp_in (x1_6 + (2 : Int32)) (zl M6 a10) ∧ zk M6 a9 = 10 ∧ vp_in ((x1_6 + (3 : Int32)) + (zI M6 a10 (x1_6 + (2 : Int32)).toNatClampNeg)) (zl M6 a9) ∧ (∀ M11, M11 = sI M6 a9 ((x1_6 + (3 : Int32)) + (zI M6 a10 (x1_6 + (2 : Int32)).toNatClampNeg)).toNatClampNeg x2_6 → (zk M11 x0_6 = 8 ∧ ∃ a12, zR M11 x0_6 16 = some a12 ∧ zk M11 a12 = 10 ∧ vp_in (x1_6 + (2 : Int32)) (zl M11 a12) ∧ zk M11 a12 = 10 ∧ vp_in (x1_6 + (2 : Int32)) (zl M11 a12) ∧ (∀ M13, M13 = sI M11 a12 (x1_6 + (2 : Int32)).toNatClampNeg ((zI M11 a12 (x1_6 + (2 : Int32)).toNatClampNeg) + (1 : Int32)) → zk M13 x0_6 = 8 ∧ w_X8_advance M13 x0_6 (fun M14 => ((1 : Int32) = 0 ∨ (1 : Int32) = 1) ∧ P (1 : Int32) M14)))))))))) else zk M6 x0_6 = 8 ∧ w_X8_fails M6 x0_6 (2 : Int32) (fun r45 M45 => (r45 = 0 ∨ r45 = 1) ∧ P r45 M45))) n38 M3 x0 x1 r3 (0 : Int32) (0 : Int32))))) else zk M x0 = 8 ∧ w_X8_fails M x0 (1 : Int32) (fun r46 M46 => (r46 = 0 ∨ r46 = 1) ∧ P r46 M46))
set_option maxHeartbeats 4000000 in
set_option maxRecDepth 100000 in
theorem c_X8_ownRead (l : Launch) (E : EV) (M : Mm) (x0 : Nat) (x1 : Int32) (P : Int32 → Mm → Prop) (h : w_X8_ownRead M x0 x1 P) : CtI l E yX8_ownRead cX8_ownRead 5 .boolean rm_X8_ownRead 0 0 [.ref x0, .int x1] M P := by
  refine ctI_of (by decide +kernel) (Nat.le_of_ble_eq_true rfl) ?_
  intro p e s m args below meth c C
  rw [w_X8_ownRead] at h
  show J p l e rm_X8_ownRead s m args below meth c (QI below E P args s 0 0) E 5 M 0 0 0 [(0, .ref x0), (1, .int x1)] []
  refine j_aload_n (pc := 0) C 0 dX8_ownRead_0 rfl ?_
  refine gf_X8_90 (pc := 1) C dX8_ownRead_1 h (fun h => ?_)
  refine j_iconst (pc := 4) (v := (1 : Int32)) C dX8_ownRead_4 rfl ?_
  refine j_icmp_eq (pc := 5) C 14 dX8_ownRead_5 (by decide) h (fun h => ?_) (fun h => ?_)
  · refine j_aload_n (pc := 14) C 0 dX8_ownRead_14 rfl ?_
    refine gf_X8_34 (pc := 15) C dX8_ownRead_15 h (fun a1 h => ?_)
    refine j_iconst (pc := 18) (v := (3 : Int32)) C dX8_ownRead_18 rfl ?_
    refine j_aload_n (pc := 19) C 0 dX8_ownRead_19 rfl ?_
    refine gf_X8_28 (pc := 20) C dX8_ownRead_20 h (fun a2 h => ?_)
    refine j_iconst (pc := 23) (v := (4 : Int32)) C dX8_ownRead_23 rfl ?_
    refine j_iald (pc := 24) C dX8_ownRead_24 h (fun h => ?_)
    refine j_aload_n (pc := 25) C 0 dX8_ownRead_25 rfl ?_
    refine gf_X8_69 (pc := 26) C dX8_ownRead_26 h (fun h => ?_)
    refine cs_X8_126 (pc := 29) C ⟨Nat.le_of_ble_eq_true rfl, Nat.le_of_ble_eq_true rfl⟩ ⟨Nat.le_of_ble_eq_true rfl, Nat.le_of_ble_eq_true rfl⟩ (Nat.le_of_ble_eq_true rfl) dX8_ownRead_29 h (fun r3 M3 h => ?_)
    refine j_istore_n (pc := 32) C [(2, _), (0, _), (1, _)] dX8_ownRead_32 (by decide) rfl ?_
    refine j_iconst (pc := 33) (v := (0 : Int32)) C dX8_ownRead_33 rfl ?_
    refine j_istore_n (pc := 34) C [(3, _), (2, _), (0, _), (1, _)] dX8_ownRead_34 (by decide) rfl ?_
    refine j_iconst (pc := 35) (v := (0 : Int32)) C dX8_ownRead_35 rfl ?_
    refine j_istore (pc := 36) C [(4, _), (3, _), (2, _), (0, _), (1, _)] dX8_ownRead_36 (by decide) rfl ?_
    obtain ⟨n38, h⟩ := h
    refine j_weak [3, 4, 2, 1, 0] rfl (jl_X8_ownRead_38 C ⟨Nat.le_of_ble_eq_true rfl, Nat.le_of_ble_eq_true rfl⟩ (fun M6 x0_6 x1_6 x2_6 x3_6 h => ?_) n38 _ _ _ _ _ _ h)
    · refine j_iload_n (pc := 82) C 3 dX8_ownRead_82 rfl ?_
      refine j_if_eq (pc := 83) C 92 dX8_ownRead_83 (by decide) h (fun h => ?_) (fun h => ?_)
      · refine j_aload_n (pc := 92) C 0 dX8_ownRead_92 rfl ?_
        refine gf_X8_28 (pc := 93) C dX8_ownRead_93 h (fun a7 h => ?_)
        refine j_iload_n (pc := 96) C 1 dX8_ownRead_96 rfl ?_
        refine j_iconst (pc := 97) (v := (2 : Int32)) C dX8_ownRead_97 rfl ?_
        refine j_iadd (pc := 98) C dX8_ownRead_98 ?_
        refine j_iald (pc := 99) C dX8_ownRead_99 h (fun h => ?_)
        refine j_iconst (pc := 100) (v := (4 : Int32)) C dX8_ownRead_100 rfl ?_
        refine j_icmp_eq (pc := 101) C 120 dX8_ownRead_101 (by decide) h (fun h => ?_) (fun h => ?_)
        · refine j_aload_n (pc := 120) C 0 dX8_ownRead_120 rfl ?_
          refine j_iconst (pc := 121) (v := (5 : Int32)) C dX8_ownRead_121 rfl ?_
          refine cs_X8_108 (pc := 122) C ⟨Nat.le_of_ble_eq_true rfl, Nat.le_of_ble_eq_true rfl⟩ ⟨Nat.le_of_ble_eq_true rfl, Nat.le_of_ble_eq_true rfl⟩ (Nat.le_of_ble_eq_true rfl) dX8_ownRead_122 h (fun r8 M8 h => ?_)
          exact j_zret (pc := 125) C dX8_ownRead_125 (Nat.le_of_ble_eq_true rfl) (Nat.le_of_ble_eq_true rfl) h
        · refine j_iload_n (pc := 104) C 2 dX8_ownRead_104 rfl ?_
          refine j_iconst (pc := 105) (v := (-1 : Int32)) C dX8_ownRead_105 rfl ?_
          refine j_icmp_ne (pc := 106) C 126 dX8_ownRead_106 (by decide) h (fun h => ?_) (fun h => ?_)
          · refine j_iload_n (pc := 126) C 2 dX8_ownRead_126 rfl ?_
            refine j_iconst (pc := 127) (v := (-1 : Int32)) C dX8_ownRead_127 rfl ?_
            refine j_icmp_ne (pc := 128) C 161 dX8_ownRead_128 (by decide) h (fun h => ?_) (fun h => ?_)
            · refine j_aload_n (pc := 161) C 0 dX8_ownRead_161 rfl ?_
              refine gf_X8_28 (pc := 162) C dX8_ownRead_162 h (fun a9 h => ?_)
              refine j_iload_n (pc := 165) C 1 dX8_ownRead_165 rfl ?_
              refine j_iconst (pc := 166) (v := (3 : Int32)) C dX8_ownRead_166 rfl ?_
              refine j_iadd (pc := 167) C dX8_ownRead_167 ?_
              refine j_aload_n (pc := 168) C 0 dX8_ownRead_168 rfl ?_
              refine gf_X8_28 (pc := 169) C dX8_ownRead_169 h (fun a10 h => ?_)
              refine j_iload_n (pc := 172) C 1 dX8_ownRead_172 rfl ?_
              refine j_iconst (pc := 173) (v := (2 : Int32)) C dX8_ownRead_173 rfl ?_
              refine j_iadd (pc := 174) C dX8_ownRead_174 ?_
              refine j_iald (pc := 175) C dX8_ownRead_175 h (fun h => ?_)
              refine j_iadd (pc := 176) C dX8_ownRead_176 ?_
              refine j_iload_n (pc := 177) C 2 dX8_ownRead_177 rfl ?_
              refine n_iast (pc := 178) C dX8_ownRead_178 h (fun M11 h => ?_)
              refine j_aload_n (pc := 179) C 0 dX8_ownRead_179 rfl ?_
              refine gf_X8_28 (pc := 180) C dX8_ownRead_180 h (fun a12 h => ?_)
              refine j_iload_n (pc := 183) C 1 dX8_ownRead_183 rfl ?_
              refine j_iconst (pc := 184) (v := (2 : Int32)) C dX8_ownRead_184 rfl ?_
              refine j_iadd (pc := 185) C dX8_ownRead_185 ?_
              refine j_dup2 (pc := 186) C dX8_ownRead_186 rfl rfl ?_
              refine j_iald (pc := 187) C dX8_ownRead_187 h (fun h => ?_)
              refine j_iconst (pc := 188) (v := (1 : Int32)) C dX8_ownRead_188 rfl ?_
              refine j_iadd (pc := 189) C dX8_ownRead_189 ?_
              refine n_iast (pc := 190) C dX8_ownRead_190 h (fun M13 h => ?_)
              refine j_aload_n (pc := 191) C 0 dX8_ownRead_191 rfl ?_
              refine cs_X8_112 (pc := 192) C ⟨Nat.le_of_ble_eq_true rfl, Nat.le_of_ble_eq_true rfl⟩ ⟨Nat.le_of_ble_eq_true rfl, Nat.le_of_ble_eq_true rfl⟩ (Nat.le_of_ble_eq_true rfl) dX8_ownRead_192 h (fun M14 h => ?_)
              refine j_iconst (pc := 195) (v := (1 : Int32)) C dX8_ownRead_195 rfl ?_
              exact j_zret (pc := 196) C dX8_ownRead_196 (Nat.le_of_ble_eq_true rfl) (Nat.le_of_ble_eq_true rfl) h
            · refine j_aload_n (pc := 131) C 0 dX8_ownRead_131 rfl ?_
              refine gf_X8_28 (pc := 132) C dX8_ownRead_132 h (fun a15 h => ?_)
              refine j_iconst (pc := 135) (v := (4 : Int32)) C dX8_ownRead_135 rfl ?_
              refine j_iald (pc := 136) C dX8_ownRead_136 h (fun h => ?_)
              refine j_istore_n (pc := 137) C [(2, _), (0, _), (1, _), (3, _)] dX8_ownRead_137 (by decide) rfl ?_
              refine j_aload_n (pc := 138) C 1 dX8_ownRead_138 rfl ?_
              refine gf_X8_34 (pc := 139) C dX8_ownRead_139 h (fun a16 h => ?_)
              refine j_bipush (pc := 142) (v := (24 : Int32)) C dX8_ownRead_142 rfl ?_
              refine j_iload_n (pc := 144) C 0 dX8_ownRead_144 rfl ?_
              refine j_iadd (pc := 145) C dX8_ownRead_145 ?_
              refine j_aload_n (pc := 146) C 1 dX8_ownRead_146 rfl ?_
              refine gf_X8_69 (pc := 147) C dX8_ownRead_147 h (fun h => ?_)
              refine n_last (pc := 150) C dX8_ownRead_150 h (fun M17 h => ?_)
              refine j_aload_n (pc := 151) C 1 dX8_ownRead_151 rfl ?_
              refine gf_X8_28 (pc := 152) C dX8_ownRead_152 h (fun a18 h => ?_)
              refine j_iconst (pc := 155) (v := (4 : Int32)) C dX8_ownRead_155 rfl ?_
              refine j_dup2 (pc := 156) C dX8_ownRead_156 rfl rfl ?_
              refine j_iald (pc := 157) C dX8_ownRead_157 h (fun h => ?_)
              refine j_iconst (pc := 158) (v := (1 : Int32)) C dX8_ownRead_158 rfl ?_
              refine j_iadd (pc := 159) C dX8_ownRead_159 ?_
              refine n_iast (pc := 160) C dX8_ownRead_160 h (fun M19 h => ?_)
              refine j_aload_n (pc := 161) C 1 dX8_ownRead_161 rfl ?_
              refine gf_X8_28 (pc := 162) C dX8_ownRead_162 h (fun a20 h => ?_)
              refine j_iload_n (pc := 165) C 2 dX8_ownRead_165 rfl ?_
              refine j_iconst (pc := 166) (v := (3 : Int32)) C dX8_ownRead_166 rfl ?_
              refine j_iadd (pc := 167) C dX8_ownRead_167 ?_
              refine j_aload_n (pc := 168) C 1 dX8_ownRead_168 rfl ?_
              refine gf_X8_28 (pc := 169) C dX8_ownRead_169 h (fun a21 h => ?_)
              refine j_iload_n (pc := 172) C 2 dX8_ownRead_172 rfl ?_
              refine j_iconst (pc := 173) (v := (2 : Int32)) C dX8_ownRead_173 rfl ?_
              refine j_iadd (pc := 174) C dX8_ownRead_174 ?_
              refine j_iald (pc := 175) C dX8_ownRead_175 h (fun h => ?_)
              refine j_iadd (pc := 176) C dX8_ownRead_176 ?_
              refine j_iload_n (pc := 177) C 0 dX8_ownRead_177 rfl ?_
              refine n_iast (pc := 178) C dX8_ownRead_178 h (fun M22 h => ?_)
              refine j_aload_n (pc := 179) C 1 dX8_ownRead_179 rfl ?_
              refine gf_X8_28 (pc := 180) C dX8_ownRead_180 h (fun a23 h => ?_)
              refine j_iload_n (pc := 183) C 2 dX8_ownRead_183 rfl ?_
              refine j_iconst (pc := 184) (v := (2 : Int32)) C dX8_ownRead_184 rfl ?_
              refine j_iadd (pc := 185) C dX8_ownRead_185 ?_
              refine j_dup2 (pc := 186) C dX8_ownRead_186 rfl rfl ?_
              refine j_iald (pc := 187) C dX8_ownRead_187 h (fun h => ?_)
              refine j_iconst (pc := 188) (v := (1 : Int32)) C dX8_ownRead_188 rfl ?_
              refine j_iadd (pc := 189) C dX8_ownRead_189 ?_
              refine n_iast (pc := 190) C dX8_ownRead_190 h (fun M24 h => ?_)
              refine j_aload_n (pc := 191) C 1 dX8_ownRead_191 rfl ?_
              refine cs_X8_112 (pc := 192) C ⟨Nat.le_of_ble_eq_true rfl, Nat.le_of_ble_eq_true rfl⟩ ⟨Nat.le_of_ble_eq_true rfl, Nat.le_of_ble_eq_true rfl⟩ (Nat.le_of_ble_eq_true rfl) dX8_ownRead_192 h (fun M25 h => ?_)
              refine j_iconst (pc := 195) (v := (1 : Int32)) C dX8_ownRead_195 rfl ?_
              exact j_zret (pc := 196) C dX8_ownRead_196 (Nat.le_of_ble_eq_true rfl) (Nat.le_of_ble_eq_true rfl) h
          · refine j_aload_n (pc := 109) C 0 dX8_ownRead_109 rfl ?_
            refine gf_X8_28 (pc := 110) C dX8_ownRead_110 h (fun a26 h => ?_)
            refine j_iconst (pc := 113) (v := (4 : Int32)) C dX8_ownRead_113 rfl ?_
            refine j_iald (pc := 114) C dX8_ownRead_114 h (fun h => ?_)
            refine j_bipush (pc := 115) (v := (8 : Int32)) C dX8_ownRead_115 rfl ?_
            refine j_icmp_ne (pc := 117) C 126 dX8_ownRead_117 (by decide) h (fun h => ?_) (fun h => ?_)
            · refine j_iload_n (pc := 126) C 2 dX8_ownRead_126 rfl ?_
              refine j_iconst (pc := 127) (v := (-1 : Int32)) C dX8_ownRead_127 rfl ?_
              refine j_icmp_ne (pc := 128) C 161 dX8_ownRead_128 (by decide) h (fun h => ?_) (fun h => ?_)
              · refine j_aload_n (pc := 161) C 0 dX8_ownRead_161 rfl ?_
                refine gf_X8_28 (pc := 162) C dX8_ownRead_162 h (fun a27 h => ?_)
                refine j_iload_n (pc := 165) C 1 dX8_ownRead_165 rfl ?_
                refine j_iconst (pc := 166) (v := (3 : Int32)) C dX8_ownRead_166 rfl ?_
                refine j_iadd (pc := 167) C dX8_ownRead_167 ?_
                refine j_aload_n (pc := 168) C 0 dX8_ownRead_168 rfl ?_
                refine gf_X8_28 (pc := 169) C dX8_ownRead_169 h (fun a28 h => ?_)
                refine j_iload_n (pc := 172) C 1 dX8_ownRead_172 rfl ?_
                refine j_iconst (pc := 173) (v := (2 : Int32)) C dX8_ownRead_173 rfl ?_
                refine j_iadd (pc := 174) C dX8_ownRead_174 ?_
                refine j_iald (pc := 175) C dX8_ownRead_175 h (fun h => ?_)
                refine j_iadd (pc := 176) C dX8_ownRead_176 ?_
                refine j_iload_n (pc := 177) C 2 dX8_ownRead_177 rfl ?_
                refine n_iast (pc := 178) C dX8_ownRead_178 h (fun M29 h => ?_)
                refine j_aload_n (pc := 179) C 0 dX8_ownRead_179 rfl ?_
                refine gf_X8_28 (pc := 180) C dX8_ownRead_180 h (fun a30 h => ?_)
                refine j_iload_n (pc := 183) C 1 dX8_ownRead_183 rfl ?_
                refine j_iconst (pc := 184) (v := (2 : Int32)) C dX8_ownRead_184 rfl ?_
                refine j_iadd (pc := 185) C dX8_ownRead_185 ?_
                refine j_dup2 (pc := 186) C dX8_ownRead_186 rfl rfl ?_
                refine j_iald (pc := 187) C dX8_ownRead_187 h (fun h => ?_)
                refine j_iconst (pc := 188) (v := (1 : Int32)) C dX8_ownRead_188 rfl ?_
                refine j_iadd (pc := 189) C dX8_ownRead_189 ?_
                refine n_iast (pc := 190) C dX8_ownRead_190 h (fun M31 h => ?_)
                refine j_aload_n (pc := 191) C 0 dX8_ownRead_191 rfl ?_
                refine cs_X8_112 (pc := 192) C ⟨Nat.le_of_ble_eq_true rfl, Nat.le_of_ble_eq_true rfl⟩ ⟨Nat.le_of_ble_eq_true rfl, Nat.le_of_ble_eq_true rfl⟩ (Nat.le_of_ble_eq_true rfl) dX8_ownRead_192 h (fun M32 h => ?_)
                refine j_iconst (pc := 195) (v := (1 : Int32)) C dX8_ownRead_195 rfl ?_
                exact j_zret (pc := 196) C dX8_ownRead_196 (Nat.le_of_ble_eq_true rfl) (Nat.le_of_ble_eq_true rfl) h
              · refine j_aload_n (pc := 131) C 0 dX8_ownRead_131 rfl ?_
                refine gf_X8_28 (pc := 132) C dX8_ownRead_132 h (fun a33 h => ?_)
                refine j_iconst (pc := 135) (v := (4 : Int32)) C dX8_ownRead_135 rfl ?_
                refine j_iald (pc := 136) C dX8_ownRead_136 h (fun h => ?_)
                refine j_istore_n (pc := 137) C [(2, _), (0, _), (1, _), (3, _)] dX8_ownRead_137 (by decide) rfl ?_
                refine j_aload_n (pc := 138) C 1 dX8_ownRead_138 rfl ?_
                refine gf_X8_34 (pc := 139) C dX8_ownRead_139 h (fun a34 h => ?_)
                refine j_bipush (pc := 142) (v := (24 : Int32)) C dX8_ownRead_142 rfl ?_
                refine j_iload_n (pc := 144) C 0 dX8_ownRead_144 rfl ?_
                refine j_iadd (pc := 145) C dX8_ownRead_145 ?_
                refine j_aload_n (pc := 146) C 1 dX8_ownRead_146 rfl ?_
                refine gf_X8_69 (pc := 147) C dX8_ownRead_147 h (fun h => ?_)
                refine n_last (pc := 150) C dX8_ownRead_150 h (fun M35 h => ?_)
                refine j_aload_n (pc := 151) C 1 dX8_ownRead_151 rfl ?_
                refine gf_X8_28 (pc := 152) C dX8_ownRead_152 h (fun a36 h => ?_)
                refine j_iconst (pc := 155) (v := (4 : Int32)) C dX8_ownRead_155 rfl ?_
                refine j_dup2 (pc := 156) C dX8_ownRead_156 rfl rfl ?_
                refine j_iald (pc := 157) C dX8_ownRead_157 h (fun h => ?_)
                refine j_iconst (pc := 158) (v := (1 : Int32)) C dX8_ownRead_158 rfl ?_
                refine j_iadd (pc := 159) C dX8_ownRead_159 ?_
                refine n_iast (pc := 160) C dX8_ownRead_160 h (fun M37 h => ?_)
                refine j_aload_n (pc := 161) C 1 dX8_ownRead_161 rfl ?_
                refine gf_X8_28 (pc := 162) C dX8_ownRead_162 h (fun a38 h => ?_)
                refine j_iload_n (pc := 165) C 2 dX8_ownRead_165 rfl ?_
                refine j_iconst (pc := 166) (v := (3 : Int32)) C dX8_ownRead_166 rfl ?_
                refine j_iadd (pc := 167) C dX8_ownRead_167 ?_
                refine j_aload_n (pc := 168) C 1 dX8_ownRead_168 rfl ?_
                refine gf_X8_28 (pc := 169) C dX8_ownRead_169 h (fun a39 h => ?_)
                refine j_iload_n (pc := 172) C 2 dX8_ownRead_172 rfl ?_
                refine j_iconst (pc := 173) (v := (2 : Int32)) C dX8_ownRead_173 rfl ?_
                refine j_iadd (pc := 174) C dX8_ownRead_174 ?_
                refine j_iald (pc := 175) C dX8_ownRead_175 h (fun h => ?_)
                refine j_iadd (pc := 176) C dX8_ownRead_176 ?_
                refine j_iload_n (pc := 177) C 0 dX8_ownRead_177 rfl ?_
                refine n_iast (pc := 178) C dX8_ownRead_178 h (fun M40 h => ?_)
                refine j_aload_n (pc := 179) C 1 dX8_ownRead_179 rfl ?_
                refine gf_X8_28 (pc := 180) C dX8_ownRead_180 h (fun a41 h => ?_)
                refine j_iload_n (pc := 183) C 2 dX8_ownRead_183 rfl ?_
                refine j_iconst (pc := 184) (v := (2 : Int32)) C dX8_ownRead_184 rfl ?_
                refine j_iadd (pc := 185) C dX8_ownRead_185 ?_
                refine j_dup2 (pc := 186) C dX8_ownRead_186 rfl rfl ?_
                refine j_iald (pc := 187) C dX8_ownRead_187 h (fun h => ?_)
                refine j_iconst (pc := 188) (v := (1 : Int32)) C dX8_ownRead_188 rfl ?_
                refine j_iadd (pc := 189) C dX8_ownRead_189 ?_
                refine n_iast (pc := 190) C dX8_ownRead_190 h (fun M42 h => ?_)
                refine j_aload_n (pc := 191) C 1 dX8_ownRead_191 rfl ?_
                refine cs_X8_112 (pc := 192) C ⟨Nat.le_of_ble_eq_true rfl, Nat.le_of_ble_eq_true rfl⟩ ⟨Nat.le_of_ble_eq_true rfl, Nat.le_of_ble_eq_true rfl⟩ (Nat.le_of_ble_eq_true rfl) dX8_ownRead_192 h (fun M43 h => ?_)
                refine j_iconst (pc := 195) (v := (1 : Int32)) C dX8_ownRead_195 rfl ?_
                exact j_zret (pc := 196) C dX8_ownRead_196 (Nat.le_of_ble_eq_true rfl) (Nat.le_of_ble_eq_true rfl) h
            · refine j_aload_n (pc := 120) C 0 dX8_ownRead_120 rfl ?_
              refine j_iconst (pc := 121) (v := (5 : Int32)) C dX8_ownRead_121 rfl ?_
              refine cs_X8_108 (pc := 122) C ⟨Nat.le_of_ble_eq_true rfl, Nat.le_of_ble_eq_true rfl⟩ ⟨Nat.le_of_ble_eq_true rfl, Nat.le_of_ble_eq_true rfl⟩ (Nat.le_of_ble_eq_true rfl) dX8_ownRead_122 h (fun r44 M44 h => ?_)
              exact j_zret (pc := 125) C dX8_ownRead_125 (Nat.le_of_ble_eq_true rfl) (Nat.le_of_ble_eq_true rfl) h
      · refine j_aload_n (pc := 86) C 0 dX8_ownRead_86 rfl ?_
        refine j_iconst (pc := 87) (v := (2 : Int32)) C dX8_ownRead_87 rfl ?_
        refine cs_X8_108 (pc := 88) C ⟨Nat.le_of_ble_eq_true rfl, Nat.le_of_ble_eq_true rfl⟩ ⟨Nat.le_of_ble_eq_true rfl, Nat.le_of_ble_eq_true rfl⟩ (Nat.le_of_ble_eq_true rfl) dX8_ownRead_88 h (fun r45 M45 h => ?_)
        exact j_zret (pc := 91) C dX8_ownRead_91 (Nat.le_of_ble_eq_true rfl) (Nat.le_of_ble_eq_true rfl) h
  · refine j_aload_n (pc := 8) C 0 dX8_ownRead_8 rfl ?_
    refine j_iconst (pc := 9) (v := (1 : Int32)) C dX8_ownRead_9 rfl ?_
    refine cs_X8_108 (pc := 10) C ⟨Nat.le_of_ble_eq_true rfl, Nat.le_of_ble_eq_true rfl⟩ ⟨Nat.le_of_ble_eq_true rfl, Nat.le_of_ble_eq_true rfl⟩ (Nat.le_of_ble_eq_true rfl) dX8_ownRead_10 h (fun r46 M46 h => ?_)
    exact j_zret (pc := 13) C dX8_ownRead_13 (Nat.le_of_ble_eq_true rfl) (Nat.le_of_ble_eq_true rfl) h
end GW20
