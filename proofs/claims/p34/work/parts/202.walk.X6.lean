/-! written by a program (wip/p34/gen.py) out of the decode rows and the tables: walks of X6 -/

section GW2
variable {p : Program} {l : Launch} {e : Env} {R : Room} {s : State} {m : MethodId} {args : Array Value} {below : List Frame} {meth : Method} {c : Code} {Q : State → Prop} {cc : ByteArray} {nL : Nat} {ret : Option FieldType} {E : EV} {M : Mm} {kc ks pc : Nat} {lo : List (Nat × Value)} {st : List Value}
theorem cs_X6_17 (C : Cx p l s m args meth c cc nL RX6 ret E) {b : Nat} {y0 : Int32} {P : Mm → Prop} (hR : rm_X2_init.frames + 1 ≤ R.frames ∧ 8 + (2 + 11) + rm_X2_init.locals ≤ R.locals) (hf : kc + 1 ≤ R.cells ∧ ks + 8 ≤ R.slots) (hst : (st.map fun v => v.category).sum ≤ 8) (d : decode cc pc = .ok (.invokespecial 17, 3)) (h : w_X2_init M b y0 P) (kk : ∀ M', P M' → J p l e R s m args below meth c Q E nL M' (kc + 1) (ks + 8) (pc + 3) lo st) : J p l e R s m args below meth c Q E nL M kc ks pc lo (.int y0 :: .ref b :: st) :=
  j_cI_V (n := 1) (As := [.int y0]) C rfl wd_140 (c_X2_init l E M b y0 P h) ⟨wd_141, wd_139, wd_44, by decide +kernel, by decide +kernel, by decide +kernel⟩ rfl rfl hR hf rfl hst d kk
abbrev rm_X6_init : Room := { frames := 2, cells := 20, slots := 138, locals := 41 }
def w_X6_init (M : Mm) (x0 : Nat) (P : Mm → Prop) : Prop := zk M x0 = 6 ∧ (∀ M1, M1 = sI M x0 0 (1 : Int32) → (∀ a2 M2, a2 = zn M1 → M2 = sN M1 2 0 → w_X2_init M2 a2 (3 : Int32) (fun M3 => zk M3 x0 = 6 ∧ (∀ M4, M4 = sR M3 x0 3 (some a2) → ¬ (3 : Int32) < 0 ∧ (3 : Int32).toNatClampNeg ≤ 3 ∧ (∀ a5 M5, a5 = zn M4 → M5 = sN M4 10 (3 : Int32).toNatClampNeg → zk M5 x0 = 6 ∧ (∀ M6, M6 = sR M5 x0 4 (some a5) → (∀ a7 M7, a7 = zn M6 → M7 = sN M6 2 0 → w_X2_init M7 a7 (8 : Int32) (fun M8 => zk M8 x0 = 6 ∧ (∀ M9, M9 = sR M8 x0 5 (some a7) → ¬ (8 : Int32) < 0 ∧ (8 : Int32).toNatClampNeg ≤ 8 ∧ (∀ a10 M10, a10 = zn M9 → M10 = sN M9 10 (8 : Int32).toNatClampNeg → zk M10 x0 = 6 ∧ (∀ M11, M11 = sR M10 x0 6 (some a10) → ¬ (8 : Int32) < 0 ∧ (8 : Int32).toNatClampNeg ≤ 8 ∧ (∀ a12 M12, a12 = zn M11 → M12 = sN M11 10 (8 : Int32).toNatClampNeg → zk M12 x0 = 6 ∧ (∀ M13, M13 = sR M12 x0 7 (some a12) → ¬ (8 : Int32) < 0 ∧ (8 : Int32).toNatClampNeg ≤ 8 ∧ (∀ a14 M14, a14 = zn M13 → M14 = sN M13 10 (8 : Int32).toNatClampNeg → zk M14 x0 = 6 ∧ (∀ M15, M15 = sR M14 x0 8 (some a14) → ¬ (8 : Int32) < 0 ∧ (8 : Int32).toNatClampNeg ≤ 8 ∧ (∀ a16 M16, a16 = zn M15 → M16 = sN M15 10 (8 : Int32).toNatClampNeg → zk M16 x0 = 6 ∧ (∀ M17, M17 = sR M16 x0 9 (some a16) → ¬ (8 : Int32) < 0 ∧ (8 : Int32).toNatClampNeg ≤ 8 ∧ (∀ a18 M18, a18 = zn M17 → M18 = sN M17 10 (8 : Int32).toNatClampNeg → zk M18 x0 = 6 ∧ (∀ M19, M19 = sR M18 x0 10 (some a18) → (∀ a20 M20, a20 = zn M19 → M20 = sN M19 2 0 → w_X2_init M20 a20 (8 : Int32) (fun M21 => zk M21 x0 = 6 ∧ (∀ M22, M22 = sR M21 x0 11 (some a20) → (∀ a23 M23, a23 = zn M22 → M23 = sN M22 2 0 → w_X2_init M23 a23 (5 : Int32) (fun M24 => zk M24 x0 = 6 ∧ (∀ M25, M25 = sR M24 x0 12 (some a23) → ¬ (5 : Int32) < 0 ∧ (5 : Int32).toNatClampNeg ≤ 5 ∧ (∀ a26 M26, a26 = zn M25 → M26 = sN M25 10 (5 : Int32).toNatClampNeg → zk M26 x0 = 6 ∧ (∀ M27, M27 = sR M26 x0 13 (some a26) → ¬ (5 : Int32) < 0 ∧ (5 : Int32).toNatClampNeg ≤ 5 ∧ (∀ a28 M28, a28 = zn M27 → M28 = sN M27 10 (5 : Int32).toNatClampNeg → zk M28 x0 = 6 ∧ (∀ M29, M29 = sR M28 x0 14 (some a28) → ¬ (5 : Int32) < 0 ∧ (5 : Int32).toNatClampNeg ≤ 5 ∧ (∀ a30 M30, a30 = zn M29 → M30 = sN M29 10 (5 : Int32).toNatClampNeg → zk M30 x0 = 6 ∧ (∀ M31, M31 = sR M30 x0 15 (some a30) → ¬ (5 : Int32) < 0 ∧ (5 : Int32).toNatClampNeg ≤ 5 ∧ (∀ a32 M32, a32 = zn M31 → M32 = sN M31 10 (5 : Int32).toNatClampNeg → zk M32 x0 = 6 ∧ (∀ M33, M33 = sR M32 x0 16 (some a32) → ¬ (5 : Int32) < 0 ∧ (5 : Int32).toNatClampNeg ≤ 5 ∧ (∀ a34 M34, a34 = zn M33 → M34 = sN M33 10 (5 : Int32).toNatClampNeg → zk M34 x0 = 6 ∧ (∀ M35, M35 = sR M34 x0 17 (some a34) → ¬ (30 : Int32) < 0 ∧ (30 : Int32).toNatClampNeg ≤ 30 ∧ (∀ a36 M36, a36 = zn M35 → M36 = sN M35 10 (30 : Int32).toNatClampNeg → zk M36 x0 = 6 ∧ (∀ M37, M37 = sR M36 x0 18 (some a36) → P M37)))))))))))))))))))))))))))))))))))))
set_option maxHeartbeats 4000000 in
set_option maxRecDepth 100000 in
theorem c_X6_init (l : Launch) (E : EV) (M : Mm) (x0 : Nat) (P : Mm → Prop) (h : w_X6_init M x0 P) : CtV l E yX6_init cX6_init 1 rm_X6_init 20 138 [.ref x0] M P := by
  refine ctV_of (by decide +kernel) (Nat.le_of_ble_eq_true rfl) ?_
  intro p e s m args below meth c C hnm
  rw [w_X6_init] at h
  show J p l e rm_X6_init s m args below meth c (QV below E P args s 20 138) E 1 M 0 0 0 [(0, .ref x0)] []
  refine j_aload_n (pc := 0) C 0 dX6_init_0 rfl ?_
  refine j_objInit (pc := 1) C wd_136 wd_72 wd_73 dX6_init_1 (Nat.le_of_ble_eq_true rfl) (Nat.le_of_ble_eq_true rfl) ?_
  refine j_aload_n (pc := 4) C 0 dX6_init_4 rfl ?_
  refine j_iconst (pc := 5) (v := (1 : Int32)) C dX6_init_5 rfl ?_
  refine pf_X6_9 (pc := 6) C dX6_init_6 h (fun M1 h => ?_)
  refine j_aload_n (pc := 9) C 0 dX6_init_9 rfl ?_
  refine n_new (pc := 10) C co_X2 df_X2 wd_137 wd_138 wd_44 dX6_init_10 (Nat.le_of_ble_eq_true rfl) (Nat.le_of_ble_eq_true rfl) h (fun a2 M2 h => ?_)
  refine j_dup (pc := 13) C dX6_init_13 rfl ?_
  refine j_iconst (pc := 14) (v := (3 : Int32)) C dX6_init_14 rfl ?_
  refine cs_X6_17 (pc := 15) C ⟨Nat.le_of_ble_eq_true rfl, Nat.le_of_ble_eq_true rfl⟩ ⟨Nat.le_of_ble_eq_true rfl, Nat.le_of_ble_eq_true rfl⟩ (Nat.le_of_ble_eq_true rfl) dX6_init_15 h (fun M3 h => ?_)
  refine pf_X6_20 (pc := 18) C hnm dX6_init_18 h (fun M4 h => ?_)
  refine j_aload_n (pc := 21) C 0 dX6_init_21 rfl ?_
  refine j_iconst (pc := 22) (v := (3 : Int32)) C dX6_init_22 rfl ?_
  refine n_newi (pc := 23) C 3 wd_92 dX6_init_23 (Nat.le_of_ble_eq_true rfl) (Nat.le_of_ble_eq_true rfl) (Nat.le_of_ble_eq_true rfl) h (fun a5 M5 h => ?_)
  refine pf_X6_24 (pc := 25) C hnm dX6_init_25 h (fun M6 h => ?_)
  refine j_aload_n (pc := 28) C 0 dX6_init_28 rfl ?_
  refine n_new (pc := 29) C co_X2 df_X2 wd_137 wd_138 wd_44 dX6_init_29 (Nat.le_of_ble_eq_true rfl) (Nat.le_of_ble_eq_true rfl) h (fun a7 M7 h => ?_)
  refine j_dup (pc := 32) C dX6_init_32 rfl ?_
  refine j_bipush (pc := 33) (v := (8 : Int32)) C dX6_init_33 rfl ?_
  refine cs_X6_17 (pc := 35) C ⟨Nat.le_of_ble_eq_true rfl, Nat.le_of_ble_eq_true rfl⟩ ⟨Nat.le_of_ble_eq_true rfl, Nat.le_of_ble_eq_true rfl⟩ (Nat.le_of_ble_eq_true rfl) dX6_init_35 h (fun M8 h => ?_)
  refine pf_X6_28 (pc := 38) C hnm dX6_init_38 h (fun M9 h => ?_)
  refine j_aload_n (pc := 41) C 0 dX6_init_41 rfl ?_
  refine j_bipush (pc := 42) (v := (8 : Int32)) C dX6_init_42 rfl ?_
  refine n_newi (pc := 44) C 8 wd_92 dX6_init_44 (Nat.le_of_ble_eq_true rfl) (Nat.le_of_ble_eq_true rfl) (Nat.le_of_ble_eq_true rfl) h (fun a10 M10 h => ?_)
  refine pf_X6_31 (pc := 46) C hnm dX6_init_46 h (fun M11 h => ?_)
  refine j_aload_n (pc := 49) C 0 dX6_init_49 rfl ?_
  refine j_bipush (pc := 50) (v := (8 : Int32)) C dX6_init_50 rfl ?_
  refine n_newi (pc := 52) C 8 wd_92 dX6_init_52 (Nat.le_of_ble_eq_true rfl) (Nat.le_of_ble_eq_true rfl) (Nat.le_of_ble_eq_true rfl) h (fun a12 M12 h => ?_)
  refine pf_X6_34 (pc := 54) C hnm dX6_init_54 h (fun M13 h => ?_)
  refine j_aload_n (pc := 57) C 0 dX6_init_57 rfl ?_
  refine j_bipush (pc := 58) (v := (8 : Int32)) C dX6_init_58 rfl ?_
  refine n_newi (pc := 60) C 8 wd_92 dX6_init_60 (Nat.le_of_ble_eq_true rfl) (Nat.le_of_ble_eq_true rfl) (Nat.le_of_ble_eq_true rfl) h (fun a14 M14 h => ?_)
  refine pf_X6_37 (pc := 62) C hnm dX6_init_62 h (fun M15 h => ?_)
  refine j_aload_n (pc := 65) C 0 dX6_init_65 rfl ?_
  refine j_bipush (pc := 66) (v := (8 : Int32)) C dX6_init_66 rfl ?_
  refine n_newi (pc := 68) C 8 wd_92 dX6_init_68 (Nat.le_of_ble_eq_true rfl) (Nat.le_of_ble_eq_true rfl) (Nat.le_of_ble_eq_true rfl) h (fun a16 M16 h => ?_)
  refine pf_X6_40 (pc := 70) C hnm dX6_init_70 h (fun M17 h => ?_)
  refine j_aload_n (pc := 73) C 0 dX6_init_73 rfl ?_
  refine j_bipush (pc := 74) (v := (8 : Int32)) C dX6_init_74 rfl ?_
  refine n_newi (pc := 76) C 8 wd_92 dX6_init_76 (Nat.le_of_ble_eq_true rfl) (Nat.le_of_ble_eq_true rfl) (Nat.le_of_ble_eq_true rfl) h (fun a18 M18 h => ?_)
  refine pf_X6_43 (pc := 78) C hnm dX6_init_78 h (fun M19 h => ?_)
  refine j_aload_n (pc := 81) C 0 dX6_init_81 rfl ?_
  refine n_new (pc := 82) C co_X2 df_X2 wd_137 wd_138 wd_44 dX6_init_82 (Nat.le_of_ble_eq_true rfl) (Nat.le_of_ble_eq_true rfl) h (fun a20 M20 h => ?_)
  refine j_dup (pc := 85) C dX6_init_85 rfl ?_
  refine j_bipush (pc := 86) (v := (8 : Int32)) C dX6_init_86 rfl ?_
  refine cs_X6_17 (pc := 88) C ⟨Nat.le_of_ble_eq_true rfl, Nat.le_of_ble_eq_true rfl⟩ ⟨Nat.le_of_ble_eq_true rfl, Nat.le_of_ble_eq_true rfl⟩ (Nat.le_of_ble_eq_true rfl) dX6_init_88 h (fun M21 h => ?_)
  refine pf_X6_46 (pc := 91) C hnm dX6_init_91 h (fun M22 h => ?_)
  refine j_aload_n (pc := 94) C 0 dX6_init_94 rfl ?_
  refine n_new (pc := 95) C co_X2 df_X2 wd_137 wd_138 wd_44 dX6_init_95 (Nat.le_of_ble_eq_true rfl) (Nat.le_of_ble_eq_true rfl) h (fun a23 M23 h => ?_)
  refine j_dup (pc := 98) C dX6_init_98 rfl ?_
  refine j_iconst (pc := 99) (v := (5 : Int32)) C dX6_init_99 rfl ?_
  refine cs_X6_17 (pc := 100) C ⟨Nat.le_of_ble_eq_true rfl, Nat.le_of_ble_eq_true rfl⟩ ⟨Nat.le_of_ble_eq_true rfl, Nat.le_of_ble_eq_true rfl⟩ (Nat.le_of_ble_eq_true rfl) dX6_init_100 h (fun M24 h => ?_)
  refine pf_X6_49 (pc := 103) C hnm dX6_init_103 h (fun M25 h => ?_)
  refine j_aload_n (pc := 106) C 0 dX6_init_106 rfl ?_
  refine j_iconst (pc := 107) (v := (5 : Int32)) C dX6_init_107 rfl ?_
  refine n_newi (pc := 108) C 5 wd_92 dX6_init_108 (Nat.le_of_ble_eq_true rfl) (Nat.le_of_ble_eq_true rfl) (Nat.le_of_ble_eq_true rfl) h (fun a26 M26 h => ?_)
  refine pf_X6_52 (pc := 110) C hnm dX6_init_110 h (fun M27 h => ?_)
  refine j_aload_n (pc := 113) C 0 dX6_init_113 rfl ?_
  refine j_iconst (pc := 114) (v := (5 : Int32)) C dX6_init_114 rfl ?_
  refine n_newi (pc := 115) C 5 wd_92 dX6_init_115 (Nat.le_of_ble_eq_true rfl) (Nat.le_of_ble_eq_true rfl) (Nat.le_of_ble_eq_true rfl) h (fun a28 M28 h => ?_)
  refine pf_X6_55 (pc := 117) C hnm dX6_init_117 h (fun M29 h => ?_)
  refine j_aload_n (pc := 120) C 0 dX6_init_120 rfl ?_
  refine j_iconst (pc := 121) (v := (5 : Int32)) C dX6_init_121 rfl ?_
  refine n_newi (pc := 122) C 5 wd_92 dX6_init_122 (Nat.le_of_ble_eq_true rfl) (Nat.le_of_ble_eq_true rfl) (Nat.le_of_ble_eq_true rfl) h (fun a30 M30 h => ?_)
  refine pf_X6_58 (pc := 124) C hnm dX6_init_124 h (fun M31 h => ?_)
  refine j_aload_n (pc := 127) C 0 dX6_init_127 rfl ?_
  refine j_iconst (pc := 128) (v := (5 : Int32)) C dX6_init_128 rfl ?_
  refine n_newi (pc := 129) C 5 wd_92 dX6_init_129 (Nat.le_of_ble_eq_true rfl) (Nat.le_of_ble_eq_true rfl) (Nat.le_of_ble_eq_true rfl) h (fun a32 M32 h => ?_)
  refine pf_X6_61 (pc := 131) C hnm dX6_init_131 h (fun M33 h => ?_)
  refine j_aload_n (pc := 134) C 0 dX6_init_134 rfl ?_
  refine j_iconst (pc := 135) (v := (5 : Int32)) C dX6_init_135 rfl ?_
  refine n_newi (pc := 136) C 5 wd_92 dX6_init_136 (Nat.le_of_ble_eq_true rfl) (Nat.le_of_ble_eq_true rfl) (Nat.le_of_ble_eq_true rfl) h (fun a34 M34 h => ?_)
  refine pf_X6_64 (pc := 138) C hnm dX6_init_138 h (fun M35 h => ?_)
  refine j_aload_n (pc := 141) C 0 dX6_init_141 rfl ?_
  refine j_bipush (pc := 142) (v := (30 : Int32)) C dX6_init_142 rfl ?_
  refine n_newi (pc := 144) C 30 wd_92 dX6_init_144 (Nat.le_of_ble_eq_true rfl) (Nat.le_of_ble_eq_true rfl) (Nat.le_of_ble_eq_true rfl) h (fun a36 M36 h => ?_)
  refine pf_X6_67 (pc := 146) C hnm dX6_init_146 h (fun M37 h => ?_)
  exact j_vret (pc := 149) C dX6_init_149 (Nat.le_of_ble_eq_true rfl) (Nat.le_of_ble_eq_true rfl) h
abbrev rm_X6_clear : Room := { frames := 0, cells := 0, slots := 0, locals := 0 }
def l_X6_clear_44 (P : Mm → Prop) (K70 : Mm → Nat → Prop) : Nat → Mm → Nat → Int32 → Prop
  | 0, _, _, _ => False
  | n + 1, M, x0, x1 => (if (8 : Int32) ≤ x1 then K70 M x0 else (zk M x0 = 6 ∧ ∃ a11, zR M x0 9 = some a11 ∧ zk M a11 = 10 ∧ vp_in x1 (zl M a11) ∧ (∀ M12, M12 = sI M a11 x1.toNatClampNeg (0 : Int32) → (zk M12 x0 = 6 ∧ ∃ a13, zR M12 x0 10 = some a13 ∧ zk M12 a13 = 10 ∧ vp_in x1 (zl M12 a13) ∧ (∀ M14, M14 = sI M12 a13 x1.toNatClampNeg (0 : Int32) → l_X6_clear_44 P K70 n M14 x0 (x1 + (1 : Int32)))))))
set_option maxHeartbeats 4000000 in
set_option maxRecDepth 100000 in
theorem jl_X6_clear_44 {P : Mm → Prop} {K70 : Mm → Nat → Prop} (C : Cx p l s m args meth c cX6_clear 2 RX6 none E) (hkc : kc ≤ rm_X6_clear.cells ∧ ks ≤ rm_X6_clear.slots) (k70 : ∀ M x0, K70 M x0 → J p l e rm_X6_clear s m args below meth c (QV below E P args s rm_X6_clear.cells rm_X6_clear.slots) E 2 M kc ks 70 [(0, .ref x0)] []) : ∀ n M x0 x1, l_X6_clear_44 P K70 n M x0 x1 → J p l e rm_X6_clear s m args below meth c (QV below E P args s rm_X6_clear.cells rm_X6_clear.slots) E 2 M kc ks 44 [(0, .ref x0), (1, .int x1)] [] := by
  intro n
  induction n with
  | zero => intro M x0 x1 h; exact h.elim
  | succ n ih =>
    intro M x0 x1 h
    rw [l_X6_clear_44] at h
    refine j_iload_n (pc := 44) C 1 dX6_clear_44 rfl ?_
    refine j_bipush (pc := 45) (v := (8 : Int32)) C dX6_clear_45 rfl ?_
    refine j_icmp_ge (pc := 47) C 70 dX6_clear_47 (by decide) h (fun h => ?_) (fun h => ?_)
    · exact j_weak [0] rfl (k70 _ _ h)
    · refine j_aload_n (pc := 50) C 0 dX6_clear_50 rfl ?_
      refine gf_X6_40 (pc := 51) C dX6_clear_51 h (fun a11 h => ?_)
      refine j_iload_n (pc := 54) C 1 dX6_clear_54 rfl ?_
      refine j_iconst (pc := 55) (v := (0 : Int32)) C dX6_clear_55 rfl ?_
      refine n_iast (pc := 56) C dX6_clear_56 h (fun M12 h => ?_)
      refine j_aload_n (pc := 57) C 0 dX6_clear_57 rfl ?_
      refine gf_X6_43 (pc := 58) C dX6_clear_58 h (fun a13 h => ?_)
      refine j_iload_n (pc := 61) C 1 dX6_clear_61 rfl ?_
      refine j_iconst (pc := 62) (v := (0 : Int32)) C dX6_clear_62 rfl ?_
      refine n_iast (pc := 63) C dX6_clear_63 h (fun M14 h => ?_)
      refine j_iinc (pc := 64) (v := (1 : Int32)) C 1 [(1, _), (0, _)] dX6_clear_64 rfl rfl (by decide) rfl ?_
      refine j_goto (pc := 67) C 44 dX6_clear_67 (by decide) ?_
      exact j_weak [1, 0] rfl (ih _ _ _ h)
def l_X6_clear_72 (P : Mm → Prop) (K90 : Mm → Prop) : Nat → Mm → Nat → Int32 → Prop
  | 0, _, _, _ => False
  | n + 1, M, x0, x1 => (if (5 : Int32) ≤ x1 then K90 M else (zk M x0 = 6 ∧ ∃ a16, zR M x0 17 = some a16 ∧ zk M a16 = 10 ∧ vp_in x1 (zl M a16) ∧ (∀ M17, M17 = sI M a16 x1.toNatClampNeg (0 : Int32) → l_X6_clear_72 P K90 n M17 x0 (x1 + (1 : Int32)))))
set_option maxHeartbeats 4000000 in
set_option maxRecDepth 100000 in
theorem jl_X6_clear_72 {P : Mm → Prop} {K90 : Mm → Prop} (C : Cx p l s m args meth c cX6_clear 2 RX6 none E) (hkc : kc ≤ rm_X6_clear.cells ∧ ks ≤ rm_X6_clear.slots) (k90 : ∀ M, K90 M → J p l e rm_X6_clear s m args below meth c (QV below E P args s rm_X6_clear.cells rm_X6_clear.slots) E 2 M kc ks 90 [] []) : ∀ n M x0 x1, l_X6_clear_72 P K90 n M x0 x1 → J p l e rm_X6_clear s m args below meth c (QV below E P args s rm_X6_clear.cells rm_X6_clear.slots) E 2 M kc ks 72 [(0, .ref x0), (1, .int x1)] [] := by
  intro n
  induction n with
  | zero => intro M x0 x1 h; exact h.elim
  | succ n ih =>
    intro M x0 x1 h
    rw [l_X6_clear_72] at h
    refine j_iload_n (pc := 72) C 1 dX6_clear_72 rfl ?_
    refine j_iconst (pc := 73) (v := (5 : Int32)) C dX6_clear_73 rfl ?_
    refine j_icmp_ge (pc := 74) C 90 dX6_clear_74 (by decide) h (fun h => ?_) (fun h => ?_)
    · exact j_weak [] rfl (k90 _ h)
    · refine j_aload_n (pc := 77) C 0 dX6_clear_77 rfl ?_
      refine gf_X6_64 (pc := 78) C dX6_clear_78 h (fun a16 h => ?_)
      refine j_iload_n (pc := 81) C 1 dX6_clear_81 rfl ?_
      refine j_iconst (pc := 82) (v := (0 : Int32)) C dX6_clear_82 rfl ?_
      refine n_iast (pc := 83) C dX6_clear_83 h (fun M17 h => ?_)
      refine j_iinc (pc := 84) (v := (1 : Int32)) C 1 [(1, _), (0, _)] dX6_clear_84 rfl rfl (by decide) rfl ?_
      refine j_goto (pc := 87) C 72 dX6_clear_87 (by decide) ?_
      exact j_weak [1, 0] rfl (ih _ _ _ h)
def w_X6_clear (M : Mm) (x0 : Nat) (P : Mm → Prop) : Prop := zk M x0 = 6 ∧ (∀ M1, M1 = sI M x0 1 (0 : Int32) → zk M1 x0 = 6 ∧ ((0 : Int32) = 0 ∨ (0 : Int32) = 1) ∧ (∀ M2, M2 = sI M1 x0 2 (0 : Int32) → (zk M2 x0 = 6 ∧ ∃ a3, zR M2 x0 3 = some a3 ∧ zk M2 a3 = 2 ∧ (∀ M4, M4 = sI M2 a3 1 (0 : Int32) → (zk M4 x0 = 6 ∧ ∃ a5, zR M4 x0 5 = some a5 ∧ zk M4 a5 = 2 ∧ (∀ M6, M6 = sI M4 a5 1 (0 : Int32) → (zk M6 x0 = 6 ∧ ∃ a7, zR M6 x0 11 = some a7 ∧ zk M6 a7 = 2 ∧ (∀ M8, M8 = sI M6 a7 1 (0 : Int32) → (zk M8 x0 = 6 ∧ ∃ a9, zR M8 x0 12 = some a9 ∧ zk M8 a9 = 2 ∧ (∀ M10, M10 = sI M8 a9 1 (0 : Int32) → (∃ n44, l_X6_clear_44 P (fun M15 x0_15 => (∃ n72, l_X6_clear_72 P (fun M18 => P M18) n72 M15 x0_15 (0 : Int32))) n44 M10 x0 (0 : Int32))))))))))))
set_option maxHeartbeats 4000000 in
set_option maxRecDepth 100000 in
theorem c_X6_clear (l : Launch) (E : EV) (M : Mm) (x0 : Nat) (P : Mm → Prop) (h : w_X6_clear M x0 P) : CtV l E yX6_clear cX6_clear 2 rm_X6_clear 0 0 [.ref x0] M P := by
  refine ctV_of (by decide +kernel) (Nat.le_of_ble_eq_true rfl) ?_
  intro p e s m args below meth c C hnm
  rw [w_X6_clear] at h
  show J p l e rm_X6_clear s m args below meth c (QV below E P args s 0 0) E 2 M 0 0 0 [(0, .ref x0)] []
  refine j_aload_n (pc := 0) C 0 dX6_clear_0 rfl ?_
  refine j_iconst (pc := 1) (v := (0 : Int32)) C dX6_clear_1 rfl ?_
  refine pf_X6_70 (pc := 2) C dX6_clear_2 h (fun M1 h => ?_)
  refine j_aload_n (pc := 5) C 0 dX6_clear_5 rfl ?_
  refine j_iconst (pc := 6) (v := (0 : Int32)) C dX6_clear_6 rfl ?_
  refine pf_X6_73 (pc := 7) C dX6_clear_7 h (fun M2 h => ?_)
  refine j_aload_n (pc := 10) C 0 dX6_clear_10 rfl ?_
  refine gf_X6_20 (pc := 11) C dX6_clear_11 h (fun a3 h => ?_)
  refine j_iconst (pc := 14) (v := (0 : Int32)) C dX6_clear_14 rfl ?_
  refine pf_X6_77 (pc := 15) C dX6_clear_15 h (fun M4 h => ?_)
  refine j_aload_n (pc := 18) C 0 dX6_clear_18 rfl ?_
  refine gf_X6_28 (pc := 19) C dX6_clear_19 h (fun a5 h => ?_)
  refine j_iconst (pc := 22) (v := (0 : Int32)) C dX6_clear_22 rfl ?_
  refine pf_X6_77 (pc := 23) C dX6_clear_23 h (fun M6 h => ?_)
  refine j_aload_n (pc := 26) C 0 dX6_clear_26 rfl ?_
  refine gf_X6_46 (pc := 27) C dX6_clear_27 h (fun a7 h => ?_)
  refine j_iconst (pc := 30) (v := (0 : Int32)) C dX6_clear_30 rfl ?_
  refine pf_X6_77 (pc := 31) C dX6_clear_31 h (fun M8 h => ?_)
  refine j_aload_n (pc := 34) C 0 dX6_clear_34 rfl ?_
  refine gf_X6_49 (pc := 35) C dX6_clear_35 h (fun a9 h => ?_)
  refine j_iconst (pc := 38) (v := (0 : Int32)) C dX6_clear_38 rfl ?_
  refine pf_X6_77 (pc := 39) C dX6_clear_39 h (fun M10 h => ?_)
  refine j_iconst (pc := 42) (v := (0 : Int32)) C dX6_clear_42 rfl ?_
  refine j_istore_n (pc := 43) C [(1, _), (0, _)] dX6_clear_43 (by decide) rfl ?_
  obtain ⟨n44, h⟩ := h
  refine j_weak [1, 0] rfl (jl_X6_clear_44 C ⟨Nat.le_of_ble_eq_true rfl, Nat.le_of_ble_eq_true rfl⟩ (fun M15 x0_15 h => ?_) n44 _ _ _ h)
  · refine j_iconst (pc := 70) (v := (0 : Int32)) C dX6_clear_70 rfl ?_
    refine j_istore_n (pc := 71) C [(1, _), (0, _)] dX6_clear_71 (by decide) rfl ?_
    obtain ⟨n72, h⟩ := h
    refine j_weak [1, 0] rfl (jl_X6_clear_72 C ⟨Nat.le_of_ble_eq_true rfl, Nat.le_of_ble_eq_true rfl⟩ (fun M18 h => ?_) n72 _ _ _ h)
    · exact j_vret (pc := 90) C dX6_clear_90 (Nat.le_of_ble_eq_true rfl) (Nat.le_of_ble_eq_true rfl) h
abbrev rm_X6_slotCount : Room := { frames := 0, cells := 0, slots := 0, locals := 0 }
def w_X6_slotCount (M : Mm) (x0 : Nat) (P : Int32 → Mm → Prop) : Prop := zk M x0 = 6 ∧ P ((zI M x0 0) * (3 : Int32)) M
set_option maxHeartbeats 4000000 in
set_option maxRecDepth 100000 in
theorem c_X6_slotCount (l : Launch) (E : EV) (M : Mm) (x0 : Nat) (P : Int32 → Mm → Prop) (h : w_X6_slotCount M x0 P) : CtI l E yX6_slotCount cX6_slotCount 1 .int rm_X6_slotCount 0 0 [.ref x0] M P := by
  refine ctI_of (by decide +kernel) (Nat.le_of_ble_eq_true rfl) ?_
  intro p e s m args below meth c C
  rw [w_X6_slotCount] at h
  show J p l e rm_X6_slotCount s m args below meth c (QI below E P args s 0 0) E 1 M 0 0 0 [(0, .ref x0)] []
  refine j_aload_n (pc := 0) C 0 dX6_slotCount_0 rfl ?_
  refine gf_X6_9 (pc := 1) C dX6_slotCount_1 h (fun h => ?_)
  refine j_iconst (pc := 4) (v := (3 : Int32)) C dX6_slotCount_4 rfl ?_
  refine j_imul (pc := 5) C dX6_slotCount_5 ?_
  exact j_iret (pc := 6) C dX6_slotCount_6 (Nat.le_of_ble_eq_true rfl) (Nat.le_of_ble_eq_true rfl) h
abbrev rm_X6_instrumentOfSeat : Room := { frames := 0, cells := 0, slots := 0, locals := 0 }
def w_X6_instrumentOfSeat (M : Mm) (x0 : Nat) (x1 : Int32) (x2 : Int32) (P : Int32 → Mm → Prop) : Prop := (zk M x0 = 6 ∧ ∃ a1, zR M x0 18 = some a1 ∧ zk M a1 = 10 ∧ vp_in ((x1 * (6 : Int32)) + x2) (zl M a1) ∧ P (zI M a1 ((x1 * (6 : Int32)) + x2).toNatClampNeg) M)
set_option maxHeartbeats 4000000 in
set_option maxRecDepth 100000 in
theorem c_X6_instrumentOfSeat (l : Launch) (E : EV) (M : Mm) (x0 : Nat) (x1 : Int32) (x2 : Int32) (P : Int32 → Mm → Prop) (h : w_X6_instrumentOfSeat M x0 x1 x2 P) : CtI l E yX6_instrumentOfSeat cX6_instrumentOfSeat 3 .int rm_X6_instrumentOfSeat 0 0 [.ref x0, .int x1, .int x2] M P := by
  refine ctI_of (by decide +kernel) (Nat.le_of_ble_eq_true rfl) ?_
  intro p e s m args below meth c C
  rw [w_X6_instrumentOfSeat] at h
  show J p l e rm_X6_instrumentOfSeat s m args below meth c (QI below E P args s 0 0) E 3 M 0 0 0 [(0, .ref x0), (1, .int x1), (2, .int x2)] []
  refine j_aload_n (pc := 0) C 0 dX6_instrumentOfSeat_0 rfl ?_
  refine gf_X6_67 (pc := 1) C dX6_instrumentOfSeat_1 h (fun a1 h => ?_)
  refine j_iload_n (pc := 4) C 1 dX6_instrumentOfSeat_4 rfl ?_
  refine j_bipush (pc := 5) (v := (6 : Int32)) C dX6_instrumentOfSeat_5 rfl ?_
  refine j_imul (pc := 7) C dX6_instrumentOfSeat_7 ?_
  refine j_iload_n (pc := 8) C 2 dX6_instrumentOfSeat_8 rfl ?_
  refine j_iadd (pc := 9) C dX6_instrumentOfSeat_9 ?_
  refine j_iald (pc := 10) C dX6_instrumentOfSeat_10 h (fun h => ?_)
  exact j_iret (pc := 11) C dX6_instrumentOfSeat_11 (Nat.le_of_ble_eq_true rfl) (Nat.le_of_ble_eq_true rfl) h
abbrev rm_X6_addSeat : Room := { frames := 0, cells := 0, slots := 0, locals := 0 }
def w_X6_addSeat (M : Mm) (x0 : Nat) (x1 : Int32) (x2 : Int32) (P : Mm → Prop) : Prop := (zk M x0 = 6 ∧ ∃ a1, zR M x0 18 = some a1 ∧ (zk M x0 = 6 ∧ ∃ a2, zR M x0 17 = some a2 ∧ zk M a2 = 10 ∧ vp_in x1 (zl M a2) ∧ zk M a1 = 10 ∧ vp_in ((x1 * (6 : Int32)) + (zI M a2 x1.toNatClampNeg)) (zl M a1) ∧ (∀ M3, M3 = sI M a1 ((x1 * (6 : Int32)) + (zI M a2 x1.toNatClampNeg)).toNatClampNeg x2 → (zk M3 x0 = 6 ∧ ∃ a4, zR M3 x0 17 = some a4 ∧ zk M3 a4 = 10 ∧ vp_in x1 (zl M3 a4) ∧ zk M3 a4 = 10 ∧ vp_in x1 (zl M3 a4) ∧ (∀ M5, M5 = sI M3 a4 x1.toNatClampNeg ((zI M3 a4 x1.toNatClampNeg) + (1 : Int32)) → P M5)))))
set_option maxHeartbeats 4000000 in
set_option maxRecDepth 100000 in
theorem c_X6_addSeat (l : Launch) (E : EV) (M : Mm) (x0 : Nat) (x1 : Int32) (x2 : Int32) (P : Mm → Prop) (h : w_X6_addSeat M x0 x1 x2 P) : CtV l E yX6_addSeat cX6_addSeat 3 rm_X6_addSeat 0 0 [.ref x0, .int x1, .int x2] M P := by
  refine ctV_of (by decide +kernel) (Nat.le_of_ble_eq_true rfl) ?_
  intro p e s m args below meth c C hnm
  rw [w_X6_addSeat] at h
  show J p l e rm_X6_addSeat s m args below meth c (QV below E P args s 0 0) E 3 M 0 0 0 [(0, .ref x0), (1, .int x1), (2, .int x2)] []
  refine j_aload_n (pc := 0) C 0 dX6_addSeat_0 rfl ?_
  refine gf_X6_67 (pc := 1) C dX6_addSeat_1 h (fun a1 h => ?_)
  refine j_iload_n (pc := 4) C 1 dX6_addSeat_4 rfl ?_
  refine j_bipush (pc := 5) (v := (6 : Int32)) C dX6_addSeat_5 rfl ?_
  refine j_imul (pc := 7) C dX6_addSeat_7 ?_
  refine j_aload_n (pc := 8) C 0 dX6_addSeat_8 rfl ?_
  refine gf_X6_64 (pc := 9) C dX6_addSeat_9 h (fun a2 h => ?_)
  refine j_iload_n (pc := 12) C 1 dX6_addSeat_12 rfl ?_
  refine j_iald (pc := 13) C dX6_addSeat_13 h (fun h => ?_)
  refine j_iadd (pc := 14) C dX6_addSeat_14 ?_
  refine j_iload_n (pc := 15) C 2 dX6_addSeat_15 rfl ?_
  refine n_iast (pc := 16) C dX6_addSeat_16 h (fun M3 h => ?_)
  refine j_aload_n (pc := 17) C 0 dX6_addSeat_17 rfl ?_
  refine gf_X6_64 (pc := 18) C dX6_addSeat_18 h (fun a4 h => ?_)
  refine j_iload_n (pc := 21) C 1 dX6_addSeat_21 rfl ?_
  refine j_dup2 (pc := 22) C dX6_addSeat_22 rfl rfl ?_
  refine j_iald (pc := 23) C dX6_addSeat_23 h (fun h => ?_)
  refine j_iconst (pc := 24) (v := (1 : Int32)) C dX6_addSeat_24 rfl ?_
  refine j_iadd (pc := 25) C dX6_addSeat_25 ?_
  refine n_iast (pc := 26) C dX6_addSeat_26 h (fun M5 h => ?_)
  exact j_vret (pc := 27) C dX6_addSeat_27 (Nat.le_of_ble_eq_true rfl) (Nat.le_of_ble_eq_true rfl) h
abbrev rm_X6_doublingOn : Room := { frames := 0, cells := 0, slots := 0, locals := 0 }
def w_X6_doublingOn (M : Mm) (x0 : Nat) (x1 : Int32) (x2 : Int32) (P : Int32 → Mm → Prop) : Prop := (zk M x0 = 6 ∧ ∃ a1, zR M x0 8 = some a1 ∧ zk M a1 = 10 ∧ vp_in x1 (zl M a1) ∧ (if (zI M a1 x1.toNatClampNeg) = x2 then P (0 : Int32) M else P (1 : Int32) M))
set_option maxHeartbeats 4000000 in
set_option maxRecDepth 100000 in
theorem c_X6_doublingOn (l : Launch) (E : EV) (M : Mm) (x0 : Nat) (x1 : Int32) (x2 : Int32) (P : Int32 → Mm → Prop) (h : w_X6_doublingOn M x0 x1 x2 P) : CtI l E yX6_doublingOn cX6_doublingOn 3 .int rm_X6_doublingOn 0 0 [.ref x0, .int x1, .int x2] M P := by
  refine ctI_of (by decide +kernel) (Nat.le_of_ble_eq_true rfl) ?_
  intro p e s m args below meth c C
  rw [w_X6_doublingOn] at h
  show J p l e rm_X6_doublingOn s m args below meth c (QI below E P args s 0 0) E 3 M 0 0 0 [(0, .ref x0), (1, .int x1), (2, .int x2)] []
  refine j_aload_n (pc := 0) C 0 dX6_doublingOn_0 rfl ?_
  refine gf_X6_37 (pc := 1) C dX6_doublingOn_1 h (fun a1 h => ?_)
  refine j_iload_n (pc := 4) C 1 dX6_doublingOn_4 rfl ?_
  refine j_iald (pc := 5) C dX6_doublingOn_5 h (fun h => ?_)
  refine j_iload_n (pc := 6) C 2 dX6_doublingOn_6 rfl ?_
  refine j_icmp_ne (pc := 7) C 14 dX6_doublingOn_7 (by decide) h (fun h => ?_) (fun h => ?_)
  · refine j_iconst (pc := 14) (v := (1 : Int32)) C dX6_doublingOn_14 rfl ?_
    exact j_iret (pc := 15) C dX6_doublingOn_15 (Nat.le_of_ble_eq_true rfl) (Nat.le_of_ble_eq_true rfl) h
  · refine j_iconst (pc := 10) (v := (0 : Int32)) C dX6_doublingOn_10 rfl ?_
    refine j_goto (pc := 11) C 15 dX6_doublingOn_11 (by decide) ?_
    exact j_iret (pc := 15) C dX6_doublingOn_15 (Nat.le_of_ble_eq_true rfl) (Nat.le_of_ble_eq_true rfl) h
end GW2
