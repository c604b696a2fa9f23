/-! written by a program (wip/p34/gen.py) out of the decode rows and the tables: walks of X7 -/

section GW17
variable {p : Program} {l : Launch} {e : Env} {R : Room} {s : State} {m : MethodId} {args : Array Value} {below : List Frame} {meth : Method} {c : Code} {Q : State → Prop} {cc : ByteArray} {nL : Nat} {ret : Option FieldType} {E : EV} {M : Mm} {kc ks pc : Nat} {lo : List (Nat × Value)} {st : List Value}
theorem cs_X7_15 (C : Cx p l s m args meth c cc nL RX7 ret E) {b : Nat} {P : Mm → Prop} (hR : rm_X0_init.frames + 1 ≤ R.frames ∧ 8 + (1 + 11) + rm_X0_init.locals ≤ R.locals) (hf : kc + 3 ≤ R.cells ∧ ks + 518 ≤ R.slots) (hst : (st.map fun v => v.category).sum ≤ 8) (d : decode cc pc = .ok (.invokespecial 15, 3)) (h : w_X0_init M b P) (kk : ∀ M', P M' → J p l e R s m args below meth c Q E nL M' (kc + 3) (ks + 518) (pc + 3) lo st) : J p l e R s m args below meth c Q E nL M kc ks pc lo (.ref b :: st) :=
  j_cIN_V (n := 0) (As := []) C rfl wd_77 (c_X0_init l E M b P h) ⟨wd_78, nw_76, wd_41, by decide +kernel, by decide +kernel, by decide +kernel⟩ rfl rfl hR hf rfl hst d kk
theorem cs_X7_22 (C : Cx p l s m args meth c cc nL RX7 ret E) {b : Nat} {P : Mm → Prop} (hR : rm_X4_init.frames + 1 ≤ R.frames ∧ 8 + (1 + 11) + rm_X4_init.locals ≤ R.locals) (hf : kc + 6 ≤ R.cells ∧ ks + 688 ≤ R.slots) (hst : (st.map fun v => v.category).sum ≤ 8) (d : decode cc pc = .ok (.invokespecial 22, 3)) (h : w_X4_init M b P) (kk : ∀ M', P M' → J p l e R s m args below meth c Q E nL M' (kc + 6) (ks + 688) (pc + 3) lo st) : J p l e R s m args below meth c Q E nL M kc ks pc lo (.ref b :: st) :=
  j_cIN_V (n := 0) (As := []) C rfl wd_96 (c_X4_init l E M b P h) ⟨wd_97, nw_95, wd_42, by decide +kernel, by decide +kernel, by decide +kernel⟩ rfl rfl hR hf rfl hst d kk
theorem cs_X7_47 (C : Cx p l s m args meth c cc nL RX7 ret E) {b : Nat} {P : Mm → Prop} (hR : rm_X6_init.frames + 1 ≤ R.frames ∧ 8 + (1 + 11) + rm_X6_init.locals ≤ R.locals) (hf : kc + 20 ≤ R.cells ∧ ks + 138 ≤ R.slots) (hst : (st.map fun v => v.category).sum ≤ 8) (d : decode cc pc = .ok (.invokespecial 47, 3)) (h : w_X6_init M b P) (kk : ∀ M', P M' → J p l e R s m args below meth c Q E nL M' (kc + 20) (ks + 138) (pc + 3) lo st) : J p l e R s m args below meth c Q E nL M kc ks pc lo (.ref b :: st) :=
  j_cIN_V (n := 0) (As := []) C rfl wd_134 (c_X6_init l E M b P h) ⟨wd_135, nw_133, wd_43, by decide +kernel, by decide +kernel, by decide +kernel⟩ rfl rfl hR hf rfl hst d kk
abbrev rm_X7_init : Room := { frames := 3, cells := 162, slots := 12569, locals := 61 }
def l_X7_init_99 (P : Mm → Prop) (K124 : Mm → Nat → Prop) : Nat → Mm → Nat → Int32 → Prop
  | 0, _, _, _ => False
  | n + 1, M, x0, x1 => (if (10 : Int32) ≤ x1 then K124 M x0 else (zk M x0 = 7 ∧ ∃ a25, zR M x0 4 = some a25 ∧ (∀ a26 M26, a26 = zn M → M26 = sN M 4 0 → w_X4_init M26 a26 (fun M27 => zk M27 a25 = 13 ∧ zk M27 a26 = 4 ∧ vp_in x1 (zl M27 a25) ∧ (∀ M28, M28 = sR M27 a25 x1.toNatClampNeg (some a26) → l_X7_init_99 P K124 n M28 x0 (x1 + (1 : Int32)))))))
set_option maxHeartbeats 4000000 in
set_option maxRecDepth 100000 in
theorem jl_X7_init_99 (kB sB : Nat) {P : Mm → Prop} {K124 : Mm → Nat → Prop} (C : Cx p l s m args meth c cX7_init 2 RX7 none E) (hnm : meth.name = "<init>") (hkc : kB ≤ rm_X7_init.cells ∧ sB ≤ rm_X7_init.slots) (k124 : ∀ M x0, K124 M x0 → J p l e rm_X7_init s m args below meth c (QV below E P args s rm_X7_init.cells rm_X7_init.slots) E 2 M kB sB 124 [(0, .ref x0)] []) : ∀ n kc ks M x0 x1, kc + n * 7 ≤ kB → ks + n * 695 ≤ sB → l_X7_init_99 P K124 n M x0 x1 → J p l e rm_X7_init s m args below meth c (QV below E P args s rm_X7_init.cells rm_X7_init.slots) E 2 M kc ks 99 [(0, .ref x0), (1, .int x1)] [] := by
  intro n
  induction n with
  | zero => intro kc ks M x0 x1 b1 b2 h; exact h.elim
  | succ n ih =>
    intro kc ks M x0 x1 b1 b2 h
    rw [l_X7_init_99] at h
    refine j_iload_n (pc := 99) C 1 dX7_init_99 rfl ?_
    refine j_bipush (pc := 100) (v := (10 : Int32)) C dX7_init_100 rfl ?_
    refine j_icmp_ge (pc := 102) C 124 dX7_init_102 (by decide) h (fun h => ?_) (fun h => ?_)
    · exact j_widen (show kc + 0 ≤ kB by omega) (show ks + 0 ≤ sB by omega) (j_weak [0] rfl (k124 _ _ h))
    · refine j_aload_n (pc := 105) C 0 dX7_init_105 rfl ?_
      refine gf_X7_30 (pc := 106) C dX7_init_106 h (fun a25 h => ?_)
      refine j_iload_n (pc := 109) C 1 dX7_init_109 rfl ?_
      refine n_new (pc := 110) C co_X4 df_X4 wd_93 wd_94 wd_42 dX7_init_110 (Nat.le_trans (show kc + 1 ≤ kB by omega) hkc.1) (Nat.le_trans (show ks + 7 ≤ sB by omega) hkc.2) h (fun a26 M26 h => ?_)
      refine j_dup (pc := 113) C dX7_init_113 rfl ?_
      refine cs_X7_22 (pc := 114) C ⟨Nat.le_of_ble_eq_true rfl, Nat.le_of_ble_eq_true rfl⟩ ⟨Nat.le_trans (show kc + 7 ≤ kB by omega) hkc.1, Nat.le_trans (show ks + 695 ≤ sB by omega) hkc.2⟩ (Nat.le_of_ble_eq_true rfl) dX7_init_114 h (fun M27 h => ?_)
      refine n_aast (pc := 117) C dX7_init_117 h (fun M28 h => ?_)
      refine j_iinc (pc := 118) (v := (1 : Int32)) C 1 [(1, _), (0, _)] dX7_init_118 rfl rfl (by decide) rfl ?_
      refine j_goto (pc := 121) C 99 dX7_init_121 (by decide) ?_
      exact j_widen (show kc + 7 ≤ kc + 7 by omega) (show ks + 695 ≤ ks + 695 by omega) (j_weak [1, 0] rfl (ih (kc + 7) (ks + 695) _ _ _ (by omega) (by omega) h))
def l_X7_init_126 (P : Mm → Prop) (K150 : Mm → Prop) : Nat → Mm → Nat → Int32 → Prop
  | 0, _, _, _ => False
  | n + 1, M, x0, x1 => (if (2 : Int32) ≤ x1 then K150 M else (zk M x0 = 7 ∧ ∃ a30, zR M x0 5 = some a30 ∧ (∀ a31 M31, a31 = zn M → M31 = sN M 4 0 → w_X4_init M31 a31 (fun M32 => zk M32 a30 = 13 ∧ zk M32 a31 = 4 ∧ vp_in x1 (zl M32 a30) ∧ (∀ M33, M33 = sR M32 a30 x1.toNatClampNeg (some a31) → l_X7_init_126 P K150 n M33 x0 (x1 + (1 : Int32)))))))
set_option maxHeartbeats 4000000 in
set_option maxRecDepth 100000 in
theorem jl_X7_init_126 (kB sB : Nat) {P : Mm → Prop} {K150 : Mm → Prop} (C : Cx p l s m args meth c cX7_init 2 RX7 none E) (hnm : meth.name = "<init>") (hkc : kB ≤ rm_X7_init.cells ∧ sB ≤ rm_X7_init.slots) (k150 : ∀ M, K150 M → J p l e rm_X7_init s m args below meth c (QV below E P args s rm_X7_init.cells rm_X7_init.slots) E 2 M kB sB 150 [] []) : ∀ n kc ks M x0 x1, kc + n * 7 ≤ kB → ks + n * 695 ≤ sB → l_X7_init_126 P K150 n M x0 x1 → J p l e rm_X7_init s m args below meth c (QV below E P args s rm_X7_init.cells rm_X7_init.slots) E 2 M kc ks 126 [(0, .ref x0), (1, .int x1)] [] := by
  intro n
  induction n with
  | zero => intro kc ks M x0 x1 b1 b2 h; exact h.elim
  | succ n ih =>
    intro kc ks M x0 x1 b1 b2 h
    rw [l_X7_init_126] at h
    refine j_iload_n (pc := 126) C 1 dX7_init_126 rfl ?_
    refine j_iconst (pc := 127) (v := (2 : Int32)) C dX7_init_127 rfl ?_
    refine j_icmp_ge (pc := 128) C 150 dX7_init_128 (by decide) h (fun h => ?_) (fun h => ?_)
    · exact j_widen (show kc + 0 ≤ kB by omega) (show ks + 0 ≤ sB by omega) (j_weak [] rfl (k150 _ h))
    · refine j_aload_n (pc := 131) C 0 dX7_init_131 rfl ?_
      refine gf_X7_34 (pc := 132) C dX7_init_132 h (fun a30 h => ?_)
      refine j_iload_n (pc := 135) C 1 dX7_init_135 rfl ?_
      refine n_new (pc := 136) C co_X4 df_X4 wd_93 wd_94 wd_42 dX7_init_136 (Nat.le_trans (show kc + 1 ≤ kB by omega) hkc.1) (Nat.le_trans (show ks + 7 ≤ sB by omega) hkc.2) h (fun a31 M31 h => ?_)
      refine j_dup (pc := 139) C dX7_init_139 rfl ?_
      refine cs_X7_22 (pc := 140) C ⟨Nat.le_of_ble_eq_true rfl, Nat.le_of_ble_eq_true rfl⟩ ⟨Nat.le_trans (show kc + 7 ≤ kB by omega) hkc.1, Nat.le_trans (show ks + 695 ≤ sB by omega) hkc.2⟩ (Nat.le_of_ble_eq_true rfl) dX7_init_140 h (fun M32 h => ?_)
      refine n_aast (pc := 143) C dX7_init_143 h (fun M33 h => ?_)
      refine j_iinc (pc := 144) (v := (1 : Int32)) C 1 [(1, _), (0, _)] dX7_init_144 rfl rfl (by decide) rfl ?_
      refine j_goto (pc := 147) C 126 dX7_init_147 (by decide) ?_
      exact j_widen (show kc + 7 ≤ kc + 7 by omega) (show ks + 695 ≤ ks + 695 by omega) (j_weak [1, 0] rfl (ih (kc + 7) (ks + 695) _ _ _ (by omega) (by omega) h))
def w_X7_init (M : Mm) (x0 : Nat) (P : Mm → Prop) : Prop := ¬ (600 : Int32) < 0 ∧ (600 : Int32).toNatClampNeg ≤ 600 ∧ (∀ a1 M1, a1 = zn M → M1 = sN M 9 (600 : Int32).toNatClampNeg → zk M1 x0 = 7 ∧ (∀ M2, M2 = sR M1 x0 0 (some a1) → (∀ a3 M3, a3 = zn M2 → M3 = sN M2 1 0 → w_X0_init M3 a3 (fun M4 => zk M4 x0 = 7 ∧ (∀ M5, M5 = sR M4 x0 1 (some a3) → (∀ a6 M6, a6 = zn M5 → M6 = sN M5 4 0 → w_X4_init M6 a6 (fun M7 => zk M7 x0 = 7 ∧ (∀ M8, M8 = sR M7 x0 2 (some a6) → (∀ a9 M9, a9 = zn M8 → M9 = sN M8 4 0 → w_X4_init M9 a9 (fun M10 => zk M10 x0 = 7 ∧ (∀ M11, M11 = sR M10 x0 3 (some a9) → ¬ (10 : Int32) < 0 ∧ (10 : Int32).toNatClampNeg ≤ 10 ∧ (∀ a12 M12, a12 = zn M11 → M12 = sN M11 13 (10 : Int32).toNatClampNeg → zk M12 x0 = 7 ∧ (∀ M13, M13 = sR M12 x0 4 (some a12) → ¬ (2 : Int32) < 0 ∧ (2 : Int32).toNatClampNeg ≤ 2 ∧ (∀ a14 M14, a14 = zn M13 → M14 = sN M13 13 (2 : Int32).toNatClampNeg → zk M14 x0 = 7 ∧ (∀ M15, M15 = sR M14 x0 5 (some a14) → ¬ (2 : Int32) < 0 ∧ (2 : Int32).toNatClampNeg ≤ 2 ∧ (∀ a16 M16, a16 = zn M15 → M16 = sN M15 12 (2 : Int32).toNatClampNeg → zk M16 x0 = 7 ∧ (∀ M17, M17 = sR M16 x0 6 (some a16) → zk M17 x0 = 7 ∧ (∀ M18, M18 = sI M17 x0 8 (-1 : Int32) → (∀ a19 M19, a19 = zn M18 → M19 = sN M18 6 0 → w_X6_init M19 a19 (fun M20 => zk M20 x0 = 7 ∧ (∀ M21, M21 = sR M20 x0 10 (some a19) → (∀ a22 M22, a22 = zn M21 → M22 = sN M21 6 0 → w_X6_init M22 a22 (fun M23 => zk M23 x0 = 7 ∧ (∀ M24, M24 = sR M23 x0 11 (some a22) → (∃ n99, n99 ≤ 11 ∧ l_X7_init_99 P (fun M29 x0_29 => (∃ n126, n126 ≤ 3 ∧ l_X7_init_126 P (fun M34 => P M34) n126 M29 x0_29 (0 : Int32))) n99 M24 x0 (0 : Int32))))))))))))))))))))))))))
set_option maxHeartbeats 4000000 in
set_option maxRecDepth 100000 in
theorem c_X7_init (l : Launch) (E : EV) (M : Mm) (x0 : Nat) (P : Mm → Prop) (h : w_X7_init M x0 P) : CtV l E yX7_init cX7_init 2 rm_X7_init 162 12569 [.ref x0] M P := by
  refine ctV_of (by decide +kernel) (Nat.le_of_ble_eq_true rfl) ?_
  intro p e s m args below meth c C hnm
  rw [w_X7_init] at h
  show J p l e rm_X7_init s m args below meth c (QV below E P args s 162 12569) E 2 M 0 0 0 [(0, .ref x0)] []
  refine j_aload_n (pc := 0) C 0 dX7_init_0 rfl ?_
  refine j_objInit (pc := 1) C wd_71 wd_72 wd_73 dX7_init_1 (Nat.le_of_ble_eq_true rfl) (Nat.le_of_ble_eq_true rfl) ?_
  refine j_aload_n (pc := 4) C 0 dX7_init_4 rfl ?_
  refine j_sipush (pc := 5) (v := (600 : Int32)) C dX7_init_5 rfl ?_
  refine n_newb (pc := 8) C 600 wd_91 dX7_init_8 (Nat.le_of_ble_eq_true rfl) (Nat.le_of_ble_eq_true rfl) (Nat.le_of_ble_eq_true rfl) h (fun a1 M1 h => ?_)
  refine pf_X7_9 (pc := 10) C hnm dX7_init_10 h (fun M2 h => ?_)
  refine j_aload_n (pc := 13) C 0 dX7_init_13 rfl ?_
  refine n_new (pc := 14) C co_X0 df_X0 wd_74 wd_75 wd_41 dX7_init_14 (Nat.le_of_ble_eq_true rfl) (Nat.le_of_ble_eq_true rfl) h (fun a3 M3 h => ?_)
  refine j_dup (pc := 17) C dX7_init_17 rfl ?_
  refine cs_X7_15 (pc := 18) C ⟨Nat.le_of_ble_eq_true rfl, Nat.le_of_ble_eq_true rfl⟩ ⟨Nat.le_of_ble_eq_true rfl, Nat.le_of_ble_eq_true rfl⟩ (Nat.le_of_ble_eq_true rfl) dX7_init_18 h (fun M4 h => ?_)
  refine pf_X7_16 (pc := 21) C hnm dX7_init_21 h (fun M5 h => ?_)
  refine j_aload_n (pc := 24) C 0 dX7_init_24 rfl ?_
  refine n_new (pc := 25) C co_X4 df_X4 wd_93 wd_94 wd_42 dX7_init_25 (Nat.le_of_ble_eq_true rfl) (Nat.le_of_ble_eq_true rfl) h (fun a6 M6 h => ?_)
  refine j_dup (pc := 28) C dX7_init_28 rfl ?_
  refine cs_X7_22 (pc := 29) C ⟨Nat.le_of_ble_eq_true rfl, Nat.le_of_ble_eq_true rfl⟩ ⟨Nat.le_of_ble_eq_true rfl, Nat.le_of_ble_eq_true rfl⟩ (Nat.le_of_ble_eq_true rfl) dX7_init_29 h (fun M7 h => ?_)
  refine pf_X7_23 (pc := 32) C hnm dX7_init_32 h (fun M8 h => ?_)
  refine j_aload_n (pc := 35) C 0 dX7_init_35 rfl ?_
  refine n_new (pc := 36) C co_X4 df_X4 wd_93 wd_94 wd_42 dX7_init_36 (Nat.le_of_ble_eq_true rfl) (Nat.le_of_ble_eq_true rfl) h (fun a9 M9 h => ?_)
  refine j_dup (pc := 39) C dX7_init_39 rfl ?_
  refine cs_X7_22 (pc := 40) C ⟨Nat.le_of_ble_eq_true rfl, Nat.le_of_ble_eq_true rfl⟩ ⟨Nat.le_of_ble_eq_true rfl, Nat.le_of_ble_eq_true rfl⟩ (Nat.le_of_ble_eq_true rfl) dX7_init_40 h (fun M10 h => ?_)
  refine pf_X7_27 (pc := 43) C hnm dX7_init_43 h (fun M11 h => ?_)
  refine j_aload_n (pc := 46) C 0 dX7_init_46 rfl ?_
  refine j_bipush (pc := 47) (v := (10 : Int32)) C dX7_init_47 rfl ?_
  refine n_newq (pc := 49) C 10 wd_93 dX7_init_49 (Nat.le_of_ble_eq_true rfl) (Nat.le_of_ble_eq_true rfl) (Nat.le_of_ble_eq_true rfl) h (fun a12 M12 h => ?_)
  refine pf_X7_30 (pc := 52) C hnm dX7_init_52 h (fun M13 h => ?_)
  refine j_aload_n (pc := 55) C 0 dX7_init_55 rfl ?_
  refine j_iconst (pc := 56) (v := (2 : Int32)) C dX7_init_56 rfl ?_
  refine n_newq (pc := 57) C 2 wd_93 dX7_init_57 (Nat.le_of_ble_eq_true rfl) (Nat.le_of_ble_eq_true rfl) (Nat.le_of_ble_eq_true rfl) h (fun a14 M14 h => ?_)
  refine pf_X7_34 (pc := 60) C hnm dX7_init_60 h (fun M15 h => ?_)
  refine j_aload_n (pc := 63) C 0 dX7_init_63 rfl ?_
  refine j_iconst (pc := 64) (v := (2 : Int32)) C dX7_init_64 rfl ?_
  refine n_newz (pc := 65) C 2 wd_155 dX7_init_65 (Nat.le_of_ble_eq_true rfl) (Nat.le_of_ble_eq_true rfl) (Nat.le_of_ble_eq_true rfl) h (fun a16 M16 h => ?_)
  refine pf_X7_37 (pc := 67) C hnm dX7_init_67 h (fun M17 h => ?_)
  refine j_aload_n (pc := 70) C 0 dX7_init_70 rfl ?_
  refine j_iconst (pc := 71) (v := (-1 : Int32)) C dX7_init_71 rfl ?_
  refine pf_X7_41 (pc := 72) C dX7_init_72 h (fun M18 h => ?_)
  refine j_aload_n (pc := 75) C 0 dX7_init_75 rfl ?_
  refine n_new (pc := 76) C co_X6 df_X6 wd_131 wd_132 wd_43 dX7_init_76 (Nat.le_of_ble_eq_true rfl) (Nat.le_of_ble_eq_true rfl) h (fun a19 M19 h => ?_)
  refine j_dup (pc := 79) C dX7_init_79 rfl ?_
  refine cs_X7_47 (pc := 80) C ⟨Nat.le_of_ble_eq_true rfl, Nat.le_of_ble_eq_true rfl⟩ ⟨Nat.le_of_ble_eq_true rfl, Nat.le_of_ble_eq_true rfl⟩ (Nat.le_of_ble_eq_true rfl) dX7_init_80 h (fun M20 h => ?_)
  refine pf_X7_48 (pc := 83) C dX7_init_83 h (fun M21 h => ?_)
  refine j_aload_n (pc := 86) C 0 dX7_init_86 rfl ?_
  refine n_new (pc := 87) C co_X6 df_X6 wd_131 wd_132 wd_43 dX7_init_87 (Nat.le_of_ble_eq_true rfl) (Nat.le_of_ble_eq_true rfl) h (fun a22 M22 h => ?_)
  refine j_dup (pc := 90) C dX7_init_90 rfl ?_
  refine cs_X7_47 (pc := 91) C ⟨Nat.le_of_ble_eq_true rfl, Nat.le_of_ble_eq_true rfl⟩ ⟨Nat.le_of_ble_eq_true rfl, Nat.le_of_ble_eq_true rfl⟩ (Nat.le_of_ble_eq_true rfl) dX7_init_91 h (fun M23 h => ?_)
  refine pf_X7_52 (pc := 94) C dX7_init_94 h (fun M24 h => ?_)
  refine j_iconst (pc := 97) (v := (0 : Int32)) C dX7_init_97 rfl ?_
  refine j_istore_n (pc := 98) C [(1, _), (0, _)] dX7_init_98 (by decide) rfl ?_
  obtain ⟨n99, hn99, h⟩ := h
  refine j_weak [1, 0] rfl (jl_X7_init_99 141 10484 C hnm ⟨Nat.le_of_ble_eq_true rfl, Nat.le_of_ble_eq_true rfl⟩ (fun M29 x0_29 h => ?_) n99 64 2839 _ _ _ (by omega) (by omega) h)
  · refine j_iconst (pc := 124) (v := (0 : Int32)) C dX7_init_124 rfl ?_
    refine j_istore_n (pc := 125) C [(1, _), (0, _)] dX7_init_125 (by decide) rfl ?_
    obtain ⟨n126, hn126, h⟩ := h
    refine j_weak [1, 0] rfl (jl_X7_init_126 162 12569 C hnm ⟨Nat.le_of_ble_eq_true rfl, Nat.le_of_ble_eq_true rfl⟩ (fun M34 h => ?_) n126 141 10484 _ _ _ (by omega) (by omega) h)
    · exact j_vret (pc := 150) C dX7_init_150 (Nat.le_of_ble_eq_true rfl) (Nat.le_of_ble_eq_true rfl) h
abbrev rm_X7_appendFour : Room := { frames := 0, cells := 0, slots := 0, locals := 0 }
def l_X7_appendFour_3 (P : Mm → Prop) (K36 : Mm → Prop) : Nat → Mm → Nat → Int32 → Int32 → Prop
  | 0, _, _, _, _ => False
  | n + 1, M, x0, x1, x2 => (if x2 < 0 then K36 M else (zk M x0 = 7 ∧ ∃ a1, zR M x0 0 = some a1 ∧ zk M x0 = 7 ∧ zk M a1 = 9 ∧ vp_in (zI M x0 7) (zl M a1) ∧ (∀ M2, M2 = sI M a1 (zI M x0 7).toNatClampNeg (vp_nar .byte (x1 >>> (x2 &&& 31)).toInt8.toInt32) → zk M2 x0 = 7 ∧ zk M2 x0 = 7 ∧ (∀ M3, M3 = sI M2 x0 7 ((zI M2 x0 7) + (1 : Int32)) → l_X7_appendFour_3 P K36 n M3 x0 x1 (x2 + (-8 : Int32))))))
set_option maxHeartbeats 4000000 in
set_option maxRecDepth 100000 in
theorem jl_X7_appendFour_3 {P : Mm → Prop} {K36 : Mm → Prop} (C : Cx p l s m args meth c cX7_appendFour 3 RX7 none E) (hkc : kc ≤ rm_X7_appendFour.cells ∧ ks ≤ rm_X7_appendFour.slots) (k36 : ∀ M, K36 M → J p l e rm_X7_appendFour s m args below meth c (QV below E P args s rm_X7_appendFour.cells rm_X7_appendFour.slots) E 3 M kc ks 36 [] []) : ∀ n M x0 x1 x2, l_X7_appendFour_3 P K36 n M x0 x1 x2 → J p l e rm_X7_appendFour s m args below meth c (QV below E P args s rm_X7_appendFour.cells rm_X7_appendFour.slots) E 3 M kc ks 3 [(0, .ref x0), (1, .int x1), (2, .int x2)] [] := by
  intro n
  induction n with
  | zero => intro M x0 x1 x2 h; exact h.elim
  | succ n ih =>
    intro M x0 x1 x2 h
    rw [l_X7_appendFour_3] at h
    refine j_iload_n (pc := 3) C 2 dX7_appendFour_3 rfl ?_
    refine j_if_lt (pc := 4) C 36 dX7_appendFour_4 (by decide) h (fun h => ?_) (fun h => ?_)
    · exact j_weak [] rfl (k36 _ h)
    · refine j_aload_n (pc := 7) C 0 dX7_appendFour_7 rfl ?_
      refine gf_X7_9 (pc := 8) C dX7_appendFour_8 h (fun a1 h => ?_)
      refine j_aload_n (pc := 11) C 0 dX7_appendFour_11 rfl ?_
      refine gf_X7_55 (pc := 12) C dX7_appendFour_12 h (fun h => ?_)
      refine j_iload_n (pc := 15) C 1 dX7_appendFour_15 rfl ?_
      refine j_iload_n (pc := 16) C 2 dX7_appendFour_16 rfl ?_
      refine j_ishr (pc := 17) C dX7_appendFour_17 ?_
      refine j_i2b (pc := 18) C dX7_appendFour_18 ?_
      refine n_bast (pc := 19) C dX7_appendFour_19 h (fun M2 h => ?_)
      refine j_aload_n (pc := 20) C 0 dX7_appendFour_20 rfl ?_
      refine j_dup (pc := 21) C dX7_appendFour_21 rfl ?_
      refine gf_X7_55 (pc := 22) C dX7_appendFour_22 h (fun h => ?_)
      refine j_iconst (pc := 25) (v := (1 : Int32)) C dX7_appendFour_25 rfl ?_
      refine j_iadd (pc := 26) C dX7_appendFour_26 ?_
      refine pf_X7_55 (pc := 27) C dX7_appendFour_27 h (fun M3 h => ?_)
      refine j_iinc (pc := 30) (v := (-8 : Int32)) C 2 [(2, _), (0, _), (1, _)] dX7_appendFour_30 rfl rfl (by decide) rfl ?_
      refine j_goto (pc := 33) C 3 dX7_appendFour_33 (by decide) ?_
      exact j_weak [1, 2, 0] rfl (ih _ _ _ _ h)
def w_X7_appendFour (M : Mm) (x0 : Nat) (x1 : Int32) (P : Mm → Prop) : Prop := (∃ n3, l_X7_appendFour_3 P (fun M4 => P M4) n3 M x0 x1 (24 : Int32))
set_option maxHeartbeats 4000000 in
set_option maxRecDepth 100000 in
theorem c_X7_appendFour (l : Launch) (E : EV) (M : Mm) (x0 : Nat) (x1 : Int32) (P : Mm → Prop) (h : w_X7_appendFour M x0 x1 P) : CtV l E yX7_appendFour cX7_appendFour 3 rm_X7_appendFour 0 0 [.ref x0, .int x1] M P := by
  refine ctV_of (by decide +kernel) (Nat.le_of_ble_eq_true rfl) ?_
  intro p e s m args below meth c C hnm
  rw [w_X7_appendFour] at h
  show J p l e rm_X7_appendFour s m args below meth c (QV below E P args s 0 0) E 3 M 0 0 0 [(0, .ref x0), (1, .int x1)] []
  refine j_bipush (pc := 0) (v := (24 : Int32)) C dX7_appendFour_0 rfl ?_
  refine j_istore_n (pc := 2) C [(2, _), (0, _), (1, _)] dX7_appendFour_2 (by decide) rfl ?_
  obtain ⟨n3, h⟩ := h
  refine j_weak [1, 2, 0] rfl (jl_X7_appendFour_3 C ⟨Nat.le_of_ble_eq_true rfl, Nat.le_of_ble_eq_true rfl⟩ (fun M4 h => ?_) n3 _ _ _ _ h)
  · exact j_vret (pc := 36) C dX7_appendFour_36 (Nat.le_of_ble_eq_true rfl) (Nat.le_of_ble_eq_true rfl) h
theorem cs_X7_58 (C : Cx p l s m args meth c cc nL RX7 ret E) {b : Nat} {y0 : Int32} {P : Mm → Prop} (hR : rm_X7_appendFour.frames + 1 ≤ R.frames ∧ 8 + (3 + 11) + rm_X7_appendFour.locals ≤ R.locals) (hf : kc ≤ R.cells ∧ ks ≤ R.slots) (hst : (st.map fun v => v.category).sum ≤ 8) (d : decode cc pc = .ok (.invokevirtual 58, 3)) (h : zk M b = 7 ∧ w_X7_appendFour M b y0 P) (kk : ∀ M', P M' → J p l e R s m args below meth c Q E nL M' kc ks (pc + 3) lo st) : J p l e R s m args below meth c Q E nL M kc ks pc lo (.int y0 :: .ref b :: st) :=
  j_cV_V (n := 1) (As := [.int y0]) C co_X7 rfl wd_692 wd_0 h.1 (c_X7_appendFour l E M b y0 P h.2) ⟨wd_693, wd_690, wd_40, by decide +kernel, by decide +kernel, by decide +kernel⟩ rfl rfl hR hf rfl hst d kk
abbrev rm_X7_append : Room := { frames := 1, cells := 0, slots := 0, locals := 22 }
def w_X7_append (M : Mm) (x0 : Nat) (x1 : Int32) (x2 : Int32) (x3 : Int32) (x4 : Int32) (x5 : Int32) (P : Int32 → Mm → Prop) : Prop := zk M x0 = 7 ∧ (if (zI M x0 7) ≤ (580 : Int32) then zk M x0 = 7 ∧ w_X7_appendFour M x0 x1 (fun M1 => zk M1 x0 = 7 ∧ w_X7_appendFour M1 x0 x2 (fun M2 => zk M2 x0 = 7 ∧ w_X7_appendFour M2 x0 x3 (fun M3 => zk M3 x0 = 7 ∧ w_X7_appendFour M3 x0 x4 (fun M4 => zk M4 x0 = 7 ∧ w_X7_appendFour M4 x0 x5 (fun M5 => zk M5 x0 = 7 ∧ P (zI M5 x0 7) M5))))) else P (-1 : Int32) M)
set_option maxHeartbeats 4000000 in
set_option maxRecDepth 100000 in
theorem c_X7_append (l : Launch) (E : EV) (M : Mm) (x0 : Nat) (x1 : Int32) (x2 : Int32) (x3 : Int32) (x4 : Int32) (x5 : Int32) (P : Int32 → Mm → Prop) (h : w_X7_append M x0 x1 x2 x3 x4 x5 P) : CtI l E yX7_append cX7_append 6 .int rm_X7_append 0 0 [.ref x0, .int x1, .int x2, .int x3, .int x4, .int x5] M P := by
  refine ctI_of (by decide +kernel) (Nat.le_of_ble_eq_true rfl) ?_
  intro p e s m args below meth c C
  rw [w_X7_append] at h
  show J p l e rm_X7_append s m args below meth c (QI below E P args s 0 0) E 6 M 0 0 0 [(0, .ref x0), (1, .int x1), (2, .int x2), (3, .int x3), (4, .int x4), (5, .int x5)] []
  refine j_aload_n (pc := 0) C 0 dX7_append_0 rfl ?_
  refine gf_X7_55 (pc := 1) C dX7_append_1 h (fun h => ?_)
  refine j_sipush (pc := 4) (v := (580 : Int32)) C dX7_append_4 rfl ?_
  refine j_icmp_le (pc := 7) C 12 dX7_append_7 (by decide) h (fun h => ?_) (fun h => ?_)
  · refine j_aload_n (pc := 12) C 0 dX7_append_12 rfl ?_
    refine j_iload_n (pc := 13) C 1 dX7_append_13 rfl ?_
    refine cs_X7_58 (pc := 14) C ⟨Nat.le_of_ble_eq_true rfl, Nat.le_of_ble_eq_true rfl⟩ ⟨Nat.le_of_ble_eq_true rfl, Nat.le_of_ble_eq_true rfl⟩ (Nat.le_of_ble_eq_true rfl) dX7_append_14 h (fun M1 h => ?_)
    refine j_aload_n (pc := 17) C 0 dX7_append_17 rfl ?_
    refine j_iload_n (pc := 18) C 2 dX7_append_18 rfl ?_
    refine cs_X7_58 (pc := 19) C ⟨Nat.le_of_ble_eq_true rfl, Nat.le_of_ble_eq_true rfl⟩ ⟨Nat.le_of_ble_eq_true rfl, Nat.le_of_ble_eq_true rfl⟩ (Nat.le_of_ble_eq_true rfl) dX7_append_19 h (fun M2 h => ?_)
    refine j_aload_n (pc := 22) C 0 dX7_append_22 rfl ?_
    refine j_iload_n (pc := 23) C 3 dX7_append_23 rfl ?_
    refine cs_X7_58 (pc := 24) C ⟨Nat.le_of_ble_eq_true rfl, Nat.le_of_ble_eq_true rfl⟩ ⟨Nat.le_of_ble_eq_true rfl, Nat.le_of_ble_eq_true rfl⟩ (Nat.le_of_ble_eq_true rfl) dX7_append_24 h (fun M3 h => ?_)
    refine j_aload_n (pc := 27) C 0 dX7_append_27 rfl ?_
    refine j_iload (pc := 28) C 4 dX7_append_28 rfl ?_
    refine cs_X7_58 (pc := 30) C ⟨Nat.le_of_ble_eq_true rfl, Nat.le_of_ble_eq_true rfl⟩ ⟨Nat.le_of_ble_eq_true rfl, Nat.le_of_ble_eq_true rfl⟩ (Nat.le_of_ble_eq_true rfl) dX7_append_30 h (fun M4 h => ?_)
    refine j_aload_n (pc := 33) C 0 dX7_append_33 rfl ?_
    refine j_iload (pc := 34) C 5 dX7_append_34 rfl ?_
    refine cs_X7_58 (pc := 36) C ⟨Nat.le_of_ble_eq_true rfl, Nat.le_of_ble_eq_true rfl⟩ ⟨Nat.le_of_ble_eq_true rfl, Nat.le_of_ble_eq_true rfl⟩ (Nat.le_of_ble_eq_true rfl) dX7_append_36 h (fun M5 h => ?_)
    refine j_aload_n (pc := 39) C 0 dX7_append_39 rfl ?_
    refine gf_X7_55 (pc := 40) C dX7_append_40 h (fun h => ?_)
    exact j_iret (pc := 43) C dX7_append_43 (Nat.le_of_ble_eq_true rfl) (Nat.le_of_ble_eq_true rfl) h
  · refine j_iconst (pc := 10) (v := (-1 : Int32)) C dX7_append_10 rfl ?_
    exact j_iret (pc := 11) C dX7_append_11 (Nat.le_of_ble_eq_true rfl) (Nat.le_of_ble_eq_true rfl) h
theorem cs_X7_92 (C : Cx p l s m args meth c cc nL RX7 ret E) {b : Nat} {y0 : Nat} {P : Mm → Prop} (hR : rm_X4_begin.frames + 1 ≤ R.frames ∧ 8 + (2 + 11) + rm_X4_begin.locals ≤ R.locals) (hf : kc ≤ R.cells ∧ ks ≤ R.slots) (hst : (st.map fun v => v.category).sum ≤ 8) (d : decode cc pc = .ok (.invokevirtual 92, 3)) (h : zk M b = 4 ∧ w_X4_begin M b y0 P) (kk : ∀ M', P M' → J p l e R s m args below meth c Q E nL M' kc ks (pc + 3) lo st) : J p l e R s m args below meth c Q E nL M kc ks pc lo (.ref y0 :: .ref b :: st) :=
  j_cV_V (n := 1) (As := [.ref y0]) C co_X4 rfl wd_931 wd_932 h.1 (c_X4_begin l E M b y0 P h.2) ⟨wd_933, wd_930, wd_42, by decide +kernel, by decide +kernel, by decide +kernel⟩ rfl rfl hR hf rfl hst d kk
abbrev rm_X7_begin : Room := { frames := 2, cells := 0, slots := 0, locals := 81 }
def l_X7_begin_39 (P : Mm → Prop) (K57 : Mm → Prop) : Nat → Mm → Nat → Int32 → Prop
  | 0, _, _, _ => False
  | n + 1, M, x0, x2 => (if (2 : Int32) ≤ x2 then K57 M else (zk M x0 = 7 ∧ ∃ a10, zR M x0 6 = some a10 ∧ zk M a10 = 12 ∧ vp_in x2 (zl M a10) ∧ (∀ M11, M11 = sI M a10 x2.toNatClampNeg (vp_nar .boolean (0 : Int32)) → l_X7_begin_39 P K57 n M11 x0 (x2 + (1 : Int32)))))
set_option maxHeartbeats 4000000 in
set_option maxRecDepth 100000 in
theorem jl_X7_begin_39 {P : Mm → Prop} {K57 : Mm → Prop} (C : Cx p l s m args meth c cX7_begin 3 RX7 none E) (hkc : kc ≤ rm_X7_begin.cells ∧ ks ≤ rm_X7_begin.slots) (k57 : ∀ M, K57 M → J p l e rm_X7_begin s m args below meth c (QV below E P args s rm_X7_begin.cells rm_X7_begin.slots) E 3 M kc ks 57 [] []) : ∀ n M x0 x2, l_X7_begin_39 P K57 n M x0 x2 → J p l e rm_X7_begin s m args below meth c (QV below E P args s rm_X7_begin.cells rm_X7_begin.slots) E 3 M kc ks 39 [(0, .ref x0), (2, .int x2)] [] := by
  intro n
  induction n with
  | zero => intro M x0 x2 h; exact h.elim
  | succ n ih =>
    intro M x0 x2 h
    rw [l_X7_begin_39] at h
    refine j_iload_n (pc := 39) C 1 dX7_begin_39 rfl ?_
    refine j_iconst (pc := 40) (v := (2 : Int32)) C dX7_begin_40 rfl ?_
    refine j_icmp_ge (pc := 41) C 57 dX7_begin_41 (by decide) h (fun h => ?_) (fun h => ?_)
    · exact j_weak [] rfl (k57 _ h)
    · refine j_aload_n (pc := 44) C 0 dX7_begin_44 rfl ?_
      refine gf_X7_37 (pc := 45) C dX7_begin_45 h (fun a10 h => ?_)
      refine j_iload_n (pc := 48) C 1 dX7_begin_48 rfl ?_
      refine j_iconst (pc := 49) (v := (0 : Int32)) C dX7_begin_49 rfl ?_
      refine n_zast (pc := 50) C dX7_begin_50 h (fun M11 h => ?_)
      refine j_iinc (pc := 51) (v := (1 : Int32)) C 1 [(2, _), (0, _)] dX7_begin_51 rfl rfl (by decide) rfl ?_
      refine j_goto (pc := 54) C 39 dX7_begin_54 (by decide) ?_
      exact j_weak [1, 0] rfl (ih _ _ _ h)
def w_X7_begin (M : Mm) (x0 : Nat) (P : Mm → Prop) : Prop := (zk M x0 = 7 ∧ ∃ a1, zR M x0 11 = some a1 ∧ (zk M x0 = 7 ∧ ∃ a2, zR M x0 10 = some a2 ∧ zk M x0 = 7 ∧ (∀ M3, M3 = sR M x0 11 (some a2) → zk M3 x0 = 7 ∧ (∀ M4, M4 = sR M3 x0 10 (some a1) → (zk M4 x0 = 7 ∧ ∃ a5, zR M4 x0 2 = some a5 ∧ (zk M4 x0 = 7 ∧ ∃ a6, zR M4 x0 10 = some a6 ∧ (zk M4 a6 = 6 ∧ ∃ a7, zR M4 a6 6 = some a7 ∧ zk M4 a5 = 4 ∧ w_X4_begin M4 a5 a7 (fun M8 => zk M8 x0 = 7 ∧ (∀ M9, M9 = sI M8 x0 9 (0 : Int32) → (∃ n39, l_X7_begin_39 P (fun M12 => P M12) n39 M9 x0 (0 : Int32)))))))))))
set_option maxHeartbeats 4000000 in
set_option maxRecDepth 100000 in
theorem c_X7_begin (l : Launch) (E : EV) (M : Mm) (x0 : Nat) (P : Mm → Prop) (h : w_X7_begin M x0 P) : CtV l E yX7_begin cX7_begin 3 rm_X7_begin 0 0 [.ref x0] M P := by
  refine ctV_of (by decide +kernel) (Nat.le_of_ble_eq_true rfl) ?_
  intro p e s m args below meth c C hnm
  rw [w_X7_begin] at h
  show J p l e rm_X7_begin s m args below meth c (QV below E P args s 0 0) E 3 M 0 0 0 [(0, .ref x0)] []
  refine j_aload_n (pc := 0) C 0 dX7_begin_0 rfl ?_
  refine gf_X7_52 (pc := 1) C dX7_begin_1 h (fun a1 h => ?_)
  refine j_astore_n (pc := 4) C [(1, _), (0, _)] dX7_begin_4 (by decide) rfl ?_
  refine j_aload_n (pc := 5) C 1 dX7_begin_5 rfl ?_
  refine j_aload_n (pc := 6) C 1 dX7_begin_6 rfl ?_
  refine gf_X7_48 (pc := 7) C dX7_begin_7 h (fun a2 h => ?_)
  refine pf_X7_52 (pc := 10) C dX7_begin_10 h (fun M3 h => ?_)
  refine j_aload_n (pc := 13) C 1 dX7_begin_13 rfl ?_
  refine j_aload_n (pc := 14) C 0 dX7_begin_14 rfl ?_
  refine pf_X7_48 (pc := 15) C dX7_begin_15 h (fun M4 h => ?_)
  refine j_aload_n (pc := 18) C 1 dX7_begin_18 rfl ?_
  refine gf_X7_23 (pc := 19) C dX7_begin_19 h (fun a5 h => ?_)
  refine j_aload_n (pc := 22) C 1 dX7_begin_22 rfl ?_
  refine gf_X7_48 (pc := 23) C dX7_begin_23 h (fun a6 h => ?_)
  refine gf_X7_88 (pc := 26) C dX7_begin_26 h (fun a7 h => ?_)
  refine cs_X7_92 (pc := 29) C ⟨Nat.le_of_ble_eq_true rfl, Nat.le_of_ble_eq_true rfl⟩ ⟨Nat.le_of_ble_eq_true rfl, Nat.le_of_ble_eq_true rfl⟩ (Nat.le_of_ble_eq_true rfl) dX7_begin_29 h (fun M8 h => ?_)
  refine j_aload_n (pc := 32) C 1 dX7_begin_32 rfl ?_
  refine j_iconst (pc := 33) (v := (0 : Int32)) C dX7_begin_33 rfl ?_
  refine pf_X7_95 (pc := 34) C dX7_begin_34 h (fun M9 h => ?_)
  refine j_iconst (pc := 37) (v := (0 : Int32)) C dX7_begin_37 rfl ?_
  refine j_istore_n (pc := 38) C [(2, _), (1, _), (0, _)] dX7_begin_38 (by decide) rfl ?_
  obtain ⟨n39, h⟩ := h
  refine j_weak [2, 0] rfl (jl_X7_begin_39 C ⟨Nat.le_of_ble_eq_true rfl, Nat.le_of_ble_eq_true rfl⟩ (fun M12 h => ?_) n39 _ _ _ h)
  · exact j_vret (pc := 57) C dX7_begin_57 (Nat.le_of_ble_eq_true rfl) (Nat.le_of_ble_eq_true rfl) h
abbrev rm_X7_requireArgument : Room := { frames := 6, cells := 1, slots := 6, locals := 89 }
def w_X7_requireArgument (M : Mm) (x0 : Int32) (P : Mm → Prop) (X : String → Mm → Prop) : Prop := (if x0 = 0 then (∀ n1, zn M ≤ n1 → X "java/lang/IllegalArgumentException" (sZ M n1)) else P M)
set_option maxHeartbeats 4000000 in
set_option maxRecDepth 100000 in
theorem c_X7_requireArgument (l : Launch) (E : EV) (M : Mm) (x0 : Int32) (P : Mm → Prop) (X : String → Mm → Prop) (h : w_X7_requireArgument M x0 P X) : CtVX l E yX7_requireArgument cX7_requireArgument 1 rm_X7_requireArgument 1 6 [.int x0] M P X := by
  refine ctVX_of (by decide +kernel) (Nat.le_of_ble_eq_true rfl) ?_
  intro p e s m args below meth c C hex
  rw [w_X7_requireArgument] at h
  show J p l e rm_X7_requireArgument s m args below meth c (QVX below E P X args s 1 6) E 1 M 0 0 0 [(0, .int x0)] []
  refine j_iload_n (pc := 0) C 0 dX7_requireArgument_0 rfl ?_
  refine j_if_ne (pc := 1) C 12 dX7_requireArgument_1 (by decide) h (fun h => ?_) (fun h => ?_)
  · exact j_vretX (pc := 12) C dX7_requireArgument_12 (Nat.le_of_ble_eq_true rfl) (Nat.le_of_ble_eq_true rfl) h
  · exact j_throw (pc := 4) C hex (by decide +kernel) (by decide +kernel) wd_702 wd_60 th_X7_125 dX7_requireArgument_4 dX7_requireArgument_7 dX7_requireArgument_8 dX7_requireArgument_11 (Nat.le_of_ble_eq_true rfl) (Nat.le_of_ble_eq_true rfl) (Nat.le_of_ble_eq_true rfl) (Nat.le_of_ble_eq_true rfl) (Nat.le_of_ble_eq_true rfl) (Nat.le_of_ble_eq_true rfl) h
abbrev rm0_X7_requireArgument : Room := { frames := 0, cells := 0, slots := 0, locals := 0 }
set_option maxHeartbeats 4000000 in
set_option maxRecDepth 100000 in
theorem c0_X7_requireArgument (l : Launch) (E : EV) (M : Mm) (x0 : Int32) (P : Mm → Prop) (h : w_X7_requireArgument M x0 P (fun _ _ => False)) : CtV l E yX7_requireArgument cX7_requireArgument 1 rm0_X7_requireArgument 0 0 [.int x0] M P := by
  refine ctV_of (by decide +kernel) (Nat.le_of_ble_eq_true rfl) ?_
  intro p e s m args below meth c C hnm
  rw [w_X7_requireArgument] at h
  show J p l e rm0_X7_requireArgument s m args below meth c (QV below E P args s 0 0) E 1 M 0 0 0 [(0, .int x0)] []
  refine j_iload_n (pc := 0) C 0 dX7_requireArgument_0 rfl ?_
  refine j_if_ne (pc := 1) C 12 dX7_requireArgument_1 (by decide) h (fun h => ?_) (fun h => ?_)
  · exact j_vret (pc := 12) C dX7_requireArgument_12 (Nat.le_of_ble_eq_true rfl) (Nat.le_of_ble_eq_true rfl) h
  · exact (h _ (Nat.le_refl _)).elim
theorem cs_X7_62 {Qc : Array Value → State → Outcome → State → Prop} {X : String → Mm → Prop} {mc2 ms2 : Nat} (C : Cx p l s m args meth c cc nL RX7 ret E) (hex : ∀ x ∈ c.exceptionTable.toList, False) {y0 : Int32} {P : Mm → Prop} (hR : rm_X7_requireArgument.frames + 1 ≤ R.frames ∧ 8 + (1 + 11) + rm_X7_requireArgument.locals ≤ R.locals) (hf : kc + 1 ≤ R.cells ∧ ks + 6 ≤ R.slots) (hf2 : kc + 1 ≤ mc2 ∧ ks + 6 ≤ ms2) (hst : (st.map fun v => v.category).sum ≤ 8) (d : decode cc pc = .ok (.invokestatic 62, 3)) (h : w_X7_requireArgument M y0 P X) (kk : ∀ M', P M' → J p l e R s m args below meth c (vx_MQ below Qc (XX E X) args s mc2 ms2 (fun q => E.2.2.1 ≤ q)) E nL M' (kc + 1) (ks + 6) (pc + 3) lo st) : J p l e R s m args below meth c (vx_MQ below Qc (XX E X) args s mc2 ms2 (fun q => E.2.2.1 ≤ q)) E nL M kc ks pc lo (.int y0 :: st) :=
  j_xS_V (n := 1) (As := [.int y0]) C hex wd_700 (c_X7_requireArgument l E M y0 P X h) ⟨wd_701, wd_699, wd_40, by decide +kernel, by decide +kernel, by decide +kernel⟩ rfl rfl hR hf hf2 rfl hst d (fun _ _ q => q) kk
theorem cs0_X7_62 (C : Cx p l s m args meth c cc nL RX7 ret E) {y0 : Int32} {P : Mm → Prop} (hR : rm0_X7_requireArgument.frames + 1 ≤ R.frames ∧ 8 + (1 + 11) + rm0_X7_requireArgument.locals ≤ R.locals) (hf : kc ≤ R.cells ∧ ks ≤ R.slots) (hst : (st.map fun v => v.category).sum ≤ 8) (d : decode cc pc = .ok (.invokestatic 62, 3)) (h : w_X7_requireArgument M y0 P (fun _ _ => False)) (kk : ∀ M', P M' → J p l e R s m args below meth c Q E nL M' kc ks (pc + 3) lo st) : J p l e R s m args below meth c Q E nL M kc ks pc lo (.int y0 :: st) :=
  j_cS_V (n := 1) (As := [.int y0]) C wd_700 (c0_X7_requireArgument l E M y0 P h) ⟨wd_701, wd_699, wd_40, by decide +kernel, by decide +kernel, by decide +kernel⟩ rfl rfl hR hf rfl hst d kk
theorem cs_X7_70 (C : Cx p l s m args meth c cc nL RX7 ret E) {b : Nat} {y0 : Nat} {y1 : Int32} {P : Mm → Prop} (hR : rm_X5_init.frames + 1 ≤ R.frames ∧ 8 + (3 + 11) + rm_X5_init.locals ≤ R.locals) (hf : kc ≤ R.cells ∧ ks ≤ R.slots) (hst : (st.map fun v => v.category).sum ≤ 8) (d : decode cc pc = .ok (.invokespecial 70, 3)) (h : w_X5_init M b y0 y1 P) (kk : ∀ M', P M' → J p l e R s m args below meth c Q E nL M' kc ks (pc + 3) lo st) : J p l e R s m args below meth c Q E nL M kc ks pc lo (.int y1 :: .ref y0 :: .ref b :: st) :=
  j_cI_V (n := 2) (As := [.ref y0, .int y1]) C rfl wd_770 (c_X5_init l E M b y0 y1 P h) ⟨wd_771, wd_769, wd_62, by decide +kernel, by decide +kernel, by decide +kernel⟩ rfl rfl hR hf rfl hst d kk
theorem cs_X7_73 (C : Cx p l s m args meth c cc nL RX7 ret E) {b : Nat} {y0 : Nat} {y1 : Nat} {P : Mm → Prop} (hR : rm_X3_init.frames + 1 ≤ R.frames ∧ 8 + (3 + 11) + rm_X3_init.locals ≤ R.locals) (hf : kc ≤ R.cells ∧ ks ≤ R.slots) (hst : (st.map fun v => v.category).sum ≤ 8) (d : decode cc pc = .ok (.invokespecial 73, 3)) (h : w_X3_init M b y0 y1 P) (kk : ∀ M', P M' → J p l e R s m args below meth c Q E nL M' kc ks (pc + 3) lo st) : J p l e R s m args below meth c Q E nL M kc ks pc lo (.ref y1 :: .ref y0 :: .ref b :: st) :=
  j_cI_V (n := 2) (As := [.ref y0, .ref y1]) C rfl wd_800 (c_X3_init l E M b y0 y1 P h) ⟨wd_801, wd_799, wd_61, by decide +kernel, by decide +kernel, by decide +kernel⟩ rfl rfl hR hf rfl hst d kk
theorem cs_X7_76 (C : Cx p l s m args meth c cc nL RX7 ret E) {b : Nat} {P : Mm → Prop} (hR : rm_X3_read.frames + 1 ≤ R.frames ∧ 8 + (3 + 11) + rm_X3_read.locals ≤ R.locals) (hf : kc ≤ R.cells ∧ ks ≤ R.slots) (hst : (st.map fun v => v.category).sum ≤ 8) (d : decode cc pc = .ok (.invokevirtual 76, 3)) (h : zk M b = 3 ∧ w_X3_read M b P) (kk : ∀ M', P M' → J p l e R s m args below meth c Q E nL M' kc ks (pc + 3) lo st) : J p l e R s m args below meth c Q E nL M kc ks pc lo (.ref b :: st) :=
  j_cV_V (n := 0) (As := []) C co_X3 rfl wd_819 wd_820 h.1 (c_X3_read l E M b P h.2) ⟨wd_821, wd_818, wd_61, by decide +kernel, by decide +kernel, by decide +kernel⟩ rfl rfl hR hf rfl hst d kk
theorem cs_X7_85 (C : Cx p l s m args meth c cc nL RX7 ret E) {b : Nat} {P : Mm → Prop} (hR : rm_X7_begin.frames + 1 ≤ R.frames ∧ 8 + (3 + 11) + rm_X7_begin.locals ≤ R.locals) (hf : kc ≤ R.cells ∧ ks ≤ R.slots) (hst : (st.map fun v => v.category).sum ≤ 8) (d : decode cc pc = .ok (.invokevirtual 85, 3)) (h : zk M b = 7 ∧ w_X7_begin M b P) (kk : ∀ M', P M' → J p l e R s m args below meth c Q E nL M' kc ks (pc + 3) lo st) : J p l e R s m args below meth c Q E nL M kc ks pc lo (.ref b :: st) :=
  j_cV_V (n := 0) (As := []) C co_X7 rfl wd_928 wd_16 h.1 (c_X7_begin l E M b P h.2) ⟨wd_929, wd_926, wd_40, by decide +kernel, by decide +kernel, by decide +kernel⟩ rfl rfl hR hf rfl hst d kk
abbrev rm_X7_parse : Room := { frames := 8, cells := 3, slots := 17, locals := 206 }
def w_X7_parse (M : Mm) (x0 : Nat) (x1 : Int32) (P : Int32 → Mm → Prop) (X : String → Mm → Prop) : Prop := (if x1 < 0 then w_X7_requireArgument M (0 : Int32) (fun M1 => (∀ a2 M2, a2 = zn M1 → M2 = sN M1 3 0 → (∀ a3 M3, a3 = zn M2 → M3 = sN M2 5 0 → (zk M3 x0 = 7 ∧ ∃ a4, zR M3 x0 0 = some a4 ∧ w_X5_init M3 a3 a4 x1 (fun M5 => (zk M5 x0 = 7 ∧ ∃ a6, zR M5 x0 11 = some a6 ∧ w_X3_init M5 a2 a3 a6 (fun M7 => zk M7 a2 = 3 ∧ w_X3_read M7 a2 (fun M8 => zk M8 a2 = 3 ∧ zk M8 x0 = 7 ∧ (∀ M9, M9 = sI M8 x0 8 (zI M8 a2 3) → zk M9 x0 = 7 ∧ (∀ M10, M10 = sI M9 x0 7 (0 : Int32) → zk M10 a2 = 3 ∧ (if (zI M10 a2 2) = 0 then zk M10 x0 = 7 ∧ w_X7_begin M10 x0 (fun M11 => zk M11 a2 = 3 ∧ P (zI M11 a2 2) M11) else zk M10 a2 = 3 ∧ P (zI M10 a2 2) M10))))))))))) X else zk M x0 = 7 ∧ (if (zI M x0 7) < x1 then w_X7_requireArgument M (0 : Int32) (fun M12 => (∀ a13 M13, a13 = zn M12 → M13 = sN M12 3 0 → (∀ a14 M14, a14 = zn M13 → M14 = sN M13 5 0 → (zk M14 x0 = 7 ∧ ∃ a15, zR M14 x0 0 = some a15 ∧ w_X5_init M14 a14 a15 x1 (fun M16 => (zk M16 x0 = 7 ∧ ∃ a17, zR M16 x0 11 = some a17 ∧ w_X3_init M16 a13 a14 a17 (fun M18 => zk M18 a13 = 3 ∧ w_X3_read M18 a13 (fun M19 => zk M19 a13 = 3 ∧ zk M19 x0 = 7 ∧ (∀ M20, M20 = sI M19 x0 8 (zI M19 a13 3) → zk M20 x0 = 7 ∧ (∀ M21, M21 = sI M20 x0 7 (0 : Int32) → zk M21 a13 = 3 ∧ (if (zI M21 a13 2) = 0 then zk M21 x0 = 7 ∧ w_X7_begin M21 x0 (fun M22 => zk M22 a13 = 3 ∧ P (zI M22 a13 2) M22) else zk M21 a13 = 3 ∧ P (zI M21 a13 2) M21))))))))))) X else w_X7_requireArgument M (1 : Int32) (fun M23 => (∀ a24 M24, a24 = zn M23 → M24 = sN M23 3 0 → (∀ a25 M25, a25 = zn M24 → M25 = sN M24 5 0 → (zk M25 x0 = 7 ∧ ∃ a26, zR M25 x0 0 = some a26 ∧ w_X5_init M25 a25 a26 x1 (fun M27 => (zk M27 x0 = 7 ∧ ∃ a28, zR M27 x0 11 = some a28 ∧ w_X3_init M27 a24 a25 a28 (fun M29 => zk M29 a24 = 3 ∧ w_X3_read M29 a24 (fun M30 => zk M30 a24 = 3 ∧ zk M30 x0 = 7 ∧ (∀ M31, M31 = sI M30 x0 8 (zI M30 a24 3) → zk M31 x0 = 7 ∧ (∀ M32, M32 = sI M31 x0 7 (0 : Int32) → zk M32 a24 = 3 ∧ (if (zI M32 a24 2) = 0 then zk M32 x0 = 7 ∧ w_X7_begin M32 x0 (fun M33 => zk M33 a24 = 3 ∧ P (zI M33 a24 2) M33) else zk M32 a24 = 3 ∧ P (zI M32 a24 2) M32))))))))))) X))
set_option maxHeartbeats 4000000 in
set_option maxRecDepth 100000 in
theorem c_X7_parse (l : Launch) (E : EV) (M : Mm) (x0 : Nat) (x1 : Int32) (P : Int32 → Mm → Prop) (X : String → Mm → Prop) (h : w_X7_parse M x0 x1 P X) : CtIX l E yX7_parse cX7_parse 3 .int rm_X7_parse 3 17 [.ref x0, .int x1] M P X := by
  refine ctIX_of (by decide +kernel) (Nat.le_of_ble_eq_true rfl) ?_
  intro p e s m args below meth c C hex
  rw [w_X7_parse] at h
  show J p l e rm_X7_parse s m args below meth c (QIX below E P X args s 3 17) E 3 M 0 0 0 [(0, .ref x0), (1, .int x1)] []
  refine j_iload_n (pc := 0) C 1 dX7_parse_0 rfl ?_
  refine j_if_lt (pc := 1) C 16 dX7_parse_1 (by decide) h (fun h => ?_) (fun h => ?_)
  · refine j_iconst (pc := 16) (v := (0 : Int32)) C dX7_parse_16 rfl ?_
    refine cs_X7_62 (pc := 17) C hex ⟨Nat.le_of_ble_eq_true rfl, Nat.le_of_ble_eq_true rfl⟩ ⟨Nat.le_of_ble_eq_true rfl, Nat.le_of_ble_eq_true rfl⟩ ⟨Nat.le_of_ble_eq_true rfl, Nat.le_of_ble_eq_true rfl⟩ (Nat.le_of_ble_eq_true rfl) dX7_parse_17 h (fun M1 h => ?_)
    refine n_new (pc := 20) C co_X3 df_X3 wd_765 wd_766 wd_61 dX7_parse_20 (Nat.le_of_ble_eq_true rfl) (Nat.le_of_ble_eq_true rfl) h (fun a2 M2 h => ?_)
    refine j_dup (pc := 23) C dX7_parse_23 rfl ?_
    refine n_new (pc := 24) C co_X5 df_X5 wd_767 wd_768 wd_62 dX7_parse_24 (Nat.le_of_ble_eq_true rfl) (Nat.le_of_ble_eq_true rfl) h (fun a3 M3 h => ?_)
    refine j_dup (pc := 27) C dX7_parse_27 rfl ?_
    refine j_aload_n (pc := 28) C 0 dX7_parse_28 rfl ?_
    refine gf_X7_9 (pc := 29) C dX7_parse_29 h (fun a4 h => ?_)
    refine j_iload_n (pc := 32) C 1 dX7_parse_32 rfl ?_
    refine cs_X7_70 (pc := 33) C ⟨Nat.le_of_ble_eq_true rfl, Nat.le_of_ble_eq_true rfl⟩ ⟨Nat.le_of_ble_eq_true rfl, Nat.le_of_ble_eq_true rfl⟩ (Nat.le_of_ble_eq_true rfl) dX7_parse_33 h (fun M5 h => ?_)
    refine j_aload_n (pc := 36) C 0 dX7_parse_36 rfl ?_
    refine gf_X7_52 (pc := 37) C dX7_parse_37 h (fun a6 h => ?_)
    refine cs_X7_73 (pc := 40) C ⟨Nat.le_of_ble_eq_true rfl, Nat.le_of_ble_eq_true rfl⟩ ⟨Nat.le_of_ble_eq_true rfl, Nat.le_of_ble_eq_true rfl⟩ (Nat.le_of_ble_eq_true rfl) dX7_parse_40 h (fun M7 h => ?_)
    refine j_astore_n (pc := 43) C [(2, _), (0, _), (1, _)] dX7_parse_43 (by decide) rfl ?_
    refine j_aload_n (pc := 44) C 0 dX7_parse_44 rfl ?_
    refine cs_X7_76 (pc := 45) C ⟨Nat.le_of_ble_eq_true rfl, Nat.le_of_ble_eq_true rfl⟩ ⟨Nat.le_of_ble_eq_true rfl, Nat.le_of_ble_eq_true rfl⟩ (Nat.le_of_ble_eq_true rfl) dX7_parse_45 h (fun M8 h => ?_)
    refine j_aload_n (pc := 48) C 1 dX7_parse_48 rfl ?_
    refine j_aload_n (pc := 49) C 0 dX7_parse_49 rfl ?_
    refine gf_X7_79 (pc := 50) C dX7_parse_50 h (fun h => ?_)
    refine pf_X7_41 (pc := 53) C dX7_parse_53 h (fun M9 h => ?_)
    refine j_aload_n (pc := 56) C 1 dX7_parse_56 rfl ?_
    refine j_iconst (pc := 57) (v := (0 : Int32)) C dX7_parse_57 rfl ?_
    refine pf_X7_55 (pc := 58) C dX7_parse_58 h (fun M10 h => ?_)
    refine j_aload_n (pc := 61) C 0 dX7_parse_61 rfl ?_
    refine gf_X7_82 (pc := 62) C dX7_parse_62 h (fun h => ?_)
    refine j_if_ne (pc := 65) C 72 dX7_parse_65 (by decide) h (fun h => ?_) (fun h => ?_)
    · refine j_aload_n (pc := 72) C 0 dX7_parse_72 rfl ?_
      refine gf_X7_82 (pc := 73) C dX7_parse_73 h (fun h => ?_)
      exact j_iretX (pc := 76) C dX7_parse_76 (Nat.le_of_ble_eq_true rfl) (Nat.le_of_ble_eq_true rfl) h
    · refine j_aload_n (pc := 68) C 1 dX7_parse_68 rfl ?_
      refine cs_X7_85 (pc := 69) C ⟨Nat.le_of_ble_eq_true rfl, Nat.le_of_ble_eq_true rfl⟩ ⟨Nat.le_of_ble_eq_true rfl, Nat.le_of_ble_eq_true rfl⟩ (Nat.le_of_ble_eq_true rfl) dX7_parse_69 h (fun M11 h => ?_)
      refine j_aload_n (pc := 72) C 0 dX7_parse_72 rfl ?_
      refine gf_X7_82 (pc := 73) C dX7_parse_73 h (fun h => ?_)
      exact j_iretX (pc := 76) C dX7_parse_76 (Nat.le_of_ble_eq_true rfl) (Nat.le_of_ble_eq_true rfl) h
  · refine j_iload_n (pc := 4) C 1 dX7_parse_4 rfl ?_
    refine j_aload_n (pc := 5) C 0 dX7_parse_5 rfl ?_
    refine gf_X7_55 (pc := 6) C dX7_parse_6 h (fun h => ?_)
    refine j_icmp_gt (pc := 9) C 16 dX7_parse_9 (by decide) h (fun h => ?_) (fun h => ?_)
    · refine j_iconst (pc := 16) (v := (0 : Int32)) C dX7_parse_16 rfl ?_
      refine cs_X7_62 (pc := 17) C hex ⟨Nat.le_of_ble_eq_true rfl, Nat.le_of_ble_eq_true rfl⟩ ⟨Nat.le_of_ble_eq_true rfl, Nat.le_of_ble_eq_true rfl⟩ ⟨Nat.le_of_ble_eq_true rfl, Nat.le_of_ble_eq_true rfl⟩ (Nat.le_of_ble_eq_true rfl) dX7_parse_17 h (fun M12 h => ?_)
      refine n_new (pc := 20) C co_X3 df_X3 wd_765 wd_766 wd_61 dX7_parse_20 (Nat.le_of_ble_eq_true rfl) (Nat.le_of_ble_eq_true rfl) h (fun a13 M13 h => ?_)
      refine j_dup (pc := 23) C dX7_parse_23 rfl ?_
      refine n_new (pc := 24) C co_X5 df_X5 wd_767 wd_768 wd_62 dX7_parse_24 (Nat.le_of_ble_eq_true rfl) (Nat.le_of_ble_eq_true rfl) h (fun a14 M14 h => ?_)
      refine j_dup (pc := 27) C dX7_parse_27 rfl ?_
      refine j_aload_n (pc := 28) C 0 dX7_parse_28 rfl ?_
      refine gf_X7_9 (pc := 29) C dX7_parse_29 h (fun a15 h => ?_)
      refine j_iload_n (pc := 32) C 1 dX7_parse_32 rfl ?_
      refine cs_X7_70 (pc := 33) C ⟨Nat.le_of_ble_eq_true rfl, Nat.le_of_ble_eq_true rfl⟩ ⟨Nat.le_of_ble_eq_true rfl, Nat.le_of_ble_eq_true rfl⟩ (Nat.le_of_ble_eq_true rfl) dX7_parse_33 h (fun M16 h => ?_)
      refine j_aload_n (pc := 36) C 0 dX7_parse_36 rfl ?_
      refine gf_X7_52 (pc := 37) C dX7_parse_37 h (fun a17 h => ?_)
      refine cs_X7_73 (pc := 40) C ⟨Nat.le_of_ble_eq_true rfl, Nat.le_of_ble_eq_true rfl⟩ ⟨Nat.le_of_ble_eq_true rfl, Nat.le_of_ble_eq_true rfl⟩ (Nat.le_of_ble_eq_true rfl) dX7_parse_40 h (fun M18 h => ?_)
      refine j_astore_n (pc := 43) C [(2, _), (0, _), (1, _)] dX7_parse_43 (by decide) rfl ?_
      refine j_aload_n (pc := 44) C 0 dX7_parse_44 rfl ?_
      refine cs_X7_76 (pc := 45) C ⟨Nat.le_of_ble_eq_true rfl, Nat.le_of_ble_eq_true rfl⟩ ⟨Nat.le_of_ble_eq_true rfl, Nat.le_of_ble_eq_true rfl⟩ (Nat.le_of_ble_eq_true rfl) dX7_parse_45 h (fun M19 h => ?_)
      refine j_aload_n (pc := 48) C 1 dX7_parse_48 rfl ?_
      refine j_aload_n (pc := 49) C 0 dX7_parse_49 rfl ?_
      refine gf_X7_79 (pc := 50) C dX7_parse_50 h (fun h => ?_)
      refine pf_X7_41 (pc := 53) C dX7_parse_53 h (fun M20 h => ?_)
      refine j_aload_n (pc := 56) C 1 dX7_parse_56 rfl ?_
      refine j_iconst (pc := 57) (v := (0 : Int32)) C dX7_parse_57 rfl ?_
      refine pf_X7_55 (pc := 58) C dX7_parse_58 h (fun M21 h => ?_)
      refine j_aload_n (pc := 61) C 0 dX7_parse_61 rfl ?_
      refine gf_X7_82 (pc := 62) C dX7_parse_62 h (fun h => ?_)
      refine j_if_ne (pc := 65) C 72 dX7_parse_65 (by decide) h (fun h => ?_) (fun h => ?_)
      · refine j_aload_n (pc := 72) C 0 dX7_parse_72 rfl ?_
        refine gf_X7_82 (pc := 73) C dX7_parse_73 h (fun h => ?_)
        exact j_iretX (pc := 76) C dX7_parse_76 (Nat.le_of_ble_eq_true rfl) (Nat.le_of_ble_eq_true rfl) h
      · refine j_aload_n (pc := 68) C 1 dX7_parse_68 rfl ?_
        refine cs_X7_85 (pc := 69) C ⟨Nat.le_of_ble_eq_true rfl, Nat.le_of_ble_eq_true rfl⟩ ⟨Nat.le_of_ble_eq_true rfl, Nat.le_of_ble_eq_true rfl⟩ (Nat.le_of_ble_eq_true rfl) dX7_parse_69 h (fun M22 h => ?_)
        refine j_aload_n (pc := 72) C 0 dX7_parse_72 rfl ?_
        refine gf_X7_82 (pc := 73) C dX7_parse_73 h (fun h => ?_)
        exact j_iretX (pc := 76) C dX7_parse_76 (Nat.le_of_ble_eq_true rfl) (Nat.le_of_ble_eq_true rfl) h
    · refine j_iconst (pc := 12) (v := (1 : Int32)) C dX7_parse_12 rfl ?_
      refine j_goto (pc := 13) C 17 dX7_parse_13 (by decide) ?_
      refine cs_X7_62 (pc := 17) C hex ⟨Nat.le_of_ble_eq_true rfl, Nat.le_of_ble_eq_true rfl⟩ ⟨Nat.le_of_ble_eq_true rfl, Nat.le_of_ble_eq_true rfl⟩ ⟨Nat.le_of_ble_eq_true rfl, Nat.le_of_ble_eq_true rfl⟩ (Nat.le_of_ble_eq_true rfl) dX7_parse_17 h (fun M23 h => ?_)
      refine n_new (pc := 20) C co_X3 df_X3 wd_765 wd_766 wd_61 dX7_parse_20 (Nat.le_of_ble_eq_true rfl) (Nat.le_of_ble_eq_true rfl) h (fun a24 M24 h => ?_)
      refine j_dup (pc := 23) C dX7_parse_23 rfl ?_
      refine n_new (pc := 24) C co_X5 df_X5 wd_767 wd_768 wd_62 dX7_parse_24 (Nat.le_of_ble_eq_true rfl) (Nat.le_of_ble_eq_true rfl) h (fun a25 M25 h => ?_)
      refine j_dup (pc := 27) C dX7_parse_27 rfl ?_
      refine j_aload_n (pc := 28) C 0 dX7_parse_28 rfl ?_
      refine gf_X7_9 (pc := 29) C dX7_parse_29 h (fun a26 h => ?_)
      refine j_iload_n (pc := 32) C 1 dX7_parse_32 rfl ?_
      refine cs_X7_70 (pc := 33) C ⟨Nat.le_of_ble_eq_true rfl, Nat.le_of_ble_eq_true rfl⟩ ⟨Nat.le_of_ble_eq_true rfl, Nat.le_of_ble_eq_true rfl⟩ (Nat.le_of_ble_eq_true rfl) dX7_parse_33 h (fun M27 h => ?_)
      refine j_aload_n (pc := 36) C 0 dX7_parse_36 rfl ?_
      refine gf_X7_52 (pc := 37) C dX7_parse_37 h (fun a28 h => ?_)
      refine cs_X7_73 (pc := 40) C ⟨Nat.le_of_ble_eq_true rfl, Nat.le_of_ble_eq_true rfl⟩ ⟨Nat.le_of_ble_eq_true rfl, Nat.le_of_ble_eq_true rfl⟩ (Nat.le_of_ble_eq_true rfl) dX7_parse_40 h (fun M29 h => ?_)
      refine j_astore_n (pc := 43) C [(2, _), (0, _), (1, _)] dX7_parse_43 (by decide) rfl ?_
      refine j_aload_n (pc := 44) C 0 dX7_parse_44 rfl ?_
      refine cs_X7_76 (pc := 45) C ⟨Nat.le_of_ble_eq_true rfl, Nat.le_of_ble_eq_true rfl⟩ ⟨Nat.le_of_ble_eq_true rfl, Nat.le_of_ble_eq_true rfl⟩ (Nat.le_of_ble_eq_true rfl) dX7_parse_45 h (fun M30 h => ?_)
      refine j_aload_n (pc := 48) C 1 dX7_parse_48 rfl ?_
      refine j_aload_n (pc := 49) C 0 dX7_parse_49 rfl ?_
      refine gf_X7_79 (pc := 50) C dX7_parse_50 h (fun h => ?_)
      refine pf_X7_41 (pc := 53) C dX7_parse_53 h (fun M31 h => ?_)
      refine j_aload_n (pc := 56) C 1 dX7_parse_56 rfl ?_
      refine j_iconst (pc := 57) (v := (0 : Int32)) C dX7_parse_57 rfl ?_
      refine pf_X7_55 (pc := 58) C dX7_parse_58 h (fun M32 h => ?_)
      refine j_aload_n (pc := 61) C 0 dX7_parse_61 rfl ?_
      refine gf_X7_82 (pc := 62) C dX7_parse_62 h (fun h => ?_)
      refine j_if_ne (pc := 65) C 72 dX7_parse_65 (by decide) h (fun h => ?_) (fun h => ?_)
      · refine j_aload_n (pc := 72) C 0 dX7_parse_72 rfl ?_
        refine gf_X7_82 (pc := 73) C dX7_parse_73 h (fun h => ?_)
        exact j_iretX (pc := 76) C dX7_parse_76 (Nat.le_of_ble_eq_true rfl) (Nat.le_of_ble_eq_true rfl) h
      · refine j_aload_n (pc := 68) C 1 dX7_parse_68 rfl ?_
        refine cs_X7_85 (pc := 69) C ⟨Nat.le_of_ble_eq_true rfl, Nat.le_of_ble_eq_true rfl⟩ ⟨Nat.le_of_ble_eq_true rfl, Nat.le_of_ble_eq_true rfl⟩ (Nat.le_of_ble_eq_true rfl) dX7_parse_69 h (fun M33 h => ?_)
        refine j_aload_n (pc := 72) C 0 dX7_parse_72 rfl ?_
        refine gf_X7_82 (pc := 73) C dX7_parse_73 h (fun h => ?_)
        exact j_iretX (pc := 76) C dX7_parse_76 (Nat.le_of_ble_eq_true rfl) (Nat.le_of_ble_eq_true rfl) h
abbrev rm0_X7_parse : Room := { frames := 8, cells := 2, slots := 11, locals := 206 }
set_option maxHeartbeats 4000000 in
set_option maxRecDepth 100000 in
theorem c0_X7_parse (l : Launch) (E : EV) (M : Mm) (x0 : Nat) (x1 : Int32) (P : Int32 → Mm → Prop) (h : w_X7_parse M x0 x1 P (fun _ _ => False)) : CtI l E yX7_parse cX7_parse 3 .int rm0_X7_parse 2 11 [.ref x0, .int x1] M P := by
  refine ctI_of (by decide +kernel) (Nat.le_of_ble_eq_true rfl) ?_
  intro p e s m args below meth c C
  rw [w_X7_parse] at h
  show J p l e rm0_X7_parse s m args below meth c (QI below E P args s 2 11) E 3 M 0 0 0 [(0, .ref x0), (1, .int x1)] []
  refine j_iload_n (pc := 0) C 1 dX7_parse_0 rfl ?_
  refine j_if_lt (pc := 1) C 16 dX7_parse_1 (by decide) h (fun h => ?_) (fun h => ?_)
  · refine j_iconst (pc := 16) (v := (0 : Int32)) C dX7_parse_16 rfl ?_
    refine cs0_X7_62 (pc := 17) C ⟨Nat.le_of_ble_eq_true rfl, Nat.le_of_ble_eq_true rfl⟩ ⟨Nat.le_of_ble_eq_true rfl, Nat.le_of_ble_eq_true rfl⟩ (Nat.le_of_ble_eq_true rfl) dX7_parse_17 h (fun M1 h => ?_)
    refine n_new (pc := 20) C co_X3 df_X3 wd_765 wd_766 wd_61 dX7_parse_20 (Nat.le_of_ble_eq_true rfl) (Nat.le_of_ble_eq_true rfl) h (fun a2 M2 h => ?_)
    refine j_dup (pc := 23) C dX7_parse_23 rfl ?_
    refine n_new (pc := 24) C co_X5 df_X5 wd_767 wd_768 wd_62 dX7_parse_24 (Nat.le_of_ble_eq_true rfl) (Nat.le_of_ble_eq_true rfl) h (fun a3 M3 h => ?_)
    refine j_dup (pc := 27) C dX7_parse_27 rfl ?_
    refine j_aload_n (pc := 28) C 0 dX7_parse_28 rfl ?_
    refine gf_X7_9 (pc := 29) C dX7_parse_29 h (fun a4 h => ?_)
    refine j_iload_n (pc := 32) C 1 dX7_parse_32 rfl ?_
    refine cs_X7_70 (pc := 33) C ⟨Nat.le_of_ble_eq_true rfl, Nat.le_of_ble_eq_true rfl⟩ ⟨Nat.le_of_ble_eq_true rfl, Nat.le_of_ble_eq_true rfl⟩ (Nat.le_of_ble_eq_true rfl) dX7_parse_33 h (fun M5 h => ?_)
    refine j_aload_n (pc := 36) C 0 dX7_parse_36 rfl ?_
    refine gf_X7_52 (pc := 37) C dX7_parse_37 h (fun a6 h => ?_)
    refine cs_X7_73 (pc := 40) C ⟨Nat.le_of_ble_eq_true rfl, Nat.le_of_ble_eq_true rfl⟩ ⟨Nat.le_of_ble_eq_true rfl, Nat.le_of_ble_eq_true rfl⟩ (Nat.le_of_ble_eq_true rfl) dX7_parse_40 h (fun M7 h => ?_)
    refine j_astore_n (pc := 43) C [(2, _), (0, _), (1, _)] dX7_parse_43 (by decide) rfl ?_
    refine j_aload_n (pc := 44) C 0 dX7_parse_44 rfl ?_
    refine cs_X7_76 (pc := 45) C ⟨Nat.le_of_ble_eq_true rfl, Nat.le_of_ble_eq_true rfl⟩ ⟨Nat.le_of_ble_eq_true rfl, Nat.le_of_ble_eq_true rfl⟩ (Nat.le_of_ble_eq_true rfl) dX7_parse_45 h (fun M8 h => ?_)
    refine j_aload_n (pc := 48) C 1 dX7_parse_48 rfl ?_
    refine j_aload_n (pc := 49) C 0 dX7_parse_49 rfl ?_
    refine gf_X7_79 (pc := 50) C dX7_parse_50 h (fun h => ?_)
    refine pf_X7_41 (pc := 53) C dX7_parse_53 h (fun M9 h => ?_)
    refine j_aload_n (pc := 56) C 1 dX7_parse_56 rfl ?_
    refine j_iconst (pc := 57) (v := (0 : Int32)) C dX7_parse_57 rfl ?_
    refine pf_X7_55 (pc := 58) C dX7_parse_58 h (fun M10 h => ?_)
    refine j_aload_n (pc := 61) C 0 dX7_parse_61 rfl ?_
    refine gf_X7_82 (pc := 62) C dX7_parse_62 h (fun h => ?_)
    refine j_if_ne (pc := 65) C 72 dX7_parse_65 (by decide) h (fun h => ?_) (fun h => ?_)
    · refine j_aload_n (pc := 72) C 0 dX7_parse_72 rfl ?_
      refine gf_X7_82 (pc := 73) C dX7_parse_73 h (fun h => ?_)
      exact j_iret (pc := 76) C dX7_parse_76 (Nat.le_of_ble_eq_true rfl) (Nat.le_of_ble_eq_true rfl) h
    · refine j_aload_n (pc := 68) C 1 dX7_parse_68 rfl ?_
      refine cs_X7_85 (pc := 69) C ⟨Nat.le_of_ble_eq_true rfl, Nat.le_of_ble_eq_true rfl⟩ ⟨Nat.le_of_ble_eq_true rfl, Nat.le_of_ble_eq_true rfl⟩ (Nat.le_of_ble_eq_true rfl) dX7_parse_69 h (fun M11 h => ?_)
      refine j_aload_n (pc := 72) C 0 dX7_parse_72 rfl ?_
      refine gf_X7_82 (pc := 73) C dX7_parse_73 h (fun h => ?_)
      exact j_iret (pc := 76) C dX7_parse_76 (Nat.le_of_ble_eq_true rfl) (Nat.le_of_ble_eq_true rfl) h
  · refine j_iload_n (pc := 4) C 1 dX7_parse_4 rfl ?_
    refine j_aload_n (pc := 5) C 0 dX7_parse_5 rfl ?_
    refine gf_X7_55 (pc := 6) C dX7_parse_6 h (fun h => ?_)
    refine j_icmp_gt (pc := 9) C 16 dX7_parse_9 (by decide) h (fun h => ?_) (fun h => ?_)
    · refine j_iconst (pc := 16) (v := (0 : Int32)) C dX7_parse_16 rfl ?_
      refine cs0_X7_62 (pc := 17) C ⟨Nat.le_of_ble_eq_true rfl, Nat.le_of_ble_eq_true rfl⟩ ⟨Nat.le_of_ble_eq_true rfl, Nat.le_of_ble_eq_true rfl⟩ (Nat.le_of_ble_eq_true rfl) dX7_parse_17 h (fun M12 h => ?_)
      refine n_new (pc := 20) C co_X3 df_X3 wd_765 wd_766 wd_61 dX7_parse_20 (Nat.le_of_ble_eq_true rfl) (Nat.le_of_ble_eq_true rfl) h (fun a13 M13 h => ?_)
      refine j_dup (pc := 23) C dX7_parse_23 rfl ?_
      refine n_new (pc := 24) C co_X5 df_X5 wd_767 wd_768 wd_62 dX7_parse_24 (Nat.le_of_ble_eq_true rfl) (Nat.le_of_ble_eq_true rfl) h (fun a14 M14 h => ?_)
      refine j_dup (pc := 27) C dX7_parse_27 rfl ?_
      refine j_aload_n (pc := 28) C 0 dX7_parse_28 rfl ?_
      refine gf_X7_9 (pc := 29) C dX7_parse_29 h (fun a15 h => ?_)
      refine j_iload_n (pc := 32) C 1 dX7_parse_32 rfl ?_
      refine cs_X7_70 (pc := 33) C ⟨Nat.le_of_ble_eq_true rfl, Nat.le_of_ble_eq_true rfl⟩ ⟨Nat.le_of_ble_eq_true rfl, Nat.le_of_ble_eq_true rfl⟩ (Nat.le_of_ble_eq_true rfl) dX7_parse_33 h (fun M16 h => ?_)
      refine j_aload_n (pc := 36) C 0 dX7_parse_36 rfl ?_
      refine gf_X7_52 (pc := 37) C dX7_parse_37 h (fun a17 h => ?_)
      refine cs_X7_73 (pc := 40) C ⟨Nat.le_of_ble_eq_true rfl, Nat.le_of_ble_eq_true rfl⟩ ⟨Nat.le_of_ble_eq_true rfl, Nat.le_of_ble_eq_true rfl⟩ (Nat.le_of_ble_eq_true rfl) dX7_parse_40 h (fun M18 h => ?_)
      refine j_astore_n (pc := 43) C [(2, _), (0, _), (1, _)] dX7_parse_43 (by decide) rfl ?_
      refine j_aload_n (pc := 44) C 0 dX7_parse_44 rfl ?_
      refine cs_X7_76 (pc := 45) C ⟨Nat.le_of_ble_eq_true rfl, Nat.le_of_ble_eq_true rfl⟩ ⟨Nat.le_of_ble_eq_true rfl, Nat.le_of_ble_eq_true rfl⟩ (Nat.le_of_ble_eq_true rfl) dX7_parse_45 h (fun M19 h => ?_)
      refine j_aload_n (pc := 48) C 1 dX7_parse_48 rfl ?_
      refine j_aload_n (pc := 49) C 0 dX7_parse_49 rfl ?_
      refine gf_X7_79 (pc := 50) C dX7_parse_50 h (fun h => ?_)
      refine pf_X7_41 (pc := 53) C dX7_parse_53 h (fun M20 h => ?_)
      refine j_aload_n (pc := 56) C 1 dX7_parse_56 rfl ?_
      refine j_iconst (pc := 57) (v := (0 : Int32)) C dX7_parse_57 rfl ?_
      refine pf_X7_55 (pc := 58) C dX7_parse_58 h (fun M21 h => ?_)
      refine j_aload_n (pc := 61) C 0 dX7_parse_61 rfl ?_
      refine gf_X7_82 (pc := 62) C dX7_parse_62 h (fun h => ?_)
      refine j_if_ne (pc := 65) C 72 dX7_parse_65 (by decide) h (fun h => ?_) (fun h => ?_)
      · refine j_aload_n (pc := 72) C 0 dX7_parse_72 rfl ?_
        refine gf_X7_82 (pc := 73) C dX7_parse_73 h (fun h => ?_)
        exact j_iret (pc := 76) C dX7_parse_76 (Nat.le_of_ble_eq_true rfl) (Nat.le_of_ble_eq_true rfl) h
      · refine j_aload_n (pc := 68) C 1 dX7_parse_68 rfl ?_
        refine cs_X7_85 (pc := 69) C ⟨Nat.le_of_ble_eq_true rfl, Nat.le_of_ble_eq_true rfl⟩ ⟨Nat.le_of_ble_eq_true rfl, Nat.le_of_ble_eq_true rfl⟩ (Nat.le_of_ble_eq_true rfl) dX7_parse_69 h (fun M22 h => ?_)
        refine j_aload_n (pc := 72) C 0 dX7_parse_72 rfl ?_
        refine gf_X7_82 (pc := 73) C dX7_parse_73 h (fun h => ?_)
        exact j_iret (pc := 76) C dX7_parse_76 (Nat.le_of_ble_eq_true rfl) (Nat.le_of_ble_eq_true rfl) h
    · refine j_iconst (pc := 12) (v := (1 : Int32)) C dX7_parse_12 rfl ?_
      refine j_goto (pc := 13) C 17 dX7_parse_13 (by decide) ?_
      refine cs0_X7_62 (pc := 17) C ⟨Nat.le_of_ble_eq_true rfl, Nat.le_of_ble_eq_true rfl⟩ ⟨Nat.le_of_ble_eq_true rfl, Nat.le_of_ble_eq_true rfl⟩ (Nat.le_of_ble_eq_true rfl) dX7_parse_17 h (fun M23 h => ?_)
      refine n_new (pc := 20) C co_X3 df_X3 wd_765 wd_766 wd_61 dX7_parse_20 (Nat.le_of_ble_eq_true rfl) (Nat.le_of_ble_eq_true rfl) h (fun a24 M24 h => ?_)
      refine j_dup (pc := 23) C dX7_parse_23 rfl ?_
      refine n_new (pc := 24) C co_X5 df_X5 wd_767 wd_768 wd_62 dX7_parse_24 (Nat.le_of_ble_eq_true rfl) (Nat.le_of_ble_eq_true rfl) h (fun a25 M25 h => ?_)
      refine j_dup (pc := 27) C dX7_parse_27 rfl ?_
      refine j_aload_n (pc := 28) C 0 dX7_parse_28 rfl ?_
      refine gf_X7_9 (pc := 29) C dX7_parse_29 h (fun a26 h => ?_)
      refine j_iload_n (pc := 32) C 1 dX7_parse_32 rfl ?_
      refine cs_X7_70 (pc := 33) C ⟨Nat.le_of_ble_eq_true rfl, Nat.le_of_ble_eq_true rfl⟩ ⟨Nat.le_of_ble_eq_true rfl, Nat.le_of_ble_eq_true rfl⟩ (Nat.le_of_ble_eq_true rfl) dX7_parse_33 h (fun M27 h => ?_)
      refine j_aload_n (pc := 36) C 0 dX7_parse_36 rfl ?_
      refine gf_X7_52 (pc := 37) C dX7_parse_37 h (fun a28 h => ?_)
      refine cs_X7_73 (pc := 40) C ⟨Nat.le_of_ble_eq_true rfl, Nat.le_of_ble_eq_true rfl⟩ ⟨Nat.le_of_ble_eq_true rfl, Nat.le_of_ble_eq_true rfl⟩ (Nat.le_of_ble_eq_true rfl) dX7_parse_40 h (fun M29 h => ?_)
      refine j_astore_n (pc := 43) C [(2, _), (0, _), (1, _)] dX7_parse_43 (by decide) rfl ?_
      refine j_aload_n (pc := 44) C 0 dX7_parse_44 rfl ?_
      refine cs_X7_76 (pc := 45) C ⟨Nat.le_of_ble_eq_true rfl, Nat.le_of_ble_eq_true rfl⟩ ⟨Nat.le_of_ble_eq_true rfl, Nat.le_of_ble_eq_true rfl⟩ (Nat.le_of_ble_eq_true rfl) dX7_parse_45 h (fun M30 h => ?_)
      refine j_aload_n (pc := 48) C 1 dX7_parse_48 rfl ?_
      refine j_aload_n (pc := 49) C 0 dX7_parse_49 rfl ?_
      refine gf_X7_79 (pc := 50) C dX7_parse_50 h (fun h => ?_)
      refine pf_X7_41 (pc := 53) C dX7_parse_53 h (fun M31 h => ?_)
      refine j_aload_n (pc := 56) C 1 dX7_parse_56 rfl ?_
      refine j_iconst (pc := 57) (v := (0 : Int32)) C dX7_parse_57 rfl ?_
      refine pf_X7_55 (pc := 58) C dX7_parse_58 h (fun M32 h => ?_)
      refine j_aload_n (pc := 61) C 0 dX7_parse_61 rfl ?_
      refine gf_X7_82 (pc := 62) C dX7_parse_62 h (fun h => ?_)
      refine j_if_ne (pc := 65) C 72 dX7_parse_65 (by decide) h (fun h => ?_) (fun h => ?_)
      · refine j_aload_n (pc := 72) C 0 dX7_parse_72 rfl ?_
        refine gf_X7_82 (pc := 73) C dX7_parse_73 h (fun h => ?_)
        exact j_iret (pc := 76) C dX7_parse_76 (Nat.le_of_ble_eq_true rfl) (Nat.le_of_ble_eq_true rfl) h
      · refine j_aload_n (pc := 68) C 1 dX7_parse_68 rfl ?_
        refine cs_X7_85 (pc := 69) C ⟨Nat.le_of_ble_eq_true rfl, Nat.le_of_ble_eq_true rfl⟩ ⟨Nat.le_of_ble_eq_true rfl, Nat.le_of_ble_eq_true rfl⟩ (Nat.le_of_ble_eq_true rfl) dX7_parse_69 h (fun M33 h => ?_)
        refine j_aload_n (pc := 72) C 0 dX7_parse_72 rfl ?_
        refine gf_X7_82 (pc := 73) C dX7_parse_73 h (fun h => ?_)
        exact j_iret (pc := 76) C dX7_parse_76 (Nat.le_of_ble_eq_true rfl) (Nat.le_of_ble_eq_true rfl) h
abbrev rm_X7_size : Room := { frames := 6, cells := 1, slots := 6, locals := 89 }
def w_X7_size (M : Mm) (x0 : Nat) (x1 : Int32) (P : Int32 → Mm → Prop) (X : String → Mm → Prop) : Prop := (if x1 = (0 : Int32) then (zk M x0 = 7 ∧ ∃ a1, zR M x0 10 = some a1 ∧ zk M a1 = 6 ∧ P (zI M a1 0) M) else (if x1 = (1 : Int32) then (zk M x0 = 7 ∧ ∃ a2, zR M x0 10 = some a2 ∧ (zk M a2 = 6 ∧ ∃ a3, zR M a2 3 = some a3 ∧ zk M a3 = 2 ∧ P (zI M a3 1) M)) else (if x1 = (2 : Int32) then (zk M x0 = 7 ∧ ∃ a4, zR M x0 10 = some a4 ∧ (zk M a4 = 6 ∧ ∃ a5, zR M a4 5 = some a5 ∧ zk M a5 = 2 ∧ P (zI M a5 1) M)) else (if x1 = (3 : Int32) then (zk M x0 = 7 ∧ ∃ a6, zR M x0 10 = some a6 ∧ (zk M a6 = 6 ∧ ∃ a7, zR M a6 12 = some a7 ∧ zk M a7 = 2 ∧ P (zI M a7 1) M)) else (if x1 = (4 : Int32) then (zk M x0 = 7 ∧ ∃ a8, zR M x0 10 = some a8 ∧ (zk M a8 = 6 ∧ ∃ a9, zR M a8 11 = some a9 ∧ zk M a9 = 2 ∧ P (zI M a9 1) M)) else (if x1 = (5 : Int32) then (zk M x0 = 7 ∧ ∃ a10, zR M x0 2 = some a10 ∧ zk M a10 = 4 ∧ P (zI M a10 0) M) else (if x1 = (6 : Int32) then (zk M x0 = 7 ∧ ∃ a11, zR M x0 10 = some a11 ∧ zk M a11 = 6 ∧ P (zI M a11 1) M) else (if x1 = (7 : Int32) then zk M x0 = 7 ∧ P (zI M x0 9) M else (∀ n12, zn M ≤ n12 → X "java/lang/IllegalArgumentException" (sZ M n12))))))))))
set_option maxHeartbeats 4000000 in
set_option maxRecDepth 100000 in
theorem c_X7_size (l : Launch) (E : EV) (M : Mm) (x0 : Nat) (x1 : Int32) (P : Int32 → Mm → Prop) (X : String → Mm → Prop) (h : w_X7_size M x0 x1 P X) : CtIX l E yX7_size cX7_size 2 .int rm_X7_size 1 6 [.ref x0, .int x1] M P X := by
  refine ctIX_of (by decide +kernel) (Nat.le_of_ble_eq_true rfl) ?_
  intro p e s m args below meth c C hex
  rw [w_X7_size] at h
  show J p l e rm_X7_size s m args below meth c (QIX below E P X args s 1 6) E 2 M 0 0 0 [(0, .ref x0), (1, .int x1)] []
  refine j_iload_n (pc := 0) C 1 dX7_size_0 rfl ?_
  by_cases q1_0 : x1 = (0 : Int32)
  · rw [if_pos q1_0] at h
    refine j_tsI (pc := 1) (off := 47) C 48 dX7_size_1 q1_0 (by decide) (by decide) (by decide) (by decide) ?_
    refine j_aload_n (pc := 48) C 0 dX7_size_48 rfl ?_
    refine gf_X7_48 (pc := 49) C dX7_size_49 h (fun a1 h => ?_)
    refine gf_X7_98 (pc := 52) C dX7_size_52 h (fun h => ?_)
    exact j_iretX (pc := 55) C dX7_size_55 (Nat.le_of_ble_eq_true rfl) (Nat.le_of_ble_eq_true rfl) h
  rw [if_neg q1_0] at h
  by_cases q1_1 : x1 = (1 : Int32)
  · rw [if_pos q1_1] at h
    refine j_tsI (pc := 1) (off := 55) C 56 dX7_size_1 q1_1 (by decide) (by decide) (by decide) (by decide) ?_
    refine j_aload_n (pc := 56) C 0 dX7_size_56 rfl ?_
    refine gf_X7_48 (pc := 57) C dX7_size_57 h (fun a2 h => ?_)
    refine gf_X7_101 (pc := 60) C dX7_size_60 h (fun a3 h => ?_)
    refine gf_X7_105 (pc := 63) C dX7_size_63 h (fun h => ?_)
    exact j_iretX (pc := 66) C dX7_size_66 (Nat.le_of_ble_eq_true rfl) (Nat.le_of_ble_eq_true rfl) h
  rw [if_neg q1_1] at h
  by_cases q1_2 : x1 = (2 : Int32)
  · rw [if_pos q1_2] at h
    refine j_tsI (pc := 1) (off := 66) C 67 dX7_size_1 q1_2 (by decide) (by decide) (by decide) (by decide) ?_
    refine j_aload_n (pc := 67) C 0 dX7_size_67 rfl ?_
    refine gf_X7_48 (pc := 68) C dX7_size_68 h (fun a4 h => ?_)
    refine gf_X7_110 (pc := 71) C dX7_size_71 h (fun a5 h => ?_)
    refine gf_X7_105 (pc := 74) C dX7_size_74 h (fun h => ?_)
    exact j_iretX (pc := 77) C dX7_size_77 (Nat.le_of_ble_eq_true rfl) (Nat.le_of_ble_eq_true rfl) h
  rw [if_neg q1_2] at h
  by_cases q1_3 : x1 = (3 : Int32)
  · rw [if_pos q1_3] at h
    refine j_tsI (pc := 1) (off := 77) C 78 dX7_size_1 q1_3 (by decide) (by decide) (by decide) (by decide) ?_
    refine j_aload_n (pc := 78) C 0 dX7_size_78 rfl ?_
    refine gf_X7_48 (pc := 79) C dX7_size_79 h (fun a6 h => ?_)
    refine gf_X7_113 (pc := 82) C dX7_size_82 h (fun a7 h => ?_)
    refine gf_X7_105 (pc := 85) C dX7_size_85 h (fun h => ?_)
    exact j_iretX (pc := 88) C dX7_size_88 (Nat.le_of_ble_eq_true rfl) (Nat.le_of_ble_eq_true rfl) h
  rw [if_neg q1_3] at h
  by_cases q1_4 : x1 = (4 : Int32)
  · rw [if_pos q1_4] at h
    refine j_tsI (pc := 1) (off := 88) C 89 dX7_size_1 q1_4 (by decide) (by decide) (by decide) (by decide) ?_
    refine j_aload_n (pc := 89) C 0 dX7_size_89 rfl ?_
    refine gf_X7_48 (pc := 90) C dX7_size_90 h (fun a8 h => ?_)
    refine gf_X7_116 (pc := 93) C dX7_size_93 h (fun a9 h => ?_)
    refine gf_X7_105 (pc := 96) C dX7_size_96 h (fun h => ?_)
    exact j_iretX (pc := 99) C dX7_size_99 (Nat.le_of_ble_eq_true rfl) (Nat.le_of_ble_eq_true rfl) h
  rw [if_neg q1_4] at h
  by_cases q1_5 : x1 = (5 : Int32)
  · rw [if_pos q1_5] at h
    refine j_tsI (pc := 1) (off := 99) C 100 dX7_size_1 q1_5 (by decide) (by decide) (by decide) (by decide) ?_
    refine j_aload_n (pc := 100) C 0 dX7_size_100 rfl ?_
    refine gf_X7_23 (pc := 101) C dX7_size_101 h (fun a10 h => ?_)
    refine gf_X7_119 (pc := 104) C dX7_size_104 h (fun h => ?_)
    exact j_iretX (pc := 107) C dX7_size_107 (Nat.le_of_ble_eq_true rfl) (Nat.le_of_ble_eq_true rfl) h
  rw [if_neg q1_5] at h
  by_cases q1_6 : x1 = (6 : Int32)
  · rw [if_pos q1_6] at h
    refine j_tsI (pc := 1) (off := 107) C 108 dX7_size_1 q1_6 (by decide) (by decide) (by decide) (by decide) ?_
    refine j_aload_n (pc := 108) C 0 dX7_size_108 rfl ?_
    refine gf_X7_48 (pc := 109) C dX7_size_109 h (fun a11 h => ?_)
    refine gf_X7_120 (pc := 112) C dX7_size_112 h (fun h => ?_)
    exact j_iretX (pc := 115) C dX7_size_115 (Nat.le_of_ble_eq_true rfl) (Nat.le_of_ble_eq_true rfl) h
  rw [if_neg q1_6] at h
  by_cases q1_7 : x1 = (7 : Int32)
  · rw [if_pos q1_7] at h
    refine j_tsI (pc := 1) (off := 115) C 116 dX7_size_1 q1_7 (by decide) (by decide) (by decide) (by decide) ?_
    refine j_aload_n (pc := 116) C 0 dX7_size_116 rfl ?_
    refine gf_X7_95 (pc := 117) C dX7_size_117 h (fun h => ?_)
    exact j_iretX (pc := 120) C dX7_size_120 (Nat.le_of_ble_eq_true rfl) (Nat.le_of_ble_eq_true rfl) h
  rw [if_neg q1_7] at h
  refine j_tsO (pc := 1) C 121 dX7_size_1 (fun k h1 h2 => ?_) (by decide) ?_
  · rcases (show k = 0 ∨ k = 1 ∨ k = 2 ∨ k = 3 ∨ k = 4 ∨ k = 5 ∨ k = 6 ∨ k = 7 by omega) with rfl | rfl | rfl | rfl | rfl | rfl | rfl | rfl
    · exact ts_no q1_0 (by decide)
    · exact ts_no q1_1 (by decide)
    · exact ts_no q1_2 (by decide)
    · exact ts_no q1_3 (by decide)
    · exact ts_no q1_4 (by decide)
    · exact ts_no q1_5 (by decide)
    · exact ts_no q1_6 (by decide)
    · exact ts_no q1_7 (by decide)
  exact j_throw (pc := 121) C hex (by decide +kernel) (by decide +kernel) wd_702 wd_60 th_X7_125 dX7_size_121 dX7_size_124 dX7_size_125 dX7_size_128 (Nat.le_of_ble_eq_true rfl) (Nat.le_of_ble_eq_true rfl) (Nat.le_of_ble_eq_true rfl) (Nat.le_of_ble_eq_true rfl) (Nat.le_of_ble_eq_true rfl) (Nat.le_of_ble_eq_true rfl) h
abbrev rm0_X7_size : Room := { frames := 0, cells := 0, slots := 0, locals := 0 }
set_option maxHeartbeats 4000000 in
set_option maxRecDepth 100000 in
theorem c0_X7_size (l : Launch) (E : EV) (M : Mm) (x0 : Nat) (x1 : Int32) (P : Int32 → Mm → Prop) (h : w_X7_size M x0 x1 P (fun _ _ => False)) : CtI l E yX7_size cX7_size 2 .int rm0_X7_size 0 0 [.ref x0, .int x1] M P := by
  refine ctI_of (by decide +kernel) (Nat.le_of_ble_eq_true rfl) ?_
  intro p e s m args below meth c C
  rw [w_X7_size] at h
  show J p l e rm0_X7_size s m args below meth c (QI below E P args s 0 0) E 2 M 0 0 0 [(0, .ref x0), (1, .int x1)] []
  refine j_iload_n (pc := 0) C 1 dX7_size_0 rfl ?_
  by_cases q1_0 : x1 = (0 : Int32)
  · rw [if_pos q1_0] at h
    refine j_tsI (pc := 1) (off := 47) C 48 dX7_size_1 q1_0 (by decide) (by decide) (by decide) (by decide) ?_
    refine j_aload_n (pc := 48) C 0 dX7_size_48 rfl ?_
    refine gf_X7_48 (pc := 49) C dX7_size_49 h (fun a1 h => ?_)
    refine gf_X7_98 (pc := 52) C dX7_size_52 h (fun h => ?_)
    exact j_iret (pc := 55) C dX7_size_55 (Nat.le_of_ble_eq_true rfl) (Nat.le_of_ble_eq_true rfl) h
  rw [if_neg q1_0] at h
  by_cases q1_1 : x1 = (1 : Int32)
  · rw [if_pos q1_1] at h
    refine j_tsI (pc := 1) (off := 55) C 56 dX7_size_1 q1_1 (by decide) (by decide) (by decide) (by decide) ?_
    refine j_aload_n (pc := 56) C 0 dX7_size_56 rfl ?_
    refine gf_X7_48 (pc := 57) C dX7_size_57 h (fun a2 h => ?_)
    refine gf_X7_101 (pc := 60) C dX7_size_60 h (fun a3 h => ?_)
    refine gf_X7_105 (pc := 63) C dX7_size_63 h (fun h => ?_)
    exact j_iret (pc := 66) C dX7_size_66 (Nat.le_of_ble_eq_true rfl) (Nat.le_of_ble_eq_true rfl) h
  rw [if_neg q1_1] at h
  by_cases q1_2 : x1 = (2 : Int32)
  · rw [if_pos q1_2] at h
    refine j_tsI (pc := 1) (off := 66) C 67 dX7_size_1 q1_2 (by decide) (by decide) (by decide) (by decide) ?_
    refine j_aload_n (pc := 67) C 0 dX7_size_67 rfl ?_
    refine gf_X7_48 (pc := 68) C dX7_size_68 h (fun a4 h => ?_)
    refine gf_X7_110 (pc := 71) C dX7_size_71 h (fun a5 h => ?_)
    refine gf_X7_105 (pc := 74) C dX7_size_74 h (fun h => ?_)
    exact j_iret (pc := 77) C dX7_size_77 (Nat.le_of_ble_eq_true rfl) (Nat.le_of_ble_eq_true rfl) h
  rw [if_neg q1_2] at h
  by_cases q1_3 : x1 = (3 : Int32)
  · rw [if_pos q1_3] at h
    refine j_tsI (pc := 1) (off := 77) C 78 dX7_size_1 q1_3 (by decide) (by decide) (by decide) (by decide) ?_
    refine j_aload_n (pc := 78) C 0 dX7_size_78 rfl ?_
    refine gf_X7_48 (pc := 79) C dX7_size_79 h (fun a6 h => ?_)
    refine gf_X7_113 (pc := 82) C dX7_size_82 h (fun a7 h => ?_)
    refine gf_X7_105 (pc := 85) C dX7_size_85 h (fun h => ?_)
    exact j_iret (pc := 88) C dX7_size_88 (Nat.le_of_ble_eq_true rfl) (Nat.le_of_ble_eq_true rfl) h
  rw [if_neg q1_3] at h
  by_cases q1_4 : x1 = (4 : Int32)
  · rw [if_pos q1_4] at h
    refine j_tsI (pc := 1) (off := 88) C 89 dX7_size_1 q1_4 (by decide) (by decide) (by decide) (by decide) ?_
    refine j_aload_n (pc := 89) C 0 dX7_size_89 rfl ?_
    refine gf_X7_48 (pc := 90) C dX7_size_90 h (fun a8 h => ?_)
    refine gf_X7_116 (pc := 93) C dX7_size_93 h (fun a9 h => ?_)
    refine gf_X7_105 (pc := 96) C dX7_size_96 h (fun h => ?_)
    exact j_iret (pc := 99) C dX7_size_99 (Nat.le_of_ble_eq_true rfl) (Nat.le_of_ble_eq_true rfl) h
  rw [if_neg q1_4] at h
  by_cases q1_5 : x1 = (5 : Int32)
  · rw [if_pos q1_5] at h
    refine j_tsI (pc := 1) (off := 99) C 100 dX7_size_1 q1_5 (by decide) (by decide) (by decide) (by decide) ?_
    refine j_aload_n (pc := 100) C 0 dX7_size_100 rfl ?_
    refine gf_X7_23 (pc := 101) C dX7_size_101 h (fun a10 h => ?_)
    refine gf_X7_119 (pc := 104) C dX7_size_104 h (fun h => ?_)
    exact j_iret (pc := 107) C dX7_size_107 (Nat.le_of_ble_eq_true rfl) (Nat.le_of_ble_eq_true rfl) h
  rw [if_neg q1_5] at h
  by_cases q1_6 : x1 = (6 : Int32)
  · rw [if_pos q1_6] at h
    refine j_tsI (pc := 1) (off := 107) C 108 dX7_size_1 q1_6 (by decide) (by decide) (by decide) (by decide) ?_
    refine j_aload_n (pc := 108) C 0 dX7_size_108 rfl ?_
    refine gf_X7_48 (pc := 109) C dX7_size_109 h (fun a11 h => ?_)
    refine gf_X7_120 (pc := 112) C dX7_size_112 h (fun h => ?_)
    exact j_iret (pc := 115) C dX7_size_115 (Nat.le_of_ble_eq_true rfl) (Nat.le_of_ble_eq_true rfl) h
  rw [if_neg q1_6] at h
  by_cases q1_7 : x1 = (7 : Int32)
  · rw [if_pos q1_7] at h
    refine j_tsI (pc := 1) (off := 115) C 116 dX7_size_1 q1_7 (by decide) (by decide) (by decide) (by decide) ?_
    refine j_aload_n (pc := 116) C 0 dX7_size_116 rfl ?_
    refine gf_X7_95 (pc := 117) C dX7_size_117 h (fun h => ?_)
    exact j_iret (pc := 120) C dX7_size_120 (Nat.le_of_ble_eq_true rfl) (Nat.le_of_ble_eq_true rfl) h
  rw [if_neg q1_7] at h
  refine j_tsO (pc := 1) C 121 dX7_size_1 (fun k h1 h2 => ?_) (by decide) ?_
  · rcases (show k = 0 ∨ k = 1 ∨ k = 2 ∨ k = 3 ∨ k = 4 ∨ k = 5 ∨ k = 6 ∨ k = 7 by omega) with rfl | rfl | rfl | rfl | rfl | rfl | rfl | rfl
    · exact ts_no q1_0 (by decide)
    · exact ts_no q1_1 (by decide)
    · exact ts_no q1_2 (by decide)
    · exact ts_no q1_3 (by decide)
    · exact ts_no q1_4 (by decide)
    · exact ts_no q1_5 (by decide)
    · exact ts_no q1_6 (by decide)
    · exact ts_no q1_7 (by decide)
  exact (h _ (Nat.le_refl _)).elim
abbrev rm_X7_requireIndex : Room := { frames := 6, cells := 1, slots := 6, locals := 89 }
def w_X7_requireIndex (M : Mm) (x0 : Int32) (x1 : Int32) (P : Mm → Prop) (X : String → Mm → Prop) : Prop := (if x0 < 0 then (∀ n1, zn M ≤ n1 → X "java/lang/IndexOutOfBoundsException" (sZ M n1)) else (if x0 < x1 then P M else (∀ n2, zn M ≤ n2 → X "java/lang/IndexOutOfBoundsException" (sZ M n2))))
set_option maxHeartbeats 4000000 in
set_option maxRecDepth 100000 in
theorem c_X7_requireIndex (l : Launch) (E : EV) (M : Mm) (x0 : Int32) (x1 : Int32) (P : Mm → Prop) (X : String → Mm → Prop) (h : w_X7_requireIndex M x0 x1 P X) : CtVX l E yX7_requireIndex cX7_requireIndex 2 rm_X7_requireIndex 1 6 [.int x0, .int x1] M P X := by
  refine ctVX_of (by decide +kernel) (Nat.le_of_ble_eq_true rfl) ?_
  intro p e s m args below meth c C hex
  rw [w_X7_requireIndex] at h
  show J p l e rm_X7_requireIndex s m args below meth c (QVX below E P X args s 1 6) E 2 M 0 0 0 [(0, .int x0), (1, .int x1)] []
  refine j_iload_n (pc := 0) C 0 dX7_requireIndex_0 rfl ?_
  refine j_if_lt (pc := 1) C 9 dX7_requireIndex_1 (by decide) h (fun h => ?_) (fun h => ?_)
  · exact j_throw (pc := 9) C hex (by decide +kernel) (by decide +kernel) wd_949 wd_63 th_X7_361 dX7_requireIndex_9 dX7_requireIndex_12 dX7_requireIndex_13 dX7_requireIndex_16 (Nat.le_of_ble_eq_true rfl) (Nat.le_of_ble_eq_true rfl) (Nat.le_of_ble_eq_true rfl) (Nat.le_of_ble_eq_true rfl) (Nat.le_of_ble_eq_true rfl) (Nat.le_of_ble_eq_true rfl) h
  · refine j_iload_n (pc := 4) C 0 dX7_requireIndex_4 rfl ?_
    refine j_iload_n (pc := 5) C 1 dX7_requireIndex_5 rfl ?_
    refine j_icmp_lt (pc := 6) C 17 dX7_requireIndex_6 (by decide) h (fun h => ?_) (fun h => ?_)
    · exact j_vretX (pc := 17) C dX7_requireIndex_17 (Nat.le_of_ble_eq_true rfl) (Nat.le_of_ble_eq_true rfl) h
    · exact j_throw (pc := 9) C hex (by decide +kernel) (by decide +kernel) wd_949 wd_63 th_X7_361 dX7_requireIndex_9 dX7_requireIndex_12 dX7_requireIndex_13 dX7_requireIndex_16 (Nat.le_of_ble_eq_true rfl) (Nat.le_of_ble_eq_true rfl) (Nat.le_of_ble_eq_true rfl) (Nat.le_of_ble_eq_true rfl) (Nat.le_of_ble_eq_true rfl) (Nat.le_of_ble_eq_true rfl) h
abbrev rm0_X7_requireIndex : Room := { frames := 0, cells := 0, slots := 0, locals := 0 }
set_option maxHeartbeats 4000000 in
set_option maxRecDepth 100000 in
theorem c0_X7_requireIndex (l : Launch) (E : EV) (M : Mm) (x0 : Int32) (x1 : Int32) (P : Mm → Prop) (h : w_X7_requireIndex M x0 x1 P (fun _ _ => False)) : CtV l E yX7_requireIndex cX7_requireIndex 2 rm0_X7_requireIndex 0 0 [.int x0, .int x1] M P := by
  refine ctV_of (by decide +kernel) (Nat.le_of_ble_eq_true rfl) ?_
  intro p e s m args below meth c C hnm
  rw [w_X7_requireIndex] at h
  show J p l e rm0_X7_requireIndex s m args below meth c (QV below E P args s 0 0) E 2 M 0 0 0 [(0, .int x0), (1, .int x1)] []
  refine j_iload_n (pc := 0) C 0 dX7_requireIndex_0 rfl ?_
  refine j_if_lt (pc := 1) C 9 dX7_requireIndex_1 (by decide) h (fun h => ?_) (fun h => ?_)
  · exact (h _ (Nat.le_refl _)).elim
  · refine j_iload_n (pc := 4) C 0 dX7_requireIndex_4 rfl ?_
    refine j_iload_n (pc := 5) C 1 dX7_requireIndex_5 rfl ?_
    refine j_icmp_lt (pc := 6) C 17 dX7_requireIndex_6 (by decide) h (fun h => ?_) (fun h => ?_)
    · exact j_vret (pc := 17) C dX7_requireIndex_17 (Nat.le_of_ble_eq_true rfl) (Nat.le_of_ble_eq_true rfl) h
    · exact (h _ (Nat.le_refl _)).elim
theorem cs_X7_312 {Qc : Array Value → State → Outcome → State → Prop} {X : String → Mm → Prop} {mc2 ms2 : Nat} (C : Cx p l s m args meth c cc nL RX7 ret E) (hex : ∀ x ∈ c.exceptionTable.toList, False) {y0 : Int32} {y1 : Int32} {P : Mm → Prop} (hR : rm_X7_requireIndex.frames + 1 ≤ R.frames ∧ 8 + (2 + 11) + rm_X7_requireIndex.locals ≤ R.locals) (hf : kc + 1 ≤ R.cells ∧ ks + 6 ≤ R.slots) (hf2 : kc + 1 ≤ mc2 ∧ ks + 6 ≤ ms2) (hst : (st.map fun v => v.category).sum ≤ 8) (d : decode cc pc = .ok (.invokestatic 312, 3)) (h : w_X7_requireIndex M y0 y1 P X) (kk : ∀ M', P M' → J p l e R s m args below meth c (vx_MQ below Qc (XX E X) args s mc2 ms2 (fun q => E.2.2.1 ≤ q)) E nL M' (kc + 1) (ks + 6) (pc + 3) lo st) : J p l e R s m args below meth c (vx_MQ below Qc (XX E X) args s mc2 ms2 (fun q => E.2.2.1 ≤ q)) E nL M kc ks pc lo (.int y1 :: .int y0 :: st) :=
  j_xS_V (n := 2) (As := [.int y0, .int y1]) C hex wd_947 (c_X7_requireIndex l E M y0 y1 P X h) ⟨wd_948, wd_946, wd_40, by decide +kernel, by decide +kernel, by decide +kernel⟩ rfl rfl hR hf hf2 rfl hst d (fun _ _ q => q) kk
theorem cs0_X7_312 (C : Cx p l s m args meth c cc nL RX7 ret E) {y0 : Int32} {y1 : Int32} {P : Mm → Prop} (hR : rm0_X7_requireIndex.frames + 1 ≤ R.frames ∧ 8 + (2 + 11) + rm0_X7_requireIndex.locals ≤ R.locals) (hf : kc ≤ R.cells ∧ ks ≤ R.slots) (hst : (st.map fun v => v.category).sum ≤ 8) (d : decode cc pc = .ok (.invokestatic 312, 3)) (h : w_X7_requireIndex M y0 y1 P (fun _ _ => False)) (kk : ∀ M', P M' → J p l e R s m args below meth c Q E nL M' kc ks (pc + 3) lo st) : J p l e R s m args below meth c Q E nL M kc ks pc lo (.int y1 :: .int y0 :: st) :=
  j_cS_V (n := 2) (As := [.int y0, .int y1]) C wd_947 (c0_X7_requireIndex l E M y0 y1 P h) ⟨wd_948, wd_946, wd_40, by decide +kernel, by decide +kernel, by decide +kernel⟩ rfl rfl hR hf rfl hst d kk
abbrev rm_X7_requirePlayer : Room := { frames := 7, cells := 1, slots := 6, locals := 110 }
def w_X7_requirePlayer (M : Mm) (x0 : Nat) (x1 : Int32) (P : Mm → Prop) (X : String → Mm → Prop) : Prop := (zk M x0 = 7 ∧ ∃ a1, zR M x0 10 = some a1 ∧ (zk M a1 = 6 ∧ ∃ a2, zR M a1 5 = some a2 ∧ zk M a2 = 2 ∧ w_X7_requireIndex M x1 (zI M a2 1) (fun M3 => P M3) X))
set_option maxHeartbeats 4000000 in
set_option maxRecDepth 100000 in
theorem c_X7_requirePlayer (l : Launch) (E : EV) (M : Mm) (x0 : Nat) (x1 : Int32) (P : Mm → Prop) (X : String → Mm → Prop) (h : w_X7_requirePlayer M x0 x1 P X) : CtVX l E yX7_requirePlayer cX7_requirePlayer 2 rm_X7_requirePlayer 1 6 [.ref x0, .int x1] M P X := by
  refine ctVX_of (by decide +kernel) (Nat.le_of_ble_eq_true rfl) ?_
  intro p e s m args below meth c C hex
  rw [w_X7_requirePlayer] at h
  show J p l e rm_X7_requirePlayer s m args below meth c (QVX below E P X args s 1 6) E 2 M 0 0 0 [(0, .ref x0), (1, .int x1)] []
  refine j_iload_n (pc := 0) C 1 dX7_requirePlayer_0 rfl ?_
  refine j_aload_n (pc := 1) C 0 dX7_requirePlayer_1 rfl ?_
  refine gf_X7_48 (pc := 2) C dX7_requirePlayer_2 h (fun a1 h => ?_)
  refine gf_X7_110 (pc := 5) C dX7_requirePlayer_5 h (fun a2 h => ?_)
  refine gf_X7_105 (pc := 8) C dX7_requirePlayer_8 h (fun h => ?_)
  refine cs_X7_312 (pc := 11) C hex ⟨Nat.le_of_ble_eq_true rfl, Nat.le_of_ble_eq_true rfl⟩ ⟨Nat.le_of_ble_eq_true rfl, Nat.le_of_ble_eq_true rfl⟩ ⟨Nat.le_of_ble_eq_true rfl, Nat.le_of_ble_eq_true rfl⟩ (Nat.le_of_ble_eq_true rfl) dX7_requirePlayer_11 h (fun M3 h => ?_)
  exact j_vretX (pc := 14) C dX7_requirePlayer_14 (Nat.le_of_ble_eq_true rfl) (Nat.le_of_ble_eq_true rfl) h
abbrev rm0_X7_requirePlayer : Room := { frames := 1, cells := 0, slots := 0, locals := 21 }
set_option maxHeartbeats 4000000 in
set_option maxRecDepth 100000 in
theorem c0_X7_requirePlayer (l : Launch) (E : EV) (M : Mm) (x0 : Nat) (x1 : Int32) (P : Mm → Prop) (h : w_X7_requirePlayer M x0 x1 P (fun _ _ => False)) : CtV l E yX7_requirePlayer cX7_requirePlayer 2 rm0_X7_requirePlayer 0 0 [.ref x0, .int x1] M P := by
  refine ctV_of (by decide +kernel) (Nat.le_of_ble_eq_true rfl) ?_
  intro p e s m args below meth c C hnm
  rw [w_X7_requirePlayer] at h
  show J p l e rm0_X7_requirePlayer s m args below meth c (QV below E P args s 0 0) E 2 M 0 0 0 [(0, .ref x0), (1, .int x1)] []
  refine j_iload_n (pc := 0) C 1 dX7_requirePlayer_0 rfl ?_
  refine j_aload_n (pc := 1) C 0 dX7_requirePlayer_1 rfl ?_
  refine gf_X7_48 (pc := 2) C dX7_requirePlayer_2 h (fun a1 h => ?_)
  refine gf_X7_110 (pc := 5) C dX7_requirePlayer_5 h (fun a2 h => ?_)
  refine gf_X7_105 (pc := 8) C dX7_requirePlayer_8 h (fun h => ?_)
  refine cs0_X7_312 (pc := 11) C ⟨Nat.le_of_ble_eq_true rfl, Nat.le_of_ble_eq_true rfl⟩ ⟨Nat.le_of_ble_eq_true rfl, Nat.le_of_ble_eq_true rfl⟩ (Nat.le_of_ble_eq_true rfl) dX7_requirePlayer_11 h (fun M3 h => ?_)
  exact j_vret (pc := 14) C dX7_requirePlayer_14 (Nat.le_of_ble_eq_true rfl) (Nat.le_of_ble_eq_true rfl) h
theorem cs_X7_148 {Qc : Array Value → State → Outcome → State → Prop} {X : String → Mm → Prop} {mc2 ms2 : Nat} (C : Cx p l s m args meth c cc nL RX7 ret E) (hex : ∀ x ∈ c.exceptionTable.toList, False) {b : Nat} {y0 : Int32} {P : Mm → Prop} (hR : rm_X7_requirePlayer.frames + 1 ≤ R.frames ∧ 8 + (2 + 11) + rm_X7_requirePlayer.locals ≤ R.locals) (hf : kc + 1 ≤ R.cells ∧ ks + 6 ≤ R.slots) (hf2 : kc + 1 ≤ mc2 ∧ ks + 6 ≤ ms2) (hst : (st.map fun v => v.category).sum ≤ 8) (d : decode cc pc = .ok (.invokevirtual 148, 3)) (h : zk M b = 7 ∧ w_X7_requirePlayer M b y0 P X) (kk : ∀ M', P M' → J p l e R s m args below meth c (vx_MQ below Qc (XX E X) args s mc2 ms2 (fun q => E.2.2.1 ≤ q)) E nL M' (kc + 1) (ks + 6) (pc + 3) lo st) : J p l e R s m args below meth c (vx_MQ below Qc (XX E X) args s mc2 ms2 (fun q => E.2.2.1 ≤ q)) E nL M kc ks pc lo (.int y0 :: .ref b :: st) :=
  j_xV_V (n := 1) (As := [.int y0]) C hex co_X7 rfl wd_944 wd_17 h.1 (c_X7_requirePlayer l E M b y0 P X h.2) ⟨wd_945, wd_942, wd_40, by decide +kernel, by decide +kernel, by decide +kernel⟩ rfl rfl hR hf hf2 rfl hst d (fun _ _ q => q) kk
theorem cs0_X7_148 (C : Cx p l s m args meth c cc nL RX7 ret E) {b : Nat} {y0 : Int32} {P : Mm → Prop} (hR : rm0_X7_requirePlayer.frames + 1 ≤ R.frames ∧ 8 + (2 + 11) + rm0_X7_requirePlayer.locals ≤ R.locals) (hf : kc ≤ R.cells ∧ ks ≤ R.slots) (hst : (st.map fun v => v.category).sum ≤ 8) (d : decode cc pc = .ok (.invokevirtual 148, 3)) (h : zk M b = 7 ∧ w_X7_requirePlayer M b y0 P (fun _ _ => False)) (kk : ∀ M', P M' → J p l e R s m args below meth c Q E nL M' kc ks (pc + 3) lo st) : J p l e R s m args below meth c Q E nL M kc ks pc lo (.int y0 :: .ref b :: st) :=
  j_cV_V (n := 1) (As := [.int y0]) C co_X7 rfl wd_944 wd_17 h.1 (c0_X7_requirePlayer l E M b y0 P h.2) ⟨wd_945, wd_942, wd_40, by decide +kernel, by decide +kernel, by decide +kernel⟩ rfl rfl hR hf rfl hst d kk
theorem cs_X7_161 (C : Cx p l s m args meth c cc nL RX7 ret E) {b : Nat} {y0 : Int32} {P : Int32 → Mm → Prop} (hR : rm_X4_servicesOf.frames + 1 ≤ R.frames ∧ 8 + (4 + 11) + rm_X4_servicesOf.locals ≤ R.locals) (hf : kc ≤ R.cells ∧ ks ≤ R.slots) (hst : (st.map fun v => v.category).sum ≤ 8) (d : decode cc pc = .ok (.invokevirtual 161, 3)) (h : zk M b = 4 ∧ w_X4_servicesOf M b y0 P) (kk : ∀ r M', P r M' → J p l e R s m args below meth c Q E nL M' kc ks (pc + 3) lo (.int r :: st)) : J p l e R s m args below meth c Q E nL M kc ks pc lo (.int y0 :: .ref b :: st) :=
  j_cV_I (n := 1) (As := [.int y0]) C co_X4 rfl wd_1290 wd_1291 h.1 (c_X4_servicesOf l E M b y0 P h.2) ⟨wd_1292, wd_1289, wd_42, by decide +kernel, by decide +kernel, by decide +kernel⟩ rfl rfl hR hf rfl hst d kk
theorem cs_X7_165 (C : Cx p l s m args meth c cc nL RX7 ret E) {y0 : Nat} {y1 : Nat} {y2 : Int32} {P : Int32 → Mm → Prop} (hR : rm_X1_doublingsOf.frames + 1 ≤ R.frames ∧ 8 + (5 + 11) + rm_X1_doublingsOf.locals ≤ R.locals) (hf : kc ≤ R.cells ∧ ks ≤ R.slots) (hst : (st.map fun v => v.category).sum ≤ 8) (d : decode cc pc = .ok (.invokestatic 165, 3)) (h : w_X1_doublingsOf M y0 y1 y2 P) (kk : ∀ r M', P r M' → J p l e R s m args below meth c Q E nL M' kc ks (pc + 3) lo (.int r :: st)) : J p l e R s m args below meth c Q E nL M kc ks pc lo (.int y2 :: .ref y1 :: .ref y0 :: st) :=
  j_cS_I (n := 3) (As := [.ref y0, .ref y1, .int y2]) C wd_1294 (c_X1_doublingsOf l E M y0 y1 y2 P h) ⟨wd_1295, wd_1293, wd_65, by decide +kernel, by decide +kernel, by decide +kernel⟩ rfl rfl hR hf rfl hst d kk
theorem cs_X7_171 (C : Cx p l s m args meth c cc nL RX7 ret E) {b : Nat} {y0 : Int32} {P : Int32 → Mm → Prop} (hR : rm_X4_beyondContract.frames + 1 ≤ R.frames ∧ 8 + (2 + 11) + rm_X4_beyondContract.locals ≤ R.locals) (hf : kc ≤ R.cells ∧ ks ≤ R.slots) (hst : (st.map fun v => v.category).sum ≤ 8) (d : decode cc pc = .ok (.invokevirtual 171, 3)) (h : zk M b = 4 ∧ w_X4_beyondContract M b y0 P) (kk : ∀ r M', P r M' → J p l e R s m args below meth c Q E nL M' kc ks (pc + 3) lo (.int r :: st)) : J p l e R s m args below meth c Q E nL M kc ks pc lo (.int y0 :: .ref b :: st) :=
  j_cV_I (n := 1) (As := [.int y0]) C co_X4 rfl wd_1297 wd_1298 h.1 (c_X4_beyondContract l E M b y0 P h.2) ⟨wd_1299, wd_1296, wd_42, by decide +kernel, by decide +kernel, by decide +kernel⟩ rfl rfl hR hf rfl hst d kk
theorem cs_X7_180 (C : Cx p l s m args meth c cc nL RX7 ret E) {y0 : Nat} {y1 : Nat} {y2 : Int32} {P : Int32 → Mm → Prop} (hR : rm_X1_overtimeOf.frames + 1 ≤ R.frames ∧ 8 + (3 + 11) + rm_X1_overtimeOf.locals ≤ R.locals) (hf : kc ≤ R.cells ∧ ks ≤ R.slots) (hst : (st.map fun v => v.category).sum ≤ 8) (d : decode cc pc = .ok (.invokestatic 180, 3)) (h : w_X1_overtimeOf M y0 y1 y2 P) (kk : ∀ r M', P r M' → J p l e R s m args below meth c Q E nL M' kc ks (pc + 3) lo (.int r :: st)) : J p l e R s m args below meth c Q E nL M kc ks pc lo (.int y2 :: .ref y1 :: .ref y0 :: st) :=
  j_cS_I (n := 3) (As := [.ref y0, .ref y1, .int y2]) C wd_1303 (c_X1_overtimeOf l E M y0 y1 y2 P h) ⟨wd_1304, wd_1302, wd_65, by decide +kernel, by decide +kernel, by decide +kernel⟩ rfl rfl hR hf rfl hst d kk
abbrev rm_X7_player : Room := { frames := 8, cells := 2, slots := 12, locals := 131 }
def w_X7_player (M : Mm) (x0 : Nat) (x1 : Int32) (x2 : Int32) (P : Int32 → Mm → Prop) (X : String → Mm → Prop) : Prop := zk M x0 = 7 ∧ w_X7_requirePlayer M x0 x1 (fun M1 => (if x2 = (0 : Int32) then (zk M1 x0 = 7 ∧ ∃ a2, zR M1 x0 2 = some a2 ∧ (zk M1 a2 = 4 ∧ ∃ a3, zR M1 a2 6 = some a3 ∧ zk M1 a3 = 10 ∧ vp_in x1 (zl M1 a3) ∧ P (zI M1 a3 x1.toNatClampNeg) M1)) else (if x2 = (1 : Int32) then (zk M1 x0 = 7 ∧ ∃ a4, zR M1 x0 10 = some a4 ∧ (zk M1 a4 = 6 ∧ ∃ a5, zR M1 a4 7 = some a5 ∧ zk M1 a5 = 10 ∧ vp_in x1 (zl M1 a5) ∧ P (zI M1 a5 x1.toNatClampNeg) M1)) else (if x2 = (2 : Int32) then (zk M1 x0 = 7 ∧ ∃ a6, zR M1 x0 10 = some a6 ∧ (zk M1 a6 = 6 ∧ ∃ a7, zR M1 a6 8 = some a7 ∧ zk M1 a7 = 10 ∧ vp_in x1 (zl M1 a7) ∧ P (zI M1 a7 x1.toNatClampNeg) M1)) else (if x2 = (3 : Int32) then (zk M1 x0 = 7 ∧ ∃ a8, zR M1 x0 10 = some a8 ∧ (zk M1 a8 = 6 ∧ ∃ a9, zR M1 a8 9 = some a9 ∧ zk M1 a9 = 10 ∧ vp_in x1 (zl M1 a9) ∧ P (zI M1 a9 x1.toNatClampNeg) M1)) else (if x2 = (4 : Int32) then (zk M1 x0 = 7 ∧ ∃ a10, zR M1 x0 2 = some a10 ∧ zk M1 a10 = 4 ∧ w_X4_servicesOf M1 a10 x1 (fun r11 M11 => P r11 M11)) else (if x2 = (5 : Int32) then (zk M1 x0 = 7 ∧ ∃ a12, zR M1 x0 10 = some a12 ∧ (zk M1 x0 = 7 ∧ ∃ a13, zR M1 x0 2 = some a13 ∧ w_X1_doublingsOf M1 a12 a13 x1 (fun r14 M14 => P r14 M14))) else (if x2 = (6 : Int32) then (zk M1 x0 = 7 ∧ ∃ a15, zR M1 x0 2 = some a15 ∧ zk M1 a15 = 4 ∧ w_X4_beyondContract M1 a15 x1 (fun r16 M16 => P (if (0 : Int32) < (-r16) then (-r16) else (0 : Int32)) M16)) else (if x2 = (7 : Int32) then (zk M1 x0 = 7 ∧ ∃ a17, zR M1 x0 10 = some a17 ∧ (zk M1 x0 = 7 ∧ ∃ a18, zR M1 x0 2 = some a18 ∧ w_X1_overtimeOf M1 a17 a18 x1 (fun r19 M19 => P r19 M19))) else (∀ n20, zn M1 ≤ n20 → X "java/lang/IllegalArgumentException" (sZ M1 n20))))))))))) X
set_option maxHeartbeats 4000000 in
set_option maxRecDepth 100000 in
theorem c_X7_player (l : Launch) (E : EV) (M : Mm) (x0 : Nat) (x1 : Int32) (x2 : Int32) (P : Int32 → Mm → Prop) (X : String → Mm → Prop) (h : w_X7_player M x0 x1 x2 P X) : CtIX l E yX7_player cX7_player 3 .int rm_X7_player 2 12 [.ref x0, .int x1, .int x2] M P X := by
  refine ctIX_of (by decide +kernel) (Nat.le_of_ble_eq_true rfl) ?_
  intro p e s m args below meth c C hex
  rw [w_X7_player] at h
  show J p l e rm_X7_player s m args below meth c (QIX below E P X args s 2 12) E 3 M 0 0 0 [(0, .ref x0), (1, .int x1), (2, .int x2)] []
  refine j_aload_n (pc := 0) C 0 dX7_player_0 rfl ?_
  refine j_iload_n (pc := 1) C 1 dX7_player_1 rfl ?_
  refine cs_X7_148 (pc := 2) C hex ⟨Nat.le_of_ble_eq_true rfl, Nat.le_of_ble_eq_true rfl⟩ ⟨Nat.le_of_ble_eq_true rfl, Nat.le_of_ble_eq_true rfl⟩ ⟨Nat.le_of_ble_eq_true rfl, Nat.le_of_ble_eq_true rfl⟩ (Nat.le_of_ble_eq_true rfl) dX7_player_2 h (fun M1 h => ?_)
  refine j_iload_n (pc := 5) C 2 dX7_player_5 rfl ?_
  by_cases q6_0 : x2 = (0 : Int32)
  · rw [if_pos q6_0] at h
    refine j_tsI (pc := 6) (off := 46) C 52 dX7_player_6 q6_0 (by decide) (by decide) (by decide) (by decide) ?_
    refine j_aload_n (pc := 52) C 0 dX7_player_52 rfl ?_
    refine gf_X7_23 (pc := 53) C dX7_player_53 h (fun a2 h => ?_)
    refine gf_X7_151 (pc := 56) C dX7_player_56 h (fun a3 h => ?_)
    refine j_iload_n (pc := 59) C 1 dX7_player_59 rfl ?_
    refine j_iald (pc := 60) C dX7_player_60 h (fun h => ?_)
    exact j_iretX (pc := 61) C dX7_player_61 (Nat.le_of_ble_eq_true rfl) (Nat.le_of_ble_eq_true rfl) h
  rw [if_neg q6_0] at h
  by_cases q6_1 : x2 = (1 : Int32)
  · rw [if_pos q6_1] at h
    refine j_tsI (pc := 6) (off := 56) C 62 dX7_player_6 q6_1 (by decide) (by decide) (by decide) (by decide) ?_
    refine j_aload_n (pc := 62) C 0 dX7_player_62 rfl ?_
    refine gf_X7_48 (pc := 63) C dX7_player_63 h (fun a4 h => ?_)
    refine gf_X7_152 (pc := 66) C dX7_player_66 h (fun a5 h => ?_)
    refine j_iload_n (pc := 69) C 1 dX7_player_69 rfl ?_
    refine j_iald (pc := 70) C dX7_player_70 h (fun h => ?_)
    exact j_iretX (pc := 71) C dX7_player_71 (Nat.le_of_ble_eq_true rfl) (Nat.le_of_ble_eq_true rfl) h
  rw [if_neg q6_1] at h
  by_cases q6_2 : x2 = (2 : Int32)
  · rw [if_pos q6_2] at h
    refine j_tsI (pc := 6) (off := 66) C 72 dX7_player_6 q6_2 (by decide) (by decide) (by decide) (by decide) ?_
    refine j_aload_n (pc := 72) C 0 dX7_player_72 rfl ?_
    refine gf_X7_48 (pc := 73) C dX7_player_73 h (fun a6 h => ?_)
    refine gf_X7_155 (pc := 76) C dX7_player_76 h (fun a7 h => ?_)
    refine j_iload_n (pc := 79) C 1 dX7_player_79 rfl ?_
    refine j_iald (pc := 80) C dX7_player_80 h (fun h => ?_)
    exact j_iretX (pc := 81) C dX7_player_81 (Nat.le_of_ble_eq_true rfl) (Nat.le_of_ble_eq_true rfl) h
  rw [if_neg q6_2] at h
  by_cases q6_3 : x2 = (3 : Int32)
  · rw [if_pos q6_3] at h
    refine j_tsI (pc := 6) (off := 76) C 82 dX7_player_6 q6_3 (by decide) (by decide) (by decide) (by decide) ?_
    refine j_aload_n (pc := 82) C 0 dX7_player_82 rfl ?_
    refine gf_X7_48 (pc := 83) C dX7_player_83 h (fun a8 h => ?_)
    refine gf_X7_158 (pc := 86) C dX7_player_86 h (fun a9 h => ?_)
    refine j_iload_n (pc := 89) C 1 dX7_player_89 rfl ?_
    refine j_iald (pc := 90) C dX7_player_90 h (fun h => ?_)
    exact j_iretX (pc := 91) C dX7_player_91 (Nat.le_of_ble_eq_true rfl) (Nat.le_of_ble_eq_true rfl) h
  rw [if_neg q6_3] at h
  by_cases q6_4 : x2 = (4 : Int32)
  · rw [if_pos q6_4] at h
    refine j_tsI (pc := 6) (off := 86) C 92 dX7_player_6 q6_4 (by decide) (by decide) (by decide) (by decide) ?_
    refine j_aload_n (pc := 92) C 0 dX7_player_92 rfl ?_
    refine gf_X7_23 (pc := 93) C dX7_player_93 h (fun a10 h => ?_)
    refine j_iload_n (pc := 96) C 1 dX7_player_96 rfl ?_
    refine cs_X7_161 (pc := 97) C ⟨Nat.le_of_ble_eq_true rfl, Nat.le_of_ble_eq_true rfl⟩ ⟨Nat.le_of_ble_eq_true rfl, Nat.le_of_ble_eq_true rfl⟩ (Nat.le_of_ble_eq_true rfl) dX7_player_97 h (fun r11 M11 h => ?_)
    exact j_iretX (pc := 100) C dX7_player_100 (Nat.le_of_ble_eq_true rfl) (Nat.le_of_ble_eq_true rfl) h
  rw [if_neg q6_4] at h
  by_cases q6_5 : x2 = (5 : Int32)
  · rw [if_pos q6_5] at h
    refine j_tsI (pc := 6) (off := 95) C 101 dX7_player_6 q6_5 (by decide) (by decide) (by decide) (by decide) ?_
    refine j_aload_n (pc := 101) C 0 dX7_player_101 rfl ?_
    refine gf_X7_48 (pc := 102) C dX7_player_102 h (fun a12 h => ?_)
    refine j_aload_n (pc := 105) C 0 dX7_player_105 rfl ?_
    refine gf_X7_23 (pc := 106) C dX7_player_106 h (fun a13 h => ?_)
    refine j_iload_n (pc := 109) C 1 dX7_player_109 rfl ?_
    refine cs_X7_165 (pc := 110) C ⟨Nat.le_of_ble_eq_true rfl, Nat.le_of_ble_eq_true rfl⟩ ⟨Nat.le_of_ble_eq_true rfl, Nat.le_of_ble_eq_true rfl⟩ (Nat.le_of_ble_eq_true rfl) dX7_player_110 h (fun r14 M14 h => ?_)
    exact j_iretX (pc := 113) C dX7_player_113 (Nat.le_of_ble_eq_true rfl) (Nat.le_of_ble_eq_true rfl) h
  rw [if_neg q6_5] at h
  by_cases q6_6 : x2 = (6 : Int32)
  · rw [if_pos q6_6] at h
    refine j_tsI (pc := 6) (off := 108) C 114 dX7_player_6 q6_6 (by decide) (by decide) (by decide) (by decide) ?_
    refine j_iconst (pc := 114) (v := (0 : Int32)) C dX7_player_114 rfl ?_
    refine j_aload_n (pc := 115) C 0 dX7_player_115 rfl ?_
    refine gf_X7_23 (pc := 116) C dX7_player_116 h (fun a15 h => ?_)
    refine j_iload_n (pc := 119) C 1 dX7_player_119 rfl ?_
    refine cs_X7_171 (pc := 120) C ⟨Nat.le_of_ble_eq_true rfl, Nat.le_of_ble_eq_true rfl⟩ ⟨Nat.le_of_ble_eq_true rfl, Nat.le_of_ble_eq_true rfl⟩ (Nat.le_of_ble_eq_true rfl) dX7_player_120 h (fun r16 M16 h => ?_)
    refine j_ineg (pc := 123) C dX7_player_123 ?_
    refine j_mmax (pc := 124) C wd_1301 wd_439 wd_51 wd_440 dX7_player_124 (Nat.le_of_ble_eq_true rfl) (Nat.le_of_ble_eq_true rfl) ⟨Nat.le_of_ble_eq_true rfl, Nat.le_of_ble_eq_true rfl⟩ ?_
    exact j_iretX (pc := 127) C dX7_player_127 (Nat.le_of_ble_eq_true rfl) (Nat.le_of_ble_eq_true rfl) h
  rw [if_neg q6_6] at h
  by_cases q6_7 : x2 = (7 : Int32)
  · rw [if_pos q6_7] at h
    refine j_tsI (pc := 6) (off := 122) C 128 dX7_player_6 q6_7 (by decide) (by decide) (by decide) (by decide) ?_
    refine j_aload_n (pc := 128) C 0 dX7_player_128 rfl ?_
    refine gf_X7_48 (pc := 129) C dX7_player_129 h (fun a17 h => ?_)
    refine j_aload_n (pc := 132) C 0 dX7_player_132 rfl ?_
    refine gf_X7_23 (pc := 133) C dX7_player_133 h (fun a18 h => ?_)
    refine j_iload_n (pc := 136) C 1 dX7_player_136 rfl ?_
    refine cs_X7_180 (pc := 137) C ⟨Nat.le_of_ble_eq_true rfl, Nat.le_of_ble_eq_true rfl⟩ ⟨Nat.le_of_ble_eq_true rfl, Nat.le_of_ble_eq_true rfl⟩ (Nat.le_of_ble_eq_true rfl) dX7_player_137 h (fun r19 M19 h => ?_)
    exact j_iretX (pc := 140) C dX7_player_140 (Nat.le_of_ble_eq_true rfl) (Nat.le_of_ble_eq_true rfl) h
  rw [if_neg q6_7] at h
  refine j_tsO (pc := 6) C 141 dX7_player_6 (fun k h1 h2 => ?_) (by decide) ?_
  · rcases (show k = 0 ∨ k = 1 ∨ k = 2 ∨ k = 3 ∨ k = 4 ∨ k = 5 ∨ k = 6 ∨ k = 7 by omega) with rfl | rfl | rfl | rfl | rfl | rfl | rfl | rfl
    · exact ts_no q6_0 (by decide)
    · exact ts_no q6_1 (by decide)
    · exact ts_no q6_2 (by decide)
    · exact ts_no q6_3 (by decide)
    · exact ts_no q6_4 (by decide)
    · exact ts_no q6_5 (by decide)
    · exact ts_no q6_6 (by decide)
    · exact ts_no q6_7 (by decide)
  exact j_throw (pc := 141) C hex (by decide +kernel) (by decide +kernel) wd_702 wd_60 th_X7_125 dX7_player_141 dX7_player_144 dX7_player_145 dX7_player_148 (Nat.le_of_ble_eq_true rfl) (Nat.le_of_ble_eq_true rfl) (Nat.le_of_ble_eq_true rfl) (Nat.le_of_ble_eq_true rfl) (Nat.le_of_ble_eq_true rfl) (Nat.le_of_ble_eq_true rfl) h
abbrev rm0_X7_player : Room := { frames := 4, cells := 0, slots := 0, locals := 95 }
set_option maxHeartbeats 4000000 in
set_option maxRecDepth 100000 in
theorem c0_X7_player (l : Launch) (E : EV) (M : Mm) (x0 : Nat) (x1 : Int32) (x2 : Int32) (P : Int32 → Mm → Prop) (h : w_X7_player M x0 x1 x2 P (fun _ _ => False)) : CtI l E yX7_player cX7_player 3 .int rm0_X7_player 0 0 [.ref x0, .int x1, .int x2] M P := by
  refine ctI_of (by decide +kernel) (Nat.le_of_ble_eq_true rfl) ?_
  intro p e s m args below meth c C
  rw [w_X7_player] at h
  show J p l e rm0_X7_player s m args below meth c (QI below E P args s 0 0) E 3 M 0 0 0 [(0, .ref x0), (1, .int x1), (2, .int x2)] []
  refine j_aload_n (pc := 0) C 0 dX7_player_0 rfl ?_
  refine j_iload_n (pc := 1) C 1 dX7_player_1 rfl ?_
  refine cs0_X7_148 (pc := 2) C ⟨Nat.le_of_ble_eq_true rfl, Nat.le_of_ble_eq_true rfl⟩ ⟨Nat.le_of_ble_eq_true rfl, Nat.le_of_ble_eq_true rfl⟩ (Nat.le_of_ble_eq_true rfl) dX7_player_2 h (fun M1 h => ?_)
  refine j_iload_n (pc := 5) C 2 dX7_player_5 rfl ?_
  by_cases q6_0 : x2 = (0 : Int32)
  · rw [if_pos q6_0] at h
    refine j_tsI (pc := 6) (off := 46) C 52 dX7_player_6 q6_0 (by decide) (by decide) (by decide) (by decide) ?_
    refine j_aload_n (pc := 52) C 0 dX7_player_52 rfl ?_
    refine gf_X7_23 (pc := 53) C dX7_player_53 h (fun a2 h => ?_)
    refine gf_X7_151 (pc := 56) C dX7_player_56 h (fun a3 h => ?_)
    refine j_iload_n (pc := 59) C 1 dX7_player_59 rfl ?_
    refine j_iald (pc := 60) C dX7_player_60 h (fun h => ?_)
    exact j_iret (pc := 61) C dX7_player_61 (Nat.le_of_ble_eq_true rfl) (Nat.le_of_ble_eq_true rfl) h
  rw [if_neg q6_0] at h
  by_cases q6_1 : x2 = (1 : Int32)
  · rw [if_pos q6_1] at h
    refine j_tsI (pc := 6) (off := 56) C 62 dX7_player_6 q6_1 (by decide) (by decide) (by decide) (by decide) ?_
    refine j_aload_n (pc := 62) C 0 dX7_player_62 rfl ?_
    refine gf_X7_48 (pc := 63) C dX7_player_63 h (fun a4 h => ?_)
    refine gf_X7_152 (pc := 66) C dX7_player_66 h (fun a5 h => ?_)
    refine j_iload_n (pc := 69) C 1 dX7_player_69 rfl ?_
    refine j_iald (pc := 70) C dX7_player_70 h (fun h => ?_)
    exact j_iret (pc := 71) C dX7_player_71 (Nat.le_of_ble_eq_true rfl) (Nat.le_of_ble_eq_true rfl) h
  rw [if_neg q6_1] at h
  by_cases q6_2 : x2 = (2 : Int32)
  · rw [if_pos q6_2] at h
    refine j_tsI (pc := 6) (off := 66) C 72 dX7_player_6 q6_2 (by decide) (by decide) (by decide) (by decide) ?_
    refine j_aload_n (pc := 72) C 0 dX7_player_72 rfl ?_
    refine gf_X7_48 (pc := 73) C dX7_player_73 h (fun a6 h => ?_)
    refine gf_X7_155 (pc := 76) C dX7_player_76 h (fun a7 h => ?_)
    refine j_iload_n (pc := 79) C 1 dX7_player_79 rfl ?_
    refine j_iald (pc := 80) C dX7_player_80 h (fun h => ?_)
    exact j_iret (pc := 81) C dX7_player_81 (Nat.le_of_ble_eq_true rfl) (Nat.le_of_ble_eq_true rfl) h
  rw [if_neg q6_2] at h
  by_cases q6_3 : x2 = (3 : Int32)
  · rw [if_pos q6_3] at h
    refine j_tsI (pc := 6) (off := 76) C 82 dX7_player_6 q6_3 (by decide) (by decide) (by decide) (by decide) ?_
    refine j_aload_n (pc := 82) C 0 dX7_player_82 rfl ?_
    refine gf_X7_48 (pc := 83) C dX7_player_83 h (fun a8 h => ?_)
    refine gf_X7_158 (pc := 86) C dX7_player_86 h (fun a9 h => ?_)
    refine j_iload_n (pc := 89) C 1 dX7_player_89 rfl ?_
    refine j_iald (pc := 90) C dX7_player_90 h (fun h => ?_)
    exact j_iret (pc := 91) C dX7_player_91 (Nat.le_of_ble_eq_true rfl) (Nat.le_of_ble_eq_true rfl) h
  rw [if_neg q6_3] at h
  by_cases q6_4 : x2 = (4 : Int32)
  · rw [if_pos q6_4] at h
    refine j_tsI (pc := 6) (off := 86) C 92 dX7_player_6 q6_4 (by decide) (by decide) (by decide) (by decide) ?_
    refine j_aload_n (pc := 92) C 0 dX7_player_92 rfl ?_
    refine gf_X7_23 (pc := 93) C dX7_player_93 h (fun a10 h => ?_)
    refine j_iload_n (pc := 96) C 1 dX7_player_96 rfl ?_
    refine cs_X7_161 (pc := 97) C ⟨Nat.le_of_ble_eq_true rfl, Nat.le_of_ble_eq_true rfl⟩ ⟨Nat.le_of_ble_eq_true rfl, Nat.le_of_ble_eq_true rfl⟩ (Nat.le_of_ble_eq_true rfl) dX7_player_97 h (fun r11 M11 h => ?_)
    exact j_iret (pc := 100) C dX7_player_100 (Nat.le_of_ble_eq_true rfl) (Nat.le_of_ble_eq_true rfl) h
  rw [if_neg q6_4] at h
  by_cases q6_5 : x2 = (5 : Int32)
  · rw [if_pos q6_5] at h
    refine j_tsI (pc := 6) (off := 95) C 101 dX7_player_6 q6_5 (by decide) (by decide) (by decide) (by decide) ?_
    refine j_aload_n (pc := 101) C 0 dX7_player_101 rfl ?_
    refine gf_X7_48 (pc := 102) C dX7_player_102 h (fun a12 h => ?_)
    refine j_aload_n (pc := 105) C 0 dX7_player_105 rfl ?_
    refine gf_X7_23 (pc := 106) C dX7_player_106 h (fun a13 h => ?_)
    refine j_iload_n (pc := 109) C 1 dX7_player_109 rfl ?_
    refine cs_X7_165 (pc := 110) C ⟨Nat.le_of_ble_eq_true rfl, Nat.le_of_ble_eq_true rfl⟩ ⟨Nat.le_of_ble_eq_true rfl, Nat.le_of_ble_eq_true rfl⟩ (Nat.le_of_ble_eq_true rfl) dX7_player_110 h (fun r14 M14 h => ?_)
    exact j_iret (pc := 113) C dX7_player_113 (Nat.le_of_ble_eq_true rfl) (Nat.le_of_ble_eq_true rfl) h
  rw [if_neg q6_5] at h
  by_cases q6_6 : x2 = (6 : Int32)
  · rw [if_pos q6_6] at h
    refine j_tsI (pc := 6) (off := 108) C 114 dX7_player_6 q6_6 (by decide) (by decide) (by decide) (by decide) ?_
    refine j_iconst (pc := 114) (v := (0 : Int32)) C dX7_player_114 rfl ?_
    refine j_aload_n (pc := 115) C 0 dX7_player_115 rfl ?_
    refine gf_X7_23 (pc := 116) C dX7_player_116 h (fun a15 h => ?_)
    refine j_iload_n (pc := 119) C 1 dX7_player_119 rfl ?_
    refine cs_X7_171 (pc := 120) C ⟨Nat.le_of_ble_eq_true rfl, Nat.le_of_ble_eq_true rfl⟩ ⟨Nat.le_of_ble_eq_true rfl, Nat.le_of_ble_eq_true rfl⟩ (Nat.le_of_ble_eq_true rfl) dX7_player_120 h (fun r16 M16 h => ?_)
    refine j_ineg (pc := 123) C dX7_player_123 ?_
    refine j_mmax (pc := 124) C wd_1301 wd_439 wd_51 wd_440 dX7_player_124 (Nat.le_of_ble_eq_true rfl) (Nat.le_of_ble_eq_true rfl) ⟨Nat.le_of_ble_eq_true rfl, Nat.le_of_ble_eq_true rfl⟩ ?_
    exact j_iret (pc := 127) C dX7_player_127 (Nat.le_of_ble_eq_true rfl) (Nat.le_of_ble_eq_true rfl) h
  rw [if_neg q6_6] at h
  by_cases q6_7 : x2 = (7 : Int32)
  · rw [if_pos q6_7] at h
    refine j_tsI (pc := 6) (off := 122) C 128 dX7_player_6 q6_7 (by decide) (by decide) (by decide) (by decide) ?_
    refine j_aload_n (pc := 128) C 0 dX7_player_128 rfl ?_
    refine gf_X7_48 (pc := 129) C dX7_player_129 h (fun a17 h => ?_)
    refine j_aload_n (pc := 132) C 0 dX7_player_132 rfl ?_
    refine gf_X7_23 (pc := 133) C dX7_player_133 h (fun a18 h => ?_)
    refine j_iload_n (pc := 136) C 1 dX7_player_136 rfl ?_
    refine cs_X7_180 (pc := 137) C ⟨Nat.le_of_ble_eq_true rfl, Nat.le_of_ble_eq_true rfl⟩ ⟨Nat.le_of_ble_eq_true rfl, Nat.le_of_ble_eq_true rfl⟩ (Nat.le_of_ble_eq_true rfl) dX7_player_137 h (fun r19 M19 h => ?_)
    exact j_iret (pc := 140) C dX7_player_140 (Nat.le_of_ble_eq_true rfl) (Nat.le_of_ble_eq_true rfl) h
  rw [if_neg q6_7] at h
  refine j_tsO (pc := 6) C 141 dX7_player_6 (fun k h1 h2 => ?_) (by decide) ?_
  · rcases (show k = 0 ∨ k = 1 ∨ k = 2 ∨ k = 3 ∨ k = 4 ∨ k = 5 ∨ k = 6 ∨ k = 7 by omega) with rfl | rfl | rfl | rfl | rfl | rfl | rfl | rfl
    · exact ts_no q6_0 (by decide)
    · exact ts_no q6_1 (by decide)
    · exact ts_no q6_2 (by decide)
    · exact ts_no q6_3 (by decide)
    · exact ts_no q6_4 (by decide)
    · exact ts_no q6_5 (by decide)
    · exact ts_no q6_6 (by decide)
    · exact ts_no q6_7 (by decide)
  exact (h _ (Nat.le_refl _)).elim
theorem cs_X7_331 (C : Cx p l s m args meth c cc nL RX7 ret E) {b : Nat} {y0 : Int32} {P : Int32 → Mm → Prop} (hR : rm_X6_playersPresent.frames + 1 ≤ R.frames ∧ 8 + (4 + 11) + rm_X6_playersPresent.locals ≤ R.locals) (hf : kc ≤ R.cells ∧ ks ≤ R.slots) (hst : (st.map fun v => v.category).sum ≤ 8) (d : decode cc pc = .ok (.invokevirtual 331, 3)) (h : zk M b = 6 ∧ w_X6_playersPresent M b y0 P) (kk : ∀ r M', P r M' → J p l e R s m args below meth c Q E nL M' kc ks (pc + 3) lo (.int r :: st)) : J p l e R s m args below meth c Q E nL M kc ks pc lo (.int y0 :: .ref b :: st) :=
  j_cV_I (n := 1) (As := [.int y0]) C co_X6 rfl wd_1122 wd_1123 h.1 (c_X6_playersPresent l E M b y0 P h.2) ⟨wd_1124, wd_1121, wd_43, by decide +kernel, by decide +kernel, by decide +kernel⟩ rfl rfl hR hf rfl hst d kk
theorem cs_X7_334 (C : Cx p l s m args meth c cc nL RX7 ret E) {b : Nat} {y0 : Int32} {P : Int32 → Mm → Prop} (hR : rm_X4_playersAt.frames + 1 ≤ R.frames ∧ 8 + (4 + 11) + rm_X4_playersAt.locals ≤ R.locals) (hf : kc ≤ R.cells ∧ ks ≤ R.slots) (hst : (st.map fun v => v.category).sum ≤ 8) (d : decode cc pc = .ok (.invokevirtual 334, 3)) (h : zk M b = 4 ∧ w_X4_playersAt M b y0 P) (kk : ∀ r M', P r M' → J p l e R s m args below meth c Q E nL M' kc ks (pc + 3) lo (.int r :: st)) : J p l e R s m args below meth c Q E nL M kc ks pc lo (.int y0 :: .ref b :: st) :=
  j_cV_I (n := 1) (As := [.int y0]) C co_X4 rfl wd_1126 wd_1127 h.1 (c_X4_playersAt l E M b y0 P h.2) ⟨wd_1128, wd_1125, wd_42, by decide +kernel, by decide +kernel, by decide +kernel⟩ rfl rfl hR hf rfl hst d kk
abbrev rm_X7_freePlayers : Room := { frames := 2, cells := 0, slots := 0, locals := 47 }
def w_X7_freePlayers (M : Mm) (x0 : Nat) (x1 : Nat) (x2 : Int32) (P : Int32 → Mm → Prop) : Prop := (zk M x0 = 7 ∧ ∃ a1, zR M x0 10 = some a1 ∧ ¬ (3 : Int32) = 0 ∧ zk M a1 = 6 ∧ w_X6_playersPresent M a1 (x2 / (3 : Int32)) (fun r2 M2 => zk M2 x1 = 4 ∧ w_X4_playersAt M2 x1 x2 (fun r3 M3 => P (r2 &&& (r3 ^^^ (-1 : Int32))) M3)))
set_option maxHeartbeats 4000000 in
set_option maxRecDepth 100000 in
theorem c_X7_freePlayers (l : Launch) (E : EV) (M : Mm) (x0 : Nat) (x1 : Nat) (x2 : Int32) (P : Int32 → Mm → Prop) (h : w_X7_freePlayers M x0 x1 x2 P) : CtI l E yX7_freePlayers cX7_freePlayers 3 .int rm_X7_freePlayers 0 0 [.ref x0, .ref x1, .int x2] M P := by
  refine ctI_of (by decide +kernel) (Nat.le_of_ble_eq_true rfl) ?_
  intro p e s m args below meth c C
  rw [w_X7_freePlayers] at h
  show J p l e rm_X7_freePlayers s m args below meth c (QI below E P args s 0 0) E 3 M 0 0 0 [(0, .ref x0), (1, .ref x1), (2, .int x2)] []
  refine j_aload_n (pc := 0) C 0 dX7_freePlayers_0 rfl ?_
  refine gf_X7_48 (pc := 1) C dX7_freePlayers_1 h (fun a1 h => ?_)
  refine j_iload_n (pc := 4) C 2 dX7_freePlayers_4 rfl ?_
  refine j_iconst (pc := 5) (v := (3 : Int32)) C dX7_freePlayers_5 rfl ?_
  refine j_idiv (pc := 6) C dX7_freePlayers_6 h (fun h => ?_)
  refine cs_X7_331 (pc := 7) C ⟨Nat.le_of_ble_eq_true rfl, Nat.le_of_ble_eq_true rfl⟩ ⟨Nat.le_of_ble_eq_true rfl, Nat.le_of_ble_eq_true rfl⟩ (Nat.le_of_ble_eq_true rfl) dX7_freePlayers_7 h (fun r2 M2 h => ?_)
  refine j_aload_n (pc := 10) C 1 dX7_freePlayers_10 rfl ?_
  refine j_iload_n (pc := 11) C 2 dX7_freePlayers_11 rfl ?_
  refine cs_X7_334 (pc := 12) C ⟨Nat.le_of_ble_eq_true rfl, Nat.le_of_ble_eq_true rfl⟩ ⟨Nat.le_of_ble_eq_true rfl, Nat.le_of_ble_eq_true rfl⟩ (Nat.le_of_ble_eq_true rfl) dX7_freePlayers_12 h (fun r3 M3 h => ?_)
  refine j_iconst (pc := 15) (v := (-1 : Int32)) C dX7_freePlayers_15 rfl ?_
  refine j_ixor (pc := 16) C dX7_freePlayers_16 ?_
  refine j_iand (pc := 17) C dX7_freePlayers_17 ?_
  exact j_iret (pc := 18) C dX7_freePlayers_18 (Nat.le_of_ble_eq_true rfl) (Nat.le_of_ble_eq_true rfl) h
theorem cs_X7_212 (C : Cx p l s m args meth c cc nL RX7 ret E) {b : Nat} {P : Int32 → Mm → Prop} (hR : rm_X6_slotCount.frames + 1 ≤ R.frames ∧ 8 + (1 + 11) + rm_X6_slotCount.locals ≤ R.locals) (hf : kc ≤ R.cells ∧ ks ≤ R.slots) (hst : (st.map fun v => v.category).sum ≤ 8) (d : decode cc pc = .ok (.invokevirtual 212, 3)) (h : zk M b = 6 ∧ w_X6_slotCount M b P) (kk : ∀ r M', P r M' → J p l e R s m args below meth c Q E nL M' kc ks (pc + 3) lo (.int r :: st)) : J p l e R s m args below meth c Q E nL M kc ks pc lo (.ref b :: st) :=
  j_cV_I (n := 0) (As := []) C co_X6 rfl wd_1096 wd_1097 h.1 (c_X6_slotCount l E M b P h.2) ⟨wd_1098, wd_1095, wd_43, by decide +kernel, by decide +kernel, by decide +kernel⟩ rfl rfl hR hf rfl hst d kk
abbrev rm_X7_requireSlot : Room := { frames := 7, cells := 1, slots := 6, locals := 110 }
def w_X7_requireSlot (M : Mm) (x0 : Nat) (x1 : Int32) (P : Mm → Prop) (X : String → Mm → Prop) : Prop := (zk M x0 = 7 ∧ ∃ a1, zR M x0 10 = some a1 ∧ zk M a1 = 6 ∧ w_X6_slotCount M a1 (fun r2 M2 => w_X7_requireIndex M2 x1 r2 (fun M3 => P M3) X))
set_option maxHeartbeats 4000000 in
set_option maxRecDepth 100000 in
theorem c_X7_requireSlot (l : Launch) (E : EV) (M : Mm) (x0 : Nat) (x1 : Int32) (P : Mm → Prop) (X : String → Mm → Prop) (h : w_X7_requireSlot M x0 x1 P X) : CtVX l E yX7_requireSlot cX7_requireSlot 2 rm_X7_requireSlot 1 6 [.ref x0, .int x1] M P X := by
  refine ctVX_of (by decide +kernel) (Nat.le_of_ble_eq_true rfl) ?_
  intro p e s m args below meth c C hex
  rw [w_X7_requireSlot] at h
  show J p l e rm_X7_requireSlot s m args below meth c (QVX below E P X args s 1 6) E 2 M 0 0 0 [(0, .ref x0), (1, .int x1)] []
  refine j_iload_n (pc := 0) C 1 dX7_requireSlot_0 rfl ?_
  refine j_aload_n (pc := 1) C 0 dX7_requireSlot_1 rfl ?_
  refine gf_X7_48 (pc := 2) C dX7_requireSlot_2 h (fun a1 h => ?_)
  refine cs_X7_212 (pc := 5) C ⟨Nat.le_of_ble_eq_true rfl, Nat.le_of_ble_eq_true rfl⟩ ⟨Nat.le_of_ble_eq_true rfl, Nat.le_of_ble_eq_true rfl⟩ (Nat.le_of_ble_eq_true rfl) dX7_requireSlot_5 h (fun r2 M2 h => ?_)
  refine cs_X7_312 (pc := 8) C hex ⟨Nat.le_of_ble_eq_true rfl, Nat.le_of_ble_eq_true rfl⟩ ⟨Nat.le_of_ble_eq_true rfl, Nat.le_of_ble_eq_true rfl⟩ ⟨Nat.le_of_ble_eq_true rfl, Nat.le_of_ble_eq_true rfl⟩ (Nat.le_of_ble_eq_true rfl) dX7_requireSlot_8 h (fun M3 h => ?_)
  exact j_vretX (pc := 11) C dX7_requireSlot_11 (Nat.le_of_ble_eq_true rfl) (Nat.le_of_ble_eq_true rfl) h
abbrev rm0_X7_requireSlot : Room := { frames := 1, cells := 0, slots := 0, locals := 21 }
set_option maxHeartbeats 4000000 in
set_option maxRecDepth 100000 in
theorem c0_X7_requireSlot (l : Launch) (E : EV) (M : Mm) (x0 : Nat) (x1 : Int32) (P : Mm → Prop) (h : w_X7_requireSlot M x0 x1 P (fun _ _ => False)) : CtV l E yX7_requireSlot cX7_requireSlot 2 rm0_X7_requireSlot 0 0 [.ref x0, .int x1] M P := by
  refine ctV_of (by decide +kernel) (Nat.le_of_ble_eq_true rfl) ?_
  intro p e s m args below meth c C hnm
  rw [w_X7_requireSlot] at h
  show J p l e rm0_X7_requireSlot s m args below meth c (QV below E P args s 0 0) E 2 M 0 0 0 [(0, .ref x0), (1, .int x1)] []
  refine j_iload_n (pc := 0) C 1 dX7_requireSlot_0 rfl ?_
  refine j_aload_n (pc := 1) C 0 dX7_requireSlot_1 rfl ?_
  refine gf_X7_48 (pc := 2) C dX7_requireSlot_2 h (fun a1 h => ?_)
  refine cs_X7_212 (pc := 5) C ⟨Nat.le_of_ble_eq_true rfl, Nat.le_of_ble_eq_true rfl⟩ ⟨Nat.le_of_ble_eq_true rfl, Nat.le_of_ble_eq_true rfl⟩ (Nat.le_of_ble_eq_true rfl) dX7_requireSlot_5 h (fun r2 M2 h => ?_)
  refine cs0_X7_312 (pc := 8) C ⟨Nat.le_of_ble_eq_true rfl, Nat.le_of_ble_eq_true rfl⟩ ⟨Nat.le_of_ble_eq_true rfl, Nat.le_of_ble_eq_true rfl⟩ (Nat.le_of_ble_eq_true rfl) dX7_requireSlot_8 h (fun M3 h => ?_)
  exact j_vret (pc := 11) C dX7_requireSlot_11 (Nat.le_of_ble_eq_true rfl) (Nat.le_of_ble_eq_true rfl) h
theorem cs_X7_183 {Qc : Array Value → State → Outcome → State → Prop} {X : String → Mm → Prop} {mc2 ms2 : Nat} (C : Cx p l s m args meth c cc nL RX7 ret E) (hex : ∀ x ∈ c.exceptionTable.toList, False) {b : Nat} {y0 : Int32} {P : Mm → Prop} (hR : rm_X7_requireSlot.frames + 1 ≤ R.frames ∧ 8 + (2 + 11) + rm_X7_requireSlot.locals ≤ R.locals) (hf : kc + 1 ≤ R.cells ∧ ks + 6 ≤ R.slots) (hf2 : kc + 1 ≤ mc2 ∧ ks + 6 ≤ ms2) (hst : (st.map fun v => v.category).sum ≤ 8) (d : decode cc pc = .ok (.invokevirtual 183, 3)) (h : zk M b = 7 ∧ w_X7_requireSlot M b y0 P X) (kk : ∀ M', P M' → J p l e R s m args below meth c (vx_MQ below Qc (XX E X) args s mc2 ms2 (fun q => E.2.2.1 ≤ q)) E nL M' (kc + 1) (ks + 6) (pc + 3) lo st) : J p l e R s m args below meth c (vx_MQ below Qc (XX E X) args s mc2 ms2 (fun q => E.2.2.1 ≤ q)) E nL M kc ks pc lo (.int y0 :: .ref b :: st) :=
  j_xV_V (n := 1) (As := [.int y0]) C hex co_X7 rfl wd_1093 wd_25 h.1 (c_X7_requireSlot l E M b y0 P X h.2) ⟨wd_1094, wd_1091, wd_40, by decide +kernel, by decide +kernel, by decide +kernel⟩ rfl rfl hR hf hf2 rfl hst d (fun _ _ q => q) kk
theorem cs0_X7_183 (C : Cx p l s m args meth c cc nL RX7 ret E) {b : Nat} {y0 : Int32} {P : Mm → Prop} (hR : rm0_X7_requireSlot.frames + 1 ≤ R.frames ∧ 8 + (2 + 11) + rm0_X7_requireSlot.locals ≤ R.locals) (hf : kc ≤ R.cells ∧ ks ≤ R.slots) (hst : (st.map fun v => v.category).sum ≤ 8) (d : decode cc pc = .ok (.invokevirtual 183, 3)) (h : zk M b = 7 ∧ w_X7_requireSlot M b y0 P (fun _ _ => False)) (kk : ∀ M', P M' → J p l e R s m args below meth c Q E nL M' kc ks (pc + 3) lo st) : J p l e R s m args below meth c Q E nL M kc ks pc lo (.int y0 :: .ref b :: st) :=
  j_cV_V (n := 1) (As := [.int y0]) C co_X7 rfl wd_1093 wd_25 h.1 (c0_X7_requireSlot l E M b y0 P h.2) ⟨wd_1094, wd_1091, wd_40, by decide +kernel, by decide +kernel, by decide +kernel⟩ rfl rfl hR hf rfl hst d kk
theorem cs_X7_186 (C : Cx p l s m args meth c cc nL RX7 ret E) {b : Nat} {y0 : Nat} {y1 : Int32} {P : Int32 → Mm → Prop} (hR : rm_X7_freePlayers.frames + 1 ≤ R.frames ∧ 8 + (3 + 11) + rm_X7_freePlayers.locals ≤ R.locals) (hf : kc ≤ R.cells ∧ ks ≤ R.slots) (hst : (st.map fun v => v.category).sum ≤ 8) (d : decode cc pc = .ok (.invokevirtual 186, 3)) (h : zk M b = 7 ∧ w_X7_freePlayers M b y0 y1 P) (kk : ∀ r M', P r M' → J p l e R s m args below meth c Q E nL M' kc ks (pc + 3) lo (.int r :: st)) : J p l e R s m args below meth c Q E nL M kc ks pc lo (.int y1 :: .ref y0 :: .ref b :: st) :=
  j_cV_I (n := 2) (As := [.ref y0, .int y1]) C co_X7 rfl wd_1119 wd_28 h.1 (c_X7_freePlayers l E M b y0 y1 P h.2) ⟨wd_1120, wd_1117, wd_40, by decide +kernel, by decide +kernel, by decide +kernel⟩ rfl rfl hR hf rfl hst d kk
theorem cs_X7_190 (C : Cx p l s m args meth c cc nL RX7 ret E) {y0 : Int32} {y1 : Int32} {P : Int32 → Mm → Prop} (hR : rm_X7_has.frames + 1 ≤ R.frames ∧ 8 + (2 + 11) + rm_X7_has.locals ≤ R.locals) (hf : kc ≤ R.cells ∧ ks ≤ R.slots) (hst : (st.map fun v => v.category).sum ≤ 8) (d : decode cc pc = .ok (.invokestatic 190, 3)) (h : w_X7_has M y0 y1 P) (kk : ∀ r M', P r M' → J p l e R s m args below meth c Q E nL M' kc ks (pc + 3) lo (.int r :: st)) : J p l e R s m args below meth c Q E nL M kc ks pc lo (.int y1 :: .int y0 :: st) :=
  j_cS_I (n := 2) (As := [.int y0, .int y1]) C wd_901 (c_X7_has l E M y0 y1 P h) ⟨wd_902, wd_1016, wd_40, by decide +kernel, by decide +kernel, by decide +kernel⟩ rfl rfl hR hf rfl hst d kk
abbrev rm_X7_isFree : Room := { frames := 8, cells := 2, slots := 12, locals := 131 }
def w_X7_isFree (M : Mm) (x0 : Nat) (x1 : Int32) (x2 : Int32) (P : Int32 → Mm → Prop) (X : String → Mm → Prop) : Prop := zk M x0 = 7 ∧ w_X7_requirePlayer M x0 x1 (fun M1 => zk M1 x0 = 7 ∧ w_X7_requireSlot M1 x0 x2 (fun M2 => (zk M2 x0 = 7 ∧ ∃ a3, zR M2 x0 2 = some a3 ∧ zk M2 x0 = 7 ∧ w_X7_freePlayers M2 x0 a3 x2 (fun r4 M4 => w_X7_has M4 r4 x1 (fun r5 M5 => (r5 = 0 ∨ r5 = 1) ∧ P r5 M5)))) X) X
set_option maxHeartbeats 4000000 in
set_option maxRecDepth 100000 in
theorem c_X7_isFree (l : Launch) (E : EV) (M : Mm) (x0 : Nat) (x1 : Int32) (x2 : Int32) (P : Int32 → Mm → Prop) (X : String → Mm → Prop) (h : w_X7_isFree M x0 x1 x2 P X) : CtIX l E yX7_isFree cX7_isFree 3 .boolean rm_X7_isFree 2 12 [.ref x0, .int x1, .int x2] M P X := by
  refine ctIX_of (by decide +kernel) (Nat.le_of_ble_eq_true rfl) ?_
  intro p e s m args below meth c C hex
  rw [w_X7_isFree] at h
  show J p l e rm_X7_isFree s m args below meth c (QIX below E P X args s 2 12) E 3 M 0 0 0 [(0, .ref x0), (1, .int x1), (2, .int x2)] []
  refine j_aload_n (pc := 0) C 0 dX7_isFree_0 rfl ?_
  refine j_iload_n (pc := 1) C 1 dX7_isFree_1 rfl ?_
  refine cs_X7_148 (pc := 2) C hex ⟨Nat.le_of_ble_eq_true rfl, Nat.le_of_ble_eq_true rfl⟩ ⟨Nat.le_of_ble_eq_true rfl, Nat.le_of_ble_eq_true rfl⟩ ⟨Nat.le_of_ble_eq_true rfl, Nat.le_of_ble_eq_true rfl⟩ (Nat.le_of_ble_eq_true rfl) dX7_isFree_2 h (fun M1 h => ?_)
  refine j_aload_n (pc := 5) C 0 dX7_isFree_5 rfl ?_
  refine j_iload_n (pc := 6) C 2 dX7_isFree_6 rfl ?_
  refine cs_X7_183 (pc := 7) C hex ⟨Nat.le_of_ble_eq_true rfl, Nat.le_of_ble_eq_true rfl⟩ ⟨Nat.le_of_ble_eq_true rfl, Nat.le_of_ble_eq_true rfl⟩ ⟨Nat.le_of_ble_eq_true rfl, Nat.le_of_ble_eq_true rfl⟩ (Nat.le_of_ble_eq_true rfl) dX7_isFree_7 h (fun M2 h => ?_)
  refine j_aload_n (pc := 10) C 0 dX7_isFree_10 rfl ?_
  refine j_aload_n (pc := 11) C 0 dX7_isFree_11 rfl ?_
  refine gf_X7_23 (pc := 12) C dX7_isFree_12 h (fun a3 h => ?_)
  refine j_iload_n (pc := 15) C 2 dX7_isFree_15 rfl ?_
  refine cs_X7_186 (pc := 16) C ⟨Nat.le_of_ble_eq_true rfl, Nat.le_of_ble_eq_true rfl⟩ ⟨Nat.le_of_ble_eq_true rfl, Nat.le_of_ble_eq_true rfl⟩ (Nat.le_of_ble_eq_true rfl) dX7_isFree_16 h (fun r4 M4 h => ?_)
  refine j_iload_n (pc := 19) C 1 dX7_isFree_19 rfl ?_
  refine cs_X7_190 (pc := 20) C ⟨Nat.le_of_ble_eq_true rfl, Nat.le_of_ble_eq_true rfl⟩ ⟨Nat.le_of_ble_eq_true rfl, Nat.le_of_ble_eq_true rfl⟩ (Nat.le_of_ble_eq_true rfl) dX7_isFree_20 h (fun r5 M5 h => ?_)
  exact j_zretX (pc := 23) C dX7_isFree_23 (Nat.le_of_ble_eq_true rfl) (Nat.le_of_ble_eq_true rfl) h
abbrev rm0_X7_isFree : Room := { frames := 3, cells := 0, slots := 0, locals := 69 }
set_option maxHeartbeats 4000000 in
set_option maxRecDepth 100000 in
theorem c0_X7_isFree (l : Launch) (E : EV) (M : Mm) (x0 : Nat) (x1 : Int32) (x2 : Int32) (P : Int32 → Mm → Prop) (h : w_X7_isFree M x0 x1 x2 P (fun _ _ => False)) : CtI l E yX7_isFree cX7_isFree 3 .boolean rm0_X7_isFree 0 0 [.ref x0, .int x1, .int x2] M P := by
  refine ctI_of (by decide +kernel) (Nat.le_of_ble_eq_true rfl) ?_
  intro p e s m args below meth c C
  rw [w_X7_isFree] at h
  show J p l e rm0_X7_isFree s m args below meth c (QI below E P args s 0 0) E 3 M 0 0 0 [(0, .ref x0), (1, .int x1), (2, .int x2)] []
  refine j_aload_n (pc := 0) C 0 dX7_isFree_0 rfl ?_
  refine j_iload_n (pc := 1) C 1 dX7_isFree_1 rfl ?_
  refine cs0_X7_148 (pc := 2) C ⟨Nat.le_of_ble_eq_true rfl, Nat.le_of_ble_eq_true rfl⟩ ⟨Nat.le_of_ble_eq_true rfl, Nat.le_of_ble_eq_true rfl⟩ (Nat.le_of_ble_eq_true rfl) dX7_isFree_2 h (fun M1 h => ?_)
  refine j_aload_n (pc := 5) C 0 dX7_isFree_5 rfl ?_
  refine j_iload_n (pc := 6) C 2 dX7_isFree_6 rfl ?_
  refine cs0_X7_183 (pc := 7) C ⟨Nat.le_of_ble_eq_true rfl, Nat.le_of_ble_eq_true rfl⟩ ⟨Nat.le_of_ble_eq_true rfl, Nat.le_of_ble_eq_true rfl⟩ (Nat.le_of_ble_eq_true rfl) dX7_isFree_7 h (fun M2 h => ?_)
  refine j_aload_n (pc := 10) C 0 dX7_isFree_10 rfl ?_
  refine j_aload_n (pc := 11) C 0 dX7_isFree_11 rfl ?_
  refine gf_X7_23 (pc := 12) C dX7_isFree_12 h (fun a3 h => ?_)
  refine j_iload_n (pc := 15) C 2 dX7_isFree_15 rfl ?_
  refine cs_X7_186 (pc := 16) C ⟨Nat.le_of_ble_eq_true rfl, Nat.le_of_ble_eq_true rfl⟩ ⟨Nat.le_of_ble_eq_true rfl, Nat.le_of_ble_eq_true rfl⟩ (Nat.le_of_ble_eq_true rfl) dX7_isFree_16 h (fun r4 M4 h => ?_)
  refine j_iload_n (pc := 19) C 1 dX7_isFree_19 rfl ?_
  refine cs_X7_190 (pc := 20) C ⟨Nat.le_of_ble_eq_true rfl, Nat.le_of_ble_eq_true rfl⟩ ⟨Nat.le_of_ble_eq_true rfl, Nat.le_of_ble_eq_true rfl⟩ (Nat.le_of_ble_eq_true rfl) dX7_isFree_20 h (fun r5 M5 h => ?_)
  exact j_zret (pc := 23) C dX7_isFree_23 (Nat.le_of_ble_eq_true rfl) (Nat.le_of_ble_eq_true rfl) h
end GW17
