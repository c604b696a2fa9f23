/-! written by a program (wip/p34/gen.py) out of the decode rows and the tables: walks of X3 -/

section GW16
variable {p : Program} {l : Launch} {e : Env} {R : Room} {s : State} {m : MethodId} {args : Array Value} {below : List Frame} {meth : Method} {c : Code} {Q : State → Prop} {cc : ByteArray} {nL : Nat} {ret : Option FieldType} {E : EV} {M : Mm} {kc ks pc : Nat} {lo : List (Nat × Value)} {st : List Value}
theorem cs_X3_173 (C : Cx p l s m args meth c cc nL RX3 ret E) {b : Nat} {y0 : Int32} {y1 : Int32} {P : Mm → Prop} (hR : rm_X6_addSeat.frames + 1 ≤ R.frames ∧ 8 + (3 + 11) + rm_X6_addSeat.locals ≤ R.locals) (hf : kc ≤ R.cells ∧ ks ≤ R.slots) (hst : (st.map fun v => v.category).sum ≤ 8) (d : decode cc pc = .ok (.invokevirtual 173, 3)) (h : zk M b = 6 ∧ w_X6_addSeat M b y0 y1 P) (kk : ∀ M', P M' → J p l e R s m args below meth c Q E nL M' kc ks (pc + 3) lo st) : J p l e R s m args below meth c Q E nL M kc ks pc lo (.int y1 :: .int y0 :: .ref b :: st) :=
  j_cV_V (n := 2) (As := [.int y0, .int y1]) C co_X6 rfl wd_918 wd_919 h.1 (c_X6_addSeat l E M b y0 y1 P h.2) ⟨wd_920, wd_917, wd_43, by decide +kernel, by decide +kernel, by decide +kernel⟩ rfl rfl hR hf rfl hst d kk
abbrev rm_X3_readSeat : Room := { frames := 2, cells := 0, slots := 0, locals := 42 }
def w_X3_readSeat (M : Mm) (x0 : Nat) (x1 : Int32) (P : Int32 → Mm → Prop) : Prop := (zk M x0 = 3 ∧ ∃ a1, zR M x0 0 = some a1 ∧ zk M a1 = 5 ∧ (if (zI M a1 3) = (1 : Int32) then (zk M x0 = 3 ∧ ∃ a2, zR M x0 1 = some a2 ∧ (zk M a2 = 6 ∧ ∃ a3, zR M a2 11 = some a3 ∧ (zk M x0 = 3 ∧ ∃ a4, zR M x0 0 = some a4 ∧ zk M a4 = 5 ∧ zk M a3 = 2 ∧ w_X2_numberOf M a3 (zJ M a4 5) (fun r5 M5 => (if r5 = (-1 : Int32) then zk M5 x0 = 3 ∧ w_X3_fail M5 x0 (4 : Int32) (fun r13 M13 => (r13 = 0 ∨ r13 = 1) ∧ P r13 M13) else (zk M5 x0 = 3 ∧ ∃ a6, zR M5 x0 1 = some a6 ∧ (zk M5 a6 = 6 ∧ ∃ a7, zR M5 a6 17 = some a7 ∧ zk M5 a7 = 10 ∧ vp_in x1 (zl M5 a7) ∧ (if (zI M5 a7 x1.toNatClampNeg) < (6 : Int32) then (zk M5 x0 = 3 ∧ ∃ a8, zR M5 x0 1 = some a8 ∧ zk M5 a8 = 6 ∧ w_X6_addSeat M5 a8 x1 r5 (fun M9 => (zk M9 x0 = 3 ∧ ∃ a10, zR M9 x0 0 = some a10 ∧ zk M9 a10 = 5 ∧ w_X5_advance M9 a10 (fun M11 => ((1 : Int32) = 0 ∨ (1 : Int32) = 1) ∧ P (1 : Int32) M11)))) else zk M5 x0 = 3 ∧ w_X3_fail M5 x0 (5 : Int32) (fun r12 M12 => (r12 = 0 ∨ r12 = 1) ∧ P r12 M12))))))))) else zk M x0 = 3 ∧ w_X3_fail M x0 (1 : Int32) (fun r14 M14 => (r14 = 0 ∨ r14 = 1) ∧ P r14 M14)))
set_option maxHeartbeats 4000000 in
set_option maxRecDepth 100000 in
theorem c_X3_readSeat (l : Launch) (E : EV) (M : Mm) (x0 : Nat) (x1 : Int32) (P : Int32 → Mm → Prop) (h : w_X3_readSeat M x0 x1 P) : CtI l E yX3_readSeat cX3_readSeat 3 .boolean rm_X3_readSeat 0 0 [.ref x0, .int x1] M P := by
  refine ctI_of (by decide +kernel) (Nat.le_of_ble_eq_true rfl) ?_
  intro p e s m args below meth c C
  rw [w_X3_readSeat] at h
  show J p l e rm_X3_readSeat s m args below meth c (QI below E P args s 0 0) E 3 M 0 0 0 [(0, .ref x0), (1, .int x1)] []
  refine j_aload_n (pc := 0) C 0 dX3_readSeat_0 rfl ?_
  refine gf_X3_15 (pc := 1) C dX3_readSeat_1 h (fun a1 h => ?_)
  refine gf_X3_37 (pc := 4) C dX3_readSeat_4 h (fun h => ?_)
  refine j_iconst (pc := 7) (v := (1 : Int32)) C dX3_readSeat_7 rfl ?_
  refine j_icmp_eq (pc := 8) C 17 dX3_readSeat_8 (by decide) h (fun h => ?_) (fun h => ?_)
  · refine j_aload_n (pc := 17) C 0 dX3_readSeat_17 rfl ?_
    refine gf_X3_19 (pc := 18) C dX3_readSeat_18 h (fun a2 h => ?_)
    refine gf_X3_124 (pc := 21) C dX3_readSeat_21 h (fun a3 h => ?_)
    refine j_aload_n (pc := 24) C 0 dX3_readSeat_24 rfl ?_
    refine gf_X3_15 (pc := 25) C dX3_readSeat_25 h (fun a4 h => ?_)
    refine gf_X3_46 (pc := 28) C dX3_readSeat_28 h (fun h => ?_)
    refine cs_X3_127 (pc := 31) C ⟨Nat.le_of_ble_eq_true rfl, Nat.le_of_ble_eq_true rfl⟩ ⟨Nat.le_of_ble_eq_true rfl, Nat.le_of_ble_eq_true rfl⟩ (Nat.le_of_ble_eq_true rfl) dX3_readSeat_31 h (fun r5 M5 h => ?_)
    refine j_istore_n (pc := 34) C [(2, _), (0, _), (1, _)] dX3_readSeat_34 (by decide) rfl ?_
    refine j_iload_n (pc := 35) C 0 dX3_readSeat_35 rfl ?_
    refine j_iconst (pc := 36) (v := (-1 : Int32)) C dX3_readSeat_36 rfl ?_
    refine j_icmp_ne (pc := 37) C 46 dX3_readSeat_37 (by decide) h (fun h => ?_) (fun h => ?_)
    · refine j_aload_n (pc := 46) C 1 dX3_readSeat_46 rfl ?_
      refine gf_X3_19 (pc := 47) C dX3_readSeat_47 h (fun a6 h => ?_)
      refine gf_X3_170 (pc := 50) C dX3_readSeat_50 h (fun a7 h => ?_)
      refine j_iload_n (pc := 53) C 2 dX3_readSeat_53 rfl ?_
      refine j_iald (pc := 54) C dX3_readSeat_54 h (fun h => ?_)
      refine j_bipush (pc := 55) (v := (6 : Int32)) C dX3_readSeat_55 rfl ?_
      refine j_icmp_lt (pc := 57) C 66 dX3_readSeat_57 (by decide) h (fun h => ?_) (fun h => ?_)
      · refine j_aload_n (pc := 66) C 1 dX3_readSeat_66 rfl ?_
        refine gf_X3_19 (pc := 67) C dX3_readSeat_67 h (fun a8 h => ?_)
        refine j_iload_n (pc := 70) C 2 dX3_readSeat_70 rfl ?_
        refine j_iload_n (pc := 71) C 0 dX3_readSeat_71 rfl ?_
        refine cs_X3_173 (pc := 72) C ⟨Nat.le_of_ble_eq_true rfl, Nat.le_of_ble_eq_true rfl⟩ ⟨Nat.le_of_ble_eq_true rfl, Nat.le_of_ble_eq_true rfl⟩ (Nat.le_of_ble_eq_true rfl) dX3_readSeat_72 h (fun M9 h => ?_)
        refine j_aload_n (pc := 75) C 1 dX3_readSeat_75 rfl ?_
        refine gf_X3_15 (pc := 76) C dX3_readSeat_76 h (fun a10 h => ?_)
        refine cs_X3_28 (pc := 79) C ⟨Nat.le_of_ble_eq_true rfl, Nat.le_of_ble_eq_true rfl⟩ ⟨Nat.le_of_ble_eq_true rfl, Nat.le_of_ble_eq_true rfl⟩ (Nat.le_of_ble_eq_true rfl) dX3_readSeat_79 h (fun M11 h => ?_)
        refine j_iconst (pc := 82) (v := (1 : Int32)) C dX3_readSeat_82 rfl ?_
        exact j_zret (pc := 83) C dX3_readSeat_83 (Nat.le_of_ble_eq_true rfl) (Nat.le_of_ble_eq_true rfl) h
      · refine j_aload_n (pc := 60) C 1 dX3_readSeat_60 rfl ?_
        refine j_iconst (pc := 61) (v := (5 : Int32)) C dX3_readSeat_61 rfl ?_
        refine cs_X3_56 (pc := 62) C ⟨Nat.le_of_ble_eq_true rfl, Nat.le_of_ble_eq_true rfl⟩ ⟨Nat.le_of_ble_eq_true rfl, Nat.le_of_ble_eq_true rfl⟩ (Nat.le_of_ble_eq_true rfl) dX3_readSeat_62 h (fun r12 M12 h => ?_)
        exact j_zret (pc := 65) C dX3_readSeat_65 (Nat.le_of_ble_eq_true rfl) (Nat.le_of_ble_eq_true rfl) h
    · refine j_aload_n (pc := 40) C 1 dX3_readSeat_40 rfl ?_
      refine j_iconst (pc := 41) (v := (4 : Int32)) C dX3_readSeat_41 rfl ?_
      refine cs_X3_56 (pc := 42) C ⟨Nat.le_of_ble_eq_true rfl, Nat.le_of_ble_eq_true rfl⟩ ⟨Nat.le_of_ble_eq_true rfl, Nat.le_of_ble_eq_true rfl⟩ (Nat.le_of_ble_eq_true rfl) dX3_readSeat_42 h (fun r13 M13 h => ?_)
      exact j_zret (pc := 45) C dX3_readSeat_45 (Nat.le_of_ble_eq_true rfl) (Nat.le_of_ble_eq_true rfl) h
  · refine j_aload_n (pc := 11) C 0 dX3_readSeat_11 rfl ?_
    refine j_iconst (pc := 12) (v := (1 : Int32)) C dX3_readSeat_12 rfl ?_
    refine cs_X3_56 (pc := 13) C ⟨Nat.le_of_ble_eq_true rfl, Nat.le_of_ble_eq_true rfl⟩ ⟨Nat.le_of_ble_eq_true rfl, Nat.le_of_ble_eq_true rfl⟩ (Nat.le_of_ble_eq_true rfl) dX3_readSeat_13 h (fun r14 M14 h => ?_)
    exact j_zret (pc := 16) C dX3_readSeat_16 (Nat.le_of_ble_eq_true rfl) (Nat.le_of_ble_eq_true rfl) h
theorem cs_X3_167 (C : Cx p l s m args meth c cc nL RX3 ret E) {b : Nat} {y0 : Int32} {P : Int32 → Mm → Prop} (hR : rm_X3_readSeat.frames + 1 ≤ R.frames ∧ 8 + (3 + 11) + rm_X3_readSeat.locals ≤ R.locals) (hf : kc ≤ R.cells ∧ ks ≤ R.slots) (hst : (st.map fun v => v.category).sum ≤ 8) (d : decode cc pc = .ok (.invokevirtual 167, 3)) (h : zk M b = 3 ∧ w_X3_readSeat M b y0 P) (kk : ∀ r M', P r M' → J p l e R s m args below meth c Q E nL M' kc ks (pc + 3) lo (.int r :: st)) : J p l e R s m args below meth c Q E nL M kc ks pc lo (.int y0 :: .ref b :: st) :=
  j_cV_I (n := 1) (As := [.int y0]) C co_X3 rfl wd_915 wd_14 h.1 (c_X3_readSeat l E M b y0 P h.2) ⟨wd_916, wd_913, wd_61, by decide +kernel, by decide +kernel, by decide +kernel⟩ rfl rfl hR hf rfl hst d kk
abbrev rm_X3_readWork : Room := { frames := 3, cells := 0, slots := 0, locals := 64 }
def l_X3_readWork_150 (P : Int32 → Mm → Prop) (K180 : Mm → Prop) (K188 : Mm → Prop) : Nat → Mm → Nat → Int32 → Int32 → Prop
  | 0, _, _, _, _ => False
  | n + 1, M, x0, x1, x2 => (if x2 = 0 then zk M x0 = 3 ∧ w_X3_readSeat M x0 x1 (fun r30 M30 => (if r30 = 0 then K180 M30 else l_X3_readWork_150 P K180 K188 n M30 x0 x1 (x2 + (1 : Int32)))) else (if (600 : Int32) ≤ x2 then K188 M else (zk M x0 = 3 ∧ ∃ a31, zR M x0 0 = some a31 ∧ zk M a31 = 5 ∧ (if (zI M a31 3) = (1 : Int32) then zk M x0 = 3 ∧ w_X3_readSeat M x0 x1 (fun r32 M32 => (if r32 = 0 then K180 M32 else l_X3_readWork_150 P K180 K188 n M32 x0 x1 (x2 + (1 : Int32)))) else K188 M))))
set_option maxHeartbeats 4000000 in
set_option maxRecDepth 100000 in
theorem jl_X3_readWork_150 {P : Int32 → Mm → Prop} {K180 : Mm → Prop} {K188 : Mm → Prop} (C : Cx p l s m args meth c cX3_readWork 3 RX3 (some .boolean) E) (hkc : kc ≤ rm_X3_readWork.cells ∧ ks ≤ rm_X3_readWork.slots) (k180 : ∀ M, K180 M → J p l e rm_X3_readWork s m args below meth c (QI below E P args s rm_X3_readWork.cells rm_X3_readWork.slots) E 3 M kc ks 180 [] []) (k188 : ∀ M, K188 M → J p l e rm_X3_readWork s m args below meth c (QI below E P args s rm_X3_readWork.cells rm_X3_readWork.slots) E 3 M kc ks 188 [] []) : ∀ n M x0 x1 x2, l_X3_readWork_150 P K180 K188 n M x0 x1 x2 → J p l e rm_X3_readWork s m args below meth c (QI below E P args s rm_X3_readWork.cells rm_X3_readWork.slots) E 3 M kc ks 150 [(0, .ref x0), (1, .int x1), (2, .int x2)] [] := by
  intro n
  induction n with
  | zero => intro M x0 x1 x2 h; exact h.elim
  | succ n ih =>
    intro M x0 x1 x2 h
    rw [l_X3_readWork_150] at h
    refine j_iload_n (pc := 150) C 2 dX3_readWork_150 rfl ?_
    refine j_if_eq (pc := 151) C 172 dX3_readWork_151 (by decide) h (fun h => ?_) (fun h => ?_)
    · refine j_aload_n (pc := 172) C 0 dX3_readWork_172 rfl ?_
      refine j_iload_n (pc := 173) C 1 dX3_readWork_173 rfl ?_
      refine cs_X3_167 (pc := 174) C ⟨Nat.le_of_ble_eq_true rfl, Nat.le_of_ble_eq_true rfl⟩ hkc (Nat.le_of_ble_eq_true rfl) dX3_readWork_174 h (fun r30 M30 h => ?_)
      refine j_if_ne (pc := 177) C 182 dX3_readWork_177 (by decide) h (fun h => ?_) (fun h => ?_)
      · refine j_iinc (pc := 182) (v := (1 : Int32)) C 2 [(2, _), (0, _), (1, _)] dX3_readWork_182 rfl rfl (by decide) rfl ?_
        refine j_goto (pc := 185) C 150 dX3_readWork_185 (by decide) ?_
        exact j_weak [1, 2, 0] rfl (ih _ _ _ _ h)
      · exact j_weak [] rfl (k180 _ h)
    · refine j_iload_n (pc := 154) C 2 dX3_readWork_154 rfl ?_
      refine j_sipush (pc := 155) (v := (600 : Int32)) C dX3_readWork_155 rfl ?_
      refine j_icmp_ge (pc := 158) C 188 dX3_readWork_158 (by decide) h (fun h => ?_) (fun h => ?_)
      · exact j_weak [] rfl (k188 _ h)
      · refine j_aload_n (pc := 161) C 0 dX3_readWork_161 rfl ?_
        refine gf_X3_15 (pc := 162) C dX3_readWork_162 h (fun a31 h => ?_)
        refine gf_X3_37 (pc := 165) C dX3_readWork_165 h (fun h => ?_)
        refine j_iconst (pc := 168) (v := (1 : Int32)) C dX3_readWork_168 rfl ?_
        refine j_icmp_ne (pc := 169) C 188 dX3_readWork_169 (by decide) h (fun h => ?_) (fun h => ?_)
        · exact j_weak [] rfl (k188 _ h)
        · refine j_aload_n (pc := 172) C 0 dX3_readWork_172 rfl ?_
          refine j_iload_n (pc := 173) C 1 dX3_readWork_173 rfl ?_
          refine cs_X3_167 (pc := 174) C ⟨Nat.le_of_ble_eq_true rfl, Nat.le_of_ble_eq_true rfl⟩ hkc (Nat.le_of_ble_eq_true rfl) dX3_readWork_174 h (fun r32 M32 h => ?_)
          refine j_if_ne (pc := 177) C 182 dX3_readWork_177 (by decide) h (fun h => ?_) (fun h => ?_)
          · refine j_iinc (pc := 182) (v := (1 : Int32)) C 2 [(2, _), (0, _), (1, _)] dX3_readWork_182 rfl rfl (by decide) rfl ?_
            refine j_goto (pc := 185) C 150 dX3_readWork_185 (by decide) ?_
            exact j_weak [1, 2, 0] rfl (ih _ _ _ _ h)
          · exact j_weak [] rfl (k180 _ h)
def w_X3_readWork (M : Mm) (x0 : Nat) (P : Int32 → Mm → Prop) : Prop := (zk M x0 = 3 ∧ ∃ a1, zR M x0 1 = some a1 ∧ (zk M a1 = 6 ∧ ∃ a2, zR M a1 12 = some a2 ∧ zk M a2 = 2 ∧ (zk M x0 = 3 ∧ ∃ a3, zR M x0 1 = some a3 ∧ (zk M a3 = 6 ∧ ∃ a4, zR M a3 12 = some a4 ∧ zk M x0 = 3 ∧ w_X3_readNewName M x0 a4 (fun r5 M5 => (if r5 = 0 then ((0 : Int32) = 0 ∨ (0 : Int32) = 1) ∧ P (0 : Int32) M5 else zk M5 x0 = 3 ∧ w_X3_isNumber M5 x0 (0 : Int32) (9 : Int32) (fun r6 M6 => (if r6 = 0 then ((0 : Int32) = 0 ∨ (0 : Int32) = 1) ∧ P (0 : Int32) M6 else (zk M6 x0 = 3 ∧ ∃ a7, zR M6 x0 1 = some a7 ∧ (zk M6 a7 = 6 ∧ ∃ a8, zR M6 a7 13 = some a8 ∧ zk M6 x0 = 3 ∧ w_X3_takeNumber M6 x0 (fun r9 M9 => zk M9 a8 = 10 ∧ vp_in (zI M a2 1) (zl M9 a8) ∧ (∀ M10, M10 = sI M9 a8 (zI M a2 1).toNatClampNeg r9 → (zk M10 x0 = 3 ∧ ∃ a11, zR M10 x0 1 = some a11 ∧ zk M10 a11 = 6 ∧ zk M10 x0 = 3 ∧ w_X3_isNumber M10 x0 (0 : Int32) ((zI M10 a11 0) - (1 : Int32)) (fun r12 M12 => (if r12 = 0 then ((0 : Int32) = 0 ∨ (0 : Int32) = 1) ∧ P (0 : Int32) M12 else (zk M12 x0 = 3 ∧ ∃ a13, zR M12 x0 1 = some a13 ∧ (zk M12 a13 = 6 ∧ ∃ a14, zR M12 a13 14 = some a14 ∧ zk M12 x0 = 3 ∧ w_X3_takeNumber M12 x0 (fun r15 M15 => zk M15 a14 = 10 ∧ vp_in (zI M a2 1) (zl M15 a14) ∧ (∀ M16, M16 = sI M15 a14 (zI M a2 1).toNatClampNeg r15 → (zk M16 x0 = 3 ∧ ∃ a17, zR M16 x0 1 = some a17 ∧ (zk M16 a17 = 6 ∧ ∃ a18, zR M16 a17 14 = some a18 ∧ zk M16 a18 = 10 ∧ vp_in (zI M a2 1) (zl M16 a18) ∧ (zk M16 x0 = 3 ∧ ∃ a19, zR M16 x0 1 = some a19 ∧ zk M16 a19 = 6 ∧ zk M16 x0 = 3 ∧ w_X3_isNumber M16 x0 (zI M16 a18 (zI M a2 1).toNatClampNeg) ((zI M16 a19 0) - (1 : Int32)) (fun r20 M20 => (if r20 = 0 then ((0 : Int32) = 0 ∨ (0 : Int32) = 1) ∧ P (0 : Int32) M20 else (zk M20 x0 = 3 ∧ ∃ a21, zR M20 x0 1 = some a21 ∧ (zk M20 a21 = 6 ∧ ∃ a22, zR M20 a21 15 = some a22 ∧ zk M20 x0 = 3 ∧ w_X3_takeNumber M20 x0 (fun r23 M23 => zk M23 a22 = 10 ∧ vp_in (zI M a2 1) (zl M23 a22) ∧ (∀ M24, M24 = sI M23 a22 (zI M a2 1).toNatClampNeg r23 → zk M24 x0 = 3 ∧ w_X3_isNumber M24 x0 (0 : Int32) (999 : Int32) (fun r25 M25 => (if r25 = 0 then ((0 : Int32) = 0 ∨ (0 : Int32) = 1) ∧ P (0 : Int32) M25 else (zk M25 x0 = 3 ∧ ∃ a26, zR M25 x0 1 = some a26 ∧ (zk M25 a26 = 6 ∧ ∃ a27, zR M25 a26 16 = some a27 ∧ zk M25 x0 = 3 ∧ w_X3_takeNumber M25 x0 (fun r28 M28 => zk M28 a27 = 10 ∧ vp_in (zI M a2 1) (zl M28 a27) ∧ (∀ M29, M29 = sI M28 a27 (zI M a2 1).toNatClampNeg r28 → (∃ n150, l_X3_readWork_150 P (fun M33 => ((0 : Int32) = 0 ∨ (0 : Int32) = 1) ∧ P (0 : Int32) M33) (fun M34 => ((1 : Int32) = 0 ∨ (1 : Int32) = 1) ∧ P (1 : Int32) M34) n150 M29 x0 (zI M a2 1) (0 : Int32))))))))))))))))))))))))))))))))))))
set_option maxHeartbeats 4000000 in
set_option maxRecDepth 100000 in
theorem c_X3_readWork (l : Launch) (E : EV) (M : Mm) (x0 : Nat) (P : Int32 → Mm → Prop) (h : w_X3_readWork M x0 P) : CtI l E yX3_readWork cX3_readWork 3 .boolean rm_X3_readWork 0 0 [.ref x0] M P := by
  refine ctI_of (by decide +kernel) (Nat.le_of_ble_eq_true rfl) ?_
  intro p e s m args below meth c C
  rw [w_X3_readWork] at h
  show J p l e rm_X3_readWork s m args below meth c (QI below E P args s 0 0) E 3 M 0 0 0 [(0, .ref x0)] []
  refine j_aload_n (pc := 0) C 0 dX3_readWork_0 rfl ?_
  refine gf_X3_19 (pc := 1) C dX3_readWork_1 h (fun a1 h => ?_)
  refine gf_X3_152 (pc := 4) C dX3_readWork_4 h (fun a2 h => ?_)
  refine gf_X3_99 (pc := 7) C dX3_readWork_7 h (fun h => ?_)
  refine j_istore_n (pc := 10) C [(1, _), (0, _)] dX3_readWork_10 (by decide) rfl ?_
  refine j_aload_n (pc := 11) C 1 dX3_readWork_11 rfl ?_
  refine j_aload_n (pc := 12) C 1 dX3_readWork_12 rfl ?_
  refine gf_X3_19 (pc := 13) C dX3_readWork_13 h (fun a3 h => ?_)
  refine gf_X3_152 (pc := 16) C dX3_readWork_16 h (fun a4 h => ?_)
  refine cs_X3_104 (pc := 19) C ⟨Nat.le_of_ble_eq_true rfl, Nat.le_of_ble_eq_true rfl⟩ ⟨Nat.le_of_ble_eq_true rfl, Nat.le_of_ble_eq_true rfl⟩ (Nat.le_of_ble_eq_true rfl) dX3_readWork_19 h (fun r5 M5 h => ?_)
  refine j_if_eq (pc := 22) C 35 dX3_readWork_22 (by decide) h (fun h => ?_) (fun h => ?_)
  · refine j_iconst (pc := 35) (v := (0 : Int32)) C dX3_readWork_35 rfl ?_
    exact j_zret (pc := 36) C dX3_readWork_36 (Nat.le_of_ble_eq_true rfl) (Nat.le_of_ble_eq_true rfl) h
  · refine j_aload_n (pc := 25) C 1 dX3_readWork_25 rfl ?_
    refine j_iconst (pc := 26) (v := (0 : Int32)) C dX3_readWork_26 rfl ?_
    refine j_bipush (pc := 27) (v := (9 : Int32)) C dX3_readWork_27 rfl ?_
    refine cs_X3_60 (pc := 29) C ⟨Nat.le_of_ble_eq_true rfl, Nat.le_of_ble_eq_true rfl⟩ ⟨Nat.le_of_ble_eq_true rfl, Nat.le_of_ble_eq_true rfl⟩ (Nat.le_of_ble_eq_true rfl) dX3_readWork_29 h (fun r6 M6 h => ?_)
    refine j_if_ne (pc := 32) C 37 dX3_readWork_32 (by decide) h (fun h => ?_) (fun h => ?_)
    · refine j_aload_n (pc := 37) C 1 dX3_readWork_37 rfl ?_
      refine gf_X3_19 (pc := 38) C dX3_readWork_38 h (fun a7 h => ?_)
      refine gf_X3_155 (pc := 41) C dX3_readWork_41 h (fun a8 h => ?_)
      refine j_iload_n (pc := 44) C 0 dX3_readWork_44 rfl ?_
      refine j_aload_n (pc := 45) C 1 dX3_readWork_45 rfl ?_
      refine cs_X3_64 (pc := 46) C ⟨Nat.le_of_ble_eq_true rfl, Nat.le_of_ble_eq_true rfl⟩ ⟨Nat.le_of_ble_eq_true rfl, Nat.le_of_ble_eq_true rfl⟩ (Nat.le_of_ble_eq_true rfl) dX3_readWork_46 h (fun r9 M9 h => ?_)
      refine n_iast (pc := 49) C dX3_readWork_49 h (fun M10 h => ?_)
      refine j_aload_n (pc := 50) C 1 dX3_readWork_50 rfl ?_
      refine j_iconst (pc := 51) (v := (0 : Int32)) C dX3_readWork_51 rfl ?_
      refine j_aload_n (pc := 52) C 1 dX3_readWork_52 rfl ?_
      refine gf_X3_19 (pc := 53) C dX3_readWork_53 h (fun a11 h => ?_)
      refine gf_X3_68 (pc := 56) C dX3_readWork_56 h (fun h => ?_)
      refine j_iconst (pc := 59) (v := (1 : Int32)) C dX3_readWork_59 rfl ?_
      refine j_isub (pc := 60) C dX3_readWork_60 ?_
      refine cs_X3_60 (pc := 61) C ⟨Nat.le_of_ble_eq_true rfl, Nat.le_of_ble_eq_true rfl⟩ ⟨Nat.le_of_ble_eq_true rfl, Nat.le_of_ble_eq_true rfl⟩ (Nat.le_of_ble_eq_true rfl) dX3_readWork_61 h (fun r12 M12 h => ?_)
      refine j_if_ne (pc := 64) C 69 dX3_readWork_64 (by decide) h (fun h => ?_) (fun h => ?_)
      · refine j_aload_n (pc := 69) C 1 dX3_readWork_69 rfl ?_
        refine gf_X3_19 (pc := 70) C dX3_readWork_70 h (fun a13 h => ?_)
        refine gf_X3_158 (pc := 73) C dX3_readWork_73 h (fun a14 h => ?_)
        refine j_iload_n (pc := 76) C 0 dX3_readWork_76 rfl ?_
        refine j_aload_n (pc := 77) C 1 dX3_readWork_77 rfl ?_
        refine cs_X3_64 (pc := 78) C ⟨Nat.le_of_ble_eq_true rfl, Nat.le_of_ble_eq_true rfl⟩ ⟨Nat.le_of_ble_eq_true rfl, Nat.le_of_ble_eq_true rfl⟩ (Nat.le_of_ble_eq_true rfl) dX3_readWork_78 h (fun r15 M15 h => ?_)
        refine n_iast (pc := 81) C dX3_readWork_81 h (fun M16 h => ?_)
        refine j_aload_n (pc := 82) C 1 dX3_readWork_82 rfl ?_
        refine j_aload_n (pc := 83) C 1 dX3_readWork_83 rfl ?_
        refine gf_X3_19 (pc := 84) C dX3_readWork_84 h (fun a17 h => ?_)
        refine gf_X3_158 (pc := 87) C dX3_readWork_87 h (fun a18 h => ?_)
        refine j_iload_n (pc := 90) C 0 dX3_readWork_90 rfl ?_
        refine j_iald (pc := 91) C dX3_readWork_91 h (fun h => ?_)
        refine j_aload_n (pc := 92) C 1 dX3_readWork_92 rfl ?_
        refine gf_X3_19 (pc := 93) C dX3_readWork_93 h (fun a19 h => ?_)
        refine gf_X3_68 (pc := 96) C dX3_readWork_96 h (fun h => ?_)
        refine j_iconst (pc := 99) (v := (1 : Int32)) C dX3_readWork_99 rfl ?_
        refine j_isub (pc := 100) C dX3_readWork_100 ?_
        refine cs_X3_60 (pc := 101) C ⟨Nat.le_of_ble_eq_true rfl, Nat.le_of_ble_eq_true rfl⟩ ⟨Nat.le_of_ble_eq_true rfl, Nat.le_of_ble_eq_true rfl⟩ (Nat.le_of_ble_eq_true rfl) dX3_readWork_101 h (fun r20 M20 h => ?_)
        refine j_if_ne (pc := 104) C 109 dX3_readWork_104 (by decide) h (fun h => ?_) (fun h => ?_)
        · refine j_aload_n (pc := 109) C 1 dX3_readWork_109 rfl ?_
          refine gf_X3_19 (pc := 110) C dX3_readWork_110 h (fun a21 h => ?_)
          refine gf_X3_161 (pc := 113) C dX3_readWork_113 h (fun a22 h => ?_)
          refine j_iload_n (pc := 116) C 0 dX3_readWork_116 rfl ?_
          refine j_aload_n (pc := 117) C 1 dX3_readWork_117 rfl ?_
          refine cs_X3_64 (pc := 118) C ⟨Nat.le_of_ble_eq_true rfl, Nat.le_of_ble_eq_true rfl⟩ ⟨Nat.le_of_ble_eq_true rfl, Nat.le_of_ble_eq_true rfl⟩ (Nat.le_of_ble_eq_true rfl) dX3_readWork_118 h (fun r23 M23 h => ?_)
          refine n_iast (pc := 121) C dX3_readWork_121 h (fun M24 h => ?_)
          refine j_aload_n (pc := 122) C 1 dX3_readWork_122 rfl ?_
          refine j_iconst (pc := 123) (v := (0 : Int32)) C dX3_readWork_123 rfl ?_
          refine j_sipush (pc := 124) (v := (999 : Int32)) C dX3_readWork_124 rfl ?_
          refine cs_X3_60 (pc := 127) C ⟨Nat.le_of_ble_eq_true rfl, Nat.le_of_ble_eq_true rfl⟩ ⟨Nat.le_of_ble_eq_true rfl, Nat.le_of_ble_eq_true rfl⟩ (Nat.le_of_ble_eq_true rfl) dX3_readWork_127 h (fun r25 M25 h => ?_)
          refine j_if_ne (pc := 130) C 135 dX3_readWork_130 (by decide) h (fun h => ?_) (fun h => ?_)
          · refine j_aload_n (pc := 135) C 1 dX3_readWork_135 rfl ?_
            refine gf_X3_19 (pc := 136) C dX3_readWork_136 h (fun a26 h => ?_)
            refine gf_X3_164 (pc := 139) C dX3_readWork_139 h (fun a27 h => ?_)
            refine j_iload_n (pc := 142) C 0 dX3_readWork_142 rfl ?_
            refine j_aload_n (pc := 143) C 1 dX3_readWork_143 rfl ?_
            refine cs_X3_64 (pc := 144) C ⟨Nat.le_of_ble_eq_true rfl, Nat.le_of_ble_eq_true rfl⟩ ⟨Nat.le_of_ble_eq_true rfl, Nat.le_of_ble_eq_true rfl⟩ (Nat.le_of_ble_eq_true rfl) dX3_readWork_144 h (fun r28 M28 h => ?_)
            refine n_iast (pc := 147) C dX3_readWork_147 h (fun M29 h => ?_)
            refine j_iconst (pc := 148) (v := (0 : Int32)) C dX3_readWork_148 rfl ?_
            refine j_istore_n (pc := 149) C [(2, _), (1, _), (0, _)] dX3_readWork_149 (by decide) rfl ?_
            obtain ⟨n150, h⟩ := h
            refine j_weak [2, 1, 0] rfl (jl_X3_readWork_150 C ⟨Nat.le_of_ble_eq_true rfl, Nat.le_of_ble_eq_true rfl⟩ (fun M33 h => ?_) (fun M34 h => ?_) n150 _ _ _ _ h)
            · refine j_iconst (pc := 180) (v := (0 : Int32)) C dX3_readWork_180 rfl ?_
              exact j_zret (pc := 181) C dX3_readWork_181 (Nat.le_of_ble_eq_true rfl) (Nat.le_of_ble_eq_true rfl) h
            · refine j_iconst (pc := 188) (v := (1 : Int32)) C dX3_readWork_188 rfl ?_
              exact j_zret (pc := 189) C dX3_readWork_189 (Nat.le_of_ble_eq_true rfl) (Nat.le_of_ble_eq_true rfl) h
          · refine j_iconst (pc := 133) (v := (0 : Int32)) C dX3_readWork_133 rfl ?_
            exact j_zret (pc := 134) C dX3_readWork_134 (Nat.le_of_ble_eq_true rfl) (Nat.le_of_ble_eq_true rfl) h
        · refine j_iconst (pc := 107) (v := (0 : Int32)) C dX3_readWork_107 rfl ?_
          exact j_zret (pc := 108) C dX3_readWork_108 (Nat.le_of_ble_eq_true rfl) (Nat.le_of_ble_eq_true rfl) h
      · refine j_iconst (pc := 67) (v := (0 : Int32)) C dX3_readWork_67 rfl ?_
        exact j_zret (pc := 68) C dX3_readWork_68 (Nat.le_of_ble_eq_true rfl) (Nat.le_of_ble_eq_true rfl) h
    · refine j_iconst (pc := 35) (v := (0 : Int32)) C dX3_readWork_35 rfl ?_
      exact j_zret (pc := 36) C dX3_readWork_36 (Nat.le_of_ble_eq_true rfl) (Nat.le_of_ble_eq_true rfl) h
theorem cs_X3_72 (C : Cx p l s m args meth c cc nL RX3 ret E) {b : Nat} {P : Int32 → Mm → Prop} (hR : rm_X3_readHall.frames + 1 ≤ R.frames ∧ 8 + (2 + 11) + rm_X3_readHall.locals ≤ R.locals) (hf : kc ≤ R.cells ∧ ks ≤ R.slots) (hst : (st.map fun v => v.category).sum ≤ 8) (d : decode cc pc = .ok (.invokevirtual 72, 3)) (h : zk M b = 3 ∧ w_X3_readHall M b P) (kk : ∀ r M', P r M' → J p l e R s m args below meth c Q E nL M' kc ks (pc + 3) lo (.int r :: st)) : J p l e R s m args below meth c Q E nL M kc ks pc lo (.ref b :: st) :=
  j_cV_I (n := 0) (As := []) C co_X3 rfl wd_873 wd_8 h.1 (c_X3_readHall l E M b P h.2) ⟨wd_874, wd_871, wd_61, by decide +kernel, by decide +kernel, by decide +kernel⟩ rfl rfl hR hf rfl hst d kk
theorem cs_X3_77 (C : Cx p l s m args meth c cc nL RX3 ret E) {b : Nat} {P : Int32 → Mm → Prop} (hR : rm_X3_readPlayer.frames + 1 ≤ R.frames ∧ 8 + (3 + 11) + rm_X3_readPlayer.locals ≤ R.locals) (hf : kc ≤ R.cells ∧ ks ≤ R.slots) (hst : (st.map fun v => v.category).sum ≤ 8) (d : decode cc pc = .ok (.invokevirtual 77, 3)) (h : zk M b = 3 ∧ w_X3_readPlayer M b P) (kk : ∀ r M', P r M' → J p l e R s m args below meth c Q E nL M' kc ks (pc + 3) lo (.int r :: st)) : J p l e R s m args below meth c Q E nL M kc ks pc lo (.ref b :: st) :=
  j_cV_I (n := 0) (As := []) C co_X3 rfl wd_894 wd_10 h.1 (c_X3_readPlayer l E M b P h.2) ⟨wd_895, wd_892, wd_61, by decide +kernel, by decide +kernel, by decide +kernel⟩ rfl rfl hR hf rfl hst d kk
theorem cs_X3_82 (C : Cx p l s m args meth c cc nL RX3 ret E) {b : Nat} {P : Int32 → Mm → Prop} (hR : rm_X3_readAbsence.frames + 1 ≤ R.frames ∧ 8 + (2 + 11) + rm_X3_readAbsence.locals ≤ R.locals) (hf : kc ≤ R.cells ∧ ks ≤ R.slots) (hst : (st.map fun v => v.category).sum ≤ 8) (d : decode cc pc = .ok (.invokevirtual 82, 3)) (h : zk M b = 3 ∧ w_X3_readAbsence M b P) (kk : ∀ r M', P r M' → J p l e R s m args below meth c Q E nL M' kc ks (pc + 3) lo (.int r :: st)) : J p l e R s m args below meth c Q E nL M kc ks pc lo (.ref b :: st) :=
  j_cV_I (n := 0) (As := []) C co_X3 rfl wd_906 wd_12 h.1 (c_X3_readAbsence l E M b P h.2) ⟨wd_907, wd_904, wd_61, by decide +kernel, by decide +kernel, by decide +kernel⟩ rfl rfl hR hf rfl hst d kk
theorem cs_X3_87 (C : Cx p l s m args meth c cc nL RX3 ret E) {b : Nat} {P : Int32 → Mm → Prop} (hR : rm_X3_readWork.frames + 1 ≤ R.frames ∧ 8 + (3 + 11) + rm_X3_readWork.locals ≤ R.locals) (hf : kc ≤ R.cells ∧ ks ≤ R.slots) (hst : (st.map fun v => v.category).sum ≤ 8) (d : decode cc pc = .ok (.invokevirtual 87, 3)) (h : zk M b = 3 ∧ w_X3_readWork M b P) (kk : ∀ r M', P r M' → J p l e R s m args below meth c Q E nL M' kc ks (pc + 3) lo (.int r :: st)) : J p l e R s m args below meth c Q E nL M kc ks pc lo (.ref b :: st) :=
  j_cV_I (n := 0) (As := []) C co_X3 rfl wd_911 wd_13 h.1 (c_X3_readWork l E M b P h.2) ⟨wd_912, wd_909, wd_61, by decide +kernel, by decide +kernel, by decide +kernel⟩ rfl rfl hR hf rfl hst d kk
theorem cs_X3_92 (C : Cx p l s m args meth c cc nL RX3 ret E) {b : Nat} {P : Int32 → Mm → Prop} (hR : rm_X3_readDouble.frames + 1 ≤ R.frames ∧ 8 + (1 + 11) + rm_X3_readDouble.locals ≤ R.locals) (hf : kc ≤ R.cells ∧ ks ≤ R.slots) (hst : (st.map fun v => v.category).sum ≤ 8) (d : decode cc pc = .ok (.invokevirtual 92, 3)) (h : zk M b = 3 ∧ w_X3_readDouble M b P) (kk : ∀ r M', P r M' → J p l e R s m args below meth c Q E nL M' kc ks (pc + 3) lo (.int r :: st)) : J p l e R s m args below meth c Q E nL M kc ks pc lo (.ref b :: st) :=
  j_cV_I (n := 0) (As := []) C co_X3 rfl wd_924 wd_15 h.1 (c_X3_readDouble l E M b P h.2) ⟨wd_925, wd_922, wd_61, by decide +kernel, by decide +kernel, by decide +kernel⟩ rfl rfl hR hf rfl hst d kk
abbrev rm_X3_readStatement : Room := { frames := 6, cells := 0, slots := 0, locals := 164 }
def w_X3_readStatement (M : Mm) (x0 : Nat) (P : Int32 → Mm → Prop) : Prop := (zk M x0 = 3 ∧ ∃ a1, zR M x0 0 = some a1 ∧ zk M a1 = 5 ∧ (if (zI M a1 3) = (1 : Int32) then (zk M x0 = 3 ∧ ∃ a2, zR M x0 0 = some a2 ∧ zk M a2 = 5 ∧ w_X7_codeOf M 1 (fun r3 M3 => (if (lg_cmp (zJ M a2 5) r3) = 0 then zk M3 x0 = 3 ∧ w_X3_readHall M3 x0 (fun r17 M17 => (r17 = 0 ∨ r17 = 1) ∧ P r17 M17) else (zk M3 x0 = 3 ∧ ∃ a4, zR M3 x0 0 = some a4 ∧ zk M3 a4 = 5 ∧ w_X7_codeOf M3 2 (fun r5 M5 => (if (lg_cmp (zJ M3 a4 5) r5) = 0 then zk M5 x0 = 3 ∧ w_X3_readPlayer M5 x0 (fun r16 M16 => (r16 = 0 ∨ r16 = 1) ∧ P r16 M16) else (zk M5 x0 = 3 ∧ ∃ a6, zR M5 x0 0 = some a6 ∧ zk M5 a6 = 5 ∧ w_X7_codeOf M5 3 (fun r7 M7 => (if (lg_cmp (zJ M5 a6 5) r7) = 0 then zk M7 x0 = 3 ∧ w_X3_readAbsence M7 x0 (fun r15 M15 => (r15 = 0 ∨ r15 = 1) ∧ P r15 M15) else (zk M7 x0 = 3 ∧ ∃ a8, zR M7 x0 0 = some a8 ∧ zk M7 a8 = 5 ∧ w_X7_codeOf M7 4 (fun r9 M9 => (if (lg_cmp (zJ M7 a8 5) r9) = 0 then zk M9 x0 = 3 ∧ w_X3_readWork M9 x0 (fun r14 M14 => (r14 = 0 ∨ r14 = 1) ∧ P r14 M14) else (zk M9 x0 = 3 ∧ ∃ a10, zR M9 x0 0 = some a10 ∧ zk M9 a10 = 5 ∧ w_X7_codeOf M9 5 (fun r11 M11 => (if (lg_cmp (zJ M9 a10 5) r11) = 0 then zk M11 x0 = 3 ∧ w_X3_readDouble M11 x0 (fun r13 M13 => (r13 = 0 ∨ r13 = 1) ∧ P r13 M13) else zk M11 x0 = 3 ∧ w_X3_fail M11 x0 (1 : Int32) (fun r12 M12 => (r12 = 0 ∨ r12 = 1) ∧ P r12 M12)))))))))))))))) else zk M x0 = 3 ∧ w_X3_fail M x0 (1 : Int32) (fun r18 M18 => (r18 = 0 ∨ r18 = 1) ∧ P r18 M18)))
set_option maxHeartbeats 4000000 in
set_option maxRecDepth 100000 in
theorem c_X3_readStatement (l : Launch) (E : EV) (M : Mm) (x0 : Nat) (P : Int32 → Mm → Prop) (h : w_X3_readStatement M x0 P) : CtI l E yX3_readStatement cX3_readStatement 1 .boolean rm_X3_readStatement 0 0 [.ref x0] M P := by
  refine ctI_of (by decide +kernel) (Nat.le_of_ble_eq_true rfl) ?_
  intro p e s m args below meth c C
  rw [w_X3_readStatement] at h
  show J p l e rm_X3_readStatement s m args below meth c (QI below E P args s 0 0) E 1 M 0 0 0 [(0, .ref x0)] []
  refine j_aload_n (pc := 0) C 0 dX3_readStatement_0 rfl ?_
  refine gf_X3_15 (pc := 1) C dX3_readStatement_1 h (fun a1 h => ?_)
  refine gf_X3_37 (pc := 4) C dX3_readStatement_4 h (fun h => ?_)
  refine j_iconst (pc := 7) (v := (1 : Int32)) C dX3_readStatement_7 rfl ?_
  refine j_icmp_eq (pc := 8) C 17 dX3_readStatement_8 (by decide) h (fun h => ?_) (fun h => ?_)
  · refine j_aload_n (pc := 17) C 0 dX3_readStatement_17 rfl ?_
    refine gf_X3_15 (pc := 18) C dX3_readStatement_18 h (fun a2 h => ?_)
    refine gf_X3_46 (pc := 21) C dX3_readStatement_21 h (fun h => ?_)
    refine j_ldcS (pc := 24) (i := 1) C (List.mem_of_getElem? (i := 1) rfl) dX3_readStatement_24 ?_
    refine cs_X3_52 (pc := 26) C ⟨Nat.le_of_ble_eq_true rfl, Nat.le_of_ble_eq_true rfl⟩ ⟨Nat.le_of_ble_eq_true rfl, Nat.le_of_ble_eq_true rfl⟩ (Nat.le_of_ble_eq_true rfl) dX3_readStatement_26 h (fun r3 M3 h => ?_)
    refine j_lcmp (pc := 29) C dX3_readStatement_29 ?_
    refine j_if_ne (pc := 30) C 38 dX3_readStatement_30 (by decide) h (fun h => ?_) (fun h => ?_)
    · refine j_aload_n (pc := 38) C 0 dX3_readStatement_38 rfl ?_
      refine gf_X3_15 (pc := 39) C dX3_readStatement_39 h (fun a4 h => ?_)
      refine gf_X3_46 (pc := 42) C dX3_readStatement_42 h (fun h => ?_)
      refine j_ldcS (pc := 45) (i := 2) C (List.mem_of_getElem? (i := 2) rfl) dX3_readStatement_45 ?_
      refine cs_X3_52 (pc := 47) C ⟨Nat.le_of_ble_eq_true rfl, Nat.le_of_ble_eq_true rfl⟩ ⟨Nat.le_of_ble_eq_true rfl, Nat.le_of_ble_eq_true rfl⟩ (Nat.le_of_ble_eq_true rfl) dX3_readStatement_47 h (fun r5 M5 h => ?_)
      refine j_lcmp (pc := 50) C dX3_readStatement_50 ?_
      refine j_if_ne (pc := 51) C 59 dX3_readStatement_51 (by decide) h (fun h => ?_) (fun h => ?_)
      · refine j_aload_n (pc := 59) C 0 dX3_readStatement_59 rfl ?_
        refine gf_X3_15 (pc := 60) C dX3_readStatement_60 h (fun a6 h => ?_)
        refine gf_X3_46 (pc := 63) C dX3_readStatement_63 h (fun h => ?_)
        refine j_ldcS (pc := 66) (i := 3) C (List.mem_of_getElem? (i := 3) rfl) dX3_readStatement_66 ?_
        refine cs_X3_52 (pc := 68) C ⟨Nat.le_of_ble_eq_true rfl, Nat.le_of_ble_eq_true rfl⟩ ⟨Nat.le_of_ble_eq_true rfl, Nat.le_of_ble_eq_true rfl⟩ (Nat.le_of_ble_eq_true rfl) dX3_readStatement_68 h (fun r7 M7 h => ?_)
        refine j_lcmp (pc := 71) C dX3_readStatement_71 ?_
        refine j_if_ne (pc := 72) C 80 dX3_readStatement_72 (by decide) h (fun h => ?_) (fun h => ?_)
        · refine j_aload_n (pc := 80) C 0 dX3_readStatement_80 rfl ?_
          refine gf_X3_15 (pc := 81) C dX3_readStatement_81 h (fun a8 h => ?_)
          refine gf_X3_46 (pc := 84) C dX3_readStatement_84 h (fun h => ?_)
          refine j_ldcS (pc := 87) (i := 4) C (List.mem_of_getElem? (i := 4) rfl) dX3_readStatement_87 ?_
          refine cs_X3_52 (pc := 89) C ⟨Nat.le_of_ble_eq_true rfl, Nat.le_of_ble_eq_true rfl⟩ ⟨Nat.le_of_ble_eq_true rfl, Nat.le_of_ble_eq_true rfl⟩ (Nat.le_of_ble_eq_true rfl) dX3_readStatement_89 h (fun r9 M9 h => ?_)
          refine j_lcmp (pc := 92) C dX3_readStatement_92 ?_
          refine j_if_ne (pc := 93) C 101 dX3_readStatement_93 (by decide) h (fun h => ?_) (fun h => ?_)
          · refine j_aload_n (pc := 101) C 0 dX3_readStatement_101 rfl ?_
            refine gf_X3_15 (pc := 102) C dX3_readStatement_102 h (fun a10 h => ?_)
            refine gf_X3_46 (pc := 105) C dX3_readStatement_105 h (fun h => ?_)
            refine j_ldcS (pc := 108) (i := 5) C (List.mem_of_getElem? (i := 5) rfl) dX3_readStatement_108 ?_
            refine cs_X3_52 (pc := 110) C ⟨Nat.le_of_ble_eq_true rfl, Nat.le_of_ble_eq_true rfl⟩ ⟨Nat.le_of_ble_eq_true rfl, Nat.le_of_ble_eq_true rfl⟩ (Nat.le_of_ble_eq_true rfl) dX3_readStatement_110 h (fun r11 M11 h => ?_)
            refine j_lcmp (pc := 113) C dX3_readStatement_113 ?_
            refine j_if_ne (pc := 114) C 122 dX3_readStatement_114 (by decide) h (fun h => ?_) (fun h => ?_)
            · refine j_aload_n (pc := 122) C 0 dX3_readStatement_122 rfl ?_
              refine j_iconst (pc := 123) (v := (1 : Int32)) C dX3_readStatement_123 rfl ?_
              refine cs_X3_56 (pc := 124) C ⟨Nat.le_of_ble_eq_true rfl, Nat.le_of_ble_eq_true rfl⟩ ⟨Nat.le_of_ble_eq_true rfl, Nat.le_of_ble_eq_true rfl⟩ (Nat.le_of_ble_eq_true rfl) dX3_readStatement_124 h (fun r12 M12 h => ?_)
              exact j_zret (pc := 127) C dX3_readStatement_127 (Nat.le_of_ble_eq_true rfl) (Nat.le_of_ble_eq_true rfl) h
            · refine j_aload_n (pc := 117) C 0 dX3_readStatement_117 rfl ?_
              refine cs_X3_92 (pc := 118) C ⟨Nat.le_of_ble_eq_true rfl, Nat.le_of_ble_eq_true rfl⟩ ⟨Nat.le_of_ble_eq_true rfl, Nat.le_of_ble_eq_true rfl⟩ (Nat.le_of_ble_eq_true rfl) dX3_readStatement_118 h (fun r13 M13 h => ?_)
              exact j_zret (pc := 121) C dX3_readStatement_121 (Nat.le_of_ble_eq_true rfl) (Nat.le_of_ble_eq_true rfl) h
          · refine j_aload_n (pc := 96) C 0 dX3_readStatement_96 rfl ?_
            refine cs_X3_87 (pc := 97) C ⟨Nat.le_of_ble_eq_true rfl, Nat.le_of_ble_eq_true rfl⟩ ⟨Nat.le_of_ble_eq_true rfl, Nat.le_of_ble_eq_true rfl⟩ (Nat.le_of_ble_eq_true rfl) dX3_readStatement_97 h (fun r14 M14 h => ?_)
            exact j_zret (pc := 100) C dX3_readStatement_100 (Nat.le_of_ble_eq_true rfl) (Nat.le_of_ble_eq_true rfl) h
        · refine j_aload_n (pc := 75) C 0 dX3_readStatement_75 rfl ?_
          refine cs_X3_82 (pc := 76) C ⟨Nat.le_of_ble_eq_true rfl, Nat.le_of_ble_eq_true rfl⟩ ⟨Nat.le_of_ble_eq_true rfl, Nat.le_of_ble_eq_true rfl⟩ (Nat.le_of_ble_eq_true rfl) dX3_readStatement_76 h (fun r15 M15 h => ?_)
          exact j_zret (pc := 79) C dX3_readStatement_79 (Nat.le_of_ble_eq_true rfl) (Nat.le_of_ble_eq_true rfl) h
      · refine j_aload_n (pc := 54) C 0 dX3_readStatement_54 rfl ?_
        refine cs_X3_77 (pc := 55) C ⟨Nat.le_of_ble_eq_true rfl, Nat.le_of_ble_eq_true rfl⟩ ⟨Nat.le_of_ble_eq_true rfl, Nat.le_of_ble_eq_true rfl⟩ (Nat.le_of_ble_eq_true rfl) dX3_readStatement_55 h (fun r16 M16 h => ?_)
        exact j_zret (pc := 58) C dX3_readStatement_58 (Nat.le_of_ble_eq_true rfl) (Nat.le_of_ble_eq_true rfl) h
    · refine j_aload_n (pc := 33) C 0 dX3_readStatement_33 rfl ?_
      refine cs_X3_72 (pc := 34) C ⟨Nat.le_of_ble_eq_true rfl, Nat.le_of_ble_eq_true rfl⟩ ⟨Nat.le_of_ble_eq_true rfl, Nat.le_of_ble_eq_true rfl⟩ (Nat.le_of_ble_eq_true rfl) dX3_readStatement_34 h (fun r17 M17 h => ?_)
      exact j_zret (pc := 37) C dX3_readStatement_37 (Nat.le_of_ble_eq_true rfl) (Nat.le_of_ble_eq_true rfl) h
  · refine j_aload_n (pc := 11) C 0 dX3_readStatement_11 rfl ?_
    refine j_iconst (pc := 12) (v := (1 : Int32)) C dX3_readStatement_12 rfl ?_
    refine cs_X3_56 (pc := 13) C ⟨Nat.le_of_ble_eq_true rfl, Nat.le_of_ble_eq_true rfl⟩ ⟨Nat.le_of_ble_eq_true rfl, Nat.le_of_ble_eq_true rfl⟩ (Nat.le_of_ble_eq_true rfl) dX3_readStatement_13 h (fun r18 M18 h => ?_)
    exact j_zret (pc := 16) C dX3_readStatement_16 (Nat.le_of_ble_eq_true rfl) (Nat.le_of_ble_eq_true rfl) h
theorem cs_X3_23 (C : Cx p l s m args meth c cc nL RX3 ret E) {b : Nat} {P : Mm → Prop} (hR : rm_X6_clear.frames + 1 ≤ R.frames ∧ 8 + (2 + 11) + rm_X6_clear.locals ≤ R.locals) (hf : kc ≤ R.cells ∧ ks ≤ R.slots) (hst : (st.map fun v => v.category).sum ≤ 8) (d : decode cc pc = .ok (.invokevirtual 23, 3)) (h : zk M b = 6 ∧ w_X6_clear M b P) (kk : ∀ M', P M' → J p l e R s m args below meth c Q E nL M' kc ks (pc + 3) lo st) : J p l e R s m args below meth c Q E nL M kc ks pc lo (.ref b :: st) :=
  j_cV_V (n := 0) (As := []) C co_X6 rfl wd_823 wd_824 h.1 (c_X6_clear l E M b P h.2) ⟨wd_825, wd_822, wd_43, by decide +kernel, by decide +kernel, by decide +kernel⟩ rfl rfl hR hf rfl hst d kk
theorem cs_X3_33 (C : Cx p l s m args meth c cc nL RX3 ret E) {b : Nat} {P : Int32 → Mm → Prop} (hR : rm_X3_readDays.frames + 1 ≤ R.frames ∧ 8 + (1 + 11) + rm_X3_readDays.locals ≤ R.locals) (hf : kc ≤ R.cells ∧ ks ≤ R.slots) (hst : (st.map fun v => v.category).sum ≤ 8) (d : decode cc pc = .ok (.invokevirtual 33, 3)) (h : zk M b = 3 ∧ w_X3_readDays M b P) (kk : ∀ r M', P r M' → J p l e R s m args below meth c Q E nL M' kc ks (pc + 3) lo (.int r :: st)) : J p l e R s m args below meth c Q E nL M kc ks pc lo (.ref b :: st) :=
  j_cV_I (n := 0) (As := []) C co_X3 rfl wd_841 wd_2 h.1 (c_X3_readDays l E M b P h.2) ⟨wd_842, wd_839, wd_61, by decide +kernel, by decide +kernel, by decide +kernel⟩ rfl rfl hR hf rfl hst d kk
theorem cs_X3_40 (C : Cx p l s m args meth c cc nL RX3 ret E) {b : Nat} {P : Int32 → Mm → Prop} (hR : rm_X3_readStatement.frames + 1 ≤ R.frames ∧ 8 + (1 + 11) + rm_X3_readStatement.locals ≤ R.locals) (hf : kc ≤ R.cells ∧ ks ≤ R.slots) (hst : (st.map fun v => v.category).sum ≤ 8) (d : decode cc pc = .ok (.invokevirtual 40, 3)) (h : zk M b = 3 ∧ w_X3_readStatement M b P) (kk : ∀ r M', P r M' → J p l e R s m args below meth c Q E nL M' kc ks (pc + 3) lo (.int r :: st)) : J p l e R s m args below meth c Q E nL M kc ks pc lo (.ref b :: st) :=
  j_cV_I (n := 0) (As := []) C co_X3 rfl wd_868 wd_7 h.1 (c_X3_readStatement l E M b P h.2) ⟨wd_869, wd_866, wd_61, by decide +kernel, by decide +kernel, by decide +kernel⟩ rfl rfl hR hf rfl hst d kk
abbrev rm_X3_read : Room := { frames := 7, cells := 0, slots := 0, locals := 184 }
def l_X3_read_21 (P : Mm → Prop) (K68 : Mm → Prop) : Nat → Mm → Nat → Int32 → Int32 → Prop
  | 0, _, _, _, _ => False
  | n + 1, M, x0, x1, x2 => (if (600 : Int32) ≤ x2 then K68 M else (if x1 = 0 then K68 M else (zk M x0 = 3 ∧ ∃ a6, zR M x0 0 = some a6 ∧ zk M a6 = 5 ∧ (if (zI M a6 3) = 0 then K68 M else zk M x0 = 3 ∧ w_X3_readStatement M x0 (fun r7 M7 => (if r7 = 0 then l_X3_read_21 P K68 n M7 x0 (0 : Int32) (x2 + (1 : Int32)) else zk M7 x0 = 3 ∧ w_X3_readSemicolon M7 x0 (fun r8 M8 => (if r8 = 0 then l_X3_read_21 P K68 n M8 x0 (0 : Int32) (x2 + (1 : Int32)) else l_X3_read_21 P K68 n M8 x0 (1 : Int32) (x2 + (1 : Int32))))))))))
set_option maxHeartbeats 4000000 in
set_option maxRecDepth 100000 in
theorem jl_X3_read_21 {P : Mm → Prop} {K68 : Mm → Prop} (C : Cx p l s m args meth c cX3_read 3 RX3 none E) (hkc : kc ≤ rm_X3_read.cells ∧ ks ≤ rm_X3_read.slots) (k68 : ∀ M, K68 M → J p l e rm_X3_read s m args below meth c (QV below E P args s rm_X3_read.cells rm_X3_read.slots) E 3 M kc ks 68 [] []) : ∀ n M x0 x1 x2, l_X3_read_21 P K68 n M x0 x1 x2 → J p l e rm_X3_read s m args below meth c (QV below E P args s rm_X3_read.cells rm_X3_read.slots) E 3 M kc ks 21 [(0, .ref x0), (1, .int x1), (2, .int x2)] [] := by
  intro n
  induction n with
  | zero => intro M x0 x1 x2 h; exact h.elim
  | succ n ih =>
    intro M x0 x1 x2 h
    rw [l_X3_read_21] at h
    refine j_iload_n (pc := 21) C 2 dX3_read_21 rfl ?_
    refine j_sipush (pc := 22) (v := (600 : Int32)) C dX3_read_22 rfl ?_
    refine j_icmp_ge (pc := 25) C 68 dX3_read_25 (by decide) h (fun h => ?_) (fun h => ?_)
    · exact j_weak [] rfl (k68 _ h)
    · refine j_iload_n (pc := 28) C 1 dX3_read_28 rfl ?_
      refine j_if_eq (pc := 29) C 68 dX3_read_29 (by decide) h (fun h => ?_) (fun h => ?_)
      · exact j_weak [] rfl (k68 _ h)
      · refine j_aload_n (pc := 32) C 0 dX3_read_32 rfl ?_
        refine gf_X3_15 (pc := 33) C dX3_read_33 h (fun a6 h => ?_)
        refine gf_X3_37 (pc := 36) C dX3_read_36 h (fun h => ?_)
        refine j_if_eq (pc := 39) C 68 dX3_read_39 (by decide) h (fun h => ?_) (fun h => ?_)
        · exact j_weak [] rfl (k68 _ h)
        · refine j_aload_n (pc := 42) C 0 dX3_read_42 rfl ?_
          refine cs_X3_40 (pc := 43) C ⟨Nat.le_of_ble_eq_true rfl, Nat.le_of_ble_eq_true rfl⟩ hkc (Nat.le_of_ble_eq_true rfl) dX3_read_43 h (fun r7 M7 h => ?_)
          refine j_if_eq (pc := 46) C 60 dX3_read_46 (by decide) h (fun h => ?_) (fun h => ?_)
          · refine j_iconst (pc := 60) (v := (0 : Int32)) C dX3_read_60 rfl ?_
            refine j_istore_n (pc := 61) C [(1, _), (0, _), (2, _)] dX3_read_61 (by decide) rfl ?_
            refine j_iinc (pc := 62) (v := (1 : Int32)) C 2 [(2, _), (1, _), (0, _)] dX3_read_62 rfl rfl (by decide) rfl ?_
            refine j_goto (pc := 65) C 21 dX3_read_65 (by decide) ?_
            exact j_weak [2, 1, 0] rfl (ih _ _ _ _ h)
          · refine j_aload_n (pc := 49) C 0 dX3_read_49 rfl ?_
            refine cs_X3_43 (pc := 50) C ⟨Nat.le_of_ble_eq_true rfl, Nat.le_of_ble_eq_true rfl⟩ hkc (Nat.le_of_ble_eq_true rfl) dX3_read_50 h (fun r8 M8 h => ?_)
            refine j_if_eq (pc := 53) C 60 dX3_read_53 (by decide) h (fun h => ?_) (fun h => ?_)
            · refine j_iconst (pc := 60) (v := (0 : Int32)) C dX3_read_60 rfl ?_
              refine j_istore_n (pc := 61) C [(1, _), (0, _), (2, _)] dX3_read_61 (by decide) rfl ?_
              refine j_iinc (pc := 62) (v := (1 : Int32)) C 2 [(2, _), (1, _), (0, _)] dX3_read_62 rfl rfl (by decide) rfl ?_
              refine j_goto (pc := 65) C 21 dX3_read_65 (by decide) ?_
              exact j_weak [2, 1, 0] rfl (ih _ _ _ _ h)
            · refine j_iconst (pc := 56) (v := (1 : Int32)) C dX3_read_56 rfl ?_
              refine j_goto (pc := 57) C 61 dX3_read_57 (by decide) ?_
              refine j_istore_n (pc := 61) C [(1, _), (0, _), (2, _)] dX3_read_61 (by decide) rfl ?_
              refine j_iinc (pc := 62) (v := (1 : Int32)) C 2 [(2, _), (1, _), (0, _)] dX3_read_62 rfl rfl (by decide) rfl ?_
              refine j_goto (pc := 65) C 21 dX3_read_65 (by decide) ?_
              exact j_weak [2, 1, 0] rfl (ih _ _ _ _ h)
def w_X3_read (M : Mm) (x0 : Nat) (P : Mm → Prop) : Prop := (zk M x0 = 3 ∧ ∃ a1, zR M x0 1 = some a1 ∧ zk M a1 = 6 ∧ w_X6_clear M a1 (fun M2 => (zk M2 x0 = 3 ∧ ∃ a3, zR M2 x0 0 = some a3 ∧ zk M2 a3 = 5 ∧ w_X5_advance M2 a3 (fun M4 => zk M4 x0 = 3 ∧ w_X3_readDays M4 x0 (fun r5 M5 => (∃ n21, l_X3_read_21 P (fun M9 => P M9) n21 M5 x0 r5 (0 : Int32)))))))
set_option maxHeartbeats 4000000 in
set_option maxRecDepth 100000 in
theorem c_X3_read (l : Launch) (E : EV) (M : Mm) (x0 : Nat) (P : Mm → Prop) (h : w_X3_read M x0 P) : CtV l E yX3_read cX3_read 3 rm_X3_read 0 0 [.ref x0] M P := by
  refine ctV_of (by decide +kernel) (Nat.le_of_ble_eq_true rfl) ?_
  intro p e s m args below meth c C hnm
  rw [w_X3_read] at h
  show J p l e rm_X3_read s m args below meth c (QV below E P args s 0 0) E 3 M 0 0 0 [(0, .ref x0)] []
  refine j_aload_n (pc := 0) C 0 dX3_read_0 rfl ?_
  refine gf_X3_19 (pc := 1) C dX3_read_1 h (fun a1 h => ?_)
  refine cs_X3_23 (pc := 4) C ⟨Nat.le_of_ble_eq_true rfl, Nat.le_of_ble_eq_true rfl⟩ ⟨Nat.le_of_ble_eq_true rfl, Nat.le_of_ble_eq_true rfl⟩ (Nat.le_of_ble_eq_true rfl) dX3_read_4 h (fun M2 h => ?_)
  refine j_aload_n (pc := 7) C 0 dX3_read_7 rfl ?_
  refine gf_X3_15 (pc := 8) C dX3_read_8 h (fun a3 h => ?_)
  refine cs_X3_28 (pc := 11) C ⟨Nat.le_of_ble_eq_true rfl, Nat.le_of_ble_eq_true rfl⟩ ⟨Nat.le_of_ble_eq_true rfl, Nat.le_of_ble_eq_true rfl⟩ (Nat.le_of_ble_eq_true rfl) dX3_read_11 h (fun M4 h => ?_)
  refine j_aload_n (pc := 14) C 0 dX3_read_14 rfl ?_
  refine cs_X3_33 (pc := 15) C ⟨Nat.le_of_ble_eq_true rfl, Nat.le_of_ble_eq_true rfl⟩ ⟨Nat.le_of_ble_eq_true rfl, Nat.le_of_ble_eq_true rfl⟩ (Nat.le_of_ble_eq_true rfl) dX3_read_15 h (fun r5 M5 h => ?_)
  refine j_istore_n (pc := 18) C [(1, _), (0, _)] dX3_read_18 (by decide) rfl ?_
  refine j_iconst (pc := 19) (v := (0 : Int32)) C dX3_read_19 rfl ?_
  refine j_istore_n (pc := 20) C [(2, _), (1, _), (0, _)] dX3_read_20 (by decide) rfl ?_
  obtain ⟨n21, h⟩ := h
  refine j_weak [2, 1, 0] rfl (jl_X3_read_21 C ⟨Nat.le_of_ble_eq_true rfl, Nat.le_of_ble_eq_true rfl⟩ (fun M9 h => ?_) n21 _ _ _ _ h)
  · exact j_vret (pc := 68) C dX3_read_68 (Nat.le_of_ble_eq_true rfl) (Nat.le_of_ble_eq_true rfl) h
end GW16
