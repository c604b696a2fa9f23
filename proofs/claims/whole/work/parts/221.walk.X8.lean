/-! written by a program (wip/whole/gen.py) out of the decode rows and the tables: walks of X8 -/

section GW21
variable {p : Program} {l : Launch} {e : Env} {R : Room} {s : State} {m : MethodId} {args : Array Value} {below : List Frame} {meth : Method} {c : Code} {Q : State → Prop} {cc : ByteArray} {nL : Nat} {ret : Option FieldType} {E : EV} {M : Mm} {kc ks pc : Nat} {lo : List (Nat × Value)} {st : List Value}
theorem cs_X8_136 (C : Cx p l s m args meth c cc nL RX8 ret E) {b : Nat} {y0 : Int32} {P : Int32 → Mm → Prop} (hR : rm_X8_ownRead.frames + 1 ≤ R.frames ∧ 8 + (5 + 11) + rm_X8_ownRead.locals ≤ R.locals) (hf : kc ≤ R.cells ∧ ks ≤ R.slots) (hst : (st.map fun v => v.category).sum ≤ 8) (d : decode cc pc = .ok (.invokevirtual 136, 3)) (h : zk M b = 8 ∧ w_X8_ownRead M b y0 P) (kk : ∀ r M', P r M' → J p l e R s m args below meth c Q E nL M' kc ks (pc + 3) lo (.int r :: st)) : J p l e R s m args below meth c Q E nL M kc ks pc lo (.int y0 :: .ref b :: st) :=
  j_cV_I (n := 1) (As := [.int y0]) C co_X8 rfl wd_1299 wd_54 h.1 (c_X8_ownRead l E M b y0 P h.2) ⟨wd_1300, wd_1297, wd_106, by decide +kernel, by decide +kernel, by decide +kernel⟩ rfl rfl hR hf rfl hst d kk
abbrev rm_X8_playerLine : Room := { frames := 5, cells := 0, slots := 0, locals := 108 }
def l_X8_playerLine_81 (P : Int32 → Mm → Prop) (K89 : Mm → Prop) (K99 : Mm → Nat → Prop) : Nat → Mm → Nat → Int32 → Prop
  | 0, _, _, _ => False
  | n + 1, M, x0, x2 => zk M x0 = 8 ∧ w_X8_ownRead M x0 x2 (fun r8 M8 => (if r8 = 0 then K89 M8 else zk M8 x0 = 8 ∧ (if (zI M8 x0 9) = (1 : Int32) then l_X8_playerLine_81 P K89 K99 n M8 x0 x2 else K99 M8 x0)))
set_option maxHeartbeats 4000000 in
set_option maxRecDepth 100000 in
theorem jl_X8_playerLine_81 {P : Int32 → Mm → Prop} {K89 : Mm → Prop} {K99 : Mm → Nat → Prop} (C : Cx p l s m args meth c cX8_playerLine 3 RX8 (some .boolean) E) (hkc : kc ≤ rm_X8_playerLine.cells ∧ ks ≤ rm_X8_playerLine.slots) (k89 : ∀ M, K89 M → J p l e rm_X8_playerLine s m args below meth c (QI below E P args s rm_X8_playerLine.cells rm_X8_playerLine.slots) E 3 M kc ks 89 [] []) (k99 : ∀ M x0, K99 M x0 → J p l e rm_X8_playerLine s m args below meth c (QI below E P args s rm_X8_playerLine.cells rm_X8_playerLine.slots) E 3 M kc ks 99 [(0, .ref x0)] []) : ∀ n M x0 x2, l_X8_playerLine_81 P K89 K99 n M x0 x2 → J p l e rm_X8_playerLine s m args below meth c (QI below E P args s rm_X8_playerLine.cells rm_X8_playerLine.slots) E 3 M kc ks 81 [(0, .ref x0), (2, .int x2)] [] := by
  intro n
  induction n with
  | zero => intro M x0 x2 h; exact h.elim
  | succ n ih =>
    intro M x0 x2 h
    rw [l_X8_playerLine_81] at h
    refine j_aload_n (pc := 81) C 0 dX8_playerLine_81 rfl ?_
    refine j_iload_n (pc := 82) C 1 dX8_playerLine_82 rfl ?_
    refine cs_X8_136 (pc := 83) C ⟨Nat.le_of_ble_eq_true rfl, Nat.le_of_ble_eq_true rfl⟩ hkc (Nat.le_of_ble_eq_true rfl) dX8_playerLine_83 h (fun r8 M8 h => ?_)
    refine j_if_ne (pc := 86) C 91 dX8_playerLine_86 (by decide) h (fun h => ?_) (fun h => ?_)
    · refine j_aload_n (pc := 91) C 0 dX8_playerLine_91 rfl ?_
      refine gf_X8_90 (pc := 92) C dX8_playerLine_92 h (fun h => ?_)
      refine j_iconst (pc := 95) (v := (1 : Int32)) C dX8_playerLine_95 rfl ?_
      refine j_icmp_eq (pc := 96) C 81 dX8_playerLine_96 (by decide) h (fun h => ?_) (fun h => ?_)
      · exact j_weak [0, 1] rfl (ih _ _ _ h)
      · exact j_weak [0] rfl (k99 _ _ h)
    · exact j_weak [] rfl (k89 _ h)
def w_X8_playerLine (M : Mm) (x0 : Nat) (P : Int32 → Mm → Prop) : Prop := (zk M x0 = 8 ∧ ∃ a1, zR M x0 16 = some a1 ∧ zk M a1 = 10 ∧ vp_in (2 : Int32) (zl M a1) ∧ (if (8 : Int32) ≤ (zI M a1 (2 : Int32).toNatClampNeg) then zk M x0 = 8 ∧ w_X8_starts M x0 (5 : Int32) (0 : Int32) (fun r2 M2 => (if r2 = 0 then ((0 : Int32) = 0 ∨ (0 : Int32) = 1) ∧ P (0 : Int32) M2 else zk M2 x0 = 8 ∧ w_X8_nameRead M2 x0 (1 : Int32) (zI M a1 (2 : Int32).toNatClampNeg) (fun r3 M3 => (if r3 = 0 then ((0 : Int32) = 0 ∨ (0 : Int32) = 1) ∧ P (0 : Int32) M3 else zk M3 x0 = 8 ∧ w_X8_takes M3 x0 (0 : Int32) (40 : Int32) (fun r4 M4 => (if r4 = 0 then ((0 : Int32) = 0 ∨ (0 : Int32) = 1) ∧ P (0 : Int32) M4 else (zk M4 x0 = 8 ∧ ∃ a5, zR M4 x0 17 = some a5 ∧ zk M4 x0 = 8 ∧ zk M4 a5 = 10 ∧ vp_in (zI M a1 (2 : Int32).toNatClampNeg) (zl M4 a5) ∧ (∀ M6, M6 = sI M4 a5 (zI M a1 (2 : Int32).toNatClampNeg).toNatClampNeg (zI M4 x0 14) → zk M6 x0 = 8 ∧ w_X8_lays M6 x0 (((9 : Int32) + ((7 : Int32) * (zI M a1 (2 : Int32).toNatClampNeg))) + (0 : Int32)) (0 : Int32) (999 : Int32) (fun r7 M7 => (if r7 = 0 then ((0 : Int32) = 0 ∨ (0 : Int32) = 1) ∧ P (0 : Int32) M7 else (∃ n81, l_X8_playerLine_81 P (fun M9 => ((0 : Int32) = 0 ∨ (0 : Int32) = 1) ∧ P (0 : Int32) M9) (fun M10 x0_10 => (zk M10 x0_10 = 8 ∧ ∃ a11, zR M10 x0_10 16 = some a11 ∧ zk M10 a11 = 10 ∧ vp_in (2 : Int32) (zl M10 a11) ∧ zk M10 a11 = 10 ∧ vp_in (2 : Int32) (zl M10 a11) ∧ (∀ M12, M12 = sI M10 a11 (2 : Int32).toNatClampNeg ((zI M10 a11 (2 : Int32).toNatClampNeg) + (1 : Int32)) → ((1 : Int32) = 0 ∨ (1 : Int32) = 1) ∧ P (1 : Int32) M12))) n81 M7 x0 ((9 : Int32) + ((7 : Int32) * (zI M a1 (2 : Int32).toNatClampNeg)))))))))))))) else zk M x0 = 8 ∧ w_X8_starts M x0 (5 : Int32) (1 : Int32) (fun r13 M13 => (if r13 = 0 then ((0 : Int32) = 0 ∨ (0 : Int32) = 1) ∧ P (0 : Int32) M13 else zk M13 x0 = 8 ∧ w_X8_nameRead M13 x0 (1 : Int32) (zI M a1 (2 : Int32).toNatClampNeg) (fun r14 M14 => (if r14 = 0 then ((0 : Int32) = 0 ∨ (0 : Int32) = 1) ∧ P (0 : Int32) M14 else zk M14 x0 = 8 ∧ w_X8_takes M14 x0 (0 : Int32) (40 : Int32) (fun r15 M15 => (if r15 = 0 then ((0 : Int32) = 0 ∨ (0 : Int32) = 1) ∧ P (0 : Int32) M15 else (zk M15 x0 = 8 ∧ ∃ a16, zR M15 x0 17 = some a16 ∧ zk M15 x0 = 8 ∧ zk M15 a16 = 10 ∧ vp_in (zI M a1 (2 : Int32).toNatClampNeg) (zl M15 a16) ∧ (∀ M17, M17 = sI M15 a16 (zI M a1 (2 : Int32).toNatClampNeg).toNatClampNeg (zI M15 x0 14) → zk M17 x0 = 8 ∧ w_X8_lays M17 x0 (((9 : Int32) + ((7 : Int32) * (zI M a1 (2 : Int32).toNatClampNeg))) + (0 : Int32)) (0 : Int32) (999 : Int32) (fun r18 M18 => (if r18 = 0 then ((0 : Int32) = 0 ∨ (0 : Int32) = 1) ∧ P (0 : Int32) M18 else (∃ n81, l_X8_playerLine_81 P (fun M19 => ((0 : Int32) = 0 ∨ (0 : Int32) = 1) ∧ P (0 : Int32) M19) (fun M20 x0_20 => (zk M20 x0_20 = 8 ∧ ∃ a21, zR M20 x0_20 16 = some a21 ∧ zk M20 a21 = 10 ∧ vp_in (2 : Int32) (zl M20 a21) ∧ zk M20 a21 = 10 ∧ vp_in (2 : Int32) (zl M20 a21) ∧ (∀ M22, M22 = sI M20 a21 (2 : Int32).toNatClampNeg ((zI M20 a21 (2 : Int32).toNatClampNeg) + (1 : Int32)) → ((1 : Int32) = 0 ∨ (1 : Int32) = 1) ∧ P (1 : Int32) M22))) n81 M18 x0 ((9 : Int32) + ((7 : Int32) * (zI M a1 (2 : Int32).toNatClampNeg))))))))))))))))
set_option maxHeartbeats 4000000 in
set_option maxRecDepth 100000 in
theorem c_X8_playerLine (l : Launch) (E : EV) (M : Mm) (x0 : Nat) (P : Int32 → Mm → Prop) (h : w_X8_playerLine M x0 P) : CtI l E yX8_playerLine cX8_playerLine 3 .boolean rm_X8_playerLine 0 0 [.ref x0] M P := by
  refine ctI_of (by decide +kernel) (Nat.le_of_ble_eq_true rfl) ?_
  intro p e s m args below meth c C
  rw [w_X8_playerLine] at h
  show J p l e rm_X8_playerLine s m args below meth c (QI below E P args s 0 0) E 3 M 0 0 0 [(0, .ref x0)] []
  refine j_aload_n (pc := 0) C 0 dX8_playerLine_0 rfl ?_
  refine gf_X8_28 (pc := 1) C dX8_playerLine_1 h (fun a1 h => ?_)
  refine j_iconst (pc := 4) (v := (2 : Int32)) C dX8_playerLine_4 rfl ?_
  refine j_iald (pc := 5) C dX8_playerLine_5 h (fun h => ?_)
  refine j_istore_n (pc := 6) C [(1, _), (0, _)] dX8_playerLine_6 (by decide) rfl ?_
  refine j_aload_n (pc := 7) C 1 dX8_playerLine_7 rfl ?_
  refine j_iconst (pc := 8) (v := (5 : Int32)) C dX8_playerLine_8 rfl ?_
  refine j_iload_n (pc := 9) C 0 dX8_playerLine_9 rfl ?_
  refine j_bipush (pc := 10) (v := (8 : Int32)) C dX8_playerLine_10 rfl ?_
  refine j_icmp_ge (pc := 12) C 19 dX8_playerLine_12 (by decide) h (fun h => ?_) (fun h => ?_)
  · refine j_iconst (pc := 19) (v := (0 : Int32)) C dX8_playerLine_19 rfl ?_
    refine cs_X8_122 (pc := 20) C ⟨Nat.le_of_ble_eq_true rfl, Nat.le_of_ble_eq_true rfl⟩ ⟨Nat.le_of_ble_eq_true rfl, Nat.le_of_ble_eq_true rfl⟩ (Nat.le_of_ble_eq_true rfl) dX8_playerLine_20 h (fun r2 M2 h => ?_)
    refine j_if_eq (pc := 23) C 45 dX8_playerLine_23 (by decide) h (fun h => ?_) (fun h => ?_)
    · refine j_iconst (pc := 45) (v := (0 : Int32)) C dX8_playerLine_45 rfl ?_
      exact j_zret (pc := 46) C dX8_playerLine_46 (Nat.le_of_ble_eq_true rfl) (Nat.le_of_ble_eq_true rfl) h
    · refine j_aload_n (pc := 26) C 1 dX8_playerLine_26 rfl ?_
      refine j_iconst (pc := 27) (v := (1 : Int32)) C dX8_playerLine_27 rfl ?_
      refine j_iload_n (pc := 28) C 0 dX8_playerLine_28 rfl ?_
      refine cs_X8_130 (pc := 29) C ⟨Nat.le_of_ble_eq_true rfl, Nat.le_of_ble_eq_true rfl⟩ ⟨Nat.le_of_ble_eq_true rfl, Nat.le_of_ble_eq_true rfl⟩ (Nat.le_of_ble_eq_true rfl) dX8_playerLine_29 h (fun r3 M3 h => ?_)
      refine j_if_eq (pc := 32) C 45 dX8_playerLine_32 (by decide) h (fun h => ?_) (fun h => ?_)
      · refine j_iconst (pc := 45) (v := (0 : Int32)) C dX8_playerLine_45 rfl ?_
        exact j_zret (pc := 46) C dX8_playerLine_46 (Nat.le_of_ble_eq_true rfl) (Nat.le_of_ble_eq_true rfl) h
      · refine j_aload_n (pc := 35) C 1 dX8_playerLine_35 rfl ?_
        refine j_iconst (pc := 36) (v := (0 : Int32)) C dX8_playerLine_36 rfl ?_
        refine j_bipush (pc := 37) (v := (40 : Int32)) C dX8_playerLine_37 rfl ?_
        refine cs_X8_118 (pc := 39) C ⟨Nat.le_of_ble_eq_true rfl, Nat.le_of_ble_eq_true rfl⟩ ⟨Nat.le_of_ble_eq_true rfl, Nat.le_of_ble_eq_true rfl⟩ (Nat.le_of_ble_eq_true rfl) dX8_playerLine_39 h (fun r4 M4 h => ?_)
        refine j_if_ne (pc := 42) C 47 dX8_playerLine_42 (by decide) h (fun h => ?_) (fun h => ?_)
        · refine j_aload_n (pc := 47) C 1 dX8_playerLine_47 rfl ?_
          refine gf_X8_31 (pc := 48) C dX8_playerLine_48 h (fun a5 h => ?_)
          refine j_iload_n (pc := 51) C 0 dX8_playerLine_51 rfl ?_
          refine j_aload_n (pc := 52) C 1 dX8_playerLine_52 rfl ?_
          refine gf_X8_115 (pc := 53) C dX8_playerLine_53 h (fun h => ?_)
          refine n_iast (pc := 56) C dX8_playerLine_56 h (fun M6 h => ?_)
          refine j_bipush (pc := 57) (v := (9 : Int32)) C dX8_playerLine_57 rfl ?_
          refine j_bipush (pc := 59) (v := (7 : Int32)) C dX8_playerLine_59 rfl ?_
          refine j_iload_n (pc := 61) C 0 dX8_playerLine_61 rfl ?_
          refine j_imul (pc := 62) C dX8_playerLine_62 ?_
          refine j_iadd (pc := 63) C dX8_playerLine_63 ?_
          refine j_istore_n (pc := 64) C [(2, _), (1, _), (0, _)] dX8_playerLine_64 (by decide) rfl ?_
          refine j_aload_n (pc := 65) C 2 dX8_playerLine_65 rfl ?_
          refine j_iload_n (pc := 66) C 0 dX8_playerLine_66 rfl ?_
          refine j_iconst (pc := 67) (v := (0 : Int32)) C dX8_playerLine_67 rfl ?_
          refine j_iadd (pc := 68) C dX8_playerLine_68 ?_
          refine j_iconst (pc := 69) (v := (0 : Int32)) C dX8_playerLine_69 rfl ?_
          refine j_sipush (pc := 70) (v := (999 : Int32)) C dX8_playerLine_70 rfl ?_
          refine cs_X8_133 (pc := 73) C ⟨Nat.le_of_ble_eq_true rfl, Nat.le_of_ble_eq_true rfl⟩ ⟨Nat.le_of_ble_eq_true rfl, Nat.le_of_ble_eq_true rfl⟩ (Nat.le_of_ble_eq_true rfl) dX8_playerLine_73 h (fun r7 M7 h => ?_)
          refine j_if_ne (pc := 76) C 81 dX8_playerLine_76 (by decide) h (fun h => ?_) (fun h => ?_)
          · obtain ⟨n81, h⟩ := h
            refine j_weak [2, 0] rfl (jl_X8_playerLine_81 C ⟨Nat.le_of_ble_eq_true rfl, Nat.le_of_ble_eq_true rfl⟩ (fun M9 h => ?_) (fun M10 x0_10 h => ?_) n81 _ _ _ h)
            · refine j_iconst (pc := 89) (v := (0 : Int32)) C dX8_playerLine_89 rfl ?_
              exact j_zret (pc := 90) C dX8_playerLine_90 (Nat.le_of_ble_eq_true rfl) (Nat.le_of_ble_eq_true rfl) h
            · refine j_aload_n (pc := 99) C 0 dX8_playerLine_99 rfl ?_
              refine gf_X8_28 (pc := 100) C dX8_playerLine_100 h (fun a11 h => ?_)
              refine j_iconst (pc := 103) (v := (2 : Int32)) C dX8_playerLine_103 rfl ?_
              refine j_dup2 (pc := 104) C dX8_playerLine_104 rfl rfl ?_
              refine j_iald (pc := 105) C dX8_playerLine_105 h (fun h => ?_)
              refine j_iconst (pc := 106) (v := (1 : Int32)) C dX8_playerLine_106 rfl ?_
              refine j_iadd (pc := 107) C dX8_playerLine_107 ?_
              refine n_iast (pc := 108) C dX8_playerLine_108 h (fun M12 h => ?_)
              refine j_iconst (pc := 109) (v := (1 : Int32)) C dX8_playerLine_109 rfl ?_
              exact j_zret (pc := 110) C dX8_playerLine_110 (Nat.le_of_ble_eq_true rfl) (Nat.le_of_ble_eq_true rfl) h
          · refine j_iconst (pc := 79) (v := (0 : Int32)) C dX8_playerLine_79 rfl ?_
            exact j_zret (pc := 80) C dX8_playerLine_80 (Nat.le_of_ble_eq_true rfl) (Nat.le_of_ble_eq_true rfl) h
        · refine j_iconst (pc := 45) (v := (0 : Int32)) C dX8_playerLine_45 rfl ?_
          exact j_zret (pc := 46) C dX8_playerLine_46 (Nat.le_of_ble_eq_true rfl) (Nat.le_of_ble_eq_true rfl) h
  · refine j_iconst (pc := 15) (v := (1 : Int32)) C dX8_playerLine_15 rfl ?_
    refine j_goto (pc := 16) C 20 dX8_playerLine_16 (by decide) ?_
    refine cs_X8_122 (pc := 20) C ⟨Nat.le_of_ble_eq_true rfl, Nat.le_of_ble_eq_true rfl⟩ ⟨Nat.le_of_ble_eq_true rfl, Nat.le_of_ble_eq_true rfl⟩ (Nat.le_of_ble_eq_true rfl) dX8_playerLine_20 h (fun r13 M13 h => ?_)
    refine j_if_eq (pc := 23) C 45 dX8_playerLine_23 (by decide) h (fun h => ?_) (fun h => ?_)
    · refine j_iconst (pc := 45) (v := (0 : Int32)) C dX8_playerLine_45 rfl ?_
      exact j_zret (pc := 46) C dX8_playerLine_46 (Nat.le_of_ble_eq_true rfl) (Nat.le_of_ble_eq_true rfl) h
    · refine j_aload_n (pc := 26) C 1 dX8_playerLine_26 rfl ?_
      refine j_iconst (pc := 27) (v := (1 : Int32)) C dX8_playerLine_27 rfl ?_
      refine j_iload_n (pc := 28) C 0 dX8_playerLine_28 rfl ?_
      refine cs_X8_130 (pc := 29) C ⟨Nat.le_of_ble_eq_true rfl, Nat.le_of_ble_eq_true rfl⟩ ⟨Nat.le_of_ble_eq_true rfl, Nat.le_of_ble_eq_true rfl⟩ (Nat.le_of_ble_eq_true rfl) dX8_playerLine_29 h (fun r14 M14 h => ?_)
      refine j_if_eq (pc := 32) C 45 dX8_playerLine_32 (by decide) h (fun h => ?_) (fun h => ?_)
      · refine j_iconst (pc := 45) (v := (0 : Int32)) C dX8_playerLine_45 rfl ?_
        exact j_zret (pc := 46) C dX8_playerLine_46 (Nat.le_of_ble_eq_true rfl) (Nat.le_of_ble_eq_true rfl) h
      · refine j_aload_n (pc := 35) C 1 dX8_playerLine_35 rfl ?_
        refine j_iconst (pc := 36) (v := (0 : Int32)) C dX8_playerLine_36 rfl ?_
        refine j_bipush (pc := 37) (v := (40 : Int32)) C dX8_playerLine_37 rfl ?_
        refine cs_X8_118 (pc := 39) C ⟨Nat.le_of_ble_eq_true rfl, Nat.le_of_ble_eq_true rfl⟩ ⟨Nat.le_of_ble_eq_true rfl, Nat.le_of_ble_eq_true rfl⟩ (Nat.le_of_ble_eq_true rfl) dX8_playerLine_39 h (fun r15 M15 h => ?_)
        refine j_if_ne (pc := 42) C 47 dX8_playerLine_42 (by decide) h (fun h => ?_) (fun h => ?_)
        · refine j_aload_n (pc := 47) C 1 dX8_playerLine_47 rfl ?_
          refine gf_X8_31 (pc := 48) C dX8_playerLine_48 h (fun a16 h => ?_)
          refine j_iload_n (pc := 51) C 0 dX8_playerLine_51 rfl ?_
          refine j_aload_n (pc := 52) C 1 dX8_playerLine_52 rfl ?_
          refine gf_X8_115 (pc := 53) C dX8_playerLine_53 h (fun h => ?_)
          refine n_iast (pc := 56) C dX8_playerLine_56 h (fun M17 h => ?_)
          refine j_bipush (pc := 57) (v := (9 : Int32)) C dX8_playerLine_57 rfl ?_
          refine j_bipush (pc := 59) (v := (7 : Int32)) C dX8_playerLine_59 rfl ?_
          refine j_iload_n (pc := 61) C 0 dX8_playerLine_61 rfl ?_
          refine j_imul (pc := 62) C dX8_playerLine_62 ?_
          refine j_iadd (pc := 63) C dX8_playerLine_63 ?_
          refine j_istore_n (pc := 64) C [(2, _), (1, _), (0, _)] dX8_playerLine_64 (by decide) rfl ?_
          refine j_aload_n (pc := 65) C 2 dX8_playerLine_65 rfl ?_
          refine j_iload_n (pc := 66) C 0 dX8_playerLine_66 rfl ?_
          refine j_iconst (pc := 67) (v := (0 : Int32)) C dX8_playerLine_67 rfl ?_
          refine j_iadd (pc := 68) C dX8_playerLine_68 ?_
          refine j_iconst (pc := 69) (v := (0 : Int32)) C dX8_playerLine_69 rfl ?_
          refine j_sipush (pc := 70) (v := (999 : Int32)) C dX8_playerLine_70 rfl ?_
          refine cs_X8_133 (pc := 73) C ⟨Nat.le_of_ble_eq_true rfl, Nat.le_of_ble_eq_true rfl⟩ ⟨Nat.le_of_ble_eq_true rfl, Nat.le_of_ble_eq_true rfl⟩ (Nat.le_of_ble_eq_true rfl) dX8_playerLine_73 h (fun r18 M18 h => ?_)
          refine j_if_ne (pc := 76) C 81 dX8_playerLine_76 (by decide) h (fun h => ?_) (fun h => ?_)
          · obtain ⟨n81, h⟩ := h
            refine j_weak [2, 0] rfl (jl_X8_playerLine_81 C ⟨Nat.le_of_ble_eq_true rfl, Nat.le_of_ble_eq_true rfl⟩ (fun M19 h => ?_) (fun M20 x0_20 h => ?_) n81 _ _ _ h)
            · refine j_iconst (pc := 89) (v := (0 : Int32)) C dX8_playerLine_89 rfl ?_
              exact j_zret (pc := 90) C dX8_playerLine_90 (Nat.le_of_ble_eq_true rfl) (Nat.le_of_ble_eq_true rfl) h
            · refine j_aload_n (pc := 99) C 0 dX8_playerLine_99 rfl ?_
              refine gf_X8_28 (pc := 100) C dX8_playerLine_100 h (fun a21 h => ?_)
              refine j_iconst (pc := 103) (v := (2 : Int32)) C dX8_playerLine_103 rfl ?_
              refine j_dup2 (pc := 104) C dX8_playerLine_104 rfl rfl ?_
              refine j_iald (pc := 105) C dX8_playerLine_105 h (fun h => ?_)
              refine j_iconst (pc := 106) (v := (1 : Int32)) C dX8_playerLine_106 rfl ?_
              refine j_iadd (pc := 107) C dX8_playerLine_107 ?_
              refine n_iast (pc := 108) C dX8_playerLine_108 h (fun M22 h => ?_)
              refine j_iconst (pc := 109) (v := (1 : Int32)) C dX8_playerLine_109 rfl ?_
              exact j_zret (pc := 110) C dX8_playerLine_110 (Nat.le_of_ble_eq_true rfl) (Nat.le_of_ble_eq_true rfl) h
          · refine j_iconst (pc := 79) (v := (0 : Int32)) C dX8_playerLine_79 rfl ?_
            exact j_zret (pc := 80) C dX8_playerLine_80 (Nat.le_of_ble_eq_true rfl) (Nat.le_of_ble_eq_true rfl) h
        · refine j_iconst (pc := 45) (v := (0 : Int32)) C dX8_playerLine_45 rfl ?_
          exact j_zret (pc := 46) C dX8_playerLine_46 (Nat.le_of_ble_eq_true rfl) (Nat.le_of_ble_eq_true rfl) h
abbrev rm_X8_absentLine : Room := { frames := 4, cells := 0, slots := 0, locals := 85 }
def w_X8_absentLine (M : Mm) (x0 : Nat) (P : Int32 → Mm → Prop) : Prop := zk M x0 = 8 ∧ w_X8_advance M x0 (fun M1 => zk M1 x0 = 8 ∧ (if (zI M1 x0 9) = (1 : Int32) then (zk M1 x0 = 8 ∧ ∃ a2, zR M1 x0 18 = some a2 ∧ (zk M1 x0 = 8 ∧ ∃ a3, zR M1 x0 16 = some a3 ∧ zk M1 a3 = 10 ∧ vp_in (2 : Int32) (zl M1 a3) ∧ zk M1 x0 = 8 ∧ w_X8_named M1 a2 (1 : Int32) (zI M1 a3 (2 : Int32).toNatClampNeg) (zJ M1 x0 11) (fun r4 M4 => (if r4 = (-1 : Int32) then zk M4 x0 = 8 ∧ w_X8_starts M4 x0 (4 : Int32) (0 : Int32) (fun r5 M5 => (if r5 = 0 then ((0 : Int32) = 0 ∨ (0 : Int32) = 1) ∧ P (0 : Int32) M5 else zk M5 x0 = 8 ∧ (if (zI M5 x0 9) = (2 : Int32) then zk M5 x0 = 8 ∧ (zk M5 x0 = 8 ∧ ∃ a10, zR M5 x0 16 = some a10 ∧ zk M5 a10 = 10 ∧ vp_in (0 : Int32) (zl M5 a10) ∧ (if (zI M5 a10 (0 : Int32).toNatClampNeg) ≤ (zI M5 x0 10) then (zk M5 x0 = 8 ∧ ∃ a11, zR M5 x0 16 = some a11 ∧ zk M5 a11 = 10 ∧ vp_in (0 : Int32) (zl M5 a11) ∧ zk M5 x0 = 8 ∧ w_X8_takes M5 x0 (0 : Int32) ((zI M5 a11 (0 : Int32).toNatClampNeg) - (1 : Int32)) (fun r12 M12 => (if r12 = 0 then ((0 : Int32) = 0 ∨ (0 : Int32) = 1) ∧ P (0 : Int32) M12 else (zk M12 x0 = 8 ∧ ∃ a13, zR M12 x0 16 = some a13 ∧ zk M12 a13 = 10 ∧ vp_in (((9 : Int32) + ((7 : Int32) * r4)) + (1 : Int32)) (zl M12 a13) ∧ zk M12 x0 = 8 ∧ zk M12 a13 = 10 ∧ vp_in (((9 : Int32) + ((7 : Int32) * r4)) + (1 : Int32)) (zl M12 a13) ∧ (∀ M14, M14 = sI M12 a13 (((9 : Int32) + ((7 : Int32) * r4)) + (1 : Int32)).toNatClampNeg ((zI M12 a13 (((9 : Int32) + ((7 : Int32) * r4)) + (1 : Int32)).toNatClampNeg) ||| ((1 : Int32) <<< ((zI M12 x0 14) &&& 31))) → ((1 : Int32) = 0 ∨ (1 : Int32) = 1) ∧ P (1 : Int32) M14))))) else (zk M5 x0 = 8 ∧ ∃ a15, zR M5 x0 16 = some a15 ∧ zk M5 a15 = 10 ∧ vp_in (((9 : Int32) + ((7 : Int32) * r4)) + (1 : Int32)) (zl M5 a15) ∧ zk M5 x0 = 8 ∧ (if (((zI M5 a15 (((9 : Int32) + ((7 : Int32) * r4)) + (1 : Int32)).toNatClampNeg) >>> ((zI M5 x0 10) &&& 31)) &&& (1 : Int32)) = (1 : Int32) then zk M5 x0 = 8 ∧ w_X8_fails M5 x0 (2 : Int32) (fun r20 M20 => (r20 = 0 ∨ r20 = 1) ∧ P r20 M20) else (zk M5 x0 = 8 ∧ ∃ a16, zR M5 x0 16 = some a16 ∧ zk M5 a16 = 10 ∧ vp_in (0 : Int32) (zl M5 a16) ∧ zk M5 x0 = 8 ∧ w_X8_takes M5 x0 (0 : Int32) ((zI M5 a16 (0 : Int32).toNatClampNeg) - (1 : Int32)) (fun r17 M17 => (if r17 = 0 then ((0 : Int32) = 0 ∨ (0 : Int32) = 1) ∧ P (0 : Int32) M17 else (zk M17 x0 = 8 ∧ ∃ a18, zR M17 x0 16 = some a18 ∧ zk M17 a18 = 10 ∧ vp_in (((9 : Int32) + ((7 : Int32) * r4)) + (1 : Int32)) (zl M17 a18) ∧ zk M17 x0 = 8 ∧ zk M17 a18 = 10 ∧ vp_in (((9 : Int32) + ((7 : Int32) * r4)) + (1 : Int32)) (zl M17 a18) ∧ (∀ M19, M19 = sI M17 a18 (((9 : Int32) + ((7 : Int32) * r4)) + (1 : Int32)).toNatClampNeg ((zI M17 a18 (((9 : Int32) + ((7 : Int32) * r4)) + (1 : Int32)).toNatClampNeg) ||| ((1 : Int32) <<< ((zI M17 x0 14) &&& 31))) → ((1 : Int32) = 0 ∨ (1 : Int32) = 1) ∧ P (1 : Int32) M19))))))))) else (zk M5 x0 = 8 ∧ ∃ a6, zR M5 x0 16 = some a6 ∧ zk M5 a6 = 10 ∧ vp_in (0 : Int32) (zl M5 a6) ∧ zk M5 x0 = 8 ∧ w_X8_takes M5 x0 (0 : Int32) ((zI M5 a6 (0 : Int32).toNatClampNeg) - (1 : Int32)) (fun r7 M7 => (if r7 = 0 then ((0 : Int32) = 0 ∨ (0 : Int32) = 1) ∧ P (0 : Int32) M7 else (zk M7 x0 = 8 ∧ ∃ a8, zR M7 x0 16 = some a8 ∧ zk M7 a8 = 10 ∧ vp_in (((9 : Int32) + ((7 : Int32) * r4)) + (1 : Int32)) (zl M7 a8) ∧ zk M7 x0 = 8 ∧ zk M7 a8 = 10 ∧ vp_in (((9 : Int32) + ((7 : Int32) * r4)) + (1 : Int32)) (zl M7 a8) ∧ (∀ M9, M9 = sI M7 a8 (((9 : Int32) + ((7 : Int32) * r4)) + (1 : Int32)).toNatClampNeg ((zI M7 a8 (((9 : Int32) + ((7 : Int32) * r4)) + (1 : Int32)).toNatClampNeg) ||| ((1 : Int32) <<< ((zI M7 x0 14) &&& 31))) → ((1 : Int32) = 0 ∨ (1 : Int32) = 1) ∧ P (1 : Int32) M9)))))))) else zk M4 x0 = 8 ∧ w_X8_starts M4 x0 (4 : Int32) (1 : Int32) (fun r21 M21 => (if r21 = 0 then ((0 : Int32) = 0 ∨ (0 : Int32) = 1) ∧ P (0 : Int32) M21 else zk M21 x0 = 8 ∧ (if (zI M21 x0 9) = (2 : Int32) then zk M21 x0 = 8 ∧ (zk M21 x0 = 8 ∧ ∃ a26, zR M21 x0 16 = some a26 ∧ zk M21 a26 = 10 ∧ vp_in (0 : Int32) (zl M21 a26) ∧ (if (zI M21 a26 (0 : Int32).toNatClampNeg) ≤ (zI M21 x0 10) then (zk M21 x0 = 8 ∧ ∃ a27, zR M21 x0 16 = some a27 ∧ zk M21 a27 = 10 ∧ vp_in (0 : Int32) (zl M21 a27) ∧ zk M21 x0 = 8 ∧ w_X8_takes M21 x0 (0 : Int32) ((zI M21 a27 (0 : Int32).toNatClampNeg) - (1 : Int32)) (fun r28 M28 => (if r28 = 0 then ((0 : Int32) = 0 ∨ (0 : Int32) = 1) ∧ P (0 : Int32) M28 else (zk M28 x0 = 8 ∧ ∃ a29, zR M28 x0 16 = some a29 ∧ zk M28 a29 = 10 ∧ vp_in (((9 : Int32) + ((7 : Int32) * r4)) + (1 : Int32)) (zl M28 a29) ∧ zk M28 x0 = 8 ∧ zk M28 a29 = 10 ∧ vp_in (((9 : Int32) + ((7 : Int32) * r4)) + (1 : Int32)) (zl M28 a29) ∧ (∀ M30, M30 = sI M28 a29 (((9 : Int32) + ((7 : Int32) * r4)) + (1 : Int32)).toNatClampNeg ((zI M28 a29 (((9 : Int32) + ((7 : Int32) * r4)) + (1 : Int32)).toNatClampNeg) ||| ((1 : Int32) <<< ((zI M28 x0 14) &&& 31))) → ((1 : Int32) = 0 ∨ (1 : Int32) = 1) ∧ P (1 : Int32) M30))))) else (zk M21 x0 = 8 ∧ ∃ a31, zR M21 x0 16 = some a31 ∧ zk M21 a31 = 10 ∧ vp_in (((9 : Int32) + ((7 : Int32) * r4)) + (1 : Int32)) (zl M21 a31) ∧ zk M21 x0 = 8 ∧ (if (((zI M21 a31 (((9 : Int32) + ((7 : Int32) * r4)) + (1 : Int32)).toNatClampNeg) >>> ((zI M21 x0 10) &&& 31)) &&& (1 : Int32)) = (1 : Int32) then zk M21 x0 = 8 ∧ w_X8_fails M21 x0 (2 : Int32) (fun r36 M36 => (r36 = 0 ∨ r36 = 1) ∧ P r36 M36) else (zk M21 x0 = 8 ∧ ∃ a32, zR M21 x0 16 = some a32 ∧ zk M21 a32 = 10 ∧ vp_in (0 : Int32) (zl M21 a32) ∧ zk M21 x0 = 8 ∧ w_X8_takes M21 x0 (0 : Int32) ((zI M21 a32 (0 : Int32).toNatClampNeg) - (1 : Int32)) (fun r33 M33 => (if r33 = 0 then ((0 : Int32) = 0 ∨ (0 : Int32) = 1) ∧ P (0 : Int32) M33 else (zk M33 x0 = 8 ∧ ∃ a34, zR M33 x0 16 = some a34 ∧ zk M33 a34 = 10 ∧ vp_in (((9 : Int32) + ((7 : Int32) * r4)) + (1 : Int32)) (zl M33 a34) ∧ zk M33 x0 = 8 ∧ zk M33 a34 = 10 ∧ vp_in (((9 : Int32) + ((7 : Int32) * r4)) + (1 : Int32)) (zl M33 a34) ∧ (∀ M35, M35 = sI M33 a34 (((9 : Int32) + ((7 : Int32) * r4)) + (1 : Int32)).toNatClampNeg ((zI M33 a34 (((9 : Int32) + ((7 : Int32) * r4)) + (1 : Int32)).toNatClampNeg) ||| ((1 : Int32) <<< ((zI M33 x0 14) &&& 31))) → ((1 : Int32) = 0 ∨ (1 : Int32) = 1) ∧ P (1 : Int32) M35))))))))) else (zk M21 x0 = 8 ∧ ∃ a22, zR M21 x0 16 = some a22 ∧ zk M21 a22 = 10 ∧ vp_in (0 : Int32) (zl M21 a22) ∧ zk M21 x0 = 8 ∧ w_X8_takes M21 x0 (0 : Int32) ((zI M21 a22 (0 : Int32).toNatClampNeg) - (1 : Int32)) (fun r23 M23 => (if r23 = 0 then ((0 : Int32) = 0 ∨ (0 : Int32) = 1) ∧ P (0 : Int32) M23 else (zk M23 x0 = 8 ∧ ∃ a24, zR M23 x0 16 = some a24 ∧ zk M23 a24 = 10 ∧ vp_in (((9 : Int32) + ((7 : Int32) * r4)) + (1 : Int32)) (zl M23 a24) ∧ zk M23 x0 = 8 ∧ zk M23 a24 = 10 ∧ vp_in (((9 : Int32) + ((7 : Int32) * r4)) + (1 : Int32)) (zl M23 a24) ∧ (∀ M25, M25 = sI M23 a24 (((9 : Int32) + ((7 : Int32) * r4)) + (1 : Int32)).toNatClampNeg ((zI M23 a24 (((9 : Int32) + ((7 : Int32) * r4)) + (1 : Int32)).toNatClampNeg) ||| ((1 : Int32) <<< ((zI M23 x0 14) &&& 31))) → ((1 : Int32) = 0 ∨ (1 : Int32) = 1) ∧ P (1 : Int32) M25)))))))))))) else zk M1 x0 = 8 ∧ w_X8_fails M1 x0 (1 : Int32) (fun r37 M37 => (r37 = 0 ∨ r37 = 1) ∧ P r37 M37)))
set_option maxHeartbeats 4000000 in
set_option maxRecDepth 100000 in
theorem c_X8_absentLine (l : Launch) (E : EV) (M : Mm) (x0 : Nat) (P : Int32 → Mm → Prop) (h : w_X8_absentLine M x0 P) : CtI l E yX8_absentLine cX8_absentLine 3 .boolean rm_X8_absentLine 0 0 [.ref x0] M P := by
  refine ctI_of (by decide +kernel) (Nat.le_of_ble_eq_true rfl) ?_
  intro p e s m args below meth c C
  rw [w_X8_absentLine] at h
  show J p l e rm_X8_absentLine s m args below meth c (QI below E P args s 0 0) E 3 M 0 0 0 [(0, .ref x0)] []
  refine j_aload_n (pc := 0) C 0 dX8_absentLine_0 rfl ?_
  refine cs_X8_112 (pc := 1) C ⟨Nat.le_of_ble_eq_true rfl, Nat.le_of_ble_eq_true rfl⟩ ⟨Nat.le_of_ble_eq_true rfl, Nat.le_of_ble_eq_true rfl⟩ (Nat.le_of_ble_eq_true rfl) dX8_absentLine_1 h (fun M1 h => ?_)
  refine j_aload_n (pc := 4) C 0 dX8_absentLine_4 rfl ?_
  refine gf_X8_90 (pc := 5) C dX8_absentLine_5 h (fun h => ?_)
  refine j_iconst (pc := 8) (v := (1 : Int32)) C dX8_absentLine_8 rfl ?_
  refine j_icmp_eq (pc := 9) C 18 dX8_absentLine_9 (by decide) h (fun h => ?_) (fun h => ?_)
  · refine j_aload_n (pc := 18) C 0 dX8_absentLine_18 rfl ?_
    refine gf_X8_34 (pc := 19) C dX8_absentLine_19 h (fun a2 h => ?_)
    refine j_iconst (pc := 22) (v := (1 : Int32)) C dX8_absentLine_22 rfl ?_
    refine j_aload_n (pc := 23) C 0 dX8_absentLine_23 rfl ?_
    refine gf_X8_28 (pc := 24) C dX8_absentLine_24 h (fun a3 h => ?_)
    refine j_iconst (pc := 27) (v := (2 : Int32)) C dX8_absentLine_27 rfl ?_
    refine j_iald (pc := 28) C dX8_absentLine_28 h (fun h => ?_)
    refine j_aload_n (pc := 29) C 0 dX8_absentLine_29 rfl ?_
    refine gf_X8_69 (pc := 30) C dX8_absentLine_30 h (fun h => ?_)
    refine cs_X8_126 (pc := 33) C ⟨Nat.le_of_ble_eq_true rfl, Nat.le_of_ble_eq_true rfl⟩ ⟨Nat.le_of_ble_eq_true rfl, Nat.le_of_ble_eq_true rfl⟩ (Nat.le_of_ble_eq_true rfl) dX8_absentLine_33 h (fun r4 M4 h => ?_)
    refine j_istore_n (pc := 36) C [(1, _), (0, _)] dX8_absentLine_36 (by decide) rfl ?_
    refine j_aload_n (pc := 37) C 1 dX8_absentLine_37 rfl ?_
    refine j_iconst (pc := 38) (v := (4 : Int32)) C dX8_absentLine_38 rfl ?_
    refine j_iload_n (pc := 39) C 0 dX8_absentLine_39 rfl ?_
    refine j_iconst (pc := 40) (v := (-1 : Int32)) C dX8_absentLine_40 rfl ?_
    refine j_icmp_eq (pc := 41) C 48 dX8_absentLine_41 (by decide) h (fun h => ?_) (fun h => ?_)
    · refine j_iconst (pc := 48) (v := (0 : Int32)) C dX8_absentLine_48 rfl ?_
      refine cs_X8_122 (pc := 49) C ⟨Nat.le_of_ble_eq_true rfl, Nat.le_of_ble_eq_true rfl⟩ ⟨Nat.le_of_ble_eq_true rfl, Nat.le_of_ble_eq_true rfl⟩ (Nat.le_of_ble_eq_true rfl) dX8_absentLine_49 h (fun r5 M5 h => ?_)
      refine j_if_ne (pc := 52) C 57 dX8_absentLine_52 (by decide) h (fun h => ?_) (fun h => ?_)
      · refine j_bipush (pc := 57) (v := (9 : Int32)) C dX8_absentLine_57 rfl ?_
        refine j_bipush (pc := 59) (v := (7 : Int32)) C dX8_absentLine_59 rfl ?_
        refine j_iload_n (pc := 61) C 0 dX8_absentLine_61 rfl ?_
        refine j_imul (pc := 62) C dX8_absentLine_62 ?_
        refine j_iadd (pc := 63) C dX8_absentLine_63 ?_
        refine j_iconst (pc := 64) (v := (1 : Int32)) C dX8_absentLine_64 rfl ?_
        refine j_iadd (pc := 65) C dX8_absentLine_65 ?_
        refine j_istore_n (pc := 66) C [(2, _), (1, _), (0, _)] dX8_absentLine_66 (by decide) rfl ?_
        refine j_aload_n (pc := 67) C 2 dX8_absentLine_67 rfl ?_
        refine gf_X8_90 (pc := 68) C dX8_absentLine_68 h (fun h => ?_)
        refine j_iconst (pc := 71) (v := (2 : Int32)) C dX8_absentLine_71 rfl ?_
        refine j_icmp_ne (pc := 72) C 111 dX8_absentLine_72 (by decide) h (fun h => ?_) (fun h => ?_)
        · refine j_aload_n (pc := 111) C 2 dX8_absentLine_111 rfl ?_
          refine j_iconst (pc := 112) (v := (0 : Int32)) C dX8_absentLine_112 rfl ?_
          refine j_aload_n (pc := 113) C 2 dX8_absentLine_113 rfl ?_
          refine gf_X8_28 (pc := 114) C dX8_absentLine_114 h (fun a6 h => ?_)
          refine j_iconst (pc := 117) (v := (0 : Int32)) C dX8_absentLine_117 rfl ?_
          refine j_iald (pc := 118) C dX8_absentLine_118 h (fun h => ?_)
          refine j_iconst (pc := 119) (v := (1 : Int32)) C dX8_absentLine_119 rfl ?_
          refine j_isub (pc := 120) C dX8_absentLine_120 ?_
          refine cs_X8_118 (pc := 121) C ⟨Nat.le_of_ble_eq_true rfl, Nat.le_of_ble_eq_true rfl⟩ ⟨Nat.le_of_ble_eq_true rfl, Nat.le_of_ble_eq_true rfl⟩ (Nat.le_of_ble_eq_true rfl) dX8_absentLine_121 h (fun r7 M7 h => ?_)
          refine j_if_ne (pc := 124) C 129 dX8_absentLine_124 (by decide) h (fun h => ?_) (fun h => ?_)
          · refine j_aload_n (pc := 129) C 2 dX8_absentLine_129 rfl ?_
            refine gf_X8_28 (pc := 130) C dX8_absentLine_130 h (fun a8 h => ?_)
            refine j_iload_n (pc := 133) C 0 dX8_absentLine_133 rfl ?_
            refine j_dup2 (pc := 134) C dX8_absentLine_134 rfl rfl ?_
            refine j_iald (pc := 135) C dX8_absentLine_135 h (fun h => ?_)
            refine j_iconst (pc := 136) (v := (1 : Int32)) C dX8_absentLine_136 rfl ?_
            refine j_aload_n (pc := 137) C 2 dX8_absentLine_137 rfl ?_
            refine gf_X8_115 (pc := 138) C dX8_absentLine_138 h (fun h => ?_)
            refine j_ishl (pc := 141) C dX8_absentLine_141 ?_
            refine j_ior (pc := 142) C dX8_absentLine_142 ?_
            refine n_iast (pc := 143) C dX8_absentLine_143 h (fun M9 h => ?_)
            refine j_iconst (pc := 144) (v := (1 : Int32)) C dX8_absentLine_144 rfl ?_
            exact j_zret (pc := 145) C dX8_absentLine_145 (Nat.le_of_ble_eq_true rfl) (Nat.le_of_ble_eq_true rfl) h
          · refine j_iconst (pc := 127) (v := (0 : Int32)) C dX8_absentLine_127 rfl ?_
            exact j_zret (pc := 128) C dX8_absentLine_128 (Nat.le_of_ble_eq_true rfl) (Nat.le_of_ble_eq_true rfl) h
        · refine j_aload_n (pc := 75) C 2 dX8_absentLine_75 rfl ?_
          refine gf_X8_87 (pc := 76) C dX8_absentLine_76 h (fun h => ?_)
          refine j_aload_n (pc := 79) C 2 dX8_absentLine_79 rfl ?_
          refine gf_X8_28 (pc := 80) C dX8_absentLine_80 h (fun a10 h => ?_)
          refine j_iconst (pc := 83) (v := (0 : Int32)) C dX8_absentLine_83 rfl ?_
          refine j_iald (pc := 84) C dX8_absentLine_84 h (fun h => ?_)
          refine j_icmp_ge (pc := 85) C 111 dX8_absentLine_85 (by decide) h (fun h => ?_) (fun h => ?_)
          · refine j_aload_n (pc := 111) C 2 dX8_absentLine_111 rfl ?_
            refine j_iconst (pc := 112) (v := (0 : Int32)) C dX8_absentLine_112 rfl ?_
            refine j_aload_n (pc := 113) C 2 dX8_absentLine_113 rfl ?_
            refine gf_X8_28 (pc := 114) C dX8_absentLine_114 h (fun a11 h => ?_)
            refine j_iconst (pc := 117) (v := (0 : Int32)) C dX8_absentLine_117 rfl ?_
            refine j_iald (pc := 118) C dX8_absentLine_118 h (fun h => ?_)
            refine j_iconst (pc := 119) (v := (1 : Int32)) C dX8_absentLine_119 rfl ?_
            refine j_isub (pc := 120) C dX8_absentLine_120 ?_
            refine cs_X8_118 (pc := 121) C ⟨Nat.le_of_ble_eq_true rfl, Nat.le_of_ble_eq_true rfl⟩ ⟨Nat.le_of_ble_eq_true rfl, Nat.le_of_ble_eq_true rfl⟩ (Nat.le_of_ble_eq_true rfl) dX8_absentLine_121 h (fun r12 M12 h => ?_)
            refine j_if_ne (pc := 124) C 129 dX8_absentLine_124 (by decide) h (fun h => ?_) (fun h => ?_)
            · refine j_aload_n (pc := 129) C 2 dX8_absentLine_129 rfl ?_
              refine gf_X8_28 (pc := 130) C dX8_absentLine_130 h (fun a13 h => ?_)
              refine j_iload_n (pc := 133) C 0 dX8_absentLine_133 rfl ?_
              refine j_dup2 (pc := 134) C dX8_absentLine_134 rfl rfl ?_
              refine j_iald (pc := 135) C dX8_absentLine_135 h (fun h => ?_)
              refine j_iconst (pc := 136) (v := (1 : Int32)) C dX8_absentLine_136 rfl ?_
              refine j_aload_n (pc := 137) C 2 dX8_absentLine_137 rfl ?_
              refine gf_X8_115 (pc := 138) C dX8_absentLine_138 h (fun h => ?_)
              refine j_ishl (pc := 141) C dX8_absentLine_141 ?_
              refine j_ior (pc := 142) C dX8_absentLine_142 ?_
              refine n_iast (pc := 143) C dX8_absentLine_143 h (fun M14 h => ?_)
              refine j_iconst (pc := 144) (v := (1 : Int32)) C dX8_absentLine_144 rfl ?_
              exact j_zret (pc := 145) C dX8_absentLine_145 (Nat.le_of_ble_eq_true rfl) (Nat.le_of_ble_eq_true rfl) h
            · refine j_iconst (pc := 127) (v := (0 : Int32)) C dX8_absentLine_127 rfl ?_
              exact j_zret (pc := 128) C dX8_absentLine_128 (Nat.le_of_ble_eq_true rfl) (Nat.le_of_ble_eq_true rfl) h
          · refine j_aload_n (pc := 88) C 2 dX8_absentLine_88 rfl ?_
            refine gf_X8_28 (pc := 89) C dX8_absentLine_89 h (fun a15 h => ?_)
            refine j_iload_n (pc := 92) C 0 dX8_absentLine_92 rfl ?_
            refine j_iald (pc := 93) C dX8_absentLine_93 h (fun h => ?_)
            refine j_aload_n (pc := 94) C 2 dX8_absentLine_94 rfl ?_
            refine gf_X8_87 (pc := 95) C dX8_absentLine_95 h (fun h => ?_)
            refine j_ishr (pc := 98) C dX8_absentLine_98 ?_
            refine j_iconst (pc := 99) (v := (1 : Int32)) C dX8_absentLine_99 rfl ?_
            refine j_iand (pc := 100) C dX8_absentLine_100 ?_
            refine j_iconst (pc := 101) (v := (1 : Int32)) C dX8_absentLine_101 rfl ?_
            refine j_icmp_ne (pc := 102) C 111 dX8_absentLine_102 (by decide) h (fun h => ?_) (fun h => ?_)
            · refine j_aload_n (pc := 111) C 2 dX8_absentLine_111 rfl ?_
              refine j_iconst (pc := 112) (v := (0 : Int32)) C dX8_absentLine_112 rfl ?_
              refine j_aload_n (pc := 113) C 2 dX8_absentLine_113 rfl ?_
              refine gf_X8_28 (pc := 114) C dX8_absentLine_114 h (fun a16 h => ?_)
              refine j_iconst (pc := 117) (v := (0 : Int32)) C dX8_absentLine_117 rfl ?_
              refine j_iald (pc := 118) C dX8_absentLine_118 h (fun h => ?_)
              refine j_iconst (pc := 119) (v := (1 : Int32)) C dX8_absentLine_119 rfl ?_
              refine j_isub (pc := 120) C dX8_absentLine_120 ?_
              refine cs_X8_118 (pc := 121) C ⟨Nat.le_of_ble_eq_true rfl, Nat.le_of_ble_eq_true rfl⟩ ⟨Nat.le_of_ble_eq_true rfl, Nat.le_of_ble_eq_true rfl⟩ (Nat.le_of_ble_eq_true rfl) dX8_absentLine_121 h (fun r17 M17 h => ?_)
              refine j_if_ne (pc := 124) C 129 dX8_absentLine_124 (by decide) h (fun h => ?_) (fun h => ?_)
              · refine j_aload_n (pc := 129) C 2 dX8_absentLine_129 rfl ?_
                refine gf_X8_28 (pc := 130) C dX8_absentLine_130 h (fun a18 h => ?_)
                refine j_iload_n (pc := 133) C 0 dX8_absentLine_133 rfl ?_
                refine j_dup2 (pc := 134) C dX8_absentLine_134 rfl rfl ?_
                refine j_iald (pc := 135) C dX8_absentLine_135 h (fun h => ?_)
                refine j_iconst (pc := 136) (v := (1 : Int32)) C dX8_absentLine_136 rfl ?_
                refine j_aload_n (pc := 137) C 2 dX8_absentLine_137 rfl ?_
                refine gf_X8_115 (pc := 138) C dX8_absentLine_138 h (fun h => ?_)
                refine j_ishl (pc := 141) C dX8_absentLine_141 ?_
                refine j_ior (pc := 142) C dX8_absentLine_142 ?_
                refine n_iast (pc := 143) C dX8_absentLine_143 h (fun M19 h => ?_)
                refine j_iconst (pc := 144) (v := (1 : Int32)) C dX8_absentLine_144 rfl ?_
                exact j_zret (pc := 145) C dX8_absentLine_145 (Nat.le_of_ble_eq_true rfl) (Nat.le_of_ble_eq_true rfl) h
              · refine j_iconst (pc := 127) (v := (0 : Int32)) C dX8_absentLine_127 rfl ?_
                exact j_zret (pc := 128) C dX8_absentLine_128 (Nat.le_of_ble_eq_true rfl) (Nat.le_of_ble_eq_true rfl) h
            · refine j_aload_n (pc := 105) C 2 dX8_absentLine_105 rfl ?_
              refine j_iconst (pc := 106) (v := (2 : Int32)) C dX8_absentLine_106 rfl ?_
              refine cs_X8_108 (pc := 107) C ⟨Nat.le_of_ble_eq_true rfl, Nat.le_of_ble_eq_true rfl⟩ ⟨Nat.le_of_ble_eq_true rfl, Nat.le_of_ble_eq_true rfl⟩ (Nat.le_of_ble_eq_true rfl) dX8_absentLine_107 h (fun r20 M20 h => ?_)
              exact j_zret (pc := 110) C dX8_absentLine_110 (Nat.le_of_ble_eq_true rfl) (Nat.le_of_ble_eq_true rfl) h
      · refine j_iconst (pc := 55) (v := (0 : Int32)) C dX8_absentLine_55 rfl ?_
        exact j_zret (pc := 56) C dX8_absentLine_56 (Nat.le_of_ble_eq_true rfl) (Nat.le_of_ble_eq_true rfl) h
    · refine j_iconst (pc := 44) (v := (1 : Int32)) C dX8_absentLine_44 rfl ?_
      refine j_goto (pc := 45) C 49 dX8_absentLine_45 (by decide) ?_
      refine cs_X8_122 (pc := 49) C ⟨Nat.le_of_ble_eq_true rfl, Nat.le_of_ble_eq_true rfl⟩ ⟨Nat.le_of_ble_eq_true rfl, Nat.le_of_ble_eq_true rfl⟩ (Nat.le_of_ble_eq_true rfl) dX8_absentLine_49 h (fun r21 M21 h => ?_)
      refine j_if_ne (pc := 52) C 57 dX8_absentLine_52 (by decide) h (fun h => ?_) (fun h => ?_)
      · refine j_bipush (pc := 57) (v := (9 : Int32)) C dX8_absentLine_57 rfl ?_
        refine j_bipush (pc := 59) (v := (7 : Int32)) C dX8_absentLine_59 rfl ?_
        refine j_iload_n (pc := 61) C 0 dX8_absentLine_61 rfl ?_
        refine j_imul (pc := 62) C dX8_absentLine_62 ?_
        refine j_iadd (pc := 63) C dX8_absentLine_63 ?_
        refine j_iconst (pc := 64) (v := (1 : Int32)) C dX8_absentLine_64 rfl ?_
        refine j_iadd (pc := 65) C dX8_absentLine_65 ?_
        refine j_istore_n (pc := 66) C [(2, _), (1, _), (0, _)] dX8_absentLine_66 (by decide) rfl ?_
        refine j_aload_n (pc := 67) C 2 dX8_absentLine_67 rfl ?_
        refine gf_X8_90 (pc := 68) C dX8_absentLine_68 h (fun h => ?_)
        refine j_iconst (pc := 71) (v := (2 : Int32)) C dX8_absentLine_71 rfl ?_
        refine j_icmp_ne (pc := 72) C 111 dX8_absentLine_72 (by decide) h (fun h => ?_) (fun h => ?_)
        · refine j_aload_n (pc := 111) C 2 dX8_absentLine_111 rfl ?_
          refine j_iconst (pc := 112) (v := (0 : Int32)) C dX8_absentLine_112 rfl ?_
          refine j_aload_n (pc := 113) C 2 dX8_absentLine_113 rfl ?_
          refine gf_X8_28 (pc := 114) C dX8_absentLine_114 h (fun a22 h => ?_)
          refine j_iconst (pc := 117) (v := (0 : Int32)) C dX8_absentLine_117 rfl ?_
          refine j_iald (pc := 118) C dX8_absentLine_118 h (fun h => ?_)
          refine j_iconst (pc := 119) (v := (1 : Int32)) C dX8_absentLine_119 rfl ?_
          refine j_isub (pc := 120) C dX8_absentLine_120 ?_
          refine cs_X8_118 (pc := 121) C ⟨Nat.le_of_ble_eq_true rfl, Nat.le_of_ble_eq_true rfl⟩ ⟨Nat.le_of_ble_eq_true rfl, Nat.le_of_ble_eq_true rfl⟩ (Nat.le_of_ble_eq_true rfl) dX8_absentLine_121 h (fun r23 M23 h => ?_)
          refine j_if_ne (pc := 124) C 129 dX8_absentLine_124 (by decide) h (fun h => ?_) (fun h => ?_)
          · refine j_aload_n (pc := 129) C 2 dX8_absentLine_129 rfl ?_
            refine gf_X8_28 (pc := 130) C dX8_absentLine_130 h (fun a24 h => ?_)
            refine j_iload_n (pc := 133) C 0 dX8_absentLine_133 rfl ?_
            refine j_dup2 (pc := 134) C dX8_absentLine_134 rfl rfl ?_
            refine j_iald (pc := 135) C dX8_absentLine_135 h (fun h => ?_)
            refine j_iconst (pc := 136) (v := (1 : Int32)) C dX8_absentLine_136 rfl ?_
            refine j_aload_n (pc := 137) C 2 dX8_absentLine_137 rfl ?_
            refine gf_X8_115 (pc := 138) C dX8_absentLine_138 h (fun h => ?_)
            refine j_ishl (pc := 141) C dX8_absentLine_141 ?_
            refine j_ior (pc := 142) C dX8_absentLine_142 ?_
            refine n_iast (pc := 143) C dX8_absentLine_143 h (fun M25 h => ?_)
            refine j_iconst (pc := 144) (v := (1 : Int32)) C dX8_absentLine_144 rfl ?_
            exact j_zret (pc := 145) C dX8_absentLine_145 (Nat.le_of_ble_eq_true rfl) (Nat.le_of_ble_eq_true rfl) h
          · refine j_iconst (pc := 127) (v := (0 : Int32)) C dX8_absentLine_127 rfl ?_
            exact j_zret (pc := 128) C dX8_absentLine_128 (Nat.le_of_ble_eq_true rfl) (Nat.le_of_ble_eq_true rfl) h
        · refine j_aload_n (pc := 75) C 2 dX8_absentLine_75 rfl ?_
          refine gf_X8_87 (pc := 76) C dX8_absentLine_76 h (fun h => ?_)
          refine j_aload_n (pc := 79) C 2 dX8_absentLine_79 rfl ?_
          refine gf_X8_28 (pc := 80) C dX8_absentLine_80 h (fun a26 h => ?_)
          refine j_iconst (pc := 83) (v := (0 : Int32)) C dX8_absentLine_83 rfl ?_
          refine j_iald (pc := 84) C dX8_absentLine_84 h (fun h => ?_)
          refine j_icmp_ge (pc := 85) C 111 dX8_absentLine_85 (by decide) h (fun h => ?_) (fun h => ?_)
          · refine j_aload_n (pc := 111) C 2 dX8_absentLine_111 rfl ?_
            refine j_iconst (pc := 112) (v := (0 : Int32)) C dX8_absentLine_112 rfl ?_
            refine j_aload_n (pc := 113) C 2 dX8_absentLine_113 rfl ?_
            refine gf_X8_28 (pc := 114) C dX8_absentLine_114 h (fun a27 h => ?_)
            refine j_iconst (pc := 117) (v := (0 : Int32)) C dX8_absentLine_117 rfl ?_
            refine j_iald (pc := 118) C dX8_absentLine_118 h (fun h => ?_)
            refine j_iconst (pc := 119) (v := (1 : Int32)) C dX8_absentLine_119 rfl ?_
            refine j_isub (pc := 120) C dX8_absentLine_120 ?_
            refine cs_X8_118 (pc := 121) C ⟨Nat.le_of_ble_eq_true rfl, Nat.le_of_ble_eq_true rfl⟩ ⟨Nat.le_of_ble_eq_true rfl, Nat.le_of_ble_eq_true rfl⟩ (Nat.le_of_ble_eq_true rfl) dX8_absentLine_121 h (fun r28 M28 h => ?_)
            refine j_if_ne (pc := 124) C 129 dX8_absentLine_124 (by decide) h (fun h => ?_) (fun h => ?_)
            · refine j_aload_n (pc := 129) C 2 dX8_absentLine_129 rfl ?_
              refine gf_X8_28 (pc := 130) C dX8_absentLine_130 h (fun a29 h => ?_)
              refine j_iload_n (pc := 133) C 0 dX8_absentLine_133 rfl ?_
              refine j_dup2 (pc := 134) C dX8_absentLine_134 rfl rfl ?_
              refine j_iald (pc := 135) C dX8_absentLine_135 h (fun h => ?_)
              refine j_iconst (pc := 136) (v := (1 : Int32)) C dX8_absentLine_136 rfl ?_
              refine j_aload_n (pc := 137) C 2 dX8_absentLine_137 rfl ?_
              refine gf_X8_115 (pc := 138) C dX8_absentLine_138 h (fun h => ?_)
              refine j_ishl (pc := 141) C dX8_absentLine_141 ?_
              refine j_ior (pc := 142) C dX8_absentLine_142 ?_
              refine n_iast (pc := 143) C dX8_absentLine_143 h (fun M30 h => ?_)
              refine j_iconst (pc := 144) (v := (1 : Int32)) C dX8_absentLine_144 rfl ?_
              exact j_zret (pc := 145) C dX8_absentLine_145 (Nat.le_of_ble_eq_true rfl) (Nat.le_of_ble_eq_true rfl) h
            · refine j_iconst (pc := 127) (v := (0 : Int32)) C dX8_absentLine_127 rfl ?_
              exact j_zret (pc := 128) C dX8_absentLine_128 (Nat.le_of_ble_eq_true rfl) (Nat.le_of_ble_eq_true rfl) h
          · refine j_aload_n (pc := 88) C 2 dX8_absentLine_88 rfl ?_
            refine gf_X8_28 (pc := 89) C dX8_absentLine_89 h (fun a31 h => ?_)
            refine j_iload_n (pc := 92) C 0 dX8_absentLine_92 rfl ?_
            refine j_iald (pc := 93) C dX8_absentLine_93 h (fun h => ?_)
            refine j_aload_n (pc := 94) C 2 dX8_absentLine_94 rfl ?_
            refine gf_X8_87 (pc := 95) C dX8_absentLine_95 h (fun h => ?_)
            refine j_ishr (pc := 98) C dX8_absentLine_98 ?_
            refine j_iconst (pc := 99) (v := (1 : Int32)) C dX8_absentLine_99 rfl ?_
            refine j_iand (pc := 100) C dX8_absentLine_100 ?_
            refine j_iconst (pc := 101) (v := (1 : Int32)) C dX8_absentLine_101 rfl ?_
            refine j_icmp_ne (pc := 102) C 111 dX8_absentLine_102 (by decide) h (fun h => ?_) (fun h => ?_)
            · refine j_aload_n (pc := 111) C 2 dX8_absentLine_111 rfl ?_
              refine j_iconst (pc := 112) (v := (0 : Int32)) C dX8_absentLine_112 rfl ?_
              refine j_aload_n (pc := 113) C 2 dX8_absentLine_113 rfl ?_
              refine gf_X8_28 (pc := 114) C dX8_absentLine_114 h (fun a32 h => ?_)
              refine j_iconst (pc := 117) (v := (0 : Int32)) C dX8_absentLine_117 rfl ?_
              refine j_iald (pc := 118) C dX8_absentLine_118 h (fun h => ?_)
              refine j_iconst (pc := 119) (v := (1 : Int32)) C dX8_absentLine_119 rfl ?_
              refine j_isub (pc := 120) C dX8_absentLine_120 ?_
              refine cs_X8_118 (pc := 121) C ⟨Nat.le_of_ble_eq_true rfl, Nat.le_of_ble_eq_true rfl⟩ ⟨Nat.le_of_ble_eq_true rfl, Nat.le_of_ble_eq_true rfl⟩ (Nat.le_of_ble_eq_true rfl) dX8_absentLine_121 h (fun r33 M33 h => ?_)
              refine j_if_ne (pc := 124) C 129 dX8_absentLine_124 (by decide) h (fun h => ?_) (fun h => ?_)
              · refine j_aload_n (pc := 129) C 2 dX8_absentLine_129 rfl ?_
                refine gf_X8_28 (pc := 130) C dX8_absentLine_130 h (fun a34 h => ?_)
                refine j_iload_n (pc := 133) C 0 dX8_absentLine_133 rfl ?_
                refine j_dup2 (pc := 134) C dX8_absentLine_134 rfl rfl ?_
                refine j_iald (pc := 135) C dX8_absentLine_135 h (fun h => ?_)
                refine j_iconst (pc := 136) (v := (1 : Int32)) C dX8_absentLine_136 rfl ?_
                refine j_aload_n (pc := 137) C 2 dX8_absentLine_137 rfl ?_
                refine gf_X8_115 (pc := 138) C dX8_absentLine_138 h (fun h => ?_)
                refine j_ishl (pc := 141) C dX8_absentLine_141 ?_
                refine j_ior (pc := 142) C dX8_absentLine_142 ?_
                refine n_iast (pc := 143) C dX8_absentLine_143 h (fun M35 h => ?_)
                refine j_iconst (pc := 144) (v := (1 : Int32)) C dX8_absentLine_144 rfl ?_
                exact j_zret (pc := 145) C dX8_absentLine_145 (Nat.le_of_ble_eq_true rfl) (Nat.le_of_ble_eq_true rfl) h
              · refine j_iconst (pc := 127) (v := (0 : Int32)) C dX8_absentLine_127 rfl ?_
                exact j_zret (pc := 128) C dX8_absentLine_128 (Nat.le_of_ble_eq_true rfl) (Nat.le_of_ble_eq_true rfl) h
            · refine j_aload_n (pc := 105) C 2 dX8_absentLine_105 rfl ?_
              refine j_iconst (pc := 106) (v := (2 : Int32)) C dX8_absentLine_106 rfl ?_
              refine cs_X8_108 (pc := 107) C ⟨Nat.le_of_ble_eq_true rfl, Nat.le_of_ble_eq_true rfl⟩ ⟨Nat.le_of_ble_eq_true rfl, Nat.le_of_ble_eq_true rfl⟩ (Nat.le_of_ble_eq_true rfl) dX8_absentLine_107 h (fun r36 M36 h => ?_)
              exact j_zret (pc := 110) C dX8_absentLine_110 (Nat.le_of_ble_eq_true rfl) (Nat.le_of_ble_eq_true rfl) h
      · refine j_iconst (pc := 55) (v := (0 : Int32)) C dX8_absentLine_55 rfl ?_
        exact j_zret (pc := 56) C dX8_absentLine_56 (Nat.le_of_ble_eq_true rfl) (Nat.le_of_ble_eq_true rfl) h
  · refine j_aload_n (pc := 12) C 0 dX8_absentLine_12 rfl ?_
    refine j_iconst (pc := 13) (v := (1 : Int32)) C dX8_absentLine_13 rfl ?_
    refine cs_X8_108 (pc := 14) C ⟨Nat.le_of_ble_eq_true rfl, Nat.le_of_ble_eq_true rfl⟩ ⟨Nat.le_of_ble_eq_true rfl, Nat.le_of_ble_eq_true rfl⟩ (Nat.le_of_ble_eq_true rfl) dX8_absentLine_14 h (fun r37 M37 h => ?_)
    exact j_zret (pc := 17) C dX8_absentLine_17 (Nat.le_of_ble_eq_true rfl) (Nat.le_of_ble_eq_true rfl) h
abbrev rm_X8_seatRead : Room := { frames := 3, cells := 0, slots := 0, locals := 63 }
def w_X8_seatRead (M : Mm) (x0 : Nat) (x1 : Int32) (P : Int32 → Mm → Prop) : Prop := zk M x0 = 8 ∧ (if (zI M x0 9) = (1 : Int32) then (zk M x0 = 8 ∧ ∃ a1, zR M x0 18 = some a1 ∧ (zk M x0 = 8 ∧ ∃ a2, zR M x0 16 = some a2 ∧ zk M a2 = 10 ∧ vp_in (4 : Int32) (zl M a2) ∧ zk M x0 = 8 ∧ w_X8_named M a1 (3 : Int32) (zI M a2 (4 : Int32).toNatClampNeg) (zJ M x0 11) (fun r3 M3 => (if r3 = (-1 : Int32) then zk M3 x0 = 8 ∧ w_X8_fails M3 x0 (4 : Int32) (fun r12 M12 => (r12 = 0 ∨ r12 = 1) ∧ P r12 M12) else (zk M3 x0 = 8 ∧ ∃ a4, zR M3 x0 16 = some a4 ∧ zk M3 a4 = 10 ∧ vp_in (x1 + (4 : Int32)) (zl M3 a4) ∧ (if (zI M3 a4 (x1 + (4 : Int32)).toNatClampNeg) = (6 : Int32) then zk M3 x0 = 8 ∧ w_X8_fails M3 x0 (5 : Int32) (fun r11 M11 => (r11 = 0 ∨ r11 = 1) ∧ P r11 M11) else (zk M3 x0 = 8 ∧ ∃ a5, zR M3 x0 16 = some a5 ∧ (zk M3 x0 = 8 ∧ ∃ a6, zR M3 x0 16 = some a6 ∧ zk M3 a6 = 10 ∧ vp_in (x1 + (4 : Int32)) (zl M3 a6) ∧ zk M3 a5 = 10 ∧ vp_in ((x1 + (5 : Int32)) + (zI M3 a6 (x1 + (4 : Int32)).toNatClampNeg)) (zl M3 a5) ∧ (∀ M7, M7 = sI M3 a5 ((x1 + (5 : Int32)) + (zI M3 a6 (x1 + (4 : Int32)).toNatClampNeg)).toNatClampNeg r3 → (zk M7 x0 = 8 ∧ ∃ a8, zR M7 x0 16 = some a8 ∧ zk M7 a8 = 10 ∧ vp_in (x1 + (4 : Int32)) (zl M7 a8) ∧ zk M7 a8 = 10 ∧ vp_in (x1 + (4 : Int32)) (zl M7 a8) ∧ (∀ M9, M9 = sI M7 a8 (x1 + (4 : Int32)).toNatClampNeg ((zI M7 a8 (x1 + (4 : Int32)).toNatClampNeg) + (1 : Int32)) → zk M9 x0 = 8 ∧ w_X8_advance M9 x0 (fun M10 => ((1 : Int32) = 0 ∨ (1 : Int32) = 1) ∧ P (1 : Int32) M10)))))))))))) else zk M x0 = 8 ∧ w_X8_fails M x0 (1 : Int32) (fun r13 M13 => (r13 = 0 ∨ r13 = 1) ∧ P r13 M13))
set_option maxHeartbeats 4000000 in
set_option maxRecDepth 100000 in
theorem c_X8_seatRead (l : Launch) (E : EV) (M : Mm) (x0 : Nat) (x1 : Int32) (P : Int32 → Mm → Prop) (h : w_X8_seatRead M x0 x1 P) : CtI l E yX8_seatRead cX8_seatRead 3 .boolean rm_X8_seatRead 0 0 [.ref x0, .int x1] M P := by
  refine ctI_of (by decide +kernel) (Nat.le_of_ble_eq_true rfl) ?_
  intro p e s m args below meth c C
  rw [w_X8_seatRead] at h
  show J p l e rm_X8_seatRead s m args below meth c (QI below E P args s 0 0) E 3 M 0 0 0 [(0, .ref x0), (1, .int x1)] []
  refine j_aload_n (pc := 0) C 0 dX8_seatRead_0 rfl ?_
  refine gf_X8_90 (pc := 1) C dX8_seatRead_1 h (fun h => ?_)
  refine j_iconst (pc := 4) (v := (1 : Int32)) C dX8_seatRead_4 rfl ?_
  refine j_icmp_eq (pc := 5) C 14 dX8_seatRead_5 (by decide) h (fun h => ?_) (fun h => ?_)
  · refine j_aload_n (pc := 14) C 0 dX8_seatRead_14 rfl ?_
    refine gf_X8_34 (pc := 15) C dX8_seatRead_15 h (fun a1 h => ?_)
    refine j_iconst (pc := 18) (v := (3 : Int32)) C dX8_seatRead_18 rfl ?_
    refine j_aload_n (pc := 19) C 0 dX8_seatRead_19 rfl ?_
    refine gf_X8_28 (pc := 20) C dX8_seatRead_20 h (fun a2 h => ?_)
    refine j_iconst (pc := 23) (v := (4 : Int32)) C dX8_seatRead_23 rfl ?_
    refine j_iald (pc := 24) C dX8_seatRead_24 h (fun h => ?_)
    refine j_aload_n (pc := 25) C 0 dX8_seatRead_25 rfl ?_
    refine gf_X8_69 (pc := 26) C dX8_seatRead_26 h (fun h => ?_)
    refine cs_X8_126 (pc := 29) C ⟨Nat.le_of_ble_eq_true rfl, Nat.le_of_ble_eq_true rfl⟩ ⟨Nat.le_of_ble_eq_true rfl, Nat.le_of_ble_eq_true rfl⟩ (Nat.le_of_ble_eq_true rfl) dX8_seatRead_29 h (fun r3 M3 h => ?_)
    refine j_istore_n (pc := 32) C [(2, _), (0, _), (1, _)] dX8_seatRead_32 (by decide) rfl ?_
    refine j_iload_n (pc := 33) C 0 dX8_seatRead_33 rfl ?_
    refine j_iconst (pc := 34) (v := (-1 : Int32)) C dX8_seatRead_34 rfl ?_
    refine j_icmp_ne (pc := 35) C 44 dX8_seatRead_35 (by decide) h (fun h => ?_) (fun h => ?_)
    · refine j_aload_n (pc := 44) C 1 dX8_seatRead_44 rfl ?_
      refine gf_X8_28 (pc := 45) C dX8_seatRead_45 h (fun a4 h => ?_)
      refine j_iload_n (pc := 48) C 2 dX8_seatRead_48 rfl ?_
      refine j_iconst (pc := 49) (v := (4 : Int32)) C dX8_seatRead_49 rfl ?_
      refine j_iadd (pc := 50) C dX8_seatRead_50 ?_
      refine j_iald (pc := 51) C dX8_seatRead_51 h (fun h => ?_)
      refine j_bipush (pc := 52) (v := (6 : Int32)) C dX8_seatRead_52 rfl ?_
      refine j_icmp_ne (pc := 54) C 63 dX8_seatRead_54 (by decide) h (fun h => ?_) (fun h => ?_)
      · refine j_aload_n (pc := 63) C 1 dX8_seatRead_63 rfl ?_
        refine gf_X8_28 (pc := 64) C dX8_seatRead_64 h (fun a5 h => ?_)
        refine j_iload_n (pc := 67) C 2 dX8_seatRead_67 rfl ?_
        refine j_iconst (pc := 68) (v := (5 : Int32)) C dX8_seatRead_68 rfl ?_
        refine j_iadd (pc := 69) C dX8_seatRead_69 ?_
        refine j_aload_n (pc := 70) C 1 dX8_seatRead_70 rfl ?_
        refine gf_X8_28 (pc := 71) C dX8_seatRead_71 h (fun a6 h => ?_)
        refine j_iload_n (pc := 74) C 2 dX8_seatRead_74 rfl ?_
        refine j_iconst (pc := 75) (v := (4 : Int32)) C dX8_seatRead_75 rfl ?_
        refine j_iadd (pc := 76) C dX8_seatRead_76 ?_
        refine j_iald (pc := 77) C dX8_seatRead_77 h (fun h => ?_)
        refine j_iadd (pc := 78) C dX8_seatRead_78 ?_
        refine j_iload_n (pc := 79) C 0 dX8_seatRead_79 rfl ?_
        refine n_iast (pc := 80) C dX8_seatRead_80 h (fun M7 h => ?_)
        refine j_aload_n (pc := 81) C 1 dX8_seatRead_81 rfl ?_
        refine gf_X8_28 (pc := 82) C dX8_seatRead_82 h (fun a8 h => ?_)
        refine j_iload_n (pc := 85) C 2 dX8_seatRead_85 rfl ?_
        refine j_iconst (pc := 86) (v := (4 : Int32)) C dX8_seatRead_86 rfl ?_
        refine j_iadd (pc := 87) C dX8_seatRead_87 ?_
        refine j_dup2 (pc := 88) C dX8_seatRead_88 rfl rfl ?_
        refine j_iald (pc := 89) C dX8_seatRead_89 h (fun h => ?_)
        refine j_iconst (pc := 90) (v := (1 : Int32)) C dX8_seatRead_90 rfl ?_
        refine j_iadd (pc := 91) C dX8_seatRead_91 ?_
        refine n_iast (pc := 92) C dX8_seatRead_92 h (fun M9 h => ?_)
        refine j_aload_n (pc := 93) C 1 dX8_seatRead_93 rfl ?_
        refine cs_X8_112 (pc := 94) C ⟨Nat.le_of_ble_eq_true rfl, Nat.le_of_ble_eq_true rfl⟩ ⟨Nat.le_of_ble_eq_true rfl, Nat.le_of_ble_eq_true rfl⟩ (Nat.le_of_ble_eq_true rfl) dX8_seatRead_94 h (fun M10 h => ?_)
        refine j_iconst (pc := 97) (v := (1 : Int32)) C dX8_seatRead_97 rfl ?_
        exact j_zret (pc := 98) C dX8_seatRead_98 (Nat.le_of_ble_eq_true rfl) (Nat.le_of_ble_eq_true rfl) h
      · refine j_aload_n (pc := 57) C 1 dX8_seatRead_57 rfl ?_
        refine j_iconst (pc := 58) (v := (5 : Int32)) C dX8_seatRead_58 rfl ?_
        refine cs_X8_108 (pc := 59) C ⟨Nat.le_of_ble_eq_true rfl, Nat.le_of_ble_eq_true rfl⟩ ⟨Nat.le_of_ble_eq_true rfl, Nat.le_of_ble_eq_true rfl⟩ (Nat.le_of_ble_eq_true rfl) dX8_seatRead_59 h (fun r11 M11 h => ?_)
        exact j_zret (pc := 62) C dX8_seatRead_62 (Nat.le_of_ble_eq_true rfl) (Nat.le_of_ble_eq_true rfl) h
    · refine j_aload_n (pc := 38) C 1 dX8_seatRead_38 rfl ?_
      refine j_iconst (pc := 39) (v := (4 : Int32)) C dX8_seatRead_39 rfl ?_
      refine cs_X8_108 (pc := 40) C ⟨Nat.le_of_ble_eq_true rfl, Nat.le_of_ble_eq_true rfl⟩ ⟨Nat.le_of_ble_eq_true rfl, Nat.le_of_ble_eq_true rfl⟩ (Nat.le_of_ble_eq_true rfl) dX8_seatRead_40 h (fun r12 M12 h => ?_)
      exact j_zret (pc := 43) C dX8_seatRead_43 (Nat.le_of_ble_eq_true rfl) (Nat.le_of_ble_eq_true rfl) h
  · refine j_aload_n (pc := 8) C 0 dX8_seatRead_8 rfl ?_
    refine j_iconst (pc := 9) (v := (1 : Int32)) C dX8_seatRead_9 rfl ?_
    refine cs_X8_108 (pc := 10) C ⟨Nat.le_of_ble_eq_true rfl, Nat.le_of_ble_eq_true rfl⟩ ⟨Nat.le_of_ble_eq_true rfl, Nat.le_of_ble_eq_true rfl⟩ (Nat.le_of_ble_eq_true rfl) dX8_seatRead_10 h (fun r13 M13 h => ?_)
    exact j_zret (pc := 13) C dX8_seatRead_13 (Nat.le_of_ble_eq_true rfl) (Nat.le_of_ble_eq_true rfl) h
theorem cs_X8_139 (C : Cx p l s m args meth c cc nL RX8 ret E) {b : Nat} {y0 : Int32} {P : Int32 → Mm → Prop} (hR : rm_X8_seatRead.frames + 1 ≤ R.frames ∧ 8 + (3 + 11) + rm_X8_seatRead.locals ≤ R.locals) (hf : kc ≤ R.cells ∧ ks ≤ R.slots) (hst : (st.map fun v => v.category).sum ≤ 8) (d : decode cc pc = .ok (.invokevirtual 139, 3)) (h : zk M b = 8 ∧ w_X8_seatRead M b y0 P) (kk : ∀ r M', P r M' → J p l e R s m args below meth c Q E nL M' kc ks (pc + 3) lo (.int r :: st)) : J p l e R s m args below meth c Q E nL M kc ks pc lo (.int y0 :: .ref b :: st) :=
  j_cV_I (n := 1) (As := [.int y0]) C co_X8 rfl wd_1313 wd_57 h.1 (c_X8_seatRead l E M b y0 P h.2) ⟨wd_1314, wd_1311, wd_106, by decide +kernel, by decide +kernel, by decide +kernel⟩ rfl rfl hR hf rfl hst d kk
abbrev rm_X8_workLine : Room := { frames := 5, cells := 0, slots := 0, locals := 108 }
def l_X8_workLine_116 (P : Int32 → Mm → Prop) (K124 : Mm → Prop) (K134 : Mm → Nat → Prop) : Nat → Mm → Nat → Int32 → Prop
  | 0, _, _, _ => False
  | n + 1, M, x0, x2 => zk M x0 = 8 ∧ w_X8_seatRead M x0 x2 (fun r11 M11 => (if r11 = 0 then K124 M11 else zk M11 x0 = 8 ∧ (if (zI M11 x0 9) = (1 : Int32) then l_X8_workLine_116 P K124 K134 n M11 x0 x2 else K134 M11 x0)))
set_option maxHeartbeats 4000000 in
set_option maxRecDepth 100000 in
theorem jl_X8_workLine_116 {P : Int32 → Mm → Prop} {K124 : Mm → Prop} {K134 : Mm → Nat → Prop} (C : Cx p l s m args meth c cX8_workLine 3 RX8 (some .boolean) E) (hkc : kc ≤ rm_X8_workLine.cells ∧ ks ≤ rm_X8_workLine.slots) (k124 : ∀ M, K124 M → J p l e rm_X8_workLine s m args below meth c (QI below E P args s rm_X8_workLine.cells rm_X8_workLine.slots) E 3 M kc ks 124 [] []) (k134 : ∀ M x0, K134 M x0 → J p l e rm_X8_workLine s m args below meth c (QI below E P args s rm_X8_workLine.cells rm_X8_workLine.slots) E 3 M kc ks 134 [(0, .ref x0)] []) : ∀ n M x0 x2, l_X8_workLine_116 P K124 K134 n M x0 x2 → J p l e rm_X8_workLine s m args below meth c (QI below E P args s rm_X8_workLine.cells rm_X8_workLine.slots) E 3 M kc ks 116 [(0, .ref x0), (2, .int x2)] [] := by
  intro n
  induction n with
  | zero => intro M x0 x2 h; exact h.elim
  | succ n ih =>
    intro M x0 x2 h
    rw [l_X8_workLine_116] at h
    refine j_aload_n (pc := 116) C 0 dX8_workLine_116 rfl ?_
    refine j_iload_n (pc := 117) C 1 dX8_workLine_117 rfl ?_
    refine cs_X8_139 (pc := 118) C ⟨Nat.le_of_ble_eq_true rfl, Nat.le_of_ble_eq_true rfl⟩ hkc (Nat.le_of_ble_eq_true rfl) dX8_workLine_118 h (fun r11 M11 h => ?_)
    refine j_if_ne (pc := 121) C 126 dX8_workLine_121 (by decide) h (fun h => ?_) (fun h => ?_)
    · refine j_aload_n (pc := 126) C 0 dX8_workLine_126 rfl ?_
      refine gf_X8_90 (pc := 127) C dX8_workLine_127 h (fun h => ?_)
      refine j_iconst (pc := 130) (v := (1 : Int32)) C dX8_workLine_130 rfl ?_
      refine j_icmp_eq (pc := 131) C 116 dX8_workLine_131 (by decide) h (fun h => ?_) (fun h => ?_)
      · exact j_weak [0, 1] rfl (ih _ _ _ h)
      · exact j_weak [0] rfl (k134 _ _ h)
    · exact j_weak [] rfl (k124 _ h)
def w_X8_workLine (M : Mm) (x0 : Nat) (P : Int32 → Mm → Prop) : Prop := (zk M x0 = 8 ∧ ∃ a1, zR M x0 16 = some a1 ∧ zk M a1 = 10 ∧ vp_in (3 : Int32) (zl M a1) ∧ (if (5 : Int32) ≤ (zI M a1 (3 : Int32).toNatClampNeg) then zk M x0 = 8 ∧ w_X8_starts M x0 (5 : Int32) (0 : Int32) (fun r2 M2 => (if r2 = 0 then ((0 : Int32) = 0 ∨ (0 : Int32) = 1) ∧ P (0 : Int32) M2 else zk M2 x0 = 8 ∧ w_X8_nameRead M2 x0 (2 : Int32) (zI M a1 (3 : Int32).toNatClampNeg) (fun r3 M3 => (if r3 = 0 then ((0 : Int32) = 0 ∨ (0 : Int32) = 1) ∧ P (0 : Int32) M3 else zk M3 x0 = 8 ∧ w_X8_lays M3 x0 (((65 : Int32) + ((11 : Int32) * (zI M a1 (3 : Int32).toNatClampNeg))) + (0 : Int32)) (0 : Int32) (9 : Int32) (fun r4 M4 => (if r4 = 0 then ((0 : Int32) = 0 ∨ (0 : Int32) = 1) ∧ P (0 : Int32) M4 else (zk M4 x0 = 8 ∧ ∃ a5, zR M4 x0 16 = some a5 ∧ zk M4 a5 = 10 ∧ vp_in (0 : Int32) (zl M4 a5) ∧ zk M4 x0 = 8 ∧ w_X8_lays M4 x0 (((65 : Int32) + ((11 : Int32) * (zI M a1 (3 : Int32).toNatClampNeg))) + (1 : Int32)) (0 : Int32) ((zI M4 a5 (0 : Int32).toNatClampNeg) - (1 : Int32)) (fun r6 M6 => (if r6 = 0 then ((0 : Int32) = 0 ∨ (0 : Int32) = 1) ∧ P (0 : Int32) M6 else (zk M6 x0 = 8 ∧ ∃ a7, zR M6 x0 16 = some a7 ∧ zk M6 a7 = 10 ∧ vp_in (((65 : Int32) + ((11 : Int32) * (zI M a1 (3 : Int32).toNatClampNeg))) + (1 : Int32)) (zl M6 a7) ∧ (zk M6 x0 = 8 ∧ ∃ a8, zR M6 x0 16 = some a8 ∧ zk M6 a8 = 10 ∧ vp_in (0 : Int32) (zl M6 a8) ∧ zk M6 x0 = 8 ∧ w_X8_lays M6 x0 (((65 : Int32) + ((11 : Int32) * (zI M a1 (3 : Int32).toNatClampNeg))) + (2 : Int32)) (zI M6 a7 (((65 : Int32) + ((11 : Int32) * (zI M a1 (3 : Int32).toNatClampNeg))) + (1 : Int32)).toNatClampNeg) ((zI M6 a8 (0 : Int32).toNatClampNeg) - (1 : Int32)) (fun r9 M9 => (if r9 = 0 then ((0 : Int32) = 0 ∨ (0 : Int32) = 1) ∧ P (0 : Int32) M9 else zk M9 x0 = 8 ∧ w_X8_lays M9 x0 (((65 : Int32) + ((11 : Int32) * (zI M a1 (3 : Int32).toNatClampNeg))) + (3 : Int32)) (0 : Int32) (999 : Int32) (fun r10 M10 => (if r10 = 0 then ((0 : Int32) = 0 ∨ (0 : Int32) = 1) ∧ P (0 : Int32) M10 else (∃ n116, l_X8_workLine_116 P (fun M12 => ((0 : Int32) = 0 ∨ (0 : Int32) = 1) ∧ P (0 : Int32) M12) (fun M13 x0_13 => (zk M13 x0_13 = 8 ∧ ∃ a14, zR M13 x0_13 16 = some a14 ∧ zk M13 a14 = 10 ∧ vp_in (3 : Int32) (zl M13 a14) ∧ zk M13 a14 = 10 ∧ vp_in (3 : Int32) (zl M13 a14) ∧ (∀ M15, M15 = sI M13 a14 (3 : Int32).toNatClampNeg ((zI M13 a14 (3 : Int32).toNatClampNeg) + (1 : Int32)) → ((1 : Int32) = 0 ∨ (1 : Int32) = 1) ∧ P (1 : Int32) M15))) n116 M10 x0 ((65 : Int32) + ((11 : Int32) * (zI M a1 (3 : Int32).toNatClampNeg))))))))))))))))))) else zk M x0 = 8 ∧ w_X8_starts M x0 (5 : Int32) (1 : Int32) (fun r16 M16 => (if r16 = 0 then ((0 : Int32) = 0 ∨ (0 : Int32) = 1) ∧ P (0 : Int32) M16 else zk M16 x0 = 8 ∧ w_X8_nameRead M16 x0 (2 : Int32) (zI M a1 (3 : Int32).toNatClampNeg) (fun r17 M17 => (if r17 = 0 then ((0 : Int32) = 0 ∨ (0 : Int32) = 1) ∧ P (0 : Int32) M17 else zk M17 x0 = 8 ∧ w_X8_lays M17 x0 (((65 : Int32) + ((11 : Int32) * (zI M a1 (3 : Int32).toNatClampNeg))) + (0 : Int32)) (0 : Int32) (9 : Int32) (fun r18 M18 => (if r18 = 0 then ((0 : Int32) = 0 ∨ (0 : Int32) = 1) ∧ P (0 : Int32) M18 else (zk M18 x0 = 8 ∧ ∃ a19, zR M18 x0 16 = some a19 ∧ zk M18 a19 = 10 ∧ vp_in (0 : Int32) (zl M18 a19) ∧ zk M18 x0 = 8 ∧ w_X8_lays M18 x0 (((65 : Int32) + ((11 : Int32) * (zI M a1 (3 : Int32).toNatClampNeg))) + (1 : Int32)) (0 : Int32) ((zI M18 a19 (0 : Int32).toNatClampNeg) - (1 : Int32)) (fun r20 M20 => (if r20 = 0 then ((0 : Int32) = 0 ∨ (0 : Int32) = 1) ∧ P (0 : Int32) M20 else (zk M20 x0 = 8 ∧ ∃ a21, zR M20 x0 16 = some a21 ∧ zk M20 a21 = 10 ∧ vp_in (((65 : Int32) + ((11 : Int32) * (zI M a1 (3 : Int32).toNatClampNeg))) + (1 : Int32)) (zl M20 a21) ∧ (zk M20 x0 = 8 ∧ ∃ a22, zR M20 x0 16 = some a22 ∧ zk M20 a22 = 10 ∧ vp_in (0 : Int32) (zl M20 a22) ∧ zk M20 x0 = 8 ∧ w_X8_lays M20 x0 (((65 : Int32) + ((11 : Int32) * (zI M a1 (3 : Int32).toNatClampNeg))) + (2 : Int32)) (zI M20 a21 (((65 : Int32) + ((11 : Int32) * (zI M a1 (3 : Int32).toNatClampNeg))) + (1 : Int32)).toNatClampNeg) ((zI M20 a22 (0 : Int32).toNatClampNeg) - (1 : Int32)) (fun r23 M23 => (if r23 = 0 then ((0 : Int32) = 0 ∨ (0 : Int32) = 1) ∧ P (0 : Int32) M23 else zk M23 x0 = 8 ∧ w_X8_lays M23 x0 (((65 : Int32) + ((11 : Int32) * (zI M a1 (3 : Int32).toNatClampNeg))) + (3 : Int32)) (0 : Int32) (999 : Int32) (fun r24 M24 => (if r24 = 0 then ((0 : Int32) = 0 ∨ (0 : Int32) = 1) ∧ P (0 : Int32) M24 else (∃ n116, l_X8_workLine_116 P (fun M25 => ((0 : Int32) = 0 ∨ (0 : Int32) = 1) ∧ P (0 : Int32) M25) (fun M26 x0_26 => (zk M26 x0_26 = 8 ∧ ∃ a27, zR M26 x0_26 16 = some a27 ∧ zk M26 a27 = 10 ∧ vp_in (3 : Int32) (zl M26 a27) ∧ zk M26 a27 = 10 ∧ vp_in (3 : Int32) (zl M26 a27) ∧ (∀ M28, M28 = sI M26 a27 (3 : Int32).toNatClampNeg ((zI M26 a27 (3 : Int32).toNatClampNeg) + (1 : Int32)) → ((1 : Int32) = 0 ∨ (1 : Int32) = 1) ∧ P (1 : Int32) M28))) n116 M24 x0 ((65 : Int32) + ((11 : Int32) * (zI M a1 (3 : Int32).toNatClampNeg)))))))))))))))))))))
set_option maxHeartbeats 4000000 in
set_option maxRecDepth 100000 in
theorem c_X8_workLine (l : Launch) (E : EV) (M : Mm) (x0 : Nat) (P : Int32 → Mm → Prop) (h : w_X8_workLine M x0 P) : CtI l E yX8_workLine cX8_workLine 3 .boolean rm_X8_workLine 0 0 [.ref x0] M P := by
  refine ctI_of (by decide +kernel) (Nat.le_of_ble_eq_true rfl) ?_
  intro p e s m args below meth c C
  rw [w_X8_workLine] at h
  show J p l e rm_X8_workLine s m args below meth c (QI below E P args s 0 0) E 3 M 0 0 0 [(0, .ref x0)] []
  refine j_aload_n (pc := 0) C 0 dX8_workLine_0 rfl ?_
  refine gf_X8_28 (pc := 1) C dX8_workLine_1 h (fun a1 h => ?_)
  refine j_iconst (pc := 4) (v := (3 : Int32)) C dX8_workLine_4 rfl ?_
  refine j_iald (pc := 5) C dX8_workLine_5 h (fun h => ?_)
  refine j_istore_n (pc := 6) C [(1, _), (0, _)] dX8_workLine_6 (by decide) rfl ?_
  refine j_bipush (pc := 7) (v := (65 : Int32)) C dX8_workLine_7 rfl ?_
  refine j_bipush (pc := 9) (v := (11 : Int32)) C dX8_workLine_9 rfl ?_
  refine j_iload_n (pc := 11) C 0 dX8_workLine_11 rfl ?_
  refine j_imul (pc := 12) C dX8_workLine_12 ?_
  refine j_iadd (pc := 13) C dX8_workLine_13 ?_
  refine j_istore_n (pc := 14) C [(2, _), (1, _), (0, _)] dX8_workLine_14 (by decide) rfl ?_
  refine j_aload_n (pc := 15) C 2 dX8_workLine_15 rfl ?_
  refine j_iconst (pc := 16) (v := (5 : Int32)) C dX8_workLine_16 rfl ?_
  refine j_iload_n (pc := 17) C 1 dX8_workLine_17 rfl ?_
  refine j_iconst (pc := 18) (v := (5 : Int32)) C dX8_workLine_18 rfl ?_
  refine j_icmp_ge (pc := 19) C 26 dX8_workLine_19 (by decide) h (fun h => ?_) (fun h => ?_)
  · refine j_iconst (pc := 26) (v := (0 : Int32)) C dX8_workLine_26 rfl ?_
    refine cs_X8_122 (pc := 27) C ⟨Nat.le_of_ble_eq_true rfl, Nat.le_of_ble_eq_true rfl⟩ ⟨Nat.le_of_ble_eq_true rfl, Nat.le_of_ble_eq_true rfl⟩ (Nat.le_of_ble_eq_true rfl) dX8_workLine_27 h (fun r2 M2 h => ?_)
    refine j_if_eq (pc := 30) C 114 dX8_workLine_30 (by decide) h (fun h => ?_) (fun h => ?_)
    · refine j_iconst (pc := 114) (v := (0 : Int32)) C dX8_workLine_114 rfl ?_
      exact j_zret (pc := 115) C dX8_workLine_115 (Nat.le_of_ble_eq_true rfl) (Nat.le_of_ble_eq_true rfl) h
    · refine j_aload_n (pc := 33) C 2 dX8_workLine_33 rfl ?_
      refine j_iconst (pc := 34) (v := (2 : Int32)) C dX8_workLine_34 rfl ?_
      refine j_iload_n (pc := 35) C 1 dX8_workLine_35 rfl ?_
      refine cs_X8_130 (pc := 36) C ⟨Nat.le_of_ble_eq_true rfl, Nat.le_of_ble_eq_true rfl⟩ ⟨Nat.le_of_ble_eq_true rfl, Nat.le_of_ble_eq_true rfl⟩ (Nat.le_of_ble_eq_true rfl) dX8_workLine_36 h (fun r3 M3 h => ?_)
      refine j_if_eq (pc := 39) C 114 dX8_workLine_39 (by decide) h (fun h => ?_) (fun h => ?_)
      · refine j_iconst (pc := 114) (v := (0 : Int32)) C dX8_workLine_114 rfl ?_
        exact j_zret (pc := 115) C dX8_workLine_115 (Nat.le_of_ble_eq_true rfl) (Nat.le_of_ble_eq_true rfl) h
      · refine j_aload_n (pc := 42) C 2 dX8_workLine_42 rfl ?_
        refine j_iload_n (pc := 43) C 0 dX8_workLine_43 rfl ?_
        refine j_iconst (pc := 44) (v := (0 : Int32)) C dX8_workLine_44 rfl ?_
        refine j_iadd (pc := 45) C dX8_workLine_45 ?_
        refine j_iconst (pc := 46) (v := (0 : Int32)) C dX8_workLine_46 rfl ?_
        refine j_bipush (pc := 47) (v := (9 : Int32)) C dX8_workLine_47 rfl ?_
        refine cs_X8_133 (pc := 49) C ⟨Nat.le_of_ble_eq_true rfl, Nat.le_of_ble_eq_true rfl⟩ ⟨Nat.le_of_ble_eq_true rfl, Nat.le_of_ble_eq_true rfl⟩ (Nat.le_of_ble_eq_true rfl) dX8_workLine_49 h (fun r4 M4 h => ?_)
        refine j_if_eq (pc := 52) C 114 dX8_workLine_52 (by decide) h (fun h => ?_) (fun h => ?_)
        · refine j_iconst (pc := 114) (v := (0 : Int32)) C dX8_workLine_114 rfl ?_
          exact j_zret (pc := 115) C dX8_workLine_115 (Nat.le_of_ble_eq_true rfl) (Nat.le_of_ble_eq_true rfl) h
        · refine j_aload_n (pc := 55) C 2 dX8_workLine_55 rfl ?_
          refine j_iload_n (pc := 56) C 0 dX8_workLine_56 rfl ?_
          refine j_iconst (pc := 57) (v := (1 : Int32)) C dX8_workLine_57 rfl ?_
          refine j_iadd (pc := 58) C dX8_workLine_58 ?_
          refine j_iconst (pc := 59) (v := (0 : Int32)) C dX8_workLine_59 rfl ?_
          refine j_aload_n (pc := 60) C 2 dX8_workLine_60 rfl ?_
          refine gf_X8_28 (pc := 61) C dX8_workLine_61 h (fun a5 h => ?_)
          refine j_iconst (pc := 64) (v := (0 : Int32)) C dX8_workLine_64 rfl ?_
          refine j_iald (pc := 65) C dX8_workLine_65 h (fun h => ?_)
          refine j_iconst (pc := 66) (v := (1 : Int32)) C dX8_workLine_66 rfl ?_
          refine j_isub (pc := 67) C dX8_workLine_67 ?_
          refine cs_X8_133 (pc := 68) C ⟨Nat.le_of_ble_eq_true rfl, Nat.le_of_ble_eq_true rfl⟩ ⟨Nat.le_of_ble_eq_true rfl, Nat.le_of_ble_eq_true rfl⟩ (Nat.le_of_ble_eq_true rfl) dX8_workLine_68 h (fun r6 M6 h => ?_)
          refine j_if_eq (pc := 71) C 114 dX8_workLine_71 (by decide) h (fun h => ?_) (fun h => ?_)
          · refine j_iconst (pc := 114) (v := (0 : Int32)) C dX8_workLine_114 rfl ?_
            exact j_zret (pc := 115) C dX8_workLine_115 (Nat.le_of_ble_eq_true rfl) (Nat.le_of_ble_eq_true rfl) h
          · refine j_aload_n (pc := 74) C 2 dX8_workLine_74 rfl ?_
            refine j_iload_n (pc := 75) C 0 dX8_workLine_75 rfl ?_
            refine j_iconst (pc := 76) (v := (2 : Int32)) C dX8_workLine_76 rfl ?_
            refine j_iadd (pc := 77) C dX8_workLine_77 ?_
            refine j_aload_n (pc := 78) C 2 dX8_workLine_78 rfl ?_
            refine gf_X8_28 (pc := 79) C dX8_workLine_79 h (fun a7 h => ?_)
            refine j_iload_n (pc := 82) C 0 dX8_workLine_82 rfl ?_
            refine j_iconst (pc := 83) (v := (1 : Int32)) C dX8_workLine_83 rfl ?_
            refine j_iadd (pc := 84) C dX8_workLine_84 ?_
            refine j_iald (pc := 85) C dX8_workLine_85 h (fun h => ?_)
            refine j_aload_n (pc := 86) C 2 dX8_workLine_86 rfl ?_
            refine gf_X8_28 (pc := 87) C dX8_workLine_87 h (fun a8 h => ?_)
            refine j_iconst (pc := 90) (v := (0 : Int32)) C dX8_workLine_90 rfl ?_
            refine j_iald (pc := 91) C dX8_workLine_91 h (fun h => ?_)
            refine j_iconst (pc := 92) (v := (1 : Int32)) C dX8_workLine_92 rfl ?_
            refine j_isub (pc := 93) C dX8_workLine_93 ?_
            refine cs_X8_133 (pc := 94) C ⟨Nat.le_of_ble_eq_true rfl, Nat.le_of_ble_eq_true rfl⟩ ⟨Nat.le_of_ble_eq_true rfl, Nat.le_of_ble_eq_true rfl⟩ (Nat.le_of_ble_eq_true rfl) dX8_workLine_94 h (fun r9 M9 h => ?_)
            refine j_if_eq (pc := 97) C 114 dX8_workLine_97 (by decide) h (fun h => ?_) (fun h => ?_)
            · refine j_iconst (pc := 114) (v := (0 : Int32)) C dX8_workLine_114 rfl ?_
              exact j_zret (pc := 115) C dX8_workLine_115 (Nat.le_of_ble_eq_true rfl) (Nat.le_of_ble_eq_true rfl) h
            · refine j_aload_n (pc := 100) C 2 dX8_workLine_100 rfl ?_
              refine j_iload_n (pc := 101) C 0 dX8_workLine_101 rfl ?_
              refine j_iconst (pc := 102) (v := (3 : Int32)) C dX8_workLine_102 rfl ?_
              refine j_iadd (pc := 103) C dX8_workLine_103 ?_
              refine j_iconst (pc := 104) (v := (0 : Int32)) C dX8_workLine_104 rfl ?_
              refine j_sipush (pc := 105) (v := (999 : Int32)) C dX8_workLine_105 rfl ?_
              refine cs_X8_133 (pc := 108) C ⟨Nat.le_of_ble_eq_true rfl, Nat.le_of_ble_eq_true rfl⟩ ⟨Nat.le_of_ble_eq_true rfl, Nat.le_of_ble_eq_true rfl⟩ (Nat.le_of_ble_eq_true rfl) dX8_workLine_108 h (fun r10 M10 h => ?_)
              refine j_if_ne (pc := 111) C 116 dX8_workLine_111 (by decide) h (fun h => ?_) (fun h => ?_)
              · obtain ⟨n116, h⟩ := h
                refine j_weak [2, 0] rfl (jl_X8_workLine_116 C ⟨Nat.le_of_ble_eq_true rfl, Nat.le_of_ble_eq_true rfl⟩ (fun M12 h => ?_) (fun M13 x0_13 h => ?_) n116 _ _ _ h)
                · refine j_iconst (pc := 124) (v := (0 : Int32)) C dX8_workLine_124 rfl ?_
                  exact j_zret (pc := 125) C dX8_workLine_125 (Nat.le_of_ble_eq_true rfl) (Nat.le_of_ble_eq_true rfl) h
                · refine j_aload_n (pc := 134) C 0 dX8_workLine_134 rfl ?_
                  refine gf_X8_28 (pc := 135) C dX8_workLine_135 h (fun a14 h => ?_)
                  refine j_iconst (pc := 138) (v := (3 : Int32)) C dX8_workLine_138 rfl ?_
                  refine j_dup2 (pc := 139) C dX8_workLine_139 rfl rfl ?_
                  refine j_iald (pc := 140) C dX8_workLine_140 h (fun h => ?_)
                  refine j_iconst (pc := 141) (v := (1 : Int32)) C dX8_workLine_141 rfl ?_
                  refine j_iadd (pc := 142) C dX8_workLine_142 ?_
                  refine n_iast (pc := 143) C dX8_workLine_143 h (fun M15 h => ?_)
                  refine j_iconst (pc := 144) (v := (1 : Int32)) C dX8_workLine_144 rfl ?_
                  exact j_zret (pc := 145) C dX8_workLine_145 (Nat.le_of_ble_eq_true rfl) (Nat.le_of_ble_eq_true rfl) h
              · refine j_iconst (pc := 114) (v := (0 : Int32)) C dX8_workLine_114 rfl ?_
                exact j_zret (pc := 115) C dX8_workLine_115 (Nat.le_of_ble_eq_true rfl) (Nat.le_of_ble_eq_true rfl) h
  · refine j_iconst (pc := 22) (v := (1 : Int32)) C dX8_workLine_22 rfl ?_
    refine j_goto (pc := 23) C 27 dX8_workLine_23 (by decide) ?_
    refine cs_X8_122 (pc := 27) C ⟨Nat.le_of_ble_eq_true rfl, Nat.le_of_ble_eq_true rfl⟩ ⟨Nat.le_of_ble_eq_true rfl, Nat.le_of_ble_eq_true rfl⟩ (Nat.le_of_ble_eq_true rfl) dX8_workLine_27 h (fun r16 M16 h => ?_)
    refine j_if_eq (pc := 30) C 114 dX8_workLine_30 (by decide) h (fun h => ?_) (fun h => ?_)
    · refine j_iconst (pc := 114) (v := (0 : Int32)) C dX8_workLine_114 rfl ?_
      exact j_zret (pc := 115) C dX8_workLine_115 (Nat.le_of_ble_eq_true rfl) (Nat.le_of_ble_eq_true rfl) h
    · refine j_aload_n (pc := 33) C 2 dX8_workLine_33 rfl ?_
      refine j_iconst (pc := 34) (v := (2 : Int32)) C dX8_workLine_34 rfl ?_
      refine j_iload_n (pc := 35) C 1 dX8_workLine_35 rfl ?_
      refine cs_X8_130 (pc := 36) C ⟨Nat.le_of_ble_eq_true rfl, Nat.le_of_ble_eq_true rfl⟩ ⟨Nat.le_of_ble_eq_true rfl, Nat.le_of_ble_eq_true rfl⟩ (Nat.le_of_ble_eq_true rfl) dX8_workLine_36 h (fun r17 M17 h => ?_)
      refine j_if_eq (pc := 39) C 114 dX8_workLine_39 (by decide) h (fun h => ?_) (fun h => ?_)
      · refine j_iconst (pc := 114) (v := (0 : Int32)) C dX8_workLine_114 rfl ?_
        exact j_zret (pc := 115) C dX8_workLine_115 (Nat.le_of_ble_eq_true rfl) (Nat.le_of_ble_eq_true rfl) h
      · refine j_aload_n (pc := 42) C 2 dX8_workLine_42 rfl ?_
        refine j_iload_n (pc := 43) C 0 dX8_workLine_43 rfl ?_
        refine j_iconst (pc := 44) (v := (0 : Int32)) C dX8_workLine_44 rfl ?_
        refine j_iadd (pc := 45) C dX8_workLine_45 ?_
        refine j_iconst (pc := 46) (v := (0 : Int32)) C dX8_workLine_46 rfl ?_
        refine j_bipush (pc := 47) (v := (9 : Int32)) C dX8_workLine_47 rfl ?_
        refine cs_X8_133 (pc := 49) C ⟨Nat.le_of_ble_eq_true rfl, Nat.le_of_ble_eq_true rfl⟩ ⟨Nat.le_of_ble_eq_true rfl, Nat.le_of_ble_eq_true rfl⟩ (Nat.le_of_ble_eq_true rfl) dX8_workLine_49 h (fun r18 M18 h => ?_)
        refine j_if_eq (pc := 52) C 114 dX8_workLine_52 (by decide) h (fun h => ?_) (fun h => ?_)
        · refine j_iconst (pc := 114) (v := (0 : Int32)) C dX8_workLine_114 rfl ?_
          exact j_zret (pc := 115) C dX8_workLine_115 (Nat.le_of_ble_eq_true rfl) (Nat.le_of_ble_eq_true rfl) h
        · refine j_aload_n (pc := 55) C 2 dX8_workLine_55 rfl ?_
          refine j_iload_n (pc := 56) C 0 dX8_workLine_56 rfl ?_
          refine j_iconst (pc := 57) (v := (1 : Int32)) C dX8_workLine_57 rfl ?_
          refine j_iadd (pc := 58) C dX8_workLine_58 ?_
          refine j_iconst (pc := 59) (v := (0 : Int32)) C dX8_workLine_59 rfl ?_
          refine j_aload_n (pc := 60) C 2 dX8_workLine_60 rfl ?_
          refine gf_X8_28 (pc := 61) C dX8_workLine_61 h (fun a19 h => ?_)
          refine j_iconst (pc := 64) (v := (0 : Int32)) C dX8_workLine_64 rfl ?_
          refine j_iald (pc := 65) C dX8_workLine_65 h (fun h => ?_)
          refine j_iconst (pc := 66) (v := (1 : Int32)) C dX8_workLine_66 rfl ?_
          refine j_isub (pc := 67) C dX8_workLine_67 ?_
          refine cs_X8_133 (pc := 68) C ⟨Nat.le_of_ble_eq_true rfl, Nat.le_of_ble_eq_true rfl⟩ ⟨Nat.le_of_ble_eq_true rfl, Nat.le_of_ble_eq_true rfl⟩ (Nat.le_of_ble_eq_true rfl) dX8_workLine_68 h (fun r20 M20 h => ?_)
          refine j_if_eq (pc := 71) C 114 dX8_workLine_71 (by decide) h (fun h => ?_) (fun h => ?_)
          · refine j_iconst (pc := 114) (v := (0 : Int32)) C dX8_workLine_114 rfl ?_
            exact j_zret (pc := 115) C dX8_workLine_115 (Nat.le_of_ble_eq_true rfl) (Nat.le_of_ble_eq_true rfl) h
          · refine j_aload_n (pc := 74) C 2 dX8_workLine_74 rfl ?_
            refine j_iload_n (pc := 75) C 0 dX8_workLine_75 rfl ?_
            refine j_iconst (pc := 76) (v := (2 : Int32)) C dX8_workLine_76 rfl ?_
            refine j_iadd (pc := 77) C dX8_workLine_77 ?_
            refine j_aload_n (pc := 78) C 2 dX8_workLine_78 rfl ?_
            refine gf_X8_28 (pc := 79) C dX8_workLine_79 h (fun a21 h => ?_)
            refine j_iload_n (pc := 82) C 0 dX8_workLine_82 rfl ?_
            refine j_iconst (pc := 83) (v := (1 : Int32)) C dX8_workLine_83 rfl ?_
            refine j_iadd (pc := 84) C dX8_workLine_84 ?_
            refine j_iald (pc := 85) C dX8_workLine_85 h (fun h => ?_)
            refine j_aload_n (pc := 86) C 2 dX8_workLine_86 rfl ?_
            refine gf_X8_28 (pc := 87) C dX8_workLine_87 h (fun a22 h => ?_)
            refine j_iconst (pc := 90) (v := (0 : Int32)) C dX8_workLine_90 rfl ?_
            refine j_iald (pc := 91) C dX8_workLine_91 h (fun h => ?_)
            refine j_iconst (pc := 92) (v := (1 : Int32)) C dX8_workLine_92 rfl ?_
            refine j_isub (pc := 93) C dX8_workLine_93 ?_
            refine cs_X8_133 (pc := 94) C ⟨Nat.le_of_ble_eq_true rfl, Nat.le_of_ble_eq_true rfl⟩ ⟨Nat.le_of_ble_eq_true rfl, Nat.le_of_ble_eq_true rfl⟩ (Nat.le_of_ble_eq_true rfl) dX8_workLine_94 h (fun r23 M23 h => ?_)
            refine j_if_eq (pc := 97) C 114 dX8_workLine_97 (by decide) h (fun h => ?_) (fun h => ?_)
            · refine j_iconst (pc := 114) (v := (0 : Int32)) C dX8_workLine_114 rfl ?_
              exact j_zret (pc := 115) C dX8_workLine_115 (Nat.le_of_ble_eq_true rfl) (Nat.le_of_ble_eq_true rfl) h
            · refine j_aload_n (pc := 100) C 2 dX8_workLine_100 rfl ?_
              refine j_iload_n (pc := 101) C 0 dX8_workLine_101 rfl ?_
              refine j_iconst (pc := 102) (v := (3 : Int32)) C dX8_workLine_102 rfl ?_
              refine j_iadd (pc := 103) C dX8_workLine_103 ?_
              refine j_iconst (pc := 104) (v := (0 : Int32)) C dX8_workLine_104 rfl ?_
              refine j_sipush (pc := 105) (v := (999 : Int32)) C dX8_workLine_105 rfl ?_
              refine cs_X8_133 (pc := 108) C ⟨Nat.le_of_ble_eq_true rfl, Nat.le_of_ble_eq_true rfl⟩ ⟨Nat.le_of_ble_eq_true rfl, Nat.le_of_ble_eq_true rfl⟩ (Nat.le_of_ble_eq_true rfl) dX8_workLine_108 h (fun r24 M24 h => ?_)
              refine j_if_ne (pc := 111) C 116 dX8_workLine_111 (by decide) h (fun h => ?_) (fun h => ?_)
              · obtain ⟨n116, h⟩ := h
                refine j_weak [2, 0] rfl (jl_X8_workLine_116 C ⟨Nat.le_of_ble_eq_true rfl, Nat.le_of_ble_eq_true rfl⟩ (fun M25 h => ?_) (fun M26 x0_26 h => ?_) n116 _ _ _ h)
                · refine j_iconst (pc := 124) (v := (0 : Int32)) C dX8_workLine_124 rfl ?_
                  exact j_zret (pc := 125) C dX8_workLine_125 (Nat.le_of_ble_eq_true rfl) (Nat.le_of_ble_eq_true rfl) h
                · refine j_aload_n (pc := 134) C 0 dX8_workLine_134 rfl ?_
                  refine gf_X8_28 (pc := 135) C dX8_workLine_135 h (fun a27 h => ?_)
                  refine j_iconst (pc := 138) (v := (3 : Int32)) C dX8_workLine_138 rfl ?_
                  refine j_dup2 (pc := 139) C dX8_workLine_139 rfl rfl ?_
                  refine j_iald (pc := 140) C dX8_workLine_140 h (fun h => ?_)
                  refine j_iconst (pc := 141) (v := (1 : Int32)) C dX8_workLine_141 rfl ?_
                  refine j_iadd (pc := 142) C dX8_workLine_142 ?_
                  refine n_iast (pc := 143) C dX8_workLine_143 h (fun M28 h => ?_)
                  refine j_iconst (pc := 144) (v := (1 : Int32)) C dX8_workLine_144 rfl ?_
                  exact j_zret (pc := 145) C dX8_workLine_145 (Nat.le_of_ble_eq_true rfl) (Nat.le_of_ble_eq_true rfl) h
              · refine j_iconst (pc := 114) (v := (0 : Int32)) C dX8_workLine_114 rfl ?_
                exact j_zret (pc := 115) C dX8_workLine_115 (Nat.le_of_ble_eq_true rfl) (Nat.le_of_ble_eq_true rfl) h
abbrev rm_X8_doubleLine : Room := { frames := 5, cells := 0, slots := 0, locals := 108 }
def w_X8_doubleLine (M : Mm) (x0 : Nat) (P : Int32 → Mm → Prop) : Prop := zk M x0 = 8 ∧ (if (zI M x0 15) = 0 then zk M x0 = 8 ∧ w_X8_starts M x0 (2 : Int32) (1 : Int32) (fun r4 M4 => (if r4 = 0 then ((0 : Int32) = 0 ∨ (0 : Int32) = 1) ∧ P (0 : Int32) M4 else zk M4 x0 = 8 ∧ ((1 : Int32) = 0 ∨ (1 : Int32) = 1) ∧ (∀ M5, M5 = sI M4 x0 15 (1 : Int32) → zk M5 x0 = 8 ∧ w_X8_lays M5 x0 (5 : Int32) (0 : Int32) (999 : Int32) (fun r6 M6 => (r6 = 0 ∨ r6 = 1) ∧ P r6 M6)))) else zk M x0 = 8 ∧ w_X8_starts M x0 (2 : Int32) (0 : Int32) (fun r1 M1 => (if r1 = 0 then ((0 : Int32) = 0 ∨ (0 : Int32) = 1) ∧ P (0 : Int32) M1 else zk M1 x0 = 8 ∧ ((1 : Int32) = 0 ∨ (1 : Int32) = 1) ∧ (∀ M2, M2 = sI M1 x0 15 (1 : Int32) → zk M2 x0 = 8 ∧ w_X8_lays M2 x0 (5 : Int32) (0 : Int32) (999 : Int32) (fun r3 M3 => (r3 = 0 ∨ r3 = 1) ∧ P r3 M3)))))
set_option maxHeartbeats 4000000 in
set_option maxRecDepth 100000 in
theorem c_X8_doubleLine (l : Launch) (E : EV) (M : Mm) (x0 : Nat) (P : Int32 → Mm → Prop) (h : w_X8_doubleLine M x0 P) : CtI l E yX8_doubleLine cX8_doubleLine 1 .boolean rm_X8_doubleLine 0 0 [.ref x0] M P := by
  refine ctI_of (by decide +kernel) (Nat.le_of_ble_eq_true rfl) ?_
  intro p e s m args below meth c C
  rw [w_X8_doubleLine] at h
  show J p l e rm_X8_doubleLine s m args below meth c (QI below E P args s 0 0) E 1 M 0 0 0 [(0, .ref x0)] []
  refine j_aload_n (pc := 0) C 0 dX8_doubleLine_0 rfl ?_
  refine j_iconst (pc := 1) (v := (2 : Int32)) C dX8_doubleLine_1 rfl ?_
  refine j_aload_n (pc := 2) C 0 dX8_doubleLine_2 rfl ?_
  refine gf_X8_142 (pc := 3) C dX8_doubleLine_3 h (fun h => ?_)
  refine j_if_ne (pc := 6) C 13 dX8_doubleLine_6 (by decide) h (fun h => ?_) (fun h => ?_)
  · refine j_iconst (pc := 13) (v := (0 : Int32)) C dX8_doubleLine_13 rfl ?_
    refine cs_X8_122 (pc := 14) C ⟨Nat.le_of_ble_eq_true rfl, Nat.le_of_ble_eq_true rfl⟩ ⟨Nat.le_of_ble_eq_true rfl, Nat.le_of_ble_eq_true rfl⟩ (Nat.le_of_ble_eq_true rfl) dX8_doubleLine_14 h (fun r1 M1 h => ?_)
    refine j_if_ne (pc := 17) C 22 dX8_doubleLine_17 (by decide) h (fun h => ?_) (fun h => ?_)
    · refine j_aload_n (pc := 22) C 0 dX8_doubleLine_22 rfl ?_
      refine j_iconst (pc := 23) (v := (1 : Int32)) C dX8_doubleLine_23 rfl ?_
      refine pf_X8_142 (pc := 24) C dX8_doubleLine_24 h (fun M2 h => ?_)
      refine j_aload_n (pc := 27) C 0 dX8_doubleLine_27 rfl ?_
      refine j_iconst (pc := 28) (v := (5 : Int32)) C dX8_doubleLine_28 rfl ?_
      refine j_iconst (pc := 29) (v := (0 : Int32)) C dX8_doubleLine_29 rfl ?_
      refine j_sipush (pc := 30) (v := (999 : Int32)) C dX8_doubleLine_30 rfl ?_
      refine cs_X8_133 (pc := 33) C ⟨Nat.le_of_ble_eq_true rfl, Nat.le_of_ble_eq_true rfl⟩ ⟨Nat.le_of_ble_eq_true rfl, Nat.le_of_ble_eq_true rfl⟩ (Nat.le_of_ble_eq_true rfl) dX8_doubleLine_33 h (fun r3 M3 h => ?_)
      exact j_zret (pc := 36) C dX8_doubleLine_36 (Nat.le_of_ble_eq_true rfl) (Nat.le_of_ble_eq_true rfl) h
    · refine j_iconst (pc := 20) (v := (0 : Int32)) C dX8_doubleLine_20 rfl ?_
      exact j_zret (pc := 21) C dX8_doubleLine_21 (Nat.le_of_ble_eq_true rfl) (Nat.le_of_ble_eq_true rfl) h
  · refine j_iconst (pc := 9) (v := (1 : Int32)) C dX8_doubleLine_9 rfl ?_
    refine j_goto (pc := 10) C 14 dX8_doubleLine_10 (by decide) ?_
    refine cs_X8_122 (pc := 14) C ⟨Nat.le_of_ble_eq_true rfl, Nat.le_of_ble_eq_true rfl⟩ ⟨Nat.le_of_ble_eq_true rfl, Nat.le_of_ble_eq_true rfl⟩ (Nat.le_of_ble_eq_true rfl) dX8_doubleLine_14 h (fun r4 M4 h => ?_)
    refine j_if_ne (pc := 17) C 22 dX8_doubleLine_17 (by decide) h (fun h => ?_) (fun h => ?_)
    · refine j_aload_n (pc := 22) C 0 dX8_doubleLine_22 rfl ?_
      refine j_iconst (pc := 23) (v := (1 : Int32)) C dX8_doubleLine_23 rfl ?_
      refine pf_X8_142 (pc := 24) C dX8_doubleLine_24 h (fun M5 h => ?_)
      refine j_aload_n (pc := 27) C 0 dX8_doubleLine_27 rfl ?_
      refine j_iconst (pc := 28) (v := (5 : Int32)) C dX8_doubleLine_28 rfl ?_
      refine j_iconst (pc := 29) (v := (0 : Int32)) C dX8_doubleLine_29 rfl ?_
      refine j_sipush (pc := 30) (v := (999 : Int32)) C dX8_doubleLine_30 rfl ?_
      refine cs_X8_133 (pc := 33) C ⟨Nat.le_of_ble_eq_true rfl, Nat.le_of_ble_eq_true rfl⟩ ⟨Nat.le_of_ble_eq_true rfl, Nat.le_of_ble_eq_true rfl⟩ (Nat.le_of_ble_eq_true rfl) dX8_doubleLine_33 h (fun r6 M6 h => ?_)
      exact j_zret (pc := 36) C dX8_doubleLine_36 (Nat.le_of_ble_eq_true rfl) (Nat.le_of_ble_eq_true rfl) h
    · refine j_iconst (pc := 20) (v := (0 : Int32)) C dX8_doubleLine_20 rfl ?_
      exact j_zret (pc := 21) C dX8_doubleLine_21 (Nat.le_of_ble_eq_true rfl) (Nat.le_of_ble_eq_true rfl) h
theorem cs_X8_148 (C : Cx p l s m args meth c cc nL RX8 ret E) {b : Nat} {y0 : Nat} {P : Int32 → Mm → Prop} (hR : rm_X8_isWord.frames + 1 ≤ R.frames ∧ 8 + (4 + 11) + rm_X8_isWord.locals ≤ R.locals) (hf : kc ≤ R.cells ∧ ks ≤ R.slots) (hst : (st.map fun v => v.category).sum ≤ 8) (d : decode cc pc = .ok (.invokevirtual 148, 3)) (h : zk M b = 8 ∧ w_X8_isWord M b y0 P) (kk : ∀ r M', P r M' → J p l e R s m args below meth c Q E nL M' kc ks (pc + 3) lo (.int r :: st)) : J p l e R s m args below meth c Q E nL M kc ks pc lo (.ref (E.2.2.2.1 y0) :: .ref b :: st) :=
  j_cV_I (n := 1) (As := [.ref (E.2.2.2.1 y0)]) C co_X8 rfl wd_1252 wd_44 h.1 (c_X8_isWord l E M b y0 P h.2) ⟨wd_1253, wd_1250, wd_106, by decide +kernel, by decide +kernel, by decide +kernel⟩ rfl rfl hR hf rfl hst d kk
theorem cs_X8_152 (C : Cx p l s m args meth c cc nL RX8 ret E) {b : Nat} {P : Int32 → Mm → Prop} (hR : rm_X8_hallLine.frames + 1 ≤ R.frames ∧ 8 + (2 + 11) + rm_X8_hallLine.locals ≤ R.locals) (hf : kc ≤ R.cells ∧ ks ≤ R.slots) (hst : (st.map fun v => v.category).sum ≤ 8) (d : decode cc pc = .ok (.invokevirtual 152, 3)) (h : zk M b = 8 ∧ w_X8_hallLine M b P) (kk : ∀ r M', P r M' → J p l e R s m args below meth c Q E nL M' kc ks (pc + 3) lo (.int r :: st)) : J p l e R s m args below meth c Q E nL M kc ks pc lo (.ref b :: st) :=
  j_cV_I (n := 0) (As := []) C co_X8 rfl wd_1283 wd_51 h.1 (c_X8_hallLine l E M b P h.2) ⟨wd_1284, wd_1281, wd_106, by decide +kernel, by decide +kernel, by decide +kernel⟩ rfl rfl hR hf rfl hst d kk
theorem cs_X8_158 (C : Cx p l s m args meth c cc nL RX8 ret E) {b : Nat} {P : Int32 → Mm → Prop} (hR : rm_X8_playerLine.frames + 1 ≤ R.frames ∧ 8 + (3 + 11) + rm_X8_playerLine.locals ≤ R.locals) (hf : kc ≤ R.cells ∧ ks ≤ R.slots) (hst : (st.map fun v => v.category).sum ≤ 8) (d : decode cc pc = .ok (.invokevirtual 158, 3)) (h : zk M b = 8 ∧ w_X8_playerLine M b P) (kk : ∀ r M', P r M' → J p l e R s m args below meth c Q E nL M' kc ks (pc + 3) lo (.int r :: st)) : J p l e R s m args below meth c Q E nL M kc ks pc lo (.ref b :: st) :=
  j_cV_I (n := 0) (As := []) C co_X8 rfl wd_1295 wd_53 h.1 (c_X8_playerLine l E M b P h.2) ⟨wd_1296, wd_1293, wd_106, by decide +kernel, by decide +kernel, by decide +kernel⟩ rfl rfl hR hf rfl hst d kk
theorem cs_X8_163 (C : Cx p l s m args meth c cc nL RX8 ret E) {b : Nat} {P : Int32 → Mm → Prop} (hR : rm_X8_absentLine.frames + 1 ≤ R.frames ∧ 8 + (3 + 11) + rm_X8_absentLine.locals ≤ R.locals) (hf : kc ≤ R.cells ∧ ks ≤ R.slots) (hst : (st.map fun v => v.category).sum ≤ 8) (d : decode cc pc = .ok (.invokevirtual 163, 3)) (h : zk M b = 8 ∧ w_X8_absentLine M b P) (kk : ∀ r M', P r M' → J p l e R s m args below meth c Q E nL M' kc ks (pc + 3) lo (.int r :: st)) : J p l e R s m args below meth c Q E nL M kc ks pc lo (.ref b :: st) :=
  j_cV_I (n := 0) (As := []) C co_X8 rfl wd_1304 wd_55 h.1 (c_X8_absentLine l E M b P h.2) ⟨wd_1305, wd_1302, wd_106, by decide +kernel, by decide +kernel, by decide +kernel⟩ rfl rfl hR hf rfl hst d kk
theorem cs_X8_168 (C : Cx p l s m args meth c cc nL RX8 ret E) {b : Nat} {P : Int32 → Mm → Prop} (hR : rm_X8_workLine.frames + 1 ≤ R.frames ∧ 8 + (3 + 11) + rm_X8_workLine.locals ≤ R.locals) (hf : kc ≤ R.cells ∧ ks ≤ R.slots) (hst : (st.map fun v => v.category).sum ≤ 8) (d : decode cc pc = .ok (.invokevirtual 168, 3)) (h : zk M b = 8 ∧ w_X8_workLine M b P) (kk : ∀ r M', P r M' → J p l e R s m args below meth c Q E nL M' kc ks (pc + 3) lo (.int r :: st)) : J p l e R s m args below meth c Q E nL M kc ks pc lo (.ref b :: st) :=
  j_cV_I (n := 0) (As := []) C co_X8 rfl wd_1309 wd_56 h.1 (c_X8_workLine l E M b P h.2) ⟨wd_1310, wd_1307, wd_106, by decide +kernel, by decide +kernel, by decide +kernel⟩ rfl rfl hR hf rfl hst d kk
theorem cs_X8_173 (C : Cx p l s m args meth c cc nL RX8 ret E) {b : Nat} {P : Int32 → Mm → Prop} (hR : rm_X8_doubleLine.frames + 1 ≤ R.frames ∧ 8 + (1 + 11) + rm_X8_doubleLine.locals ≤ R.locals) (hf : kc ≤ R.cells ∧ ks ≤ R.slots) (hst : (st.map fun v => v.category).sum ≤ 8) (d : decode cc pc = .ok (.invokevirtual 173, 3)) (h : zk M b = 8 ∧ w_X8_doubleLine M b P) (kk : ∀ r M', P r M' → J p l e R s m args below meth c Q E nL M' kc ks (pc + 3) lo (.int r :: st)) : J p l e R s m args below meth c Q E nL M kc ks pc lo (.ref b :: st) :=
  j_cV_I (n := 0) (As := []) C co_X8 rfl wd_1318 wd_58 h.1 (c_X8_doubleLine l E M b P h.2) ⟨wd_1319, wd_1316, wd_106, by decide +kernel, by decide +kernel, by decide +kernel⟩ rfl rfl hR hf rfl hst d kk
abbrev rm_X8_statement : Room := { frames := 6, cells := 0, slots := 0, locals := 164 }
def w_X8_statement (M : Mm) (x0 : Nat) (P : Int32 → Mm → Prop) : Prop := zk M x0 = 8 ∧ w_X8_isWord M x0 1 (fun r1 M1 => (if r1 = 0 then zk M1 x0 = 8 ∧ w_X8_isWord M1 x0 2 (fun r2 M2 => (if r2 = 0 then zk M2 x0 = 8 ∧ w_X8_isWord M2 x0 3 (fun r3 M3 => (if r3 = 0 then zk M3 x0 = 8 ∧ w_X8_isWord M3 x0 4 (fun r4 M4 => (if r4 = 0 then zk M4 x0 = 8 ∧ w_X8_isWord M4 x0 5 (fun r5 M5 => (if r5 = 0 then zk M5 x0 = 8 ∧ w_X8_fails M5 x0 (1 : Int32) (fun r6 M6 => (r6 = 0 ∨ r6 = 1) ∧ P r6 M6) else zk M5 x0 = 8 ∧ w_X8_doubleLine M5 x0 (fun r7 M7 => (r7 = 0 ∨ r7 = 1) ∧ P r7 M7))) else zk M4 x0 = 8 ∧ w_X8_workLine M4 x0 (fun r8 M8 => (r8 = 0 ∨ r8 = 1) ∧ P r8 M8))) else zk M3 x0 = 8 ∧ w_X8_absentLine M3 x0 (fun r9 M9 => (r9 = 0 ∨ r9 = 1) ∧ P r9 M9))) else zk M2 x0 = 8 ∧ w_X8_playerLine M2 x0 (fun r10 M10 => (r10 = 0 ∨ r10 = 1) ∧ P r10 M10))) else zk M1 x0 = 8 ∧ w_X8_hallLine M1 x0 (fun r11 M11 => (r11 = 0 ∨ r11 = 1) ∧ P r11 M11)))
set_option maxHeartbeats 4000000 in
set_option maxRecDepth 100000 in
theorem c_X8_statement (l : Launch) (E : EV) (M : Mm) (x0 : Nat) (P : Int32 → Mm → Prop) (h : w_X8_statement M x0 P) : CtI l E yX8_statement cX8_statement 1 .boolean rm_X8_statement 0 0 [.ref x0] M P := by
  refine ctI_of (by decide +kernel) (Nat.le_of_ble_eq_true rfl) ?_
  intro p e s m args below meth c C
  rw [w_X8_statement] at h
  show J p l e rm_X8_statement s m args below meth c (QI below E P args s 0 0) E 1 M 0 0 0 [(0, .ref x0)] []
  refine j_aload_n (pc := 0) C 0 dX8_statement_0 rfl ?_
  refine j_ldcS (pc := 1) (i := 1) C (List.mem_of_getElem? (i := 7) rfl) dX8_statement_1 ?_
  refine cs_X8_148 (pc := 3) C ⟨Nat.le_of_ble_eq_true rfl, Nat.le_of_ble_eq_true rfl⟩ ⟨Nat.le_of_ble_eq_true rfl, Nat.le_of_ble_eq_true rfl⟩ (Nat.le_of_ble_eq_true rfl) dX8_statement_3 h (fun r1 M1 h => ?_)
  refine j_if_eq (pc := 6) C 14 dX8_statement_6 (by decide) h (fun h => ?_) (fun h => ?_)
  · refine j_aload_n (pc := 14) C 0 dX8_statement_14 rfl ?_
    refine j_ldcS (pc := 15) (i := 2) C (List.mem_of_getElem? (i := 8) rfl) dX8_statement_15 ?_
    refine cs_X8_148 (pc := 17) C ⟨Nat.le_of_ble_eq_true rfl, Nat.le_of_ble_eq_true rfl⟩ ⟨Nat.le_of_ble_eq_true rfl, Nat.le_of_ble_eq_true rfl⟩ (Nat.le_of_ble_eq_true rfl) dX8_statement_17 h (fun r2 M2 h => ?_)
    refine j_if_eq (pc := 20) C 28 dX8_statement_20 (by decide) h (fun h => ?_) (fun h => ?_)
    · refine j_aload_n (pc := 28) C 0 dX8_statement_28 rfl ?_
      refine j_ldcS (pc := 29) (i := 3) C (List.mem_of_getElem? (i := 9) rfl) dX8_statement_29 ?_
      refine cs_X8_148 (pc := 31) C ⟨Nat.le_of_ble_eq_true rfl, Nat.le_of_ble_eq_true rfl⟩ ⟨Nat.le_of_ble_eq_true rfl, Nat.le_of_ble_eq_true rfl⟩ (Nat.le_of_ble_eq_true rfl) dX8_statement_31 h (fun r3 M3 h => ?_)
      refine j_if_eq (pc := 34) C 42 dX8_statement_34 (by decide) h (fun h => ?_) (fun h => ?_)
      · refine j_aload_n (pc := 42) C 0 dX8_statement_42 rfl ?_
        refine j_ldcS (pc := 43) (i := 4) C (List.mem_of_getElem? (i := 10) rfl) dX8_statement_43 ?_
        refine cs_X8_148 (pc := 45) C ⟨Nat.le_of_ble_eq_true rfl, Nat.le_of_ble_eq_true rfl⟩ ⟨Nat.le_of_ble_eq_true rfl, Nat.le_of_ble_eq_true rfl⟩ (Nat.le_of_ble_eq_true rfl) dX8_statement_45 h (fun r4 M4 h => ?_)
        refine j_if_eq (pc := 48) C 56 dX8_statement_48 (by decide) h (fun h => ?_) (fun h => ?_)
        · refine j_aload_n (pc := 56) C 0 dX8_statement_56 rfl ?_
          refine j_ldcS (pc := 57) (i := 5) C (List.mem_of_getElem? (i := 11) rfl) dX8_statement_57 ?_
          refine cs_X8_148 (pc := 59) C ⟨Nat.le_of_ble_eq_true rfl, Nat.le_of_ble_eq_true rfl⟩ ⟨Nat.le_of_ble_eq_true rfl, Nat.le_of_ble_eq_true rfl⟩ (Nat.le_of_ble_eq_true rfl) dX8_statement_59 h (fun r5 M5 h => ?_)
          refine j_if_eq (pc := 62) C 72 dX8_statement_62 (by decide) h (fun h => ?_) (fun h => ?_)
          · refine j_aload_n (pc := 72) C 0 dX8_statement_72 rfl ?_
            refine j_iconst (pc := 73) (v := (1 : Int32)) C dX8_statement_73 rfl ?_
            refine cs_X8_108 (pc := 74) C ⟨Nat.le_of_ble_eq_true rfl, Nat.le_of_ble_eq_true rfl⟩ ⟨Nat.le_of_ble_eq_true rfl, Nat.le_of_ble_eq_true rfl⟩ (Nat.le_of_ble_eq_true rfl) dX8_statement_74 h (fun r6 M6 h => ?_)
            exact j_zret (pc := 77) C dX8_statement_77 (Nat.le_of_ble_eq_true rfl) (Nat.le_of_ble_eq_true rfl) h
          · refine j_aload_n (pc := 65) C 0 dX8_statement_65 rfl ?_
            refine cs_X8_173 (pc := 66) C ⟨Nat.le_of_ble_eq_true rfl, Nat.le_of_ble_eq_true rfl⟩ ⟨Nat.le_of_ble_eq_true rfl, Nat.le_of_ble_eq_true rfl⟩ (Nat.le_of_ble_eq_true rfl) dX8_statement_66 h (fun r7 M7 h => ?_)
            refine j_goto (pc := 69) C 77 dX8_statement_69 (by decide) ?_
            exact j_zret (pc := 77) C dX8_statement_77 (Nat.le_of_ble_eq_true rfl) (Nat.le_of_ble_eq_true rfl) h
        · refine j_aload_n (pc := 51) C 0 dX8_statement_51 rfl ?_
          refine cs_X8_168 (pc := 52) C ⟨Nat.le_of_ble_eq_true rfl, Nat.le_of_ble_eq_true rfl⟩ ⟨Nat.le_of_ble_eq_true rfl, Nat.le_of_ble_eq_true rfl⟩ (Nat.le_of_ble_eq_true rfl) dX8_statement_52 h (fun r8 M8 h => ?_)
          exact j_zret (pc := 55) C dX8_statement_55 (Nat.le_of_ble_eq_true rfl) (Nat.le_of_ble_eq_true rfl) h
      · refine j_aload_n (pc := 37) C 0 dX8_statement_37 rfl ?_
        refine cs_X8_163 (pc := 38) C ⟨Nat.le_of_ble_eq_true rfl, Nat.le_of_ble_eq_true rfl⟩ ⟨Nat.le_of_ble_eq_true rfl, Nat.le_of_ble_eq_true rfl⟩ (Nat.le_of_ble_eq_true rfl) dX8_statement_38 h (fun r9 M9 h => ?_)
        exact j_zret (pc := 41) C dX8_statement_41 (Nat.le_of_ble_eq_true rfl) (Nat.le_of_ble_eq_true rfl) h
    · refine j_aload_n (pc := 23) C 0 dX8_statement_23 rfl ?_
      refine cs_X8_158 (pc := 24) C ⟨Nat.le_of_ble_eq_true rfl, Nat.le_of_ble_eq_true rfl⟩ ⟨Nat.le_of_ble_eq_true rfl, Nat.le_of_ble_eq_true rfl⟩ (Nat.le_of_ble_eq_true rfl) dX8_statement_24 h (fun r10 M10 h => ?_)
      exact j_zret (pc := 27) C dX8_statement_27 (Nat.le_of_ble_eq_true rfl) (Nat.le_of_ble_eq_true rfl) h
  · refine j_aload_n (pc := 9) C 0 dX8_statement_9 rfl ?_
    refine cs_X8_152 (pc := 10) C ⟨Nat.le_of_ble_eq_true rfl, Nat.le_of_ble_eq_true rfl⟩ ⟨Nat.le_of_ble_eq_true rfl, Nat.le_of_ble_eq_true rfl⟩ (Nat.le_of_ble_eq_true rfl) dX8_statement_10 h (fun r11 M11 h => ?_)
    exact j_zret (pc := 13) C dX8_statement_13 (Nat.le_of_ble_eq_true rfl) (Nat.le_of_ble_eq_true rfl) h
abbrev rm_X8_takesRead : Room := { frames := 0, cells := 0, slots := 0, locals := 0 }
def l_X8_takesRead_2 (P : Mm → Prop) (K26 : Mm → Nat → Prop) : Nat → Mm → Nat → Int32 → Prop
  | 0, _, _, _ => False
  | n + 1, M, x0, x1 => (if (120 : Int32) ≤ x1 then K26 M x0 else (zk M x0 = 8 ∧ ∃ a1, zR M x0 1 = some a1 ∧ (zk M x0 = 8 ∧ ∃ a2, zR M x0 16 = some a2 ∧ zk M a2 = 10 ∧ vp_in x1 (zl M a2) ∧ zk M a1 = 10 ∧ vp_in x1 (zl M a1) ∧ (∀ M3, M3 = sI M a1 x1.toNatClampNeg (zI M a2 x1.toNatClampNeg) → l_X8_takesRead_2 P K26 n M3 x0 (x1 + (1 : Int32))))))
set_option maxHeartbeats 4000000 in
set_option maxRecDepth 100000 in
theorem jl_X8_takesRead_2 {P : Mm → Prop} {K26 : Mm → Nat → Prop} (C : Cx p l s m args meth c cX8_takesRead 2 RX8 none E) (hkc : kc ≤ rm_X8_takesRead.cells ∧ ks ≤ rm_X8_takesRead.slots) (k26 : ∀ M x0, K26 M x0 → J p l e rm_X8_takesRead s m args below meth c (QV below E P args s rm_X8_takesRead.cells rm_X8_takesRead.slots) E 2 M kc ks 26 [(0, .ref x0)] []) : ∀ n M x0 x1, l_X8_takesRead_2 P K26 n M x0 x1 → J p l e rm_X8_takesRead s m args below meth c (QV below E P args s rm_X8_takesRead.cells rm_X8_takesRead.slots) E 2 M kc ks 2 [(0, .ref x0), (1, .int x1)] [] := by
  intro n
  induction n with
  | zero => intro M x0 x1 h; exact h.elim
  | succ n ih =>
    intro M x0 x1 h
    rw [l_X8_takesRead_2] at h
    refine j_iload_n (pc := 2) C 1 dX8_takesRead_2 rfl ?_
    refine j_bipush (pc := 3) (v := (120 : Int32)) C dX8_takesRead_3 rfl ?_
    refine j_icmp_ge (pc := 5) C 26 dX8_takesRead_5 (by decide) h (fun h => ?_) (fun h => ?_)
    · exact j_weak [0] rfl (k26 _ _ h)
    · refine j_aload_n (pc := 8) C 0 dX8_takesRead_8 rfl ?_
      refine gf_X8_7 (pc := 9) C dX8_takesRead_9 h (fun a1 h => ?_)
      refine j_iload_n (pc := 12) C 1 dX8_takesRead_12 rfl ?_
      refine j_aload_n (pc := 13) C 0 dX8_takesRead_13 rfl ?_
      refine gf_X8_28 (pc := 14) C dX8_takesRead_14 h (fun a2 h => ?_)
      refine j_iload_n (pc := 17) C 1 dX8_takesRead_17 rfl ?_
      refine j_iald (pc := 18) C dX8_takesRead_18 h (fun h => ?_)
      refine n_iast (pc := 19) C dX8_takesRead_19 h (fun M3 h => ?_)
      refine j_iinc (pc := 20) (v := (1 : Int32)) C 1 [(1, _), (0, _)] dX8_takesRead_20 rfl rfl (by decide) rfl ?_
      refine j_goto (pc := 23) C 2 dX8_takesRead_23 (by decide) ?_
      exact j_weak [1, 0] rfl (ih _ _ _ h)
def l_X8_takesRead_28 (P : Mm → Prop) (K52 : Mm → Nat → Prop) : Nat → Mm → Nat → Int32 → Prop
  | 0, _, _, _ => False
  | n + 1, M, x0, x1 => (if (32 : Int32) ≤ x1 then K52 M x0 else (zk M x0 = 8 ∧ ∃ a5, zR M x0 3 = some a5 ∧ (zk M x0 = 8 ∧ ∃ a6, zR M x0 18 = some a6 ∧ zk M a6 = 11 ∧ vp_in x1 (zl M a6) ∧ zk M a5 = 11 ∧ vp_in x1 (zl M a5) ∧ (∀ M7, M7 = sJ M a5 x1.toNatClampNeg (zJ M a6 x1.toNatClampNeg) → l_X8_takesRead_28 P K52 n M7 x0 (x1 + (1 : Int32))))))
set_option maxHeartbeats 4000000 in
set_option maxRecDepth 100000 in
theorem jl_X8_takesRead_28 {P : Mm → Prop} {K52 : Mm → Nat → Prop} (C : Cx p l s m args meth c cX8_takesRead 2 RX8 none E) (hkc : kc ≤ rm_X8_takesRead.cells ∧ ks ≤ rm_X8_takesRead.slots) (k52 : ∀ M x0, K52 M x0 → J p l e rm_X8_takesRead s m args below meth c (QV below E P args s rm_X8_takesRead.cells rm_X8_takesRead.slots) E 2 M kc ks 52 [(0, .ref x0)] []) : ∀ n M x0 x1, l_X8_takesRead_28 P K52 n M x0 x1 → J p l e rm_X8_takesRead s m args below meth c (QV below E P args s rm_X8_takesRead.cells rm_X8_takesRead.slots) E 2 M kc ks 28 [(0, .ref x0), (1, .int x1)] [] := by
  intro n
  induction n with
  | zero => intro M x0 x1 h; exact h.elim
  | succ n ih =>
    intro M x0 x1 h
    rw [l_X8_takesRead_28] at h
    refine j_iload_n (pc := 28) C 1 dX8_takesRead_28 rfl ?_
    refine j_bipush (pc := 29) (v := (32 : Int32)) C dX8_takesRead_29 rfl ?_
    refine j_icmp_ge (pc := 31) C 52 dX8_takesRead_31 (by decide) h (fun h => ?_) (fun h => ?_)
    · exact j_weak [0] rfl (k52 _ _ h)
    · refine j_aload_n (pc := 34) C 0 dX8_takesRead_34 rfl ?_
      refine gf_X8_16 (pc := 35) C dX8_takesRead_35 h (fun a5 h => ?_)
      refine j_iload_n (pc := 38) C 1 dX8_takesRead_38 rfl ?_
      refine j_aload_n (pc := 39) C 0 dX8_takesRead_39 rfl ?_
      refine gf_X8_34 (pc := 40) C dX8_takesRead_40 h (fun a6 h => ?_)
      refine j_iload_n (pc := 43) C 1 dX8_takesRead_43 rfl ?_
      refine j_lald (pc := 44) C dX8_takesRead_44 h (fun h => ?_)
      refine n_last (pc := 45) C dX8_takesRead_45 h (fun M7 h => ?_)
      refine j_iinc (pc := 46) (v := (1 : Int32)) C 1 [(1, _), (0, _)] dX8_takesRead_46 rfl rfl (by decide) rfl ?_
      refine j_goto (pc := 49) C 28 dX8_takesRead_49 (by decide) ?_
      exact j_weak [1, 0] rfl (ih _ _ _ h)
def l_X8_takesRead_54 (P : Mm → Prop) (K74 : Mm → Nat → Prop) : Nat → Mm → Nat → Int32 → Prop
  | 0, _, _, _ => False
  | n + 1, M, x0, x1 => (if (689 : Int32) ≤ x1 then K74 M x0 else (zk M x0 = 8 ∧ ∃ a9, zR M x0 2 = some a9 ∧ zk M a9 = 10 ∧ vp_in x1 (zl M a9) ∧ (∀ M10, M10 = sI M a9 x1.toNatClampNeg (0 : Int32) → l_X8_takesRead_54 P K74 n M10 x0 (x1 + (1 : Int32)))))
set_option maxHeartbeats 4000000 in
set_option maxRecDepth 100000 in
theorem jl_X8_takesRead_54 {P : Mm → Prop} {K74 : Mm → Nat → Prop} (C : Cx p l s m args meth c cX8_takesRead 2 RX8 none E) (hkc : kc ≤ rm_X8_takesRead.cells ∧ ks ≤ rm_X8_takesRead.slots) (k74 : ∀ M x0, K74 M x0 → J p l e rm_X8_takesRead s m args below meth c (QV below E P args s rm_X8_takesRead.cells rm_X8_takesRead.slots) E 2 M kc ks 74 [(0, .ref x0)] []) : ∀ n M x0 x1, l_X8_takesRead_54 P K74 n M x0 x1 → J p l e rm_X8_takesRead s m args below meth c (QV below E P args s rm_X8_takesRead.cells rm_X8_takesRead.slots) E 2 M kc ks 54 [(0, .ref x0), (1, .int x1)] [] := by
  intro n
  induction n with
  | zero => intro M x0 x1 h; exact h.elim
  | succ n ih =>
    intro M x0 x1 h
    rw [l_X8_takesRead_54] at h
    refine j_iload_n (pc := 54) C 1 dX8_takesRead_54 rfl ?_
    refine j_sipush (pc := 55) (v := (689 : Int32)) C dX8_takesRead_55 rfl ?_
    refine j_icmp_ge (pc := 58) C 74 dX8_takesRead_58 (by decide) h (fun h => ?_) (fun h => ?_)
    · exact j_weak [0] rfl (k74 _ _ h)
    · refine j_aload_n (pc := 61) C 0 dX8_takesRead_61 rfl ?_
      refine gf_X8_13 (pc := 62) C dX8_takesRead_62 h (fun a9 h => ?_)
      refine j_iload_n (pc := 65) C 1 dX8_takesRead_65 rfl ?_
      refine j_iconst (pc := 66) (v := (0 : Int32)) C dX8_takesRead_66 rfl ?_
      refine n_iast (pc := 67) C dX8_takesRead_67 h (fun M10 h => ?_)
      refine j_iinc (pc := 68) (v := (1 : Int32)) C 1 [(1, _), (0, _)] dX8_takesRead_68 rfl rfl (by decide) rfl ?_
      refine j_goto (pc := 71) C 54 dX8_takesRead_71 (by decide) ?_
      exact j_weak [1, 0] rfl (ih _ _ _ h)
def l_X8_takesRead_76 (P : Mm → Prop) (K102 : Mm → Nat → Prop) : Nat → Mm → Nat → Int32 → Prop
  | 0, _, _, _ => False
  | n + 1, M, x0, x1 => (if (8 : Int32) ≤ x1 then K102 M x0 else (zk M x0 = 8 ∧ ∃ a12, zR M x0 2 = some a12 ∧ (zk M x0 = 8 ∧ ∃ a13, zR M x0 17 = some a13 ∧ zk M a13 = 10 ∧ vp_in x1 (zl M a13) ∧ zk M a12 = 10 ∧ vp_in ((1 : Int32) + x1) (zl M a12) ∧ (∀ M14, M14 = sI M a12 ((1 : Int32) + x1).toNatClampNeg (zI M a13 x1.toNatClampNeg) → l_X8_takesRead_76 P K102 n M14 x0 (x1 + (1 : Int32))))))
set_option maxHeartbeats 4000000 in
set_option maxRecDepth 100000 in
theorem jl_X8_takesRead_76 {P : Mm → Prop} {K102 : Mm → Nat → Prop} (C : Cx p l s m args meth c cX8_takesRead 2 RX8 none E) (hkc : kc ≤ rm_X8_takesRead.cells ∧ ks ≤ rm_X8_takesRead.slots) (k102 : ∀ M x0, K102 M x0 → J p l e rm_X8_takesRead s m args below meth c (QV below E P args s rm_X8_takesRead.cells rm_X8_takesRead.slots) E 2 M kc ks 102 [(0, .ref x0)] []) : ∀ n M x0 x1, l_X8_takesRead_76 P K102 n M x0 x1 → J p l e rm_X8_takesRead s m args below meth c (QV below E P args s rm_X8_takesRead.cells rm_X8_takesRead.slots) E 2 M kc ks 76 [(0, .ref x0), (1, .int x1)] [] := by
  intro n
  induction n with
  | zero => intro M x0 x1 h; exact h.elim
  | succ n ih =>
    intro M x0 x1 h
    rw [l_X8_takesRead_76] at h
    refine j_iload_n (pc := 76) C 1 dX8_takesRead_76 rfl ?_
    refine j_bipush (pc := 77) (v := (8 : Int32)) C dX8_takesRead_77 rfl ?_
    refine j_icmp_ge (pc := 79) C 102 dX8_takesRead_79 (by decide) h (fun h => ?_) (fun h => ?_)
    · exact j_weak [0] rfl (k102 _ _ h)
    · refine j_aload_n (pc := 82) C 0 dX8_takesRead_82 rfl ?_
      refine gf_X8_13 (pc := 83) C dX8_takesRead_83 h (fun a12 h => ?_)
      refine j_iconst (pc := 86) (v := (1 : Int32)) C dX8_takesRead_86 rfl ?_
      refine j_iload_n (pc := 87) C 1 dX8_takesRead_87 rfl ?_
      refine j_iadd (pc := 88) C dX8_takesRead_88 ?_
      refine j_aload_n (pc := 89) C 0 dX8_takesRead_89 rfl ?_
      refine gf_X8_31 (pc := 90) C dX8_takesRead_90 h (fun a13 h => ?_)
      refine j_iload_n (pc := 93) C 1 dX8_takesRead_93 rfl ?_
      refine j_iald (pc := 94) C dX8_takesRead_94 h (fun h => ?_)
      refine n_iast (pc := 95) C dX8_takesRead_95 h (fun M14 h => ?_)
      refine j_iinc (pc := 96) (v := (1 : Int32)) C 1 [(1, _), (0, _)] dX8_takesRead_96 rfl rfl (by decide) rfl ?_
      refine j_goto (pc := 99) C 76 dX8_takesRead_99 (by decide) ?_
      exact j_weak [1, 0] rfl (ih _ _ _ h)
def w_X8_takesRead (M : Mm) (x0 : Nat) (P : Mm → Prop) : Prop := (∃ n2, l_X8_takesRead_2 P (fun M4 x0_4 => (∃ n28, l_X8_takesRead_28 P (fun M8 x0_8 => (∃ n54, l_X8_takesRead_54 P (fun M11 x0_11 => (∃ n76, l_X8_takesRead_76 P (fun M15 x0_15 => zk M15 x0_15 = 8 ∧ (∀ M16, M16 = sI M15 x0_15 24 (0 : Int32) → (zk M16 x0_15 = 8 ∧ ∃ a17, zR M16 x0_15 27 = some a17 ∧ zk M16 a17 = 12 ∧ vp_in (0 : Int32) (zl M16 a17) ∧ (∀ M18, M18 = sI M16 a17 (0 : Int32).toNatClampNeg (vp_nar .boolean (0 : Int32)) → (zk M18 x0_15 = 8 ∧ ∃ a19, zR M18 x0_15 27 = some a19 ∧ zk M18 a19 = 12 ∧ vp_in (1 : Int32) (zl M18 a19) ∧ (∀ M20, M20 = sI M18 a19 (1 : Int32).toNatClampNeg (vp_nar .boolean (0 : Int32)) → P M20)))))) n76 M11 x0_11 (0 : Int32))) n54 M8 x0_8 (0 : Int32))) n28 M4 x0_4 (0 : Int32))) n2 M x0 (0 : Int32))
set_option maxHeartbeats 4000000 in
set_option maxRecDepth 100000 in
theorem c_X8_takesRead (l : Launch) (E : EV) (M : Mm) (x0 : Nat) (P : Mm → Prop) (h : w_X8_takesRead M x0 P) : CtV l E yX8_takesRead cX8_takesRead 2 rm_X8_takesRead 0 0 [.ref x0] M P := by
  refine ctV_of (by decide +kernel) (Nat.le_of_ble_eq_true rfl) ?_
  intro p e s m args below meth c C hnm
  rw [w_X8_takesRead] at h
  show J p l e rm_X8_takesRead s m args below meth c (QV below E P args s 0 0) E 2 M 0 0 0 [(0, .ref x0)] []
  refine j_iconst (pc := 0) (v := (0 : Int32)) C dX8_takesRead_0 rfl ?_
  refine j_istore_n (pc := 1) C [(1, _), (0, _)] dX8_takesRead_1 (by decide) rfl ?_
  obtain ⟨n2, h⟩ := h
  refine j_weak [1, 0] rfl (jl_X8_takesRead_2 C ⟨Nat.le_of_ble_eq_true rfl, Nat.le_of_ble_eq_true rfl⟩ (fun M4 x0_4 h => ?_) n2 _ _ _ h)
  · refine j_iconst (pc := 26) (v := (0 : Int32)) C dX8_takesRead_26 rfl ?_
    refine j_istore_n (pc := 27) C [(1, _), (0, _)] dX8_takesRead_27 (by decide) rfl ?_
    obtain ⟨n28, h⟩ := h
    refine j_weak [1, 0] rfl (jl_X8_takesRead_28 C ⟨Nat.le_of_ble_eq_true rfl, Nat.le_of_ble_eq_true rfl⟩ (fun M8 x0_8 h => ?_) n28 _ _ _ h)
    · refine j_iconst (pc := 52) (v := (0 : Int32)) C dX8_takesRead_52 rfl ?_
      refine j_istore_n (pc := 53) C [(1, _), (0, _)] dX8_takesRead_53 (by decide) rfl ?_
      obtain ⟨n54, h⟩ := h
      refine j_weak [1, 0] rfl (jl_X8_takesRead_54 C ⟨Nat.le_of_ble_eq_true rfl, Nat.le_of_ble_eq_true rfl⟩ (fun M11 x0_11 h => ?_) n54 _ _ _ h)
      · refine j_iconst (pc := 74) (v := (0 : Int32)) C dX8_takesRead_74 rfl ?_
        refine j_istore_n (pc := 75) C [(1, _), (0, _)] dX8_takesRead_75 (by decide) rfl ?_
        obtain ⟨n76, h⟩ := h
        refine j_weak [1, 0] rfl (jl_X8_takesRead_76 C ⟨Nat.le_of_ble_eq_true rfl, Nat.le_of_ble_eq_true rfl⟩ (fun M15 x0_15 h => ?_) n76 _ _ _ h)
        · refine j_aload_n (pc := 102) C 0 dX8_takesRead_102 rfl ?_
          refine j_iconst (pc := 103) (v := (0 : Int32)) C dX8_takesRead_103 rfl ?_
          refine pf_X8_191 (pc := 104) C dX8_takesRead_104 h (fun M16 h => ?_)
          refine j_aload_n (pc := 107) C 0 dX8_takesRead_107 rfl ?_
          refine gf_X8_52 (pc := 108) C dX8_takesRead_108 h (fun a17 h => ?_)
          refine j_iconst (pc := 111) (v := (0 : Int32)) C dX8_takesRead_111 rfl ?_
          refine j_iconst (pc := 112) (v := (0 : Int32)) C dX8_takesRead_112 rfl ?_
          refine n_zast (pc := 113) C dX8_takesRead_113 h (fun M18 h => ?_)
          refine j_aload_n (pc := 114) C 0 dX8_takesRead_114 rfl ?_
          refine gf_X8_52 (pc := 115) C dX8_takesRead_115 h (fun a19 h => ?_)
          refine j_iconst (pc := 118) (v := (1 : Int32)) C dX8_takesRead_118 rfl ?_
          refine j_iconst (pc := 119) (v := (0 : Int32)) C dX8_takesRead_119 rfl ?_
          refine n_zast (pc := 120) C dX8_takesRead_120 h (fun M20 h => ?_)
          exact j_vret (pc := 121) C dX8_takesRead_121 (Nat.le_of_ble_eq_true rfl) (Nat.le_of_ble_eq_true rfl) h
theorem cs_X8_176 (C : Cx p l s m args meth c cc nL RX8 ret E) {b : Nat} {y0 : Int32} {y1 : Int32} {P : Int32 → Mm → Prop} (hR : rm_X8_throwsIf.frames + 1 ≤ R.frames ∧ 8 + (3 + 11) + rm_X8_throwsIf.locals ≤ R.locals) (hf : kc ≤ R.cells ∧ ks ≤ R.slots) (hst : (st.map fun v => v.category).sum ≤ 8) (d : decode cc pc = .ok (.invokevirtual 176, 3)) (h : zk M b = 8 ∧ w_X8_throwsIf M b y0 y1 P) (kk : ∀ r M', P r M' → J p l e R s m args below meth c Q E nL M' kc ks (pc + 3) lo (.int r :: st)) : J p l e R s m args below meth c Q E nL M kc ks pc lo (.int y1 :: .int y0 :: .ref b :: st) :=
  j_cV_I (n := 2) (As := [.int y0, .int y1]) C co_X8 rfl wd_1235 wd_40 h.1 (c_X8_throwsIf l E M b y0 y1 P h.2) ⟨wd_1236, wd_1233, wd_106, by decide +kernel, by decide +kernel, by decide +kernel⟩ rfl rfl hR hf rfl hst d kk
theorem cs_X8_182 (C : Cx p l s m args meth c cc nL RX8 ret E) {b : Nat} {P : Int32 → Mm → Prop} (hR : rm_X8_closes.frames + 1 ≤ R.frames ∧ 8 + (1 + 11) + rm_X8_closes.locals ≤ R.locals) (hf : kc ≤ R.cells ∧ ks ≤ R.slots) (hst : (st.map fun v => v.category).sum ≤ 8) (d : decode cc pc = .ok (.invokevirtual 182, 3)) (h : zk M b = 8 ∧ w_X8_closes M b P) (kk : ∀ r M', P r M' → J p l e R s m args below meth c Q E nL M' kc ks (pc + 3) lo (.int r :: st)) : J p l e R s m args below meth c Q E nL M kc ks pc lo (.ref b :: st) :=
  j_cV_I (n := 0) (As := []) C co_X8 rfl wd_1274 wd_49 h.1 (c_X8_closes l E M b P h.2) ⟨wd_1275, wd_1272, wd_106, by decide +kernel, by decide +kernel, by decide +kernel⟩ rfl rfl hR hf rfl hst d kk
theorem cs_X8_185 (C : Cx p l s m args meth c cc nL RX8 ret E) {b : Nat} {P : Int32 → Mm → Prop} (hR : rm_X8_statement.frames + 1 ≤ R.frames ∧ 8 + (1 + 11) + rm_X8_statement.locals ≤ R.locals) (hf : kc ≤ R.cells ∧ ks ≤ R.slots) (hst : (st.map fun v => v.category).sum ≤ 8) (d : decode cc pc = .ok (.invokevirtual 185, 3)) (h : zk M b = 8 ∧ w_X8_statement M b P) (kk : ∀ r M', P r M' → J p l e R s m args below meth c Q E nL M' kc ks (pc + 3) lo (.int r :: st)) : J p l e R s m args below meth c Q E nL M kc ks pc lo (.ref b :: st) :=
  j_cV_I (n := 0) (As := []) C co_X8 rfl wd_1278 wd_50 h.1 (c_X8_statement l E M b P h.2) ⟨wd_1279, wd_1276, wd_106, by decide +kernel, by decide +kernel, by decide +kernel⟩ rfl rfl hR hf rfl hst d kk
theorem cs_X8_188 (C : Cx p l s m args meth c cc nL RX8 ret E) {b : Nat} {P : Mm → Prop} (hR : rm_X8_takesRead.frames + 1 ≤ R.frames ∧ 8 + (2 + 11) + rm_X8_takesRead.locals ≤ R.locals) (hf : kc ≤ R.cells ∧ ks ≤ R.slots) (hst : (st.map fun v => v.category).sum ≤ 8) (d : decode cc pc = .ok (.invokevirtual 188, 3)) (h : zk M b = 8 ∧ w_X8_takesRead M b P) (kk : ∀ M', P M' → J p l e R s m args below meth c Q E nL M' kc ks (pc + 3) lo st) : J p l e R s m args below meth c Q E nL M kc ks pc lo (.ref b :: st) :=
  j_cV_V (n := 0) (As := []) C co_X8 rfl wd_1322 wd_59 h.1 (c_X8_takesRead l E M b P h.2) ⟨wd_1323, wd_1320, wd_106, by decide +kernel, by decide +kernel, by decide +kernel⟩ rfl rfl hR hf rfl hst d kk
abbrev rm_X8_parse : Room := { frames := 7, cells := 0, slots := 0, locals := 184 }
def l_X8_parse_64 (P : Int32 → Mm → Prop) (K83 : Mm → Nat → Prop) : Nat → Mm → Nat → Int32 → Prop
  | 0, _, _, _ => False
  | n + 1, M, x0, x2 => (if (120 : Int32) ≤ x2 then K83 M x0 else (zk M x0 = 8 ∧ ∃ a10, zR M x0 16 = some a10 ∧ zk M a10 = 10 ∧ vp_in x2 (zl M a10) ∧ (∀ M11, M11 = sI M a10 x2.toNatClampNeg (0 : Int32) → l_X8_parse_64 P K83 n M11 x0 (x2 + (1 : Int32)))))
set_option maxHeartbeats 4000000 in
set_option maxRecDepth 100000 in
theorem jl_X8_parse_64 {P : Int32 → Mm → Prop} {K83 : Mm → Nat → Prop} (C : Cx p l s m args meth c cX8_parse 3 RX8 (some .int) E) (hkc : kc ≤ rm_X8_parse.cells ∧ ks ≤ rm_X8_parse.slots) (k83 : ∀ M x0, K83 M x0 → J p l e rm_X8_parse s m args below meth c (QI below E P args s rm_X8_parse.cells rm_X8_parse.slots) E 3 M kc ks 83 [(0, .ref x0)] []) : ∀ n M x0 x2, l_X8_parse_64 P K83 n M x0 x2 → J p l e rm_X8_parse s m args below meth c (QI below E P args s rm_X8_parse.cells rm_X8_parse.slots) E 3 M kc ks 64 [(0, .ref x0), (2, .int x2)] [] := by
  intro n
  induction n with
  | zero => intro M x0 x2 h; exact h.elim
  | succ n ih =>
    intro M x0 x2 h
    rw [l_X8_parse_64] at h
    refine j_iload_n (pc := 64) C 1 dX8_parse_64 rfl ?_
    refine j_bipush (pc := 65) (v := (120 : Int32)) C dX8_parse_65 rfl ?_
    refine j_icmp_ge (pc := 67) C 83 dX8_parse_67 (by decide) h (fun h => ?_) (fun h => ?_)
    · exact j_weak [0] rfl (k83 _ _ h)
    · refine j_aload_n (pc := 70) C 0 dX8_parse_70 rfl ?_
      refine gf_X8_28 (pc := 71) C dX8_parse_71 h (fun a10 h => ?_)
      refine j_iload_n (pc := 74) C 1 dX8_parse_74 rfl ?_
      refine j_iconst (pc := 75) (v := (0 : Int32)) C dX8_parse_75 rfl ?_
      refine n_iast (pc := 76) C dX8_parse_76 h (fun M11 h => ?_)
      refine j_iinc (pc := 77) (v := (1 : Int32)) C 1 [(2, _), (0, _)] dX8_parse_77 rfl rfl (by decide) rfl ?_
      refine j_goto (pc := 80) C 64 dX8_parse_80 (by decide) ?_
      exact j_weak [1, 0] rfl (ih _ _ _ h)
def l_X8_parse_125 (P : Int32 → Mm → Prop) (K159 : Mm → Nat → Int32 → Prop) : Nat → Mm → Nat → Int32 → Prop
  | 0, _, _, _ => False
  | n + 1, M, x0, x2 => (if x2 = 0 then K159 M x0 x2 else zk M x0 = 8 ∧ (if (zI M x0 9) = 0 then K159 M x0 x2 else zk M x0 = 8 ∧ w_X8_statement M x0 (fun r16 M16 => (if r16 = 0 then l_X8_parse_125 P K159 n M16 x0 (0 : Int32) else zk M16 x0 = 8 ∧ w_X8_closes M16 x0 (fun r17 M17 => (if r17 = 0 then l_X8_parse_125 P K159 n M17 x0 (0 : Int32) else l_X8_parse_125 P K159 n M17 x0 (1 : Int32)))))))
set_option maxHeartbeats 4000000 in
set_option maxRecDepth 100000 in
theorem jl_X8_parse_125 {P : Int32 → Mm → Prop} {K159 : Mm → Nat → Int32 → Prop} (C : Cx p l s m args meth c cX8_parse 3 RX8 (some .int) E) (hkc : kc ≤ rm_X8_parse.cells ∧ ks ≤ rm_X8_parse.slots) (k159 : ∀ M x0 x2, K159 M x0 x2 → J p l e rm_X8_parse s m args below meth c (QI below E P args s rm_X8_parse.cells rm_X8_parse.slots) E 3 M kc ks 159 [(0, .ref x0), (2, .int x2)] []) : ∀ n M x0 x2, l_X8_parse_125 P K159 n M x0 x2 → J p l e rm_X8_parse s m args below meth c (QI below E P args s rm_X8_parse.cells rm_X8_parse.slots) E 3 M kc ks 125 [(0, .ref x0), (2, .int x2)] [] := by
  intro n
  induction n with
  | zero => intro M x0 x2 h; exact h.elim
  | succ n ih =>
    intro M x0 x2 h
    rw [l_X8_parse_125] at h
    refine j_iload_n (pc := 125) C 1 dX8_parse_125 rfl ?_
    refine j_if_eq (pc := 126) C 159 dX8_parse_126 (by decide) h (fun h => ?_) (fun h => ?_)
    · exact j_weak [0, 1] rfl (k159 _ _ _ h)
    · refine j_aload_n (pc := 129) C 0 dX8_parse_129 rfl ?_
      refine gf_X8_90 (pc := 130) C dX8_parse_130 h (fun h => ?_)
      refine j_if_eq (pc := 133) C 159 dX8_parse_133 (by decide) h (fun h => ?_) (fun h => ?_)
      · exact j_weak [0, 1] rfl (k159 _ _ _ h)
      · refine j_aload_n (pc := 136) C 0 dX8_parse_136 rfl ?_
        refine cs_X8_185 (pc := 137) C ⟨Nat.le_of_ble_eq_true rfl, Nat.le_of_ble_eq_true rfl⟩ hkc (Nat.le_of_ble_eq_true rfl) dX8_parse_137 h (fun r16 M16 h => ?_)
        refine j_if_eq (pc := 140) C 154 dX8_parse_140 (by decide) h (fun h => ?_) (fun h => ?_)
        · refine j_iconst (pc := 154) (v := (0 : Int32)) C dX8_parse_154 rfl ?_
          refine j_istore_n (pc := 155) C [(2, _), (0, _)] dX8_parse_155 (by decide) rfl ?_
          refine j_goto (pc := 156) C 125 dX8_parse_156 (by decide) ?_
          exact j_weak [1, 0] rfl (ih _ _ _ h)
        · refine j_aload_n (pc := 143) C 0 dX8_parse_143 rfl ?_
          refine cs_X8_182 (pc := 144) C ⟨Nat.le_of_ble_eq_true rfl, Nat.le_of_ble_eq_true rfl⟩ hkc (Nat.le_of_ble_eq_true rfl) dX8_parse_144 h (fun r17 M17 h => ?_)
          refine j_if_eq (pc := 147) C 154 dX8_parse_147 (by decide) h (fun h => ?_) (fun h => ?_)
          · refine j_iconst (pc := 154) (v := (0 : Int32)) C dX8_parse_154 rfl ?_
            refine j_istore_n (pc := 155) C [(2, _), (0, _)] dX8_parse_155 (by decide) rfl ?_
            refine j_goto (pc := 156) C 125 dX8_parse_156 (by decide) ?_
            exact j_weak [1, 0] rfl (ih _ _ _ h)
          · refine j_iconst (pc := 150) (v := (1 : Int32)) C dX8_parse_150 rfl ?_
            refine j_goto (pc := 151) C 155 dX8_parse_151 (by decide) ?_
            refine j_istore_n (pc := 155) C [(2, _), (0, _)] dX8_parse_155 (by decide) rfl ?_
            refine j_goto (pc := 156) C 125 dX8_parse_156 (by decide) ?_
            exact j_weak [1, 0] rfl (ih _ _ _ h)
def w_X8_parse (M : Mm) (x0 : Nat) (x1 : Int32) (P : Int32 → Mm → Prop) : Prop := zk M x0 = 8 ∧ (∀ M1, M1 = sI M x0 0 (0 : Int32) → zk M1 x0 = 8 ∧ w_X8_within M1 x1 (0 : Int32) (zI M1 x0 5) (fun r2 M2 => (if r2 = 0 then zk M2 x0 = 8 ∧ w_X8_throwsIf M2 x0 (1 : Int32) (1 : Int32) (fun r28 M28 => (if r28 = 0 then zk M28 x0 = 8 ∧ (∀ M29, M29 = sI M28 x0 6 x1 → zk M29 x0 = 8 ∧ (∀ M30, M30 = sI M29 x0 5 (0 : Int32) → zk M30 x0 = 8 ∧ (∀ M31, M31 = sI M30 x0 8 (0 : Int32) → zk M31 x0 = 8 ∧ (∀ M32, M32 = sI M31 x0 12 (0 : Int32) → zk M32 x0 = 8 ∧ (∀ M33, M33 = sI M32 x0 13 (-1 : Int32) → zk M33 x0 = 8 ∧ ((0 : Int32) = 0 ∨ (0 : Int32) = 1) ∧ (∀ M34, M34 = sI M33 x0 15 (0 : Int32) → (∃ n64, l_X8_parse_64 P (fun M35 x0_35 => zk M35 x0_35 = 8 ∧ w_X8_advance M35 x0_35 (fun M36 => zk M36 x0_35 = 8 ∧ w_X8_isWord M36 x0_35 0 (fun r37 M37 => zk M37 x0_35 = 8 ∧ w_X8_starts M37 x0_35 (1 : Int32) r37 (fun r38 M38 => (if r38 = 0 then (∃ n125, l_X8_parse_125 P (fun M39 x0_39 x2_39 => (if x2_39 = 0 then zk M39 x0_39 = 8 ∧ P (zI M39 x0_39 12) M39 else zk M39 x0_39 = 8 ∧ w_X8_takesRead M39 x0_39 (fun M40 => P (0 : Int32) M40))) n125 M38 x0_35 (0 : Int32)) else zk M38 x0_35 = 8 ∧ w_X8_lays M38 x0_35 (0 : Int32) (1 : Int32) (30 : Int32) (fun r41 M41 => (if r41 = 0 then (∃ n125, l_X8_parse_125 P (fun M42 x0_42 x2_42 => (if x2_42 = 0 then zk M42 x0_42 = 8 ∧ P (zI M42 x0_42 12) M42 else zk M42 x0_42 = 8 ∧ w_X8_takesRead M42 x0_42 (fun M43 => P (0 : Int32) M43))) n125 M41 x0_35 (0 : Int32)) else zk M41 x0_35 = 8 ∧ w_X8_closes M41 x0_35 (fun r44 M44 => (if r44 = 0 then (∃ n125, l_X8_parse_125 P (fun M45 x0_45 x2_45 => (if x2_45 = 0 then zk M45 x0_45 = 8 ∧ P (zI M45 x0_45 12) M45 else zk M45 x0_45 = 8 ∧ w_X8_takesRead M45 x0_45 (fun M46 => P (0 : Int32) M46))) n125 M44 x0_35 (0 : Int32)) else (∃ n125, l_X8_parse_125 P (fun M47 x0_47 x2_47 => (if x2_47 = 0 then zk M47 x0_47 = 8 ∧ P (zI M47 x0_47 12) M47 else zk M47 x0_47 = 8 ∧ w_X8_takesRead M47 x0_47 (fun M48 => P (0 : Int32) M48))) n125 M44 x0_35 (1 : Int32))))))))))) n64 M34 x0 (0 : Int32)))))))) else P (0 : Int32) M28)) else zk M2 x0 = 8 ∧ w_X8_throwsIf M2 x0 (0 : Int32) (1 : Int32) (fun r3 M3 => (if r3 = 0 then zk M3 x0 = 8 ∧ (∀ M4, M4 = sI M3 x0 6 x1 → zk M4 x0 = 8 ∧ (∀ M5, M5 = sI M4 x0 5 (0 : Int32) → zk M5 x0 = 8 ∧ (∀ M6, M6 = sI M5 x0 8 (0 : Int32) → zk M6 x0 = 8 ∧ (∀ M7, M7 = sI M6 x0 12 (0 : Int32) → zk M7 x0 = 8 ∧ (∀ M8, M8 = sI M7 x0 13 (-1 : Int32) → zk M8 x0 = 8 ∧ ((0 : Int32) = 0 ∨ (0 : Int32) = 1) ∧ (∀ M9, M9 = sI M8 x0 15 (0 : Int32) → (∃ n64, l_X8_parse_64 P (fun M12 x0_12 => zk M12 x0_12 = 8 ∧ w_X8_advance M12 x0_12 (fun M13 => zk M13 x0_12 = 8 ∧ w_X8_isWord M13 x0_12 0 (fun r14 M14 => zk M14 x0_12 = 8 ∧ w_X8_starts M14 x0_12 (1 : Int32) r14 (fun r15 M15 => (if r15 = 0 then (∃ n125, l_X8_parse_125 P (fun M18 x0_18 x2_18 => (if x2_18 = 0 then zk M18 x0_18 = 8 ∧ P (zI M18 x0_18 12) M18 else zk M18 x0_18 = 8 ∧ w_X8_takesRead M18 x0_18 (fun M19 => P (0 : Int32) M19))) n125 M15 x0_12 (0 : Int32)) else zk M15 x0_12 = 8 ∧ w_X8_lays M15 x0_12 (0 : Int32) (1 : Int32) (30 : Int32) (fun r20 M20 => (if r20 = 0 then (∃ n125, l_X8_parse_125 P (fun M21 x0_21 x2_21 => (if x2_21 = 0 then zk M21 x0_21 = 8 ∧ P (zI M21 x0_21 12) M21 else zk M21 x0_21 = 8 ∧ w_X8_takesRead M21 x0_21 (fun M22 => P (0 : Int32) M22))) n125 M20 x0_12 (0 : Int32)) else zk M20 x0_12 = 8 ∧ w_X8_closes M20 x0_12 (fun r23 M23 => (if r23 = 0 then (∃ n125, l_X8_parse_125 P (fun M24 x0_24 x2_24 => (if x2_24 = 0 then zk M24 x0_24 = 8 ∧ P (zI M24 x0_24 12) M24 else zk M24 x0_24 = 8 ∧ w_X8_takesRead M24 x0_24 (fun M25 => P (0 : Int32) M25))) n125 M23 x0_12 (0 : Int32)) else (∃ n125, l_X8_parse_125 P (fun M26 x0_26 x2_26 => (if x2_26 = 0 then zk M26 x0_26 = 8 ∧ P (zI M26 x0_26 12) M26 else zk M26 x0_26 = 8 ∧ w_X8_takesRead M26 x0_26 (fun M27 => P (0 : Int32) M27))) n125 M23 x0_12 (1 : Int32))))))))))) n64 M9 x0 (0 : Int32)))))))) else P (0 : Int32) M3)))))
set_option maxHeartbeats 4000000 in
set_option maxRecDepth 100000 in
theorem c_X8_parse (l : Launch) (E : EV) (M : Mm) (x0 : Nat) (x1 : Int32) (P : Int32 → Mm → Prop) (h : w_X8_parse M x0 x1 P) : CtI l E yX8_parse cX8_parse 3 .int rm_X8_parse 0 0 [.ref x0, .int x1] M P := by
  refine ctI_of (by decide +kernel) (Nat.le_of_ble_eq_true rfl) ?_
  intro p e s m args below meth c C
  rw [w_X8_parse] at h
  show J p l e rm_X8_parse s m args below meth c (QI below E P args s 0 0) E 3 M 0 0 0 [(0, .ref x0), (1, .int x1)] []
  refine j_aload_n (pc := 0) C 0 dX8_parse_0 rfl ?_
  refine j_iconst (pc := 1) (v := (0 : Int32)) C dX8_parse_1 rfl ?_
  refine pf_X8_56 (pc := 2) C dX8_parse_2 h (fun M1 h => ?_)
  refine j_aload_n (pc := 5) C 0 dX8_parse_5 rfl ?_
  refine j_iload_n (pc := 6) C 1 dX8_parse_6 rfl ?_
  refine j_iconst (pc := 7) (v := (0 : Int32)) C dX8_parse_7 rfl ?_
  refine j_aload_n (pc := 8) C 0 dX8_parse_8 rfl ?_
  refine gf_X8_59 (pc := 9) C dX8_parse_9 h (fun h => ?_)
  refine cs_X8_80 (pc := 12) C ⟨Nat.le_of_ble_eq_true rfl, Nat.le_of_ble_eq_true rfl⟩ ⟨Nat.le_of_ble_eq_true rfl, Nat.le_of_ble_eq_true rfl⟩ (Nat.le_of_ble_eq_true rfl) dX8_parse_12 h (fun r2 M2 h => ?_)
  refine j_if_ne (pc := 15) C 22 dX8_parse_15 (by decide) h (fun h => ?_) (fun h => ?_)
  · refine j_iconst (pc := 22) (v := (0 : Int32)) C dX8_parse_22 rfl ?_
    refine j_iconst (pc := 23) (v := (1 : Int32)) C dX8_parse_23 rfl ?_
    refine cs_X8_176 (pc := 24) C ⟨Nat.le_of_ble_eq_true rfl, Nat.le_of_ble_eq_true rfl⟩ ⟨Nat.le_of_ble_eq_true rfl, Nat.le_of_ble_eq_true rfl⟩ (Nat.le_of_ble_eq_true rfl) dX8_parse_24 h (fun r3 M3 h => ?_)
    refine j_if_eq (pc := 27) C 32 dX8_parse_27 (by decide) h (fun h => ?_) (fun h => ?_)
    · refine j_aload_n (pc := 32) C 0 dX8_parse_32 rfl ?_
      refine j_iload_n (pc := 33) C 1 dX8_parse_33 rfl ?_
      refine pf_X8_66 (pc := 34) C dX8_parse_34 h (fun M4 h => ?_)
      refine j_aload_n (pc := 37) C 0 dX8_parse_37 rfl ?_
      refine j_iconst (pc := 38) (v := (0 : Int32)) C dX8_parse_38 rfl ?_
      refine pf_X8_59 (pc := 39) C dX8_parse_39 h (fun M5 h => ?_)
      refine j_aload_n (pc := 42) C 0 dX8_parse_42 rfl ?_
      refine j_iconst (pc := 43) (v := (0 : Int32)) C dX8_parse_43 rfl ?_
      refine pf_X8_73 (pc := 44) C dX8_parse_44 h (fun M6 h => ?_)
      refine j_aload_n (pc := 47) C 0 dX8_parse_47 rfl ?_
      refine j_iconst (pc := 48) (v := (0 : Int32)) C dX8_parse_48 rfl ?_
      refine pf_X8_105 (pc := 49) C dX8_parse_49 h (fun M7 h => ?_)
      refine j_aload_n (pc := 52) C 0 dX8_parse_52 rfl ?_
      refine j_iconst (pc := 53) (v := (-1 : Int32)) C dX8_parse_53 rfl ?_
      refine pf_X8_24 (pc := 54) C dX8_parse_54 h (fun M8 h => ?_)
      refine j_aload_n (pc := 57) C 0 dX8_parse_57 rfl ?_
      refine j_iconst (pc := 58) (v := (0 : Int32)) C dX8_parse_58 rfl ?_
      refine pf_X8_142 (pc := 59) C dX8_parse_59 h (fun M9 h => ?_)
      refine j_iconst (pc := 62) (v := (0 : Int32)) C dX8_parse_62 rfl ?_
      refine j_istore_n (pc := 63) C [(2, _), (0, _), (1, _)] dX8_parse_63 (by decide) rfl ?_
      obtain ⟨n64, h⟩ := h
      refine j_weak [1, 0] rfl (jl_X8_parse_64 C ⟨Nat.le_of_ble_eq_true rfl, Nat.le_of_ble_eq_true rfl⟩ (fun M12 x0_12 h => ?_) n64 _ _ _ h)
      · refine j_aload_n (pc := 83) C 0 dX8_parse_83 rfl ?_
        refine cs_X8_112 (pc := 84) C ⟨Nat.le_of_ble_eq_true rfl, Nat.le_of_ble_eq_true rfl⟩ ⟨Nat.le_of_ble_eq_true rfl, Nat.le_of_ble_eq_true rfl⟩ (Nat.le_of_ble_eq_true rfl) dX8_parse_84 h (fun M13 h => ?_)
        refine j_aload_n (pc := 87) C 0 dX8_parse_87 rfl ?_
        refine j_iconst (pc := 88) (v := (1 : Int32)) C dX8_parse_88 rfl ?_
        refine j_aload_n (pc := 89) C 0 dX8_parse_89 rfl ?_
        refine j_ldcS (pc := 90) (i := 0) C (List.mem_of_getElem? (i := 6) rfl) dX8_parse_90 ?_
        refine cs_X8_148 (pc := 92) C ⟨Nat.le_of_ble_eq_true rfl, Nat.le_of_ble_eq_true rfl⟩ ⟨Nat.le_of_ble_eq_true rfl, Nat.le_of_ble_eq_true rfl⟩ (Nat.le_of_ble_eq_true rfl) dX8_parse_92 h (fun r14 M14 h => ?_)
        refine cs_X8_122 (pc := 95) C ⟨Nat.le_of_ble_eq_true rfl, Nat.le_of_ble_eq_true rfl⟩ ⟨Nat.le_of_ble_eq_true rfl, Nat.le_of_ble_eq_true rfl⟩ (Nat.le_of_ble_eq_true rfl) dX8_parse_95 h (fun r15 M15 h => ?_)
        refine j_if_eq (pc := 98) C 123 dX8_parse_98 (by decide) h (fun h => ?_) (fun h => ?_)
        · refine j_iconst (pc := 123) (v := (0 : Int32)) C dX8_parse_123 rfl ?_
          refine j_istore_n (pc := 124) C [(2, _), (0, _)] dX8_parse_124 (by decide) rfl ?_
          obtain ⟨n125, h⟩ := h
          refine j_weak [1, 0] rfl (jl_X8_parse_125 C ⟨Nat.le_of_ble_eq_true rfl, Nat.le_of_ble_eq_true rfl⟩ (fun M18 x0_18 x2_18 h => ?_) n125 _ _ _ h)
          · refine j_iload_n (pc := 159) C 1 dX8_parse_159 rfl ?_
            refine j_if_ne (pc := 160) C 168 dX8_parse_160 (by decide) h (fun h => ?_) (fun h => ?_)
            · refine j_aload_n (pc := 168) C 0 dX8_parse_168 rfl ?_
              refine cs_X8_188 (pc := 169) C ⟨Nat.le_of_ble_eq_true rfl, Nat.le_of_ble_eq_true rfl⟩ ⟨Nat.le_of_ble_eq_true rfl, Nat.le_of_ble_eq_true rfl⟩ (Nat.le_of_ble_eq_true rfl) dX8_parse_169 h (fun M19 h => ?_)
              refine j_iconst (pc := 172) (v := (0 : Int32)) C dX8_parse_172 rfl ?_
              exact j_iret (pc := 173) C dX8_parse_173 (Nat.le_of_ble_eq_true rfl) (Nat.le_of_ble_eq_true rfl) h
            · refine j_aload_n (pc := 163) C 0 dX8_parse_163 rfl ?_
              refine gf_X8_105 (pc := 164) C dX8_parse_164 h (fun h => ?_)
              exact j_iret (pc := 167) C dX8_parse_167 (Nat.le_of_ble_eq_true rfl) (Nat.le_of_ble_eq_true rfl) h
        · refine j_aload_n (pc := 101) C 0 dX8_parse_101 rfl ?_
          refine j_iconst (pc := 102) (v := (0 : Int32)) C dX8_parse_102 rfl ?_
          refine j_iconst (pc := 103) (v := (1 : Int32)) C dX8_parse_103 rfl ?_
          refine j_bipush (pc := 104) (v := (30 : Int32)) C dX8_parse_104 rfl ?_
          refine cs_X8_133 (pc := 106) C ⟨Nat.le_of_ble_eq_true rfl, Nat.le_of_ble_eq_true rfl⟩ ⟨Nat.le_of_ble_eq_true rfl, Nat.le_of_ble_eq_true rfl⟩ (Nat.le_of_ble_eq_true rfl) dX8_parse_106 h (fun r20 M20 h => ?_)
          refine j_if_eq (pc := 109) C 123 dX8_parse_109 (by decide) h (fun h => ?_) (fun h => ?_)
          · refine j_iconst (pc := 123) (v := (0 : Int32)) C dX8_parse_123 rfl ?_
            refine j_istore_n (pc := 124) C [(2, _), (0, _)] dX8_parse_124 (by decide) rfl ?_
            obtain ⟨n125, h⟩ := h
            refine j_weak [1, 0] rfl (jl_X8_parse_125 C ⟨Nat.le_of_ble_eq_true rfl, Nat.le_of_ble_eq_true rfl⟩ (fun M21 x0_21 x2_21 h => ?_) n125 _ _ _ h)
            · refine j_iload_n (pc := 159) C 1 dX8_parse_159 rfl ?_
              refine j_if_ne (pc := 160) C 168 dX8_parse_160 (by decide) h (fun h => ?_) (fun h => ?_)
              · refine j_aload_n (pc := 168) C 0 dX8_parse_168 rfl ?_
                refine cs_X8_188 (pc := 169) C ⟨Nat.le_of_ble_eq_true rfl, Nat.le_of_ble_eq_true rfl⟩ ⟨Nat.le_of_ble_eq_true rfl, Nat.le_of_ble_eq_true rfl⟩ (Nat.le_of_ble_eq_true rfl) dX8_parse_169 h (fun M22 h => ?_)
                refine j_iconst (pc := 172) (v := (0 : Int32)) C dX8_parse_172 rfl ?_
                exact j_iret (pc := 173) C dX8_parse_173 (Nat.le_of_ble_eq_true rfl) (Nat.le_of_ble_eq_true rfl) h
              · refine j_aload_n (pc := 163) C 0 dX8_parse_163 rfl ?_
                refine gf_X8_105 (pc := 164) C dX8_parse_164 h (fun h => ?_)
                exact j_iret (pc := 167) C dX8_parse_167 (Nat.le_of_ble_eq_true rfl) (Nat.le_of_ble_eq_true rfl) h
          · refine j_aload_n (pc := 112) C 0 dX8_parse_112 rfl ?_
            refine cs_X8_182 (pc := 113) C ⟨Nat.le_of_ble_eq_true rfl, Nat.le_of_ble_eq_true rfl⟩ ⟨Nat.le_of_ble_eq_true rfl, Nat.le_of_ble_eq_true rfl⟩ (Nat.le_of_ble_eq_true rfl) dX8_parse_113 h (fun r23 M23 h => ?_)
            refine j_if_eq (pc := 116) C 123 dX8_parse_116 (by decide) h (fun h => ?_) (fun h => ?_)
            · refine j_iconst (pc := 123) (v := (0 : Int32)) C dX8_parse_123 rfl ?_
              refine j_istore_n (pc := 124) C [(2, _), (0, _)] dX8_parse_124 (by decide) rfl ?_
              obtain ⟨n125, h⟩ := h
              refine j_weak [1, 0] rfl (jl_X8_parse_125 C ⟨Nat.le_of_ble_eq_true rfl, Nat.le_of_ble_eq_true rfl⟩ (fun M24 x0_24 x2_24 h => ?_) n125 _ _ _ h)
              · refine j_iload_n (pc := 159) C 1 dX8_parse_159 rfl ?_
                refine j_if_ne (pc := 160) C 168 dX8_parse_160 (by decide) h (fun h => ?_) (fun h => ?_)
                · refine j_aload_n (pc := 168) C 0 dX8_parse_168 rfl ?_
                  refine cs_X8_188 (pc := 169) C ⟨Nat.le_of_ble_eq_true rfl, Nat.le_of_ble_eq_true rfl⟩ ⟨Nat.le_of_ble_eq_true rfl, Nat.le_of_ble_eq_true rfl⟩ (Nat.le_of_ble_eq_true rfl) dX8_parse_169 h (fun M25 h => ?_)
                  refine j_iconst (pc := 172) (v := (0 : Int32)) C dX8_parse_172 rfl ?_
                  exact j_iret (pc := 173) C dX8_parse_173 (Nat.le_of_ble_eq_true rfl) (Nat.le_of_ble_eq_true rfl) h
                · refine j_aload_n (pc := 163) C 0 dX8_parse_163 rfl ?_
                  refine gf_X8_105 (pc := 164) C dX8_parse_164 h (fun h => ?_)
                  exact j_iret (pc := 167) C dX8_parse_167 (Nat.le_of_ble_eq_true rfl) (Nat.le_of_ble_eq_true rfl) h
            · refine j_iconst (pc := 119) (v := (1 : Int32)) C dX8_parse_119 rfl ?_
              refine j_goto (pc := 120) C 124 dX8_parse_120 (by decide) ?_
              refine j_istore_n (pc := 124) C [(2, _), (0, _)] dX8_parse_124 (by decide) rfl ?_
              obtain ⟨n125, h⟩ := h
              refine j_weak [1, 0] rfl (jl_X8_parse_125 C ⟨Nat.le_of_ble_eq_true rfl, Nat.le_of_ble_eq_true rfl⟩ (fun M26 x0_26 x2_26 h => ?_) n125 _ _ _ h)
              · refine j_iload_n (pc := 159) C 1 dX8_parse_159 rfl ?_
                refine j_if_ne (pc := 160) C 168 dX8_parse_160 (by decide) h (fun h => ?_) (fun h => ?_)
                · refine j_aload_n (pc := 168) C 0 dX8_parse_168 rfl ?_
                  refine cs_X8_188 (pc := 169) C ⟨Nat.le_of_ble_eq_true rfl, Nat.le_of_ble_eq_true rfl⟩ ⟨Nat.le_of_ble_eq_true rfl, Nat.le_of_ble_eq_true rfl⟩ (Nat.le_of_ble_eq_true rfl) dX8_parse_169 h (fun M27 h => ?_)
                  refine j_iconst (pc := 172) (v := (0 : Int32)) C dX8_parse_172 rfl ?_
                  exact j_iret (pc := 173) C dX8_parse_173 (Nat.le_of_ble_eq_true rfl) (Nat.le_of_ble_eq_true rfl) h
                · refine j_aload_n (pc := 163) C 0 dX8_parse_163 rfl ?_
                  refine gf_X8_105 (pc := 164) C dX8_parse_164 h (fun h => ?_)
                  exact j_iret (pc := 167) C dX8_parse_167 (Nat.le_of_ble_eq_true rfl) (Nat.le_of_ble_eq_true rfl) h
    · refine j_iconst (pc := 30) (v := (0 : Int32)) C dX8_parse_30 rfl ?_
      exact j_iret (pc := 31) C dX8_parse_31 (Nat.le_of_ble_eq_true rfl) (Nat.le_of_ble_eq_true rfl) h
  · refine j_iconst (pc := 18) (v := (1 : Int32)) C dX8_parse_18 rfl ?_
    refine j_goto (pc := 19) C 23 dX8_parse_19 (by decide) ?_
    refine j_iconst (pc := 23) (v := (1 : Int32)) C dX8_parse_23 rfl ?_
    refine cs_X8_176 (pc := 24) C ⟨Nat.le_of_ble_eq_true rfl, Nat.le_of_ble_eq_true rfl⟩ ⟨Nat.le_of_ble_eq_true rfl, Nat.le_of_ble_eq_true rfl⟩ (Nat.le_of_ble_eq_true rfl) dX8_parse_24 h (fun r28 M28 h => ?_)
    refine j_if_eq (pc := 27) C 32 dX8_parse_27 (by decide) h (fun h => ?_) (fun h => ?_)
    · refine j_aload_n (pc := 32) C 0 dX8_parse_32 rfl ?_
      refine j_iload_n (pc := 33) C 1 dX8_parse_33 rfl ?_
      refine pf_X8_66 (pc := 34) C dX8_parse_34 h (fun M29 h => ?_)
      refine j_aload_n (pc := 37) C 0 dX8_parse_37 rfl ?_
      refine j_iconst (pc := 38) (v := (0 : Int32)) C dX8_parse_38 rfl ?_
      refine pf_X8_59 (pc := 39) C dX8_parse_39 h (fun M30 h => ?_)
      refine j_aload_n (pc := 42) C 0 dX8_parse_42 rfl ?_
      refine j_iconst (pc := 43) (v := (0 : Int32)) C dX8_parse_43 rfl ?_
      refine pf_X8_73 (pc := 44) C dX8_parse_44 h (fun M31 h => ?_)
      refine j_aload_n (pc := 47) C 0 dX8_parse_47 rfl ?_
      refine j_iconst (pc := 48) (v := (0 : Int32)) C dX8_parse_48 rfl ?_
      refine pf_X8_105 (pc := 49) C dX8_parse_49 h (fun M32 h => ?_)
      refine j_aload_n (pc := 52) C 0 dX8_parse_52 rfl ?_
      refine j_iconst (pc := 53) (v := (-1 : Int32)) C dX8_parse_53 rfl ?_
      refine pf_X8_24 (pc := 54) C dX8_parse_54 h (fun M33 h => ?_)
      refine j_aload_n (pc := 57) C 0 dX8_parse_57 rfl ?_
      refine j_iconst (pc := 58) (v := (0 : Int32)) C dX8_parse_58 rfl ?_
      refine pf_X8_142 (pc := 59) C dX8_parse_59 h (fun M34 h => ?_)
      refine j_iconst (pc := 62) (v := (0 : Int32)) C dX8_parse_62 rfl ?_
      refine j_istore_n (pc := 63) C [(2, _), (0, _), (1, _)] dX8_parse_63 (by decide) rfl ?_
      obtain ⟨n64, h⟩ := h
      refine j_weak [1, 0] rfl (jl_X8_parse_64 C ⟨Nat.le_of_ble_eq_true rfl, Nat.le_of_ble_eq_true rfl⟩ (fun M35 x0_35 h => ?_) n64 _ _ _ h)
      · refine j_aload_n (pc := 83) C 0 dX8_parse_83 rfl ?_
        refine cs_X8_112 (pc := 84) C ⟨Nat.le_of_ble_eq_true rfl, Nat.le_of_ble_eq_true rfl⟩ ⟨Nat.le_of_ble_eq_true rfl, Nat.le_of_ble_eq_true rfl⟩ (Nat.le_of_ble_eq_true rfl) dX8_parse_84 h (fun M36 h => ?_)
        refine j_aload_n (pc := 87) C 0 dX8_parse_87 rfl ?_
        refine j_iconst (pc := 88) (v := (1 : Int32)) C dX8_parse_88 rfl ?_
        refine j_aload_n (pc := 89) C 0 dX8_parse_89 rfl ?_
        refine j_ldcS (pc := 90) (i := 0) C (List.mem_of_getElem? (i := 6) rfl) dX8_parse_90 ?_
        refine cs_X8_148 (pc := 92) C ⟨Nat.le_of_ble_eq_true rfl, Nat.le_of_ble_eq_true rfl⟩ ⟨Nat.le_of_ble_eq_true rfl, Nat.le_of_ble_eq_true rfl⟩ (Nat.le_of_ble_eq_true rfl) dX8_parse_92 h (fun r37 M37 h => ?_)
        refine cs_X8_122 (pc := 95) C ⟨Nat.le_of_ble_eq_true rfl, Nat.le_of_ble_eq_true rfl⟩ ⟨Nat.le_of_ble_eq_true rfl, Nat.le_of_ble_eq_true rfl⟩ (Nat.le_of_ble_eq_true rfl) dX8_parse_95 h (fun r38 M38 h => ?_)
        refine j_if_eq (pc := 98) C 123 dX8_parse_98 (by decide) h (fun h => ?_) (fun h => ?_)
        · refine j_iconst (pc := 123) (v := (0 : Int32)) C dX8_parse_123 rfl ?_
          refine j_istore_n (pc := 124) C [(2, _), (0, _)] dX8_parse_124 (by decide) rfl ?_
          obtain ⟨n125, h⟩ := h
          refine j_weak [1, 0] rfl (jl_X8_parse_125 C ⟨Nat.le_of_ble_eq_true rfl, Nat.le_of_ble_eq_true rfl⟩ (fun M39 x0_39 x2_39 h => ?_) n125 _ _ _ h)
          · refine j_iload_n (pc := 159) C 1 dX8_parse_159 rfl ?_
            refine j_if_ne (pc := 160) C 168 dX8_parse_160 (by decide) h (fun h => ?_) (fun h => ?_)
            · refine j_aload_n (pc := 168) C 0 dX8_parse_168 rfl ?_
              refine cs_X8_188 (pc := 169) C ⟨Nat.le_of_ble_eq_true rfl, Nat.le_of_ble_eq_true rfl⟩ ⟨Nat.le_of_ble_eq_true rfl, Nat.le_of_ble_eq_true rfl⟩ (Nat.le_of_ble_eq_true rfl) dX8_parse_169 h (fun M40 h => ?_)
              refine j_iconst (pc := 172) (v := (0 : Int32)) C dX8_parse_172 rfl ?_
              exact j_iret (pc := 173) C dX8_parse_173 (Nat.le_of_ble_eq_true rfl) (Nat.le_of_ble_eq_true rfl) h
            · refine j_aload_n (pc := 163) C 0 dX8_parse_163 rfl ?_
              refine gf_X8_105 (pc := 164) C dX8_parse_164 h (fun h => ?_)
              exact j_iret (pc := 167) C dX8_parse_167 (Nat.le_of_ble_eq_true rfl) (Nat.le_of_ble_eq_true rfl) h
        · refine j_aload_n (pc := 101) C 0 dX8_parse_101 rfl ?_
          refine j_iconst (pc := 102) (v := (0 : Int32)) C dX8_parse_102 rfl ?_
          refine j_iconst (pc := 103) (v := (1 : Int32)) C dX8_parse_103 rfl ?_
          refine j_bipush (pc := 104) (v := (30 : Int32)) C dX8_parse_104 rfl ?_
          refine cs_X8_133 (pc := 106) C ⟨Nat.le_of_ble_eq_true rfl, Nat.le_of_ble_eq_true rfl⟩ ⟨Nat.le_of_ble_eq_true rfl, Nat.le_of_ble_eq_true rfl⟩ (Nat.le_of_ble_eq_true rfl) dX8_parse_106 h (fun r41 M41 h => ?_)
          refine j_if_eq (pc := 109) C 123 dX8_parse_109 (by decide) h (fun h => ?_) (fun h => ?_)
          · refine j_iconst (pc := 123) (v := (0 : Int32)) C dX8_parse_123 rfl ?_
            refine j_istore_n (pc := 124) C [(2, _), (0, _)] dX8_parse_124 (by decide) rfl ?_
            obtain ⟨n125, h⟩ := h
            refine j_weak [1, 0] rfl (jl_X8_parse_125 C ⟨Nat.le_of_ble_eq_true rfl, Nat.le_of_ble_eq_true rfl⟩ (fun M42 x0_42 x2_42 h => ?_) n125 _ _ _ h)
            · refine j_iload_n (pc := 159) C 1 dX8_parse_159 rfl ?_
              refine j_if_ne (pc := 160) C 168 dX8_parse_160 (by decide) h (fun h => ?_) (fun h => ?_)
              · refine j_aload_n (pc := 168) C 0 dX8_parse_168 rfl ?_
                refine cs_X8_188 (pc := 169) C ⟨Nat.le_of_ble_eq_true rfl, Nat.le_of_ble_eq_true rfl⟩ ⟨Nat.le_of_ble_eq_true rfl, Nat.le_of_ble_eq_true rfl⟩ (Nat.le_of_ble_eq_true rfl) dX8_parse_169 h (fun M43 h => ?_)
                refine j_iconst (pc := 172) (v := (0 : Int32)) C dX8_parse_172 rfl ?_
                exact j_iret (pc := 173) C dX8_parse_173 (Nat.le_of_ble_eq_true rfl) (Nat.le_of_ble_eq_true rfl) h
              · refine j_aload_n (pc := 163) C 0 dX8_parse_163 rfl ?_
                refine gf_X8_105 (pc := 164) C dX8_parse_164 h (fun h => ?_)
                exact j_iret (pc := 167) C dX8_parse_167 (Nat.le_of_ble_eq_true rfl) (Nat.le_of_ble_eq_true rfl) h
          · refine j_aload_n (pc := 112) C 0 dX8_parse_112 rfl ?_
            refine cs_X8_182 (pc := 113) C ⟨Nat.le_of_ble_eq_true rfl, Nat.le_of_ble_eq_true rfl⟩ ⟨Nat.le_of_ble_eq_true rfl, Nat.le_of_ble_eq_true rfl⟩ (Nat.le_of_ble_eq_true rfl) dX8_parse_113 h (fun r44 M44 h => ?_)
            refine j_if_eq (pc := 116) C 123 dX8_parse_116 (by decide) h (fun h => ?_) (fun h => ?_)
            · refine j_iconst (pc := 123) (v := (0 : Int32)) C dX8_parse_123 rfl ?_
              refine j_istore_n (pc := 124) C [(2, _), (0, _)] dX8_parse_124 (by decide) rfl ?_
              obtain ⟨n125, h⟩ := h
              refine j_weak [1, 0] rfl (jl_X8_parse_125 C ⟨Nat.le_of_ble_eq_true rfl, Nat.le_of_ble_eq_true rfl⟩ (fun M45 x0_45 x2_45 h => ?_) n125 _ _ _ h)
              · refine j_iload_n (pc := 159) C 1 dX8_parse_159 rfl ?_
                refine j_if_ne (pc := 160) C 168 dX8_parse_160 (by decide) h (fun h => ?_) (fun h => ?_)
                · refine j_aload_n (pc := 168) C 0 dX8_parse_168 rfl ?_
                  refine cs_X8_188 (pc := 169) C ⟨Nat.le_of_ble_eq_true rfl, Nat.le_of_ble_eq_true rfl⟩ ⟨Nat.le_of_ble_eq_true rfl, Nat.le_of_ble_eq_true rfl⟩ (Nat.le_of_ble_eq_true rfl) dX8_parse_169 h (fun M46 h => ?_)
                  refine j_iconst (pc := 172) (v := (0 : Int32)) C dX8_parse_172 rfl ?_
                  exact j_iret (pc := 173) C dX8_parse_173 (Nat.le_of_ble_eq_true rfl) (Nat.le_of_ble_eq_true rfl) h
                · refine j_aload_n (pc := 163) C 0 dX8_parse_163 rfl ?_
                  refine gf_X8_105 (pc := 164) C dX8_parse_164 h (fun h => ?_)
                  exact j_iret (pc := 167) C dX8_parse_167 (Nat.le_of_ble_eq_true rfl) (Nat.le_of_ble_eq_true rfl) h
            · refine j_iconst (pc := 119) (v := (1 : Int32)) C dX8_parse_119 rfl ?_
              refine j_goto (pc := 120) C 124 dX8_parse_120 (by decide) ?_
              refine j_istore_n (pc := 124) C [(2, _), (0, _)] dX8_parse_124 (by decide) rfl ?_
              obtain ⟨n125, h⟩ := h
              refine j_weak [1, 0] rfl (jl_X8_parse_125 C ⟨Nat.le_of_ble_eq_true rfl, Nat.le_of_ble_eq_true rfl⟩ (fun M47 x0_47 x2_47 h => ?_) n125 _ _ _ h)
              · refine j_iload_n (pc := 159) C 1 dX8_parse_159 rfl ?_
                refine j_if_ne (pc := 160) C 168 dX8_parse_160 (by decide) h (fun h => ?_) (fun h => ?_)
                · refine j_aload_n (pc := 168) C 0 dX8_parse_168 rfl ?_
                  refine cs_X8_188 (pc := 169) C ⟨Nat.le_of_ble_eq_true rfl, Nat.le_of_ble_eq_true rfl⟩ ⟨Nat.le_of_ble_eq_true rfl, Nat.le_of_ble_eq_true rfl⟩ (Nat.le_of_ble_eq_true rfl) dX8_parse_169 h (fun M48 h => ?_)
                  refine j_iconst (pc := 172) (v := (0 : Int32)) C dX8_parse_172 rfl ?_
                  exact j_iret (pc := 173) C dX8_parse_173 (Nat.le_of_ble_eq_true rfl) (Nat.le_of_ble_eq_true rfl) h
                · refine j_aload_n (pc := 163) C 0 dX8_parse_163 rfl ?_
                  refine gf_X8_105 (pc := 164) C dX8_parse_164 h (fun h => ?_)
                  exact j_iret (pc := 167) C dX8_parse_167 (Nat.le_of_ble_eq_true rfl) (Nat.le_of_ble_eq_true rfl) h
    · refine j_iconst (pc := 30) (v := (0 : Int32)) C dX8_parse_30 rfl ?_
      exact j_iret (pc := 31) C dX8_parse_31 (Nat.le_of_ble_eq_true rfl) (Nat.le_of_ble_eq_true rfl) h
end GW21
