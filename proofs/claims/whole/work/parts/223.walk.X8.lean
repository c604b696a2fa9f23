/-! written by a program (wip/whole/gen.py) out of the decode rows and the tables: walks of X8 -/

section GW23
variable {p : Program} {l : Launch} {e : Env} {R : Room} {s : State} {m : MethodId} {args : Array Value} {below : List Frame} {meth : Method} {c : Code} {Q : State → Prop} {cc : ByteArray} {nL : Nat} {ret : Option FieldType} {E : EV} {M : Mm} {kc ks pc : Nat} {lo : List (Nat × Value)} {st : List Value}
theorem cs_X8_233 (C : Cx p l s m args meth c cc nL RX8 ret E) {b : Nat} {y0 : Int32} {y1 : Int32} {P : Int32 → Mm → Prop} (hR : rm_X8_areInTime.frames + 1 ≤ R.frames ∧ 8 + (5 + 11) + rm_X8_areInTime.locals ≤ R.locals) (hf : kc ≤ R.cells ∧ ks ≤ R.slots) (hst : (st.map fun v => v.category).sum ≤ 8) (d : decode cc pc = .ok (.invokevirtual 233, 3)) (h : zk M b = 8 ∧ w_X8_areInTime M b y0 y1 P) (kk : ∀ r M', P r M' → J p l e R s m args below meth c Q E nL M' kc ks (pc + 3) lo (.int r :: st)) : J p l e R s m args below meth c Q E nL M kc ks pc lo (.int y1 :: .int y0 :: .ref b :: st) :=
  j_cV_I (n := 2) (As := [.int y0, .int y1]) C co_X8 rfl wd_1481 wd_85 h.1 (c_X8_areInTime l E M b y0 y1 P h.2) ⟨wd_1482, wd_1479, wd_106, by decide +kernel, by decide +kernel, by decide +kernel⟩ rfl rfl hR hf rfl hst d kk
theorem cs_X8_236 (C : Cx p l s m args meth c cc nL RX8 ret E) {b : Nat} {y0 : Int32} {y1 : Int32} {P : Int32 → Mm → Prop} (hR : rm_X8_isHallFree.frames + 1 ≤ R.frames ∧ 8 + (6 + 11) + rm_X8_isHallFree.locals ≤ R.locals) (hf : kc ≤ R.cells ∧ ks ≤ R.slots) (hst : (st.map fun v => v.category).sum ≤ 8) (d : decode cc pc = .ok (.invokevirtual 236, 3)) (h : zk M b = 8 ∧ w_X8_isHallFree M b y0 y1 P) (kk : ∀ r M', P r M' → J p l e R s m args below meth c Q E nL M' kc ks (pc + 3) lo (.int r :: st)) : J p l e R s m args below meth c Q E nL M kc ks pc lo (.int y1 :: .int y0 :: .ref b :: st) :=
  j_cV_I (n := 2) (As := [.int y0, .int y1]) C co_X8 rfl wd_1485 wd_86 h.1 (c_X8_isHallFree l E M b y0 y1 P h.2) ⟨wd_1486, wd_1483, wd_106, by decide +kernel, by decide +kernel, by decide +kernel⟩ rfl rfl hR hf rfl hst d kk
theorem cs_X8_239 (C : Cx p l s m args meth c cc nL RX8 ret E) {b : Nat} {y0 : Int32} {y1 : Int32} {P : Int32 → Mm → Prop} (hR : rm_X8_areReady.frames + 1 ≤ R.frames ∧ 8 + (5 + 11) + rm_X8_areReady.locals ≤ R.locals) (hf : kc ≤ R.cells ∧ ks ≤ R.slots) (hst : (st.map fun v => v.category).sum ≤ 8) (d : decode cc pc = .ok (.invokevirtual 239, 3)) (h : zk M b = 8 ∧ w_X8_areReady M b y0 y1 P) (kk : ∀ r M', P r M' → J p l e R s m args below meth c Q E nL M' kc ks (pc + 3) lo (.int r :: st)) : J p l e R s m args below meth c Q E nL M kc ks pc lo (.int y1 :: .int y0 :: .ref b :: st) :=
  j_cV_I (n := 2) (As := [.int y0, .int y1]) C co_X8 rfl wd_1489 wd_87 h.1 (c_X8_areReady l E M b y0 y1 P h.2) ⟨wd_1490, wd_1487, wd_106, by decide +kernel, by decide +kernel, by decide +kernel⟩ rfl rfl hR hf rfl hst d kk
theorem cs_X8_242 (C : Cx p l s m args meth c cc nL RX8 ret E) {b : Nat} {y0 : Int32} {y1 : Int32} {P : Int32 → Mm → Prop} (hR : rm_X8_allCast.frames + 1 ≤ R.frames ∧ 8 + (6 + 11) + rm_X8_allCast.locals ≤ R.locals) (hf : kc ≤ R.cells ∧ ks ≤ R.slots) (hst : (st.map fun v => v.category).sum ≤ 8) (d : decode cc pc = .ok (.invokevirtual 242, 3)) (h : zk M b = 8 ∧ w_X8_allCast M b y0 y1 P) (kk : ∀ r M', P r M' → J p l e R s m args below meth c Q E nL M' kc ks (pc + 3) lo (.int r :: st)) : J p l e R s m args below meth c Q E nL M kc ks pc lo (.int y1 :: .int y0 :: .ref b :: st) :=
  j_cV_I (n := 2) (As := [.int y0, .int y1]) C co_X8 rfl wd_1497 wd_89 h.1 (c_X8_allCast l E M b y0 y1 P h.2) ⟨wd_1498, wd_1495, wd_106, by decide +kernel, by decide +kernel, by decide +kernel⟩ rfl rfl hR hf rfl hst d kk
abbrev rm_X8_why : Room := { frames := 13, cells := 0, slots := 0, locals := 327 }
def w_X8_why (M : Mm) (x0 : Nat) (x1 : Int32) (x2 : Int32) (x3 : Int32) (x4 : Int32) (P : Int32 → Mm → Prop) : Prop := (zk M x0 = 8 ∧ ∃ a1, zR M x0 2 = some a1 ∧ zk M a1 = 10 ∧ vp_in (0 : Int32) (zl M a1) ∧ (if (zI M a1 (0 : Int32).toNatClampNeg) = (20 : Int32) then P (1 : Int32) M else ¬ (3 : Int32) = 0 ∧ zk M x0 = 8 ∧ w_X8_areInTime M x0 x3 (x2 / (3 : Int32)) (fun r2 M2 => (if r2 = 0 then P (2 : Int32) M2 else zk M2 x0 = 8 ∧ w_X8_isHallFree M2 x0 x1 x2 (fun r3 M3 => (if r3 = 0 then P (3 : Int32) M3 else (if x4 = 0 then zk M3 x0 = 8 ∧ w_X8_allCast M3 x0 x2 x3 (fun r4 M4 => (if r4 = 0 then P (5 : Int32) M4 else P (0 : Int32) M4)) else zk M3 x0 = 8 ∧ w_X8_areReady M3 x0 x3 x2 (fun r5 M5 => (if r5 = 0 then P (4 : Int32) M5 else zk M5 x0 = 8 ∧ w_X8_allCast M5 x0 x2 x3 (fun r6 M6 => (if r6 = 0 then P (5 : Int32) M6 else P (0 : Int32) M6)))))))))))
set_option maxHeartbeats 4000000 in
set_option maxRecDepth 100000 in
theorem c_X8_why (l : Launch) (E : EV) (M : Mm) (x0 : Nat) (x1 : Int32) (x2 : Int32) (x3 : Int32) (x4 : Int32) (P : Int32 → Mm → Prop) (h : w_X8_why M x0 x1 x2 x3 x4 P) : CtI l E yX8_why cX8_why 5 .int rm_X8_why 0 0 [.ref x0, .int x1, .int x2, .int x3, .int x4] M P := by
  refine ctI_of (by decide +kernel) (Nat.le_of_ble_eq_true rfl) ?_
  intro p e s m args below meth c C
  rw [w_X8_why] at h
  show J p l e rm_X8_why s m args below meth c (QI below E P args s 0 0) E 5 M 0 0 0 [(0, .ref x0), (1, .int x1), (2, .int x2), (3, .int x3), (4, .int x4)] []
  refine j_aload_n (pc := 0) C 0 dX8_why_0 rfl ?_
  refine gf_X8_13 (pc := 1) C dX8_why_1 h (fun a1 h => ?_)
  refine j_iconst (pc := 4) (v := (0 : Int32)) C dX8_why_4 rfl ?_
  refine j_iald (pc := 5) C dX8_why_5 h (fun h => ?_)
  refine j_bipush (pc := 6) (v := (20 : Int32)) C dX8_why_6 rfl ?_
  refine j_icmp_ne (pc := 8) C 13 dX8_why_8 (by decide) h (fun h => ?_) (fun h => ?_)
  · refine j_aload_n (pc := 13) C 0 dX8_why_13 rfl ?_
    refine j_iload_n (pc := 14) C 3 dX8_why_14 rfl ?_
    refine j_iload_n (pc := 15) C 2 dX8_why_15 rfl ?_
    refine j_iconst (pc := 16) (v := (3 : Int32)) C dX8_why_16 rfl ?_
    refine j_idiv (pc := 17) C dX8_why_17 h (fun h => ?_)
    refine cs_X8_233 (pc := 18) C ⟨Nat.le_of_ble_eq_true rfl, Nat.le_of_ble_eq_true rfl⟩ ⟨Nat.le_of_ble_eq_true rfl, Nat.le_of_ble_eq_true rfl⟩ (Nat.le_of_ble_eq_true rfl) dX8_why_18 h (fun r2 M2 h => ?_)
    refine j_if_ne (pc := 21) C 26 dX8_why_21 (by decide) h (fun h => ?_) (fun h => ?_)
    · refine j_aload_n (pc := 26) C 0 dX8_why_26 rfl ?_
      refine j_iload_n (pc := 27) C 1 dX8_why_27 rfl ?_
      refine j_iload_n (pc := 28) C 2 dX8_why_28 rfl ?_
      refine cs_X8_236 (pc := 29) C ⟨Nat.le_of_ble_eq_true rfl, Nat.le_of_ble_eq_true rfl⟩ ⟨Nat.le_of_ble_eq_true rfl, Nat.le_of_ble_eq_true rfl⟩ (Nat.le_of_ble_eq_true rfl) dX8_why_29 h (fun r3 M3 h => ?_)
      refine j_if_ne (pc := 32) C 37 dX8_why_32 (by decide) h (fun h => ?_) (fun h => ?_)
      · refine j_iload (pc := 37) C 4 dX8_why_37 rfl ?_
        refine j_if_eq (pc := 39) C 53 dX8_why_39 (by decide) h (fun h => ?_) (fun h => ?_)
        · refine j_aload_n (pc := 53) C 0 dX8_why_53 rfl ?_
          refine j_iload_n (pc := 54) C 2 dX8_why_54 rfl ?_
          refine j_iload_n (pc := 55) C 3 dX8_why_55 rfl ?_
          refine cs_X8_242 (pc := 56) C ⟨Nat.le_of_ble_eq_true rfl, Nat.le_of_ble_eq_true rfl⟩ ⟨Nat.le_of_ble_eq_true rfl, Nat.le_of_ble_eq_true rfl⟩ (Nat.le_of_ble_eq_true rfl) dX8_why_56 h (fun r4 M4 h => ?_)
          refine j_if_eq (pc := 59) C 66 dX8_why_59 (by decide) h (fun h => ?_) (fun h => ?_)
          · refine j_iconst (pc := 66) (v := (5 : Int32)) C dX8_why_66 rfl ?_
            exact j_iret (pc := 67) C dX8_why_67 (Nat.le_of_ble_eq_true rfl) (Nat.le_of_ble_eq_true rfl) h
          · refine j_iconst (pc := 62) (v := (0 : Int32)) C dX8_why_62 rfl ?_
            refine j_goto (pc := 63) C 67 dX8_why_63 (by decide) ?_
            exact j_iret (pc := 67) C dX8_why_67 (Nat.le_of_ble_eq_true rfl) (Nat.le_of_ble_eq_true rfl) h
        · refine j_aload_n (pc := 42) C 0 dX8_why_42 rfl ?_
          refine j_iload_n (pc := 43) C 3 dX8_why_43 rfl ?_
          refine j_iload_n (pc := 44) C 2 dX8_why_44 rfl ?_
          refine cs_X8_239 (pc := 45) C ⟨Nat.le_of_ble_eq_true rfl, Nat.le_of_ble_eq_true rfl⟩ ⟨Nat.le_of_ble_eq_true rfl, Nat.le_of_ble_eq_true rfl⟩ (Nat.le_of_ble_eq_true rfl) dX8_why_45 h (fun r5 M5 h => ?_)
          refine j_if_ne (pc := 48) C 53 dX8_why_48 (by decide) h (fun h => ?_) (fun h => ?_)
          · refine j_aload_n (pc := 53) C 0 dX8_why_53 rfl ?_
            refine j_iload_n (pc := 54) C 2 dX8_why_54 rfl ?_
            refine j_iload_n (pc := 55) C 3 dX8_why_55 rfl ?_
            refine cs_X8_242 (pc := 56) C ⟨Nat.le_of_ble_eq_true rfl, Nat.le_of_ble_eq_true rfl⟩ ⟨Nat.le_of_ble_eq_true rfl, Nat.le_of_ble_eq_true rfl⟩ (Nat.le_of_ble_eq_true rfl) dX8_why_56 h (fun r6 M6 h => ?_)
            refine j_if_eq (pc := 59) C 66 dX8_why_59 (by decide) h (fun h => ?_) (fun h => ?_)
            · refine j_iconst (pc := 66) (v := (5 : Int32)) C dX8_why_66 rfl ?_
              exact j_iret (pc := 67) C dX8_why_67 (Nat.le_of_ble_eq_true rfl) (Nat.le_of_ble_eq_true rfl) h
            · refine j_iconst (pc := 62) (v := (0 : Int32)) C dX8_why_62 rfl ?_
              refine j_goto (pc := 63) C 67 dX8_why_63 (by decide) ?_
              exact j_iret (pc := 67) C dX8_why_67 (Nat.le_of_ble_eq_true rfl) (Nat.le_of_ble_eq_true rfl) h
          · refine j_iconst (pc := 51) (v := (4 : Int32)) C dX8_why_51 rfl ?_
            exact j_iret (pc := 52) C dX8_why_52 (Nat.le_of_ble_eq_true rfl) (Nat.le_of_ble_eq_true rfl) h
      · refine j_iconst (pc := 35) (v := (3 : Int32)) C dX8_why_35 rfl ?_
        exact j_iret (pc := 36) C dX8_why_36 (Nat.le_of_ble_eq_true rfl) (Nat.le_of_ble_eq_true rfl) h
    · refine j_iconst (pc := 24) (v := (2 : Int32)) C dX8_why_24 rfl ?_
      exact j_iret (pc := 25) C dX8_why_25 (Nat.le_of_ble_eq_true rfl) (Nat.le_of_ble_eq_true rfl) h
  · refine j_iconst (pc := 11) (v := (1 : Int32)) C dX8_why_11 rfl ?_
    exact j_iret (pc := 12) C dX8_why_12 (Nat.le_of_ble_eq_true rfl) (Nat.le_of_ble_eq_true rfl) h
abbrev rm_X8_isRehearsed : Room := { frames := 4, cells := 0, slots := 0, locals := 92 }
def l_X8_isRehearsed_4 (P : Int32 → Mm → Prop) (K58 : Mm → Int32 → Prop) : Nat → Mm → Nat → Int32 → Int32 → Prop
  | 0, _, _, _, _ => False
  | n + 1, M, x0, x1, x2 => (zk M x0 = 8 ∧ ∃ a1, zR M x0 2 = some a1 ∧ zk M a1 = 10 ∧ vp_in (0 : Int32) (zl M a1) ∧ (if (zI M a1 (0 : Int32).toNatClampNeg) ≤ x2 then K58 M x1 else (if x1 = 0 then l_X8_isRehearsed_4 P K58 n M x0 (0 : Int32) (x2 + (1 : Int32)) else zk M x0 = 8 ∧ w_X8_of M x0 x2 (2 : Int32) (fun r2 M2 => (if r2 = 0 then l_X8_isRehearsed_4 P K58 n M2 x0 (1 : Int32) (x2 + (1 : Int32)) else zk M2 x0 = 8 ∧ w_X8_of M2 x0 x2 (3 : Int32) (fun r3 M3 => zk M3 x0 = 8 ∧ w_X8_of M3 x0 x2 (0 : Int32) (fun r4 M4 => zk M4 x0 = 8 ∧ w_X8_areReady M4 x0 r3 r4 (fun r5 M5 => (if r5 = 0 then l_X8_isRehearsed_4 P K58 n M5 x0 (0 : Int32) (x2 + (1 : Int32)) else l_X8_isRehearsed_4 P K58 n M5 x0 (1 : Int32) (x2 + (1 : Int32)))))))))))
set_option maxHeartbeats 4000000 in
set_option maxRecDepth 100000 in
theorem jl_X8_isRehearsed_4 {P : Int32 → Mm → Prop} {K58 : Mm → Int32 → Prop} (C : Cx p l s m args meth c cX8_isRehearsed 3 RX8 (some .boolean) E) (hkc : kc ≤ rm_X8_isRehearsed.cells ∧ ks ≤ rm_X8_isRehearsed.slots) (k58 : ∀ M x1, K58 M x1 → J p l e rm_X8_isRehearsed s m args below meth c (QI below E P args s rm_X8_isRehearsed.cells rm_X8_isRehearsed.slots) E 3 M kc ks 58 [(1, .int x1)] []) : ∀ n M x0 x1 x2, l_X8_isRehearsed_4 P K58 n M x0 x1 x2 → J p l e rm_X8_isRehearsed s m args below meth c (QI below E P args s rm_X8_isRehearsed.cells rm_X8_isRehearsed.slots) E 3 M kc ks 4 [(0, .ref x0), (1, .int x1), (2, .int x2)] [] := by
  intro n
  induction n with
  | zero => intro M x0 x1 x2 h; exact h.elim
  | succ n ih =>
    intro M x0 x1 x2 h
    rw [l_X8_isRehearsed_4] at h
    refine j_iload_n (pc := 4) C 2 dX8_isRehearsed_4 rfl ?_
    refine j_aload_n (pc := 5) C 0 dX8_isRehearsed_5 rfl ?_
    refine gf_X8_13 (pc := 6) C dX8_isRehearsed_6 h (fun a1 h => ?_)
    refine j_iconst (pc := 9) (v := (0 : Int32)) C dX8_isRehearsed_9 rfl ?_
    refine j_iald (pc := 10) C dX8_isRehearsed_10 h (fun h => ?_)
    refine j_icmp_ge (pc := 11) C 58 dX8_isRehearsed_11 (by decide) h (fun h => ?_) (fun h => ?_)
    · exact j_weak [1] rfl (k58 _ _ h)
    · refine j_iload_n (pc := 14) C 1 dX8_isRehearsed_14 rfl ?_
      refine j_if_eq (pc := 15) C 50 dX8_isRehearsed_15 (by decide) h (fun h => ?_) (fun h => ?_)
      · refine j_iconst (pc := 50) (v := (0 : Int32)) C dX8_isRehearsed_50 rfl ?_
        refine j_istore_n (pc := 51) C [(1, _), (0, _), (2, _)] dX8_isRehearsed_51 (by decide) rfl ?_
        refine j_iinc (pc := 52) (v := (1 : Int32)) C 2 [(2, _), (1, _), (0, _)] dX8_isRehearsed_52 rfl rfl (by decide) rfl ?_
        refine j_goto (pc := 55) C 4 dX8_isRehearsed_55 (by decide) ?_
        exact j_weak [2, 1, 0] rfl (ih _ _ _ _ h)
      · refine j_aload_n (pc := 18) C 0 dX8_isRehearsed_18 rfl ?_
        refine j_iload_n (pc := 19) C 2 dX8_isRehearsed_19 rfl ?_
        refine j_iconst (pc := 20) (v := (2 : Int32)) C dX8_isRehearsed_20 rfl ?_
        refine cs_X8_198 (pc := 21) C ⟨Nat.le_of_ble_eq_true rfl, Nat.le_of_ble_eq_true rfl⟩ hkc (Nat.le_of_ble_eq_true rfl) dX8_isRehearsed_21 h (fun r2 M2 h => ?_)
        refine j_if_eq (pc := 24) C 46 dX8_isRehearsed_24 (by decide) h (fun h => ?_) (fun h => ?_)
        · refine j_iconst (pc := 46) (v := (1 : Int32)) C dX8_isRehearsed_46 rfl ?_
          refine j_goto (pc := 47) C 51 dX8_isRehearsed_47 (by decide) ?_
          refine j_istore_n (pc := 51) C [(1, _), (0, _), (2, _)] dX8_isRehearsed_51 (by decide) rfl ?_
          refine j_iinc (pc := 52) (v := (1 : Int32)) C 2 [(2, _), (1, _), (0, _)] dX8_isRehearsed_52 rfl rfl (by decide) rfl ?_
          refine j_goto (pc := 55) C 4 dX8_isRehearsed_55 (by decide) ?_
          exact j_weak [2, 1, 0] rfl (ih _ _ _ _ h)
        · refine j_aload_n (pc := 27) C 0 dX8_isRehearsed_27 rfl ?_
          refine j_aload_n (pc := 28) C 0 dX8_isRehearsed_28 rfl ?_
          refine j_iload_n (pc := 29) C 2 dX8_isRehearsed_29 rfl ?_
          refine j_iconst (pc := 30) (v := (3 : Int32)) C dX8_isRehearsed_30 rfl ?_
          refine cs_X8_198 (pc := 31) C ⟨Nat.le_of_ble_eq_true rfl, Nat.le_of_ble_eq_true rfl⟩ hkc (Nat.le_of_ble_eq_true rfl) dX8_isRehearsed_31 h (fun r3 M3 h => ?_)
          refine j_aload_n (pc := 34) C 0 dX8_isRehearsed_34 rfl ?_
          refine j_iload_n (pc := 35) C 2 dX8_isRehearsed_35 rfl ?_
          refine j_iconst (pc := 36) (v := (0 : Int32)) C dX8_isRehearsed_36 rfl ?_
          refine cs_X8_198 (pc := 37) C ⟨Nat.le_of_ble_eq_true rfl, Nat.le_of_ble_eq_true rfl⟩ hkc (Nat.le_of_ble_eq_true rfl) dX8_isRehearsed_37 h (fun r4 M4 h => ?_)
          refine cs_X8_239 (pc := 40) C ⟨Nat.le_of_ble_eq_true rfl, Nat.le_of_ble_eq_true rfl⟩ hkc (Nat.le_of_ble_eq_true rfl) dX8_isRehearsed_40 h (fun r5 M5 h => ?_)
          refine j_if_eq (pc := 43) C 50 dX8_isRehearsed_43 (by decide) h (fun h => ?_) (fun h => ?_)
          · refine j_iconst (pc := 50) (v := (0 : Int32)) C dX8_isRehearsed_50 rfl ?_
            refine j_istore_n (pc := 51) C [(1, _), (0, _), (2, _)] dX8_isRehearsed_51 (by decide) rfl ?_
            refine j_iinc (pc := 52) (v := (1 : Int32)) C 2 [(2, _), (1, _), (0, _)] dX8_isRehearsed_52 rfl rfl (by decide) rfl ?_
            refine j_goto (pc := 55) C 4 dX8_isRehearsed_55 (by decide) ?_
            exact j_weak [2, 1, 0] rfl (ih _ _ _ _ h)
          · refine j_iconst (pc := 46) (v := (1 : Int32)) C dX8_isRehearsed_46 rfl ?_
            refine j_goto (pc := 47) C 51 dX8_isRehearsed_47 (by decide) ?_
            refine j_istore_n (pc := 51) C [(1, _), (0, _), (2, _)] dX8_isRehearsed_51 (by decide) rfl ?_
            refine j_iinc (pc := 52) (v := (1 : Int32)) C 2 [(2, _), (1, _), (0, _)] dX8_isRehearsed_52 rfl rfl (by decide) rfl ?_
            refine j_goto (pc := 55) C 4 dX8_isRehearsed_55 (by decide) ?_
            exact j_weak [2, 1, 0] rfl (ih _ _ _ _ h)
def w_X8_isRehearsed (M : Mm) (x0 : Nat) (P : Int32 → Mm → Prop) : Prop := (∃ n4, l_X8_isRehearsed_4 P (fun M6 x1_6 => (x1_6 = 0 ∨ x1_6 = 1) ∧ P x1_6 M6) n4 M x0 (1 : Int32) (0 : Int32))
set_option maxHeartbeats 4000000 in
set_option maxRecDepth 100000 in
theorem c_X8_isRehearsed (l : Launch) (E : EV) (M : Mm) (x0 : Nat) (P : Int32 → Mm → Prop) (h : w_X8_isRehearsed M x0 P) : CtI l E yX8_isRehearsed cX8_isRehearsed 3 .boolean rm_X8_isRehearsed 0 0 [.ref x0] M P := by
  refine ctI_of (by decide +kernel) (Nat.le_of_ble_eq_true rfl) ?_
  intro p e s m args below meth c C
  rw [w_X8_isRehearsed] at h
  show J p l e rm_X8_isRehearsed s m args below meth c (QI below E P args s 0 0) E 3 M 0 0 0 [(0, .ref x0)] []
  refine j_iconst (pc := 0) (v := (1 : Int32)) C dX8_isRehearsed_0 rfl ?_
  refine j_istore_n (pc := 1) C [(1, _), (0, _)] dX8_isRehearsed_1 (by decide) rfl ?_
  refine j_iconst (pc := 2) (v := (0 : Int32)) C dX8_isRehearsed_2 rfl ?_
  refine j_istore_n (pc := 3) C [(2, _), (1, _), (0, _)] dX8_isRehearsed_3 (by decide) rfl ?_
  obtain ⟨n4, h⟩ := h
  refine j_weak [2, 1, 0] rfl (jl_X8_isRehearsed_4 C ⟨Nat.le_of_ble_eq_true rfl, Nat.le_of_ble_eq_true rfl⟩ (fun M6 x1_6 h => ?_) n4 _ _ _ _ h)
  · refine j_iload_n (pc := 58) C 0 dX8_isRehearsed_58 rfl ?_
    exact j_zret (pc := 59) C dX8_isRehearsed_59 (Nat.le_of_ble_eq_true rfl) (Nat.le_of_ble_eq_true rfl) h
abbrev rm_X8_movesBlock : Room := { frames := 0, cells := 0, slots := 0, locals := 0 }
def l_X8_movesBlock_2 (P : Mm → Prop) (K42 : Mm → Prop) : Nat → Mm → Nat → Int32 → Int32 → Int32 → Prop
  | 0, _, _, _, _, _ => False
  | n + 1, M, x0, x1, x2, x3 => (if (34 : Int32) ≤ x3 then K42 M else (zk M x0 = 8 ∧ ∃ a1, zR M x0 2 = some a1 ∧ (zk M x0 = 8 ∧ ∃ a2, zR M x0 2 = some a2 ∧ zk M a2 = 10 ∧ vp_in (((9 : Int32) + ((34 : Int32) * x1)) + x3) (zl M a2) ∧ zk M a1 = 10 ∧ vp_in (((9 : Int32) + ((34 : Int32) * x2)) + x3) (zl M a1) ∧ (∀ M3, M3 = sI M a1 (((9 : Int32) + ((34 : Int32) * x2)) + x3).toNatClampNeg (zI M a2 (((9 : Int32) + ((34 : Int32) * x1)) + x3).toNatClampNeg) → l_X8_movesBlock_2 P K42 n M3 x0 x1 x2 (x3 + (1 : Int32))))))
set_option maxHeartbeats 4000000 in
set_option maxRecDepth 100000 in
theorem jl_X8_movesBlock_2 {P : Mm → Prop} {K42 : Mm → Prop} (C : Cx p l s m args meth c cX8_movesBlock 4 RX8 none E) (hkc : kc ≤ rm_X8_movesBlock.cells ∧ ks ≤ rm_X8_movesBlock.slots) (k42 : ∀ M, K42 M → J p l e rm_X8_movesBlock s m args below meth c (QV below E P args s rm_X8_movesBlock.cells rm_X8_movesBlock.slots) E 4 M kc ks 42 [] []) : ∀ n M x0 x1 x2 x3, l_X8_movesBlock_2 P K42 n M x0 x1 x2 x3 → J p l e rm_X8_movesBlock s m args below meth c (QV below E P args s rm_X8_movesBlock.cells rm_X8_movesBlock.slots) E 4 M kc ks 2 [(0, .ref x0), (1, .int x1), (2, .int x2), (3, .int x3)] [] := by
  intro n
  induction n with
  | zero => intro M x0 x1 x2 x3 h; exact h.elim
  | succ n ih =>
    intro M x0 x1 x2 x3 h
    rw [l_X8_movesBlock_2] at h
    refine j_iload_n (pc := 2) C 3 dX8_movesBlock_2 rfl ?_
    refine j_bipush (pc := 3) (v := (34 : Int32)) C dX8_movesBlock_3 rfl ?_
    refine j_icmp_ge (pc := 5) C 42 dX8_movesBlock_5 (by decide) h (fun h => ?_) (fun h => ?_)
    · exact j_weak [] rfl (k42 _ h)
    · refine j_aload_n (pc := 8) C 0 dX8_movesBlock_8 rfl ?_
      refine gf_X8_13 (pc := 9) C dX8_movesBlock_9 h (fun a1 h => ?_)
      refine j_bipush (pc := 12) (v := (9 : Int32)) C dX8_movesBlock_12 rfl ?_
      refine j_bipush (pc := 14) (v := (34 : Int32)) C dX8_movesBlock_14 rfl ?_
      refine j_iload_n (pc := 16) C 2 dX8_movesBlock_16 rfl ?_
      refine j_imul (pc := 17) C dX8_movesBlock_17 ?_
      refine j_iadd (pc := 18) C dX8_movesBlock_18 ?_
      refine j_iload_n (pc := 19) C 3 dX8_movesBlock_19 rfl ?_
      refine j_iadd (pc := 20) C dX8_movesBlock_20 ?_
      refine j_aload_n (pc := 21) C 0 dX8_movesBlock_21 rfl ?_
      refine gf_X8_13 (pc := 22) C dX8_movesBlock_22 h (fun a2 h => ?_)
      refine j_bipush (pc := 25) (v := (9 : Int32)) C dX8_movesBlock_25 rfl ?_
      refine j_bipush (pc := 27) (v := (34 : Int32)) C dX8_movesBlock_27 rfl ?_
      refine j_iload_n (pc := 29) C 1 dX8_movesBlock_29 rfl ?_
      refine j_imul (pc := 30) C dX8_movesBlock_30 ?_
      refine j_iadd (pc := 31) C dX8_movesBlock_31 ?_
      refine j_iload_n (pc := 32) C 3 dX8_movesBlock_32 rfl ?_
      refine j_iadd (pc := 33) C dX8_movesBlock_33 ?_
      refine j_iald (pc := 34) C dX8_movesBlock_34 h (fun h => ?_)
      refine n_iast (pc := 35) C dX8_movesBlock_35 h (fun M3 h => ?_)
      refine j_iinc (pc := 36) (v := (1 : Int32)) C 3 [(3, _), (0, _), (1, _), (2, _)] dX8_movesBlock_36 rfl rfl (by decide) rfl ?_
      refine j_goto (pc := 39) C 2 dX8_movesBlock_39 (by decide) ?_
      exact j_weak [1, 2, 3, 0] rfl (ih _ _ _ _ _ h)
def w_X8_movesBlock (M : Mm) (x0 : Nat) (x1 : Int32) (x2 : Int32) (P : Mm → Prop) : Prop := (∃ n2, l_X8_movesBlock_2 P (fun M4 => P M4) n2 M x0 x1 x2 (0 : Int32))
set_option maxHeartbeats 4000000 in
set_option maxRecDepth 100000 in
theorem c_X8_movesBlock (l : Launch) (E : EV) (M : Mm) (x0 : Nat) (x1 : Int32) (x2 : Int32) (P : Mm → Prop) (h : w_X8_movesBlock M x0 x1 x2 P) : CtV l E yX8_movesBlock cX8_movesBlock 4 rm_X8_movesBlock 0 0 [.ref x0, .int x1, .int x2] M P := by
  refine ctV_of (by decide +kernel) (Nat.le_of_ble_eq_true rfl) ?_
  intro p e s m args below meth c C hnm
  rw [w_X8_movesBlock] at h
  show J p l e rm_X8_movesBlock s m args below meth c (QV below E P args s 0 0) E 4 M 0 0 0 [(0, .ref x0), (1, .int x1), (2, .int x2)] []
  refine j_iconst (pc := 0) (v := (0 : Int32)) C dX8_movesBlock_0 rfl ?_
  refine j_istore_n (pc := 1) C [(3, _), (0, _), (1, _), (2, _)] dX8_movesBlock_1 (by decide) rfl ?_
  obtain ⟨n2, h⟩ := h
  refine j_weak [1, 2, 3, 0] rfl (jl_X8_movesBlock_2 C ⟨Nat.le_of_ble_eq_true rfl, Nat.le_of_ble_eq_true rfl⟩ (fun M4 h => ?_) n2 _ _ _ _ _ h)
  · exact j_vret (pc := 42) C dX8_movesBlock_42 (Nat.le_of_ble_eq_true rfl) (Nat.le_of_ble_eq_true rfl) h
theorem cs_X8_245 (C : Cx p l s m args meth c cc nL RX8 ret E) {b : Nat} {y0 : Int32} {y1 : Int32} {P : Mm → Prop} (hR : rm_X8_movesBlock.frames + 1 ≤ R.frames ∧ 8 + (4 + 11) + rm_X8_movesBlock.locals ≤ R.locals) (hf : kc ≤ R.cells ∧ ks ≤ R.slots) (hst : (st.map fun v => v.category).sum ≤ 8) (d : decode cc pc = .ok (.invokevirtual 245, 3)) (h : zk M b = 8 ∧ w_X8_movesBlock M b y0 y1 P) (kk : ∀ M', P M' → J p l e R s m args below meth c Q E nL M' kc ks (pc + 3) lo st) : J p l e R s m args below meth c Q E nL M kc ks pc lo (.int y1 :: .int y0 :: .ref b :: st) :=
  j_cV_V (n := 2) (As := [.int y0, .int y1]) C co_X8 rfl wd_1521 wd_93 h.1 (c_X8_movesBlock l E M b y0 y1 P h.2) ⟨wd_1522, wd_1519, wd_106, by decide +kernel, by decide +kernel, by decide +kernel⟩ rfl rfl hR hf rfl hst d kk
abbrev rm_X8_takesOff : Room := { frames := 1, cells := 0, slots := 0, locals := 23 }
def l_X8_takesOff_12 (P : Mm → Prop) (K36 : Mm → Prop) : Nat → Mm → Nat → Int32 → Prop
  | 0, _, _, _ => False
  | n + 1, M, x0, x2 => (zk M x0 = 8 ∧ ∃ a3, zR M x0 2 = some a3 ∧ zk M a3 = 10 ∧ vp_in (0 : Int32) (zl M a3) ∧ (if (zI M a3 (0 : Int32).toNatClampNeg) ≤ x2 then K36 M else zk M x0 = 8 ∧ w_X8_movesBlock M x0 (x2 + (1 : Int32)) x2 (fun M4 => l_X8_takesOff_12 P K36 n M4 x0 (x2 + (1 : Int32)))))
set_option maxHeartbeats 4000000 in
set_option maxRecDepth 100000 in
theorem jl_X8_takesOff_12 {P : Mm → Prop} {K36 : Mm → Prop} (C : Cx p l s m args meth c cX8_takesOff 3 RX8 none E) (hkc : kc ≤ rm_X8_takesOff.cells ∧ ks ≤ rm_X8_takesOff.slots) (k36 : ∀ M, K36 M → J p l e rm_X8_takesOff s m args below meth c (QV below E P args s rm_X8_takesOff.cells rm_X8_takesOff.slots) E 3 M kc ks 36 [] []) : ∀ n M x0 x2, l_X8_takesOff_12 P K36 n M x0 x2 → J p l e rm_X8_takesOff s m args below meth c (QV below E P args s rm_X8_takesOff.cells rm_X8_takesOff.slots) E 3 M kc ks 12 [(0, .ref x0), (2, .int x2)] [] := by
  intro n
  induction n with
  | zero => intro M x0 x2 h; exact h.elim
  | succ n ih =>
    intro M x0 x2 h
    rw [l_X8_takesOff_12] at h
    refine j_iload_n (pc := 12) C 1 dX8_takesOff_12 rfl ?_
    refine j_aload_n (pc := 13) C 0 dX8_takesOff_13 rfl ?_
    refine gf_X8_13 (pc := 14) C dX8_takesOff_14 h (fun a3 h => ?_)
    refine j_iconst (pc := 17) (v := (0 : Int32)) C dX8_takesOff_17 rfl ?_
    refine j_iald (pc := 18) C dX8_takesOff_18 h (fun h => ?_)
    refine j_icmp_ge (pc := 19) C 36 dX8_takesOff_19 (by decide) h (fun h => ?_) (fun h => ?_)
    · exact j_weak [] rfl (k36 _ h)
    · refine j_aload_n (pc := 22) C 0 dX8_takesOff_22 rfl ?_
      refine j_iload_n (pc := 23) C 1 dX8_takesOff_23 rfl ?_
      refine j_iconst (pc := 24) (v := (1 : Int32)) C dX8_takesOff_24 rfl ?_
      refine j_iadd (pc := 25) C dX8_takesOff_25 ?_
      refine j_iload_n (pc := 26) C 1 dX8_takesOff_26 rfl ?_
      refine cs_X8_245 (pc := 27) C ⟨Nat.le_of_ble_eq_true rfl, Nat.le_of_ble_eq_true rfl⟩ hkc (Nat.le_of_ble_eq_true rfl) dX8_takesOff_27 h (fun M4 h => ?_)
      refine j_iinc (pc := 30) (v := (1 : Int32)) C 1 [(2, _), (0, _)] dX8_takesOff_30 rfl rfl (by decide) rfl ?_
      refine j_goto (pc := 33) C 12 dX8_takesOff_33 (by decide) ?_
      exact j_weak [1, 0] rfl (ih _ _ _ h)
def w_X8_takesOff (M : Mm) (x0 : Nat) (x1 : Int32) (P : Mm → Prop) : Prop := (zk M x0 = 8 ∧ ∃ a1, zR M x0 2 = some a1 ∧ zk M a1 = 10 ∧ vp_in (0 : Int32) (zl M a1) ∧ zk M a1 = 10 ∧ vp_in (0 : Int32) (zl M a1) ∧ (∀ M2, M2 = sI M a1 (0 : Int32).toNatClampNeg ((zI M a1 (0 : Int32).toNatClampNeg) - (1 : Int32)) → (∃ n12, l_X8_takesOff_12 P (fun M5 => P M5) n12 M2 x0 x1)))
set_option maxHeartbeats 4000000 in
set_option maxRecDepth 100000 in
theorem c_X8_takesOff (l : Launch) (E : EV) (M : Mm) (x0 : Nat) (x1 : Int32) (P : Mm → Prop) (h : w_X8_takesOff M x0 x1 P) : CtV l E yX8_takesOff cX8_takesOff 3 rm_X8_takesOff 0 0 [.ref x0, .int x1] M P := by
  refine ctV_of (by decide +kernel) (Nat.le_of_ble_eq_true rfl) ?_
  intro p e s m args below meth c C hnm
  rw [w_X8_takesOff] at h
  show J p l e rm_X8_takesOff s m args below meth c (QV below E P args s 0 0) E 3 M 0 0 0 [(0, .ref x0), (1, .int x1)] []
  refine j_aload_n (pc := 0) C 0 dX8_takesOff_0 rfl ?_
  refine gf_X8_13 (pc := 1) C dX8_takesOff_1 h (fun a1 h => ?_)
  refine j_iconst (pc := 4) (v := (0 : Int32)) C dX8_takesOff_4 rfl ?_
  refine j_dup2 (pc := 5) C dX8_takesOff_5 rfl rfl ?_
  refine j_iald (pc := 6) C dX8_takesOff_6 h (fun h => ?_)
  refine j_iconst (pc := 7) (v := (1 : Int32)) C dX8_takesOff_7 rfl ?_
  refine j_isub (pc := 8) C dX8_takesOff_8 ?_
  refine n_iast (pc := 9) C dX8_takesOff_9 h (fun M2 h => ?_)
  refine j_iload_n (pc := 10) C 1 dX8_takesOff_10 rfl ?_
  refine j_istore_n (pc := 11) C [(2, _), (0, _), (1, _)] dX8_takesOff_11 (by decide) rfl ?_
  obtain ⟨n12, h⟩ := h
  refine j_weak [1, 0] rfl (jl_X8_takesOff_12 C ⟨Nat.le_of_ble_eq_true rfl, Nat.le_of_ble_eq_true rfl⟩ (fun M5 h => ?_) n12 _ _ _ h)
  · exact j_vret (pc := 36) C dX8_takesOff_36 (Nat.le_of_ble_eq_true rfl) (Nat.le_of_ble_eq_true rfl) h
abbrev rm_X8_comes : Room := { frames := 12, cells := 0, slots := 0, locals := 302 }
def l_X8_comes_10 (P : Int32 → Mm → Prop) (K60 : Mm → Nat → Int32 → Int32 → Int32 → Int32 → Int32 → Int32 → Prop) : Nat → Mm → Nat → Int32 → Int32 → Int32 → Int32 → Int32 → Int32 → Prop
  | 0, _, _, _, _, _, _, _, _ => False
  | n + 1, M, x0, x1, x2, x3, x4, x5, x6 => (zk M x0 = 8 ∧ ∃ a2, zR M x0 2 = some a2 ∧ zk M a2 = 10 ∧ vp_in (0 : Int32) (zl M a2) ∧ (if (zI M a2 (0 : Int32).toNatClampNeg) ≤ x6 then K60 M x0 x1 x2 x3 x4 x5 x6 else zk M x0 = 8 ∧ w_X8_of M x0 x6 (0 : Int32) (fun r3 M3 => (if r3 < x2 then l_X8_comes_10 P K60 n M3 x0 x1 x2 x3 x4 x5 (x6 + (1 : Int32)) else zk M3 x0 = 8 ∧ w_X8_of M3 x0 x6 (0 : Int32) (fun r4 M4 => (if r4 = x2 then zk M4 x0 = 8 ∧ w_X8_of M4 x0 x6 (1 : Int32) (fun r5 M5 => (if x1 ≤ r5 then K60 M5 x0 x1 x2 x3 x4 x5 x6 else l_X8_comes_10 P K60 n M5 x0 x1 x2 x3 x4 x5 (x6 + (1 : Int32)))) else K60 M4 x0 x1 x2 x3 x4 x5 x6))))))
set_option maxHeartbeats 4000000 in
set_option maxRecDepth 100000 in
theorem jl_X8_comes_10 {P : Int32 → Mm → Prop} {K60 : Mm → Nat → Int32 → Int32 → Int32 → Int32 → Int32 → Int32 → Prop} (C : Cx p l s m args meth c cX8_comes 11 RX8 (some .int) E) (hkc : kc ≤ rm_X8_comes.cells ∧ ks ≤ rm_X8_comes.slots) (k60 : ∀ M x0 x1 x2 x3 x4 x5 x6, K60 M x0 x1 x2 x3 x4 x5 x6 → J p l e rm_X8_comes s m args below meth c (QI below E P args s rm_X8_comes.cells rm_X8_comes.slots) E 11 M kc ks 60 [(0, .ref x0), (1, .int x1), (2, .int x2), (3, .int x3), (4, .int x4), (5, .int x5), (6, .int x6)] []) : ∀ n M x0 x1 x2 x3 x4 x5 x6, l_X8_comes_10 P K60 n M x0 x1 x2 x3 x4 x5 x6 → J p l e rm_X8_comes s m args below meth c (QI below E P args s rm_X8_comes.cells rm_X8_comes.slots) E 11 M kc ks 10 [(0, .ref x0), (1, .int x1), (2, .int x2), (3, .int x3), (4, .int x4), (5, .int x5), (6, .int x6)] [] := by
  intro n
  induction n with
  | zero => intro M x0 x1 x2 x3 x4 x5 x6 h; exact h.elim
  | succ n ih =>
    intro M x0 x1 x2 x3 x4 x5 x6 h
    rw [l_X8_comes_10] at h
    refine j_iload (pc := 10) C 6 dX8_comes_10 rfl ?_
    refine j_aload_n (pc := 12) C 0 dX8_comes_12 rfl ?_
    refine gf_X8_13 (pc := 13) C dX8_comes_13 h (fun a2 h => ?_)
    refine j_iconst (pc := 16) (v := (0 : Int32)) C dX8_comes_16 rfl ?_
    refine j_iald (pc := 17) C dX8_comes_17 h (fun h => ?_)
    refine j_icmp_ge (pc := 18) C 60 dX8_comes_18 (by decide) h (fun h => ?_) (fun h => ?_)
    · exact j_weak [0, 1, 2, 3, 4, 5, 6] rfl (k60 _ _ _ _ _ _ _ _ h)
    · refine j_aload_n (pc := 21) C 0 dX8_comes_21 rfl ?_
      refine j_iload (pc := 22) C 6 dX8_comes_22 rfl ?_
      refine j_iconst (pc := 24) (v := (0 : Int32)) C dX8_comes_24 rfl ?_
      refine cs_X8_198 (pc := 25) C ⟨Nat.le_of_ble_eq_true rfl, Nat.le_of_ble_eq_true rfl⟩ hkc (Nat.le_of_ble_eq_true rfl) dX8_comes_25 h (fun r3 M3 h => ?_)
      refine j_iload_n (pc := 28) C 2 dX8_comes_28 rfl ?_
      refine j_icmp_lt (pc := 29) C 54 dX8_comes_29 (by decide) h (fun h => ?_) (fun h => ?_)
      · refine j_iinc (pc := 54) (v := (1 : Int32)) C 6 [(6, _), (0, _), (1, _), (2, _), (3, _), (4, _), (5, _)] dX8_comes_54 rfl rfl (by decide) rfl ?_
        refine j_goto (pc := 57) C 10 dX8_comes_57 (by decide) ?_
        exact j_weak [1, 2, 3, 4, 5, 6, 0] rfl (ih _ _ _ _ _ _ _ _ h)
      · refine j_aload_n (pc := 32) C 0 dX8_comes_32 rfl ?_
        refine j_iload (pc := 33) C 6 dX8_comes_33 rfl ?_
        refine j_iconst (pc := 35) (v := (0 : Int32)) C dX8_comes_35 rfl ?_
        refine cs_X8_198 (pc := 36) C ⟨Nat.le_of_ble_eq_true rfl, Nat.le_of_ble_eq_true rfl⟩ hkc (Nat.le_of_ble_eq_true rfl) dX8_comes_36 h (fun r4 M4 h => ?_)
        refine j_iload_n (pc := 39) C 2 dX8_comes_39 rfl ?_
        refine j_icmp_ne (pc := 40) C 60 dX8_comes_40 (by decide) h (fun h => ?_) (fun h => ?_)
        · exact j_weak [0, 1, 2, 3, 4, 5, 6] rfl (k60 _ _ _ _ _ _ _ _ h)
        · refine j_aload_n (pc := 43) C 0 dX8_comes_43 rfl ?_
          refine j_iload (pc := 44) C 6 dX8_comes_44 rfl ?_
          refine j_iconst (pc := 46) (v := (1 : Int32)) C dX8_comes_46 rfl ?_
          refine cs_X8_198 (pc := 47) C ⟨Nat.le_of_ble_eq_true rfl, Nat.le_of_ble_eq_true rfl⟩ hkc (Nat.le_of_ble_eq_true rfl) dX8_comes_47 h (fun r5 M5 h => ?_)
          refine j_iload_n (pc := 50) C 1 dX8_comes_50 rfl ?_
          refine j_icmp_ge (pc := 51) C 60 dX8_comes_51 (by decide) h (fun h => ?_) (fun h => ?_)
          · exact j_weak [0, 1, 2, 3, 4, 5, 6] rfl (k60 _ _ _ _ _ _ _ _ h)
          · refine j_iinc (pc := 54) (v := (1 : Int32)) C 6 [(6, _), (0, _), (1, _), (2, _), (3, _), (4, _), (5, _)] dX8_comes_54 rfl rfl (by decide) rfl ?_
            refine j_goto (pc := 57) C 10 dX8_comes_57 (by decide) ?_
            exact j_weak [1, 2, 3, 4, 5, 6, 0] rfl (ih _ _ _ _ _ _ _ _ h)
def l_X8_comes_68 (P : Int32 → Mm → Prop) (K91 : Mm → Nat → Int32 → Int32 → Int32 → Int32 → Int32 → Int32 → Prop) : Nat → Mm → Nat → Int32 → Int32 → Int32 → Int32 → Int32 → Int32 → Int32 → Prop
  | 0, _, _, _, _, _, _, _, _, _ => False
  | n + 1, M, x0, x1, x2, x3, x4, x5, x6, x7 => (if x7 ≤ x6 then K91 M x0 x1 x2 x3 x4 x5 x6 else zk M x0 = 8 ∧ w_X8_movesBlock M x0 (x7 - (1 : Int32)) x7 (fun M8 => l_X8_comes_68 P K91 n M8 x0 x1 x2 x3 x4 x5 x6 (x7 + (-1 : Int32))))
set_option maxHeartbeats 4000000 in
set_option maxRecDepth 100000 in
theorem jl_X8_comes_68 {P : Int32 → Mm → Prop} {K91 : Mm → Nat → Int32 → Int32 → Int32 → Int32 → Int32 → Int32 → Prop} (C : Cx p l s m args meth c cX8_comes 11 RX8 (some .int) E) (hkc : kc ≤ rm_X8_comes.cells ∧ ks ≤ rm_X8_comes.slots) (k91 : ∀ M x0 x1 x2 x3 x4 x5 x6, K91 M x0 x1 x2 x3 x4 x5 x6 → J p l e rm_X8_comes s m args below meth c (QI below E P args s rm_X8_comes.cells rm_X8_comes.slots) E 11 M kc ks 91 [(0, .ref x0), (1, .int x1), (2, .int x2), (3, .int x3), (4, .int x4), (5, .int x5), (6, .int x6)] []) : ∀ n M x0 x1 x2 x3 x4 x5 x6 x7, l_X8_comes_68 P K91 n M x0 x1 x2 x3 x4 x5 x6 x7 → J p l e rm_X8_comes s m args below meth c (QI below E P args s rm_X8_comes.cells rm_X8_comes.slots) E 11 M kc ks 68 [(0, .ref x0), (1, .int x1), (2, .int x2), (3, .int x3), (4, .int x4), (5, .int x5), (6, .int x6), (7, .int x7)] [] := by
  intro n
  induction n with
  | zero => intro M x0 x1 x2 x3 x4 x5 x6 x7 h; exact h.elim
  | succ n ih =>
    intro M x0 x1 x2 x3 x4 x5 x6 x7 h
    rw [l_X8_comes_68] at h
    refine j_iload (pc := 68) C 7 dX8_comes_68 rfl ?_
    refine j_iload (pc := 70) C 6 dX8_comes_70 rfl ?_
    refine j_icmp_le (pc := 72) C 91 dX8_comes_72 (by decide) h (fun h => ?_) (fun h => ?_)
    · exact j_weak [0, 1, 2, 3, 4, 5, 6] rfl (k91 _ _ _ _ _ _ _ _ h)
    · refine j_aload_n (pc := 75) C 0 dX8_comes_75 rfl ?_
      refine j_iload (pc := 76) C 7 dX8_comes_76 rfl ?_
      refine j_iconst (pc := 78) (v := (1 : Int32)) C dX8_comes_78 rfl ?_
      refine j_isub (pc := 79) C dX8_comes_79 ?_
      refine j_iload (pc := 80) C 7 dX8_comes_80 rfl ?_
      refine cs_X8_245 (pc := 82) C ⟨Nat.le_of_ble_eq_true rfl, Nat.le_of_ble_eq_true rfl⟩ hkc (Nat.le_of_ble_eq_true rfl) dX8_comes_82 h (fun M8 h => ?_)
      refine j_iinc (pc := 85) (v := (-1 : Int32)) C 7 [(7, _), (0, _), (1, _), (2, _), (3, _), (4, _), (5, _), (6, _)] dX8_comes_85 rfl rfl (by decide) rfl ?_
      refine j_goto (pc := 88) C 68 dX8_comes_88 (by decide) ?_
      exact j_weak [1, 2, 3, 4, 5, 6, 7, 0] rfl (ih _ _ _ _ _ _ _ _ _ h)
def l_X8_comes_197 (P : Int32 → Mm → Prop) (K256 : Mm → Nat → Int32 → Int32 → Int32 → Int32 → Int32 → Prop) : Nat → Mm → Nat → Int32 → Int32 → Int32 → Int32 → Int32 → Int32 → Int32 → Prop
  | 0, _, _, _, _, _, _, _, _, _ => False
  | n + 1, M, x0, x3, x5, x6, x7, x8, x9, x10 => (if (6 : Int32) ≤ x10 then K256 M x0 x3 x5 x6 x7 x8 else (zk M x0 = 8 ∧ ∃ a21, zR M x0 2 = some a21 ∧ (if x9 = 0 then zk M a21 = 10 ∧ vp_in (((x7 + (4 : Int32)) + ((6 : Int32) * x8)) + x10) (zl M a21) ∧ (∀ M22, M22 = sI M a21 (((x7 + (4 : Int32)) + ((6 : Int32) * x8)) + x10).toNatClampNeg (-1 : Int32) → l_X8_comes_197 P K256 n M22 x0 x3 x5 x6 x7 x8 x9 (x10 + (1 : Int32))) else zk M x0 = 8 ∧ w_X8_ofWork M x0 x8 (4 : Int32) (fun r23 M23 => (if r23 ≤ x10 then zk M23 a21 = 10 ∧ vp_in (((x7 + (4 : Int32)) + ((6 : Int32) * x8)) + x10) (zl M23 a21) ∧ (∀ M24, M24 = sI M23 a21 (((x7 + (4 : Int32)) + ((6 : Int32) * x8)) + x10).toNatClampNeg (-1 : Int32) → l_X8_comes_197 P K256 n M24 x0 x3 x5 x6 x7 x8 x9 (x10 + (1 : Int32))) else (zk M23 x0 = 8 ∧ ∃ a25, zR M23 x0 19 = some a25 ∧ zk M23 a25 = 10 ∧ vp_in x10 (zl M23 a25) ∧ zk M23 a21 = 10 ∧ vp_in (((x7 + (4 : Int32)) + ((6 : Int32) * x8)) + x10) (zl M23 a21) ∧ (∀ M26, M26 = sI M23 a21 (((x7 + (4 : Int32)) + ((6 : Int32) * x8)) + x10).toNatClampNeg (zI M23 a25 x10.toNatClampNeg) → l_X8_comes_197 P K256 n M26 x0 x3 x5 x6 x7 x8 x9 (x10 + (1 : Int32)))))))))
set_option maxHeartbeats 4000000 in
set_option maxRecDepth 100000 in
theorem jl_X8_comes_197 {P : Int32 → Mm → Prop} {K256 : Mm → Nat → Int32 → Int32 → Int32 → Int32 → Int32 → Prop} (C : Cx p l s m args meth c cX8_comes 11 RX8 (some .int) E) (hkc : kc ≤ rm_X8_comes.cells ∧ ks ≤ rm_X8_comes.slots) (k256 : ∀ M x0 x3 x5 x6 x7 x8, K256 M x0 x3 x5 x6 x7 x8 → J p l e rm_X8_comes s m args below meth c (QI below E P args s rm_X8_comes.cells rm_X8_comes.slots) E 11 M kc ks 256 [(0, .ref x0), (3, .int x3), (5, .int x5), (6, .int x6), (7, .int x7), (8, .int x8)] []) : ∀ n M x0 x3 x5 x6 x7 x8 x9 x10, l_X8_comes_197 P K256 n M x0 x3 x5 x6 x7 x8 x9 x10 → J p l e rm_X8_comes s m args below meth c (QI below E P args s rm_X8_comes.cells rm_X8_comes.slots) E 11 M kc ks 197 [(0, .ref x0), (3, .int x3), (5, .int x5), (6, .int x6), (7, .int x7), (8, .int x8), (9, .int x9), (10, .int x10)] [] := by
  intro n
  induction n with
  | zero => intro M x0 x3 x5 x6 x7 x8 x9 x10 h; exact h.elim
  | succ n ih =>
    intro M x0 x3 x5 x6 x7 x8 x9 x10 h
    rw [l_X8_comes_197] at h
    refine j_iload (pc := 197) C 7 dX8_comes_197 rfl ?_
    refine j_bipush (pc := 199) (v := (6 : Int32)) C dX8_comes_199 rfl ?_
    refine j_icmp_ge (pc := 201) C 256 dX8_comes_201 (by decide) h (fun h => ?_) (fun h => ?_)
    · exact j_weak [0, 1, 2, 3, 4, 5] rfl (k256 _ _ _ _ _ _ _ h)
    · refine j_aload_n (pc := 204) C 0 dX8_comes_204 rfl ?_
      refine gf_X8_13 (pc := 205) C dX8_comes_205 h (fun a21 h => ?_)
      refine j_iload (pc := 208) C 4 dX8_comes_208 rfl ?_
      refine j_iconst (pc := 210) (v := (4 : Int32)) C dX8_comes_210 rfl ?_
      refine j_iadd (pc := 211) C dX8_comes_211 ?_
      refine j_bipush (pc := 212) (v := (6 : Int32)) C dX8_comes_212 rfl ?_
      refine j_iload (pc := 214) C 5 dX8_comes_214 rfl ?_
      refine j_imul (pc := 216) C dX8_comes_216 ?_
      refine j_iadd (pc := 217) C dX8_comes_217 ?_
      refine j_iload (pc := 218) C 7 dX8_comes_218 rfl ?_
      refine j_iadd (pc := 220) C dX8_comes_220 ?_
      refine j_iload (pc := 221) C 6 dX8_comes_221 rfl ?_
      refine j_if_eq (pc := 223) C 248 dX8_comes_223 (by decide) h (fun h => ?_) (fun h => ?_)
      · refine j_iconst (pc := 248) (v := (-1 : Int32)) C dX8_comes_248 rfl ?_
        refine n_iast (pc := 249) C dX8_comes_249 h (fun M22 h => ?_)
        refine j_iinc (pc := 250) (v := (1 : Int32)) C 7 [(10, _), (0, _), (3, _), (5, _), (6, _), (7, _), (8, _), (9, _)] dX8_comes_250 rfl rfl (by decide) rfl ?_
        refine j_goto (pc := 253) C 197 dX8_comes_253 (by decide) ?_
        exact j_weak [1, 2, 3, 4, 5, 6, 7, 0] rfl (ih _ _ _ _ _ _ _ _ _ h)
      · refine j_iload (pc := 226) C 7 dX8_comes_226 rfl ?_
        refine j_aload_n (pc := 228) C 0 dX8_comes_228 rfl ?_
        refine j_iload (pc := 229) C 5 dX8_comes_229 rfl ?_
        refine j_iconst (pc := 231) (v := (4 : Int32)) C dX8_comes_231 rfl ?_
        refine cs_X8_201 (pc := 232) C ⟨Nat.le_of_ble_eq_true rfl, Nat.le_of_ble_eq_true rfl⟩ hkc (Nat.le_of_ble_eq_true rfl) dX8_comes_232 h (fun r23 M23 h => ?_)
        refine j_icmp_ge (pc := 235) C 248 dX8_comes_235 (by decide) h (fun h => ?_) (fun h => ?_)
        · refine j_iconst (pc := 248) (v := (-1 : Int32)) C dX8_comes_248 rfl ?_
          refine n_iast (pc := 249) C dX8_comes_249 h (fun M24 h => ?_)
          refine j_iinc (pc := 250) (v := (1 : Int32)) C 7 [(10, _), (0, _), (3, _), (5, _), (6, _), (7, _), (8, _), (9, _)] dX8_comes_250 rfl rfl (by decide) rfl ?_
          refine j_goto (pc := 253) C 197 dX8_comes_253 (by decide) ?_
          exact j_weak [1, 2, 3, 4, 5, 6, 7, 0] rfl (ih _ _ _ _ _ _ _ _ _ h)
        · refine j_aload_n (pc := 238) C 0 dX8_comes_238 rfl ?_
          refine gf_X8_37 (pc := 239) C dX8_comes_239 h (fun a25 h => ?_)
          refine j_iload (pc := 242) C 7 dX8_comes_242 rfl ?_
          refine j_iald (pc := 244) C dX8_comes_244 h (fun h => ?_)
          refine j_goto (pc := 245) C 249 dX8_comes_245 (by decide) ?_
          refine n_iast (pc := 249) C dX8_comes_249 h (fun M26 h => ?_)
          refine j_iinc (pc := 250) (v := (1 : Int32)) C 7 [(10, _), (0, _), (3, _), (5, _), (6, _), (7, _), (8, _), (9, _)] dX8_comes_250 rfl rfl (by decide) rfl ?_
          refine j_goto (pc := 253) C 197 dX8_comes_253 (by decide) ?_
          exact j_weak [1, 2, 3, 4, 5, 6, 7, 0] rfl (ih _ _ _ _ _ _ _ _ _ h)
def l_X8_comes_155 (P : Int32 → Mm → Prop) (K262 : Mm → Int32 → Prop) : Nat → Mm → Nat → Int32 → Int32 → Int32 → Int32 → Int32 → Prop
  | 0, _, _, _, _, _, _, _ => False
  | n + 1, M, x0, x3, x5, x6, x7, x8 => (zk M x0 = 8 ∧ ∃ a20, zR M x0 1 = some a20 ∧ zk M a20 = 10 ∧ vp_in (3 : Int32) (zl M a20) ∧ (if (zI M a20 (3 : Int32).toNatClampNeg) ≤ x8 then K262 M x6 else (if ((x3 >>> (x8 &&& 31)) &&& (1 : Int32)) = (1 : Int32) then zk M x0 = 8 ∧ w_X8_casts M x0 x8 x5 (fun r28 M28 => (if r28 = 0 then (∃ n197, l_X8_comes_197 P (fun M29 x0_29 x3_29 x5_29 x6_29 x7_29 x8_29 => l_X8_comes_155 P K262 n M29 x0_29 x3_29 x5_29 x6_29 x7_29 (x8_29 + (1 : Int32))) n197 M28 x0 x3 x5 x6 x7 x8 (0 : Int32) (0 : Int32)) else (∃ n197, l_X8_comes_197 P (fun M30 x0_30 x3_30 x5_30 x6_30 x7_30 x8_30 => l_X8_comes_155 P K262 n M30 x0_30 x3_30 x5_30 x6_30 x7_30 (x8_30 + (1 : Int32))) n197 M28 x0 x3 x5 x6 x7 x8 (1 : Int32) (0 : Int32)))) else (∃ n197, l_X8_comes_197 P (fun M27 x0_27 x3_27 x5_27 x6_27 x7_27 x8_27 => l_X8_comes_155 P K262 n M27 x0_27 x3_27 x5_27 x6_27 x7_27 (x8_27 + (1 : Int32))) n197 M x0 x3 x5 x6 x7 x8 (0 : Int32) (0 : Int32)))))
set_option maxHeartbeats 4000000 in
set_option maxRecDepth 100000 in
theorem jl_X8_comes_155 {P : Int32 → Mm → Prop} {K262 : Mm → Int32 → Prop} (C : Cx p l s m args meth c cX8_comes 11 RX8 (some .int) E) (hkc : kc ≤ rm_X8_comes.cells ∧ ks ≤ rm_X8_comes.slots) (k262 : ∀ M x6, K262 M x6 → J p l e rm_X8_comes s m args below meth c (QI below E P args s rm_X8_comes.cells rm_X8_comes.slots) E 11 M kc ks 262 [(6, .int x6)] []) : ∀ n M x0 x3 x5 x6 x7 x8, l_X8_comes_155 P K262 n M x0 x3 x5 x6 x7 x8 → J p l e rm_X8_comes s m args below meth c (QI below E P args s rm_X8_comes.cells rm_X8_comes.slots) E 11 M kc ks 155 [(0, .ref x0), (3, .int x3), (5, .int x5), (6, .int x6), (7, .int x7), (8, .int x8)] [] := by
  intro n
  induction n with
  | zero => intro M x0 x3 x5 x6 x7 x8 h; exact h.elim
  | succ n ih =>
    intro M x0 x3 x5 x6 x7 x8 h
    rw [l_X8_comes_155] at h
    refine j_iload (pc := 155) C 5 dX8_comes_155 rfl ?_
    refine j_aload_n (pc := 157) C 0 dX8_comes_157 rfl ?_
    refine gf_X8_7 (pc := 158) C dX8_comes_158 h (fun a20 h => ?_)
    refine j_iconst (pc := 161) (v := (3 : Int32)) C dX8_comes_161 rfl ?_
    refine j_iald (pc := 162) C dX8_comes_162 h (fun h => ?_)
    refine j_icmp_ge (pc := 163) C 262 dX8_comes_163 (by decide) h (fun h => ?_) (fun h => ?_)
    · exact j_weak [3] rfl (k262 _ _ h)
    · refine j_iload_n (pc := 166) C 1 dX8_comes_166 rfl ?_
      refine j_iload (pc := 167) C 5 dX8_comes_167 rfl ?_
      refine j_ishr (pc := 169) C dX8_comes_169 ?_
      refine j_iconst (pc := 170) (v := (1 : Int32)) C dX8_comes_170 rfl ?_
      refine j_iand (pc := 171) C dX8_comes_171 ?_
      refine j_iconst (pc := 172) (v := (1 : Int32)) C dX8_comes_172 rfl ?_
      refine j_icmp_ne (pc := 173) C 191 dX8_comes_173 (by decide) h (fun h => ?_) (fun h => ?_)
      · refine j_iconst (pc := 191) (v := (0 : Int32)) C dX8_comes_191 rfl ?_
        refine j_istore (pc := 192) C [(9, _), (0, _), (3, _), (5, _), (6, _), (7, _), (8, _)] dX8_comes_192 (by decide) rfl ?_
        refine j_iconst (pc := 194) (v := (0 : Int32)) C dX8_comes_194 rfl ?_
        refine j_istore (pc := 195) C [(10, _), (9, _), (0, _), (3, _), (5, _), (6, _), (7, _), (8, _)] dX8_comes_195 (by decide) rfl ?_
        obtain ⟨n197, h⟩ := h
        refine j_weak [2, 3, 4, 5, 6, 7, 1, 0] rfl (jl_X8_comes_197 C hkc (fun M27 x0_27 x3_27 x5_27 x6_27 x7_27 x8_27 h => ?_) n197 _ _ _ _ _ _ _ _ _ h)
        · refine j_iinc (pc := 256) (v := (1 : Int32)) C 5 [(8, _), (0, _), (3, _), (5, _), (6, _), (7, _)] dX8_comes_256 rfl rfl (by decide) rfl ?_
          refine j_goto (pc := 259) C 155 dX8_comes_259 (by decide) ?_
          exact j_weak [1, 2, 3, 4, 5, 0] rfl (ih _ _ _ _ _ _ _ h)
      · refine j_aload_n (pc := 176) C 0 dX8_comes_176 rfl ?_
        refine j_iload (pc := 177) C 5 dX8_comes_177 rfl ?_
        refine j_iload (pc := 179) C 2 dX8_comes_179 rfl ?_
        refine cs_X8_227 (pc := 181) C ⟨Nat.le_of_ble_eq_true rfl, Nat.le_of_ble_eq_true rfl⟩ hkc (Nat.le_of_ble_eq_true rfl) dX8_comes_181 h (fun r28 M28 h => ?_)
        refine j_if_eq (pc := 184) C 191 dX8_comes_184 (by decide) h (fun h => ?_) (fun h => ?_)
        · refine j_iconst (pc := 191) (v := (0 : Int32)) C dX8_comes_191 rfl ?_
          refine j_istore (pc := 192) C [(9, _), (0, _), (3, _), (5, _), (6, _), (7, _), (8, _)] dX8_comes_192 (by decide) rfl ?_
          refine j_iconst (pc := 194) (v := (0 : Int32)) C dX8_comes_194 rfl ?_
          refine j_istore (pc := 195) C [(10, _), (9, _), (0, _), (3, _), (5, _), (6, _), (7, _), (8, _)] dX8_comes_195 (by decide) rfl ?_
          obtain ⟨n197, h⟩ := h
          refine j_weak [2, 3, 4, 5, 6, 7, 1, 0] rfl (jl_X8_comes_197 C hkc (fun M29 x0_29 x3_29 x5_29 x6_29 x7_29 x8_29 h => ?_) n197 _ _ _ _ _ _ _ _ _ h)
          · refine j_iinc (pc := 256) (v := (1 : Int32)) C 5 [(8, _), (0, _), (3, _), (5, _), (6, _), (7, _)] dX8_comes_256 rfl rfl (by decide) rfl ?_
            refine j_goto (pc := 259) C 155 dX8_comes_259 (by decide) ?_
            exact j_weak [1, 2, 3, 4, 5, 0] rfl (ih _ _ _ _ _ _ _ h)
        · refine j_iconst (pc := 187) (v := (1 : Int32)) C dX8_comes_187 rfl ?_
          refine j_goto (pc := 188) C 192 dX8_comes_188 (by decide) ?_
          refine j_istore (pc := 192) C [(9, _), (0, _), (3, _), (5, _), (6, _), (7, _), (8, _)] dX8_comes_192 (by decide) rfl ?_
          refine j_iconst (pc := 194) (v := (0 : Int32)) C dX8_comes_194 rfl ?_
          refine j_istore (pc := 195) C [(10, _), (9, _), (0, _), (3, _), (5, _), (6, _), (7, _), (8, _)] dX8_comes_195 (by decide) rfl ?_
          obtain ⟨n197, h⟩ := h
          refine j_weak [2, 3, 4, 5, 6, 7, 1, 0] rfl (jl_X8_comes_197 C hkc (fun M30 x0_30 x3_30 x5_30 x6_30 x7_30 x8_30 h => ?_) n197 _ _ _ _ _ _ _ _ _ h)
          · refine j_iinc (pc := 256) (v := (1 : Int32)) C 5 [(8, _), (0, _), (3, _), (5, _), (6, _), (7, _)] dX8_comes_256 rfl rfl (by decide) rfl ?_
            refine j_goto (pc := 259) C 155 dX8_comes_259 (by decide) ?_
            exact j_weak [1, 2, 3, 4, 5, 0] rfl (ih _ _ _ _ _ _ _ h)
def w_X8_comes (M : Mm) (x0 : Nat) (x1 : Int32) (x2 : Int32) (x3 : Int32) (x4 : Int32) (P : Int32 → Mm → Prop) : Prop := zk M x0 = 8 ∧ w_X8_freeAt M x0 x2 (fun r1 M1 => (∃ n10, l_X8_comes_10 P (fun M6 x0_6 x1_6 x2_6 x3_6 x4_6 x5_6 x6_6 => (zk M6 x0_6 = 8 ∧ ∃ a7, zR M6 x0_6 2 = some a7 ∧ zk M6 a7 = 10 ∧ vp_in (0 : Int32) (zl M6 a7) ∧ (∃ n68, l_X8_comes_68 P (fun M9 x0_9 x1_9 x2_9 x3_9 x4_9 x5_9 x6_9 => (zk M9 x0_9 = 8 ∧ ∃ a10, zR M9 x0_9 2 = some a10 ∧ zk M9 a10 = 10 ∧ vp_in (0 : Int32) (zl M9 a10) ∧ zk M9 a10 = 10 ∧ vp_in (0 : Int32) (zl M9 a10) ∧ (∀ M11, M11 = sI M9 a10 (0 : Int32).toNatClampNeg ((zI M9 a10 (0 : Int32).toNatClampNeg) + (1 : Int32)) → (zk M11 x0_9 = 8 ∧ ∃ a12, zR M11 x0_9 2 = some a12 ∧ zk M11 a12 = 10 ∧ vp_in (((9 : Int32) + ((34 : Int32) * x6_9)) + (0 : Int32)) (zl M11 a12) ∧ (∀ M13, M13 = sI M11 a12 (((9 : Int32) + ((34 : Int32) * x6_9)) + (0 : Int32)).toNatClampNeg x2_9 → (zk M13 x0_9 = 8 ∧ ∃ a14, zR M13 x0_9 2 = some a14 ∧ zk M13 a14 = 10 ∧ vp_in (((9 : Int32) + ((34 : Int32) * x6_9)) + (1 : Int32)) (zl M13 a14) ∧ (∀ M15, M15 = sI M13 a14 (((9 : Int32) + ((34 : Int32) * x6_9)) + (1 : Int32)).toNatClampNeg x1_9 → (zk M15 x0_9 = 8 ∧ ∃ a16, zR M15 x0_9 2 = some a16 ∧ zk M15 a16 = 10 ∧ vp_in (((9 : Int32) + ((34 : Int32) * x6_9)) + (2 : Int32)) (zl M15 a16) ∧ (∀ M17, M17 = sI M15 a16 (((9 : Int32) + ((34 : Int32) * x6_9)) + (2 : Int32)).toNatClampNeg x4_9 → (zk M17 x0_9 = 8 ∧ ∃ a18, zR M17 x0_9 2 = some a18 ∧ zk M17 a18 = 10 ∧ vp_in (((9 : Int32) + ((34 : Int32) * x6_9)) + (3 : Int32)) (zl M17 a18) ∧ (∀ M19, M19 = sI M17 a18 (((9 : Int32) + ((34 : Int32) * x6_9)) + (3 : Int32)).toNatClampNeg x3_9 → (∃ n155, l_X8_comes_155 P (fun M31 x6_31 => P x6_31 M31) n155 M19 x0_9 x3_9 x5_9 x6_9 ((9 : Int32) + ((34 : Int32) * x6_9)) (0 : Int32))))))))))))) n68 M6 x0_6 x1_6 x2_6 x3_6 x4_6 x5_6 x6_6 (zI M6 a7 (0 : Int32).toNatClampNeg)))) n10 M1 x0 x1 x2 x3 x4 r1 (0 : Int32)))
set_option maxHeartbeats 4000000 in
set_option maxRecDepth 100000 in
theorem c_X8_comes (l : Launch) (E : EV) (M : Mm) (x0 : Nat) (x1 : Int32) (x2 : Int32) (x3 : Int32) (x4 : Int32) (P : Int32 → Mm → Prop) (h : w_X8_comes M x0 x1 x2 x3 x4 P) : CtI l E yX8_comes cX8_comes 11 .int rm_X8_comes 0 0 [.ref x0, .int x1, .int x2, .int x3, .int x4] M P := by
  refine ctI_of (by decide +kernel) (Nat.le_of_ble_eq_true rfl) ?_
  intro p e s m args below meth c C
  rw [w_X8_comes] at h
  show J p l e rm_X8_comes s m args below meth c (QI below E P args s 0 0) E 11 M 0 0 0 [(0, .ref x0), (1, .int x1), (2, .int x2), (3, .int x3), (4, .int x4)] []
  refine j_aload_n (pc := 0) C 0 dX8_comes_0 rfl ?_
  refine j_iload_n (pc := 1) C 2 dX8_comes_1 rfl ?_
  refine cs_X8_224 (pc := 2) C ⟨Nat.le_of_ble_eq_true rfl, Nat.le_of_ble_eq_true rfl⟩ ⟨Nat.le_of_ble_eq_true rfl, Nat.le_of_ble_eq_true rfl⟩ (Nat.le_of_ble_eq_true rfl) dX8_comes_2 h (fun r1 M1 h => ?_)
  refine j_istore (pc := 5) C [(5, _), (0, _), (1, _), (2, _), (3, _), (4, _)] dX8_comes_5 (by decide) rfl ?_
  refine j_iconst (pc := 7) (v := (0 : Int32)) C dX8_comes_7 rfl ?_
  refine j_istore (pc := 8) C [(6, _), (5, _), (0, _), (1, _), (2, _), (3, _), (4, _)] dX8_comes_8 (by decide) rfl ?_
  obtain ⟨n10, h⟩ := h
  refine j_weak [2, 3, 4, 5, 6, 1, 0] rfl (jl_X8_comes_10 C ⟨Nat.le_of_ble_eq_true rfl, Nat.le_of_ble_eq_true rfl⟩ (fun M6 x0_6 x1_6 x2_6 x3_6 x4_6 x5_6 x6_6 h => ?_) n10 _ _ _ _ _ _ _ _ h)
  · refine j_aload_n (pc := 60) C 0 dX8_comes_60 rfl ?_
    refine gf_X8_13 (pc := 61) C dX8_comes_61 h (fun a7 h => ?_)
    refine j_iconst (pc := 64) (v := (0 : Int32)) C dX8_comes_64 rfl ?_
    refine j_iald (pc := 65) C dX8_comes_65 h (fun h => ?_)
    refine j_istore (pc := 66) C [(7, _), (0, _), (1, _), (2, _), (3, _), (4, _), (5, _), (6, _)] dX8_comes_66 (by decide) rfl ?_
    obtain ⟨n68, h⟩ := h
    refine j_weak [1, 2, 3, 4, 5, 6, 7, 0] rfl (jl_X8_comes_68 C ⟨Nat.le_of_ble_eq_true rfl, Nat.le_of_ble_eq_true rfl⟩ (fun M9 x0_9 x1_9 x2_9 x3_9 x4_9 x5_9 x6_9 h => ?_) n68 _ _ _ _ _ _ _ _ _ h)
    · refine j_aload_n (pc := 91) C 0 dX8_comes_91 rfl ?_
      refine gf_X8_13 (pc := 92) C dX8_comes_92 h (fun a10 h => ?_)
      refine j_iconst (pc := 95) (v := (0 : Int32)) C dX8_comes_95 rfl ?_
      refine j_dup2 (pc := 96) C dX8_comes_96 rfl rfl ?_
      refine j_iald (pc := 97) C dX8_comes_97 h (fun h => ?_)
      refine j_iconst (pc := 98) (v := (1 : Int32)) C dX8_comes_98 rfl ?_
      refine j_iadd (pc := 99) C dX8_comes_99 ?_
      refine n_iast (pc := 100) C dX8_comes_100 h (fun M11 h => ?_)
      refine j_bipush (pc := 101) (v := (9 : Int32)) C dX8_comes_101 rfl ?_
      refine j_bipush (pc := 103) (v := (34 : Int32)) C dX8_comes_103 rfl ?_
      refine j_iload (pc := 105) C 6 dX8_comes_105 rfl ?_
      refine j_imul (pc := 107) C dX8_comes_107 ?_
      refine j_iadd (pc := 108) C dX8_comes_108 ?_
      refine j_istore (pc := 109) C [(7, _), (0, _), (1, _), (2, _), (3, _), (4, _), (5, _), (6, _)] dX8_comes_109 (by decide) rfl ?_
      refine j_aload_n (pc := 111) C 1 dX8_comes_111 rfl ?_
      refine gf_X8_13 (pc := 112) C dX8_comes_112 h (fun a12 h => ?_)
      refine j_iload (pc := 115) C 0 dX8_comes_115 rfl ?_
      refine j_iconst (pc := 117) (v := (0 : Int32)) C dX8_comes_117 rfl ?_
      refine j_iadd (pc := 118) C dX8_comes_118 ?_
      refine j_iload_n (pc := 119) C 3 dX8_comes_119 rfl ?_
      refine n_iast (pc := 120) C dX8_comes_120 h (fun M13 h => ?_)
      refine j_aload_n (pc := 121) C 1 dX8_comes_121 rfl ?_
      refine gf_X8_13 (pc := 122) C dX8_comes_122 h (fun a14 h => ?_)
      refine j_iload (pc := 125) C 0 dX8_comes_125 rfl ?_
      refine j_iconst (pc := 127) (v := (1 : Int32)) C dX8_comes_127 rfl ?_
      refine j_iadd (pc := 128) C dX8_comes_128 ?_
      refine j_iload_n (pc := 129) C 2 dX8_comes_129 rfl ?_
      refine n_iast (pc := 130) C dX8_comes_130 h (fun M15 h => ?_)
      refine j_aload_n (pc := 131) C 1 dX8_comes_131 rfl ?_
      refine gf_X8_13 (pc := 132) C dX8_comes_132 h (fun a16 h => ?_)
      refine j_iload (pc := 135) C 0 dX8_comes_135 rfl ?_
      refine j_iconst (pc := 137) (v := (2 : Int32)) C dX8_comes_137 rfl ?_
      refine j_iadd (pc := 138) C dX8_comes_138 ?_
      refine j_iload (pc := 139) C 5 dX8_comes_139 rfl ?_
      refine n_iast (pc := 141) C dX8_comes_141 h (fun M17 h => ?_)
      refine j_aload_n (pc := 142) C 1 dX8_comes_142 rfl ?_
      refine gf_X8_13 (pc := 143) C dX8_comes_143 h (fun a18 h => ?_)
      refine j_iload (pc := 146) C 0 dX8_comes_146 rfl ?_
      refine j_iconst (pc := 148) (v := (3 : Int32)) C dX8_comes_148 rfl ?_
      refine j_iadd (pc := 149) C dX8_comes_149 ?_
      refine j_iload_n (pc := 150) C 4 dX8_comes_150 rfl ?_
      refine n_iast (pc := 151) C dX8_comes_151 h (fun M19 h => ?_)
      refine j_iconst (pc := 152) (v := (0 : Int32)) C dX8_comes_152 rfl ?_
      refine j_istore (pc := 153) C [(8, _), (7, _), (0, _), (1, _), (2, _), (3, _), (4, _), (5, _), (6, _)] dX8_comes_153 (by decide) rfl ?_
      obtain ⟨n155, h⟩ := h
      refine j_weak [2, 5, 7, 8, 1, 0] rfl (jl_X8_comes_155 C ⟨Nat.le_of_ble_eq_true rfl, Nat.le_of_ble_eq_true rfl⟩ (fun M31 x6_31 h => ?_) n155 _ _ _ _ _ _ _ h)
      · refine j_iload (pc := 262) C 0 dX8_comes_262 rfl ?_
        exact j_iret (pc := 264) C dX8_comes_264 (Nat.le_of_ble_eq_true rfl) (Nat.le_of_ble_eq_true rfl) h
abbrev rm_X8_size : Room := { frames := 1, cells := 0, slots := 0, locals := 22 }
def w_X8_size (M : Mm) (x0 : Nat) (x1 : Int32) (P : Int32 → Mm → Prop) : Prop := zk M x0 = 8 ∧ (∀ M1, M1 = sI M x0 0 (0 : Int32) → w_X8_within M1 x1 (0 : Int32) (7 : Int32) (fun r2 M2 => (if r2 = 0 then zk M2 x0 = 8 ∧ w_X8_throwsIf M2 x0 (1 : Int32) (1 : Int32) (fun r7 M7 => (if r7 = 0 then (if (5 : Int32) ≤ x1 then (if x1 = (5 : Int32) then (zk M7 x0 = 8 ∧ ∃ a9, zR M7 x0 2 = some a9 ∧ zk M7 a9 = 10 ∧ vp_in (0 : Int32) (zl M7 a9) ∧ P (zI M7 a9 (0 : Int32).toNatClampNeg) M7) else (if x1 = (6 : Int32) then (zk M7 x0 = 8 ∧ ∃ a8, zR M7 x0 1 = some a8 ∧ zk M7 a8 = 10 ∧ vp_in (5 : Int32) (zl M7 a8) ∧ P (zI M7 a8 (5 : Int32).toNatClampNeg) M7) else zk M7 x0 = 8 ∧ P (zI M7 x0 24) M7)) else (zk M7 x0 = 8 ∧ ∃ a10, zR M7 x0 1 = some a10 ∧ zk M7 a10 = 10 ∧ vp_in x1 (zl M7 a10) ∧ P (zI M7 a10 x1.toNatClampNeg) M7)) else P (0 : Int32) M7)) else zk M2 x0 = 8 ∧ w_X8_throwsIf M2 x0 (0 : Int32) (1 : Int32) (fun r3 M3 => (if r3 = 0 then (if (5 : Int32) ≤ x1 then (if x1 = (5 : Int32) then (zk M3 x0 = 8 ∧ ∃ a5, zR M3 x0 2 = some a5 ∧ zk M3 a5 = 10 ∧ vp_in (0 : Int32) (zl M3 a5) ∧ P (zI M3 a5 (0 : Int32).toNatClampNeg) M3) else (if x1 = (6 : Int32) then (zk M3 x0 = 8 ∧ ∃ a4, zR M3 x0 1 = some a4 ∧ zk M3 a4 = 10 ∧ vp_in (5 : Int32) (zl M3 a4) ∧ P (zI M3 a4 (5 : Int32).toNatClampNeg) M3) else zk M3 x0 = 8 ∧ P (zI M3 x0 24) M3)) else (zk M3 x0 = 8 ∧ ∃ a6, zR M3 x0 1 = some a6 ∧ zk M3 a6 = 10 ∧ vp_in x1 (zl M3 a6) ∧ P (zI M3 a6 x1.toNatClampNeg) M3)) else P (0 : Int32) M3)))))
set_option maxHeartbeats 4000000 in
set_option maxRecDepth 100000 in
theorem c_X8_size (l : Launch) (E : EV) (M : Mm) (x0 : Nat) (x1 : Int32) (P : Int32 → Mm → Prop) (h : w_X8_size M x0 x1 P) : CtI l E yX8_size cX8_size 2 .int rm_X8_size 0 0 [.ref x0, .int x1] M P := by
  refine ctI_of (by decide +kernel) (Nat.le_of_ble_eq_true rfl) ?_
  intro p e s m args below meth c C
  rw [w_X8_size] at h
  show J p l e rm_X8_size s m args below meth c (QI below E P args s 0 0) E 2 M 0 0 0 [(0, .ref x0), (1, .int x1)] []
  refine j_aload_n (pc := 0) C 0 dX8_size_0 rfl ?_
  refine j_iconst (pc := 1) (v := (0 : Int32)) C dX8_size_1 rfl ?_
  refine pf_X8_56 (pc := 2) C dX8_size_2 h (fun M1 h => ?_)
  refine j_aload_n (pc := 5) C 0 dX8_size_5 rfl ?_
  refine j_iload_n (pc := 6) C 1 dX8_size_6 rfl ?_
  refine j_iconst (pc := 7) (v := (0 : Int32)) C dX8_size_7 rfl ?_
  refine j_bipush (pc := 8) (v := (7 : Int32)) C dX8_size_8 rfl ?_
  refine cs_X8_80 (pc := 10) C ⟨Nat.le_of_ble_eq_true rfl, Nat.le_of_ble_eq_true rfl⟩ ⟨Nat.le_of_ble_eq_true rfl, Nat.le_of_ble_eq_true rfl⟩ (Nat.le_of_ble_eq_true rfl) dX8_size_10 h (fun r2 M2 h => ?_)
  refine j_if_ne (pc := 13) C 20 dX8_size_13 (by decide) h (fun h => ?_) (fun h => ?_)
  · refine j_iconst (pc := 20) (v := (0 : Int32)) C dX8_size_20 rfl ?_
    refine j_iconst (pc := 21) (v := (1 : Int32)) C dX8_size_21 rfl ?_
    refine cs_X8_176 (pc := 22) C ⟨Nat.le_of_ble_eq_true rfl, Nat.le_of_ble_eq_true rfl⟩ ⟨Nat.le_of_ble_eq_true rfl, Nat.le_of_ble_eq_true rfl⟩ (Nat.le_of_ble_eq_true rfl) dX8_size_22 h (fun r3 M3 h => ?_)
    refine j_if_eq (pc := 25) C 30 dX8_size_25 (by decide) h (fun h => ?_) (fun h => ?_)
    · refine j_iload_n (pc := 30) C 1 dX8_size_30 rfl ?_
      refine j_iconst (pc := 31) (v := (5 : Int32)) C dX8_size_31 rfl ?_
      refine j_icmp_ge (pc := 32) C 44 dX8_size_32 (by decide) h (fun h => ?_) (fun h => ?_)
      · refine j_iload_n (pc := 44) C 1 dX8_size_44 rfl ?_
        refine j_iconst (pc := 45) (v := (5 : Int32)) C dX8_size_45 rfl ?_
        refine j_icmp_ne (pc := 46) C 58 dX8_size_46 (by decide) h (fun h => ?_) (fun h => ?_)
        · refine j_iload_n (pc := 58) C 1 dX8_size_58 rfl ?_
          refine j_bipush (pc := 59) (v := (6 : Int32)) C dX8_size_59 rfl ?_
          refine j_icmp_ne (pc := 61) C 73 dX8_size_61 (by decide) h (fun h => ?_) (fun h => ?_)
          · refine j_aload_n (pc := 73) C 0 dX8_size_73 rfl ?_
            refine gf_X8_191 (pc := 74) C dX8_size_74 h (fun h => ?_)
            exact j_iret (pc := 77) C dX8_size_77 (Nat.le_of_ble_eq_true rfl) (Nat.le_of_ble_eq_true rfl) h
          · refine j_aload_n (pc := 64) C 0 dX8_size_64 rfl ?_
            refine gf_X8_7 (pc := 65) C dX8_size_65 h (fun a4 h => ?_)
            refine j_iconst (pc := 68) (v := (5 : Int32)) C dX8_size_68 rfl ?_
            refine j_iald (pc := 69) C dX8_size_69 h (fun h => ?_)
            refine j_goto (pc := 70) C 77 dX8_size_70 (by decide) ?_
            exact j_iret (pc := 77) C dX8_size_77 (Nat.le_of_ble_eq_true rfl) (Nat.le_of_ble_eq_true rfl) h
        · refine j_aload_n (pc := 49) C 0 dX8_size_49 rfl ?_
          refine gf_X8_13 (pc := 50) C dX8_size_50 h (fun a5 h => ?_)
          refine j_iconst (pc := 53) (v := (0 : Int32)) C dX8_size_53 rfl ?_
          refine j_iald (pc := 54) C dX8_size_54 h (fun h => ?_)
          refine j_goto (pc := 55) C 77 dX8_size_55 (by decide) ?_
          exact j_iret (pc := 77) C dX8_size_77 (Nat.le_of_ble_eq_true rfl) (Nat.le_of_ble_eq_true rfl) h
      · refine j_aload_n (pc := 35) C 0 dX8_size_35 rfl ?_
        refine gf_X8_7 (pc := 36) C dX8_size_36 h (fun a6 h => ?_)
        refine j_iload_n (pc := 39) C 1 dX8_size_39 rfl ?_
        refine j_iald (pc := 40) C dX8_size_40 h (fun h => ?_)
        refine j_goto (pc := 41) C 77 dX8_size_41 (by decide) ?_
        exact j_iret (pc := 77) C dX8_size_77 (Nat.le_of_ble_eq_true rfl) (Nat.le_of_ble_eq_true rfl) h
    · refine j_iconst (pc := 28) (v := (0 : Int32)) C dX8_size_28 rfl ?_
      exact j_iret (pc := 29) C dX8_size_29 (Nat.le_of_ble_eq_true rfl) (Nat.le_of_ble_eq_true rfl) h
  · refine j_iconst (pc := 16) (v := (1 : Int32)) C dX8_size_16 rfl ?_
    refine j_goto (pc := 17) C 21 dX8_size_17 (by decide) ?_
    refine j_iconst (pc := 21) (v := (1 : Int32)) C dX8_size_21 rfl ?_
    refine cs_X8_176 (pc := 22) C ⟨Nat.le_of_ble_eq_true rfl, Nat.le_of_ble_eq_true rfl⟩ ⟨Nat.le_of_ble_eq_true rfl, Nat.le_of_ble_eq_true rfl⟩ (Nat.le_of_ble_eq_true rfl) dX8_size_22 h (fun r7 M7 h => ?_)
    refine j_if_eq (pc := 25) C 30 dX8_size_25 (by decide) h (fun h => ?_) (fun h => ?_)
    · refine j_iload_n (pc := 30) C 1 dX8_size_30 rfl ?_
      refine j_iconst (pc := 31) (v := (5 : Int32)) C dX8_size_31 rfl ?_
      refine j_icmp_ge (pc := 32) C 44 dX8_size_32 (by decide) h (fun h => ?_) (fun h => ?_)
      · refine j_iload_n (pc := 44) C 1 dX8_size_44 rfl ?_
        refine j_iconst (pc := 45) (v := (5 : Int32)) C dX8_size_45 rfl ?_
        refine j_icmp_ne (pc := 46) C 58 dX8_size_46 (by decide) h (fun h => ?_) (fun h => ?_)
        · refine j_iload_n (pc := 58) C 1 dX8_size_58 rfl ?_
          refine j_bipush (pc := 59) (v := (6 : Int32)) C dX8_size_59 rfl ?_
          refine j_icmp_ne (pc := 61) C 73 dX8_size_61 (by decide) h (fun h => ?_) (fun h => ?_)
          · refine j_aload_n (pc := 73) C 0 dX8_size_73 rfl ?_
            refine gf_X8_191 (pc := 74) C dX8_size_74 h (fun h => ?_)
            exact j_iret (pc := 77) C dX8_size_77 (Nat.le_of_ble_eq_true rfl) (Nat.le_of_ble_eq_true rfl) h
          · refine j_aload_n (pc := 64) C 0 dX8_size_64 rfl ?_
            refine gf_X8_7 (pc := 65) C dX8_size_65 h (fun a8 h => ?_)
            refine j_iconst (pc := 68) (v := (5 : Int32)) C dX8_size_68 rfl ?_
            refine j_iald (pc := 69) C dX8_size_69 h (fun h => ?_)
            refine j_goto (pc := 70) C 77 dX8_size_70 (by decide) ?_
            exact j_iret (pc := 77) C dX8_size_77 (Nat.le_of_ble_eq_true rfl) (Nat.le_of_ble_eq_true rfl) h
        · refine j_aload_n (pc := 49) C 0 dX8_size_49 rfl ?_
          refine gf_X8_13 (pc := 50) C dX8_size_50 h (fun a9 h => ?_)
          refine j_iconst (pc := 53) (v := (0 : Int32)) C dX8_size_53 rfl ?_
          refine j_iald (pc := 54) C dX8_size_54 h (fun h => ?_)
          refine j_goto (pc := 55) C 77 dX8_size_55 (by decide) ?_
          exact j_iret (pc := 77) C dX8_size_77 (Nat.le_of_ble_eq_true rfl) (Nat.le_of_ble_eq_true rfl) h
      · refine j_aload_n (pc := 35) C 0 dX8_size_35 rfl ?_
        refine gf_X8_7 (pc := 36) C dX8_size_36 h (fun a10 h => ?_)
        refine j_iload_n (pc := 39) C 1 dX8_size_39 rfl ?_
        refine j_iald (pc := 40) C dX8_size_40 h (fun h => ?_)
        refine j_goto (pc := 41) C 77 dX8_size_41 (by decide) ?_
        exact j_iret (pc := 77) C dX8_size_77 (Nat.le_of_ble_eq_true rfl) (Nat.le_of_ble_eq_true rfl) h
    · refine j_iconst (pc := 28) (v := (0 : Int32)) C dX8_size_28 rfl ?_
      exact j_iret (pc := 29) C dX8_size_29 (Nat.le_of_ble_eq_true rfl) (Nat.le_of_ble_eq_true rfl) h
abbrev rm_X8_find : Room := { frames := 2, cells := 0, slots := 0, locals := 42 }
def l_X8_find_61 (P : Int32 → Mm → Prop) (K87 : Mm → Nat → Int32 → Int32 → Prop) : Nat → Mm → Nat → Int32 → Int32 → Prop
  | 0, _, _, _, _ => False
  | n + 1, M, x0, x1, x2 => zk M x0 = 8 ∧ zk M x0 = 8 ∧ w_X8_byteAt M x0 (zI M x0 8) (fun r9 M9 => (if r9 = (32 : Int32) then zk M9 x0 = 8 ∧ zk M9 x0 = 8 ∧ (∀ M10, M10 = sI M9 x0 8 ((zI M9 x0 8) + (1 : Int32)) → l_X8_find_61 P K87 n M10 x0 x1 x2) else K87 M9 x0 x1 x2))
set_option maxHeartbeats 4000000 in
set_option maxRecDepth 100000 in
theorem jl_X8_find_61 {P : Int32 → Mm → Prop} {K87 : Mm → Nat → Int32 → Int32 → Prop} (C : Cx p l s m args meth c cX8_find 3 RX8 (some .int) E) (hkc : kc ≤ rm_X8_find.cells ∧ ks ≤ rm_X8_find.slots) (k87 : ∀ M x0 x1 x2, K87 M x0 x1 x2 → J p l e rm_X8_find s m args below meth c (QI below E P args s rm_X8_find.cells rm_X8_find.slots) E 3 M kc ks 87 [(0, .ref x0), (1, .int x1), (2, .int x2)] []) : ∀ n M x0 x1 x2, l_X8_find_61 P K87 n M x0 x1 x2 → J p l e rm_X8_find s m args below meth c (QI below E P args s rm_X8_find.cells rm_X8_find.slots) E 3 M kc ks 61 [(0, .ref x0), (1, .int x1), (2, .int x2)] [] := by
  intro n
  induction n with
  | zero => intro M x0 x1 x2 h; exact h.elim
  | succ n ih =>
    intro M x0 x1 x2 h
    rw [l_X8_find_61] at h
    refine j_aload_n (pc := 61) C 0 dX8_find_61 rfl ?_
    refine j_aload_n (pc := 62) C 0 dX8_find_62 rfl ?_
    refine gf_X8_73 (pc := 63) C dX8_find_63 h (fun h => ?_)
    refine cs_X8_76 (pc := 66) C ⟨Nat.le_of_ble_eq_true rfl, Nat.le_of_ble_eq_true rfl⟩ hkc (Nat.le_of_ble_eq_true rfl) dX8_find_66 h (fun r9 M9 h => ?_)
    refine j_bipush (pc := 69) (v := (32 : Int32)) C dX8_find_69 rfl ?_
    refine j_icmp_ne (pc := 71) C 87 dX8_find_71 (by decide) h (fun h => ?_) (fun h => ?_)
    · exact j_weak [0, 1, 2] rfl (k87 _ _ _ _ h)
    · refine j_aload_n (pc := 74) C 0 dX8_find_74 rfl ?_
      refine j_dup (pc := 75) C dX8_find_75 rfl ?_
      refine gf_X8_73 (pc := 76) C dX8_find_76 h (fun h => ?_)
      refine j_iconst (pc := 79) (v := (1 : Int32)) C dX8_find_79 rfl ?_
      refine j_iadd (pc := 80) C dX8_find_80 ?_
      refine pf_X8_73 (pc := 81) C dX8_find_81 h (fun M10 h => ?_)
      refine j_goto (pc := 84) C 61 dX8_find_84 (by decide) ?_
      exact j_weak [0, 1, 2] rfl (ih _ _ _ _ h)
def w_X8_find (M : Mm) (x0 : Nat) (x1 : Int32) (P : Int32 → Mm → Prop) : Prop := zk M x0 = 8 ∧ (∀ M1, M1 = sI M x0 0 (0 : Int32) → w_X8_within M1 x1 (0 : Int32) (3 : Int32) (fun r2 M2 => (if r2 = 0 then zk M2 x0 = 8 ∧ w_X8_throwsIf M2 x0 (1 : Int32) (1 : Int32) (fun r15 M15 => (if r15 = 0 then zk M15 x0 = 8 ∧ zk M15 x0 = 8 ∧ (∀ M16, M16 = sI M15 x0 6 (zI M15 x0 5) → zk M16 x0 = 8 ∧ (∀ M17, M17 = sI M16 x0 5 (0 : Int32) → zk M17 x0 = 8 ∧ (∀ M18, M18 = sI M17 x0 7 (0 : Int32) → zk M18 x0 = 8 ∧ (∀ M19, M19 = sI M18 x0 8 (0 : Int32) → zk M19 x0 = 8 ∧ w_X8_takesLetters M19 x0 (fun M20 => zk M20 x0 = 8 ∧ (∃ n61, l_X8_find_61 P (fun M21 x0_21 x1_21 x2_21 => (if x2_21 = 0 then P (-1 : Int32) M21 else (if (8 : Int32) < x2_21 then P (-1 : Int32) M21 else zk M21 x0_21 = 8 ∧ zk M21 x0_21 = 8 ∧ (if (zI M21 x0_21 6) ≤ (zI M21 x0_21 8) then (zk M21 x0_21 = 8 ∧ ∃ a22, zR M21 x0_21 3 = some a22 ∧ (zk M21 x0_21 = 8 ∧ ∃ a23, zR M21 x0_21 1 = some a23 ∧ zk M21 a23 = 10 ∧ vp_in ((1 : Int32) + x1_21) (zl M21 a23) ∧ zk M21 x0_21 = 8 ∧ w_X8_named M21 a22 x1_21 (zI M21 a23 ((1 : Int32) + x1_21).toNatClampNeg) (zJ M21 x0_21 11) (fun r24 M24 => P r24 M24))) else P (-1 : Int32) M21)))) n61 M20 x0 x1 (zI M20 x0 8))))))) else P (0 : Int32) M15)) else zk M2 x0 = 8 ∧ w_X8_throwsIf M2 x0 (0 : Int32) (1 : Int32) (fun r3 M3 => (if r3 = 0 then zk M3 x0 = 8 ∧ zk M3 x0 = 8 ∧ (∀ M4, M4 = sI M3 x0 6 (zI M3 x0 5) → zk M4 x0 = 8 ∧ (∀ M5, M5 = sI M4 x0 5 (0 : Int32) → zk M5 x0 = 8 ∧ (∀ M6, M6 = sI M5 x0 7 (0 : Int32) → zk M6 x0 = 8 ∧ (∀ M7, M7 = sI M6 x0 8 (0 : Int32) → zk M7 x0 = 8 ∧ w_X8_takesLetters M7 x0 (fun M8 => zk M8 x0 = 8 ∧ (∃ n61, l_X8_find_61 P (fun M11 x0_11 x1_11 x2_11 => (if x2_11 = 0 then P (-1 : Int32) M11 else (if (8 : Int32) < x2_11 then P (-1 : Int32) M11 else zk M11 x0_11 = 8 ∧ zk M11 x0_11 = 8 ∧ (if (zI M11 x0_11 6) ≤ (zI M11 x0_11 8) then (zk M11 x0_11 = 8 ∧ ∃ a12, zR M11 x0_11 3 = some a12 ∧ (zk M11 x0_11 = 8 ∧ ∃ a13, zR M11 x0_11 1 = some a13 ∧ zk M11 a13 = 10 ∧ vp_in ((1 : Int32) + x1_11) (zl M11 a13) ∧ zk M11 x0_11 = 8 ∧ w_X8_named M11 a12 x1_11 (zI M11 a13 ((1 : Int32) + x1_11).toNatClampNeg) (zJ M11 x0_11 11) (fun r14 M14 => P r14 M14))) else P (-1 : Int32) M11)))) n61 M8 x0 x1 (zI M8 x0 8))))))) else P (0 : Int32) M3)))))
set_option maxHeartbeats 4000000 in
set_option maxRecDepth 100000 in
theorem c_X8_find (l : Launch) (E : EV) (M : Mm) (x0 : Nat) (x1 : Int32) (P : Int32 → Mm → Prop) (h : w_X8_find M x0 x1 P) : CtI l E yX8_find cX8_find 3 .int rm_X8_find 0 0 [.ref x0, .int x1] M P := by
  refine ctI_of (by decide +kernel) (Nat.le_of_ble_eq_true rfl) ?_
  intro p e s m args below meth c C
  rw [w_X8_find] at h
  show J p l e rm_X8_find s m args below meth c (QI below E P args s 0 0) E 3 M 0 0 0 [(0, .ref x0), (1, .int x1)] []
  refine j_aload_n (pc := 0) C 0 dX8_find_0 rfl ?_
  refine j_iconst (pc := 1) (v := (0 : Int32)) C dX8_find_1 rfl ?_
  refine pf_X8_56 (pc := 2) C dX8_find_2 h (fun M1 h => ?_)
  refine j_aload_n (pc := 5) C 0 dX8_find_5 rfl ?_
  refine j_iload_n (pc := 6) C 1 dX8_find_6 rfl ?_
  refine j_iconst (pc := 7) (v := (0 : Int32)) C dX8_find_7 rfl ?_
  refine j_iconst (pc := 8) (v := (3 : Int32)) C dX8_find_8 rfl ?_
  refine cs_X8_80 (pc := 9) C ⟨Nat.le_of_ble_eq_true rfl, Nat.le_of_ble_eq_true rfl⟩ ⟨Nat.le_of_ble_eq_true rfl, Nat.le_of_ble_eq_true rfl⟩ (Nat.le_of_ble_eq_true rfl) dX8_find_9 h (fun r2 M2 h => ?_)
  refine j_if_ne (pc := 12) C 19 dX8_find_12 (by decide) h (fun h => ?_) (fun h => ?_)
  · refine j_iconst (pc := 19) (v := (0 : Int32)) C dX8_find_19 rfl ?_
    refine j_iconst (pc := 20) (v := (1 : Int32)) C dX8_find_20 rfl ?_
    refine cs_X8_176 (pc := 21) C ⟨Nat.le_of_ble_eq_true rfl, Nat.le_of_ble_eq_true rfl⟩ ⟨Nat.le_of_ble_eq_true rfl, Nat.le_of_ble_eq_true rfl⟩ (Nat.le_of_ble_eq_true rfl) dX8_find_21 h (fun r3 M3 h => ?_)
    refine j_if_eq (pc := 24) C 29 dX8_find_24 (by decide) h (fun h => ?_) (fun h => ?_)
    · refine j_aload_n (pc := 29) C 0 dX8_find_29 rfl ?_
      refine j_aload_n (pc := 30) C 0 dX8_find_30 rfl ?_
      refine gf_X8_59 (pc := 31) C dX8_find_31 h (fun h => ?_)
      refine pf_X8_66 (pc := 34) C dX8_find_34 h (fun M4 h => ?_)
      refine j_aload_n (pc := 37) C 0 dX8_find_37 rfl ?_
      refine j_iconst (pc := 38) (v := (0 : Int32)) C dX8_find_38 rfl ?_
      refine pf_X8_59 (pc := 39) C dX8_find_39 h (fun M5 h => ?_)
      refine j_aload_n (pc := 42) C 0 dX8_find_42 rfl ?_
      refine j_iconst (pc := 43) (v := (0 : Int32)) C dX8_find_43 rfl ?_
      refine pf_X8_84 (pc := 44) C dX8_find_44 h (fun M6 h => ?_)
      refine j_aload_n (pc := 47) C 0 dX8_find_47 rfl ?_
      refine j_iconst (pc := 48) (v := (0 : Int32)) C dX8_find_48 rfl ?_
      refine pf_X8_73 (pc := 49) C dX8_find_49 h (fun M7 h => ?_)
      refine j_aload_n (pc := 52) C 0 dX8_find_52 rfl ?_
      refine cs_X8_93 (pc := 53) C ⟨Nat.le_of_ble_eq_true rfl, Nat.le_of_ble_eq_true rfl⟩ ⟨Nat.le_of_ble_eq_true rfl, Nat.le_of_ble_eq_true rfl⟩ (Nat.le_of_ble_eq_true rfl) dX8_find_53 h (fun M8 h => ?_)
      refine j_aload_n (pc := 56) C 0 dX8_find_56 rfl ?_
      refine gf_X8_73 (pc := 57) C dX8_find_57 h (fun h => ?_)
      refine j_istore_n (pc := 60) C [(2, _), (0, _), (1, _)] dX8_find_60 (by decide) rfl ?_
      obtain ⟨n61, h⟩ := h
      refine j_weak [1, 2, 0] rfl (jl_X8_find_61 C ⟨Nat.le_of_ble_eq_true rfl, Nat.le_of_ble_eq_true rfl⟩ (fun M11 x0_11 x1_11 x2_11 h => ?_) n61 _ _ _ _ h)
      · refine j_iload_n (pc := 87) C 2 dX8_find_87 rfl ?_
        refine j_if_eq (pc := 88) C 108 dX8_find_88 (by decide) h (fun h => ?_) (fun h => ?_)
        · refine j_iconst (pc := 108) (v := (-1 : Int32)) C dX8_find_108 rfl ?_
          refine j_goto (pc := 109) C 132 dX8_find_109 (by decide) ?_
          exact j_iret (pc := 132) C dX8_find_132 (Nat.le_of_ble_eq_true rfl) (Nat.le_of_ble_eq_true rfl) h
        · refine j_iload_n (pc := 91) C 2 dX8_find_91 rfl ?_
          refine j_bipush (pc := 92) (v := (8 : Int32)) C dX8_find_92 rfl ?_
          refine j_icmp_gt (pc := 94) C 108 dX8_find_94 (by decide) h (fun h => ?_) (fun h => ?_)
          · refine j_iconst (pc := 108) (v := (-1 : Int32)) C dX8_find_108 rfl ?_
            refine j_goto (pc := 109) C 132 dX8_find_109 (by decide) ?_
            exact j_iret (pc := 132) C dX8_find_132 (Nat.le_of_ble_eq_true rfl) (Nat.le_of_ble_eq_true rfl) h
          · refine j_aload_n (pc := 97) C 0 dX8_find_97 rfl ?_
            refine gf_X8_73 (pc := 98) C dX8_find_98 h (fun h => ?_)
            refine j_aload_n (pc := 101) C 0 dX8_find_101 rfl ?_
            refine gf_X8_66 (pc := 102) C dX8_find_102 h (fun h => ?_)
            refine j_icmp_ge (pc := 105) C 112 dX8_find_105 (by decide) h (fun h => ?_) (fun h => ?_)
            · refine j_aload_n (pc := 112) C 0 dX8_find_112 rfl ?_
              refine gf_X8_16 (pc := 113) C dX8_find_113 h (fun a12 h => ?_)
              refine j_iload_n (pc := 116) C 1 dX8_find_116 rfl ?_
              refine j_aload_n (pc := 117) C 0 dX8_find_117 rfl ?_
              refine gf_X8_7 (pc := 118) C dX8_find_118 h (fun a13 h => ?_)
              refine j_iconst (pc := 121) (v := (1 : Int32)) C dX8_find_121 rfl ?_
              refine j_iload_n (pc := 122) C 1 dX8_find_122 rfl ?_
              refine j_iadd (pc := 123) C dX8_find_123 ?_
              refine j_iald (pc := 124) C dX8_find_124 h (fun h => ?_)
              refine j_aload_n (pc := 125) C 0 dX8_find_125 rfl ?_
              refine gf_X8_69 (pc := 126) C dX8_find_126 h (fun h => ?_)
              refine cs_X8_126 (pc := 129) C ⟨Nat.le_of_ble_eq_true rfl, Nat.le_of_ble_eq_true rfl⟩ ⟨Nat.le_of_ble_eq_true rfl, Nat.le_of_ble_eq_true rfl⟩ (Nat.le_of_ble_eq_true rfl) dX8_find_129 h (fun r14 M14 h => ?_)
              exact j_iret (pc := 132) C dX8_find_132 (Nat.le_of_ble_eq_true rfl) (Nat.le_of_ble_eq_true rfl) h
            · refine j_iconst (pc := 108) (v := (-1 : Int32)) C dX8_find_108 rfl ?_
              refine j_goto (pc := 109) C 132 dX8_find_109 (by decide) ?_
              exact j_iret (pc := 132) C dX8_find_132 (Nat.le_of_ble_eq_true rfl) (Nat.le_of_ble_eq_true rfl) h
    · refine j_iconst (pc := 27) (v := (0 : Int32)) C dX8_find_27 rfl ?_
      exact j_iret (pc := 28) C dX8_find_28 (Nat.le_of_ble_eq_true rfl) (Nat.le_of_ble_eq_true rfl) h
  · refine j_iconst (pc := 15) (v := (1 : Int32)) C dX8_find_15 rfl ?_
    refine j_goto (pc := 16) C 20 dX8_find_16 (by decide) ?_
    refine j_iconst (pc := 20) (v := (1 : Int32)) C dX8_find_20 rfl ?_
    refine cs_X8_176 (pc := 21) C ⟨Nat.le_of_ble_eq_true rfl, Nat.le_of_ble_eq_true rfl⟩ ⟨Nat.le_of_ble_eq_true rfl, Nat.le_of_ble_eq_true rfl⟩ (Nat.le_of_ble_eq_true rfl) dX8_find_21 h (fun r15 M15 h => ?_)
    refine j_if_eq (pc := 24) C 29 dX8_find_24 (by decide) h (fun h => ?_) (fun h => ?_)
    · refine j_aload_n (pc := 29) C 0 dX8_find_29 rfl ?_
      refine j_aload_n (pc := 30) C 0 dX8_find_30 rfl ?_
      refine gf_X8_59 (pc := 31) C dX8_find_31 h (fun h => ?_)
      refine pf_X8_66 (pc := 34) C dX8_find_34 h (fun M16 h => ?_)
      refine j_aload_n (pc := 37) C 0 dX8_find_37 rfl ?_
      refine j_iconst (pc := 38) (v := (0 : Int32)) C dX8_find_38 rfl ?_
      refine pf_X8_59 (pc := 39) C dX8_find_39 h (fun M17 h => ?_)
      refine j_aload_n (pc := 42) C 0 dX8_find_42 rfl ?_
      refine j_iconst (pc := 43) (v := (0 : Int32)) C dX8_find_43 rfl ?_
      refine pf_X8_84 (pc := 44) C dX8_find_44 h (fun M18 h => ?_)
      refine j_aload_n (pc := 47) C 0 dX8_find_47 rfl ?_
      refine j_iconst (pc := 48) (v := (0 : Int32)) C dX8_find_48 rfl ?_
      refine pf_X8_73 (pc := 49) C dX8_find_49 h (fun M19 h => ?_)
      refine j_aload_n (pc := 52) C 0 dX8_find_52 rfl ?_
      refine cs_X8_93 (pc := 53) C ⟨Nat.le_of_ble_eq_true rfl, Nat.le_of_ble_eq_true rfl⟩ ⟨Nat.le_of_ble_eq_true rfl, Nat.le_of_ble_eq_true rfl⟩ (Nat.le_of_ble_eq_true rfl) dX8_find_53 h (fun M20 h => ?_)
      refine j_aload_n (pc := 56) C 0 dX8_find_56 rfl ?_
      refine gf_X8_73 (pc := 57) C dX8_find_57 h (fun h => ?_)
      refine j_istore_n (pc := 60) C [(2, _), (0, _), (1, _)] dX8_find_60 (by decide) rfl ?_
      obtain ⟨n61, h⟩ := h
      refine j_weak [1, 2, 0] rfl (jl_X8_find_61 C ⟨Nat.le_of_ble_eq_true rfl, Nat.le_of_ble_eq_true rfl⟩ (fun M21 x0_21 x1_21 x2_21 h => ?_) n61 _ _ _ _ h)
      · refine j_iload_n (pc := 87) C 2 dX8_find_87 rfl ?_
        refine j_if_eq (pc := 88) C 108 dX8_find_88 (by decide) h (fun h => ?_) (fun h => ?_)
        · refine j_iconst (pc := 108) (v := (-1 : Int32)) C dX8_find_108 rfl ?_
          refine j_goto (pc := 109) C 132 dX8_find_109 (by decide) ?_
          exact j_iret (pc := 132) C dX8_find_132 (Nat.le_of_ble_eq_true rfl) (Nat.le_of_ble_eq_true rfl) h
        · refine j_iload_n (pc := 91) C 2 dX8_find_91 rfl ?_
          refine j_bipush (pc := 92) (v := (8 : Int32)) C dX8_find_92 rfl ?_
          refine j_icmp_gt (pc := 94) C 108 dX8_find_94 (by decide) h (fun h => ?_) (fun h => ?_)
          · refine j_iconst (pc := 108) (v := (-1 : Int32)) C dX8_find_108 rfl ?_
            refine j_goto (pc := 109) C 132 dX8_find_109 (by decide) ?_
            exact j_iret (pc := 132) C dX8_find_132 (Nat.le_of_ble_eq_true rfl) (Nat.le_of_ble_eq_true rfl) h
          · refine j_aload_n (pc := 97) C 0 dX8_find_97 rfl ?_
            refine gf_X8_73 (pc := 98) C dX8_find_98 h (fun h => ?_)
            refine j_aload_n (pc := 101) C 0 dX8_find_101 rfl ?_
            refine gf_X8_66 (pc := 102) C dX8_find_102 h (fun h => ?_)
            refine j_icmp_ge (pc := 105) C 112 dX8_find_105 (by decide) h (fun h => ?_) (fun h => ?_)
            · refine j_aload_n (pc := 112) C 0 dX8_find_112 rfl ?_
              refine gf_X8_16 (pc := 113) C dX8_find_113 h (fun a22 h => ?_)
              refine j_iload_n (pc := 116) C 1 dX8_find_116 rfl ?_
              refine j_aload_n (pc := 117) C 0 dX8_find_117 rfl ?_
              refine gf_X8_7 (pc := 118) C dX8_find_118 h (fun a23 h => ?_)
              refine j_iconst (pc := 121) (v := (1 : Int32)) C dX8_find_121 rfl ?_
              refine j_iload_n (pc := 122) C 1 dX8_find_122 rfl ?_
              refine j_iadd (pc := 123) C dX8_find_123 ?_
              refine j_iald (pc := 124) C dX8_find_124 h (fun h => ?_)
              refine j_aload_n (pc := 125) C 0 dX8_find_125 rfl ?_
              refine gf_X8_69 (pc := 126) C dX8_find_126 h (fun h => ?_)
              refine cs_X8_126 (pc := 129) C ⟨Nat.le_of_ble_eq_true rfl, Nat.le_of_ble_eq_true rfl⟩ ⟨Nat.le_of_ble_eq_true rfl, Nat.le_of_ble_eq_true rfl⟩ (Nat.le_of_ble_eq_true rfl) dX8_find_129 h (fun r24 M24 h => ?_)
              exact j_iret (pc := 132) C dX8_find_132 (Nat.le_of_ble_eq_true rfl) (Nat.le_of_ble_eq_true rfl) h
            · refine j_iconst (pc := 108) (v := (-1 : Int32)) C dX8_find_108 rfl ?_
              refine j_goto (pc := 109) C 132 dX8_find_109 (by decide) ?_
              exact j_iret (pc := 132) C dX8_find_132 (Nat.le_of_ble_eq_true rfl) (Nat.le_of_ble_eq_true rfl) h
    · refine j_iconst (pc := 27) (v := (0 : Int32)) C dX8_find_27 rfl ?_
      exact j_iret (pc := 28) C dX8_find_28 (Nat.le_of_ble_eq_true rfl) (Nat.le_of_ble_eq_true rfl) h
abbrev rm_X8_no : Room := { frames := 1, cells := 0, slots := 0, locals := 22 }
def w_X8_no (M : Mm) (x0 : Nat) (x1 : Int32) (x2 : Int32) (P : Int32 → Mm → Prop) : Prop := w_X8_within M x1 (0 : Int32) (x2 - (1 : Int32)) (fun r1 M1 => (if r1 = 0 then zk M1 x0 = 8 ∧ w_X8_throwsIf M1 x0 (1 : Int32) (1 : Int32) (fun r3 M3 => (r3 = 0 ∨ r3 = 1) ∧ P r3 M3) else zk M1 x0 = 8 ∧ w_X8_throwsIf M1 x0 (0 : Int32) (1 : Int32) (fun r2 M2 => (r2 = 0 ∨ r2 = 1) ∧ P r2 M2)))
set_option maxHeartbeats 4000000 in
set_option maxRecDepth 100000 in
theorem c_X8_no (l : Launch) (E : EV) (M : Mm) (x0 : Nat) (x1 : Int32) (x2 : Int32) (P : Int32 → Mm → Prop) (h : w_X8_no M x0 x1 x2 P) : CtI l E yX8_no cX8_no 3 .boolean rm_X8_no 0 0 [.ref x0, .int x1, .int x2] M P := by
  refine ctI_of (by decide +kernel) (Nat.le_of_ble_eq_true rfl) ?_
  intro p e s m args below meth c C
  rw [w_X8_no] at h
  show J p l e rm_X8_no s m args below meth c (QI below E P args s 0 0) E 3 M 0 0 0 [(0, .ref x0), (1, .int x1), (2, .int x2)] []
  refine j_aload_n (pc := 0) C 0 dX8_no_0 rfl ?_
  refine j_iload_n (pc := 1) C 1 dX8_no_1 rfl ?_
  refine j_iconst (pc := 2) (v := (0 : Int32)) C dX8_no_2 rfl ?_
  refine j_iload_n (pc := 3) C 2 dX8_no_3 rfl ?_
  refine j_iconst (pc := 4) (v := (1 : Int32)) C dX8_no_4 rfl ?_
  refine j_isub (pc := 5) C dX8_no_5 ?_
  refine cs_X8_80 (pc := 6) C ⟨Nat.le_of_ble_eq_true rfl, Nat.le_of_ble_eq_true rfl⟩ ⟨Nat.le_of_ble_eq_true rfl, Nat.le_of_ble_eq_true rfl⟩ (Nat.le_of_ble_eq_true rfl) dX8_no_6 h (fun r1 M1 h => ?_)
  refine j_if_ne (pc := 9) C 16 dX8_no_9 (by decide) h (fun h => ?_) (fun h => ?_)
  · refine j_iconst (pc := 16) (v := (0 : Int32)) C dX8_no_16 rfl ?_
    refine j_iconst (pc := 17) (v := (1 : Int32)) C dX8_no_17 rfl ?_
    refine cs_X8_176 (pc := 18) C ⟨Nat.le_of_ble_eq_true rfl, Nat.le_of_ble_eq_true rfl⟩ ⟨Nat.le_of_ble_eq_true rfl, Nat.le_of_ble_eq_true rfl⟩ (Nat.le_of_ble_eq_true rfl) dX8_no_18 h (fun r2 M2 h => ?_)
    exact j_zret (pc := 21) C dX8_no_21 (Nat.le_of_ble_eq_true rfl) (Nat.le_of_ble_eq_true rfl) h
  · refine j_iconst (pc := 12) (v := (1 : Int32)) C dX8_no_12 rfl ?_
    refine j_goto (pc := 13) C 17 dX8_no_13 (by decide) ?_
    refine j_iconst (pc := 17) (v := (1 : Int32)) C dX8_no_17 rfl ?_
    refine cs_X8_176 (pc := 18) C ⟨Nat.le_of_ble_eq_true rfl, Nat.le_of_ble_eq_true rfl⟩ ⟨Nat.le_of_ble_eq_true rfl, Nat.le_of_ble_eq_true rfl⟩ (Nat.le_of_ble_eq_true rfl) dX8_no_18 h (fun r3 M3 h => ?_)
    exact j_zret (pc := 21) C dX8_no_21 (Nat.le_of_ble_eq_true rfl) (Nat.le_of_ble_eq_true rfl) h
abbrev rm_X8_noWhat : Room := { frames := 1, cells := 0, slots := 0, locals := 22 }
def w_X8_noWhat (M : Mm) (x0 : Nat) (x1 : Int32) (x2 : Int32) (P : Int32 → Mm → Prop) : Prop := w_X8_within M x1 (0 : Int32) x2 (fun r1 M1 => (if r1 = 0 then zk M1 x0 = 8 ∧ w_X8_throwsIf M1 x0 (1 : Int32) (2 : Int32) (fun r3 M3 => (r3 = 0 ∨ r3 = 1) ∧ P r3 M3) else zk M1 x0 = 8 ∧ w_X8_throwsIf M1 x0 (0 : Int32) (2 : Int32) (fun r2 M2 => (r2 = 0 ∨ r2 = 1) ∧ P r2 M2)))
set_option maxHeartbeats 4000000 in
set_option maxRecDepth 100000 in
theorem c_X8_noWhat (l : Launch) (E : EV) (M : Mm) (x0 : Nat) (x1 : Int32) (x2 : Int32) (P : Int32 → Mm → Prop) (h : w_X8_noWhat M x0 x1 x2 P) : CtI l E yX8_noWhat cX8_noWhat 3 .boolean rm_X8_noWhat 0 0 [.ref x0, .int x1, .int x2] M P := by
  refine ctI_of (by decide +kernel) (Nat.le_of_ble_eq_true rfl) ?_
  intro p e s m args below meth c C
  rw [w_X8_noWhat] at h
  show J p l e rm_X8_noWhat s m args below meth c (QI below E P args s 0 0) E 3 M 0 0 0 [(0, .ref x0), (1, .int x1), (2, .int x2)] []
  refine j_aload_n (pc := 0) C 0 dX8_noWhat_0 rfl ?_
  refine j_iload_n (pc := 1) C 1 dX8_noWhat_1 rfl ?_
  refine j_iconst (pc := 2) (v := (0 : Int32)) C dX8_noWhat_2 rfl ?_
  refine j_iload_n (pc := 3) C 2 dX8_noWhat_3 rfl ?_
  refine cs_X8_80 (pc := 4) C ⟨Nat.le_of_ble_eq_true rfl, Nat.le_of_ble_eq_true rfl⟩ ⟨Nat.le_of_ble_eq_true rfl, Nat.le_of_ble_eq_true rfl⟩ (Nat.le_of_ble_eq_true rfl) dX8_noWhat_4 h (fun r1 M1 h => ?_)
  refine j_if_ne (pc := 7) C 14 dX8_noWhat_7 (by decide) h (fun h => ?_) (fun h => ?_)
  · refine j_iconst (pc := 14) (v := (0 : Int32)) C dX8_noWhat_14 rfl ?_
    refine j_iconst (pc := 15) (v := (2 : Int32)) C dX8_noWhat_15 rfl ?_
    refine cs_X8_176 (pc := 16) C ⟨Nat.le_of_ble_eq_true rfl, Nat.le_of_ble_eq_true rfl⟩ ⟨Nat.le_of_ble_eq_true rfl, Nat.le_of_ble_eq_true rfl⟩ (Nat.le_of_ble_eq_true rfl) dX8_noWhat_16 h (fun r2 M2 h => ?_)
    exact j_zret (pc := 19) C dX8_noWhat_19 (Nat.le_of_ble_eq_true rfl) (Nat.le_of_ble_eq_true rfl) h
  · refine j_iconst (pc := 10) (v := (1 : Int32)) C dX8_noWhat_10 rfl ?_
    refine j_goto (pc := 11) C 15 dX8_noWhat_11 (by decide) ?_
    refine j_iconst (pc := 15) (v := (2 : Int32)) C dX8_noWhat_15 rfl ?_
    refine cs_X8_176 (pc := 16) C ⟨Nat.le_of_ble_eq_true rfl, Nat.le_of_ble_eq_true rfl⟩ ⟨Nat.le_of_ble_eq_true rfl, Nat.le_of_ble_eq_true rfl⟩ (Nat.le_of_ble_eq_true rfl) dX8_noWhat_16 h (fun r3 M3 h => ?_)
    exact j_zret (pc := 19) C dX8_noWhat_19 (Nat.le_of_ble_eq_true rfl) (Nat.le_of_ble_eq_true rfl) h
theorem cs_X8_249 (C : Cx p l s m args meth c cc nL RX8 ret E) {b : Nat} {y0 : Int32} {y1 : Int32} {P : Int32 → Mm → Prop} (hR : rm_X8_no.frames + 1 ≤ R.frames ∧ 8 + (3 + 11) + rm_X8_no.locals ≤ R.locals) (hf : kc ≤ R.cells ∧ ks ≤ R.slots) (hst : (st.map fun v => v.category).sum ≤ 8) (d : decode cc pc = .ok (.invokevirtual 249, 3)) (h : zk M b = 8 ∧ w_X8_no M b y0 y1 P) (kk : ∀ r M', P r M' → J p l e R s m args below meth c Q E nL M' kc ks (pc + 3) lo (.int r :: st)) : J p l e R s m args below meth c Q E nL M kc ks pc lo (.int y1 :: .int y0 :: .ref b :: st) :=
  j_cV_I (n := 2) (As := [.int y0, .int y1]) C co_X8 rfl wd_1342 wd_60 h.1 (c_X8_no l E M b y0 y1 P h.2) ⟨wd_1343, wd_1340, wd_106, by decide +kernel, by decide +kernel, by decide +kernel⟩ rfl rfl hR hf rfl hst d kk
abbrev rm_X8_turn : Room := { frames := 2, cells := 0, slots := 0, locals := 44 }
def w_X8_turn (M : Mm) (x0 : Nat) (x1 : Int32) (P : Int32 → Mm → Prop) : Prop := zk M x0 = 8 ∧ (∀ M1, M1 = sI M x0 0 (0 : Int32) → (zk M1 x0 = 8 ∧ ∃ a2, zR M1 x0 1 = some a2 ∧ zk M1 a2 = 10 ∧ vp_in (1 : Int32) (zl M1 a2) ∧ zk M1 x0 = 8 ∧ w_X8_no M1 x0 x1 (zI M1 a2 (1 : Int32).toNatClampNeg) (fun r3 M3 => (if r3 = 0 then (zk M3 x0 = 8 ∧ ∃ a4, zR M3 x0 1 = some a4 ∧ zk M3 a4 = 10 ∧ vp_in ((6 : Int32) + x1) (zl M3 a4) ∧ P (zI M3 a4 ((6 : Int32) + x1).toNatClampNeg) M3) else P (0 : Int32) M3))))
set_option maxHeartbeats 4000000 in
set_option maxRecDepth 100000 in
theorem c_X8_turn (l : Launch) (E : EV) (M : Mm) (x0 : Nat) (x1 : Int32) (P : Int32 → Mm → Prop) (h : w_X8_turn M x0 x1 P) : CtI l E yX8_turn cX8_turn 2 .int rm_X8_turn 0 0 [.ref x0, .int x1] M P := by
  refine ctI_of (by decide +kernel) (Nat.le_of_ble_eq_true rfl) ?_
  intro p e s m args below meth c C
  rw [w_X8_turn] at h
  show J p l e rm_X8_turn s m args below meth c (QI below E P args s 0 0) E 2 M 0 0 0 [(0, .ref x0), (1, .int x1)] []
  refine j_aload_n (pc := 0) C 0 dX8_turn_0 rfl ?_
  refine j_iconst (pc := 1) (v := (0 : Int32)) C dX8_turn_1 rfl ?_
  refine pf_X8_56 (pc := 2) C dX8_turn_2 h (fun M1 h => ?_)
  refine j_aload_n (pc := 5) C 0 dX8_turn_5 rfl ?_
  refine j_iload_n (pc := 6) C 1 dX8_turn_6 rfl ?_
  refine j_aload_n (pc := 7) C 0 dX8_turn_7 rfl ?_
  refine gf_X8_7 (pc := 8) C dX8_turn_8 h (fun a2 h => ?_)
  refine j_iconst (pc := 11) (v := (1 : Int32)) C dX8_turn_11 rfl ?_
  refine j_iald (pc := 12) C dX8_turn_12 h (fun h => ?_)
  refine cs_X8_249 (pc := 13) C ⟨Nat.le_of_ble_eq_true rfl, Nat.le_of_ble_eq_true rfl⟩ ⟨Nat.le_of_ble_eq_true rfl, Nat.le_of_ble_eq_true rfl⟩ (Nat.le_of_ble_eq_true rfl) dX8_turn_13 h (fun r3 M3 h => ?_)
  refine j_if_eq (pc := 16) C 23 dX8_turn_16 (by decide) h (fun h => ?_) (fun h => ?_)
  · refine j_aload_n (pc := 23) C 0 dX8_turn_23 rfl ?_
    refine gf_X8_7 (pc := 24) C dX8_turn_24 h (fun a4 h => ?_)
    refine j_bipush (pc := 27) (v := (6 : Int32)) C dX8_turn_27 rfl ?_
    refine j_iload_n (pc := 29) C 1 dX8_turn_29 rfl ?_
    refine j_iadd (pc := 30) C dX8_turn_30 ?_
    refine j_iald (pc := 31) C dX8_turn_31 h (fun h => ?_)
    exact j_iret (pc := 32) C dX8_turn_32 (Nat.le_of_ble_eq_true rfl) (Nat.le_of_ble_eq_true rfl) h
  · refine j_iconst (pc := 19) (v := (0 : Int32)) C dX8_turn_19 rfl ?_
    refine j_goto (pc := 20) C 32 dX8_turn_20 (by decide) ?_
    exact j_iret (pc := 32) C dX8_turn_32 (Nat.le_of_ble_eq_true rfl) (Nat.le_of_ble_eq_true rfl) h
abbrev rm_X8_servicesOf : Room := { frames := 3, cells := 0, slots := 0, locals := 69 }
def l_X8_servicesOf_4 (P : Int32 → Mm → Prop) (K32 : Mm → Int32 → Prop) : Nat → Mm → Nat → Int32 → Int32 → Int32 → Prop
  | 0, _, _, _, _, _ => False
  | n + 1, M, x0, x1, x2, x3 => (zk M x0 = 8 ∧ ∃ a1, zR M x0 2 = some a1 ∧ zk M a1 = 10 ∧ vp_in (0 : Int32) (zl M a1) ∧ (if (zI M a1 (0 : Int32).toNatClampNeg) ≤ x3 then K32 M x2 else zk M x0 = 8 ∧ w_X8_inService M x0 x3 (fun r2 M2 => l_X8_servicesOf_4 P K32 n M2 x0 x1 (x2 + ((r2 >>> (x1 &&& 31)) &&& (1 : Int32))) (x3 + (1 : Int32)))))
set_option maxHeartbeats 4000000 in
set_option maxRecDepth 100000 in
theorem jl_X8_servicesOf_4 {P : Int32 → Mm → Prop} {K32 : Mm → Int32 → Prop} (C : Cx p l s m args meth c cX8_servicesOf 4 RX8 (some .int) E) (hkc : kc ≤ rm_X8_servicesOf.cells ∧ ks ≤ rm_X8_servicesOf.slots) (k32 : ∀ M x2, K32 M x2 → J p l e rm_X8_servicesOf s m args below meth c (QI below E P args s rm_X8_servicesOf.cells rm_X8_servicesOf.slots) E 4 M kc ks 32 [(2, .int x2)] []) : ∀ n M x0 x1 x2 x3, l_X8_servicesOf_4 P K32 n M x0 x1 x2 x3 → J p l e rm_X8_servicesOf s m args below meth c (QI below E P args s rm_X8_servicesOf.cells rm_X8_servicesOf.slots) E 4 M kc ks 4 [(0, .ref x0), (1, .int x1), (2, .int x2), (3, .int x3)] [] := by
  intro n
  induction n with
  | zero => intro M x0 x1 x2 x3 h; exact h.elim
  | succ n ih =>
    intro M x0 x1 x2 x3 h
    rw [l_X8_servicesOf_4] at h
    refine j_iload_n (pc := 4) C 3 dX8_servicesOf_4 rfl ?_
    refine j_aload_n (pc := 5) C 0 dX8_servicesOf_5 rfl ?_
    refine gf_X8_13 (pc := 6) C dX8_servicesOf_6 h (fun a1 h => ?_)
    refine j_iconst (pc := 9) (v := (0 : Int32)) C dX8_servicesOf_9 rfl ?_
    refine j_iald (pc := 10) C dX8_servicesOf_10 h (fun h => ?_)
    refine j_icmp_ge (pc := 11) C 32 dX8_servicesOf_11 (by decide) h (fun h => ?_) (fun h => ?_)
    · exact j_weak [2] rfl (k32 _ _ h)
    · refine j_iload_n (pc := 14) C 2 dX8_servicesOf_14 rfl ?_
      refine j_aload_n (pc := 15) C 0 dX8_servicesOf_15 rfl ?_
      refine j_iload_n (pc := 16) C 3 dX8_servicesOf_16 rfl ?_
      refine cs_X8_211 (pc := 17) C ⟨Nat.le_of_ble_eq_true rfl, Nat.le_of_ble_eq_true rfl⟩ hkc (Nat.le_of_ble_eq_true rfl) dX8_servicesOf_17 h (fun r2 M2 h => ?_)
      refine j_iload_n (pc := 20) C 1 dX8_servicesOf_20 rfl ?_
      refine j_ishr (pc := 21) C dX8_servicesOf_21 ?_
      refine j_iconst (pc := 22) (v := (1 : Int32)) C dX8_servicesOf_22 rfl ?_
      refine j_iand (pc := 23) C dX8_servicesOf_23 ?_
      refine j_iadd (pc := 24) C dX8_servicesOf_24 ?_
      refine j_istore_n (pc := 25) C [(2, _), (0, _), (1, _), (3, _)] dX8_servicesOf_25 (by decide) rfl ?_
      refine j_iinc (pc := 26) (v := (1 : Int32)) C 3 [(3, _), (2, _), (0, _), (1, _)] dX8_servicesOf_26 rfl rfl (by decide) rfl ?_
      refine j_goto (pc := 29) C 4 dX8_servicesOf_29 (by decide) ?_
      exact j_weak [2, 3, 1, 0] rfl (ih _ _ _ _ _ h)
def w_X8_servicesOf (M : Mm) (x0 : Nat) (x1 : Int32) (P : Int32 → Mm → Prop) : Prop := (∃ n4, l_X8_servicesOf_4 P (fun M3 x2_3 => P x2_3 M3) n4 M x0 x1 (0 : Int32) (0 : Int32))
set_option maxHeartbeats 4000000 in
set_option maxRecDepth 100000 in
theorem c_X8_servicesOf (l : Launch) (E : EV) (M : Mm) (x0 : Nat) (x1 : Int32) (P : Int32 → Mm → Prop) (h : w_X8_servicesOf M x0 x1 P) : CtI l E yX8_servicesOf cX8_servicesOf 4 .int rm_X8_servicesOf 0 0 [.ref x0, .int x1] M P := by
  refine ctI_of (by decide +kernel) (Nat.le_of_ble_eq_true rfl) ?_
  intro p e s m args below meth c C
  rw [w_X8_servicesOf] at h
  show J p l e rm_X8_servicesOf s m args below meth c (QI below E P args s 0 0) E 4 M 0 0 0 [(0, .ref x0), (1, .int x1)] []
  refine j_iconst (pc := 0) (v := (0 : Int32)) C dX8_servicesOf_0 rfl ?_
  refine j_istore_n (pc := 1) C [(2, _), (0, _), (1, _)] dX8_servicesOf_1 (by decide) rfl ?_
  refine j_iconst (pc := 2) (v := (0 : Int32)) C dX8_servicesOf_2 rfl ?_
  refine j_istore_n (pc := 3) C [(3, _), (2, _), (0, _), (1, _)] dX8_servicesOf_3 (by decide) rfl ?_
  obtain ⟨n4, h⟩ := h
  refine j_weak [2, 3, 1, 0] rfl (jl_X8_servicesOf_4 C ⟨Nat.le_of_ble_eq_true rfl, Nat.le_of_ble_eq_true rfl⟩ (fun M3 x2_3 h => ?_) n4 _ _ _ _ _ h)
  · refine j_iload_n (pc := 32) C 0 dX8_servicesOf_32 rfl ?_
    exact j_iret (pc := 33) C dX8_servicesOf_33 (Nat.le_of_ble_eq_true rfl) (Nat.le_of_ble_eq_true rfl) h
theorem cs_X8_252 (C : Cx p l s m args meth c cc nL RX8 ret E) {b : Nat} {y0 : Int32} {y1 : Int32} {P : Int32 → Mm → Prop} (hR : rm_X8_doublingsIn.frames + 1 ≤ R.frames ∧ 8 + (7 + 11) + rm_X8_doublingsIn.locals ≤ R.locals) (hf : kc ≤ R.cells ∧ ks ≤ R.slots) (hst : (st.map fun v => v.category).sum ≤ 8) (d : decode cc pc = .ok (.invokevirtual 252, 3)) (h : zk M b = 8 ∧ w_X8_doublingsIn M b y0 y1 P) (kk : ∀ r M', P r M' → J p l e R s m args below meth c Q E nL M' kc ks (pc + 3) lo (.int r :: st)) : J p l e R s m args below meth c Q E nL M kc ks pc lo (.int y1 :: .int y0 :: .ref b :: st) :=
  j_cV_I (n := 2) (As := [.int y0, .int y1]) C co_X8 rfl wd_1390 wd_71 h.1 (c_X8_doublingsIn l E M b y0 y1 P h.2) ⟨wd_1391, wd_1388, wd_106, by decide +kernel, by decide +kernel, by decide +kernel⟩ rfl rfl hR hf rfl hst d kk
abbrev rm_X8_doublingsOf : Room := { frames := 3, cells := 0, slots := 0, locals := 71 }
def l_X8_doublingsOf_4 (P : Int32 → Mm → Prop) (K29 : Mm → Int32 → Prop) : Nat → Mm → Nat → Int32 → Int32 → Int32 → Prop
  | 0, _, _, _, _, _ => False
  | n + 1, M, x0, x1, x2, x3 => (zk M x0 = 8 ∧ ∃ a1, zR M x0 2 = some a1 ∧ zk M a1 = 10 ∧ vp_in (0 : Int32) (zl M a1) ∧ (if (zI M a1 (0 : Int32).toNatClampNeg) ≤ x3 then K29 M x2 else zk M x0 = 8 ∧ w_X8_doublingsIn M x0 x3 x1 (fun r2 M2 => l_X8_doublingsOf_4 P K29 n M2 x0 x1 (x2 + r2) (x3 + (1 : Int32)))))
set_option maxHeartbeats 4000000 in
set_option maxRecDepth 100000 in
theorem jl_X8_doublingsOf_4 {P : Int32 → Mm → Prop} {K29 : Mm → Int32 → Prop} (C : Cx p l s m args meth c cX8_doublingsOf 4 RX8 (some .int) E) (hkc : kc ≤ rm_X8_doublingsOf.cells ∧ ks ≤ rm_X8_doublingsOf.slots) (k29 : ∀ M x2, K29 M x2 → J p l e rm_X8_doublingsOf s m args below meth c (QI below E P args s rm_X8_doublingsOf.cells rm_X8_doublingsOf.slots) E 4 M kc ks 29 [(2, .int x2)] []) : ∀ n M x0 x1 x2 x3, l_X8_doublingsOf_4 P K29 n M x0 x1 x2 x3 → J p l e rm_X8_doublingsOf s m args below meth c (QI below E P args s rm_X8_doublingsOf.cells rm_X8_doublingsOf.slots) E 4 M kc ks 4 [(0, .ref x0), (1, .int x1), (2, .int x2), (3, .int x3)] [] := by
  intro n
  induction n with
  | zero => intro M x0 x1 x2 x3 h; exact h.elim
  | succ n ih =>
    intro M x0 x1 x2 x3 h
    rw [l_X8_doublingsOf_4] at h
    refine j_iload_n (pc := 4) C 3 dX8_doublingsOf_4 rfl ?_
    refine j_aload_n (pc := 5) C 0 dX8_doublingsOf_5 rfl ?_
    refine gf_X8_13 (pc := 6) C dX8_doublingsOf_6 h (fun a1 h => ?_)
    refine j_iconst (pc := 9) (v := (0 : Int32)) C dX8_doublingsOf_9 rfl ?_
    refine j_iald (pc := 10) C dX8_doublingsOf_10 h (fun h => ?_)
    refine j_icmp_ge (pc := 11) C 29 dX8_doublingsOf_11 (by decide) h (fun h => ?_) (fun h => ?_)
    · exact j_weak [2] rfl (k29 _ _ h)
    · refine j_iload_n (pc := 14) C 2 dX8_doublingsOf_14 rfl ?_
      refine j_aload_n (pc := 15) C 0 dX8_doublingsOf_15 rfl ?_
      refine j_iload_n (pc := 16) C 3 dX8_doublingsOf_16 rfl ?_
      refine j_iload_n (pc := 17) C 1 dX8_doublingsOf_17 rfl ?_
      refine cs_X8_252 (pc := 18) C ⟨Nat.le_of_ble_eq_true rfl, Nat.le_of_ble_eq_true rfl⟩ hkc (Nat.le_of_ble_eq_true rfl) dX8_doublingsOf_18 h (fun r2 M2 h => ?_)
      refine j_iadd (pc := 21) C dX8_doublingsOf_21 ?_
      refine j_istore_n (pc := 22) C [(2, _), (0, _), (1, _), (3, _)] dX8_doublingsOf_22 (by decide) rfl ?_
      refine j_iinc (pc := 23) (v := (1 : Int32)) C 3 [(3, _), (2, _), (0, _), (1, _)] dX8_doublingsOf_23 rfl rfl (by decide) rfl ?_
      refine j_goto (pc := 26) C 4 dX8_doublingsOf_26 (by decide) ?_
      exact j_weak [2, 3, 1, 0] rfl (ih _ _ _ _ _ h)
def w_X8_doublingsOf (M : Mm) (x0 : Nat) (x1 : Int32) (P : Int32 → Mm → Prop) : Prop := (∃ n4, l_X8_doublingsOf_4 P (fun M3 x2_3 => P x2_3 M3) n4 M x0 x1 (0 : Int32) (0 : Int32))
set_option maxHeartbeats 4000000 in
set_option maxRecDepth 100000 in
theorem c_X8_doublingsOf (l : Launch) (E : EV) (M : Mm) (x0 : Nat) (x1 : Int32) (P : Int32 → Mm → Prop) (h : w_X8_doublingsOf M x0 x1 P) : CtI l E yX8_doublingsOf cX8_doublingsOf 4 .int rm_X8_doublingsOf 0 0 [.ref x0, .int x1] M P := by
  refine ctI_of (by decide +kernel) (Nat.le_of_ble_eq_true rfl) ?_
  intro p e s m args below meth c C
  rw [w_X8_doublingsOf] at h
  show J p l e rm_X8_doublingsOf s m args below meth c (QI below E P args s 0 0) E 4 M 0 0 0 [(0, .ref x0), (1, .int x1)] []
  refine j_iconst (pc := 0) (v := (0 : Int32)) C dX8_doublingsOf_0 rfl ?_
  refine j_istore_n (pc := 1) C [(2, _), (0, _), (1, _)] dX8_doublingsOf_1 (by decide) rfl ?_
  refine j_iconst (pc := 2) (v := (0 : Int32)) C dX8_doublingsOf_2 rfl ?_
  refine j_istore_n (pc := 3) C [(3, _), (2, _), (0, _), (1, _)] dX8_doublingsOf_3 (by decide) rfl ?_
  obtain ⟨n4, h⟩ := h
  refine j_weak [2, 3, 1, 0] rfl (jl_X8_doublingsOf_4 C ⟨Nat.le_of_ble_eq_true rfl, Nat.le_of_ble_eq_true rfl⟩ (fun M3 x2_3 h => ?_) n4 _ _ _ _ _ h)
  · refine j_iload_n (pc := 29) C 0 dX8_doublingsOf_29 rfl ?_
    exact j_iret (pc := 30) C dX8_doublingsOf_30 (Nat.le_of_ble_eq_true rfl) (Nat.le_of_ble_eq_true rfl) h
theorem cs_X8_255 (C : Cx p l s m args meth c cc nL RX8 ret E) {b : Nat} {y0 : Int32} {P : Int32 → Mm → Prop} (hR : rm_X8_servicesOf.frames + 1 ≤ R.frames ∧ 8 + (4 + 11) + rm_X8_servicesOf.locals ≤ R.locals) (hf : kc ≤ R.cells ∧ ks ≤ R.slots) (hst : (st.map fun v => v.category).sum ≤ 8) (d : decode cc pc = .ok (.invokevirtual 255, 3)) (h : zk M b = 8 ∧ w_X8_servicesOf M b y0 P) (kk : ∀ r M', P r M' → J p l e R s m args below meth c Q E nL M' kc ks (pc + 3) lo (.int r :: st)) : J p l e R s m args below meth c Q E nL M kc ks pc lo (.int y0 :: .ref b :: st) :=
  j_cV_I (n := 1) (As := [.int y0]) C co_X8 rfl wd_1362 wd_64 h.1 (c_X8_servicesOf l E M b y0 P h.2) ⟨wd_1363, wd_1360, wd_106, by decide +kernel, by decide +kernel, by decide +kernel⟩ rfl rfl hR hf rfl hst d kk
abbrev rm_X8_beyond : Room := { frames := 4, cells := 0, slots := 0, locals := 92 }
def w_X8_beyond (M : Mm) (x0 : Nat) (x1 : Int32) (P : Int32 → Mm → Prop) : Prop := zk M x0 = 8 ∧ w_X8_servicesOf M x0 x1 (fun r1 M1 => (zk M1 x0 = 8 ∧ ∃ a2, zR M1 x0 2 = some a2 ∧ zk M1 a2 = 10 ∧ vp_in ((1 : Int32) + x1) (zl M1 a2) ∧ P (r1 - (zI M1 a2 ((1 : Int32) + x1).toNatClampNeg)) M1))
set_option maxHeartbeats 4000000 in
set_option maxRecDepth 100000 in
theorem c_X8_beyond (l : Launch) (E : EV) (M : Mm) (x0 : Nat) (x1 : Int32) (P : Int32 → Mm → Prop) (h : w_X8_beyond M x0 x1 P) : CtI l E yX8_beyond cX8_beyond 2 .int rm_X8_beyond 0 0 [.ref x0, .int x1] M P := by
  refine ctI_of (by decide +kernel) (Nat.le_of_ble_eq_true rfl) ?_
  intro p e s m args below meth c C
  rw [w_X8_beyond] at h
  show J p l e rm_X8_beyond s m args below meth c (QI below E P args s 0 0) E 2 M 0 0 0 [(0, .ref x0), (1, .int x1)] []
  refine j_aload_n (pc := 0) C 0 dX8_beyond_0 rfl ?_
  refine j_iload_n (pc := 1) C 1 dX8_beyond_1 rfl ?_
  refine cs_X8_255 (pc := 2) C ⟨Nat.le_of_ble_eq_true rfl, Nat.le_of_ble_eq_true rfl⟩ ⟨Nat.le_of_ble_eq_true rfl, Nat.le_of_ble_eq_true rfl⟩ (Nat.le_of_ble_eq_true rfl) dX8_beyond_2 h (fun r1 M1 h => ?_)
  refine j_aload_n (pc := 5) C 0 dX8_beyond_5 rfl ?_
  refine gf_X8_13 (pc := 6) C dX8_beyond_6 h (fun a2 h => ?_)
  refine j_iconst (pc := 9) (v := (1 : Int32)) C dX8_beyond_9 rfl ?_
  refine j_iload_n (pc := 10) C 1 dX8_beyond_10 rfl ?_
  refine j_iadd (pc := 11) C dX8_beyond_11 ?_
  refine j_iald (pc := 12) C dX8_beyond_12 h (fun h => ?_)
  refine j_isub (pc := 13) C dX8_beyond_13 ?_
  exact j_iret (pc := 14) C dX8_beyond_14 (Nat.le_of_ble_eq_true rfl) (Nat.le_of_ble_eq_true rfl) h
theorem cs_X8_258 (C : Cx p l s m args meth c cc nL RX8 ret E) {b : Nat} {y0 : Int32} {P : Int32 → Mm → Prop} (hR : rm_X8_beyond.frames + 1 ≤ R.frames ∧ 8 + (2 + 11) + rm_X8_beyond.locals ≤ R.locals) (hf : kc ≤ R.cells ∧ ks ≤ R.slots) (hst : (st.map fun v => v.category).sum ≤ 8) (d : decode cc pc = .ok (.invokevirtual 258, 3)) (h : zk M b = 8 ∧ w_X8_beyond M b y0 P) (kk : ∀ r M', P r M' → J p l e R s m args below meth c Q E nL M' kc ks (pc + 3) lo (.int r :: st)) : J p l e R s m args below meth c Q E nL M kc ks pc lo (.int y0 :: .ref b :: st) :=
  j_cV_I (n := 1) (As := [.int y0]) C co_X8 rfl wd_1394 wd_72 h.1 (c_X8_beyond l E M b y0 P h.2) ⟨wd_1395, wd_1392, wd_106, by decide +kernel, by decide +kernel, by decide +kernel⟩ rfl rfl hR hf rfl hst d kk
abbrev rm_X8_overtimeOf : Room := { frames := 5, cells := 0, slots := 0, locals := 113 }
def w_X8_overtimeOf (M : Mm) (x0 : Nat) (x1 : Int32) (P : Int32 → Mm → Prop) : Prop := zk M x0 = 8 ∧ w_X8_beyond M x0 x1 (fun r1 M1 => (if r1 ≤ 0 then P (0 : Int32) M1 else zk M1 x0 = 8 ∧ w_X8_beyond M1 x0 x1 (fun r2 M2 => zk M2 x0 = 8 ∧ w_X8_ofPlayer M2 x0 x1 (0 : Int32) (fun r3 M3 => P (r2 * r3) M3))))
set_option maxHeartbeats 4000000 in
set_option maxRecDepth 100000 in
theorem c_X8_overtimeOf (l : Launch) (E : EV) (M : Mm) (x0 : Nat) (x1 : Int32) (P : Int32 → Mm → Prop) (h : w_X8_overtimeOf M x0 x1 P) : CtI l E yX8_overtimeOf cX8_overtimeOf 2 .int rm_X8_overtimeOf 0 0 [.ref x0, .int x1] M P := by
  refine ctI_of (by decide +kernel) (Nat.le_of_ble_eq_true rfl) ?_
  intro p e s m args below meth c C
  rw [w_X8_overtimeOf] at h
  show J p l e rm_X8_overtimeOf s m args below meth c (QI below E P args s 0 0) E 2 M 0 0 0 [(0, .ref x0), (1, .int x1)] []
  refine j_aload_n (pc := 0) C 0 dX8_overtimeOf_0 rfl ?_
  refine j_iload_n (pc := 1) C 1 dX8_overtimeOf_1 rfl ?_
  refine cs_X8_258 (pc := 2) C ⟨Nat.le_of_ble_eq_true rfl, Nat.le_of_ble_eq_true rfl⟩ ⟨Nat.le_of_ble_eq_true rfl, Nat.le_of_ble_eq_true rfl⟩ (Nat.le_of_ble_eq_true rfl) dX8_overtimeOf_2 h (fun r1 M1 h => ?_)
  refine j_if_le (pc := 5) C 23 dX8_overtimeOf_5 (by decide) h (fun h => ?_) (fun h => ?_)
  · refine j_iconst (pc := 23) (v := (0 : Int32)) C dX8_overtimeOf_23 rfl ?_
    exact j_iret (pc := 24) C dX8_overtimeOf_24 (Nat.le_of_ble_eq_true rfl) (Nat.le_of_ble_eq_true rfl) h
  · refine j_aload_n (pc := 8) C 0 dX8_overtimeOf_8 rfl ?_
    refine j_iload_n (pc := 9) C 1 dX8_overtimeOf_9 rfl ?_
    refine cs_X8_258 (pc := 10) C ⟨Nat.le_of_ble_eq_true rfl, Nat.le_of_ble_eq_true rfl⟩ ⟨Nat.le_of_ble_eq_true rfl, Nat.le_of_ble_eq_true rfl⟩ (Nat.le_of_ble_eq_true rfl) dX8_overtimeOf_10 h (fun r2 M2 h => ?_)
    refine j_aload_n (pc := 13) C 0 dX8_overtimeOf_13 rfl ?_
    refine j_iload_n (pc := 14) C 1 dX8_overtimeOf_14 rfl ?_
    refine j_iconst (pc := 15) (v := (0 : Int32)) C dX8_overtimeOf_15 rfl ?_
    refine cs_X8_194 (pc := 16) C ⟨Nat.le_of_ble_eq_true rfl, Nat.le_of_ble_eq_true rfl⟩ ⟨Nat.le_of_ble_eq_true rfl, Nat.le_of_ble_eq_true rfl⟩ (Nat.le_of_ble_eq_true rfl) dX8_overtimeOf_16 h (fun r3 M3 h => ?_)
    refine j_imul (pc := 19) C dX8_overtimeOf_19 ?_
    refine j_goto (pc := 20) C 24 dX8_overtimeOf_20 (by decide) ?_
    exact j_iret (pc := 24) C dX8_overtimeOf_24 (Nat.le_of_ble_eq_true rfl) (Nat.le_of_ble_eq_true rfl) h
abbrev rm_X8_kindsOf : Room := { frames := 1, cells := 0, slots := 0, locals := 22 }
def l_X8_kindsOf_4 (P : Int32 → Mm → Prop) (K33 : Mm → Int32 → Prop) : Nat → Mm → Nat → Int32 → Int32 → Int32 → Prop
  | 0, _, _, _, _, _ => False
  | n + 1, M, x0, x1, x2, x3 => zk M x0 = 8 ∧ w_X8_ofPlayer M x0 x1 (2 : Int32) (fun r1 M1 => (if r1 ≤ x3 then K33 M1 x2 else zk M1 x0 = 8 ∧ w_X8_ofPlayer M1 x0 x1 ((3 : Int32) + x3) (fun r2 M2 => l_X8_kindsOf_4 P K33 n M2 x0 x1 (x2 ||| ((1 : Int32) <<< (r2 &&& 31))) (x3 + (1 : Int32)))))
set_option maxHeartbeats 4000000 in
set_option maxRecDepth 100000 in
theorem jl_X8_kindsOf_4 {P : Int32 → Mm → Prop} {K33 : Mm → Int32 → Prop} (C : Cx p l s m args meth c cX8_kindsOf 4 RX8 (some .int) E) (hkc : kc ≤ rm_X8_kindsOf.cells ∧ ks ≤ rm_X8_kindsOf.slots) (k33 : ∀ M x2, K33 M x2 → J p l e rm_X8_kindsOf s m args below meth c (QI below E P args s rm_X8_kindsOf.cells rm_X8_kindsOf.slots) E 4 M kc ks 33 [(2, .int x2)] []) : ∀ n M x0 x1 x2 x3, l_X8_kindsOf_4 P K33 n M x0 x1 x2 x3 → J p l e rm_X8_kindsOf s m args below meth c (QI below E P args s rm_X8_kindsOf.cells rm_X8_kindsOf.slots) E 4 M kc ks 4 [(0, .ref x0), (1, .int x1), (2, .int x2), (3, .int x3)] [] := by
  intro n
  induction n with
  | zero => intro M x0 x1 x2 x3 h; exact h.elim
  | succ n ih =>
    intro M x0 x1 x2 x3 h
    rw [l_X8_kindsOf_4] at h
    refine j_iload_n (pc := 4) C 3 dX8_kindsOf_4 rfl ?_
    refine j_aload_n (pc := 5) C 0 dX8_kindsOf_5 rfl ?_
    refine j_iload_n (pc := 6) C 1 dX8_kindsOf_6 rfl ?_
    refine j_iconst (pc := 7) (v := (2 : Int32)) C dX8_kindsOf_7 rfl ?_
    refine cs_X8_194 (pc := 8) C ⟨Nat.le_of_ble_eq_true rfl, Nat.le_of_ble_eq_true rfl⟩ hkc (Nat.le_of_ble_eq_true rfl) dX8_kindsOf_8 h (fun r1 M1 h => ?_)
    refine j_icmp_ge (pc := 11) C 33 dX8_kindsOf_11 (by decide) h (fun h => ?_) (fun h => ?_)
    · exact j_weak [2] rfl (k33 _ _ h)
    · refine j_iload_n (pc := 14) C 2 dX8_kindsOf_14 rfl ?_
      refine j_iconst (pc := 15) (v := (1 : Int32)) C dX8_kindsOf_15 rfl ?_
      refine j_aload_n (pc := 16) C 0 dX8_kindsOf_16 rfl ?_
      refine j_iload_n (pc := 17) C 1 dX8_kindsOf_17 rfl ?_
      refine j_iconst (pc := 18) (v := (3 : Int32)) C dX8_kindsOf_18 rfl ?_
      refine j_iload_n (pc := 19) C 3 dX8_kindsOf_19 rfl ?_
      refine j_iadd (pc := 20) C dX8_kindsOf_20 ?_
      refine cs_X8_194 (pc := 21) C ⟨Nat.le_of_ble_eq_true rfl, Nat.le_of_ble_eq_true rfl⟩ hkc (Nat.le_of_ble_eq_true rfl) dX8_kindsOf_21 h (fun r2 M2 h => ?_)
      refine j_ishl (pc := 24) C dX8_kindsOf_24 ?_
      refine j_ior (pc := 25) C dX8_kindsOf_25 ?_
      refine j_istore_n (pc := 26) C [(2, _), (0, _), (1, _), (3, _)] dX8_kindsOf_26 (by decide) rfl ?_
      refine j_iinc (pc := 27) (v := (1 : Int32)) C 3 [(3, _), (2, _), (0, _), (1, _)] dX8_kindsOf_27 rfl rfl (by decide) rfl ?_
      refine j_goto (pc := 30) C 4 dX8_kindsOf_30 (by decide) ?_
      exact j_weak [2, 3, 1, 0] rfl (ih _ _ _ _ _ h)
def w_X8_kindsOf (M : Mm) (x0 : Nat) (x1 : Int32) (P : Int32 → Mm → Prop) : Prop := (∃ n4, l_X8_kindsOf_4 P (fun M3 x2_3 => P x2_3 M3) n4 M x0 x1 (0 : Int32) (0 : Int32))
set_option maxHeartbeats 4000000 in
set_option maxRecDepth 100000 in
theorem c_X8_kindsOf (l : Launch) (E : EV) (M : Mm) (x0 : Nat) (x1 : Int32) (P : Int32 → Mm → Prop) (h : w_X8_kindsOf M x0 x1 P) : CtI l E yX8_kindsOf cX8_kindsOf 4 .int rm_X8_kindsOf 0 0 [.ref x0, .int x1] M P := by
  refine ctI_of (by decide +kernel) (Nat.le_of_ble_eq_true rfl) ?_
  intro p e s m args below meth c C
  rw [w_X8_kindsOf] at h
  show J p l e rm_X8_kindsOf s m args below meth c (QI below E P args s 0 0) E 4 M 0 0 0 [(0, .ref x0), (1, .int x1)] []
  refine j_iconst (pc := 0) (v := (0 : Int32)) C dX8_kindsOf_0 rfl ?_
  refine j_istore_n (pc := 1) C [(2, _), (0, _), (1, _)] dX8_kindsOf_1 (by decide) rfl ?_
  refine j_iconst (pc := 2) (v := (0 : Int32)) C dX8_kindsOf_2 rfl ?_
  refine j_istore_n (pc := 3) C [(3, _), (2, _), (0, _), (1, _)] dX8_kindsOf_3 (by decide) rfl ?_
  obtain ⟨n4, h⟩ := h
  refine j_weak [2, 3, 1, 0] rfl (jl_X8_kindsOf_4 C ⟨Nat.le_of_ble_eq_true rfl, Nat.le_of_ble_eq_true rfl⟩ (fun M3 x2_3 h => ?_) n4 _ _ _ _ _ h)
  · refine j_iload_n (pc := 33) C 0 dX8_kindsOf_33 rfl ?_
    exact j_iret (pc := 34) C dX8_kindsOf_34 (Nat.le_of_ble_eq_true rfl) (Nat.le_of_ble_eq_true rfl) h
theorem cs_X8_261 (C : Cx p l s m args meth c cc nL RX8 ret E) {b : Nat} {y0 : Int32} {y1 : Int32} {P : Int32 → Mm → Prop} (hR : rm_X8_noWhat.frames + 1 ≤ R.frames ∧ 8 + (3 + 11) + rm_X8_noWhat.locals ≤ R.locals) (hf : kc ≤ R.cells ∧ ks ≤ R.slots) (hst : (st.map fun v => v.category).sum ≤ 8) (d : decode cc pc = .ok (.invokevirtual 261, 3)) (h : zk M b = 8 ∧ w_X8_noWhat M b y0 y1 P) (kk : ∀ r M', P r M' → J p l e R s m args below meth c Q E nL M' kc ks (pc + 3) lo (.int r :: st)) : J p l e R s m args below meth c Q E nL M kc ks pc lo (.int y1 :: .int y0 :: .ref b :: st) :=
  j_cV_I (n := 2) (As := [.int y0, .int y1]) C co_X8 rfl wd_1350 wd_61 h.1 (c_X8_noWhat l E M b y0 y1 P h.2) ⟨wd_1351, wd_1348, wd_106, by decide +kernel, by decide +kernel, by decide +kernel⟩ rfl rfl hR hf rfl hst d kk
theorem cs_X8_264 (C : Cx p l s m args meth c cc nL RX8 ret E) {b : Nat} {y0 : Int32} {P : Int32 → Mm → Prop} (hR : rm_X8_kindsOf.frames + 1 ≤ R.frames ∧ 8 + (4 + 11) + rm_X8_kindsOf.locals ≤ R.locals) (hf : kc ≤ R.cells ∧ ks ≤ R.slots) (hst : (st.map fun v => v.category).sum ≤ 8) (d : decode cc pc = .ok (.invokevirtual 264, 3)) (h : zk M b = 8 ∧ w_X8_kindsOf M b y0 P) (kk : ∀ r M', P r M' → J p l e R s m args below meth c Q E nL M' kc ks (pc + 3) lo (.int r :: st)) : J p l e R s m args below meth c Q E nL M kc ks pc lo (.int y0 :: .ref b :: st) :=
  j_cV_I (n := 1) (As := [.int y0]) C co_X8 rfl wd_1358 wd_63 h.1 (c_X8_kindsOf l E M b y0 P h.2) ⟨wd_1359, wd_1356, wd_106, by decide +kernel, by decide +kernel, by decide +kernel⟩ rfl rfl hR hf rfl hst d kk
theorem cs_X8_267 (C : Cx p l s m args meth c cc nL RX8 ret E) {b : Nat} {y0 : Int32} {P : Int32 → Mm → Prop} (hR : rm_X8_doublingsOf.frames + 1 ≤ R.frames ∧ 8 + (4 + 11) + rm_X8_doublingsOf.locals ≤ R.locals) (hf : kc ≤ R.cells ∧ ks ≤ R.slots) (hst : (st.map fun v => v.category).sum ≤ 8) (d : decode cc pc = .ok (.invokevirtual 267, 3)) (h : zk M b = 8 ∧ w_X8_doublingsOf M b y0 P) (kk : ∀ r M', P r M' → J p l e R s m args below meth c Q E nL M' kc ks (pc + 3) lo (.int r :: st)) : J p l e R s m args below meth c Q E nL M kc ks pc lo (.int y0 :: .ref b :: st) :=
  j_cV_I (n := 1) (As := [.int y0]) C co_X8 rfl wd_1386 wd_70 h.1 (c_X8_doublingsOf l E M b y0 P h.2) ⟨wd_1387, wd_1384, wd_106, by decide +kernel, by decide +kernel, by decide +kernel⟩ rfl rfl hR hf rfl hst d kk
theorem cs_X8_270 (C : Cx p l s m args meth c cc nL RX8 ret E) {b : Nat} {y0 : Int32} {P : Int32 → Mm → Prop} (hR : rm_X8_overtimeOf.frames + 1 ≤ R.frames ∧ 8 + (2 + 11) + rm_X8_overtimeOf.locals ≤ R.locals) (hf : kc ≤ R.cells ∧ ks ≤ R.slots) (hst : (st.map fun v => v.category).sum ≤ 8) (d : decode cc pc = .ok (.invokevirtual 270, 3)) (h : zk M b = 8 ∧ w_X8_overtimeOf M b y0 P) (kk : ∀ r M', P r M' → J p l e R s m args below meth c Q E nL M' kc ks (pc + 3) lo (.int r :: st)) : J p l e R s m args below meth c Q E nL M kc ks pc lo (.int y0 :: .ref b :: st) :=
  j_cV_I (n := 1) (As := [.int y0]) C co_X8 rfl wd_1398 wd_73 h.1 (c_X8_overtimeOf l E M b y0 P h.2) ⟨wd_1399, wd_1396, wd_106, by decide +kernel, by decide +kernel, by decide +kernel⟩ rfl rfl hR hf rfl hst d kk
abbrev rm_X8_player : Room := { frames := 6, cells := 0, slots := 0, locals := 134 }
def w_X8_player (M : Mm) (x0 : Nat) (x1 : Int32) (x2 : Int32) (P : Int32 → Mm → Prop) : Prop := zk M x0 = 8 ∧ (∀ M1, M1 = sI M x0 0 (0 : Int32) → (zk M1 x0 = 8 ∧ ∃ a2, zR M1 x0 1 = some a2 ∧ zk M1 a2 = 10 ∧ vp_in (2 : Int32) (zl M1 a2) ∧ zk M1 x0 = 8 ∧ w_X8_no M1 x0 x1 (zI M1 a2 (2 : Int32).toNatClampNeg) (fun r3 M3 => (if r3 = 0 then zk M3 x0 = 8 ∧ w_X8_noWhat M3 x0 x2 (7 : Int32) (fun r4 M4 => (if r4 = 0 then (if x2 = (0 : Int32) then (zk M4 x0 = 8 ∧ ∃ a5, zR M4 x0 2 = some a5 ∧ zk M4 a5 = 10 ∧ vp_in ((1 : Int32) + x1) (zl M4 a5) ∧ P (zI M4 a5 ((1 : Int32) + x1).toNatClampNeg) M4) else (if x2 = (1 : Int32) then zk M4 x0 = 8 ∧ w_X8_ofPlayer M4 x0 x1 (0 : Int32) (fun r6 M6 => P r6 M6) else (if x2 = (2 : Int32) then zk M4 x0 = 8 ∧ w_X8_ofPlayer M4 x0 x1 (3 : Int32) (fun r7 M7 => P r7 M7) else (if x2 = (3 : Int32) then zk M4 x0 = 8 ∧ w_X8_kindsOf M4 x0 x1 (fun r8 M8 => P r8 M8) else (if x2 = (4 : Int32) then zk M4 x0 = 8 ∧ w_X8_servicesOf M4 x0 x1 (fun r9 M9 => P r9 M9) else (if x2 = (5 : Int32) then zk M4 x0 = 8 ∧ w_X8_doublingsOf M4 x0 x1 (fun r10 M10 => P r10 M10) else (if x2 = (6 : Int32) then zk M4 x0 = 8 ∧ w_X8_beyond M4 x0 x1 (fun r11 M11 => (if 0 ≤ r11 then P (0 : Int32) M11 else zk M11 x0 = 8 ∧ w_X8_beyond M11 x0 x1 (fun r12 M12 => P (-r12) M12))) else zk M4 x0 = 8 ∧ w_X8_overtimeOf M4 x0 x1 (fun r13 M13 => P r13 M13)))))))) else P (0 : Int32) M4)) else P (0 : Int32) M3))))
set_option maxHeartbeats 4000000 in
set_option maxRecDepth 100000 in
theorem c_X8_player (l : Launch) (E : EV) (M : Mm) (x0 : Nat) (x1 : Int32) (x2 : Int32) (P : Int32 → Mm → Prop) (h : w_X8_player M x0 x1 x2 P) : CtI l E yX8_player cX8_player 3 .int rm_X8_player 0 0 [.ref x0, .int x1, .int x2] M P := by
  refine ctI_of (by decide +kernel) (Nat.le_of_ble_eq_true rfl) ?_
  intro p e s m args below meth c C
  rw [w_X8_player] at h
  show J p l e rm_X8_player s m args below meth c (QI below E P args s 0 0) E 3 M 0 0 0 [(0, .ref x0), (1, .int x1), (2, .int x2)] []
  refine j_aload_n (pc := 0) C 0 dX8_player_0 rfl ?_
  refine j_iconst (pc := 1) (v := (0 : Int32)) C dX8_player_1 rfl ?_
  refine pf_X8_56 (pc := 2) C dX8_player_2 h (fun M1 h => ?_)
  refine j_aload_n (pc := 5) C 0 dX8_player_5 rfl ?_
  refine j_iload_n (pc := 6) C 1 dX8_player_6 rfl ?_
  refine j_aload_n (pc := 7) C 0 dX8_player_7 rfl ?_
  refine gf_X8_7 (pc := 8) C dX8_player_8 h (fun a2 h => ?_)
  refine j_iconst (pc := 11) (v := (2 : Int32)) C dX8_player_11 rfl ?_
  refine j_iald (pc := 12) C dX8_player_12 h (fun h => ?_)
  refine cs_X8_249 (pc := 13) C ⟨Nat.le_of_ble_eq_true rfl, Nat.le_of_ble_eq_true rfl⟩ ⟨Nat.le_of_ble_eq_true rfl, Nat.le_of_ble_eq_true rfl⟩ (Nat.le_of_ble_eq_true rfl) dX8_player_13 h (fun r3 M3 h => ?_)
  refine j_if_ne (pc := 16) C 29 dX8_player_16 (by decide) h (fun h => ?_) (fun h => ?_)
  · refine j_iconst (pc := 29) (v := (0 : Int32)) C dX8_player_29 rfl ?_
    exact j_iret (pc := 30) C dX8_player_30 (Nat.le_of_ble_eq_true rfl) (Nat.le_of_ble_eq_true rfl) h
  · refine j_aload_n (pc := 19) C 0 dX8_player_19 rfl ?_
    refine j_iload_n (pc := 20) C 2 dX8_player_20 rfl ?_
    refine j_bipush (pc := 21) (v := (7 : Int32)) C dX8_player_21 rfl ?_
    refine cs_X8_261 (pc := 23) C ⟨Nat.le_of_ble_eq_true rfl, Nat.le_of_ble_eq_true rfl⟩ ⟨Nat.le_of_ble_eq_true rfl, Nat.le_of_ble_eq_true rfl⟩ (Nat.le_of_ble_eq_true rfl) dX8_player_23 h (fun r4 M4 h => ?_)
    refine j_if_eq (pc := 26) C 31 dX8_player_26 (by decide) h (fun h => ?_) (fun h => ?_)
    · refine j_iload_n (pc := 31) C 2 dX8_player_31 rfl ?_
      by_cases q32_0 : x2 = (0 : Int32)
      · rw [if_pos q32_0] at h
        refine j_tsI (pc := 32) (off := 44) C 76 dX8_player_32 q32_0 (by decide) (by decide) (by decide) (by decide) ?_
        refine j_aload_n (pc := 76) C 0 dX8_player_76 rfl ?_
        refine gf_X8_13 (pc := 77) C dX8_player_77 h (fun a5 h => ?_)
        refine j_iconst (pc := 80) (v := (1 : Int32)) C dX8_player_80 rfl ?_
        refine j_iload_n (pc := 81) C 1 dX8_player_81 rfl ?_
        refine j_iadd (pc := 82) C dX8_player_82 ?_
        refine j_iald (pc := 83) C dX8_player_83 h (fun h => ?_)
        exact j_iret (pc := 84) C dX8_player_84 (Nat.le_of_ble_eq_true rfl) (Nat.le_of_ble_eq_true rfl) h
      rw [if_neg q32_0] at h
      by_cases q32_1 : x2 = (1 : Int32)
      · rw [if_pos q32_1] at h
        refine j_tsI (pc := 32) (off := 53) C 85 dX8_player_32 q32_1 (by decide) (by decide) (by decide) (by decide) ?_
        refine j_aload_n (pc := 85) C 0 dX8_player_85 rfl ?_
        refine j_iload_n (pc := 86) C 1 dX8_player_86 rfl ?_
        refine j_iconst (pc := 87) (v := (0 : Int32)) C dX8_player_87 rfl ?_
        refine cs_X8_194 (pc := 88) C ⟨Nat.le_of_ble_eq_true rfl, Nat.le_of_ble_eq_true rfl⟩ ⟨Nat.le_of_ble_eq_true rfl, Nat.le_of_ble_eq_true rfl⟩ (Nat.le_of_ble_eq_true rfl) dX8_player_88 h (fun r6 M6 h => ?_)
        exact j_iret (pc := 91) C dX8_player_91 (Nat.le_of_ble_eq_true rfl) (Nat.le_of_ble_eq_true rfl) h
      rw [if_neg q32_1] at h
      by_cases q32_2 : x2 = (2 : Int32)
      · rw [if_pos q32_2] at h
        refine j_tsI (pc := 32) (off := 60) C 92 dX8_player_32 q32_2 (by decide) (by decide) (by decide) (by decide) ?_
        refine j_aload_n (pc := 92) C 0 dX8_player_92 rfl ?_
        refine j_iload_n (pc := 93) C 1 dX8_player_93 rfl ?_
        refine j_iconst (pc := 94) (v := (3 : Int32)) C dX8_player_94 rfl ?_
        refine cs_X8_194 (pc := 95) C ⟨Nat.le_of_ble_eq_true rfl, Nat.le_of_ble_eq_true rfl⟩ ⟨Nat.le_of_ble_eq_true rfl, Nat.le_of_ble_eq_true rfl⟩ (Nat.le_of_ble_eq_true rfl) dX8_player_95 h (fun r7 M7 h => ?_)
        exact j_iret (pc := 98) C dX8_player_98 (Nat.le_of_ble_eq_true rfl) (Nat.le_of_ble_eq_true rfl) h
      rw [if_neg q32_2] at h
      by_cases q32_3 : x2 = (3 : Int32)
      · rw [if_pos q32_3] at h
        refine j_tsI (pc := 32) (off := 67) C 99 dX8_player_32 q32_3 (by decide) (by decide) (by decide) (by decide) ?_
        refine j_aload_n (pc := 99) C 0 dX8_player_99 rfl ?_
        refine j_iload_n (pc := 100) C 1 dX8_player_100 rfl ?_
        refine cs_X8_264 (pc := 101) C ⟨Nat.le_of_ble_eq_true rfl, Nat.le_of_ble_eq_true rfl⟩ ⟨Nat.le_of_ble_eq_true rfl, Nat.le_of_ble_eq_true rfl⟩ (Nat.le_of_ble_eq_true rfl) dX8_player_101 h (fun r8 M8 h => ?_)
        exact j_iret (pc := 104) C dX8_player_104 (Nat.le_of_ble_eq_true rfl) (Nat.le_of_ble_eq_true rfl) h
      rw [if_neg q32_3] at h
      by_cases q32_4 : x2 = (4 : Int32)
      · rw [if_pos q32_4] at h
        refine j_tsI (pc := 32) (off := 73) C 105 dX8_player_32 q32_4 (by decide) (by decide) (by decide) (by decide) ?_
        refine j_aload_n (pc := 105) C 0 dX8_player_105 rfl ?_
        refine j_iload_n (pc := 106) C 1 dX8_player_106 rfl ?_
        refine cs_X8_255 (pc := 107) C ⟨Nat.le_of_ble_eq_true rfl, Nat.le_of_ble_eq_true rfl⟩ ⟨Nat.le_of_ble_eq_true rfl, Nat.le_of_ble_eq_true rfl⟩ (Nat.le_of_ble_eq_true rfl) dX8_player_107 h (fun r9 M9 h => ?_)
        exact j_iret (pc := 110) C dX8_player_110 (Nat.le_of_ble_eq_true rfl) (Nat.le_of_ble_eq_true rfl) h
      rw [if_neg q32_4] at h
      by_cases q32_5 : x2 = (5 : Int32)
      · rw [if_pos q32_5] at h
        refine j_tsI (pc := 32) (off := 79) C 111 dX8_player_32 q32_5 (by decide) (by decide) (by decide) (by decide) ?_
        refine j_aload_n (pc := 111) C 0 dX8_player_111 rfl ?_
        refine j_iload_n (pc := 112) C 1 dX8_player_112 rfl ?_
        refine cs_X8_267 (pc := 113) C ⟨Nat.le_of_ble_eq_true rfl, Nat.le_of_ble_eq_true rfl⟩ ⟨Nat.le_of_ble_eq_true rfl, Nat.le_of_ble_eq_true rfl⟩ (Nat.le_of_ble_eq_true rfl) dX8_player_113 h (fun r10 M10 h => ?_)
        exact j_iret (pc := 116) C dX8_player_116 (Nat.le_of_ble_eq_true rfl) (Nat.le_of_ble_eq_true rfl) h
      rw [if_neg q32_5] at h
      by_cases q32_6 : x2 = (6 : Int32)
      · rw [if_pos q32_6] at h
        refine j_tsI (pc := 32) (off := 85) C 117 dX8_player_32 q32_6 (by decide) (by decide) (by decide) (by decide) ?_
        refine j_aload_n (pc := 117) C 0 dX8_player_117 rfl ?_
        refine j_iload_n (pc := 118) C 1 dX8_player_118 rfl ?_
        refine cs_X8_258 (pc := 119) C ⟨Nat.le_of_ble_eq_true rfl, Nat.le_of_ble_eq_true rfl⟩ ⟨Nat.le_of_ble_eq_true rfl, Nat.le_of_ble_eq_true rfl⟩ (Nat.le_of_ble_eq_true rfl) dX8_player_119 h (fun r11 M11 h => ?_)
        refine j_if_ge (pc := 122) C 134 dX8_player_122 (by decide) h (fun h => ?_) (fun h => ?_)
        · refine j_iconst (pc := 134) (v := (0 : Int32)) C dX8_player_134 rfl ?_
          exact j_iret (pc := 135) C dX8_player_135 (Nat.le_of_ble_eq_true rfl) (Nat.le_of_ble_eq_true rfl) h
        · refine j_aload_n (pc := 125) C 0 dX8_player_125 rfl ?_
          refine j_iload_n (pc := 126) C 1 dX8_player_126 rfl ?_
          refine cs_X8_258 (pc := 127) C ⟨Nat.le_of_ble_eq_true rfl, Nat.le_of_ble_eq_true rfl⟩ ⟨Nat.le_of_ble_eq_true rfl, Nat.le_of_ble_eq_true rfl⟩ (Nat.le_of_ble_eq_true rfl) dX8_player_127 h (fun r12 M12 h => ?_)
          refine j_ineg (pc := 130) C dX8_player_130 ?_
          refine j_goto (pc := 131) C 135 dX8_player_131 (by decide) ?_
          exact j_iret (pc := 135) C dX8_player_135 (Nat.le_of_ble_eq_true rfl) (Nat.le_of_ble_eq_true rfl) h
      rw [if_neg q32_6] at h
      refine j_tsO (pc := 32) C 136 dX8_player_32 (fun k h1 h2 => ?_) (by decide) ?_
      · rcases (show k = 0 ∨ k = 1 ∨ k = 2 ∨ k = 3 ∨ k = 4 ∨ k = 5 ∨ k = 6 by omega) with rfl | rfl | rfl | rfl | rfl | rfl | rfl
        · exact ts_no q32_0 (by decide)
        · exact ts_no q32_1 (by decide)
        · exact ts_no q32_2 (by decide)
        · exact ts_no q32_3 (by decide)
        · exact ts_no q32_4 (by decide)
        · exact ts_no q32_5 (by decide)
        · exact ts_no q32_6 (by decide)
      refine j_aload_n (pc := 136) C 0 dX8_player_136 rfl ?_
      refine j_iload_n (pc := 137) C 1 dX8_player_137 rfl ?_
      refine cs_X8_270 (pc := 138) C ⟨Nat.le_of_ble_eq_true rfl, Nat.le_of_ble_eq_true rfl⟩ ⟨Nat.le_of_ble_eq_true rfl, Nat.le_of_ble_eq_true rfl⟩ (Nat.le_of_ble_eq_true rfl) dX8_player_138 h (fun r13 M13 h => ?_)
      exact j_iret (pc := 141) C dX8_player_141 (Nat.le_of_ble_eq_true rfl) (Nat.le_of_ble_eq_true rfl) h
    · refine j_iconst (pc := 29) (v := (0 : Int32)) C dX8_player_29 rfl ?_
      exact j_iret (pc := 30) C dX8_player_30 (Nat.le_of_ble_eq_true rfl) (Nat.le_of_ble_eq_true rfl) h
end GW23
