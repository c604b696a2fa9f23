/-! written by a program (wip/p34/gen.py) out of the decode rows and the tables: walks of X3 -/

section GW15
variable {p : Program} {l : Launch} {e : Env} {R : Room} {s : State} {m : MethodId} {args : Array Value} {below : List Frame} {meth : Method} {c : Code} {Q : State → Prop} {cc : ByteArray} {nL : Nat} {ret : Option FieldType} {E : EV} {M : Mm} {kc ks pc : Nat} {lo : List (Nat × Value)} {st : List Value}
abbrev rm_X3_fail : Room := { frames := 0, cells := 0, slots := 0, locals := 0 }
def w_X3_fail (M : Mm) (x0 : Nat) (x1 : Int32) (P : Int32 → Mm → Prop) : Prop := zk M x0 = 3 ∧ (∀ M1, M1 = sI M x0 2 x1 → (zk M1 x0 = 3 ∧ ∃ a2, zR M1 x0 0 = some a2 ∧ zk M1 a2 = 5 ∧ zk M1 x0 = 3 ∧ (∀ M3, M3 = sI M1 x0 3 (zI M1 a2 4) → ((0 : Int32) = 0 ∨ (0 : Int32) = 1) ∧ P (0 : Int32) M3)))
set_option maxHeartbeats 4000000 in
set_option maxRecDepth 100000 in
theorem c_X3_fail (l : Launch) (E : EV) (M : Mm) (x0 : Nat) (x1 : Int32) (P : Int32 → Mm → Prop) (h : w_X3_fail M x0 x1 P) : CtI l E yX3_fail cX3_fail 2 .boolean rm_X3_fail 0 0 [.ref x0, .int x1] M P := by
  refine ctI_of (by decide +kernel) (Nat.le_of_ble_eq_true rfl) ?_
  intro p e s m args below meth c C
  rw [w_X3_fail] at h
  show J p l e rm_X3_fail s m args below meth c (QI below E P args s 0 0) E 2 M 0 0 0 [(0, .ref x0), (1, .int x1)] []
  refine j_aload_n (pc := 0) C 0 dX3_fail_0 rfl ?_
  refine j_iload_n (pc := 1) C 1 dX3_fail_1 rfl ?_
  refine pf_X3_184 (pc := 2) C dX3_fail_2 h (fun M1 h => ?_)
  refine j_aload_n (pc := 5) C 0 dX3_fail_5 rfl ?_
  refine j_aload_n (pc := 6) C 0 dX3_fail_6 rfl ?_
  refine gf_X3_15 (pc := 7) C dX3_fail_7 h (fun a2 h => ?_)
  refine gf_X3_187 (pc := 10) C dX3_fail_10 h (fun h => ?_)
  refine pf_X3_9 (pc := 13) C dX3_fail_13 h (fun M3 h => ?_)
  refine j_iconst (pc := 16) (v := (0 : Int32)) C dX3_fail_16 rfl ?_
  exact j_zret (pc := 17) C dX3_fail_17 (Nat.le_of_ble_eq_true rfl) (Nat.le_of_ble_eq_true rfl) h
theorem cs_X3_56 (C : Cx p l s m args meth c cc nL RX3 ret E) {b : Nat} {y0 : Int32} {P : Int32 → Mm → Prop} (hR : rm_X3_fail.frames + 1 ≤ R.frames ∧ 8 + (2 + 11) + rm_X3_fail.locals ≤ R.locals) (hf : kc ≤ R.cells ∧ ks ≤ R.slots) (hst : (st.map fun v => v.category).sum ≤ 8) (d : decode cc pc = .ok (.invokevirtual 56, 3)) (h : zk M b = 3 ∧ w_X3_fail M b y0 P) (kk : ∀ r M', P r M' → J p l e R s m args below meth c Q E nL M' kc ks (pc + 3) lo (.int r :: st)) : J p l e R s m args below meth c Q E nL M kc ks pc lo (.int y0 :: .ref b :: st) :=
  j_cV_I (n := 1) (As := [.int y0]) C co_X3 rfl wd_852 wd_3 h.1 (c_X3_fail l E M b y0 P h.2) ⟨wd_853, wd_850, wd_61, by decide +kernel, by decide +kernel, by decide +kernel⟩ rfl rfl hR hf rfl hst d kk
abbrev rm_X3_isNumber : Room := { frames := 1, cells := 0, slots := 0, locals := 21 }
def w_X3_isNumber (M : Mm) (x0 : Nat) (x1 : Int32) (x2 : Int32) (P : Int32 → Mm → Prop) : Prop := (zk M x0 = 3 ∧ ∃ a1, zR M x0 0 = some a1 ∧ zk M a1 = 5 ∧ (if (zI M a1 3) = (2 : Int32) then (zk M x0 = 3 ∧ ∃ a2, zR M x0 0 = some a2 ∧ zk M a2 = 5 ∧ (if (zI M a2 6) < x1 then zk M x0 = 3 ∧ w_X3_fail M x0 (3 : Int32) (fun r3 M3 => (if r3 = 0 then ((0 : Int32) = 0 ∨ (0 : Int32) = 1) ∧ P (0 : Int32) M3 else ((1 : Int32) = 0 ∨ (1 : Int32) = 1) ∧ P (1 : Int32) M3)) else (zk M x0 = 3 ∧ ∃ a4, zR M x0 0 = some a4 ∧ zk M a4 = 5 ∧ (if (zI M a4 6) ≤ x2 then ((1 : Int32) = 0 ∨ (1 : Int32) = 1) ∧ P (1 : Int32) M else zk M x0 = 3 ∧ w_X3_fail M x0 (3 : Int32) (fun r5 M5 => (if r5 = 0 then ((0 : Int32) = 0 ∨ (0 : Int32) = 1) ∧ P (0 : Int32) M5 else ((1 : Int32) = 0 ∨ (1 : Int32) = 1) ∧ P (1 : Int32) M5)))))) else zk M x0 = 3 ∧ w_X3_fail M x0 (1 : Int32) (fun r6 M6 => (r6 = 0 ∨ r6 = 1) ∧ P r6 M6)))
set_option maxHeartbeats 4000000 in
set_option maxRecDepth 100000 in
theorem c_X3_isNumber (l : Launch) (E : EV) (M : Mm) (x0 : Nat) (x1 : Int32) (x2 : Int32) (P : Int32 → Mm → Prop) (h : w_X3_isNumber M x0 x1 x2 P) : CtI l E yX3_isNumber cX3_isNumber 3 .boolean rm_X3_isNumber 0 0 [.ref x0, .int x1, .int x2] M P := by
  refine ctI_of (by decide +kernel) (Nat.le_of_ble_eq_true rfl) ?_
  intro p e s m args below meth c C
  rw [w_X3_isNumber] at h
  show J p l e rm_X3_isNumber s m args below meth c (QI below E P args s 0 0) E 3 M 0 0 0 [(0, .ref x0), (1, .int x1), (2, .int x2)] []
  refine j_aload_n (pc := 0) C 0 dX3_isNumber_0 rfl ?_
  refine gf_X3_15 (pc := 1) C dX3_isNumber_1 h (fun a1 h => ?_)
  refine gf_X3_37 (pc := 4) C dX3_isNumber_4 h (fun h => ?_)
  refine j_iconst (pc := 7) (v := (2 : Int32)) C dX3_isNumber_7 rfl ?_
  refine j_icmp_eq (pc := 8) C 17 dX3_isNumber_8 (by decide) h (fun h => ?_) (fun h => ?_)
  · refine j_aload_n (pc := 17) C 0 dX3_isNumber_17 rfl ?_
    refine gf_X3_15 (pc := 18) C dX3_isNumber_18 h (fun a2 h => ?_)
    refine gf_X3_149 (pc := 21) C dX3_isNumber_21 h (fun h => ?_)
    refine j_iload_n (pc := 24) C 1 dX3_isNumber_24 rfl ?_
    refine j_icmp_lt (pc := 25) C 39 dX3_isNumber_25 (by decide) h (fun h => ?_) (fun h => ?_)
    · refine j_aload_n (pc := 39) C 0 dX3_isNumber_39 rfl ?_
      refine j_iconst (pc := 40) (v := (3 : Int32)) C dX3_isNumber_40 rfl ?_
      refine cs_X3_56 (pc := 41) C ⟨Nat.le_of_ble_eq_true rfl, Nat.le_of_ble_eq_true rfl⟩ ⟨Nat.le_of_ble_eq_true rfl, Nat.le_of_ble_eq_true rfl⟩ (Nat.le_of_ble_eq_true rfl) dX3_isNumber_41 h (fun r3 M3 h => ?_)
      refine j_if_eq (pc := 44) C 51 dX3_isNumber_44 (by decide) h (fun h => ?_) (fun h => ?_)
      · refine j_iconst (pc := 51) (v := (0 : Int32)) C dX3_isNumber_51 rfl ?_
        exact j_zret (pc := 52) C dX3_isNumber_52 (Nat.le_of_ble_eq_true rfl) (Nat.le_of_ble_eq_true rfl) h
      · refine j_iconst (pc := 47) (v := (1 : Int32)) C dX3_isNumber_47 rfl ?_
        refine j_goto (pc := 48) C 52 dX3_isNumber_48 (by decide) ?_
        exact j_zret (pc := 52) C dX3_isNumber_52 (Nat.le_of_ble_eq_true rfl) (Nat.le_of_ble_eq_true rfl) h
    · refine j_aload_n (pc := 28) C 0 dX3_isNumber_28 rfl ?_
      refine gf_X3_15 (pc := 29) C dX3_isNumber_29 h (fun a4 h => ?_)
      refine gf_X3_149 (pc := 32) C dX3_isNumber_32 h (fun h => ?_)
      refine j_iload_n (pc := 35) C 2 dX3_isNumber_35 rfl ?_
      refine j_icmp_le (pc := 36) C 47 dX3_isNumber_36 (by decide) h (fun h => ?_) (fun h => ?_)
      · refine j_iconst (pc := 47) (v := (1 : Int32)) C dX3_isNumber_47 rfl ?_
        refine j_goto (pc := 48) C 52 dX3_isNumber_48 (by decide) ?_
        exact j_zret (pc := 52) C dX3_isNumber_52 (Nat.le_of_ble_eq_true rfl) (Nat.le_of_ble_eq_true rfl) h
      · refine j_aload_n (pc := 39) C 0 dX3_isNumber_39 rfl ?_
        refine j_iconst (pc := 40) (v := (3 : Int32)) C dX3_isNumber_40 rfl ?_
        refine cs_X3_56 (pc := 41) C ⟨Nat.le_of_ble_eq_true rfl, Nat.le_of_ble_eq_true rfl⟩ ⟨Nat.le_of_ble_eq_true rfl, Nat.le_of_ble_eq_true rfl⟩ (Nat.le_of_ble_eq_true rfl) dX3_isNumber_41 h (fun r5 M5 h => ?_)
        refine j_if_eq (pc := 44) C 51 dX3_isNumber_44 (by decide) h (fun h => ?_) (fun h => ?_)
        · refine j_iconst (pc := 51) (v := (0 : Int32)) C dX3_isNumber_51 rfl ?_
          exact j_zret (pc := 52) C dX3_isNumber_52 (Nat.le_of_ble_eq_true rfl) (Nat.le_of_ble_eq_true rfl) h
        · refine j_iconst (pc := 47) (v := (1 : Int32)) C dX3_isNumber_47 rfl ?_
          refine j_goto (pc := 48) C 52 dX3_isNumber_48 (by decide) ?_
          exact j_zret (pc := 52) C dX3_isNumber_52 (Nat.le_of_ble_eq_true rfl) (Nat.le_of_ble_eq_true rfl) h
  · refine j_aload_n (pc := 11) C 0 dX3_isNumber_11 rfl ?_
    refine j_iconst (pc := 12) (v := (1 : Int32)) C dX3_isNumber_12 rfl ?_
    refine cs_X3_56 (pc := 13) C ⟨Nat.le_of_ble_eq_true rfl, Nat.le_of_ble_eq_true rfl⟩ ⟨Nat.le_of_ble_eq_true rfl, Nat.le_of_ble_eq_true rfl⟩ (Nat.le_of_ble_eq_true rfl) dX3_isNumber_13 h (fun r6 M6 h => ?_)
    exact j_zret (pc := 16) C dX3_isNumber_16 (Nat.le_of_ble_eq_true rfl) (Nat.le_of_ble_eq_true rfl) h
theorem cs_X3_28 (C : Cx p l s m args meth c cc nL RX3 ret E) {b : Nat} {P : Mm → Prop} (hR : rm_X5_advance.frames + 1 ≤ R.frames ∧ 8 + (1 + 11) + rm_X5_advance.locals ≤ R.locals) (hf : kc ≤ R.cells ∧ ks ≤ R.slots) (hst : (st.map fun v => v.category).sum ≤ 8) (d : decode cc pc = .ok (.invokevirtual 28, 3)) (h : zk M b = 5 ∧ w_X5_advance M b P) (kk : ∀ M', P M' → J p l e R s m args below meth c Q E nL M' kc ks (pc + 3) lo st) : J p l e R s m args below meth c Q E nL M kc ks pc lo (.ref b :: st) :=
  j_cV_V (n := 0) (As := []) C co_X5 rfl wd_827 wd_828 h.1 (c_X5_advance l E M b P h.2) ⟨wd_829, wd_826, wd_62, by decide +kernel, by decide +kernel, by decide +kernel⟩ rfl rfl hR hf rfl hst d kk
abbrev rm_X3_readSemicolon : Room := { frames := 2, cells := 0, slots := 0, locals := 42 }
def w_X3_readSemicolon (M : Mm) (x0 : Nat) (P : Int32 → Mm → Prop) : Prop := (zk M x0 = 3 ∧ ∃ a1, zR M x0 0 = some a1 ∧ zk M a1 = 5 ∧ (if (zI M a1 3) = (3 : Int32) then (zk M x0 = 3 ∧ ∃ a2, zR M x0 0 = some a2 ∧ zk M a2 = 5 ∧ w_X5_advance M a2 (fun M3 => ((1 : Int32) = 0 ∨ (1 : Int32) = 1) ∧ P (1 : Int32) M3)) else zk M x0 = 3 ∧ w_X3_fail M x0 (1 : Int32) (fun r4 M4 => (r4 = 0 ∨ r4 = 1) ∧ P r4 M4)))
set_option maxHeartbeats 4000000 in
set_option maxRecDepth 100000 in
theorem c_X3_readSemicolon (l : Launch) (E : EV) (M : Mm) (x0 : Nat) (P : Int32 → Mm → Prop) (h : w_X3_readSemicolon M x0 P) : CtI l E yX3_readSemicolon cX3_readSemicolon 1 .boolean rm_X3_readSemicolon 0 0 [.ref x0] M P := by
  refine ctI_of (by decide +kernel) (Nat.le_of_ble_eq_true rfl) ?_
  intro p e s m args below meth c C
  rw [w_X3_readSemicolon] at h
  show J p l e rm_X3_readSemicolon s m args below meth c (QI below E P args s 0 0) E 1 M 0 0 0 [(0, .ref x0)] []
  refine j_aload_n (pc := 0) C 0 dX3_readSemicolon_0 rfl ?_
  refine gf_X3_15 (pc := 1) C dX3_readSemicolon_1 h (fun a1 h => ?_)
  refine gf_X3_37 (pc := 4) C dX3_readSemicolon_4 h (fun h => ?_)
  refine j_iconst (pc := 7) (v := (3 : Int32)) C dX3_readSemicolon_7 rfl ?_
  refine j_icmp_eq (pc := 8) C 17 dX3_readSemicolon_8 (by decide) h (fun h => ?_) (fun h => ?_)
  · refine j_aload_n (pc := 17) C 0 dX3_readSemicolon_17 rfl ?_
    refine gf_X3_15 (pc := 18) C dX3_readSemicolon_18 h (fun a2 h => ?_)
    refine cs_X3_28 (pc := 21) C ⟨Nat.le_of_ble_eq_true rfl, Nat.le_of_ble_eq_true rfl⟩ ⟨Nat.le_of_ble_eq_true rfl, Nat.le_of_ble_eq_true rfl⟩ (Nat.le_of_ble_eq_true rfl) dX3_readSemicolon_21 h (fun M3 h => ?_)
    refine j_iconst (pc := 24) (v := (1 : Int32)) C dX3_readSemicolon_24 rfl ?_
    exact j_zret (pc := 25) C dX3_readSemicolon_25 (Nat.le_of_ble_eq_true rfl) (Nat.le_of_ble_eq_true rfl) h
  · refine j_aload_n (pc := 11) C 0 dX3_readSemicolon_11 rfl ?_
    refine j_iconst (pc := 12) (v := (1 : Int32)) C dX3_readSemicolon_12 rfl ?_
    refine cs_X3_56 (pc := 13) C ⟨Nat.le_of_ble_eq_true rfl, Nat.le_of_ble_eq_true rfl⟩ ⟨Nat.le_of_ble_eq_true rfl, Nat.le_of_ble_eq_true rfl⟩ (Nat.le_of_ble_eq_true rfl) dX3_readSemicolon_13 h (fun r4 M4 h => ?_)
    exact j_zret (pc := 16) C dX3_readSemicolon_16 (Nat.le_of_ble_eq_true rfl) (Nat.le_of_ble_eq_true rfl) h
abbrev rm_X3_takeNumber : Room := { frames := 2, cells := 0, slots := 0, locals := 42 }
def w_X3_takeNumber (M : Mm) (x0 : Nat) (P : Int32 → Mm → Prop) : Prop := (zk M x0 = 3 ∧ ∃ a1, zR M x0 0 = some a1 ∧ zk M a1 = 5 ∧ (zk M x0 = 3 ∧ ∃ a2, zR M x0 0 = some a2 ∧ zk M a2 = 5 ∧ w_X5_advance M a2 (fun M3 => P (zI M a1 6) M3)))
set_option maxHeartbeats 4000000 in
set_option maxRecDepth 100000 in
theorem c_X3_takeNumber (l : Launch) (E : EV) (M : Mm) (x0 : Nat) (P : Int32 → Mm → Prop) (h : w_X3_takeNumber M x0 P) : CtI l E yX3_takeNumber cX3_takeNumber 2 .int rm_X3_takeNumber 0 0 [.ref x0] M P := by
  refine ctI_of (by decide +kernel) (Nat.le_of_ble_eq_true rfl) ?_
  intro p e s m args below meth c C
  rw [w_X3_takeNumber] at h
  show J p l e rm_X3_takeNumber s m args below meth c (QI below E P args s 0 0) E 2 M 0 0 0 [(0, .ref x0)] []
  refine j_aload_n (pc := 0) C 0 dX3_takeNumber_0 rfl ?_
  refine gf_X3_15 (pc := 1) C dX3_takeNumber_1 h (fun a1 h => ?_)
  refine gf_X3_149 (pc := 4) C dX3_takeNumber_4 h (fun h => ?_)
  refine j_istore_n (pc := 7) C [(1, _), (0, _)] dX3_takeNumber_7 (by decide) rfl ?_
  refine j_aload_n (pc := 8) C 1 dX3_takeNumber_8 rfl ?_
  refine gf_X3_15 (pc := 9) C dX3_takeNumber_9 h (fun a2 h => ?_)
  refine cs_X3_28 (pc := 12) C ⟨Nat.le_of_ble_eq_true rfl, Nat.le_of_ble_eq_true rfl⟩ ⟨Nat.le_of_ble_eq_true rfl, Nat.le_of_ble_eq_true rfl⟩ (Nat.le_of_ble_eq_true rfl) dX3_takeNumber_12 h (fun M3 h => ?_)
  refine j_iload_n (pc := 15) C 0 dX3_takeNumber_15 rfl ?_
  exact j_iret (pc := 16) C dX3_takeNumber_16 (Nat.le_of_ble_eq_true rfl) (Nat.le_of_ble_eq_true rfl) h
theorem cs_X3_52 (C : Cx p l s m args meth c cc nL RX3 ret E) {y0 : Nat} {P : Int64 → Mm → Prop} (hR : rm_X7_codeOf.frames + 1 ≤ R.frames ∧ 8 + (4 + 11) + rm_X7_codeOf.locals ≤ R.locals) (hf : kc ≤ R.cells ∧ ks ≤ R.slots) (hst : (st.map fun v => v.category).sum ≤ 8) (d : decode cc pc = .ok (.invokestatic 52, 3)) (h : w_X7_codeOf M y0 P) (kk : ∀ r M', P r M' → J p l e R s m args below meth c Q E nL M' kc ks (pc + 3) lo (.long r :: st)) : J p l e R s m args below meth c Q E nL M kc ks pc lo (.ref (E.2.2.2.1 y0) :: st) :=
  j_cSN_L (n := 1) (As := [.ref (E.2.2.2.1 y0)]) C wd_845 (c_X7_codeOf l E M y0 P h) ⟨wd_846, nw_844, wd_40, by decide +kernel, by decide +kernel, by decide +kernel⟩ rfl rfl hR hf rfl hst d kk
theorem cs_X3_60 (C : Cx p l s m args meth c cc nL RX3 ret E) {b : Nat} {y0 : Int32} {y1 : Int32} {P : Int32 → Mm → Prop} (hR : rm_X3_isNumber.frames + 1 ≤ R.frames ∧ 8 + (3 + 11) + rm_X3_isNumber.locals ≤ R.locals) (hf : kc ≤ R.cells ∧ ks ≤ R.slots) (hst : (st.map fun v => v.category).sum ≤ 8) (d : decode cc pc = .ok (.invokevirtual 60, 3)) (h : zk M b = 3 ∧ w_X3_isNumber M b y0 y1 P) (kk : ∀ r M', P r M' → J p l e R s m args below meth c Q E nL M' kc ks (pc + 3) lo (.int r :: st)) : J p l e R s m args below meth c Q E nL M kc ks pc lo (.int y1 :: .int y0 :: .ref b :: st) :=
  j_cV_I (n := 2) (As := [.int y0, .int y1]) C co_X3 rfl wd_856 wd_4 h.1 (c_X3_isNumber l E M b y0 y1 P h.2) ⟨wd_857, wd_854, wd_61, by decide +kernel, by decide +kernel, by decide +kernel⟩ rfl rfl hR hf rfl hst d kk
theorem cs_X3_64 (C : Cx p l s m args meth c cc nL RX3 ret E) {b : Nat} {P : Int32 → Mm → Prop} (hR : rm_X3_takeNumber.frames + 1 ≤ R.frames ∧ 8 + (2 + 11) + rm_X3_takeNumber.locals ≤ R.locals) (hf : kc ≤ R.cells ∧ ks ≤ R.slots) (hst : (st.map fun v => v.category).sum ≤ 8) (d : decode cc pc = .ok (.invokevirtual 64, 3)) (h : zk M b = 3 ∧ w_X3_takeNumber M b P) (kk : ∀ r M', P r M' → J p l e R s m args below meth c Q E nL M' kc ks (pc + 3) lo (.int r :: st)) : J p l e R s m args below meth c Q E nL M kc ks pc lo (.ref b :: st) :=
  j_cV_I (n := 0) (As := []) C co_X3 rfl wd_860 wd_5 h.1 (c_X3_takeNumber l E M b P h.2) ⟨wd_861, wd_858, wd_61, by decide +kernel, by decide +kernel, by decide +kernel⟩ rfl rfl hR hf rfl hst d kk
theorem cs_X3_43 (C : Cx p l s m args meth c cc nL RX3 ret E) {b : Nat} {P : Int32 → Mm → Prop} (hR : rm_X3_readSemicolon.frames + 1 ≤ R.frames ∧ 8 + (1 + 11) + rm_X3_readSemicolon.locals ≤ R.locals) (hf : kc ≤ R.cells ∧ ks ≤ R.slots) (hst : (st.map fun v => v.category).sum ≤ 8) (d : decode cc pc = .ok (.invokevirtual 43, 3)) (h : zk M b = 3 ∧ w_X3_readSemicolon M b P) (kk : ∀ r M', P r M' → J p l e R s m args below meth c Q E nL M' kc ks (pc + 3) lo (.int r :: st)) : J p l e R s m args below meth c Q E nL M kc ks pc lo (.ref b :: st) :=
  j_cV_I (n := 0) (As := []) C co_X3 rfl wd_864 wd_6 h.1 (c_X3_readSemicolon l E M b P h.2) ⟨wd_865, wd_862, wd_61, by decide +kernel, by decide +kernel, by decide +kernel⟩ rfl rfl hR hf rfl hst d kk
abbrev rm_X3_readDays : Room := { frames := 6, cells := 0, slots := 0, locals := 164 }
def w_X3_readDays (M : Mm) (x0 : Nat) (P : Int32 → Mm → Prop) : Prop := (zk M x0 = 3 ∧ ∃ a1, zR M x0 0 = some a1 ∧ zk M a1 = 5 ∧ (if (zI M a1 3) = (1 : Int32) then (zk M x0 = 3 ∧ ∃ a3, zR M x0 0 = some a3 ∧ zk M a3 = 5 ∧ w_X7_codeOf M 0 (fun r4 M4 => (if (lg_cmp (zJ M a3 5) r4) = 0 then (zk M4 x0 = 3 ∧ ∃ a5, zR M4 x0 0 = some a5 ∧ zk M4 a5 = 5 ∧ w_X5_advance M4 a5 (fun M6 => zk M6 x0 = 3 ∧ w_X3_isNumber M6 x0 (1 : Int32) (30 : Int32) (fun r7 M7 => (if r7 = 0 then ((0 : Int32) = 0 ∨ (0 : Int32) = 1) ∧ P (0 : Int32) M7 else (zk M7 x0 = 3 ∧ ∃ a8, zR M7 x0 1 = some a8 ∧ zk M7 x0 = 3 ∧ w_X3_takeNumber M7 x0 (fun r9 M9 => zk M9 a8 = 6 ∧ (∀ M10, M10 = sI M9 a8 0 r9 → zk M10 x0 = 3 ∧ w_X3_readSemicolon M10 x0 (fun r11 M11 => (r11 = 0 ∨ r11 = 1) ∧ P r11 M11)))))))) else zk M4 x0 = 3 ∧ w_X3_fail M4 x0 (1 : Int32) (fun r12 M12 => (r12 = 0 ∨ r12 = 1) ∧ P r12 M12)))) else zk M x0 = 3 ∧ w_X3_fail M x0 (1 : Int32) (fun r2 M2 => (r2 = 0 ∨ r2 = 1) ∧ P r2 M2)))
set_option maxHeartbeats 4000000 in
set_option maxRecDepth 100000 in
theorem c_X3_readDays (l : Launch) (E : EV) (M : Mm) (x0 : Nat) (P : Int32 → Mm → Prop) (h : w_X3_readDays M x0 P) : CtI l E yX3_readDays cX3_readDays 1 .boolean rm_X3_readDays 0 0 [.ref x0] M P := by
  refine ctI_of (by decide +kernel) (Nat.le_of_ble_eq_true rfl) ?_
  intro p e s m args below meth c C
  rw [w_X3_readDays] at h
  show J p l e rm_X3_readDays s m args below meth c (QI below E P args s 0 0) E 1 M 0 0 0 [(0, .ref x0)] []
  refine j_aload_n (pc := 0) C 0 dX3_readDays_0 rfl ?_
  refine gf_X3_15 (pc := 1) C dX3_readDays_1 h (fun a1 h => ?_)
  refine gf_X3_37 (pc := 4) C dX3_readDays_4 h (fun h => ?_)
  refine j_iconst (pc := 7) (v := (1 : Int32)) C dX3_readDays_7 rfl ?_
  refine j_icmp_ne (pc := 8) C 27 dX3_readDays_8 (by decide) h (fun h => ?_) (fun h => ?_)
  · refine j_aload_n (pc := 27) C 0 dX3_readDays_27 rfl ?_
    refine j_iconst (pc := 28) (v := (1 : Int32)) C dX3_readDays_28 rfl ?_
    refine cs_X3_56 (pc := 29) C ⟨Nat.le_of_ble_eq_true rfl, Nat.le_of_ble_eq_true rfl⟩ ⟨Nat.le_of_ble_eq_true rfl, Nat.le_of_ble_eq_true rfl⟩ (Nat.le_of_ble_eq_true rfl) dX3_readDays_29 h (fun r2 M2 h => ?_)
    exact j_zret (pc := 32) C dX3_readDays_32 (Nat.le_of_ble_eq_true rfl) (Nat.le_of_ble_eq_true rfl) h
  · refine j_aload_n (pc := 11) C 0 dX3_readDays_11 rfl ?_
    refine gf_X3_15 (pc := 12) C dX3_readDays_12 h (fun a3 h => ?_)
    refine gf_X3_46 (pc := 15) C dX3_readDays_15 h (fun h => ?_)
    refine j_ldcS (pc := 18) (i := 0) C (List.mem_of_getElem? (i := 0) rfl) dX3_readDays_18 ?_
    refine cs_X3_52 (pc := 20) C ⟨Nat.le_of_ble_eq_true rfl, Nat.le_of_ble_eq_true rfl⟩ ⟨Nat.le_of_ble_eq_true rfl, Nat.le_of_ble_eq_true rfl⟩ (Nat.le_of_ble_eq_true rfl) dX3_readDays_20 h (fun r4 M4 h => ?_)
    refine j_lcmp (pc := 23) C dX3_readDays_23 ?_
    refine j_if_eq (pc := 24) C 33 dX3_readDays_24 (by decide) h (fun h => ?_) (fun h => ?_)
    · refine j_aload_n (pc := 33) C 0 dX3_readDays_33 rfl ?_
      refine gf_X3_15 (pc := 34) C dX3_readDays_34 h (fun a5 h => ?_)
      refine cs_X3_28 (pc := 37) C ⟨Nat.le_of_ble_eq_true rfl, Nat.le_of_ble_eq_true rfl⟩ ⟨Nat.le_of_ble_eq_true rfl, Nat.le_of_ble_eq_true rfl⟩ (Nat.le_of_ble_eq_true rfl) dX3_readDays_37 h (fun M6 h => ?_)
      refine j_aload_n (pc := 40) C 0 dX3_readDays_40 rfl ?_
      refine j_iconst (pc := 41) (v := (1 : Int32)) C dX3_readDays_41 rfl ?_
      refine j_bipush (pc := 42) (v := (30 : Int32)) C dX3_readDays_42 rfl ?_
      refine cs_X3_60 (pc := 44) C ⟨Nat.le_of_ble_eq_true rfl, Nat.le_of_ble_eq_true rfl⟩ ⟨Nat.le_of_ble_eq_true rfl, Nat.le_of_ble_eq_true rfl⟩ (Nat.le_of_ble_eq_true rfl) dX3_readDays_44 h (fun r7 M7 h => ?_)
      refine j_if_ne (pc := 47) C 52 dX3_readDays_47 (by decide) h (fun h => ?_) (fun h => ?_)
      · refine j_aload_n (pc := 52) C 0 dX3_readDays_52 rfl ?_
        refine gf_X3_19 (pc := 53) C dX3_readDays_53 h (fun a8 h => ?_)
        refine j_aload_n (pc := 56) C 0 dX3_readDays_56 rfl ?_
        refine cs_X3_64 (pc := 57) C ⟨Nat.le_of_ble_eq_true rfl, Nat.le_of_ble_eq_true rfl⟩ ⟨Nat.le_of_ble_eq_true rfl, Nat.le_of_ble_eq_true rfl⟩ (Nat.le_of_ble_eq_true rfl) dX3_readDays_57 h (fun r9 M9 h => ?_)
        refine pf_X3_68 (pc := 60) C dX3_readDays_60 h (fun M10 h => ?_)
        refine j_aload_n (pc := 63) C 0 dX3_readDays_63 rfl ?_
        refine cs_X3_43 (pc := 64) C ⟨Nat.le_of_ble_eq_true rfl, Nat.le_of_ble_eq_true rfl⟩ ⟨Nat.le_of_ble_eq_true rfl, Nat.le_of_ble_eq_true rfl⟩ (Nat.le_of_ble_eq_true rfl) dX3_readDays_64 h (fun r11 M11 h => ?_)
        exact j_zret (pc := 67) C dX3_readDays_67 (Nat.le_of_ble_eq_true rfl) (Nat.le_of_ble_eq_true rfl) h
      · refine j_iconst (pc := 50) (v := (0 : Int32)) C dX3_readDays_50 rfl ?_
        exact j_zret (pc := 51) C dX3_readDays_51 (Nat.le_of_ble_eq_true rfl) (Nat.le_of_ble_eq_true rfl) h
    · refine j_aload_n (pc := 27) C 0 dX3_readDays_27 rfl ?_
      refine j_iconst (pc := 28) (v := (1 : Int32)) C dX3_readDays_28 rfl ?_
      refine cs_X3_56 (pc := 29) C ⟨Nat.le_of_ble_eq_true rfl, Nat.le_of_ble_eq_true rfl⟩ ⟨Nat.le_of_ble_eq_true rfl, Nat.le_of_ble_eq_true rfl⟩ (Nat.le_of_ble_eq_true rfl) dX3_readDays_29 h (fun r12 M12 h => ?_)
      exact j_zret (pc := 32) C dX3_readDays_32 (Nat.le_of_ble_eq_true rfl) (Nat.le_of_ble_eq_true rfl) h
theorem cs_X3_127 (C : Cx p l s m args meth c cc nL RX3 ret E) {b : Nat} {y0 : Int64} {P : Int32 → Mm → Prop} (hR : rm_X2_numberOf.frames + 1 ≤ R.frames ∧ 8 + (4 + 11) + rm_X2_numberOf.locals ≤ R.locals) (hf : kc ≤ R.cells ∧ ks ≤ R.slots) (hst : (st.map fun v => v.category).sum ≤ 8) (d : decode cc pc = .ok (.invokevirtual 127, 3)) (h : zk M b = 2 ∧ w_X2_numberOf M b y0 P) (kk : ∀ r M', P r M' → J p l e R s m args below meth c Q E nL M' kc ks (pc + 3) lo (.int r :: st)) : J p l e R s m args below meth c Q E nL M kc ks pc lo (.long y0 :: .ref b :: st) :=
  j_cV_I (n := 1) (As := [.long y0]) C co_X2 rfl wd_884 wd_885 h.1 (c_X2_numberOf l E M b y0 P h.2) ⟨wd_886, wd_883, wd_44, by decide +kernel, by decide +kernel, by decide +kernel⟩ rfl rfl hR hf rfl hst d kk
theorem cs_X3_134 (C : Cx p l s m args meth c cc nL RX3 ret E) {y0 : Int32} {y1 : Int32} {P : Int32 → Mm → Prop} (hR : rm_X7_has.frames + 1 ≤ R.frames ∧ 8 + (2 + 11) + rm_X7_has.locals ≤ R.locals) (hf : kc ≤ R.cells ∧ ks ≤ R.slots) (hst : (st.map fun v => v.category).sum ≤ 8) (d : decode cc pc = .ok (.invokestatic 134, 3)) (h : w_X7_has M y0 y1 P) (kk : ∀ r M', P r M' → J p l e R s m args below meth c Q E nL M' kc ks (pc + 3) lo (.int r :: st)) : J p l e R s m args below meth c Q E nL M kc ks pc lo (.int y1 :: .int y0 :: st) :=
  j_cSN_I (n := 2) (As := [.int y0, .int y1]) C wd_901 (c_X7_has l E M y0 y1 P h) ⟨wd_902, nw_900, wd_40, by decide +kernel, by decide +kernel, by decide +kernel⟩ rfl rfl hR hf rfl hst d kk
abbrev rm_X3_readAbsence : Room := { frames := 3, cells := 0, slots := 0, locals := 63 }
def w_X3_readAbsence (M : Mm) (x0 : Nat) (P : Int32 → Mm → Prop) : Prop := (zk M x0 = 3 ∧ ∃ a1, zR M x0 0 = some a1 ∧ zk M a1 = 5 ∧ w_X5_advance M a1 (fun M2 => (zk M2 x0 = 3 ∧ ∃ a3, zR M2 x0 0 = some a3 ∧ zk M2 a3 = 5 ∧ (if (zI M2 a3 3) = (1 : Int32) then (zk M2 x0 = 3 ∧ ∃ a4, zR M2 x0 1 = some a4 ∧ (zk M2 a4 = 6 ∧ ∃ a5, zR M2 a4 5 = some a5 ∧ (zk M2 x0 = 3 ∧ ∃ a6, zR M2 x0 0 = some a6 ∧ zk M2 a6 = 5 ∧ zk M2 a5 = 2 ∧ w_X2_numberOf M2 a5 (zJ M2 a6 5) (fun r7 M7 => (if r7 = (-1 : Int32) then zk M7 x0 = 3 ∧ w_X3_fail M7 x0 (4 : Int32) (fun r21 M21 => (r21 = 0 ∨ r21 = 1) ∧ P r21 M21) else (zk M7 x0 = 3 ∧ ∃ a8, zR M7 x0 0 = some a8 ∧ zk M7 a8 = 5 ∧ w_X5_advance M7 a8 (fun M9 => (zk M9 x0 = 3 ∧ ∃ a10, zR M9 x0 1 = some a10 ∧ zk M9 a10 = 6 ∧ zk M9 x0 = 3 ∧ w_X3_isNumber M9 x0 (0 : Int32) ((zI M9 a10 0) - (1 : Int32)) (fun r11 M11 => (if r11 = 0 then ((0 : Int32) = 0 ∨ (0 : Int32) = 1) ∧ P (0 : Int32) M11 else (zk M11 x0 = 3 ∧ ∃ a12, zR M11 x0 1 = some a12 ∧ (zk M11 a12 = 6 ∧ ∃ a13, zR M11 a12 10 = some a13 ∧ zk M11 a13 = 10 ∧ vp_in r7 (zl M11 a13) ∧ (zk M11 x0 = 3 ∧ ∃ a14, zR M11 x0 0 = some a14 ∧ zk M11 a14 = 5 ∧ w_X7_has M11 (zI M11 a13 r7.toNatClampNeg) (zI M11 a14 6) (fun r15 M15 => (if r15 = 0 then (zk M15 x0 = 3 ∧ ∃ a16, zR M15 x0 1 = some a16 ∧ (zk M15 a16 = 6 ∧ ∃ a17, zR M15 a16 10 = some a17 ∧ zk M15 a17 = 10 ∧ vp_in r7 (zl M15 a17) ∧ zk M15 x0 = 3 ∧ w_X3_takeNumber M15 x0 (fun r18 M18 => zk M18 a17 = 10 ∧ vp_in r7 (zl M18 a17) ∧ (∀ M19, M19 = sI M18 a17 r7.toNatClampNeg ((zI M15 a17 r7.toNatClampNeg) ||| ((1 : Int32) <<< (r18 &&& 31))) → ((1 : Int32) = 0 ∨ (1 : Int32) = 1) ∧ P (1 : Int32) M19)))) else zk M15 x0 = 3 ∧ w_X3_fail M15 x0 (2 : Int32) (fun r20 M20 => (r20 = 0 ∨ r20 = 1) ∧ P r20 M20)))))))))))))))) else zk M2 x0 = 3 ∧ w_X3_fail M2 x0 (1 : Int32) (fun r22 M22 => (r22 = 0 ∨ r22 = 1) ∧ P r22 M22)))))
set_option maxHeartbeats 4000000 in
set_option maxRecDepth 100000 in
theorem c_X3_readAbsence (l : Launch) (E : EV) (M : Mm) (x0 : Nat) (P : Int32 → Mm → Prop) (h : w_X3_readAbsence M x0 P) : CtI l E yX3_readAbsence cX3_readAbsence 2 .boolean rm_X3_readAbsence 0 0 [.ref x0] M P := by
  refine ctI_of (by decide +kernel) (Nat.le_of_ble_eq_true rfl) ?_
  intro p e s m args below meth c C
  rw [w_X3_readAbsence] at h
  show J p l e rm_X3_readAbsence s m args below meth c (QI below E P args s 0 0) E 2 M 0 0 0 [(0, .ref x0)] []
  refine j_aload_n (pc := 0) C 0 dX3_readAbsence_0 rfl ?_
  refine gf_X3_15 (pc := 1) C dX3_readAbsence_1 h (fun a1 h => ?_)
  refine cs_X3_28 (pc := 4) C ⟨Nat.le_of_ble_eq_true rfl, Nat.le_of_ble_eq_true rfl⟩ ⟨Nat.le_of_ble_eq_true rfl, Nat.le_of_ble_eq_true rfl⟩ (Nat.le_of_ble_eq_true rfl) dX3_readAbsence_4 h (fun M2 h => ?_)
  refine j_aload_n (pc := 7) C 0 dX3_readAbsence_7 rfl ?_
  refine gf_X3_15 (pc := 8) C dX3_readAbsence_8 h (fun a3 h => ?_)
  refine gf_X3_37 (pc := 11) C dX3_readAbsence_11 h (fun h => ?_)
  refine j_iconst (pc := 14) (v := (1 : Int32)) C dX3_readAbsence_14 rfl ?_
  refine j_icmp_eq (pc := 15) C 24 dX3_readAbsence_15 (by decide) h (fun h => ?_) (fun h => ?_)
  · refine j_aload_n (pc := 24) C 0 dX3_readAbsence_24 rfl ?_
    refine gf_X3_19 (pc := 25) C dX3_readAbsence_25 h (fun a4 h => ?_)
    refine gf_X3_112 (pc := 28) C dX3_readAbsence_28 h (fun a5 h => ?_)
    refine j_aload_n (pc := 31) C 0 dX3_readAbsence_31 rfl ?_
    refine gf_X3_15 (pc := 32) C dX3_readAbsence_32 h (fun a6 h => ?_)
    refine gf_X3_46 (pc := 35) C dX3_readAbsence_35 h (fun h => ?_)
    refine cs_X3_127 (pc := 38) C ⟨Nat.le_of_ble_eq_true rfl, Nat.le_of_ble_eq_true rfl⟩ ⟨Nat.le_of_ble_eq_true rfl, Nat.le_of_ble_eq_true rfl⟩ (Nat.le_of_ble_eq_true rfl) dX3_readAbsence_38 h (fun r7 M7 h => ?_)
    refine j_istore_n (pc := 41) C [(1, _), (0, _)] dX3_readAbsence_41 (by decide) rfl ?_
    refine j_iload_n (pc := 42) C 0 dX3_readAbsence_42 rfl ?_
    refine j_iconst (pc := 43) (v := (-1 : Int32)) C dX3_readAbsence_43 rfl ?_
    refine j_icmp_ne (pc := 44) C 53 dX3_readAbsence_44 (by decide) h (fun h => ?_) (fun h => ?_)
    · refine j_aload_n (pc := 53) C 1 dX3_readAbsence_53 rfl ?_
      refine gf_X3_15 (pc := 54) C dX3_readAbsence_54 h (fun a8 h => ?_)
      refine cs_X3_28 (pc := 57) C ⟨Nat.le_of_ble_eq_true rfl, Nat.le_of_ble_eq_true rfl⟩ ⟨Nat.le_of_ble_eq_true rfl, Nat.le_of_ble_eq_true rfl⟩ (Nat.le_of_ble_eq_true rfl) dX3_readAbsence_57 h (fun M9 h => ?_)
      refine j_aload_n (pc := 60) C 1 dX3_readAbsence_60 rfl ?_
      refine j_iconst (pc := 61) (v := (0 : Int32)) C dX3_readAbsence_61 rfl ?_
      refine j_aload_n (pc := 62) C 1 dX3_readAbsence_62 rfl ?_
      refine gf_X3_19 (pc := 63) C dX3_readAbsence_63 h (fun a10 h => ?_)
      refine gf_X3_68 (pc := 66) C dX3_readAbsence_66 h (fun h => ?_)
      refine j_iconst (pc := 69) (v := (1 : Int32)) C dX3_readAbsence_69 rfl ?_
      refine j_isub (pc := 70) C dX3_readAbsence_70 ?_
      refine cs_X3_60 (pc := 71) C ⟨Nat.le_of_ble_eq_true rfl, Nat.le_of_ble_eq_true rfl⟩ ⟨Nat.le_of_ble_eq_true rfl, Nat.le_of_ble_eq_true rfl⟩ (Nat.le_of_ble_eq_true rfl) dX3_readAbsence_71 h (fun r11 M11 h => ?_)
      refine j_if_ne (pc := 74) C 79 dX3_readAbsence_74 (by decide) h (fun h => ?_) (fun h => ?_)
      · refine j_aload_n (pc := 79) C 1 dX3_readAbsence_79 rfl ?_
        refine gf_X3_19 (pc := 80) C dX3_readAbsence_80 h (fun a12 h => ?_)
        refine gf_X3_146 (pc := 83) C dX3_readAbsence_83 h (fun a13 h => ?_)
        refine j_iload_n (pc := 86) C 0 dX3_readAbsence_86 rfl ?_
        refine j_iald (pc := 87) C dX3_readAbsence_87 h (fun h => ?_)
        refine j_aload_n (pc := 88) C 1 dX3_readAbsence_88 rfl ?_
        refine gf_X3_15 (pc := 89) C dX3_readAbsence_89 h (fun a14 h => ?_)
        refine gf_X3_149 (pc := 92) C dX3_readAbsence_92 h (fun h => ?_)
        refine cs_X3_134 (pc := 95) C ⟨Nat.le_of_ble_eq_true rfl, Nat.le_of_ble_eq_true rfl⟩ ⟨Nat.le_of_ble_eq_true rfl, Nat.le_of_ble_eq_true rfl⟩ (Nat.le_of_ble_eq_true rfl) dX3_readAbsence_95 h (fun r15 M15 h => ?_)
        refine j_if_eq (pc := 98) C 107 dX3_readAbsence_98 (by decide) h (fun h => ?_) (fun h => ?_)
        · refine j_aload_n (pc := 107) C 1 dX3_readAbsence_107 rfl ?_
          refine gf_X3_19 (pc := 108) C dX3_readAbsence_108 h (fun a16 h => ?_)
          refine gf_X3_146 (pc := 111) C dX3_readAbsence_111 h (fun a17 h => ?_)
          refine j_iload_n (pc := 114) C 0 dX3_readAbsence_114 rfl ?_
          refine j_dup2 (pc := 115) C dX3_readAbsence_115 rfl rfl ?_
          refine j_iald (pc := 116) C dX3_readAbsence_116 h (fun h => ?_)
          refine j_iconst (pc := 117) (v := (1 : Int32)) C dX3_readAbsence_117 rfl ?_
          refine j_aload_n (pc := 118) C 1 dX3_readAbsence_118 rfl ?_
          refine cs_X3_64 (pc := 119) C ⟨Nat.le_of_ble_eq_true rfl, Nat.le_of_ble_eq_true rfl⟩ ⟨Nat.le_of_ble_eq_true rfl, Nat.le_of_ble_eq_true rfl⟩ (Nat.le_of_ble_eq_true rfl) dX3_readAbsence_119 h (fun r18 M18 h => ?_)
          refine j_ishl (pc := 122) C dX3_readAbsence_122 ?_
          refine j_ior (pc := 123) C dX3_readAbsence_123 ?_
          refine n_iast (pc := 124) C dX3_readAbsence_124 h (fun M19 h => ?_)
          refine j_iconst (pc := 125) (v := (1 : Int32)) C dX3_readAbsence_125 rfl ?_
          exact j_zret (pc := 126) C dX3_readAbsence_126 (Nat.le_of_ble_eq_true rfl) (Nat.le_of_ble_eq_true rfl) h
        · refine j_aload_n (pc := 101) C 1 dX3_readAbsence_101 rfl ?_
          refine j_iconst (pc := 102) (v := (2 : Int32)) C dX3_readAbsence_102 rfl ?_
          refine cs_X3_56 (pc := 103) C ⟨Nat.le_of_ble_eq_true rfl, Nat.le_of_ble_eq_true rfl⟩ ⟨Nat.le_of_ble_eq_true rfl, Nat.le_of_ble_eq_true rfl⟩ (Nat.le_of_ble_eq_true rfl) dX3_readAbsence_103 h (fun r20 M20 h => ?_)
          exact j_zret (pc := 106) C dX3_readAbsence_106 (Nat.le_of_ble_eq_true rfl) (Nat.le_of_ble_eq_true rfl) h
      · refine j_iconst (pc := 77) (v := (0 : Int32)) C dX3_readAbsence_77 rfl ?_
        exact j_zret (pc := 78) C dX3_readAbsence_78 (Nat.le_of_ble_eq_true rfl) (Nat.le_of_ble_eq_true rfl) h
    · refine j_aload_n (pc := 47) C 1 dX3_readAbsence_47 rfl ?_
      refine j_iconst (pc := 48) (v := (4 : Int32)) C dX3_readAbsence_48 rfl ?_
      refine cs_X3_56 (pc := 49) C ⟨Nat.le_of_ble_eq_true rfl, Nat.le_of_ble_eq_true rfl⟩ ⟨Nat.le_of_ble_eq_true rfl, Nat.le_of_ble_eq_true rfl⟩ (Nat.le_of_ble_eq_true rfl) dX3_readAbsence_49 h (fun r21 M21 h => ?_)
      exact j_zret (pc := 52) C dX3_readAbsence_52 (Nat.le_of_ble_eq_true rfl) (Nat.le_of_ble_eq_true rfl) h
  · refine j_aload_n (pc := 18) C 0 dX3_readAbsence_18 rfl ?_
    refine j_iconst (pc := 19) (v := (1 : Int32)) C dX3_readAbsence_19 rfl ?_
    refine cs_X3_56 (pc := 20) C ⟨Nat.le_of_ble_eq_true rfl, Nat.le_of_ble_eq_true rfl⟩ ⟨Nat.le_of_ble_eq_true rfl, Nat.le_of_ble_eq_true rfl⟩ (Nat.le_of_ble_eq_true rfl) dX3_readAbsence_20 h (fun r22 M22 h => ?_)
    exact j_zret (pc := 23) C dX3_readAbsence_23 (Nat.le_of_ble_eq_true rfl) (Nat.le_of_ble_eq_true rfl) h
abbrev rm_X3_readDouble : Room := { frames := 3, cells := 0, slots := 0, locals := 63 }
def w_X3_readDouble (M : Mm) (x0 : Nat) (P : Int32 → Mm → Prop) : Prop := (zk M x0 = 3 ∧ ∃ a1, zR M x0 1 = some a1 ∧ zk M a1 = 6 ∧ (if (zI M a1 2) = 0 then (zk M x0 = 3 ∧ ∃ a2, zR M x0 1 = some a2 ∧ zk M a2 = 6 ∧ ((1 : Int32) = 0 ∨ (1 : Int32) = 1) ∧ (∀ M3, M3 = sI M a2 2 (1 : Int32) → (zk M3 x0 = 3 ∧ ∃ a4, zR M3 x0 0 = some a4 ∧ zk M3 a4 = 5 ∧ w_X5_advance M3 a4 (fun M5 => zk M5 x0 = 3 ∧ w_X3_isNumber M5 x0 (0 : Int32) (999 : Int32) (fun r6 M6 => (if r6 = 0 then ((0 : Int32) = 0 ∨ (0 : Int32) = 1) ∧ P (0 : Int32) M6 else (zk M6 x0 = 3 ∧ ∃ a7, zR M6 x0 1 = some a7 ∧ zk M6 x0 = 3 ∧ w_X3_takeNumber M6 x0 (fun r8 M8 => zk M8 a7 = 6 ∧ (∀ M9, M9 = sI M8 a7 1 r8 → ((1 : Int32) = 0 ∨ (1 : Int32) = 1) ∧ P (1 : Int32) M9))))))))) else zk M x0 = 3 ∧ w_X3_fail M x0 (2 : Int32) (fun r10 M10 => (r10 = 0 ∨ r10 = 1) ∧ P r10 M10)))
set_option maxHeartbeats 4000000 in
set_option maxRecDepth 100000 in
theorem c_X3_readDouble (l : Launch) (E : EV) (M : Mm) (x0 : Nat) (P : Int32 → Mm → Prop) (h : w_X3_readDouble M x0 P) : CtI l E yX3_readDouble cX3_readDouble 1 .boolean rm_X3_readDouble 0 0 [.ref x0] M P := by
  refine ctI_of (by decide +kernel) (Nat.le_of_ble_eq_true rfl) ?_
  intro p e s m args below meth c C
  rw [w_X3_readDouble] at h
  show J p l e rm_X3_readDouble s m args below meth c (QI below E P args s 0 0) E 1 M 0 0 0 [(0, .ref x0)] []
  refine j_aload_n (pc := 0) C 0 dX3_readDouble_0 rfl ?_
  refine gf_X3_19 (pc := 1) C dX3_readDouble_1 h (fun a1 h => ?_)
  refine gf_X3_177 (pc := 4) C dX3_readDouble_4 h (fun h => ?_)
  refine j_if_eq (pc := 7) C 16 dX3_readDouble_7 (by decide) h (fun h => ?_) (fun h => ?_)
  · refine j_aload_n (pc := 16) C 0 dX3_readDouble_16 rfl ?_
    refine gf_X3_19 (pc := 17) C dX3_readDouble_17 h (fun a2 h => ?_)
    refine j_iconst (pc := 20) (v := (1 : Int32)) C dX3_readDouble_20 rfl ?_
    refine pf_X3_177 (pc := 21) C dX3_readDouble_21 h (fun M3 h => ?_)
    refine j_aload_n (pc := 24) C 0 dX3_readDouble_24 rfl ?_
    refine gf_X3_15 (pc := 25) C dX3_readDouble_25 h (fun a4 h => ?_)
    refine cs_X3_28 (pc := 28) C ⟨Nat.le_of_ble_eq_true rfl, Nat.le_of_ble_eq_true rfl⟩ ⟨Nat.le_of_ble_eq_true rfl, Nat.le_of_ble_eq_true rfl⟩ (Nat.le_of_ble_eq_true rfl) dX3_readDouble_28 h (fun M5 h => ?_)
    refine j_aload_n (pc := 31) C 0 dX3_readDouble_31 rfl ?_
    refine j_iconst (pc := 32) (v := (0 : Int32)) C dX3_readDouble_32 rfl ?_
    refine j_sipush (pc := 33) (v := (999 : Int32)) C dX3_readDouble_33 rfl ?_
    refine cs_X3_60 (pc := 36) C ⟨Nat.le_of_ble_eq_true rfl, Nat.le_of_ble_eq_true rfl⟩ ⟨Nat.le_of_ble_eq_true rfl, Nat.le_of_ble_eq_true rfl⟩ (Nat.le_of_ble_eq_true rfl) dX3_readDouble_36 h (fun r6 M6 h => ?_)
    refine j_if_ne (pc := 39) C 44 dX3_readDouble_39 (by decide) h (fun h => ?_) (fun h => ?_)
    · refine j_aload_n (pc := 44) C 0 dX3_readDouble_44 rfl ?_
      refine gf_X3_19 (pc := 45) C dX3_readDouble_45 h (fun a7 h => ?_)
      refine j_aload_n (pc := 48) C 0 dX3_readDouble_48 rfl ?_
      refine cs_X3_64 (pc := 49) C ⟨Nat.le_of_ble_eq_true rfl, Nat.le_of_ble_eq_true rfl⟩ ⟨Nat.le_of_ble_eq_true rfl, Nat.le_of_ble_eq_true rfl⟩ (Nat.le_of_ble_eq_true rfl) dX3_readDouble_49 h (fun r8 M8 h => ?_)
      refine pf_X3_181 (pc := 52) C dX3_readDouble_52 h (fun M9 h => ?_)
      refine j_iconst (pc := 55) (v := (1 : Int32)) C dX3_readDouble_55 rfl ?_
      exact j_zret (pc := 56) C dX3_readDouble_56 (Nat.le_of_ble_eq_true rfl) (Nat.le_of_ble_eq_true rfl) h
    · refine j_iconst (pc := 42) (v := (0 : Int32)) C dX3_readDouble_42 rfl ?_
      exact j_zret (pc := 43) C dX3_readDouble_43 (Nat.le_of_ble_eq_true rfl) (Nat.le_of_ble_eq_true rfl) h
  · refine j_aload_n (pc := 10) C 0 dX3_readDouble_10 rfl ?_
    refine j_iconst (pc := 11) (v := (2 : Int32)) C dX3_readDouble_11 rfl ?_
    refine cs_X3_56 (pc := 12) C ⟨Nat.le_of_ble_eq_true rfl, Nat.le_of_ble_eq_true rfl⟩ ⟨Nat.le_of_ble_eq_true rfl, Nat.le_of_ble_eq_true rfl⟩ (Nat.le_of_ble_eq_true rfl) dX3_readDouble_12 h (fun r10 M10 h => ?_)
    exact j_zret (pc := 15) C dX3_readDouble_15 (Nat.le_of_ble_eq_true rfl) (Nat.le_of_ble_eq_true rfl) h
theorem cs_X3_137 (C : Cx p l s m args meth c cc nL RX3 ret E) {b : Nat} {P : Int32 → Mm → Prop} (hR : rm_X2_isFull.frames + 1 ≤ R.frames ∧ 8 + (1 + 11) + rm_X2_isFull.locals ≤ R.locals) (hf : kc ≤ R.cells ∧ ks ≤ R.slots) (hst : (st.map fun v => v.category).sum ≤ 8) (d : decode cc pc = .ok (.invokevirtual 137, 3)) (h : zk M b = 2 ∧ w_X2_isFull M b P) (kk : ∀ r M', P r M' → J p l e R s m args below meth c Q E nL M' kc ks (pc + 3) lo (.int r :: st)) : J p l e R s m args below meth c Q E nL M kc ks pc lo (.ref b :: st) :=
  j_cV_I (n := 0) (As := []) C co_X2 rfl wd_880 wd_881 h.1 (c_X2_isFull l E M b P h.2) ⟨wd_882, wd_879, wd_44, by decide +kernel, by decide +kernel, by decide +kernel⟩ rfl rfl hR hf rfl hst d kk
theorem cs_X3_140 (C : Cx p l s m args meth c cc nL RX3 ret E) {b : Nat} {y0 : Int64} {P : Int32 → Mm → Prop} (hR : rm_X2_add.frames + 1 ≤ R.frames ∧ 8 + (3 + 11) + rm_X2_add.locals ≤ R.locals) (hf : kc ≤ R.cells ∧ ks ≤ R.slots) (hst : (st.map fun v => v.category).sum ≤ 8) (d : decode cc pc = .ok (.invokevirtual 140, 3)) (h : zk M b = 2 ∧ w_X2_add M b y0 P) (kk : ∀ r M', P r M' → J p l e R s m args below meth c Q E nL M' kc ks (pc + 3) lo (.int r :: st)) : J p l e R s m args below meth c Q E nL M kc ks pc lo (.long y0 :: .ref b :: st) :=
  j_cV_I (n := 1) (As := [.long y0]) C co_X2 rfl wd_888 wd_889 h.1 (c_X2_add l E M b y0 P h.2) ⟨wd_890, wd_887, wd_44, by decide +kernel, by decide +kernel, by decide +kernel⟩ rfl rfl hR hf rfl hst d kk
abbrev rm_X3_readNewName : Room := { frames := 2, cells := 0, slots := 0, locals := 42 }
def w_X3_readNewName (M : Mm) (x0 : Nat) (x1 : Nat) (P : Int32 → Mm → Prop) : Prop := zk M x1 = 2 ∧ w_X2_isFull M x1 (fun r1 M1 => (if r1 = 0 then (zk M1 x0 = 3 ∧ ∃ a2, zR M1 x0 0 = some a2 ∧ zk M1 a2 = 5 ∧ w_X5_advance M1 a2 (fun M3 => (zk M3 x0 = 3 ∧ ∃ a4, zR M3 x0 0 = some a4 ∧ zk M3 a4 = 5 ∧ (if (zI M3 a4 3) = (1 : Int32) then (zk M3 x0 = 3 ∧ ∃ a5, zR M3 x0 0 = some a5 ∧ zk M3 a5 = 5 ∧ zk M3 x1 = 2 ∧ w_X2_numberOf M3 x1 (zJ M3 a5 5) (fun r6 M6 => (if r6 = (-1 : Int32) then (zk M6 x0 = 3 ∧ ∃ a7, zR M6 x0 0 = some a7 ∧ zk M6 a7 = 5 ∧ zk M6 x1 = 2 ∧ w_X2_add M6 x1 (zJ M6 a7 5) (fun r8 M8 => (zk M8 x0 = 3 ∧ ∃ a9, zR M8 x0 0 = some a9 ∧ zk M8 a9 = 5 ∧ w_X5_advance M8 a9 (fun M10 => ((1 : Int32) = 0 ∨ (1 : Int32) = 1) ∧ P (1 : Int32) M10)))) else zk M6 x0 = 3 ∧ w_X3_fail M6 x0 (2 : Int32) (fun r11 M11 => (r11 = 0 ∨ r11 = 1) ∧ P r11 M11)))) else zk M3 x0 = 3 ∧ w_X3_fail M3 x0 (1 : Int32) (fun r12 M12 => (r12 = 0 ∨ r12 = 1) ∧ P r12 M12))))) else zk M1 x0 = 3 ∧ w_X3_fail M1 x0 (5 : Int32) (fun r13 M13 => (r13 = 0 ∨ r13 = 1) ∧ P r13 M13)))
set_option maxHeartbeats 4000000 in
set_option maxRecDepth 100000 in
theorem c_X3_readNewName (l : Launch) (E : EV) (M : Mm) (x0 : Nat) (x1 : Nat) (P : Int32 → Mm → Prop) (h : w_X3_readNewName M x0 x1 P) : CtI l E yX3_readNewName cX3_readNewName 2 .boolean rm_X3_readNewName 0 0 [.ref x0, .ref x1] M P := by
  refine ctI_of (by decide +kernel) (Nat.le_of_ble_eq_true rfl) ?_
  intro p e s m args below meth c C
  rw [w_X3_readNewName] at h
  show J p l e rm_X3_readNewName s m args below meth c (QI below E P args s 0 0) E 2 M 0 0 0 [(0, .ref x0), (1, .ref x1)] []
  refine j_aload_n (pc := 0) C 1 dX3_readNewName_0 rfl ?_
  refine cs_X3_137 (pc := 1) C ⟨Nat.le_of_ble_eq_true rfl, Nat.le_of_ble_eq_true rfl⟩ ⟨Nat.le_of_ble_eq_true rfl, Nat.le_of_ble_eq_true rfl⟩ (Nat.le_of_ble_eq_true rfl) dX3_readNewName_1 h (fun r1 M1 h => ?_)
  refine j_if_eq (pc := 4) C 13 dX3_readNewName_4 (by decide) h (fun h => ?_) (fun h => ?_)
  · refine j_aload_n (pc := 13) C 0 dX3_readNewName_13 rfl ?_
    refine gf_X3_15 (pc := 14) C dX3_readNewName_14 h (fun a2 h => ?_)
    refine cs_X3_28 (pc := 17) C ⟨Nat.le_of_ble_eq_true rfl, Nat.le_of_ble_eq_true rfl⟩ ⟨Nat.le_of_ble_eq_true rfl, Nat.le_of_ble_eq_true rfl⟩ (Nat.le_of_ble_eq_true rfl) dX3_readNewName_17 h (fun M3 h => ?_)
    refine j_aload_n (pc := 20) C 0 dX3_readNewName_20 rfl ?_
    refine gf_X3_15 (pc := 21) C dX3_readNewName_21 h (fun a4 h => ?_)
    refine gf_X3_37 (pc := 24) C dX3_readNewName_24 h (fun h => ?_)
    refine j_iconst (pc := 27) (v := (1 : Int32)) C dX3_readNewName_27 rfl ?_
    refine j_icmp_eq (pc := 28) C 37 dX3_readNewName_28 (by decide) h (fun h => ?_) (fun h => ?_)
    · refine j_aload_n (pc := 37) C 1 dX3_readNewName_37 rfl ?_
      refine j_aload_n (pc := 38) C 0 dX3_readNewName_38 rfl ?_
      refine gf_X3_15 (pc := 39) C dX3_readNewName_39 h (fun a5 h => ?_)
      refine gf_X3_46 (pc := 42) C dX3_readNewName_42 h (fun h => ?_)
      refine cs_X3_127 (pc := 45) C ⟨Nat.le_of_ble_eq_true rfl, Nat.le_of_ble_eq_true rfl⟩ ⟨Nat.le_of_ble_eq_true rfl, Nat.le_of_ble_eq_true rfl⟩ (Nat.le_of_ble_eq_true rfl) dX3_readNewName_45 h (fun r6 M6 h => ?_)
      refine j_iconst (pc := 48) (v := (-1 : Int32)) C dX3_readNewName_48 rfl ?_
      refine j_icmp_eq (pc := 49) C 58 dX3_readNewName_49 (by decide) h (fun h => ?_) (fun h => ?_)
      · refine j_aload_n (pc := 58) C 1 dX3_readNewName_58 rfl ?_
        refine j_aload_n (pc := 59) C 0 dX3_readNewName_59 rfl ?_
        refine gf_X3_15 (pc := 60) C dX3_readNewName_60 h (fun a7 h => ?_)
        refine gf_X3_46 (pc := 63) C dX3_readNewName_63 h (fun h => ?_)
        refine cs_X3_140 (pc := 66) C ⟨Nat.le_of_ble_eq_true rfl, Nat.le_of_ble_eq_true rfl⟩ ⟨Nat.le_of_ble_eq_true rfl, Nat.le_of_ble_eq_true rfl⟩ (Nat.le_of_ble_eq_true rfl) dX3_readNewName_66 h (fun r8 M8 h => ?_)
        refine j_pop (pc := 69) C dX3_readNewName_69 rfl ?_
        refine j_aload_n (pc := 70) C 0 dX3_readNewName_70 rfl ?_
        refine gf_X3_15 (pc := 71) C dX3_readNewName_71 h (fun a9 h => ?_)
        refine cs_X3_28 (pc := 74) C ⟨Nat.le_of_ble_eq_true rfl, Nat.le_of_ble_eq_true rfl⟩ ⟨Nat.le_of_ble_eq_true rfl, Nat.le_of_ble_eq_true rfl⟩ (Nat.le_of_ble_eq_true rfl) dX3_readNewName_74 h (fun M10 h => ?_)
        refine j_iconst (pc := 77) (v := (1 : Int32)) C dX3_readNewName_77 rfl ?_
        exact j_zret (pc := 78) C dX3_readNewName_78 (Nat.le_of_ble_eq_true rfl) (Nat.le_of_ble_eq_true rfl) h
      · refine j_aload_n (pc := 52) C 0 dX3_readNewName_52 rfl ?_
        refine j_iconst (pc := 53) (v := (2 : Int32)) C dX3_readNewName_53 rfl ?_
        refine cs_X3_56 (pc := 54) C ⟨Nat.le_of_ble_eq_true rfl, Nat.le_of_ble_eq_true rfl⟩ ⟨Nat.le_of_ble_eq_true rfl, Nat.le_of_ble_eq_true rfl⟩ (Nat.le_of_ble_eq_true rfl) dX3_readNewName_54 h (fun r11 M11 h => ?_)
        exact j_zret (pc := 57) C dX3_readNewName_57 (Nat.le_of_ble_eq_true rfl) (Nat.le_of_ble_eq_true rfl) h
    · refine j_aload_n (pc := 31) C 0 dX3_readNewName_31 rfl ?_
      refine j_iconst (pc := 32) (v := (1 : Int32)) C dX3_readNewName_32 rfl ?_
      refine cs_X3_56 (pc := 33) C ⟨Nat.le_of_ble_eq_true rfl, Nat.le_of_ble_eq_true rfl⟩ ⟨Nat.le_of_ble_eq_true rfl, Nat.le_of_ble_eq_true rfl⟩ (Nat.le_of_ble_eq_true rfl) dX3_readNewName_33 h (fun r12 M12 h => ?_)
      exact j_zret (pc := 36) C dX3_readNewName_36 (Nat.le_of_ble_eq_true rfl) (Nat.le_of_ble_eq_true rfl) h
  · refine j_aload_n (pc := 7) C 0 dX3_readNewName_7 rfl ?_
    refine j_iconst (pc := 8) (v := (5 : Int32)) C dX3_readNewName_8 rfl ?_
    refine cs_X3_56 (pc := 9) C ⟨Nat.le_of_ble_eq_true rfl, Nat.le_of_ble_eq_true rfl⟩ ⟨Nat.le_of_ble_eq_true rfl, Nat.le_of_ble_eq_true rfl⟩ (Nat.le_of_ble_eq_true rfl) dX3_readNewName_9 h (fun r13 M13 h => ?_)
    exact j_zret (pc := 12) C dX3_readNewName_12 (Nat.le_of_ble_eq_true rfl) (Nat.le_of_ble_eq_true rfl) h
theorem cs_X3_104 (C : Cx p l s m args meth c cc nL RX3 ret E) {b : Nat} {y0 : Nat} {P : Int32 → Mm → Prop} (hR : rm_X3_readNewName.frames + 1 ≤ R.frames ∧ 8 + (2 + 11) + rm_X3_readNewName.locals ≤ R.locals) (hf : kc ≤ R.cells ∧ ks ≤ R.slots) (hst : (st.map fun v => v.category).sum ≤ 8) (d : decode cc pc = .ok (.invokevirtual 104, 3)) (h : zk M b = 3 ∧ w_X3_readNewName M b y0 P) (kk : ∀ r M', P r M' → J p l e R s m args below meth c Q E nL M' kc ks (pc + 3) lo (.int r :: st)) : J p l e R s m args below meth c Q E nL M kc ks pc lo (.ref y0 :: .ref b :: st) :=
  j_cV_I (n := 1) (As := [.ref y0]) C co_X3 rfl wd_877 wd_9 h.1 (c_X3_readNewName l E M b y0 P h.2) ⟨wd_878, wd_875, wd_61, by decide +kernel, by decide +kernel, by decide +kernel⟩ rfl rfl hR hf rfl hst d kk
abbrev rm_X3_readHall : Room := { frames := 3, cells := 0, slots := 0, locals := 63 }
def w_X3_readHall (M : Mm) (x0 : Nat) (P : Int32 → Mm → Prop) : Prop := (zk M x0 = 3 ∧ ∃ a1, zR M x0 1 = some a1 ∧ (zk M a1 = 6 ∧ ∃ a2, zR M a1 3 = some a2 ∧ zk M a2 = 2 ∧ (zk M x0 = 3 ∧ ∃ a3, zR M x0 1 = some a3 ∧ (zk M a3 = 6 ∧ ∃ a4, zR M a3 3 = some a4 ∧ zk M x0 = 3 ∧ w_X3_readNewName M x0 a4 (fun r5 M5 => (if r5 = 0 then ((0 : Int32) = 0 ∨ (0 : Int32) = 1) ∧ P (0 : Int32) M5 else zk M5 x0 = 3 ∧ w_X3_isNumber M5 x0 (0 : Int32) (9 : Int32) (fun r6 M6 => (if r6 = 0 then ((0 : Int32) = 0 ∨ (0 : Int32) = 1) ∧ P (0 : Int32) M6 else (zk M6 x0 = 3 ∧ ∃ a7, zR M6 x0 1 = some a7 ∧ (zk M6 a7 = 6 ∧ ∃ a8, zR M6 a7 4 = some a8 ∧ zk M6 x0 = 3 ∧ w_X3_takeNumber M6 x0 (fun r9 M9 => zk M9 a8 = 10 ∧ vp_in (zI M a2 1) (zl M9 a8) ∧ (∀ M10, M10 = sI M9 a8 (zI M a2 1).toNatClampNeg r9 → ((1 : Int32) = 0 ∨ (1 : Int32) = 1) ∧ P (1 : Int32) M10))))))))))))
set_option maxHeartbeats 4000000 in
set_option maxRecDepth 100000 in
theorem c_X3_readHall (l : Launch) (E : EV) (M : Mm) (x0 : Nat) (P : Int32 → Mm → Prop) (h : w_X3_readHall M x0 P) : CtI l E yX3_readHall cX3_readHall 2 .boolean rm_X3_readHall 0 0 [.ref x0] M P := by
  refine ctI_of (by decide +kernel) (Nat.le_of_ble_eq_true rfl) ?_
  intro p e s m args below meth c C
  rw [w_X3_readHall] at h
  show J p l e rm_X3_readHall s m args below meth c (QI below E P args s 0 0) E 2 M 0 0 0 [(0, .ref x0)] []
  refine j_aload_n (pc := 0) C 0 dX3_readHall_0 rfl ?_
  refine gf_X3_19 (pc := 1) C dX3_readHall_1 h (fun a1 h => ?_)
  refine gf_X3_95 (pc := 4) C dX3_readHall_4 h (fun a2 h => ?_)
  refine gf_X3_99 (pc := 7) C dX3_readHall_7 h (fun h => ?_)
  refine j_istore_n (pc := 10) C [(1, _), (0, _)] dX3_readHall_10 (by decide) rfl ?_
  refine j_aload_n (pc := 11) C 1 dX3_readHall_11 rfl ?_
  refine j_aload_n (pc := 12) C 1 dX3_readHall_12 rfl ?_
  refine gf_X3_19 (pc := 13) C dX3_readHall_13 h (fun a3 h => ?_)
  refine gf_X3_95 (pc := 16) C dX3_readHall_16 h (fun a4 h => ?_)
  refine cs_X3_104 (pc := 19) C ⟨Nat.le_of_ble_eq_true rfl, Nat.le_of_ble_eq_true rfl⟩ ⟨Nat.le_of_ble_eq_true rfl, Nat.le_of_ble_eq_true rfl⟩ (Nat.le_of_ble_eq_true rfl) dX3_readHall_19 h (fun r5 M5 h => ?_)
  refine j_if_eq (pc := 22) C 35 dX3_readHall_22 (by decide) h (fun h => ?_) (fun h => ?_)
  · refine j_iconst (pc := 35) (v := (0 : Int32)) C dX3_readHall_35 rfl ?_
    exact j_zret (pc := 36) C dX3_readHall_36 (Nat.le_of_ble_eq_true rfl) (Nat.le_of_ble_eq_true rfl) h
  · refine j_aload_n (pc := 25) C 1 dX3_readHall_25 rfl ?_
    refine j_iconst (pc := 26) (v := (0 : Int32)) C dX3_readHall_26 rfl ?_
    refine j_bipush (pc := 27) (v := (9 : Int32)) C dX3_readHall_27 rfl ?_
    refine cs_X3_60 (pc := 29) C ⟨Nat.le_of_ble_eq_true rfl, Nat.le_of_ble_eq_true rfl⟩ ⟨Nat.le_of_ble_eq_true rfl, Nat.le_of_ble_eq_true rfl⟩ (Nat.le_of_ble_eq_true rfl) dX3_readHall_29 h (fun r6 M6 h => ?_)
    refine j_if_ne (pc := 32) C 37 dX3_readHall_32 (by decide) h (fun h => ?_) (fun h => ?_)
    · refine j_aload_n (pc := 37) C 1 dX3_readHall_37 rfl ?_
      refine gf_X3_19 (pc := 38) C dX3_readHall_38 h (fun a7 h => ?_)
      refine gf_X3_108 (pc := 41) C dX3_readHall_41 h (fun a8 h => ?_)
      refine j_iload_n (pc := 44) C 0 dX3_readHall_44 rfl ?_
      refine j_aload_n (pc := 45) C 1 dX3_readHall_45 rfl ?_
      refine cs_X3_64 (pc := 46) C ⟨Nat.le_of_ble_eq_true rfl, Nat.le_of_ble_eq_true rfl⟩ ⟨Nat.le_of_ble_eq_true rfl, Nat.le_of_ble_eq_true rfl⟩ (Nat.le_of_ble_eq_true rfl) dX3_readHall_46 h (fun r9 M9 h => ?_)
      refine n_iast (pc := 49) C dX3_readHall_49 h (fun M10 h => ?_)
      refine j_iconst (pc := 50) (v := (1 : Int32)) C dX3_readHall_50 rfl ?_
      exact j_zret (pc := 51) C dX3_readHall_51 (Nat.le_of_ble_eq_true rfl) (Nat.le_of_ble_eq_true rfl) h
    · refine j_iconst (pc := 35) (v := (0 : Int32)) C dX3_readHall_35 rfl ?_
      exact j_zret (pc := 36) C dX3_readHall_36 (Nat.le_of_ble_eq_true rfl) (Nat.le_of_ble_eq_true rfl) h
abbrev rm_X3_readInstrument : Room := { frames := 2, cells := 0, slots := 0, locals := 42 }
def w_X3_readInstrument (M : Mm) (x0 : Nat) (x1 : Int32) (x2 : Int32) (P : Int32 → Mm → Prop) : Prop := (zk M x0 = 3 ∧ ∃ a1, zR M x0 0 = some a1 ∧ zk M a1 = 5 ∧ (if (zI M a1 3) = (1 : Int32) then (zk M x0 = 3 ∧ ∃ a2, zR M x0 1 = some a2 ∧ (zk M a2 = 6 ∧ ∃ a3, zR M a2 11 = some a3 ∧ (zk M x0 = 3 ∧ ∃ a4, zR M x0 0 = some a4 ∧ zk M a4 = 5 ∧ zk M a3 = 2 ∧ w_X2_numberOf M a3 (zJ M a4 5) (fun r5 M5 => (if r5 = (-1 : Int32) then (if (4 : Int32) ≤ x2 then zk M5 x0 = 3 ∧ w_X3_fail M5 x0 (5 : Int32) (fun r6 M6 => (r6 = 0 ∨ r6 = 1) ∧ P r6 M6) else (if r5 = (-1 : Int32) then (zk M5 x0 = 3 ∧ ∃ a37, zR M5 x0 1 = some a37 ∧ (zk M5 a37 = 6 ∧ ∃ a38, zR M5 a37 11 = some a38 ∧ zk M5 a38 = 2 ∧ w_X2_isFull M5 a38 (fun r39 M39 => (if r39 = 0 then (if r5 = (-1 : Int32) then (zk M39 x0 = 3 ∧ ∃ a53, zR M39 x0 1 = some a53 ∧ (zk M39 a53 = 6 ∧ ∃ a54, zR M39 a53 11 = some a54 ∧ (zk M39 x0 = 3 ∧ ∃ a55, zR M39 x0 0 = some a55 ∧ zk M39 a55 = 5 ∧ zk M39 a54 = 2 ∧ w_X2_add M39 a54 (zJ M39 a55 5) (fun r56 M56 => (if x2 = 0 then (zk M56 x0 = 3 ∧ ∃ a62, zR M56 x0 1 = some a62 ∧ (zk M56 a62 = 6 ∧ ∃ a63, zR M56 a62 8 = some a63 ∧ zk M56 a63 = 10 ∧ vp_in x1 (zl M56 a63) ∧ (∀ M64, M64 = sI M56 a63 x1.toNatClampNeg r56 → (zk M64 x0 = 3 ∧ ∃ a65, zR M64 x0 1 = some a65 ∧ (zk M64 a65 = 6 ∧ ∃ a66, zR M64 a65 9 = some a66 ∧ zk M64 a66 = 10 ∧ vp_in x1 (zl M64 a66) ∧ zk M64 a66 = 10 ∧ vp_in x1 (zl M64 a66) ∧ (∀ M67, M67 = sI M64 a66 x1.toNatClampNeg ((zI M64 a66 x1.toNatClampNeg) ||| ((1 : Int32) <<< (r56 &&& 31))) → (zk M67 x0 = 3 ∧ ∃ a68, zR M67 x0 0 = some a68 ∧ zk M67 a68 = 5 ∧ w_X5_advance M67 a68 (fun M69 => ((1 : Int32) = 0 ∨ (1 : Int32) = 1) ∧ P (1 : Int32) M69)))))))) else (zk M56 x0 = 3 ∧ ∃ a57, zR M56 x0 1 = some a57 ∧ (zk M56 a57 = 6 ∧ ∃ a58, zR M56 a57 9 = some a58 ∧ zk M56 a58 = 10 ∧ vp_in x1 (zl M56 a58) ∧ zk M56 a58 = 10 ∧ vp_in x1 (zl M56 a58) ∧ (∀ M59, M59 = sI M56 a58 x1.toNatClampNeg ((zI M56 a58 x1.toNatClampNeg) ||| ((1 : Int32) <<< (r56 &&& 31))) → (zk M59 x0 = 3 ∧ ∃ a60, zR M59 x0 0 = some a60 ∧ zk M59 a60 = 5 ∧ w_X5_advance M59 a60 (fun M61 => ((1 : Int32) = 0 ∨ (1 : Int32) = 1) ∧ P (1 : Int32) M61)))))))))) else (if x2 = 0 then (zk M39 x0 = 3 ∧ ∃ a45, zR M39 x0 1 = some a45 ∧ (zk M39 a45 = 6 ∧ ∃ a46, zR M39 a45 8 = some a46 ∧ zk M39 a46 = 10 ∧ vp_in x1 (zl M39 a46) ∧ (∀ M47, M47 = sI M39 a46 x1.toNatClampNeg r5 → (zk M47 x0 = 3 ∧ ∃ a48, zR M47 x0 1 = some a48 ∧ (zk M47 a48 = 6 ∧ ∃ a49, zR M47 a48 9 = some a49 ∧ zk M47 a49 = 10 ∧ vp_in x1 (zl M47 a49) ∧ zk M47 a49 = 10 ∧ vp_in x1 (zl M47 a49) ∧ (∀ M50, M50 = sI M47 a49 x1.toNatClampNeg ((zI M47 a49 x1.toNatClampNeg) ||| ((1 : Int32) <<< (r5 &&& 31))) → (zk M50 x0 = 3 ∧ ∃ a51, zR M50 x0 0 = some a51 ∧ zk M50 a51 = 5 ∧ w_X5_advance M50 a51 (fun M52 => ((1 : Int32) = 0 ∨ (1 : Int32) = 1) ∧ P (1 : Int32) M52)))))))) else (zk M39 x0 = 3 ∧ ∃ a40, zR M39 x0 1 = some a40 ∧ (zk M39 a40 = 6 ∧ ∃ a41, zR M39 a40 9 = some a41 ∧ zk M39 a41 = 10 ∧ vp_in x1 (zl M39 a41) ∧ zk M39 a41 = 10 ∧ vp_in x1 (zl M39 a41) ∧ (∀ M42, M42 = sI M39 a41 x1.toNatClampNeg ((zI M39 a41 x1.toNatClampNeg) ||| ((1 : Int32) <<< (r5 &&& 31))) → (zk M42 x0 = 3 ∧ ∃ a43, zR M42 x0 0 = some a43 ∧ zk M42 a43 = 5 ∧ w_X5_advance M42 a43 (fun M44 => ((1 : Int32) = 0 ∨ (1 : Int32) = 1) ∧ P (1 : Int32) M44))))))) else zk M39 x0 = 3 ∧ w_X3_fail M39 x0 (5 : Int32) (fun r70 M70 => (r70 = 0 ∨ r70 = 1) ∧ P r70 M70))))) else (if r5 = (-1 : Int32) then (zk M5 x0 = 3 ∧ ∃ a20, zR M5 x0 1 = some a20 ∧ (zk M5 a20 = 6 ∧ ∃ a21, zR M5 a20 11 = some a21 ∧ (zk M5 x0 = 3 ∧ ∃ a22, zR M5 x0 0 = some a22 ∧ zk M5 a22 = 5 ∧ zk M5 a21 = 2 ∧ w_X2_add M5 a21 (zJ M5 a22 5) (fun r23 M23 => (if x2 = 0 then (zk M23 x0 = 3 ∧ ∃ a29, zR M23 x0 1 = some a29 ∧ (zk M23 a29 = 6 ∧ ∃ a30, zR M23 a29 8 = some a30 ∧ zk M23 a30 = 10 ∧ vp_in x1 (zl M23 a30) ∧ (∀ M31, M31 = sI M23 a30 x1.toNatClampNeg r23 → (zk M31 x0 = 3 ∧ ∃ a32, zR M31 x0 1 = some a32 ∧ (zk M31 a32 = 6 ∧ ∃ a33, zR M31 a32 9 = some a33 ∧ zk M31 a33 = 10 ∧ vp_in x1 (zl M31 a33) ∧ zk M31 a33 = 10 ∧ vp_in x1 (zl M31 a33) ∧ (∀ M34, M34 = sI M31 a33 x1.toNatClampNeg ((zI M31 a33 x1.toNatClampNeg) ||| ((1 : Int32) <<< (r23 &&& 31))) → (zk M34 x0 = 3 ∧ ∃ a35, zR M34 x0 0 = some a35 ∧ zk M34 a35 = 5 ∧ w_X5_advance M34 a35 (fun M36 => ((1 : Int32) = 0 ∨ (1 : Int32) = 1) ∧ P (1 : Int32) M36)))))))) else (zk M23 x0 = 3 ∧ ∃ a24, zR M23 x0 1 = some a24 ∧ (zk M23 a24 = 6 ∧ ∃ a25, zR M23 a24 9 = some a25 ∧ zk M23 a25 = 10 ∧ vp_in x1 (zl M23 a25) ∧ zk M23 a25 = 10 ∧ vp_in x1 (zl M23 a25) ∧ (∀ M26, M26 = sI M23 a25 x1.toNatClampNeg ((zI M23 a25 x1.toNatClampNeg) ||| ((1 : Int32) <<< (r23 &&& 31))) → (zk M26 x0 = 3 ∧ ∃ a27, zR M26 x0 0 = some a27 ∧ zk M26 a27 = 5 ∧ w_X5_advance M26 a27 (fun M28 => ((1 : Int32) = 0 ∨ (1 : Int32) = 1) ∧ P (1 : Int32) M28)))))))))) else (if x2 = 0 then (zk M5 x0 = 3 ∧ ∃ a12, zR M5 x0 1 = some a12 ∧ (zk M5 a12 = 6 ∧ ∃ a13, zR M5 a12 8 = some a13 ∧ zk M5 a13 = 10 ∧ vp_in x1 (zl M5 a13) ∧ (∀ M14, M14 = sI M5 a13 x1.toNatClampNeg r5 → (zk M14 x0 = 3 ∧ ∃ a15, zR M14 x0 1 = some a15 ∧ (zk M14 a15 = 6 ∧ ∃ a16, zR M14 a15 9 = some a16 ∧ zk M14 a16 = 10 ∧ vp_in x1 (zl M14 a16) ∧ zk M14 a16 = 10 ∧ vp_in x1 (zl M14 a16) ∧ (∀ M17, M17 = sI M14 a16 x1.toNatClampNeg ((zI M14 a16 x1.toNatClampNeg) ||| ((1 : Int32) <<< (r5 &&& 31))) → (zk M17 x0 = 3 ∧ ∃ a18, zR M17 x0 0 = some a18 ∧ zk M17 a18 = 5 ∧ w_X5_advance M17 a18 (fun M19 => ((1 : Int32) = 0 ∨ (1 : Int32) = 1) ∧ P (1 : Int32) M19)))))))) else (zk M5 x0 = 3 ∧ ∃ a7, zR M5 x0 1 = some a7 ∧ (zk M5 a7 = 6 ∧ ∃ a8, zR M5 a7 9 = some a8 ∧ zk M5 a8 = 10 ∧ vp_in x1 (zl M5 a8) ∧ zk M5 a8 = 10 ∧ vp_in x1 (zl M5 a8) ∧ (∀ M9, M9 = sI M5 a8 x1.toNatClampNeg ((zI M5 a8 x1.toNatClampNeg) ||| ((1 : Int32) <<< (r5 &&& 31))) → (zk M9 x0 = 3 ∧ ∃ a10, zR M9 x0 0 = some a10 ∧ zk M9 a10 = 5 ∧ w_X5_advance M9 a10 (fun M11 => ((1 : Int32) = 0 ∨ (1 : Int32) = 1) ∧ P (1 : Int32) M11))))))))) else (zk M5 x0 = 3 ∧ ∃ a71, zR M5 x0 1 = some a71 ∧ (zk M5 a71 = 6 ∧ ∃ a72, zR M5 a71 9 = some a72 ∧ zk M5 a72 = 10 ∧ vp_in x1 (zl M5 a72) ∧ w_X7_has M5 (zI M5 a72 x1.toNatClampNeg) r5 (fun r73 M73 => (if r73 = 0 then (if (4 : Int32) ≤ x2 then zk M73 x0 = 3 ∧ w_X3_fail M73 x0 (5 : Int32) (fun r74 M74 => (r74 = 0 ∨ r74 = 1) ∧ P r74 M74) else (if r5 = (-1 : Int32) then (zk M73 x0 = 3 ∧ ∃ a105, zR M73 x0 1 = some a105 ∧ (zk M73 a105 = 6 ∧ ∃ a106, zR M73 a105 11 = some a106 ∧ zk M73 a106 = 2 ∧ w_X2_isFull M73 a106 (fun r107 M107 => (if r107 = 0 then (if r5 = (-1 : Int32) then (zk M107 x0 = 3 ∧ ∃ a121, zR M107 x0 1 = some a121 ∧ (zk M107 a121 = 6 ∧ ∃ a122, zR M107 a121 11 = some a122 ∧ (zk M107 x0 = 3 ∧ ∃ a123, zR M107 x0 0 = some a123 ∧ zk M107 a123 = 5 ∧ zk M107 a122 = 2 ∧ w_X2_add M107 a122 (zJ M107 a123 5) (fun r124 M124 => (if x2 = 0 then (zk M124 x0 = 3 ∧ ∃ a130, zR M124 x0 1 = some a130 ∧ (zk M124 a130 = 6 ∧ ∃ a131, zR M124 a130 8 = some a131 ∧ zk M124 a131 = 10 ∧ vp_in x1 (zl M124 a131) ∧ (∀ M132, M132 = sI M124 a131 x1.toNatClampNeg r124 → (zk M132 x0 = 3 ∧ ∃ a133, zR M132 x0 1 = some a133 ∧ (zk M132 a133 = 6 ∧ ∃ a134, zR M132 a133 9 = some a134 ∧ zk M132 a134 = 10 ∧ vp_in x1 (zl M132 a134) ∧ zk M132 a134 = 10 ∧ vp_in x1 (zl M132 a134) ∧ (∀ M135, M135 = sI M132 a134 x1.toNatClampNeg ((zI M132 a134 x1.toNatClampNeg) ||| ((1 : Int32) <<< (r124 &&& 31))) → (zk M135 x0 = 3 ∧ ∃ a136, zR M135 x0 0 = some a136 ∧ zk M135 a136 = 5 ∧ w_X5_advance M135 a136 (fun M137 => ((1 : Int32) = 0 ∨ (1 : Int32) = 1) ∧ P (1 : Int32) M137)))))))) else (zk M124 x0 = 3 ∧ ∃ a125, zR M124 x0 1 = some a125 ∧ (zk M124 a125 = 6 ∧ ∃ a126, zR M124 a125 9 = some a126 ∧ zk M124 a126 = 10 ∧ vp_in x1 (zl M124 a126) ∧ zk M124 a126 = 10 ∧ vp_in x1 (zl M124 a126) ∧ (∀ M127, M127 = sI M124 a126 x1.toNatClampNeg ((zI M124 a126 x1.toNatClampNeg) ||| ((1 : Int32) <<< (r124 &&& 31))) → (zk M127 x0 = 3 ∧ ∃ a128, zR M127 x0 0 = some a128 ∧ zk M127 a128 = 5 ∧ w_X5_advance M127 a128 (fun M129 => ((1 : Int32) = 0 ∨ (1 : Int32) = 1) ∧ P (1 : Int32) M129)))))))))) else (if x2 = 0 then (zk M107 x0 = 3 ∧ ∃ a113, zR M107 x0 1 = some a113 ∧ (zk M107 a113 = 6 ∧ ∃ a114, zR M107 a113 8 = some a114 ∧ zk M107 a114 = 10 ∧ vp_in x1 (zl M107 a114) ∧ (∀ M115, M115 = sI M107 a114 x1.toNatClampNeg r5 → (zk M115 x0 = 3 ∧ ∃ a116, zR M115 x0 1 = some a116 ∧ (zk M115 a116 = 6 ∧ ∃ a117, zR M115 a116 9 = some a117 ∧ zk M115 a117 = 10 ∧ vp_in x1 (zl M115 a117) ∧ zk M115 a117 = 10 ∧ vp_in x1 (zl M115 a117) ∧ (∀ M118, M118 = sI M115 a117 x1.toNatClampNeg ((zI M115 a117 x1.toNatClampNeg) ||| ((1 : Int32) <<< (r5 &&& 31))) → (zk M118 x0 = 3 ∧ ∃ a119, zR M118 x0 0 = some a119 ∧ zk M118 a119 = 5 ∧ w_X5_advance M118 a119 (fun M120 => ((1 : Int32) = 0 ∨ (1 : Int32) = 1) ∧ P (1 : Int32) M120)))))))) else (zk M107 x0 = 3 ∧ ∃ a108, zR M107 x0 1 = some a108 ∧ (zk M107 a108 = 6 ∧ ∃ a109, zR M107 a108 9 = some a109 ∧ zk M107 a109 = 10 ∧ vp_in x1 (zl M107 a109) ∧ zk M107 a109 = 10 ∧ vp_in x1 (zl M107 a109) ∧ (∀ M110, M110 = sI M107 a109 x1.toNatClampNeg ((zI M107 a109 x1.toNatClampNeg) ||| ((1 : Int32) <<< (r5 &&& 31))) → (zk M110 x0 = 3 ∧ ∃ a111, zR M110 x0 0 = some a111 ∧ zk M110 a111 = 5 ∧ w_X5_advance M110 a111 (fun M112 => ((1 : Int32) = 0 ∨ (1 : Int32) = 1) ∧ P (1 : Int32) M112))))))) else zk M107 x0 = 3 ∧ w_X3_fail M107 x0 (5 : Int32) (fun r138 M138 => (r138 = 0 ∨ r138 = 1) ∧ P r138 M138))))) else (if r5 = (-1 : Int32) then (zk M73 x0 = 3 ∧ ∃ a88, zR M73 x0 1 = some a88 ∧ (zk M73 a88 = 6 ∧ ∃ a89, zR M73 a88 11 = some a89 ∧ (zk M73 x0 = 3 ∧ ∃ a90, zR M73 x0 0 = some a90 ∧ zk M73 a90 = 5 ∧ zk M73 a89 = 2 ∧ w_X2_add M73 a89 (zJ M73 a90 5) (fun r91 M91 => (if x2 = 0 then (zk M91 x0 = 3 ∧ ∃ a97, zR M91 x0 1 = some a97 ∧ (zk M91 a97 = 6 ∧ ∃ a98, zR M91 a97 8 = some a98 ∧ zk M91 a98 = 10 ∧ vp_in x1 (zl M91 a98) ∧ (∀ M99, M99 = sI M91 a98 x1.toNatClampNeg r91 → (zk M99 x0 = 3 ∧ ∃ a100, zR M99 x0 1 = some a100 ∧ (zk M99 a100 = 6 ∧ ∃ a101, zR M99 a100 9 = some a101 ∧ zk M99 a101 = 10 ∧ vp_in x1 (zl M99 a101) ∧ zk M99 a101 = 10 ∧ vp_in x1 (zl M99 a101) ∧ (∀ M102, M102 = sI M99 a101 x1.toNatClampNeg ((zI M99 a101 x1.toNatClampNeg) ||| ((1 : Int32) <<< (r91 &&& 31))) → (zk M102 x0 = 3 ∧ ∃ a103, zR M102 x0 0 = some a103 ∧ zk M102 a103 = 5 ∧ w_X5_advance M102 a103 (fun M104 => ((1 : Int32) = 0 ∨ (1 : Int32) = 1) ∧ P (1 : Int32) M104)))))))) else (zk M91 x0 = 3 ∧ ∃ a92, zR M91 x0 1 = some a92 ∧ (zk M91 a92 = 6 ∧ ∃ a93, zR M91 a92 9 = some a93 ∧ zk M91 a93 = 10 ∧ vp_in x1 (zl M91 a93) ∧ zk M91 a93 = 10 ∧ vp_in x1 (zl M91 a93) ∧ (∀ M94, M94 = sI M91 a93 x1.toNatClampNeg ((zI M91 a93 x1.toNatClampNeg) ||| ((1 : Int32) <<< (r91 &&& 31))) → (zk M94 x0 = 3 ∧ ∃ a95, zR M94 x0 0 = some a95 ∧ zk M94 a95 = 5 ∧ w_X5_advance M94 a95 (fun M96 => ((1 : Int32) = 0 ∨ (1 : Int32) = 1) ∧ P (1 : Int32) M96)))))))))) else (if x2 = 0 then (zk M73 x0 = 3 ∧ ∃ a80, zR M73 x0 1 = some a80 ∧ (zk M73 a80 = 6 ∧ ∃ a81, zR M73 a80 8 = some a81 ∧ zk M73 a81 = 10 ∧ vp_in x1 (zl M73 a81) ∧ (∀ M82, M82 = sI M73 a81 x1.toNatClampNeg r5 → (zk M82 x0 = 3 ∧ ∃ a83, zR M82 x0 1 = some a83 ∧ (zk M82 a83 = 6 ∧ ∃ a84, zR M82 a83 9 = some a84 ∧ zk M82 a84 = 10 ∧ vp_in x1 (zl M82 a84) ∧ zk M82 a84 = 10 ∧ vp_in x1 (zl M82 a84) ∧ (∀ M85, M85 = sI M82 a84 x1.toNatClampNeg ((zI M82 a84 x1.toNatClampNeg) ||| ((1 : Int32) <<< (r5 &&& 31))) → (zk M85 x0 = 3 ∧ ∃ a86, zR M85 x0 0 = some a86 ∧ zk M85 a86 = 5 ∧ w_X5_advance M85 a86 (fun M87 => ((1 : Int32) = 0 ∨ (1 : Int32) = 1) ∧ P (1 : Int32) M87)))))))) else (zk M73 x0 = 3 ∧ ∃ a75, zR M73 x0 1 = some a75 ∧ (zk M73 a75 = 6 ∧ ∃ a76, zR M73 a75 9 = some a76 ∧ zk M73 a76 = 10 ∧ vp_in x1 (zl M73 a76) ∧ zk M73 a76 = 10 ∧ vp_in x1 (zl M73 a76) ∧ (∀ M77, M77 = sI M73 a76 x1.toNatClampNeg ((zI M73 a76 x1.toNatClampNeg) ||| ((1 : Int32) <<< (r5 &&& 31))) → (zk M77 x0 = 3 ∧ ∃ a78, zR M77 x0 0 = some a78 ∧ zk M77 a78 = 5 ∧ w_X5_advance M77 a78 (fun M79 => ((1 : Int32) = 0 ∨ (1 : Int32) = 1) ∧ P (1 : Int32) M79))))))))) else zk M73 x0 = 3 ∧ w_X3_fail M73 x0 (2 : Int32) (fun r139 M139 => (r139 = 0 ∨ r139 = 1) ∧ P r139 M139)))))))))) else zk M x0 = 3 ∧ w_X3_fail M x0 (1 : Int32) (fun r140 M140 => (r140 = 0 ∨ r140 = 1) ∧ P r140 M140)))
set_option maxHeartbeats 4000000 in
set_option maxRecDepth 100000 in
theorem c_X3_readInstrument (l : Launch) (E : EV) (M : Mm) (x0 : Nat) (x1 : Int32) (x2 : Int32) (P : Int32 → Mm → Prop) (h : w_X3_readInstrument M x0 x1 x2 P) : CtI l E yX3_readInstrument cX3_readInstrument 4 .boolean rm_X3_readInstrument 0 0 [.ref x0, .int x1, .int x2] M P := by
  refine ctI_of (by decide +kernel) (Nat.le_of_ble_eq_true rfl) ?_
  intro p e s m args below meth c C
  rw [w_X3_readInstrument] at h
  show J p l e rm_X3_readInstrument s m args below meth c (QI below E P args s 0 0) E 4 M 0 0 0 [(0, .ref x0), (1, .int x1), (2, .int x2)] []
  refine j_aload_n (pc := 0) C 0 dX3_readInstrument_0 rfl ?_
  refine gf_X3_15 (pc := 1) C dX3_readInstrument_1 h (fun a1 h => ?_)
  refine gf_X3_37 (pc := 4) C dX3_readInstrument_4 h (fun h => ?_)
  refine j_iconst (pc := 7) (v := (1 : Int32)) C dX3_readInstrument_7 rfl ?_
  refine j_icmp_eq (pc := 8) C 17 dX3_readInstrument_8 (by decide) h (fun h => ?_) (fun h => ?_)
  · refine j_aload_n (pc := 17) C 0 dX3_readInstrument_17 rfl ?_
    refine gf_X3_19 (pc := 18) C dX3_readInstrument_18 h (fun a2 h => ?_)
    refine gf_X3_124 (pc := 21) C dX3_readInstrument_21 h (fun a3 h => ?_)
    refine j_aload_n (pc := 24) C 0 dX3_readInstrument_24 rfl ?_
    refine gf_X3_15 (pc := 25) C dX3_readInstrument_25 h (fun a4 h => ?_)
    refine gf_X3_46 (pc := 28) C dX3_readInstrument_28 h (fun h => ?_)
    refine cs_X3_127 (pc := 31) C ⟨Nat.le_of_ble_eq_true rfl, Nat.le_of_ble_eq_true rfl⟩ ⟨Nat.le_of_ble_eq_true rfl, Nat.le_of_ble_eq_true rfl⟩ (Nat.le_of_ble_eq_true rfl) dX3_readInstrument_31 h (fun r5 M5 h => ?_)
    refine j_istore_n (pc := 34) C [(3, _), (0, _), (1, _), (2, _)] dX3_readInstrument_34 (by decide) rfl ?_
    refine j_iload_n (pc := 35) C 0 dX3_readInstrument_35 rfl ?_
    refine j_iconst (pc := 36) (v := (-1 : Int32)) C dX3_readInstrument_36 rfl ?_
    refine j_icmp_eq (pc := 37) C 62 dX3_readInstrument_37 (by decide) h (fun h => ?_) (fun h => ?_)
    · refine j_iload_n (pc := 62) C 3 dX3_readInstrument_62 rfl ?_
      refine j_iconst (pc := 63) (v := (4 : Int32)) C dX3_readInstrument_63 rfl ?_
      refine j_icmp_ge (pc := 64) C 85 dX3_readInstrument_64 (by decide) h (fun h => ?_) (fun h => ?_)
      · refine j_aload_n (pc := 85) C 1 dX3_readInstrument_85 rfl ?_
        refine j_iconst (pc := 86) (v := (5 : Int32)) C dX3_readInstrument_86 rfl ?_
        refine cs_X3_56 (pc := 87) C ⟨Nat.le_of_ble_eq_true rfl, Nat.le_of_ble_eq_true rfl⟩ ⟨Nat.le_of_ble_eq_true rfl, Nat.le_of_ble_eq_true rfl⟩ (Nat.le_of_ble_eq_true rfl) dX3_readInstrument_87 h (fun r6 M6 h => ?_)
        exact j_zret (pc := 90) C dX3_readInstrument_90 (Nat.le_of_ble_eq_true rfl) (Nat.le_of_ble_eq_true rfl) h
      · refine j_iload_n (pc := 67) C 0 dX3_readInstrument_67 rfl ?_
        refine j_iconst (pc := 68) (v := (-1 : Int32)) C dX3_readInstrument_68 rfl ?_
        refine j_icmp_ne (pc := 69) C 91 dX3_readInstrument_69 (by decide) h (fun h => ?_) (fun h => ?_)
        · refine j_iload_n (pc := 91) C 0 dX3_readInstrument_91 rfl ?_
          refine j_iconst (pc := 92) (v := (-1 : Int32)) C dX3_readInstrument_92 rfl ?_
          refine j_icmp_ne (pc := 93) C 114 dX3_readInstrument_93 (by decide) h (fun h => ?_) (fun h => ?_)
          · refine j_iload_n (pc := 114) C 3 dX3_readInstrument_114 rfl ?_
            refine j_if_ne (pc := 115) C 128 dX3_readInstrument_115 (by decide) h (fun h => ?_) (fun h => ?_)
            · refine j_aload_n (pc := 128) C 1 dX3_readInstrument_128 rfl ?_
              refine gf_X3_19 (pc := 129) C dX3_readInstrument_129 h (fun a7 h => ?_)
              refine gf_X3_131 (pc := 132) C dX3_readInstrument_132 h (fun a8 h => ?_)
              refine j_iload_n (pc := 135) C 2 dX3_readInstrument_135 rfl ?_
              refine j_dup2 (pc := 136) C dX3_readInstrument_136 rfl rfl ?_
              refine j_iald (pc := 137) C dX3_readInstrument_137 h (fun h => ?_)
              refine j_iconst (pc := 138) (v := (1 : Int32)) C dX3_readInstrument_138 rfl ?_
              refine j_iload_n (pc := 139) C 0 dX3_readInstrument_139 rfl ?_
              refine j_ishl (pc := 140) C dX3_readInstrument_140 ?_
              refine j_ior (pc := 141) C dX3_readInstrument_141 ?_
              refine n_iast (pc := 142) C dX3_readInstrument_142 h (fun M9 h => ?_)
              refine j_aload_n (pc := 143) C 1 dX3_readInstrument_143 rfl ?_
              refine gf_X3_15 (pc := 144) C dX3_readInstrument_144 h (fun a10 h => ?_)
              refine cs_X3_28 (pc := 147) C ⟨Nat.le_of_ble_eq_true rfl, Nat.le_of_ble_eq_true rfl⟩ ⟨Nat.le_of_ble_eq_true rfl, Nat.le_of_ble_eq_true rfl⟩ (Nat.le_of_ble_eq_true rfl) dX3_readInstrument_147 h (fun M11 h => ?_)
              refine j_iconst (pc := 150) (v := (1 : Int32)) C dX3_readInstrument_150 rfl ?_
              exact j_zret (pc := 151) C dX3_readInstrument_151 (Nat.le_of_ble_eq_true rfl) (Nat.le_of_ble_eq_true rfl) h
            · refine j_aload_n (pc := 118) C 1 dX3_readInstrument_118 rfl ?_
              refine gf_X3_19 (pc := 119) C dX3_readInstrument_119 h (fun a12 h => ?_)
              refine gf_X3_143 (pc := 122) C dX3_readInstrument_122 h (fun a13 h => ?_)
              refine j_iload_n (pc := 125) C 2 dX3_readInstrument_125 rfl ?_
              refine j_iload_n (pc := 126) C 0 dX3_readInstrument_126 rfl ?_
              refine n_iast (pc := 127) C dX3_readInstrument_127 h (fun M14 h => ?_)
              refine j_aload_n (pc := 128) C 1 dX3_readInstrument_128 rfl ?_
              refine gf_X3_19 (pc := 129) C dX3_readInstrument_129 h (fun a15 h => ?_)
              refine gf_X3_131 (pc := 132) C dX3_readInstrument_132 h (fun a16 h => ?_)
              refine j_iload_n (pc := 135) C 2 dX3_readInstrument_135 rfl ?_
              refine j_dup2 (pc := 136) C dX3_readInstrument_136 rfl rfl ?_
              refine j_iald (pc := 137) C dX3_readInstrument_137 h (fun h => ?_)
              refine j_iconst (pc := 138) (v := (1 : Int32)) C dX3_readInstrument_138 rfl ?_
              refine j_iload_n (pc := 139) C 0 dX3_readInstrument_139 rfl ?_
              refine j_ishl (pc := 140) C dX3_readInstrument_140 ?_
              refine j_ior (pc := 141) C dX3_readInstrument_141 ?_
              refine n_iast (pc := 142) C dX3_readInstrument_142 h (fun M17 h => ?_)
              refine j_aload_n (pc := 143) C 1 dX3_readInstrument_143 rfl ?_
              refine gf_X3_15 (pc := 144) C dX3_readInstrument_144 h (fun a18 h => ?_)
              refine cs_X3_28 (pc := 147) C ⟨Nat.le_of_ble_eq_true rfl, Nat.le_of_ble_eq_true rfl⟩ ⟨Nat.le_of_ble_eq_true rfl, Nat.le_of_ble_eq_true rfl⟩ (Nat.le_of_ble_eq_true rfl) dX3_readInstrument_147 h (fun M19 h => ?_)
              refine j_iconst (pc := 150) (v := (1 : Int32)) C dX3_readInstrument_150 rfl ?_
              exact j_zret (pc := 151) C dX3_readInstrument_151 (Nat.le_of_ble_eq_true rfl) (Nat.le_of_ble_eq_true rfl) h
          · refine j_aload_n (pc := 96) C 1 dX3_readInstrument_96 rfl ?_
            refine gf_X3_19 (pc := 97) C dX3_readInstrument_97 h (fun a20 h => ?_)
            refine gf_X3_124 (pc := 100) C dX3_readInstrument_100 h (fun a21 h => ?_)
            refine j_aload_n (pc := 103) C 1 dX3_readInstrument_103 rfl ?_
            refine gf_X3_15 (pc := 104) C dX3_readInstrument_104 h (fun a22 h => ?_)
            refine gf_X3_46 (pc := 107) C dX3_readInstrument_107 h (fun h => ?_)
            refine cs_X3_140 (pc := 110) C ⟨Nat.le_of_ble_eq_true rfl, Nat.le_of_ble_eq_true rfl⟩ ⟨Nat.le_of_ble_eq_true rfl, Nat.le_of_ble_eq_true rfl⟩ (Nat.le_of_ble_eq_true rfl) dX3_readInstrument_110 h (fun r23 M23 h => ?_)
            refine j_istore_n (pc := 113) C [(3, _), (0, _), (1, _), (2, _)] dX3_readInstrument_113 (by decide) rfl ?_
            refine j_iload_n (pc := 114) C 3 dX3_readInstrument_114 rfl ?_
            refine j_if_ne (pc := 115) C 128 dX3_readInstrument_115 (by decide) h (fun h => ?_) (fun h => ?_)
            · refine j_aload_n (pc := 128) C 1 dX3_readInstrument_128 rfl ?_
              refine gf_X3_19 (pc := 129) C dX3_readInstrument_129 h (fun a24 h => ?_)
              refine gf_X3_131 (pc := 132) C dX3_readInstrument_132 h (fun a25 h => ?_)
              refine j_iload_n (pc := 135) C 2 dX3_readInstrument_135 rfl ?_
              refine j_dup2 (pc := 136) C dX3_readInstrument_136 rfl rfl ?_
              refine j_iald (pc := 137) C dX3_readInstrument_137 h (fun h => ?_)
              refine j_iconst (pc := 138) (v := (1 : Int32)) C dX3_readInstrument_138 rfl ?_
              refine j_iload_n (pc := 139) C 0 dX3_readInstrument_139 rfl ?_
              refine j_ishl (pc := 140) C dX3_readInstrument_140 ?_
              refine j_ior (pc := 141) C dX3_readInstrument_141 ?_
              refine n_iast (pc := 142) C dX3_readInstrument_142 h (fun M26 h => ?_)
              refine j_aload_n (pc := 143) C 1 dX3_readInstrument_143 rfl ?_
              refine gf_X3_15 (pc := 144) C dX3_readInstrument_144 h (fun a27 h => ?_)
              refine cs_X3_28 (pc := 147) C ⟨Nat.le_of_ble_eq_true rfl, Nat.le_of_ble_eq_true rfl⟩ ⟨Nat.le_of_ble_eq_true rfl, Nat.le_of_ble_eq_true rfl⟩ (Nat.le_of_ble_eq_true rfl) dX3_readInstrument_147 h (fun M28 h => ?_)
              refine j_iconst (pc := 150) (v := (1 : Int32)) C dX3_readInstrument_150 rfl ?_
              exact j_zret (pc := 151) C dX3_readInstrument_151 (Nat.le_of_ble_eq_true rfl) (Nat.le_of_ble_eq_true rfl) h
            · refine j_aload_n (pc := 118) C 1 dX3_readInstrument_118 rfl ?_
              refine gf_X3_19 (pc := 119) C dX3_readInstrument_119 h (fun a29 h => ?_)
              refine gf_X3_143 (pc := 122) C dX3_readInstrument_122 h (fun a30 h => ?_)
              refine j_iload_n (pc := 125) C 2 dX3_readInstrument_125 rfl ?_
              refine j_iload_n (pc := 126) C 0 dX3_readInstrument_126 rfl ?_
              refine n_iast (pc := 127) C dX3_readInstrument_127 h (fun M31 h => ?_)
              refine j_aload_n (pc := 128) C 1 dX3_readInstrument_128 rfl ?_
              refine gf_X3_19 (pc := 129) C dX3_readInstrument_129 h (fun a32 h => ?_)
              refine gf_X3_131 (pc := 132) C dX3_readInstrument_132 h (fun a33 h => ?_)
              refine j_iload_n (pc := 135) C 2 dX3_readInstrument_135 rfl ?_
              refine j_dup2 (pc := 136) C dX3_readInstrument_136 rfl rfl ?_
              refine j_iald (pc := 137) C dX3_readInstrument_137 h (fun h => ?_)
              refine j_iconst (pc := 138) (v := (1 : Int32)) C dX3_readInstrument_138 rfl ?_
              refine j_iload_n (pc := 139) C 0 dX3_readInstrument_139 rfl ?_
              refine j_ishl (pc := 140) C dX3_readInstrument_140 ?_
              refine j_ior (pc := 141) C dX3_readInstrument_141 ?_
              refine n_iast (pc := 142) C dX3_readInstrument_142 h (fun M34 h => ?_)
              refine j_aload_n (pc := 143) C 1 dX3_readInstrument_143 rfl ?_
              refine gf_X3_15 (pc := 144) C dX3_readInstrument_144 h (fun a35 h => ?_)
              refine cs_X3_28 (pc := 147) C ⟨Nat.le_of_ble_eq_true rfl, Nat.le_of_ble_eq_true rfl⟩ ⟨Nat.le_of_ble_eq_true rfl, Nat.le_of_ble_eq_true rfl⟩ (Nat.le_of_ble_eq_true rfl) dX3_readInstrument_147 h (fun M36 h => ?_)
              refine j_iconst (pc := 150) (v := (1 : Int32)) C dX3_readInstrument_150 rfl ?_
              exact j_zret (pc := 151) C dX3_readInstrument_151 (Nat.le_of_ble_eq_true rfl) (Nat.le_of_ble_eq_true rfl) h
        · refine j_aload_n (pc := 72) C 1 dX3_readInstrument_72 rfl ?_
          refine gf_X3_19 (pc := 73) C dX3_readInstrument_73 h (fun a37 h => ?_)
          refine gf_X3_124 (pc := 76) C dX3_readInstrument_76 h (fun a38 h => ?_)
          refine cs_X3_137 (pc := 79) C ⟨Nat.le_of_ble_eq_true rfl, Nat.le_of_ble_eq_true rfl⟩ ⟨Nat.le_of_ble_eq_true rfl, Nat.le_of_ble_eq_true rfl⟩ (Nat.le_of_ble_eq_true rfl) dX3_readInstrument_79 h (fun r39 M39 h => ?_)
          refine j_if_eq (pc := 82) C 91 dX3_readInstrument_82 (by decide) h (fun h => ?_) (fun h => ?_)
          · refine j_iload_n (pc := 91) C 0 dX3_readInstrument_91 rfl ?_
            refine j_iconst (pc := 92) (v := (-1 : Int32)) C dX3_readInstrument_92 rfl ?_
            refine j_icmp_ne (pc := 93) C 114 dX3_readInstrument_93 (by decide) h (fun h => ?_) (fun h => ?_)
            · refine j_iload_n (pc := 114) C 3 dX3_readInstrument_114 rfl ?_
              refine j_if_ne (pc := 115) C 128 dX3_readInstrument_115 (by decide) h (fun h => ?_) (fun h => ?_)
              · refine j_aload_n (pc := 128) C 1 dX3_readInstrument_128 rfl ?_
                refine gf_X3_19 (pc := 129) C dX3_readInstrument_129 h (fun a40 h => ?_)
                refine gf_X3_131 (pc := 132) C dX3_readInstrument_132 h (fun a41 h => ?_)
                refine j_iload_n (pc := 135) C 2 dX3_readInstrument_135 rfl ?_
                refine j_dup2 (pc := 136) C dX3_readInstrument_136 rfl rfl ?_
                refine j_iald (pc := 137) C dX3_readInstrument_137 h (fun h => ?_)
                refine j_iconst (pc := 138) (v := (1 : Int32)) C dX3_readInstrument_138 rfl ?_
                refine j_iload_n (pc := 139) C 0 dX3_readInstrument_139 rfl ?_
                refine j_ishl (pc := 140) C dX3_readInstrument_140 ?_
                refine j_ior (pc := 141) C dX3_readInstrument_141 ?_
                refine n_iast (pc := 142) C dX3_readInstrument_142 h (fun M42 h => ?_)
                refine j_aload_n (pc := 143) C 1 dX3_readInstrument_143 rfl ?_
                refine gf_X3_15 (pc := 144) C dX3_readInstrument_144 h (fun a43 h => ?_)
                refine cs_X3_28 (pc := 147) C ⟨Nat.le_of_ble_eq_true rfl, Nat.le_of_ble_eq_true rfl⟩ ⟨Nat.le_of_ble_eq_true rfl, Nat.le_of_ble_eq_true rfl⟩ (Nat.le_of_ble_eq_true rfl) dX3_readInstrument_147 h (fun M44 h => ?_)
                refine j_iconst (pc := 150) (v := (1 : Int32)) C dX3_readInstrument_150 rfl ?_
                exact j_zret (pc := 151) C dX3_readInstrument_151 (Nat.le_of_ble_eq_true rfl) (Nat.le_of_ble_eq_true rfl) h
              · refine j_aload_n (pc := 118) C 1 dX3_readInstrument_118 rfl ?_
                refine gf_X3_19 (pc := 119) C dX3_readInstrument_119 h (fun a45 h => ?_)
                refine gf_X3_143 (pc := 122) C dX3_readInstrument_122 h (fun a46 h => ?_)
                refine j_iload_n (pc := 125) C 2 dX3_readInstrument_125 rfl ?_
                refine j_iload_n (pc := 126) C 0 dX3_readInstrument_126 rfl ?_
                refine n_iast (pc := 127) C dX3_readInstrument_127 h (fun M47 h => ?_)
                refine j_aload_n (pc := 128) C 1 dX3_readInstrument_128 rfl ?_
                refine gf_X3_19 (pc := 129) C dX3_readInstrument_129 h (fun a48 h => ?_)
                refine gf_X3_131 (pc := 132) C dX3_readInstrument_132 h (fun a49 h => ?_)
                refine j_iload_n (pc := 135) C 2 dX3_readInstrument_135 rfl ?_
                refine j_dup2 (pc := 136) C dX3_readInstrument_136 rfl rfl ?_
                refine j_iald (pc := 137) C dX3_readInstrument_137 h (fun h => ?_)
                refine j_iconst (pc := 138) (v := (1 : Int32)) C dX3_readInstrument_138 rfl ?_
                refine j_iload_n (pc := 139) C 0 dX3_readInstrument_139 rfl ?_
                refine j_ishl (pc := 140) C dX3_readInstrument_140 ?_
                refine j_ior (pc := 141) C dX3_readInstrument_141 ?_
                refine n_iast (pc := 142) C dX3_readInstrument_142 h (fun M50 h => ?_)
                refine j_aload_n (pc := 143) C 1 dX3_readInstrument_143 rfl ?_
                refine gf_X3_15 (pc := 144) C dX3_readInstrument_144 h (fun a51 h => ?_)
                refine cs_X3_28 (pc := 147) C ⟨Nat.le_of_ble_eq_true rfl, Nat.le_of_ble_eq_true rfl⟩ ⟨Nat.le_of_ble_eq_true rfl, Nat.le_of_ble_eq_true rfl⟩ (Nat.le_of_ble_eq_true rfl) dX3_readInstrument_147 h (fun M52 h => ?_)
                refine j_iconst (pc := 150) (v := (1 : Int32)) C dX3_readInstrument_150 rfl ?_
                exact j_zret (pc := 151) C dX3_readInstrument_151 (Nat.le_of_ble_eq_true rfl) (Nat.le_of_ble_eq_true rfl) h
            · refine j_aload_n (pc := 96) C 1 dX3_readInstrument_96 rfl ?_
              refine gf_X3_19 (pc := 97) C dX3_readInstrument_97 h (fun a53 h => ?_)
              refine gf_X3_124 (pc := 100) C dX3_readInstrument_100 h (fun a54 h => ?_)
              refine j_aload_n (pc := 103) C 1 dX3_readInstrument_103 rfl ?_
              refine gf_X3_15 (pc := 104) C dX3_readInstrument_104 h (fun a55 h => ?_)
              refine gf_X3_46 (pc := 107) C dX3_readInstrument_107 h (fun h => ?_)
              refine cs_X3_140 (pc := 110) C ⟨Nat.le_of_ble_eq_true rfl, Nat.le_of_ble_eq_true rfl⟩ ⟨Nat.le_of_ble_eq_true rfl, Nat.le_of_ble_eq_true rfl⟩ (Nat.le_of_ble_eq_true rfl) dX3_readInstrument_110 h (fun r56 M56 h => ?_)
              refine j_istore_n (pc := 113) C [(3, _), (0, _), (1, _), (2, _)] dX3_readInstrument_113 (by decide) rfl ?_
              refine j_iload_n (pc := 114) C 3 dX3_readInstrument_114 rfl ?_
              refine j_if_ne (pc := 115) C 128 dX3_readInstrument_115 (by decide) h (fun h => ?_) (fun h => ?_)
              · refine j_aload_n (pc := 128) C 1 dX3_readInstrument_128 rfl ?_
                refine gf_X3_19 (pc := 129) C dX3_readInstrument_129 h (fun a57 h => ?_)
                refine gf_X3_131 (pc := 132) C dX3_readInstrument_132 h (fun a58 h => ?_)
                refine j_iload_n (pc := 135) C 2 dX3_readInstrument_135 rfl ?_
                refine j_dup2 (pc := 136) C dX3_readInstrument_136 rfl rfl ?_
                refine j_iald (pc := 137) C dX3_readInstrument_137 h (fun h => ?_)
                refine j_iconst (pc := 138) (v := (1 : Int32)) C dX3_readInstrument_138 rfl ?_
                refine j_iload_n (pc := 139) C 0 dX3_readInstrument_139 rfl ?_
                refine j_ishl (pc := 140) C dX3_readInstrument_140 ?_
                refine j_ior (pc := 141) C dX3_readInstrument_141 ?_
                refine n_iast (pc := 142) C dX3_readInstrument_142 h (fun M59 h => ?_)
                refine j_aload_n (pc := 143) C 1 dX3_readInstrument_143 rfl ?_
                refine gf_X3_15 (pc := 144) C dX3_readInstrument_144 h (fun a60 h => ?_)
                refine cs_X3_28 (pc := 147) C ⟨Nat.le_of_ble_eq_true rfl, Nat.le_of_ble_eq_true rfl⟩ ⟨Nat.le_of_ble_eq_true rfl, Nat.le_of_ble_eq_true rfl⟩ (Nat.le_of_ble_eq_true rfl) dX3_readInstrument_147 h (fun M61 h => ?_)
                refine j_iconst (pc := 150) (v := (1 : Int32)) C dX3_readInstrument_150 rfl ?_
                exact j_zret (pc := 151) C dX3_readInstrument_151 (Nat.le_of_ble_eq_true rfl) (Nat.le_of_ble_eq_true rfl) h
              · refine j_aload_n (pc := 118) C 1 dX3_readInstrument_118 rfl ?_
                refine gf_X3_19 (pc := 119) C dX3_readInstrument_119 h (fun a62 h => ?_)
                refine gf_X3_143 (pc := 122) C dX3_readInstrument_122 h (fun a63 h => ?_)
                refine j_iload_n (pc := 125) C 2 dX3_readInstrument_125 rfl ?_
                refine j_iload_n (pc := 126) C 0 dX3_readInstrument_126 rfl ?_
                refine n_iast (pc := 127) C dX3_readInstrument_127 h (fun M64 h => ?_)
                refine j_aload_n (pc := 128) C 1 dX3_readInstrument_128 rfl ?_
                refine gf_X3_19 (pc := 129) C dX3_readInstrument_129 h (fun a65 h => ?_)
                refine gf_X3_131 (pc := 132) C dX3_readInstrument_132 h (fun a66 h => ?_)
                refine j_iload_n (pc := 135) C 2 dX3_readInstrument_135 rfl ?_
                refine j_dup2 (pc := 136) C dX3_readInstrument_136 rfl rfl ?_
                refine j_iald (pc := 137) C dX3_readInstrument_137 h (fun h => ?_)
                refine j_iconst (pc := 138) (v := (1 : Int32)) C dX3_readInstrument_138 rfl ?_
                refine j_iload_n (pc := 139) C 0 dX3_readInstrument_139 rfl ?_
                refine j_ishl (pc := 140) C dX3_readInstrument_140 ?_
                refine j_ior (pc := 141) C dX3_readInstrument_141 ?_
                refine n_iast (pc := 142) C dX3_readInstrument_142 h (fun M67 h => ?_)
                refine j_aload_n (pc := 143) C 1 dX3_readInstrument_143 rfl ?_
                refine gf_X3_15 (pc := 144) C dX3_readInstrument_144 h (fun a68 h => ?_)
                refine cs_X3_28 (pc := 147) C ⟨Nat.le_of_ble_eq_true rfl, Nat.le_of_ble_eq_true rfl⟩ ⟨Nat.le_of_ble_eq_true rfl, Nat.le_of_ble_eq_true rfl⟩ (Nat.le_of_ble_eq_true rfl) dX3_readInstrument_147 h (fun M69 h => ?_)
                refine j_iconst (pc := 150) (v := (1 : Int32)) C dX3_readInstrument_150 rfl ?_
                exact j_zret (pc := 151) C dX3_readInstrument_151 (Nat.le_of_ble_eq_true rfl) (Nat.le_of_ble_eq_true rfl) h
          · refine j_aload_n (pc := 85) C 1 dX3_readInstrument_85 rfl ?_
            refine j_iconst (pc := 86) (v := (5 : Int32)) C dX3_readInstrument_86 rfl ?_
            refine cs_X3_56 (pc := 87) C ⟨Nat.le_of_ble_eq_true rfl, Nat.le_of_ble_eq_true rfl⟩ ⟨Nat.le_of_ble_eq_true rfl, Nat.le_of_ble_eq_true rfl⟩ (Nat.le_of_ble_eq_true rfl) dX3_readInstrument_87 h (fun r70 M70 h => ?_)
            exact j_zret (pc := 90) C dX3_readInstrument_90 (Nat.le_of_ble_eq_true rfl) (Nat.le_of_ble_eq_true rfl) h
    · refine j_aload_n (pc := 40) C 1 dX3_readInstrument_40 rfl ?_
      refine gf_X3_19 (pc := 41) C dX3_readInstrument_41 h (fun a71 h => ?_)
      refine gf_X3_131 (pc := 44) C dX3_readInstrument_44 h (fun a72 h => ?_)
      refine j_iload_n (pc := 47) C 2 dX3_readInstrument_47 rfl ?_
      refine j_iald (pc := 48) C dX3_readInstrument_48 h (fun h => ?_)
      refine j_iload_n (pc := 49) C 0 dX3_readInstrument_49 rfl ?_
      refine cs_X3_134 (pc := 50) C ⟨Nat.le_of_ble_eq_true rfl, Nat.le_of_ble_eq_true rfl⟩ ⟨Nat.le_of_ble_eq_true rfl, Nat.le_of_ble_eq_true rfl⟩ (Nat.le_of_ble_eq_true rfl) dX3_readInstrument_50 h (fun r73 M73 h => ?_)
      refine j_if_eq (pc := 53) C 62 dX3_readInstrument_53 (by decide) h (fun h => ?_) (fun h => ?_)
      · refine j_iload_n (pc := 62) C 3 dX3_readInstrument_62 rfl ?_
        refine j_iconst (pc := 63) (v := (4 : Int32)) C dX3_readInstrument_63 rfl ?_
        refine j_icmp_ge (pc := 64) C 85 dX3_readInstrument_64 (by decide) h (fun h => ?_) (fun h => ?_)
        · refine j_aload_n (pc := 85) C 1 dX3_readInstrument_85 rfl ?_
          refine j_iconst (pc := 86) (v := (5 : Int32)) C dX3_readInstrument_86 rfl ?_
          refine cs_X3_56 (pc := 87) C ⟨Nat.le_of_ble_eq_true rfl, Nat.le_of_ble_eq_true rfl⟩ ⟨Nat.le_of_ble_eq_true rfl, Nat.le_of_ble_eq_true rfl⟩ (Nat.le_of_ble_eq_true rfl) dX3_readInstrument_87 h (fun r74 M74 h => ?_)
          exact j_zret (pc := 90) C dX3_readInstrument_90 (Nat.le_of_ble_eq_true rfl) (Nat.le_of_ble_eq_true rfl) h
        · refine j_iload_n (pc := 67) C 0 dX3_readInstrument_67 rfl ?_
          refine j_iconst (pc := 68) (v := (-1 : Int32)) C dX3_readInstrument_68 rfl ?_
          refine j_icmp_ne (pc := 69) C 91 dX3_readInstrument_69 (by decide) h (fun h => ?_) (fun h => ?_)
          · refine j_iload_n (pc := 91) C 0 dX3_readInstrument_91 rfl ?_
            refine j_iconst (pc := 92) (v := (-1 : Int32)) C dX3_readInstrument_92 rfl ?_
            refine j_icmp_ne (pc := 93) C 114 dX3_readInstrument_93 (by decide) h (fun h => ?_) (fun h => ?_)
            · refine j_iload_n (pc := 114) C 3 dX3_readInstrument_114 rfl ?_
              refine j_if_ne (pc := 115) C 128 dX3_readInstrument_115 (by decide) h (fun h => ?_) (fun h => ?_)
              · refine j_aload_n (pc := 128) C 1 dX3_readInstrument_128 rfl ?_
                refine gf_X3_19 (pc := 129) C dX3_readInstrument_129 h (fun a75 h => ?_)
                refine gf_X3_131 (pc := 132) C dX3_readInstrument_132 h (fun a76 h => ?_)
                refine j_iload_n (pc := 135) C 2 dX3_readInstrument_135 rfl ?_
                refine j_dup2 (pc := 136) C dX3_readInstrument_136 rfl rfl ?_
                refine j_iald (pc := 137) C dX3_readInstrument_137 h (fun h => ?_)
                refine j_iconst (pc := 138) (v := (1 : Int32)) C dX3_readInstrument_138 rfl ?_
                refine j_iload_n (pc := 139) C 0 dX3_readInstrument_139 rfl ?_
                refine j_ishl (pc := 140) C dX3_readInstrument_140 ?_
                refine j_ior (pc := 141) C dX3_readInstrument_141 ?_
                refine n_iast (pc := 142) C dX3_readInstrument_142 h (fun M77 h => ?_)
                refine j_aload_n (pc := 143) C 1 dX3_readInstrument_143 rfl ?_
                refine gf_X3_15 (pc := 144) C dX3_readInstrument_144 h (fun a78 h => ?_)
                refine cs_X3_28 (pc := 147) C ⟨Nat.le_of_ble_eq_true rfl, Nat.le_of_ble_eq_true rfl⟩ ⟨Nat.le_of_ble_eq_true rfl, Nat.le_of_ble_eq_true rfl⟩ (Nat.le_of_ble_eq_true rfl) dX3_readInstrument_147 h (fun M79 h => ?_)
                refine j_iconst (pc := 150) (v := (1 : Int32)) C dX3_readInstrument_150 rfl ?_
                exact j_zret (pc := 151) C dX3_readInstrument_151 (Nat.le_of_ble_eq_true rfl) (Nat.le_of_ble_eq_true rfl) h
              · refine j_aload_n (pc := 118) C 1 dX3_readInstrument_118 rfl ?_
                refine gf_X3_19 (pc := 119) C dX3_readInstrument_119 h (fun a80 h => ?_)
                refine gf_X3_143 (pc := 122) C dX3_readInstrument_122 h (fun a81 h => ?_)
                refine j_iload_n (pc := 125) C 2 dX3_readInstrument_125 rfl ?_
                refine j_iload_n (pc := 126) C 0 dX3_readInstrument_126 rfl ?_
                refine n_iast (pc := 127) C dX3_readInstrument_127 h (fun M82 h => ?_)
                refine j_aload_n (pc := 128) C 1 dX3_readInstrument_128 rfl ?_
                refine gf_X3_19 (pc := 129) C dX3_readInstrument_129 h (fun a83 h => ?_)
                refine gf_X3_131 (pc := 132) C dX3_readInstrument_132 h (fun a84 h => ?_)
                refine j_iload_n (pc := 135) C 2 dX3_readInstrument_135 rfl ?_
                refine j_dup2 (pc := 136) C dX3_readInstrument_136 rfl rfl ?_
                refine j_iald (pc := 137) C dX3_readInstrument_137 h (fun h => ?_)
                refine j_iconst (pc := 138) (v := (1 : Int32)) C dX3_readInstrument_138 rfl ?_
                refine j_iload_n (pc := 139) C 0 dX3_readInstrument_139 rfl ?_
                refine j_ishl (pc := 140) C dX3_readInstrument_140 ?_
                refine j_ior (pc := 141) C dX3_readInstrument_141 ?_
                refine n_iast (pc := 142) C dX3_readInstrument_142 h (fun M85 h => ?_)
                refine j_aload_n (pc := 143) C 1 dX3_readInstrument_143 rfl ?_
                refine gf_X3_15 (pc := 144) C dX3_readInstrument_144 h (fun a86 h => ?_)
                refine cs_X3_28 (pc := 147) C ⟨Nat.le_of_ble_eq_true rfl, Nat.le_of_ble_eq_true rfl⟩ ⟨Nat.le_of_ble_eq_true rfl, Nat.le_of_ble_eq_true rfl⟩ (Nat.le_of_ble_eq_true rfl) dX3_readInstrument_147 h (fun M87 h => ?_)
                refine j_iconst (pc := 150) (v := (1 : Int32)) C dX3_readInstrument_150 rfl ?_
                exact j_zret (pc := 151) C dX3_readInstrument_151 (Nat.le_of_ble_eq_true rfl) (Nat.le_of_ble_eq_true rfl) h
            · refine j_aload_n (pc := 96) C 1 dX3_readInstrument_96 rfl ?_
              refine gf_X3_19 (pc := 97) C dX3_readInstrument_97 h (fun a88 h => ?_)
              refine gf_X3_124 (pc := 100) C dX3_readInstrument_100 h (fun a89 h => ?_)
              refine j_aload_n (pc := 103) C 1 dX3_readInstrument_103 rfl ?_
              refine gf_X3_15 (pc := 104) C dX3_readInstrument_104 h (fun a90 h => ?_)
              refine gf_X3_46 (pc := 107) C dX3_readInstrument_107 h (fun h => ?_)
              refine cs_X3_140 (pc := 110) C ⟨Nat.le_of_ble_eq_true rfl, Nat.le_of_ble_eq_true rfl⟩ ⟨Nat.le_of_ble_eq_true rfl, Nat.le_of_ble_eq_true rfl⟩ (Nat.le_of_ble_eq_true rfl) dX3_readInstrument_110 h (fun r91 M91 h => ?_)
              refine j_istore_n (pc := 113) C [(3, _), (0, _), (1, _), (2, _)] dX3_readInstrument_113 (by decide) rfl ?_
              refine j_iload_n (pc := 114) C 3 dX3_readInstrument_114 rfl ?_
              refine j_if_ne (pc := 115) C 128 dX3_readInstrument_115 (by decide) h (fun h => ?_) (fun h => ?_)
              · refine j_aload_n (pc := 128) C 1 dX3_readInstrument_128 rfl ?_
                refine gf_X3_19 (pc := 129) C dX3_readInstrument_129 h (fun a92 h => ?_)
                refine gf_X3_131 (pc := 132) C dX3_readInstrument_132 h (fun a93 h => ?_)
                refine j_iload_n (pc := 135) C 2 dX3_readInstrument_135 rfl ?_
                refine j_dup2 (pc := 136) C dX3_readInstrument_136 rfl rfl ?_
                refine j_iald (pc := 137) C dX3_readInstrument_137 h (fun h => ?_)
                refine j_iconst (pc := 138) (v := (1 : Int32)) C dX3_readInstrument_138 rfl ?_
                refine j_iload_n (pc := 139) C 0 dX3_readInstrument_139 rfl ?_
                refine j_ishl (pc := 140) C dX3_readInstrument_140 ?_
                refine j_ior (pc := 141) C dX3_readInstrument_141 ?_
                refine n_iast (pc := 142) C dX3_readInstrument_142 h (fun M94 h => ?_)
                refine j_aload_n (pc := 143) C 1 dX3_readInstrument_143 rfl ?_
                refine gf_X3_15 (pc := 144) C dX3_readInstrument_144 h (fun a95 h => ?_)
                refine cs_X3_28 (pc := 147) C ⟨Nat.le_of_ble_eq_true rfl, Nat.le_of_ble_eq_true rfl⟩ ⟨Nat.le_of_ble_eq_true rfl, Nat.le_of_ble_eq_true rfl⟩ (Nat.le_of_ble_eq_true rfl) dX3_readInstrument_147 h (fun M96 h => ?_)
                refine j_iconst (pc := 150) (v := (1 : Int32)) C dX3_readInstrument_150 rfl ?_
                exact j_zret (pc := 151) C dX3_readInstrument_151 (Nat.le_of_ble_eq_true rfl) (Nat.le_of_ble_eq_true rfl) h
              · refine j_aload_n (pc := 118) C 1 dX3_readInstrument_118 rfl ?_
                refine gf_X3_19 (pc := 119) C dX3_readInstrument_119 h (fun a97 h => ?_)
                refine gf_X3_143 (pc := 122) C dX3_readInstrument_122 h (fun a98 h => ?_)
                refine j_iload_n (pc := 125) C 2 dX3_readInstrument_125 rfl ?_
                refine j_iload_n (pc := 126) C 0 dX3_readInstrument_126 rfl ?_
                refine n_iast (pc := 127) C dX3_readInstrument_127 h (fun M99 h => ?_)
                refine j_aload_n (pc := 128) C 1 dX3_readInstrument_128 rfl ?_
                refine gf_X3_19 (pc := 129) C dX3_readInstrument_129 h (fun a100 h => ?_)
                refine gf_X3_131 (pc := 132) C dX3_readInstrument_132 h (fun a101 h => ?_)
                refine j_iload_n (pc := 135) C 2 dX3_readInstrument_135 rfl ?_
                refine j_dup2 (pc := 136) C dX3_readInstrument_136 rfl rfl ?_
                refine j_iald (pc := 137) C dX3_readInstrument_137 h (fun h => ?_)
                refine j_iconst (pc := 138) (v := (1 : Int32)) C dX3_readInstrument_138 rfl ?_
                refine j_iload_n (pc := 139) C 0 dX3_readInstrument_139 rfl ?_
                refine j_ishl (pc := 140) C dX3_readInstrument_140 ?_
                refine j_ior (pc := 141) C dX3_readInstrument_141 ?_
                refine n_iast (pc := 142) C dX3_readInstrument_142 h (fun M102 h => ?_)
                refine j_aload_n (pc := 143) C 1 dX3_readInstrument_143 rfl ?_
                refine gf_X3_15 (pc := 144) C dX3_readInstrument_144 h (fun a103 h => ?_)
                refine cs_X3_28 (pc := 147) C ⟨Nat.le_of_ble_eq_true rfl, Nat.le_of_ble_eq_true rfl⟩ ⟨Nat.le_of_ble_eq_true rfl, Nat.le_of_ble_eq_true rfl⟩ (Nat.le_of_ble_eq_true rfl) dX3_readInstrument_147 h (fun M104 h => ?_)
                refine j_iconst (pc := 150) (v := (1 : Int32)) C dX3_readInstrument_150 rfl ?_
                exact j_zret (pc := 151) C dX3_readInstrument_151 (Nat.le_of_ble_eq_true rfl) (Nat.le_of_ble_eq_true rfl) h
          · refine j_aload_n (pc := 72) C 1 dX3_readInstrument_72 rfl ?_
            refine gf_X3_19 (pc := 73) C dX3_readInstrument_73 h (fun a105 h => ?_)
            refine gf_X3_124 (pc := 76) C dX3_readInstrument_76 h (fun a106 h => ?_)
            refine cs_X3_137 (pc := 79) C ⟨Nat.le_of_ble_eq_true rfl, Nat.le_of_ble_eq_true rfl⟩ ⟨Nat.le_of_ble_eq_true rfl, Nat.le_of_ble_eq_true rfl⟩ (Nat.le_of_ble_eq_true rfl) dX3_readInstrument_79 h (fun r107 M107 h => ?_)
            refine j_if_eq (pc := 82) C 91 dX3_readInstrument_82 (by decide) h (fun h => ?_) (fun h => ?_)
            · refine j_iload_n (pc := 91) C 0 dX3_readInstrument_91 rfl ?_
              refine j_iconst (pc := 92) (v := (-1 : Int32)) C dX3_readInstrument_92 rfl ?_
              refine j_icmp_ne (pc := 93) C 114 dX3_readInstrument_93 (by decide) h (fun h => ?_) (fun h => ?_)
              · refine j_iload_n (pc := 114) C 3 dX3_readInstrument_114 rfl ?_
                refine j_if_ne (pc := 115) C 128 dX3_readInstrument_115 (by decide) h (fun h => ?_) (fun h => ?_)
                · refine j_aload_n (pc := 128) C 1 dX3_readInstrument_128 rfl ?_
                  refine gf_X3_19 (pc := 129) C dX3_readInstrument_129 h (fun a108 h => ?_)
                  refine gf_X3_131 (pc := 132) C dX3_readInstrument_132 h (fun a109 h => ?_)
                  refine j_iload_n (pc := 135) C 2 dX3_readInstrument_135 rfl ?_
                  refine j_dup2 (pc := 136) C dX3_readInstrument_136 rfl rfl ?_
                  refine j_iald (pc := 137) C dX3_readInstrument_137 h (fun h => ?_)
                  refine j_iconst (pc := 138) (v := (1 : Int32)) C dX3_readInstrument_138 rfl ?_
                  refine j_iload_n (pc := 139) C 0 dX3_readInstrument_139 rfl ?_
                  refine j_ishl (pc := 140) C dX3_readInstrument_140 ?_
                  refine j_ior (pc := 141) C dX3_readInstrument_141 ?_
                  refine n_iast (pc := 142) C dX3_readInstrument_142 h (fun M110 h => ?_)
                  refine j_aload_n (pc := 143) C 1 dX3_readInstrument_143 rfl ?_
                  refine gf_X3_15 (pc := 144) C dX3_readInstrument_144 h (fun a111 h => ?_)
                  refine cs_X3_28 (pc := 147) C ⟨Nat.le_of_ble_eq_true rfl, Nat.le_of_ble_eq_true rfl⟩ ⟨Nat.le_of_ble_eq_true rfl, Nat.le_of_ble_eq_true rfl⟩ (Nat.le_of_ble_eq_true rfl) dX3_readInstrument_147 h (fun M112 h => ?_)
                  refine j_iconst (pc := 150) (v := (1 : Int32)) C dX3_readInstrument_150 rfl ?_
                  exact j_zret (pc := 151) C dX3_readInstrument_151 (Nat.le_of_ble_eq_true rfl) (Nat.le_of_ble_eq_true rfl) h
                · refine j_aload_n (pc := 118) C 1 dX3_readInstrument_118 rfl ?_
                  refine gf_X3_19 (pc := 119) C dX3_readInstrument_119 h (fun a113 h => ?_)
                  refine gf_X3_143 (pc := 122) C dX3_readInstrument_122 h (fun a114 h => ?_)
                  refine j_iload_n (pc := 125) C 2 dX3_readInstrument_125 rfl ?_
                  refine j_iload_n (pc := 126) C 0 dX3_readInstrument_126 rfl ?_
                  refine n_iast (pc := 127) C dX3_readInstrument_127 h (fun M115 h => ?_)
                  refine j_aload_n (pc := 128) C 1 dX3_readInstrument_128 rfl ?_
                  refine gf_X3_19 (pc := 129) C dX3_readInstrument_129 h (fun a116 h => ?_)
                  refine gf_X3_131 (pc := 132) C dX3_readInstrument_132 h (fun a117 h => ?_)
                  refine j_iload_n (pc := 135) C 2 dX3_readInstrument_135 rfl ?_
                  refine j_dup2 (pc := 136) C dX3_readInstrument_136 rfl rfl ?_
                  refine j_iald (pc := 137) C dX3_readInstrument_137 h (fun h => ?_)
                  refine j_iconst (pc := 138) (v := (1 : Int32)) C dX3_readInstrument_138 rfl ?_
                  refine j_iload_n (pc := 139) C 0 dX3_readInstrument_139 rfl ?_
                  refine j_ishl (pc := 140) C dX3_readInstrument_140 ?_
                  refine j_ior (pc := 141) C dX3_readInstrument_141 ?_
                  refine n_iast (pc := 142) C dX3_readInstrument_142 h (fun M118 h => ?_)
                  refine j_aload_n (pc := 143) C 1 dX3_readInstrument_143 rfl ?_
                  refine gf_X3_15 (pc := 144) C dX3_readInstrument_144 h (fun a119 h => ?_)
                  refine cs_X3_28 (pc := 147) C ⟨Nat.le_of_ble_eq_true rfl, Nat.le_of_ble_eq_true rfl⟩ ⟨Nat.le_of_ble_eq_true rfl, Nat.le_of_ble_eq_true rfl⟩ (Nat.le_of_ble_eq_true rfl) dX3_readInstrument_147 h (fun M120 h => ?_)
                  refine j_iconst (pc := 150) (v := (1 : Int32)) C dX3_readInstrument_150 rfl ?_
                  exact j_zret (pc := 151) C dX3_readInstrument_151 (Nat.le_of_ble_eq_true rfl) (Nat.le_of_ble_eq_true rfl) h
              · refine j_aload_n (pc := 96) C 1 dX3_readInstrument_96 rfl ?_
                refine gf_X3_19 (pc := 97) C dX3_readInstrument_97 h (fun a121 h => ?_)
                refine gf_X3_124 (pc := 100) C dX3_readInstrument_100 h (fun a122 h => ?_)
                refine j_aload_n (pc := 103) C 1 dX3_readInstrument_103 rfl ?_
                refine gf_X3_15 (pc := 104) C dX3_readInstrument_104 h (fun a123 h => ?_)
                refine gf_X3_46 (pc := 107) C dX3_readInstrument_107 h (fun h => ?_)
                refine cs_X3_140 (pc := 110) C ⟨Nat.le_of_ble_eq_true rfl, Nat.le_of_ble_eq_true rfl⟩ ⟨Nat.le_of_ble_eq_true rfl, Nat.le_of_ble_eq_true rfl⟩ (Nat.le_of_ble_eq_true rfl) dX3_readInstrument_110 h (fun r124 M124 h => ?_)
                refine j_istore_n (pc := 113) C [(3, _), (0, _), (1, _), (2, _)] dX3_readInstrument_113 (by decide) rfl ?_
                refine j_iload_n (pc := 114) C 3 dX3_readInstrument_114 rfl ?_
                refine j_if_ne (pc := 115) C 128 dX3_readInstrument_115 (by decide) h (fun h => ?_) (fun h => ?_)
                · refine j_aload_n (pc := 128) C 1 dX3_readInstrument_128 rfl ?_
                  refine gf_X3_19 (pc := 129) C dX3_readInstrument_129 h (fun a125 h => ?_)
                  refine gf_X3_131 (pc := 132) C dX3_readInstrument_132 h (fun a126 h => ?_)
                  refine j_iload_n (pc := 135) C 2 dX3_readInstrument_135 rfl ?_
                  refine j_dup2 (pc := 136) C dX3_readInstrument_136 rfl rfl ?_
                  refine j_iald (pc := 137) C dX3_readInstrument_137 h (fun h => ?_)
                  refine j_iconst (pc := 138) (v := (1 : Int32)) C dX3_readInstrument_138 rfl ?_
                  refine j_iload_n (pc := 139) C 0 dX3_readInstrument_139 rfl ?_
                  refine j_ishl (pc := 140) C dX3_readInstrument_140 ?_
                  refine j_ior (pc := 141) C dX3_readInstrument_141 ?_
                  refine n_iast (pc := 142) C dX3_readInstrument_142 h (fun M127 h => ?_)
                  refine j_aload_n (pc := 143) C 1 dX3_readInstrument_143 rfl ?_
                  refine gf_X3_15 (pc := 144) C dX3_readInstrument_144 h (fun a128 h => ?_)
                  refine cs_X3_28 (pc := 147) C ⟨Nat.le_of_ble_eq_true rfl, Nat.le_of_ble_eq_true rfl⟩ ⟨Nat.le_of_ble_eq_true rfl, Nat.le_of_ble_eq_true rfl⟩ (Nat.le_of_ble_eq_true rfl) dX3_readInstrument_147 h (fun M129 h => ?_)
                  refine j_iconst (pc := 150) (v := (1 : Int32)) C dX3_readInstrument_150 rfl ?_
                  exact j_zret (pc := 151) C dX3_readInstrument_151 (Nat.le_of_ble_eq_true rfl) (Nat.le_of_ble_eq_true rfl) h
                · refine j_aload_n (pc := 118) C 1 dX3_readInstrument_118 rfl ?_
                  refine gf_X3_19 (pc := 119) C dX3_readInstrument_119 h (fun a130 h => ?_)
                  refine gf_X3_143 (pc := 122) C dX3_readInstrument_122 h (fun a131 h => ?_)
                  refine j_iload_n (pc := 125) C 2 dX3_readInstrument_125 rfl ?_
                  refine j_iload_n (pc := 126) C 0 dX3_readInstrument_126 rfl ?_
                  refine n_iast (pc := 127) C dX3_readInstrument_127 h (fun M132 h => ?_)
                  refine j_aload_n (pc := 128) C 1 dX3_readInstrument_128 rfl ?_
                  refine gf_X3_19 (pc := 129) C dX3_readInstrument_129 h (fun a133 h => ?_)
                  refine gf_X3_131 (pc := 132) C dX3_readInstrument_132 h (fun a134 h => ?_)
                  refine j_iload_n (pc := 135) C 2 dX3_readInstrument_135 rfl ?_
                  refine j_dup2 (pc := 136) C dX3_readInstrument_136 rfl rfl ?_
                  refine j_iald (pc := 137) C dX3_readInstrument_137 h (fun h => ?_)
                  refine j_iconst (pc := 138) (v := (1 : Int32)) C dX3_readInstrument_138 rfl ?_
                  refine j_iload_n (pc := 139) C 0 dX3_readInstrument_139 rfl ?_
                  refine j_ishl (pc := 140) C dX3_readInstrument_140 ?_
                  refine j_ior (pc := 141) C dX3_readInstrument_141 ?_
                  refine n_iast (pc := 142) C dX3_readInstrument_142 h (fun M135 h => ?_)
                  refine j_aload_n (pc := 143) C 1 dX3_readInstrument_143 rfl ?_
                  refine gf_X3_15 (pc := 144) C dX3_readInstrument_144 h (fun a136 h => ?_)
                  refine cs_X3_28 (pc := 147) C ⟨Nat.le_of_ble_eq_true rfl, Nat.le_of_ble_eq_true rfl⟩ ⟨Nat.le_of_ble_eq_true rfl, Nat.le_of_ble_eq_true rfl⟩ (Nat.le_of_ble_eq_true rfl) dX3_readInstrument_147 h (fun M137 h => ?_)
                  refine j_iconst (pc := 150) (v := (1 : Int32)) C dX3_readInstrument_150 rfl ?_
                  exact j_zret (pc := 151) C dX3_readInstrument_151 (Nat.le_of_ble_eq_true rfl) (Nat.le_of_ble_eq_true rfl) h
            · refine j_aload_n (pc := 85) C 1 dX3_readInstrument_85 rfl ?_
              refine j_iconst (pc := 86) (v := (5 : Int32)) C dX3_readInstrument_86 rfl ?_
              refine cs_X3_56 (pc := 87) C ⟨Nat.le_of_ble_eq_true rfl, Nat.le_of_ble_eq_true rfl⟩ ⟨Nat.le_of_ble_eq_true rfl, Nat.le_of_ble_eq_true rfl⟩ (Nat.le_of_ble_eq_true rfl) dX3_readInstrument_87 h (fun r138 M138 h => ?_)
              exact j_zret (pc := 90) C dX3_readInstrument_90 (Nat.le_of_ble_eq_true rfl) (Nat.le_of_ble_eq_true rfl) h
      · refine j_aload_n (pc := 56) C 1 dX3_readInstrument_56 rfl ?_
        refine j_iconst (pc := 57) (v := (2 : Int32)) C dX3_readInstrument_57 rfl ?_
        refine cs_X3_56 (pc := 58) C ⟨Nat.le_of_ble_eq_true rfl, Nat.le_of_ble_eq_true rfl⟩ ⟨Nat.le_of_ble_eq_true rfl, Nat.le_of_ble_eq_true rfl⟩ (Nat.le_of_ble_eq_true rfl) dX3_readInstrument_58 h (fun r139 M139 h => ?_)
        exact j_zret (pc := 61) C dX3_readInstrument_61 (Nat.le_of_ble_eq_true rfl) (Nat.le_of_ble_eq_true rfl) h
  · refine j_aload_n (pc := 11) C 0 dX3_readInstrument_11 rfl ?_
    refine j_iconst (pc := 12) (v := (1 : Int32)) C dX3_readInstrument_12 rfl ?_
    refine cs_X3_56 (pc := 13) C ⟨Nat.le_of_ble_eq_true rfl, Nat.le_of_ble_eq_true rfl⟩ ⟨Nat.le_of_ble_eq_true rfl, Nat.le_of_ble_eq_true rfl⟩ (Nat.le_of_ble_eq_true rfl) dX3_readInstrument_13 h (fun r140 M140 h => ?_)
    exact j_zret (pc := 16) C dX3_readInstrument_16 (Nat.le_of_ble_eq_true rfl) (Nat.le_of_ble_eq_true rfl) h
theorem cs_X3_121 (C : Cx p l s m args meth c cc nL RX3 ret E) {b : Nat} {y0 : Int32} {y1 : Int32} {P : Int32 → Mm → Prop} (hR : rm_X3_readInstrument.frames + 1 ≤ R.frames ∧ 8 + (4 + 11) + rm_X3_readInstrument.locals ≤ R.locals) (hf : kc ≤ R.cells ∧ ks ≤ R.slots) (hst : (st.map fun v => v.category).sum ≤ 8) (d : decode cc pc = .ok (.invokevirtual 121, 3)) (h : zk M b = 3 ∧ w_X3_readInstrument M b y0 y1 P) (kk : ∀ r M', P r M' → J p l e R s m args below meth c Q E nL M' kc ks (pc + 3) lo (.int r :: st)) : J p l e R s m args below meth c Q E nL M kc ks pc lo (.int y1 :: .int y0 :: .ref b :: st) :=
  j_cV_I (n := 2) (As := [.int y0, .int y1]) C co_X3 rfl wd_898 wd_11 h.1 (c_X3_readInstrument l E M b y0 y1 P h.2) ⟨wd_899, wd_896, wd_61, by decide +kernel, by decide +kernel, by decide +kernel⟩ rfl rfl hR hf rfl hst d kk
abbrev rm_X3_readPlayer : Room := { frames := 3, cells := 0, slots := 0, locals := 65 }
def l_X3_readPlayer_78 (P : Int32 → Mm → Prop) (K109 : Mm → Prop) (K117 : Mm → Prop) : Nat → Mm → Nat → Int32 → Int32 → Prop
  | 0, _, _, _, _ => False
  | n + 1, M, x0, x1, x2 => (if x2 = 0 then zk M x0 = 3 ∧ w_X3_readInstrument M x0 x1 x2 (fun r16 M16 => (if r16 = 0 then K109 M16 else l_X3_readPlayer_78 P K109 K117 n M16 x0 x1 (x2 + (1 : Int32)))) else (if (600 : Int32) ≤ x2 then K117 M else (zk M x0 = 3 ∧ ∃ a17, zR M x0 0 = some a17 ∧ zk M a17 = 5 ∧ (if (zI M a17 3) = (1 : Int32) then zk M x0 = 3 ∧ w_X3_readInstrument M x0 x1 x2 (fun r18 M18 => (if r18 = 0 then K109 M18 else l_X3_readPlayer_78 P K109 K117 n M18 x0 x1 (x2 + (1 : Int32)))) else K117 M))))
set_option maxHeartbeats 4000000 in
set_option maxRecDepth 100000 in
theorem jl_X3_readPlayer_78 {P : Int32 → Mm → Prop} {K109 : Mm → Prop} {K117 : Mm → Prop} (C : Cx p l s m args meth c cX3_readPlayer 3 RX3 (some .boolean) E) (hkc : kc ≤ rm_X3_readPlayer.cells ∧ ks ≤ rm_X3_readPlayer.slots) (k109 : ∀ M, K109 M → J p l e rm_X3_readPlayer s m args below meth c (QI below E P args s rm_X3_readPlayer.cells rm_X3_readPlayer.slots) E 3 M kc ks 109 [] []) (k117 : ∀ M, K117 M → J p l e rm_X3_readPlayer s m args below meth c (QI below E P args s rm_X3_readPlayer.cells rm_X3_readPlayer.slots) E 3 M kc ks 117 [] []) : ∀ n M x0 x1 x2, l_X3_readPlayer_78 P K109 K117 n M x0 x1 x2 → J p l e rm_X3_readPlayer s m args below meth c (QI below E P args s rm_X3_readPlayer.cells rm_X3_readPlayer.slots) E 3 M kc ks 78 [(0, .ref x0), (1, .int x1), (2, .int x2)] [] := by
  intro n
  induction n with
  | zero => intro M x0 x1 x2 h; exact h.elim
  | succ n ih =>
    intro M x0 x1 x2 h
    rw [l_X3_readPlayer_78] at h
    refine j_iload_n (pc := 78) C 2 dX3_readPlayer_78 rfl ?_
    refine j_if_eq (pc := 79) C 100 dX3_readPlayer_79 (by decide) h (fun h => ?_) (fun h => ?_)
    · refine j_aload_n (pc := 100) C 0 dX3_readPlayer_100 rfl ?_
      refine j_iload_n (pc := 101) C 1 dX3_readPlayer_101 rfl ?_
      refine j_iload_n (pc := 102) C 2 dX3_readPlayer_102 rfl ?_
      refine cs_X3_121 (pc := 103) C ⟨Nat.le_of_ble_eq_true rfl, Nat.le_of_ble_eq_true rfl⟩ hkc (Nat.le_of_ble_eq_true rfl) dX3_readPlayer_103 h (fun r16 M16 h => ?_)
      refine j_if_ne (pc := 106) C 111 dX3_readPlayer_106 (by decide) h (fun h => ?_) (fun h => ?_)
      · refine j_iinc (pc := 111) (v := (1 : Int32)) C 2 [(2, _), (0, _), (1, _)] dX3_readPlayer_111 rfl rfl (by decide) rfl ?_
        refine j_goto (pc := 114) C 78 dX3_readPlayer_114 (by decide) ?_
        exact j_weak [1, 2, 0] rfl (ih _ _ _ _ h)
      · exact j_weak [] rfl (k109 _ h)
    · refine j_iload_n (pc := 82) C 2 dX3_readPlayer_82 rfl ?_
      refine j_sipush (pc := 83) (v := (600 : Int32)) C dX3_readPlayer_83 rfl ?_
      refine j_icmp_ge (pc := 86) C 117 dX3_readPlayer_86 (by decide) h (fun h => ?_) (fun h => ?_)
      · exact j_weak [] rfl (k117 _ h)
      · refine j_aload_n (pc := 89) C 0 dX3_readPlayer_89 rfl ?_
        refine gf_X3_15 (pc := 90) C dX3_readPlayer_90 h (fun a17 h => ?_)
        refine gf_X3_37 (pc := 93) C dX3_readPlayer_93 h (fun h => ?_)
        refine j_iconst (pc := 96) (v := (1 : Int32)) C dX3_readPlayer_96 rfl ?_
        refine j_icmp_ne (pc := 97) C 117 dX3_readPlayer_97 (by decide) h (fun h => ?_) (fun h => ?_)
        · exact j_weak [] rfl (k117 _ h)
        · refine j_aload_n (pc := 100) C 0 dX3_readPlayer_100 rfl ?_
          refine j_iload_n (pc := 101) C 1 dX3_readPlayer_101 rfl ?_
          refine j_iload_n (pc := 102) C 2 dX3_readPlayer_102 rfl ?_
          refine cs_X3_121 (pc := 103) C ⟨Nat.le_of_ble_eq_true rfl, Nat.le_of_ble_eq_true rfl⟩ hkc (Nat.le_of_ble_eq_true rfl) dX3_readPlayer_103 h (fun r18 M18 h => ?_)
          refine j_if_ne (pc := 106) C 111 dX3_readPlayer_106 (by decide) h (fun h => ?_) (fun h => ?_)
          · refine j_iinc (pc := 111) (v := (1 : Int32)) C 2 [(2, _), (0, _), (1, _)] dX3_readPlayer_111 rfl rfl (by decide) rfl ?_
            refine j_goto (pc := 114) C 78 dX3_readPlayer_114 (by decide) ?_
            exact j_weak [1, 2, 0] rfl (ih _ _ _ _ h)
          · exact j_weak [] rfl (k109 _ h)
def w_X3_readPlayer (M : Mm) (x0 : Nat) (P : Int32 → Mm → Prop) : Prop := (zk M x0 = 3 ∧ ∃ a1, zR M x0 1 = some a1 ∧ (zk M a1 = 6 ∧ ∃ a2, zR M a1 5 = some a2 ∧ zk M a2 = 2 ∧ (zk M x0 = 3 ∧ ∃ a3, zR M x0 1 = some a3 ∧ (zk M a3 = 6 ∧ ∃ a4, zR M a3 5 = some a4 ∧ zk M x0 = 3 ∧ w_X3_readNewName M x0 a4 (fun r5 M5 => (if r5 = 0 then ((0 : Int32) = 0 ∨ (0 : Int32) = 1) ∧ P (0 : Int32) M5 else zk M5 x0 = 3 ∧ w_X3_isNumber M5 x0 (0 : Int32) (40 : Int32) (fun r6 M6 => (if r6 = 0 then ((0 : Int32) = 0 ∨ (0 : Int32) = 1) ∧ P (0 : Int32) M6 else (zk M6 x0 = 3 ∧ ∃ a7, zR M6 x0 1 = some a7 ∧ (zk M6 a7 = 6 ∧ ∃ a8, zR M6 a7 6 = some a8 ∧ zk M6 x0 = 3 ∧ w_X3_takeNumber M6 x0 (fun r9 M9 => zk M9 a8 = 10 ∧ vp_in (zI M a2 1) (zl M9 a8) ∧ (∀ M10, M10 = sI M9 a8 (zI M a2 1).toNatClampNeg r9 → zk M10 x0 = 3 ∧ w_X3_isNumber M10 x0 (0 : Int32) (999 : Int32) (fun r11 M11 => (if r11 = 0 then ((0 : Int32) = 0 ∨ (0 : Int32) = 1) ∧ P (0 : Int32) M11 else (zk M11 x0 = 3 ∧ ∃ a12, zR M11 x0 1 = some a12 ∧ (zk M11 a12 = 6 ∧ ∃ a13, zR M11 a12 7 = some a13 ∧ zk M11 x0 = 3 ∧ w_X3_takeNumber M11 x0 (fun r14 M14 => zk M14 a13 = 10 ∧ vp_in (zI M a2 1) (zl M14 a13) ∧ (∀ M15, M15 = sI M14 a13 (zI M a2 1).toNatClampNeg r14 → (∃ n78, l_X3_readPlayer_78 P (fun M19 => ((0 : Int32) = 0 ∨ (0 : Int32) = 1) ∧ P (0 : Int32) M19) (fun M20 => ((1 : Int32) = 0 ∨ (1 : Int32) = 1) ∧ P (1 : Int32) M20) n78 M15 x0 (zI M a2 1) (0 : Int32))))))))))))))))))))
set_option maxHeartbeats 4000000 in
set_option maxRecDepth 100000 in
theorem c_X3_readPlayer (l : Launch) (E : EV) (M : Mm) (x0 : Nat) (P : Int32 → Mm → Prop) (h : w_X3_readPlayer M x0 P) : CtI l E yX3_readPlayer cX3_readPlayer 3 .boolean rm_X3_readPlayer 0 0 [.ref x0] M P := by
  refine ctI_of (by decide +kernel) (Nat.le_of_ble_eq_true rfl) ?_
  intro p e s m args below meth c C
  rw [w_X3_readPlayer] at h
  show J p l e rm_X3_readPlayer s m args below meth c (QI below E P args s 0 0) E 3 M 0 0 0 [(0, .ref x0)] []
  refine j_aload_n (pc := 0) C 0 dX3_readPlayer_0 rfl ?_
  refine gf_X3_19 (pc := 1) C dX3_readPlayer_1 h (fun a1 h => ?_)
  refine gf_X3_112 (pc := 4) C dX3_readPlayer_4 h (fun a2 h => ?_)
  refine gf_X3_99 (pc := 7) C dX3_readPlayer_7 h (fun h => ?_)
  refine j_istore_n (pc := 10) C [(1, _), (0, _)] dX3_readPlayer_10 (by decide) rfl ?_
  refine j_aload_n (pc := 11) C 1 dX3_readPlayer_11 rfl ?_
  refine j_aload_n (pc := 12) C 1 dX3_readPlayer_12 rfl ?_
  refine gf_X3_19 (pc := 13) C dX3_readPlayer_13 h (fun a3 h => ?_)
  refine gf_X3_112 (pc := 16) C dX3_readPlayer_16 h (fun a4 h => ?_)
  refine cs_X3_104 (pc := 19) C ⟨Nat.le_of_ble_eq_true rfl, Nat.le_of_ble_eq_true rfl⟩ ⟨Nat.le_of_ble_eq_true rfl, Nat.le_of_ble_eq_true rfl⟩ (Nat.le_of_ble_eq_true rfl) dX3_readPlayer_19 h (fun r5 M5 h => ?_)
  refine j_if_eq (pc := 22) C 35 dX3_readPlayer_22 (by decide) h (fun h => ?_) (fun h => ?_)
  · refine j_iconst (pc := 35) (v := (0 : Int32)) C dX3_readPlayer_35 rfl ?_
    exact j_zret (pc := 36) C dX3_readPlayer_36 (Nat.le_of_ble_eq_true rfl) (Nat.le_of_ble_eq_true rfl) h
  · refine j_aload_n (pc := 25) C 1 dX3_readPlayer_25 rfl ?_
    refine j_iconst (pc := 26) (v := (0 : Int32)) C dX3_readPlayer_26 rfl ?_
    refine j_bipush (pc := 27) (v := (40 : Int32)) C dX3_readPlayer_27 rfl ?_
    refine cs_X3_60 (pc := 29) C ⟨Nat.le_of_ble_eq_true rfl, Nat.le_of_ble_eq_true rfl⟩ ⟨Nat.le_of_ble_eq_true rfl, Nat.le_of_ble_eq_true rfl⟩ (Nat.le_of_ble_eq_true rfl) dX3_readPlayer_29 h (fun r6 M6 h => ?_)
    refine j_if_ne (pc := 32) C 37 dX3_readPlayer_32 (by decide) h (fun h => ?_) (fun h => ?_)
    · refine j_aload_n (pc := 37) C 1 dX3_readPlayer_37 rfl ?_
      refine gf_X3_19 (pc := 38) C dX3_readPlayer_38 h (fun a7 h => ?_)
      refine gf_X3_115 (pc := 41) C dX3_readPlayer_41 h (fun a8 h => ?_)
      refine j_iload_n (pc := 44) C 0 dX3_readPlayer_44 rfl ?_
      refine j_aload_n (pc := 45) C 1 dX3_readPlayer_45 rfl ?_
      refine cs_X3_64 (pc := 46) C ⟨Nat.le_of_ble_eq_true rfl, Nat.le_of_ble_eq_true rfl⟩ ⟨Nat.le_of_ble_eq_true rfl, Nat.le_of_ble_eq_true rfl⟩ (Nat.le_of_ble_eq_true rfl) dX3_readPlayer_46 h (fun r9 M9 h => ?_)
      refine n_iast (pc := 49) C dX3_readPlayer_49 h (fun M10 h => ?_)
      refine j_aload_n (pc := 50) C 1 dX3_readPlayer_50 rfl ?_
      refine j_iconst (pc := 51) (v := (0 : Int32)) C dX3_readPlayer_51 rfl ?_
      refine j_sipush (pc := 52) (v := (999 : Int32)) C dX3_readPlayer_52 rfl ?_
      refine cs_X3_60 (pc := 55) C ⟨Nat.le_of_ble_eq_true rfl, Nat.le_of_ble_eq_true rfl⟩ ⟨Nat.le_of_ble_eq_true rfl, Nat.le_of_ble_eq_true rfl⟩ (Nat.le_of_ble_eq_true rfl) dX3_readPlayer_55 h (fun r11 M11 h => ?_)
      refine j_if_ne (pc := 58) C 63 dX3_readPlayer_58 (by decide) h (fun h => ?_) (fun h => ?_)
      · refine j_aload_n (pc := 63) C 1 dX3_readPlayer_63 rfl ?_
        refine gf_X3_19 (pc := 64) C dX3_readPlayer_64 h (fun a12 h => ?_)
        refine gf_X3_118 (pc := 67) C dX3_readPlayer_67 h (fun a13 h => ?_)
        refine j_iload_n (pc := 70) C 0 dX3_readPlayer_70 rfl ?_
        refine j_aload_n (pc := 71) C 1 dX3_readPlayer_71 rfl ?_
        refine cs_X3_64 (pc := 72) C ⟨Nat.le_of_ble_eq_true rfl, Nat.le_of_ble_eq_true rfl⟩ ⟨Nat.le_of_ble_eq_true rfl, Nat.le_of_ble_eq_true rfl⟩ (Nat.le_of_ble_eq_true rfl) dX3_readPlayer_72 h (fun r14 M14 h => ?_)
        refine n_iast (pc := 75) C dX3_readPlayer_75 h (fun M15 h => ?_)
        refine j_iconst (pc := 76) (v := (0 : Int32)) C dX3_readPlayer_76 rfl ?_
        refine j_istore_n (pc := 77) C [(2, _), (1, _), (0, _)] dX3_readPlayer_77 (by decide) rfl ?_
        obtain ⟨n78, h⟩ := h
        refine j_weak [2, 1, 0] rfl (jl_X3_readPlayer_78 C ⟨Nat.le_of_ble_eq_true rfl, Nat.le_of_ble_eq_true rfl⟩ (fun M19 h => ?_) (fun M20 h => ?_) n78 _ _ _ _ h)
        · refine j_iconst (pc := 109) (v := (0 : Int32)) C dX3_readPlayer_109 rfl ?_
          exact j_zret (pc := 110) C dX3_readPlayer_110 (Nat.le_of_ble_eq_true rfl) (Nat.le_of_ble_eq_true rfl) h
        · refine j_iconst (pc := 117) (v := (1 : Int32)) C dX3_readPlayer_117 rfl ?_
          exact j_zret (pc := 118) C dX3_readPlayer_118 (Nat.le_of_ble_eq_true rfl) (Nat.le_of_ble_eq_true rfl) h
      · refine j_iconst (pc := 61) (v := (0 : Int32)) C dX3_readPlayer_61 rfl ?_
        exact j_zret (pc := 62) C dX3_readPlayer_62 (Nat.le_of_ble_eq_true rfl) (Nat.le_of_ble_eq_true rfl) h
    · refine j_iconst (pc := 35) (v := (0 : Int32)) C dX3_readPlayer_35 rfl ?_
      exact j_zret (pc := 36) C dX3_readPlayer_36 (Nat.le_of_ble_eq_true rfl) (Nat.le_of_ble_eq_true rfl) h
end GW15
