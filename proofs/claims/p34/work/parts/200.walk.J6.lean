/-! written by a program (wip/p34/gen.py) out of the decode rows and the tables: walks of J6 -/

section GW0
variable {p : Program} {l : Launch} {e : Env} {R : Room} {s : State} {m : MethodId} {args : Array Value} {below : List Frame} {meth : Method} {c : Code} {Q : State → Prop} {cc : ByteArray} {nL : Nat} {ret : Option FieldType} {E : EV} {M : Mm} {kc ks pc : Nat} {lo : List (Nat × Value)} {st : List Value}
abbrev rm_J6_bitCount_0f7a4 : Room := { frames := 0, cells := 0, slots := 0, locals := 0 }
def w_J6_bitCount_0f7a4 (M : Mm) (x0 : Int32) (P : Int32 → Mm → Prop) : Prop := P ((((((((x0 - ((x0.toUInt32 >>> ((1 : Int32).toUInt32 &&& Int32.toUInt32 31)).toInt32 &&& (1431655765 : Int32))) &&& (858993459 : Int32)) + (((x0 - ((x0.toUInt32 >>> ((1 : Int32).toUInt32 &&& Int32.toUInt32 31)).toInt32 &&& (1431655765 : Int32))).toUInt32 >>> ((2 : Int32).toUInt32 &&& Int32.toUInt32 31)).toInt32 &&& (858993459 : Int32))) + ((((x0 - ((x0.toUInt32 >>> ((1 : Int32).toUInt32 &&& Int32.toUInt32 31)).toInt32 &&& (1431655765 : Int32))) &&& (858993459 : Int32)) + (((x0 - ((x0.toUInt32 >>> ((1 : Int32).toUInt32 &&& Int32.toUInt32 31)).toInt32 &&& (1431655765 : Int32))).toUInt32 >>> ((2 : Int32).toUInt32 &&& Int32.toUInt32 31)).toInt32 &&& (858993459 : Int32))).toUInt32 >>> ((4 : Int32).toUInt32 &&& Int32.toUInt32 31)).toInt32) &&& (252645135 : Int32)) + ((((((x0 - ((x0.toUInt32 >>> ((1 : Int32).toUInt32 &&& Int32.toUInt32 31)).toInt32 &&& (1431655765 : Int32))) &&& (858993459 : Int32)) + (((x0 - ((x0.toUInt32 >>> ((1 : Int32).toUInt32 &&& Int32.toUInt32 31)).toInt32 &&& (1431655765 : Int32))).toUInt32 >>> ((2 : Int32).toUInt32 &&& Int32.toUInt32 31)).toInt32 &&& (858993459 : Int32))) + ((((x0 - ((x0.toUInt32 >>> ((1 : Int32).toUInt32 &&& Int32.toUInt32 31)).toInt32 &&& (1431655765 : Int32))) &&& (858993459 : Int32)) + (((x0 - ((x0.toUInt32 >>> ((1 : Int32).toUInt32 &&& Int32.toUInt32 31)).toInt32 &&& (1431655765 : Int32))).toUInt32 >>> ((2 : Int32).toUInt32 &&& Int32.toUInt32 31)).toInt32 &&& (858993459 : Int32))).toUInt32 >>> ((4 : Int32).toUInt32 &&& Int32.toUInt32 31)).toInt32) &&& (252645135 : Int32)).toUInt32 >>> ((8 : Int32).toUInt32 &&& Int32.toUInt32 31)).toInt32) + (((((((x0 - ((x0.toUInt32 >>> ((1 : Int32).toUInt32 &&& Int32.toUInt32 31)).toInt32 &&& (1431655765 : Int32))) &&& (858993459 : Int32)) + (((x0 - ((x0.toUInt32 >>> ((1 : Int32).toUInt32 &&& Int32.toUInt32 31)).toInt32 &&& (1431655765 : Int32))).toUInt32 >>> ((2 : Int32).toUInt32 &&& Int32.toUInt32 31)).toInt32 &&& (858993459 : Int32))) + ((((x0 - ((x0.toUInt32 >>> ((1 : Int32).toUInt32 &&& Int32.toUInt32 31)).toInt32 &&& (1431655765 : Int32))) &&& (858993459 : Int32)) + (((x0 - ((x0.toUInt32 >>> ((1 : Int32).toUInt32 &&& Int32.toUInt32 31)).toInt32 &&& (1431655765 : Int32))).toUInt32 >>> ((2 : Int32).toUInt32 &&& Int32.toUInt32 31)).toInt32 &&& (858993459 : Int32))).toUInt32 >>> ((4 : Int32).toUInt32 &&& Int32.toUInt32 31)).toInt32) &&& (252645135 : Int32)) + ((((((x0 - ((x0.toUInt32 >>> ((1 : Int32).toUInt32 &&& Int32.toUInt32 31)).toInt32 &&& (1431655765 : Int32))) &&& (858993459 : Int32)) + (((x0 - ((x0.toUInt32 >>> ((1 : Int32).toUInt32 &&& Int32.toUInt32 31)).toInt32 &&& (1431655765 : Int32))).toUInt32 >>> ((2 : Int32).toUInt32 &&& Int32.toUInt32 31)).toInt32 &&& (858993459 : Int32))) + ((((x0 - ((x0.toUInt32 >>> ((1 : Int32).toUInt32 &&& Int32.toUInt32 31)).toInt32 &&& (1431655765 : Int32))) &&& (858993459 : Int32)) + (((x0 - ((x0.toUInt32 >>> ((1 : Int32).toUInt32 &&& Int32.toUInt32 31)).toInt32 &&& (1431655765 : Int32))).toUInt32 >>> ((2 : Int32).toUInt32 &&& Int32.toUInt32 31)).toInt32 &&& (858993459 : Int32))).toUInt32 >>> ((4 : Int32).toUInt32 &&& Int32.toUInt32 31)).toInt32) &&& (252645135 : Int32)).toUInt32 >>> ((8 : Int32).toUInt32 &&& Int32.toUInt32 31)).toInt32).toUInt32 >>> ((16 : Int32).toUInt32 &&& Int32.toUInt32 31)).toInt32) &&& (63 : Int32)) M
set_option maxHeartbeats 4000000 in
set_option maxRecDepth 100000 in
theorem c_J6_bitCount_0f7a4 (l : Launch) (E : EV) (M : Mm) (x0 : Int32) (P : Int32 → Mm → Prop) (h : w_J6_bitCount_0f7a4 M x0 P) : CtI l E yJ6_bitCount_0f7a4 cJ6_bitCount_0f7a4 1 .int rm_J6_bitCount_0f7a4 0 0 [.int x0] M P := by
  refine ctI_of (by decide +kernel) (Nat.le_of_ble_eq_true rfl) ?_
  intro p e s m args below meth c C
  rw [w_J6_bitCount_0f7a4] at h
  show J p l e rm_J6_bitCount_0f7a4 s m args below meth c (QI below E P args s 0 0) E 1 M 0 0 0 [(0, .int x0)] []
  refine j_iload_n (pc := 0) C 0 dJ6_bitCount_0f7a4_0 rfl ?_
  refine j_iload_n (pc := 1) C 0 dJ6_bitCount_0f7a4_1 rfl ?_
  refine j_iconst (pc := 2) (v := (1 : Int32)) C dJ6_bitCount_0f7a4_2 rfl ?_
  refine j_iushr (pc := 3) C dJ6_bitCount_0f7a4_3 ?_
  refine j_ldcw (pc := 4) C wd_1147 dJ6_bitCount_0f7a4_4 ?_
  refine j_iand (pc := 7) C dJ6_bitCount_0f7a4_7 ?_
  refine j_isub (pc := 8) C dJ6_bitCount_0f7a4_8 ?_
  refine j_istore_n (pc := 9) C [(0, _)] dJ6_bitCount_0f7a4_9 (by decide) rfl ?_
  refine j_iload_n (pc := 10) C 0 dJ6_bitCount_0f7a4_10 rfl ?_
  refine j_ldcw (pc := 11) C wd_1148 dJ6_bitCount_0f7a4_11 ?_
  refine j_iand (pc := 14) C dJ6_bitCount_0f7a4_14 ?_
  refine j_iload_n (pc := 15) C 0 dJ6_bitCount_0f7a4_15 rfl ?_
  refine j_iconst (pc := 16) (v := (2 : Int32)) C dJ6_bitCount_0f7a4_16 rfl ?_
  refine j_iushr (pc := 17) C dJ6_bitCount_0f7a4_17 ?_
  refine j_ldcw (pc := 18) C wd_1148 dJ6_bitCount_0f7a4_18 ?_
  refine j_iand (pc := 21) C dJ6_bitCount_0f7a4_21 ?_
  refine j_iadd (pc := 22) C dJ6_bitCount_0f7a4_22 ?_
  refine j_istore_n (pc := 23) C [(0, _)] dJ6_bitCount_0f7a4_23 (by decide) rfl ?_
  refine j_iload_n (pc := 24) C 0 dJ6_bitCount_0f7a4_24 rfl ?_
  refine j_iload_n (pc := 25) C 0 dJ6_bitCount_0f7a4_25 rfl ?_
  refine j_iconst (pc := 26) (v := (4 : Int32)) C dJ6_bitCount_0f7a4_26 rfl ?_
  refine j_iushr (pc := 27) C dJ6_bitCount_0f7a4_27 ?_
  refine j_iadd (pc := 28) C dJ6_bitCount_0f7a4_28 ?_
  refine j_ldcw (pc := 29) C wd_1149 dJ6_bitCount_0f7a4_29 ?_
  refine j_iand (pc := 32) C dJ6_bitCount_0f7a4_32 ?_
  refine j_istore_n (pc := 33) C [(0, _)] dJ6_bitCount_0f7a4_33 (by decide) rfl ?_
  refine j_iload_n (pc := 34) C 0 dJ6_bitCount_0f7a4_34 rfl ?_
  refine j_iload_n (pc := 35) C 0 dJ6_bitCount_0f7a4_35 rfl ?_
  refine j_bipush (pc := 36) (v := (8 : Int32)) C dJ6_bitCount_0f7a4_36 rfl ?_
  refine j_iushr (pc := 38) C dJ6_bitCount_0f7a4_38 ?_
  refine j_iadd (pc := 39) C dJ6_bitCount_0f7a4_39 ?_
  refine j_istore_n (pc := 40) C [(0, _)] dJ6_bitCount_0f7a4_40 (by decide) rfl ?_
  refine j_iload_n (pc := 41) C 0 dJ6_bitCount_0f7a4_41 rfl ?_
  refine j_iload_n (pc := 42) C 0 dJ6_bitCount_0f7a4_42 rfl ?_
  refine j_bipush (pc := 43) (v := (16 : Int32)) C dJ6_bitCount_0f7a4_43 rfl ?_
  refine j_iushr (pc := 45) C dJ6_bitCount_0f7a4_45 ?_
  refine j_iadd (pc := 46) C dJ6_bitCount_0f7a4_46 ?_
  refine j_istore_n (pc := 47) C [(0, _)] dJ6_bitCount_0f7a4_47 (by decide) rfl ?_
  refine j_iload_n (pc := 48) C 0 dJ6_bitCount_0f7a4_48 rfl ?_
  refine j_bipush (pc := 49) (v := (63 : Int32)) C dJ6_bitCount_0f7a4_49 rfl ?_
  refine j_iand (pc := 51) C dJ6_bitCount_0f7a4_51 ?_
  exact j_iret (pc := 52) C dJ6_bitCount_0f7a4_52 (Nat.le_of_ble_eq_true rfl) (Nat.le_of_ble_eq_true rfl) h
end GW0
