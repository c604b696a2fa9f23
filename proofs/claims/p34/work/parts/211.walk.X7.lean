/-! written by a program (wip/p34/gen.py) out of the decode rows and the tables: walks of X7 -/

section GW11
variable {p : Program} {l : Launch} {e : Env} {R : Room} {s : State} {m : MethodId} {args : Array Value} {below : List Frame} {meth : Method} {c : Code} {Q : State → Prop} {cc : ByteArray} {nL : Nat} {ret : Option FieldType} {E : EV} {M : Mm} {kc ks pc : Nat} {lo : List (Nat × Value)} {st : List Value}
abbrev rm_X7_isDigit : Room := { frames := 0, cells := 0, slots := 0, locals := 0 }
def w_X7_isDigit (M : Mm) (x0 : Int32) (P : Int32 → Mm → Prop) : Prop := (if x0 < (48 : Int32) then ((0 : Int32) = 0 ∨ (0 : Int32) = 1) ∧ P (0 : Int32) M else (if (57 : Int32) < x0 then ((0 : Int32) = 0 ∨ (0 : Int32) = 1) ∧ P (0 : Int32) M else ((1 : Int32) = 0 ∨ (1 : Int32) = 1) ∧ P (1 : Int32) M))
set_option maxHeartbeats 4000000 in
set_option maxRecDepth 100000 in
theorem c_X7_isDigit (l : Launch) (E : EV) (M : Mm) (x0 : Int32) (P : Int32 → Mm → Prop) (h : w_X7_isDigit M x0 P) : CtI l E yX7_isDigit cX7_isDigit 1 .boolean rm_X7_isDigit 0 0 [.int x0] M P := by
  refine ctI_of (by decide +kernel) (Nat.le_of_ble_eq_true rfl) ?_
  intro p e s m args below meth c C
  rw [w_X7_isDigit] at h
  show J p l e rm_X7_isDigit s m args below meth c (QI below E P args s 0 0) E 1 M 0 0 0 [(0, .int x0)] []
  refine j_iload_n (pc := 0) C 0 dX7_isDigit_0 rfl ?_
  refine j_bipush (pc := 1) (v := (48 : Int32)) C dX7_isDigit_1 rfl ?_
  refine j_icmp_lt (pc := 3) C 16 dX7_isDigit_3 (by decide) h (fun h => ?_) (fun h => ?_)
  · refine j_iconst (pc := 16) (v := (0 : Int32)) C dX7_isDigit_16 rfl ?_
    exact j_zret (pc := 17) C dX7_isDigit_17 (Nat.le_of_ble_eq_true rfl) (Nat.le_of_ble_eq_true rfl) h
  · refine j_iload_n (pc := 6) C 0 dX7_isDigit_6 rfl ?_
    refine j_bipush (pc := 7) (v := (57 : Int32)) C dX7_isDigit_7 rfl ?_
    refine j_icmp_gt (pc := 9) C 16 dX7_isDigit_9 (by decide) h (fun h => ?_) (fun h => ?_)
    · refine j_iconst (pc := 16) (v := (0 : Int32)) C dX7_isDigit_16 rfl ?_
      exact j_zret (pc := 17) C dX7_isDigit_17 (Nat.le_of_ble_eq_true rfl) (Nat.le_of_ble_eq_true rfl) h
    · refine j_iconst (pc := 12) (v := (1 : Int32)) C dX7_isDigit_12 rfl ?_
      refine j_goto (pc := 13) C 17 dX7_isDigit_13 (by decide) ?_
      exact j_zret (pc := 17) C dX7_isDigit_17 (Nat.le_of_ble_eq_true rfl) (Nat.le_of_ble_eq_true rfl) h
abbrev rm_X7_isLetter : Room := { frames := 0, cells := 0, slots := 0, locals := 0 }
def w_X7_isLetter (M : Mm) (x0 : Int32) (P : Int32 → Mm → Prop) : Prop := (if x0 < (97 : Int32) then ((0 : Int32) = 0 ∨ (0 : Int32) = 1) ∧ P (0 : Int32) M else (if (122 : Int32) < x0 then ((0 : Int32) = 0 ∨ (0 : Int32) = 1) ∧ P (0 : Int32) M else ((1 : Int32) = 0 ∨ (1 : Int32) = 1) ∧ P (1 : Int32) M))
set_option maxHeartbeats 4000000 in
set_option maxRecDepth 100000 in
theorem c_X7_isLetter (l : Launch) (E : EV) (M : Mm) (x0 : Int32) (P : Int32 → Mm → Prop) (h : w_X7_isLetter M x0 P) : CtI l E yX7_isLetter cX7_isLetter 1 .boolean rm_X7_isLetter 0 0 [.int x0] M P := by
  refine ctI_of (by decide +kernel) (Nat.le_of_ble_eq_true rfl) ?_
  intro p e s m args below meth c C
  rw [w_X7_isLetter] at h
  show J p l e rm_X7_isLetter s m args below meth c (QI below E P args s 0 0) E 1 M 0 0 0 [(0, .int x0)] []
  refine j_iload_n (pc := 0) C 0 dX7_isLetter_0 rfl ?_
  refine j_bipush (pc := 1) (v := (97 : Int32)) C dX7_isLetter_1 rfl ?_
  refine j_icmp_lt (pc := 3) C 16 dX7_isLetter_3 (by decide) h (fun h => ?_) (fun h => ?_)
  · refine j_iconst (pc := 16) (v := (0 : Int32)) C dX7_isLetter_16 rfl ?_
    exact j_zret (pc := 17) C dX7_isLetter_17 (Nat.le_of_ble_eq_true rfl) (Nat.le_of_ble_eq_true rfl) h
  · refine j_iload_n (pc := 6) C 0 dX7_isLetter_6 rfl ?_
    refine j_bipush (pc := 7) (v := (122 : Int32)) C dX7_isLetter_7 rfl ?_
    refine j_icmp_gt (pc := 9) C 16 dX7_isLetter_9 (by decide) h (fun h => ?_) (fun h => ?_)
    · refine j_iconst (pc := 16) (v := (0 : Int32)) C dX7_isLetter_16 rfl ?_
      exact j_zret (pc := 17) C dX7_isLetter_17 (Nat.le_of_ble_eq_true rfl) (Nat.le_of_ble_eq_true rfl) h
    · refine j_iconst (pc := 12) (v := (1 : Int32)) C dX7_isLetter_12 rfl ?_
      refine j_goto (pc := 13) C 17 dX7_isLetter_13 (by decide) ?_
      exact j_zret (pc := 17) C dX7_isLetter_17 (Nat.le_of_ble_eq_true rfl) (Nat.le_of_ble_eq_true rfl) h
abbrev rm_X7_withLetter : Room := { frames := 0, cells := 0, slots := 0, locals := 0 }
def w_X7_withLetter (M : Mm) (x0 : Int64) (x2 : Int32) (P : Int64 → Mm → Prop) : Prop := P ((x0 <<< ((5 : Int32).toInt64 &&& 63)) ||| ((x2 - (97 : Int32)) + (1 : Int32)).toInt64) M
set_option maxHeartbeats 4000000 in
set_option maxRecDepth 100000 in
theorem c_X7_withLetter (l : Launch) (E : EV) (M : Mm) (x0 : Int64) (x2 : Int32) (P : Int64 → Mm → Prop) (h : w_X7_withLetter M x0 x2 P) : CtL l E yX7_withLetter cX7_withLetter 3 rm_X7_withLetter 0 0 [.long x0, .int x2] M P := by
  refine ctL_of (by decide +kernel) (Nat.le_of_ble_eq_true rfl) ?_
  intro p e s m args below meth c C
  rw [w_X7_withLetter] at h
  show J p l e rm_X7_withLetter s m args below meth c (QL below E P args s 0 0) E 3 M 0 0 0 [(0, .long x0), (2, .int x2)] []
  refine j_lload_n (pc := 0) C 0 dX7_withLetter_0 rfl ?_
  refine j_iconst (pc := 1) (v := (5 : Int32)) C dX7_withLetter_1 rfl ?_
  refine j_lshl (pc := 2) C dX7_withLetter_2 ?_
  refine j_iload_n (pc := 3) C 1 dX7_withLetter_3 rfl ?_
  refine j_bipush (pc := 4) (v := (97 : Int32)) C dX7_withLetter_4 rfl ?_
  refine j_isub (pc := 6) C dX7_withLetter_6 ?_
  refine j_iconst (pc := 7) (v := (1 : Int32)) C dX7_withLetter_7 rfl ?_
  refine j_iadd (pc := 8) C dX7_withLetter_8 ?_
  refine j_i2l (pc := 9) C dX7_withLetter_9 ?_
  refine j_lor (pc := 10) C dX7_withLetter_10 ?_
  exact j_lret (pc := 11) C dX7_withLetter_11 (Nat.le_of_ble_eq_true rfl) (Nat.le_of_ble_eq_true rfl) h
end GW11
