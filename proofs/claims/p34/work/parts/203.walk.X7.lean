/-! written by a program (wip/p34/gen.py) out of the decode rows and the tables: walks of X7 -/

section GW3
variable {p : Program} {l : Launch} {e : Env} {R : Room} {s : State} {m : MethodId} {args : Array Value} {below : List Frame} {meth : Method} {c : Code} {Q : State → Prop} {cc : ByteArray} {nL : Nat} {ret : Option FieldType} {E : EV} {M : Mm} {kc ks pc : Nat} {lo : List (Nat × Value)} {st : List Value}
abbrev rm_X7_has : Room := { frames := 0, cells := 0, slots := 0, locals := 0 }
def w_X7_has (M : Mm) (x0 : Int32) (x1 : Int32) (P : Int32 → Mm → Prop) : Prop := (if ((x0 >>> (x1 &&& 31)) &&& (1 : Int32)) = 0 then ((0 : Int32) = 0 ∨ (0 : Int32) = 1) ∧ P (0 : Int32) M else ((1 : Int32) = 0 ∨ (1 : Int32) = 1) ∧ P (1 : Int32) M)
set_option maxHeartbeats 4000000 in
set_option maxRecDepth 100000 in
theorem c_X7_has (l : Launch) (E : EV) (M : Mm) (x0 : Int32) (x1 : Int32) (P : Int32 → Mm → Prop) (h : w_X7_has M x0 x1 P) : CtI l E yX7_has cX7_has 2 .boolean rm_X7_has 0 0 [.int x0, .int x1] M P := by
  refine ctI_of (by decide +kernel) (Nat.le_of_ble_eq_true rfl) ?_
  intro p e s m args below meth c C
  rw [w_X7_has] at h
  show J p l e rm_X7_has s m args below meth c (QI below E P args s 0 0) E 2 M 0 0 0 [(0, .int x0), (1, .int x1)] []
  refine j_iload_n (pc := 0) C 0 dX7_has_0 rfl ?_
  refine j_iload_n (pc := 1) C 1 dX7_has_1 rfl ?_
  refine j_ishr (pc := 2) C dX7_has_2 ?_
  refine j_iconst (pc := 3) (v := (1 : Int32)) C dX7_has_3 rfl ?_
  refine j_iand (pc := 4) C dX7_has_4 ?_
  refine j_if_eq (pc := 5) C 12 dX7_has_5 (by decide) h (fun h => ?_) (fun h => ?_)
  · refine j_iconst (pc := 12) (v := (0 : Int32)) C dX7_has_12 rfl ?_
    exact j_zret (pc := 13) C dX7_has_13 (Nat.le_of_ble_eq_true rfl) (Nat.le_of_ble_eq_true rfl) h
  · refine j_iconst (pc := 8) (v := (1 : Int32)) C dX7_has_8 rfl ?_
    refine j_goto (pc := 9) C 13 dX7_has_9 (by decide) ?_
    exact j_zret (pc := 13) C dX7_has_13 (Nat.le_of_ble_eq_true rfl) (Nat.le_of_ble_eq_true rfl) h
end GW3
