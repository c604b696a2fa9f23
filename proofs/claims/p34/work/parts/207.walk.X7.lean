/-! written by a program (wip/p34/gen.py) out of the decode rows and the tables: walks of X7 -/

section GW7
variable {p : Program} {l : Launch} {e : Env} {R : Room} {s : State} {m : MethodId} {args : Array Value} {below : List Frame} {meth : Method} {c : Code} {Q : State → Prop} {cc : ByteArray} {nL : Nat} {ret : Option FieldType} {E : EV} {M : Mm} {kc ks pc : Nat} {lo : List (Nat × Value)} {st : List Value}
abbrev rm_X7_firstBits : Room := { frames := 0, cells := 0, slots := 0, locals := 0 }
def w_X7_firstBits (M : Mm) (x0 : Int32) (P : Int32 → Mm → Prop) : Prop := P (((1 : Int32) <<< (x0 &&& 31)) - (1 : Int32)) M
set_option maxHeartbeats 4000000 in
set_option maxRecDepth 100000 in
theorem c_X7_firstBits (l : Launch) (E : EV) (M : Mm) (x0 : Int32) (P : Int32 → Mm → Prop) (h : w_X7_firstBits M x0 P) : CtI l E yX7_firstBits cX7_firstBits 1 .int rm_X7_firstBits 0 0 [.int x0] M P := by
  refine ctI_of (by decide +kernel) (Nat.le_of_ble_eq_true rfl) ?_
  intro p e s m args below meth c C
  rw [w_X7_firstBits] at h
  show J p l e rm_X7_firstBits s m args below meth c (QI below E P args s 0 0) E 1 M 0 0 0 [(0, .int x0)] []
  refine j_iconst (pc := 0) (v := (1 : Int32)) C dX7_firstBits_0 rfl ?_
  refine j_iload_n (pc := 1) C 0 dX7_firstBits_1 rfl ?_
  refine j_ishl (pc := 2) C dX7_firstBits_2 ?_
  refine j_iconst (pc := 3) (v := (1 : Int32)) C dX7_firstBits_3 rfl ?_
  refine j_isub (pc := 4) C dX7_firstBits_4 ?_
  exact j_iret (pc := 5) C dX7_firstBits_5 (Nat.le_of_ble_eq_true rfl) (Nat.le_of_ble_eq_true rfl) h
end GW7
