/-! written by a program (wip/p34/gen.py) out of the decode rows and the tables: walks of X3 -/

section GW13
variable {p : Program} {l : Launch} {e : Env} {R : Room} {s : State} {m : MethodId} {args : Array Value} {below : List Frame} {meth : Method} {c : Code} {Q : State → Prop} {cc : ByteArray} {nL : Nat} {ret : Option FieldType} {E : EV} {M : Mm} {kc ks pc : Nat} {lo : List (Nat × Value)} {st : List Value}
abbrev rm_X3_init : Room := { frames := 1, cells := 0, slots := 0, locals := 20 }
def w_X3_init (M : Mm) (x0 : Nat) (x1 : Nat) (x2 : Nat) (P : Mm → Prop) : Prop := zk M x0 = 3 ∧ (∀ M1, M1 = sI M x0 3 (-1 : Int32) → zk M1 x0 = 3 ∧ (∀ M2, M2 = sR M1 x0 0 (some x1) → zk M2 x0 = 3 ∧ (∀ M3, M3 = sR M2 x0 1 (some x2) → P M3)))
set_option maxHeartbeats 4000000 in
set_option maxRecDepth 100000 in
theorem c_X3_init (l : Launch) (E : EV) (M : Mm) (x0 : Nat) (x1 : Nat) (x2 : Nat) (P : Mm → Prop) (h : w_X3_init M x0 x1 x2 P) : CtV l E yX3_init cX3_init 3 rm_X3_init 0 0 [.ref x0, .ref x1, .ref x2] M P := by
  refine ctV_of (by decide +kernel) (Nat.le_of_ble_eq_true rfl) ?_
  intro p e s m args below meth c C hnm
  rw [w_X3_init] at h
  show J p l e rm_X3_init s m args below meth c (QV below E P args s 0 0) E 3 M 0 0 0 [(0, .ref x0), (1, .ref x1), (2, .ref x2)] []
  refine j_aload_n (pc := 0) C 0 dX3_init_0 rfl ?_
  refine j_objInit (pc := 1) C wd_802 wd_72 wd_73 dX3_init_1 (Nat.le_of_ble_eq_true rfl) (Nat.le_of_ble_eq_true rfl) ?_
  refine j_aload_n (pc := 4) C 0 dX3_init_4 rfl ?_
  refine j_iconst (pc := 5) (v := (-1 : Int32)) C dX3_init_5 rfl ?_
  refine pf_X3_9 (pc := 6) C dX3_init_6 h (fun M1 h => ?_)
  refine j_aload_n (pc := 9) C 0 dX3_init_9 rfl ?_
  refine j_aload_n (pc := 10) C 1 dX3_init_10 rfl ?_
  refine pf_X3_15 (pc := 11) C hnm dX3_init_11 h (fun M2 h => ?_)
  refine j_aload_n (pc := 14) C 0 dX3_init_14 rfl ?_
  refine j_aload_n (pc := 15) C 2 dX3_init_15 rfl ?_
  refine pf_X3_19 (pc := 16) C hnm dX3_init_16 h (fun M3 h => ?_)
  exact j_vret (pc := 19) C dX3_init_19 (Nat.le_of_ble_eq_true rfl) (Nat.le_of_ble_eq_true rfl) h
end GW13
