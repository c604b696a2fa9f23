/-! written by a program (wip/p34/gen.py) out of the decode rows and the tables: walks of X0 -/

section GW6
variable {p : Program} {l : Launch} {e : Env} {R : Room} {s : State} {m : MethodId} {args : Array Value} {below : List Frame} {meth : Method} {c : Code} {Q : State → Prop} {cc : ByteArray} {nL : Nat} {ret : Option FieldType} {E : EV} {M : Mm} {kc ks pc : Nat} {lo : List (Nat × Value)} {st : List Value}
abbrev rm_X0_init : Room := { frames := 1, cells := 3, slots := 518, locals := 20 }
def w_X0_init (M : Mm) (x0 : Nat) (P : Mm → Prop) : Prop := ¬ (6 : Int32) < 0 ∧ (6 : Int32).toNatClampNeg ≤ 6 ∧ (∀ a1 M1, a1 = zn M → M1 = sN M 10 (6 : Int32).toNatClampNeg → zk M1 x0 = 1 ∧ (∀ M2, M2 = sR M1 x0 0 (some a1) → ¬ (256 : Int32) < 0 ∧ (256 : Int32).toNatClampNeg ≤ 256 ∧ (∀ a3 M3, a3 = zn M2 → M3 = sN M2 10 (256 : Int32).toNatClampNeg → zk M3 x0 = 1 ∧ (∀ M4, M4 = sR M3 x0 1 (some a3) → ¬ (256 : Int32) < 0 ∧ (256 : Int32).toNatClampNeg ≤ 256 ∧ (∀ a5 M5, a5 = zn M4 → M5 = sN M4 10 (256 : Int32).toNatClampNeg → zk M5 x0 = 1 ∧ (∀ M6, M6 = sR M5 x0 2 (some a5) → P M6))))))
set_option maxHeartbeats 4000000 in
set_option maxRecDepth 100000 in
theorem c_X0_init (l : Launch) (E : EV) (M : Mm) (x0 : Nat) (P : Mm → Prop) (h : w_X0_init M x0 P) : CtV l E yX0_init cX0_init 1 rm_X0_init 3 518 [.ref x0] M P := by
  refine ctV_of (by decide +kernel) (Nat.le_of_ble_eq_true rfl) ?_
  intro p e s m args below meth c C hnm
  rw [w_X0_init] at h
  show J p l e rm_X0_init s m args below meth c (QV below E P args s 3 518) E 1 M 0 0 0 [(0, .ref x0)] []
  refine j_aload_n (pc := 0) C 0 dX0_init_0 rfl ?_
  refine j_objInit (pc := 1) C wd_79 wd_72 wd_73 dX0_init_1 (Nat.le_of_ble_eq_true rfl) (Nat.le_of_ble_eq_true rfl) ?_
  refine j_aload_n (pc := 4) C 0 dX0_init_4 rfl ?_
  refine j_bipush (pc := 5) (v := (6 : Int32)) C dX0_init_5 rfl ?_
  refine n_newi (pc := 7) C 6 wd_92 dX0_init_7 (Nat.le_of_ble_eq_true rfl) (Nat.le_of_ble_eq_true rfl) (Nat.le_of_ble_eq_true rfl) h (fun a1 M1 h => ?_)
  refine pf_X0_9 (pc := 9) C hnm dX0_init_9 h (fun M2 h => ?_)
  refine j_aload_n (pc := 12) C 0 dX0_init_12 rfl ?_
  refine j_sipush (pc := 13) (v := (256 : Int32)) C dX0_init_13 rfl ?_
  refine n_newi (pc := 16) C 256 wd_92 dX0_init_16 (Nat.le_of_ble_eq_true rfl) (Nat.le_of_ble_eq_true rfl) (Nat.le_of_ble_eq_true rfl) h (fun a3 M3 h => ?_)
  refine pf_X0_15 (pc := 18) C hnm dX0_init_18 h (fun M4 h => ?_)
  refine j_aload_n (pc := 21) C 0 dX0_init_21 rfl ?_
  refine j_sipush (pc := 22) (v := (256 : Int32)) C dX0_init_22 rfl ?_
  refine n_newi (pc := 25) C 256 wd_92 dX0_init_25 (Nat.le_of_ble_eq_true rfl) (Nat.le_of_ble_eq_true rfl) (Nat.le_of_ble_eq_true rfl) h (fun a5 M5 h => ?_)
  refine pf_X0_18 (pc := 27) C hnm dX0_init_27 h (fun M6 h => ?_)
  exact j_vret (pc := 30) C dX0_init_30 (Nat.le_of_ble_eq_true rfl) (Nat.le_of_ble_eq_true rfl) h
end GW6
