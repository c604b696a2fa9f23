/-! written by a program (wip/p34/gen.py) out of the decode rows and the tables: walks of X2 -/

section GW1
variable {p : Program} {l : Launch} {e : Env} {R : Room} {s : State} {m : MethodId} {args : Array Value} {below : List Frame} {meth : Method} {c : Code} {Q : State → Prop} {cc : ByteArray} {nL : Nat} {ret : Option FieldType} {E : EV} {M : Mm} {kc ks pc : Nat} {lo : List (Nat × Value)} {st : List Value}
abbrev rm_X2_init : Room := { frames := 1, cells := 1, slots := 8, locals := 20 }
def w_X2_init (M : Mm) (x0 : Nat) (x1 : Int32) (P : Mm → Prop) : Prop := ¬ x1 < 0 ∧ x1.toNatClampNeg ≤ 8 ∧ (∀ a1 M1, a1 = zn M → M1 = sN M 11 x1.toNatClampNeg → zk M1 x0 = 2 ∧ (∀ M2, M2 = sR M1 x0 0 (some a1) → P M2))
set_option maxHeartbeats 4000000 in
set_option maxRecDepth 100000 in
theorem c_X2_init (l : Launch) (E : EV) (M : Mm) (x0 : Nat) (x1 : Int32) (P : Mm → Prop) (h : w_X2_init M x0 x1 P) : CtV l E yX2_init cX2_init 2 rm_X2_init 1 8 [.ref x0, .int x1] M P := by
  refine ctV_of (by decide +kernel) (Nat.le_of_ble_eq_true rfl) ?_
  intro p e s m args below meth c C hnm
  rw [w_X2_init] at h
  show J p l e rm_X2_init s m args below meth c (QV below E P args s 1 8) E 2 M 0 0 0 [(0, .ref x0), (1, .int x1)] []
  refine j_aload_n (pc := 0) C 0 dX2_init_0 rfl ?_
  refine j_objInit (pc := 1) C wd_142 wd_72 wd_73 dX2_init_1 (Nat.le_of_ble_eq_true rfl) (Nat.le_of_ble_eq_true rfl) ?_
  refine j_aload_n (pc := 4) C 0 dX2_init_4 rfl ?_
  refine j_iload_n (pc := 5) C 1 dX2_init_5 rfl ?_
  refine n_newl (pc := 6) C 8 wd_156 dX2_init_6 (Nat.le_of_ble_eq_true rfl) (Nat.le_of_ble_eq_true rfl) (Nat.le_of_ble_eq_true rfl) h (fun a1 M1 h => ?_)
  refine pf_X2_9 (pc := 8) C hnm dX2_init_8 h (fun M2 h => ?_)
  exact j_vret (pc := 11) C dX2_init_11 (Nat.le_of_ble_eq_true rfl) (Nat.le_of_ble_eq_true rfl) h
abbrev rm_X2_isFull : Room := { frames := 0, cells := 0, slots := 0, locals := 0 }
def w_X2_isFull (M : Mm) (x0 : Nat) (P : Int32 → Mm → Prop) : Prop := zk M x0 = 2 ∧ (zk M x0 = 2 ∧ ∃ a1, zR M x0 0 = some a1 ∧ zk M a1 = 11 ∧ (if (zI M x0 1) < (nI (zl M a1)) then ((0 : Int32) = 0 ∨ (0 : Int32) = 1) ∧ P (0 : Int32) M else ((1 : Int32) = 0 ∨ (1 : Int32) = 1) ∧ P (1 : Int32) M))
set_option maxHeartbeats 4000000 in
set_option maxRecDepth 100000 in
theorem c_X2_isFull (l : Launch) (E : EV) (M : Mm) (x0 : Nat) (P : Int32 → Mm → Prop) (h : w_X2_isFull M x0 P) : CtI l E yX2_isFull cX2_isFull 1 .boolean rm_X2_isFull 0 0 [.ref x0] M P := by
  refine ctI_of (by decide +kernel) (Nat.le_of_ble_eq_true rfl) ?_
  intro p e s m args below meth c C
  rw [w_X2_isFull] at h
  show J p l e rm_X2_isFull s m args below meth c (QI below E P args s 0 0) E 1 M 0 0 0 [(0, .ref x0)] []
  refine j_aload_n (pc := 0) C 0 dX2_isFull_0 rfl ?_
  refine gf_X2_15 (pc := 1) C dX2_isFull_1 h (fun h => ?_)
  refine j_aload_n (pc := 4) C 0 dX2_isFull_4 rfl ?_
  refine gf_X2_9 (pc := 5) C dX2_isFull_5 h (fun a1 h => ?_)
  refine j_alen (pc := 8) (k := 11) C (by decide) dX2_isFull_8 h (fun h => ?_)
  refine j_icmp_lt (pc := 9) C 16 dX2_isFull_9 (by decide) h (fun h => ?_) (fun h => ?_)
  · refine j_iconst (pc := 16) (v := (0 : Int32)) C dX2_isFull_16 rfl ?_
    exact j_zret (pc := 17) C dX2_isFull_17 (Nat.le_of_ble_eq_true rfl) (Nat.le_of_ble_eq_true rfl) h
  · refine j_iconst (pc := 12) (v := (1 : Int32)) C dX2_isFull_12 rfl ?_
    refine j_goto (pc := 13) C 17 dX2_isFull_13 (by decide) ?_
    exact j_zret (pc := 17) C dX2_isFull_17 (Nat.le_of_ble_eq_true rfl) (Nat.le_of_ble_eq_true rfl) h
abbrev rm_X2_numberOf : Room := { frames := 0, cells := 0, slots := 0, locals := 0 }
def l_X2_numberOf_2 (P : Int32 → Mm → Prop) (K21 : Mm → Int32 → Prop) (K29 : Mm → Prop) : Nat → Mm → Nat → Int64 → Int32 → Prop
  | 0, _, _, _, _ => False
  | n + 1, M, x0, x1, x3 => zk M x0 = 2 ∧ (if (zI M x0 1) ≤ x3 then K29 M else (zk M x0 = 2 ∧ ∃ a1, zR M x0 0 = some a1 ∧ zk M a1 = 11 ∧ vp_in x3 (zl M a1) ∧ (if (lg_cmp (zJ M a1 x3.toNatClampNeg) x1) = 0 then K21 M x3 else l_X2_numberOf_2 P K21 K29 n M x0 x1 (x3 + (1 : Int32)))))
set_option maxHeartbeats 4000000 in
set_option maxRecDepth 100000 in
theorem jl_X2_numberOf_2 {P : Int32 → Mm → Prop} {K21 : Mm → Int32 → Prop} {K29 : Mm → Prop} (C : Cx p l s m args meth c cX2_numberOf 4 RX2 (some .int) E) (hkc : kc ≤ rm_X2_numberOf.cells ∧ ks ≤ rm_X2_numberOf.slots) (k21 : ∀ M x3, K21 M x3 → J p l e rm_X2_numberOf s m args below meth c (QI below E P args s rm_X2_numberOf.cells rm_X2_numberOf.slots) E 4 M kc ks 21 [(3, .int x3)] []) (k29 : ∀ M, K29 M → J p l e rm_X2_numberOf s m args below meth c (QI below E P args s rm_X2_numberOf.cells rm_X2_numberOf.slots) E 4 M kc ks 29 [] []) : ∀ n M x0 x1 x3, l_X2_numberOf_2 P K21 K29 n M x0 x1 x3 → J p l e rm_X2_numberOf s m args below meth c (QI below E P args s rm_X2_numberOf.cells rm_X2_numberOf.slots) E 4 M kc ks 2 [(0, .ref x0), (1, .long x1), (3, .int x3)] [] := by
  intro n
  induction n with
  | zero => intro M x0 x1 x3 h; exact h.elim
  | succ n ih =>
    intro M x0 x1 x3 h
    rw [l_X2_numberOf_2] at h
    refine j_iload_n (pc := 2) C 2 dX2_numberOf_2 rfl ?_
    refine j_aload_n (pc := 3) C 0 dX2_numberOf_3 rfl ?_
    refine gf_X2_15 (pc := 4) C dX2_numberOf_4 h (fun h => ?_)
    refine j_icmp_ge (pc := 7) C 29 dX2_numberOf_7 (by decide) h (fun h => ?_) (fun h => ?_)
    · exact j_weak [] rfl (k29 _ h)
    · refine j_aload_n (pc := 10) C 0 dX2_numberOf_10 rfl ?_
      refine gf_X2_9 (pc := 11) C dX2_numberOf_11 h (fun a1 h => ?_)
      refine j_iload_n (pc := 14) C 2 dX2_numberOf_14 rfl ?_
      refine j_lald (pc := 15) C dX2_numberOf_15 h (fun h => ?_)
      refine j_lload_n (pc := 16) C 1 dX2_numberOf_16 rfl ?_
      refine j_lcmp (pc := 17) C dX2_numberOf_17 ?_
      refine j_if_ne (pc := 18) C 23 dX2_numberOf_18 (by decide) h (fun h => ?_) (fun h => ?_)
      · refine j_iinc (pc := 23) (v := (1 : Int32)) C 2 [(3, _), (0, _), (1, _)] dX2_numberOf_23 rfl rfl (by decide) rfl ?_
        refine j_goto (pc := 26) C 2 dX2_numberOf_26 (by decide) ?_
        exact j_weak [1, 2, 0] rfl (ih _ _ _ _ h)
      · exact j_weak [2] rfl (k21 _ _ h)
def w_X2_numberOf (M : Mm) (x0 : Nat) (x1 : Int64) (P : Int32 → Mm → Prop) : Prop := (∃ n2, l_X2_numberOf_2 P (fun M2 x3_2 => P x3_2 M2) (fun M3 => P (-1 : Int32) M3) n2 M x0 x1 (0 : Int32))
set_option maxHeartbeats 4000000 in
set_option maxRecDepth 100000 in
theorem c_X2_numberOf (l : Launch) (E : EV) (M : Mm) (x0 : Nat) (x1 : Int64) (P : Int32 → Mm → Prop) (h : w_X2_numberOf M x0 x1 P) : CtI l E yX2_numberOf cX2_numberOf 4 .int rm_X2_numberOf 0 0 [.ref x0, .long x1] M P := by
  refine ctI_of (by decide +kernel) (Nat.le_of_ble_eq_true rfl) ?_
  intro p e s m args below meth c C
  rw [w_X2_numberOf] at h
  show J p l e rm_X2_numberOf s m args below meth c (QI below E P args s 0 0) E 4 M 0 0 0 [(0, .ref x0), (1, .long x1)] []
  refine j_iconst (pc := 0) (v := (0 : Int32)) C dX2_numberOf_0 rfl ?_
  refine j_istore_n (pc := 1) C [(3, _), (0, _), (1, _)] dX2_numberOf_1 (by decide) rfl ?_
  obtain ⟨n2, h⟩ := h
  refine j_weak [1, 2, 0] rfl (jl_X2_numberOf_2 C ⟨Nat.le_of_ble_eq_true rfl, Nat.le_of_ble_eq_true rfl⟩ (fun M2 x3_2 h => ?_) (fun M3 h => ?_) n2 _ _ _ _ h)
  · refine j_iload_n (pc := 21) C 0 dX2_numberOf_21 rfl ?_
    exact j_iret (pc := 22) C dX2_numberOf_22 (Nat.le_of_ble_eq_true rfl) (Nat.le_of_ble_eq_true rfl) h
  · refine j_iconst (pc := 29) (v := (-1 : Int32)) C dX2_numberOf_29 rfl ?_
    exact j_iret (pc := 30) C dX2_numberOf_30 (Nat.le_of_ble_eq_true rfl) (Nat.le_of_ble_eq_true rfl) h
abbrev rm_X2_add : Room := { frames := 0, cells := 0, slots := 0, locals := 0 }
def w_X2_add (M : Mm) (x0 : Nat) (x1 : Int64) (P : Int32 → Mm → Prop) : Prop := (zk M x0 = 2 ∧ ∃ a1, zR M x0 0 = some a1 ∧ zk M x0 = 2 ∧ zk M a1 = 11 ∧ vp_in (zI M x0 1) (zl M a1) ∧ (∀ M2, M2 = sJ M a1 (zI M x0 1).toNatClampNeg x1 → zk M2 x0 = 2 ∧ zk M2 x0 = 2 ∧ (∀ M3, M3 = sI M2 x0 1 ((zI M2 x0 1) + (1 : Int32)) → zk M3 x0 = 2 ∧ P ((zI M3 x0 1) - (1 : Int32)) M3)))
set_option maxHeartbeats 4000000 in
set_option maxRecDepth 100000 in
theorem c_X2_add (l : Launch) (E : EV) (M : Mm) (x0 : Nat) (x1 : Int64) (P : Int32 → Mm → Prop) (h : w_X2_add M x0 x1 P) : CtI l E yX2_add cX2_add 3 .int rm_X2_add 0 0 [.ref x0, .long x1] M P := by
  refine ctI_of (by decide +kernel) (Nat.le_of_ble_eq_true rfl) ?_
  intro p e s m args below meth c C
  rw [w_X2_add] at h
  show J p l e rm_X2_add s m args below meth c (QI below E P args s 0 0) E 3 M 0 0 0 [(0, .ref x0), (1, .long x1)] []
  refine j_aload_n (pc := 0) C 0 dX2_add_0 rfl ?_
  refine gf_X2_9 (pc := 1) C dX2_add_1 h (fun a1 h => ?_)
  refine j_aload_n (pc := 4) C 0 dX2_add_4 rfl ?_
  refine gf_X2_15 (pc := 5) C dX2_add_5 h (fun h => ?_)
  refine j_lload_n (pc := 8) C 1 dX2_add_8 rfl ?_
  refine n_last (pc := 9) C dX2_add_9 h (fun M2 h => ?_)
  refine j_aload_n (pc := 10) C 0 dX2_add_10 rfl ?_
  refine j_dup (pc := 11) C dX2_add_11 rfl ?_
  refine gf_X2_15 (pc := 12) C dX2_add_12 h (fun h => ?_)
  refine j_iconst (pc := 15) (v := (1 : Int32)) C dX2_add_15 rfl ?_
  refine j_iadd (pc := 16) C dX2_add_16 ?_
  refine pf_X2_15 (pc := 17) C dX2_add_17 h (fun M3 h => ?_)
  refine j_aload_n (pc := 20) C 0 dX2_add_20 rfl ?_
  refine gf_X2_15 (pc := 21) C dX2_add_21 h (fun h => ?_)
  refine j_iconst (pc := 24) (v := (1 : Int32)) C dX2_add_24 rfl ?_
  refine j_isub (pc := 25) C dX2_add_25 ?_
  exact j_iret (pc := 26) C dX2_add_26 (Nat.le_of_ble_eq_true rfl) (Nat.le_of_ble_eq_true rfl) h
end GW1
