/-! written by a program (wip/p34/gen.py) out of the decode rows and the tables: walks of the law -/

section GL5
variable {p : Program} {l : Launch} {e : Env} {R : Room} {s : State} {m : MethodId} {args : Array Value} {below : List Frame} {meth : Method} {c : Code} {Q : State → Prop} {cc : ByteArray} {nL : Nat} {ret : Option FieldType} {E : EV} {M : Mm} {kc ks pc : Nat} {lo : List (Nat × Value)} {st : List Value}
abbrev rm_J0_coder_7d493_S : Room := { frames := 0, cells := 0, slots := 0, locals := 0 }
def w_J0_coder_7d493_S (M : Mm) (x0 : Nat) (P : Int32 → Mm → Prop) : Prop := x0 < 12 ∧ narrow .byte (.int (0 : Int32)) = .int (0 : Int32) ∧ P (0 : Int32) M
set_option maxHeartbeats 4000000 in
set_option maxRecDepth 100000 in
theorem c_J0_coder_7d493_S (l : Launch) (E : EV) (M : Mm) (x0 : Nat) (P : Int32 → Mm → Prop) (h : w_J0_coder_7d493_S M x0 P) : CtI l E yJ0_coder_7d493 cJ0_coder_7d493 1 .byte rm_J0_coder_7d493_S 0 0 [.ref (E.2.2.2.1 x0)] M P := by
  refine ctI_of (by decide +kernel) (Nat.le_of_ble_eq_true rfl) ?_
  intro p e s m args below meth c C
  rw [w_J0_coder_7d493_S] at h
  show J p l e rm_J0_coder_7d493_S s m args below meth c (QI below E P args s 0 0) E 1 M 0 0 0 [(0, .ref (E.2.2.2.1 x0))] []
  refine j_scs (pc := 0) C wd_501 dJ0_coder_7d493_0 ?_
  refine j_if_eq (pc := 3) (A := False) (B := True) C 13 dJ0_coder_7d493_3 (by decide) (by first | rw [if_pos (by decide)] ; trivial | rw [if_neg (by decide)] ; trivial) (fun z => z.elim) (fun _ => ?_)
  refine j_aload_n (pc := 6) C 0 dJ0_coder_7d493_6 rfl ?_
  refine j_scod2 (pc := 7) C wd_601 dJ0_coder_7d493_7 h (fun h => ?_)
  refine j_goto (pc := 10) C 14 dJ0_coder_7d493_10 (by decide) ?_
  exact j_bret (pc := 14) C dJ0_coder_7d493_14 (Nat.le_of_ble_eq_true rfl) (Nat.le_of_ble_eq_true rfl) h
abbrev rm_J0_coder_7d493_A : Room := { frames := 0, cells := 0, slots := 0, locals := 0 }
def w_J0_coder_7d493_A (M : Mm) (x0 : Nat) (P : Int32 → Mm → Prop) : Prop := zk M x0 = 17 ∧ narrow .byte (.int (zI M x0 1)) = .int (zI M x0 1) ∧ P (zI M x0 1) M
set_option maxHeartbeats 4000000 in
set_option maxRecDepth 100000 in
theorem c_J0_coder_7d493_A (l : Launch) (E : EV) (M : Mm) (x0 : Nat) (P : Int32 → Mm → Prop) (h : w_J0_coder_7d493_A M x0 P) : CtI l E yJ0_coder_7d493 cJ0_coder_7d493 1 .byte rm_J0_coder_7d493_A 0 0 [.ref x0] M P := by
  refine ctI_of (by decide +kernel) (Nat.le_of_ble_eq_true rfl) ?_
  intro p e s m args below meth c C
  rw [w_J0_coder_7d493_A] at h
  show J p l e rm_J0_coder_7d493_A s m args below meth c (QI below E P args s 0 0) E 1 M 0 0 0 [(0, .ref x0)] []
  refine j_scs (pc := 0) C wd_501 dJ0_coder_7d493_0 ?_
  refine j_if_eq (pc := 3) (A := False) (B := True) C 13 dJ0_coder_7d493_3 (by decide) (by first | rw [if_pos (by decide)] ; trivial | rw [if_neg (by decide)] ; trivial) (fun z => z.elim) (fun _ => ?_)
  refine j_aload_n (pc := 6) C 0 dJ0_coder_7d493_6 rfl ?_
  refine gf_J0_15 (pc := 7) C dJ0_coder_7d493_7 h (fun h => ?_)
  refine j_goto (pc := 10) C 14 dJ0_coder_7d493_10 (by decide) ?_
  exact j_bret (pc := 14) C dJ0_coder_7d493_14 (Nat.le_of_ble_eq_true rfl) (Nat.le_of_ble_eq_true rfl) h
theorem c2_J0_335_S (C : Cx p l s m args meth c cc nL RJ0 ret E) {b : Nat} {P : Int32 → Mm → Prop} (hR : rm_J0_coder_7d493_S.frames + 1 ≤ R.frames ∧ 8 + (1 + 11) + rm_J0_coder_7d493_S.locals ≤ R.locals) (hf : kc ≤ R.cells ∧ ks ≤ R.slots) (hst : (st.map fun v => v.category).sum ≤ 8) (d : decode cc pc = .ok (.invokevirtual 335, 3)) (h : b < 12 ∧ w_J0_coder_7d493_S M b P) (kk : ∀ r M', P r M' → J p l e R s m args below meth c Q E nL M' kc ks (pc + 3) lo (.int r :: st)) : J p l e R s m args below meth c Q E nL M kc ks pc lo (.ref (E.2.2.2.1 b) :: st) :=
  j_cVs_I (n := 0) (As := []) C h.1 wd_498 wd_499 (c_J0_coder_7d493_S l E M b P h.2) ⟨wd_500, wd_497, wd_47, by decide +kernel, by decide +kernel, by decide +kernel⟩ rfl rfl hR hf rfl hst d kk
abbrev rm_J0_length_8abf5_S : Room := { frames := 1, cells := 0, slots := 0, locals := 20 }
def w_J0_length_8abf5_S (M : Mm) (x0 : Nat) (P : Int32 → Mm → Prop) : Prop := x0 < 12 ∧ x0 < 12 ∧ x0 < 12 ∧ w_J0_coder_7d493_S M x0 (fun r1 M1 => P ((nI (zLen.getD x0 0)) >>> (r1 &&& 31)) M1)
set_option maxHeartbeats 4000000 in
set_option maxRecDepth 100000 in
theorem c_J0_length_8abf5_S (l : Launch) (E : EV) (M : Mm) (x0 : Nat) (P : Int32 → Mm → Prop) (h : w_J0_length_8abf5_S M x0 P) : CtI l E yJ0_length_8abf5 cJ0_length_8abf5 1 .int rm_J0_length_8abf5_S 0 0 [.ref (E.2.2.2.1 x0)] M P := by
  refine ctI_of (by decide +kernel) (Nat.le_of_ble_eq_true rfl) ?_
  intro p e s m args below meth c C
  rw [w_J0_length_8abf5_S] at h
  show J p l e rm_J0_length_8abf5_S s m args below meth c (QI below E P args s 0 0) E 1 M 0 0 0 [(0, .ref (E.2.2.2.1 x0))] []
  refine j_aload_n (pc := 0) C 0 dJ0_length_8abf5_0 rfl ?_
  refine j_sval2 (pc := 1) C wd_600 dJ0_length_8abf5_1 h (fun h => ?_)
  refine j_slen2 (pc := 4) C dJ0_length_8abf5_4 h (fun h => ?_)
  refine j_aload_n (pc := 5) C 0 dJ0_length_8abf5_5 rfl ?_
  refine c2_J0_335_S (pc := 6) C ⟨(Nat.le_of_ble_eq_true rfl), (Nat.le_of_ble_eq_true rfl)⟩ ⟨Nat.le_of_ble_eq_true rfl, Nat.le_of_ble_eq_true rfl⟩ (Nat.le_of_ble_eq_true rfl) dJ0_length_8abf5_6 h (fun r1 M1 h => ?_)
  refine j_ishr (pc := 9) C dJ0_length_8abf5_9 ?_
  exact j_iret (pc := 10) C dJ0_length_8abf5_10 (Nat.le_of_ble_eq_true rfl) (Nat.le_of_ble_eq_true rfl) h
theorem c2_J0_335_A (C : Cx p l s m args meth c cc nL RJ0 ret E) {b : Nat} {P : Int32 → Mm → Prop} (hR : rm_J0_coder_7d493_A.frames + 1 ≤ R.frames ∧ 8 + (1 + 11) + rm_J0_coder_7d493_A.locals ≤ R.locals) (hf : kc ≤ R.cells ∧ ks ≤ R.slots) (hst : (st.map fun v => v.category).sum ≤ 8) (d : decode cc pc = .ok (.invokevirtual 335, 3)) (h : zk M b = 17 ∧ w_J0_coder_7d493_A M b P) (kk : ∀ r M', P r M' → J p l e R s m args below meth c Q E nL M' kc ks (pc + 3) lo (.int r :: st)) : J p l e R s m args below meth c Q E nL M kc ks pc lo (.ref b :: st) :=
  j_cV_I (n := 0) (As := []) C co_J0 rfl wd_498 wd_499 h.1 (c_J0_coder_7d493_A l E M b P h.2) ⟨wd_500, wd_497, wd_47, by decide +kernel, by decide +kernel, by decide +kernel⟩ rfl rfl hR hf rfl hst d kk
abbrev rm_J0_length_8abf5_A : Room := { frames := 1, cells := 0, slots := 0, locals := 20 }
def w_J0_length_8abf5_A (M : Mm) (x0 : Nat) (P : Int32 → Mm → Prop) : Prop := (zk M x0 = 17 ∧ ∃ a1, zR M x0 0 = some a1 ∧ zk M a1 = 9 ∧ zk M x0 = 17 ∧ w_J0_coder_7d493_A M x0 (fun r2 M2 => P ((nI (zl M a1)) >>> (r2 &&& 31)) M2))
set_option maxHeartbeats 4000000 in
set_option maxRecDepth 100000 in
theorem c_J0_length_8abf5_A (l : Launch) (E : EV) (M : Mm) (x0 : Nat) (P : Int32 → Mm → Prop) (h : w_J0_length_8abf5_A M x0 P) : CtI l E yJ0_length_8abf5 cJ0_length_8abf5 1 .int rm_J0_length_8abf5_A 0 0 [.ref x0] M P := by
  refine ctI_of (by decide +kernel) (Nat.le_of_ble_eq_true rfl) ?_
  intro p e s m args below meth c C
  rw [w_J0_length_8abf5_A] at h
  show J p l e rm_J0_length_8abf5_A s m args below meth c (QI below E P args s 0 0) E 1 M 0 0 0 [(0, .ref x0)] []
  refine j_aload_n (pc := 0) C 0 dJ0_length_8abf5_0 rfl ?_
  refine gf_J0_9 (pc := 1) C dJ0_length_8abf5_1 h (fun a1 h => ?_)
  refine j_alen (pc := 4) (k := 9) C (by decide) dJ0_length_8abf5_4 h (fun h => ?_)
  refine j_aload_n (pc := 5) C 0 dJ0_length_8abf5_5 rfl ?_
  refine c2_J0_335_A (pc := 6) C ⟨(Nat.le_of_ble_eq_true rfl), (Nat.le_of_ble_eq_true rfl)⟩ ⟨Nat.le_of_ble_eq_true rfl, Nat.le_of_ble_eq_true rfl⟩ (Nat.le_of_ble_eq_true rfl) dJ0_length_8abf5_6 h (fun r2 M2 h => ?_)
  refine j_ishr (pc := 9) C dJ0_length_8abf5_9 ?_
  exact j_iret (pc := 10) C dJ0_length_8abf5_10 (Nat.le_of_ble_eq_true rfl) (Nat.le_of_ble_eq_true rfl) h
abbrev rm_J0_getBytes_840e7_SAII : Room := { frames := 1, cells := 0, slots := 0, locals := 60 }
def w_J0_getBytes_840e7_SAII (M : Mm) (x0 : Nat) (x1 : Nat) (x2 : Int32) (x3 : Int32) (P : Mm → Prop) : Prop := x0 < 12 ∧ w_J0_coder_7d493_S M x0 (fun r1 M1 => (if r1 = x3 then x0 < 12 ∧ x0 < 12 ∧ x0 < 12 ∧ x0 < 12 ∧ zk M1 x1 = 9 ∧ ¬ (0 : Int32) < 0 ∧ ¬ (x2 <<< (x3 &&& 31)) < 0 ∧ ¬ (nI (zLen.getD x0 0)) < 0 ∧ (0 : Int32).toNatClampNeg + (nI (zLen.getD x0 0)).toNatClampNeg ≤ zLen.getD x0 0 ∧ (x2 <<< (x3 &&& 31)).toNatClampNeg + (nI (zLen.getD x0 0)).toNatClampNeg ≤ zl M1 x1 ∧ (∀ M2, M2 = sS M1 x0 (0 : Int32).toNatClampNeg x1 (x2 <<< (x3 &&& 31)).toNatClampNeg (nI (zLen.getD x0 0)).toNatClampNeg → P M2) else x0 < 12 ∧ x0 < 12 ∧ x0 < 12 ∧ False))
set_option maxHeartbeats 4000000 in
set_option maxRecDepth 100000 in
theorem c_J0_getBytes_840e7_SAII (l : Launch) (E : EV) (M : Mm) (x0 : Nat) (x1 : Nat) (x2 : Int32) (x3 : Int32) (P : Mm → Prop) (h : w_J0_getBytes_840e7_SAII M x0 x1 x2 x3 P) : CtV l E yJ0_getBytes_840e7 cJ0_getBytes_840e7 4 rm_J0_getBytes_840e7_SAII 0 0 [.ref (E.2.2.2.1 x0), .ref x1, .int x2, .int x3] M P := by
  refine ctV_of (by decide +kernel) (Nat.le_of_ble_eq_true rfl) ?_
  intro p e s m args below meth c C hnm
  rw [w_J0_getBytes_840e7_SAII] at h
  show J p l e rm_J0_getBytes_840e7_SAII s m args below meth c (QV below E P args s 0 0) E 4 M 0 0 0 [(0, .ref (E.2.2.2.1 x0)), (1, .ref x1), (2, .int x2), (3, .int x3)] []
  refine j_aload_n (pc := 0) C 0 dJ0_getBytes_840e7_0 rfl ?_
  refine c2_J0_335_S (pc := 1) C ⟨(Nat.le_of_ble_eq_true rfl), (Nat.le_of_ble_eq_true rfl)⟩ ⟨Nat.le_of_ble_eq_true rfl, Nat.le_of_ble_eq_true rfl⟩ (Nat.le_of_ble_eq_true rfl) dJ0_getBytes_840e7_1 h (fun r1 M1 h => ?_)
  refine j_iload_n (pc := 4) C 3 dJ0_getBytes_840e7_4 rfl ?_
  refine j_icmp_ne (pc := 5) C 28 dJ0_getBytes_840e7_5 (by decide) h (fun h => ?_) (fun h => ?_)
  · refine j_aload_n (pc := 28) C 0 dJ0_getBytes_840e7_28 rfl ?_
    refine j_sval2 (pc := 29) C wd_600 dJ0_getBytes_840e7_29 h (fun h => ?_)
    refine j_iconst (pc := 32) (v := (0 : Int32)) C dJ0_getBytes_840e7_32 rfl ?_
    refine j_aload_n (pc := 33) C 1 dJ0_getBytes_840e7_33 rfl ?_
    refine j_iload_n (pc := 34) C 2 dJ0_getBytes_840e7_34 rfl ?_
    refine j_aload_n (pc := 35) C 0 dJ0_getBytes_840e7_35 rfl ?_
    refine j_sval2 (pc := 36) C wd_600 dJ0_getBytes_840e7_36 h (fun h => ?_)
    refine j_slen2 (pc := 39) C dJ0_getBytes_840e7_39 h (fun h => ?_)
    exact h.elim
  · refine j_aload_n (pc := 8) C 0 dJ0_getBytes_840e7_8 rfl ?_
    refine j_sval2 (pc := 9) C wd_600 dJ0_getBytes_840e7_9 h (fun h => ?_)
    refine j_iconst (pc := 12) (v := (0 : Int32)) C dJ0_getBytes_840e7_12 rfl ?_
    refine j_aload_n (pc := 13) C 1 dJ0_getBytes_840e7_13 rfl ?_
    refine j_iload_n (pc := 14) C 2 dJ0_getBytes_840e7_14 rfl ?_
    refine j_iload_n (pc := 15) C 3 dJ0_getBytes_840e7_15 rfl ?_
    refine j_ishl (pc := 16) C dJ0_getBytes_840e7_16 ?_
    refine j_aload_n (pc := 17) C 0 dJ0_getBytes_840e7_17 rfl ?_
    refine j_sval2 (pc := 18) C wd_600 dJ0_getBytes_840e7_18 h (fun h => ?_)
    refine j_slen2 (pc := 21) C dJ0_getBytes_840e7_21 h (fun h => ?_)
    refine n_copyS (pc := 22) C wd_534 wd_461 wd_460 wd_53 dJ0_getBytes_840e7_22 (Nat.le_of_ble_eq_true rfl) (Nat.le_of_ble_eq_true rfl) h (fun M2 h => ?_)
    refine j_goto (pc := 25) C 43 dJ0_getBytes_840e7_25 (by decide) ?_
    exact j_vret (pc := 43) C dJ0_getBytes_840e7_43 (Nat.le_of_ble_eq_true rfl) (Nat.le_of_ble_eq_true rfl) h
abbrev rm_J0_getBytes_840e7_AAII : Room := { frames := 1, cells := 0, slots := 0, locals := 60 }
def w_J0_getBytes_840e7_AAII (M : Mm) (x0 : Nat) (x1 : Nat) (x2 : Int32) (x3 : Int32) (P : Mm → Prop) : Prop := zk M x0 = 17 ∧ w_J0_coder_7d493_A M x0 (fun r1 M1 => (if r1 = x3 then (zk M1 x0 = 17 ∧ ∃ a4, zR M1 x0 0 = some a4 ∧ (zk M1 x0 = 17 ∧ ∃ a5, zR M1 x0 0 = some a5 ∧ zk M1 a5 = 9 ∧ zk M1 a4 = 9 ∧ zk M1 x1 = 9 ∧ ¬ (0 : Int32) < 0 ∧ ¬ (x2 <<< (x3 &&& 31)) < 0 ∧ ¬ (nI (zl M1 a5)) < 0 ∧ (0 : Int32).toNatClampNeg + (nI (zl M1 a5)).toNatClampNeg ≤ zl M1 a4 ∧ (x2 <<< (x3 &&& 31)).toNatClampNeg + (nI (zl M1 a5)).toNatClampNeg ≤ zl M1 x1 ∧ (∀ i, i < (nI (zl M1 a5)).toNatClampNeg → fits .byte (.int (zI M1 a4 ((0 : Int32).toNatClampNeg + i))) = true) ∧ (∀ M6, M6 = sC M1 a4 (0 : Int32).toNatClampNeg x1 (x2 <<< (x3 &&& 31)).toNatClampNeg (nI (zl M1 a5)).toNatClampNeg → P M6))) else (zk M1 x0 = 17 ∧ ∃ a2, zR M1 x0 0 = some a2 ∧ (zk M1 x0 = 17 ∧ ∃ a3, zR M1 x0 0 = some a3 ∧ zk M1 a3 = 9 ∧ False))))
set_option maxHeartbeats 4000000 in
set_option maxRecDepth 100000 in
theorem c_J0_getBytes_840e7_AAII (l : Launch) (E : EV) (M : Mm) (x0 : Nat) (x1 : Nat) (x2 : Int32) (x3 : Int32) (P : Mm → Prop) (h : w_J0_getBytes_840e7_AAII M x0 x1 x2 x3 P) : CtV l E yJ0_getBytes_840e7 cJ0_getBytes_840e7 4 rm_J0_getBytes_840e7_AAII 0 0 [.ref x0, .ref x1, .int x2, .int x3] M P := by
  refine ctV_of (by decide +kernel) (Nat.le_of_ble_eq_true rfl) ?_
  intro p e s m args below meth c C hnm
  rw [w_J0_getBytes_840e7_AAII] at h
  show J p l e rm_J0_getBytes_840e7_AAII s m args below meth c (QV below E P args s 0 0) E 4 M 0 0 0 [(0, .ref x0), (1, .ref x1), (2, .int x2), (3, .int x3)] []
  refine j_aload_n (pc := 0) C 0 dJ0_getBytes_840e7_0 rfl ?_
  refine c2_J0_335_A (pc := 1) C ⟨(Nat.le_of_ble_eq_true rfl), (Nat.le_of_ble_eq_true rfl)⟩ ⟨Nat.le_of_ble_eq_true rfl, Nat.le_of_ble_eq_true rfl⟩ (Nat.le_of_ble_eq_true rfl) dJ0_getBytes_840e7_1 h (fun r1 M1 h => ?_)
  refine j_iload_n (pc := 4) C 3 dJ0_getBytes_840e7_4 rfl ?_
  refine j_icmp_ne (pc := 5) C 28 dJ0_getBytes_840e7_5 (by decide) h (fun h => ?_) (fun h => ?_)
  · refine j_aload_n (pc := 28) C 0 dJ0_getBytes_840e7_28 rfl ?_
    refine gf_J0_9 (pc := 29) C dJ0_getBytes_840e7_29 h (fun a2 h => ?_)
    refine j_iconst (pc := 32) (v := (0 : Int32)) C dJ0_getBytes_840e7_32 rfl ?_
    refine j_aload_n (pc := 33) C 1 dJ0_getBytes_840e7_33 rfl ?_
    refine j_iload_n (pc := 34) C 2 dJ0_getBytes_840e7_34 rfl ?_
    refine j_aload_n (pc := 35) C 0 dJ0_getBytes_840e7_35 rfl ?_
    refine gf_J0_9 (pc := 36) C dJ0_getBytes_840e7_36 h (fun a3 h => ?_)
    refine j_alen (pc := 39) (k := 9) C (by decide) dJ0_getBytes_840e7_39 h (fun h => ?_)
    exact h.elim
  · refine j_aload_n (pc := 8) C 0 dJ0_getBytes_840e7_8 rfl ?_
    refine gf_J0_9 (pc := 9) C dJ0_getBytes_840e7_9 h (fun a4 h => ?_)
    refine j_iconst (pc := 12) (v := (0 : Int32)) C dJ0_getBytes_840e7_12 rfl ?_
    refine j_aload_n (pc := 13) C 1 dJ0_getBytes_840e7_13 rfl ?_
    refine j_iload_n (pc := 14) C 2 dJ0_getBytes_840e7_14 rfl ?_
    refine j_iload_n (pc := 15) C 3 dJ0_getBytes_840e7_15 rfl ?_
    refine j_ishl (pc := 16) C dJ0_getBytes_840e7_16 ?_
    refine j_aload_n (pc := 17) C 0 dJ0_getBytes_840e7_17 rfl ?_
    refine gf_J0_9 (pc := 18) C dJ0_getBytes_840e7_18 h (fun a5 h => ?_)
    refine j_alen (pc := 21) (k := 9) C (by decide) dJ0_getBytes_840e7_21 h (fun h => ?_)
    refine n_copyb (pc := 22) C wd_534 wd_461 wd_460 wd_53 dJ0_getBytes_840e7_22 (Nat.le_of_ble_eq_true rfl) (Nat.le_of_ble_eq_true rfl) h (fun M6 h => ?_)
    refine j_goto (pc := 25) C 43 dJ0_getBytes_840e7_25 (by decide) ?_
    exact j_vret (pc := 43) C dJ0_getBytes_840e7_43 (Nat.le_of_ble_eq_true rfl) (Nat.le_of_ble_eq_true rfl) h
abbrev rm_J5_isLatin1_aae02 : Room := { frames := 0, cells := 0, slots := 0, locals := 0 }
def w_J5_isLatin1_aae02 (M : Mm) (x0 : Nat) (P : Int32 → Mm → Prop) : Prop := zk M x0 = 16 ∧ (if (zI M x0 1) = 0 then ((1 : Int32) = 0 ∨ (1 : Int32) = 1) ∧ P (1 : Int32) M else ((0 : Int32) = 0 ∨ (0 : Int32) = 1) ∧ P (0 : Int32) M)
set_option maxHeartbeats 4000000 in
set_option maxRecDepth 100000 in
theorem c_J5_isLatin1_aae02 (l : Launch) (E : EV) (M : Mm) (x0 : Nat) (P : Int32 → Mm → Prop) (h : w_J5_isLatin1_aae02 M x0 P) : CtI l E yJ5_isLatin1_aae02 cJ5_isLatin1_aae02 1 .boolean rm_J5_isLatin1_aae02 0 0 [.ref x0] M P := by
  refine ctI_of (by decide +kernel) (Nat.le_of_ble_eq_true rfl) ?_
  intro p e s m args below meth c C
  rw [w_J5_isLatin1_aae02] at h
  show J p l e rm_J5_isLatin1_aae02 s m args below meth c (QI below E P args s 0 0) E 1 M 0 0 0 [(0, .ref x0)] []
  refine j_scs (pc := 0) C wd_307 dJ5_isLatin1_aae02_0 ?_
  refine j_if_eq (pc := 3) (A := False) (B := True) C 17 dJ5_isLatin1_aae02_3 (by decide) (by first | rw [if_pos (by decide)] ; trivial | rw [if_neg (by decide)] ; trivial) (fun z => z.elim) (fun _ => ?_)
  refine j_aload_n (pc := 6) C 0 dJ5_isLatin1_aae02_6 rfl ?_
  refine gf_J5_22 (pc := 7) C dJ5_isLatin1_aae02_7 h (fun h => ?_)
  refine j_if_ne (pc := 10) C 17 dJ5_isLatin1_aae02_10 (by decide) h (fun h => ?_) (fun h => ?_)
  · refine j_iconst (pc := 17) (v := (0 : Int32)) C dJ5_isLatin1_aae02_17 rfl ?_
    exact j_zret (pc := 18) C dJ5_isLatin1_aae02_18 (Nat.le_of_ble_eq_true rfl) (Nat.le_of_ble_eq_true rfl) h
  · refine j_iconst (pc := 13) (v := (1 : Int32)) C dJ5_isLatin1_aae02_13 rfl ?_
    refine j_goto (pc := 14) C 18 dJ5_isLatin1_aae02_14 (by decide) ?_
    exact j_zret (pc := 18) C dJ5_isLatin1_aae02_18 (Nat.le_of_ble_eq_true rfl) (Nat.le_of_ble_eq_true rfl) h
abbrev rm_J1_canEncode_fc78d : Room := { frames := 0, cells := 0, slots := 0, locals := 0 }
def w_J1_canEncode_fc78d (M : Mm) (x0 : Int32) (P : Int32 → Mm → Prop) : Prop := (if (255 : Int32) < x0 then ((0 : Int32) = 0 ∨ (0 : Int32) = 1) ∧ P (0 : Int32) M else ((1 : Int32) = 0 ∨ (1 : Int32) = 1) ∧ P (1 : Int32) M)
set_option maxHeartbeats 4000000 in
set_option maxRecDepth 100000 in
theorem c_J1_canEncode_fc78d (l : Launch) (E : EV) (M : Mm) (x0 : Int32) (P : Int32 → Mm → Prop) (h : w_J1_canEncode_fc78d M x0 P) : CtI l E yJ1_canEncode_fc78d cJ1_canEncode_fc78d 1 .boolean rm_J1_canEncode_fc78d 0 0 [.int x0] M P := by
  refine ctI_of (by decide +kernel) (Nat.le_of_ble_eq_true rfl) ?_
  intro p e s m args below meth c C
  rw [w_J1_canEncode_fc78d] at h
  show J p l e rm_J1_canEncode_fc78d s m args below meth c (QI below E P args s 0 0) E 1 M 0 0 0 [(0, .int x0)] []
  refine j_iload_n (pc := 0) C 0 dJ1_canEncode_fc78d_0 rfl ?_
  refine j_sipush (pc := 1) (v := (255 : Int32)) C dJ1_canEncode_fc78d_1 rfl ?_
  refine j_icmp_gt (pc := 4) C 11 dJ1_canEncode_fc78d_4 (by decide) h (fun h => ?_) (fun h => ?_)
  · refine j_iconst (pc := 11) (v := (0 : Int32)) C dJ1_canEncode_fc78d_11 rfl ?_
    exact j_zret (pc := 12) C dJ1_canEncode_fc78d_12 (Nat.le_of_ble_eq_true rfl) (Nat.le_of_ble_eq_true rfl) h
  · refine j_iconst (pc := 7) (v := (1 : Int32)) C dJ1_canEncode_fc78d_7 rfl ?_
    refine j_goto (pc := 8) C 12 dJ1_canEncode_fc78d_8 (by decide) ?_
    exact j_zret (pc := 12) C dJ1_canEncode_fc78d_12 (Nat.le_of_ble_eq_true rfl) (Nat.le_of_ble_eq_true rfl) h
abbrev rm_J8_newLength_cabcc : Room := { frames := 1, cells := 0, slots := 0, locals := 22 }
def w_J8_newLength_cabcc (M : Mm) (x0 : Int32) (x1 : Int32) (x2 : Int32) (P : Int32 → Mm → Prop) : Prop := (if (x0 + (if x1 < x2 then x2 else x1)) ≤ (0 : Int32) then False else (if (2147483639 : Int32) < (x0 + (if x1 < x2 then x2 else x1)) then False else P (x0 + (if x1 < x2 then x2 else x1)) M))
set_option maxHeartbeats 4000000 in
set_option maxRecDepth 100000 in
theorem c_J8_newLength_cabcc (l : Launch) (E : EV) (M : Mm) (x0 : Int32) (x1 : Int32) (x2 : Int32) (P : Int32 → Mm → Prop) (h : w_J8_newLength_cabcc M x0 x1 x2 P) : CtI l E yJ8_newLength_cabcc cJ8_newLength_cabcc 4 .int rm_J8_newLength_cabcc 0 0 [.int x0, .int x1, .int x2] M P := by
  refine ctI_of (by decide +kernel) (Nat.le_of_ble_eq_true rfl) ?_
  intro p e s m args below meth c C
  rw [w_J8_newLength_cabcc] at h
  show J p l e rm_J8_newLength_cabcc s m args below meth c (QI below E P args s 0 0) E 4 M 0 0 0 [(0, .int x0), (1, .int x1), (2, .int x2)] []
  refine j_iload_n (pc := 0) C 0 dJ8_newLength_cabcc_0 rfl ?_
  refine j_iload_n (pc := 1) C 1 dJ8_newLength_cabcc_1 rfl ?_
  refine j_iload_n (pc := 2) C 2 dJ8_newLength_cabcc_2 rfl ?_
  refine j_mmax (pc := 3) C wd_438 wd_439 wd_51 wd_440 dJ8_newLength_cabcc_3 (Nat.le_of_ble_eq_true rfl) (Nat.le_of_ble_eq_true rfl) ⟨Nat.le_of_ble_eq_true rfl, Nat.le_of_ble_eq_true rfl⟩ ?_
  refine j_iadd (pc := 6) C dJ8_newLength_cabcc_6 ?_
  refine j_istore_n (pc := 7) C [(3, _), (0, _), (1, _), (2, _)] dJ8_newLength_cabcc_7 (by decide) rfl ?_
  refine j_iconst (pc := 8) (v := (0 : Int32)) C dJ8_newLength_cabcc_8 rfl ?_
  refine j_iload_n (pc := 9) C 0 dJ8_newLength_cabcc_9 rfl ?_
  refine j_icmp_ge (pc := 10) C 21 dJ8_newLength_cabcc_10 (by decide) h (fun h => ?_) (fun h => ?_)
  · refine j_iload_n (pc := 21) C 1 dJ8_newLength_cabcc_21 rfl ?_
    refine j_iload_n (pc := 22) C 2 dJ8_newLength_cabcc_22 rfl ?_
    exact h.elim
  · refine j_iload_n (pc := 13) C 0 dJ8_newLength_cabcc_13 rfl ?_
    refine j_ldci (pc := 14) C wd_441 dJ8_newLength_cabcc_14 ?_
    refine j_icmp_gt (pc := 16) C 21 dJ8_newLength_cabcc_16 (by decide) h (fun h => ?_) (fun h => ?_)
    · refine j_iload_n (pc := 21) C 1 dJ8_newLength_cabcc_21 rfl ?_
      refine j_iload_n (pc := 22) C 2 dJ8_newLength_cabcc_22 rfl ?_
      exact h.elim
    · refine j_iload_n (pc := 19) C 0 dJ8_newLength_cabcc_19 rfl ?_
      exact j_iret (pc := 20) C dJ8_newLength_cabcc_20 (Nat.le_of_ble_eq_true rfl) (Nat.le_of_ble_eq_true rfl) h
abbrev rm_J7_copyOf_9075b : Room := { frames := 1, cells := 1, slots := 1400, locals := 60 }
def w_J7_copyOf_9075b (M : Mm) (x0 : Nat) (x1 : Int32) (P : Option Nat → Mm → Prop) : Prop := zk M x0 = 9 ∧ (if x1 = (nI (zl M x0)) then zk M x0 = 9 ∧ zl M x0 ≤ 1400 ∧ (∀ i, i < zl M x0 → fits .byte (.int (zI M x0 i)) = true) ∧ (∀ a3 M3, a3 = zn M → M3 = sK M x0 → zk M3 a3 = 9 ∧ P (some a3) M3) else ¬ x1 < 0 ∧ x1.toNatClampNeg ≤ 1400 ∧ (∀ a1 M1, a1 = zn M → M1 = sN M 9 x1.toNatClampNeg → zk M1 x0 = 9 ∧ zk M1 x0 = 9 ∧ zk M1 a1 = 9 ∧ ¬ (0 : Int32) < 0 ∧ ¬ (0 : Int32) < 0 ∧ ¬ (if x1 < (nI (zl M1 x0)) then x1 else (nI (zl M1 x0))) < 0 ∧ (0 : Int32).toNatClampNeg + (if x1 < (nI (zl M1 x0)) then x1 else (nI (zl M1 x0))).toNatClampNeg ≤ zl M1 x0 ∧ (0 : Int32).toNatClampNeg + (if x1 < (nI (zl M1 x0)) then x1 else (nI (zl M1 x0))).toNatClampNeg ≤ zl M1 a1 ∧ (∀ i, i < (if x1 < (nI (zl M1 x0)) then x1 else (nI (zl M1 x0))).toNatClampNeg → fits .byte (.int (zI M1 x0 ((0 : Int32).toNatClampNeg + i))) = true) ∧ (∀ M2, M2 = sC M1 x0 (0 : Int32).toNatClampNeg a1 (0 : Int32).toNatClampNeg (if x1 < (nI (zl M1 x0)) then x1 else (nI (zl M1 x0))).toNatClampNeg → P (some a1) M2)))
set_option maxHeartbeats 4000000 in
set_option maxRecDepth 100000 in
theorem c_J7_copyOf_9075b (l : Launch) (E : EV) (M : Mm) (x0 : Nat) (x1 : Int32) (P : Option Nat → Mm → Prop) (h : w_J7_copyOf_9075b M x0 x1 P) : CtN l E yJ7_copyOf_9075b cJ7_copyOf_9075b 3 (.array .byte) rm_J7_copyOf_9075b 1 1400 [.ref x0, .int x1] M P := by
  refine ctN_of (by decide +kernel) (Nat.le_of_ble_eq_true rfl) ?_
  intro p e s m args below meth c C
  rw [w_J7_copyOf_9075b] at h
  show J p l e rm_J7_copyOf_9075b s m args below meth c (QN below E P args s 1 1400) E 3 M 0 0 0 [(0, .ref x0), (1, .int x1)] []
  refine j_iload_n (pc := 0) C 1 dJ7_copyOf_9075b_0 rfl ?_
  refine j_aload_n (pc := 1) C 0 dJ7_copyOf_9075b_1 rfl ?_
  refine j_alen (pc := 2) (k := 9) C (by decide) dJ7_copyOf_9075b_2 h (fun h => ?_)
  refine j_icmp_ne (pc := 3) C 14 dJ7_copyOf_9075b_3 (by decide) h (fun h => ?_) (fun h => ?_)
  · refine j_iload_n (pc := 14) C 1 dJ7_copyOf_9075b_14 rfl ?_
    refine n_newb (pc := 15) C 1400 wd_91 dJ7_copyOf_9075b_15 (Nat.le_of_ble_eq_true rfl) (Nat.le_of_ble_eq_true rfl) (Nat.le_of_ble_eq_true rfl) h (fun a1 M1 h => ?_)
    refine j_astore_n (pc := 17) C [(2, _), (0, _), (1, _)] dJ7_copyOf_9075b_17 (by decide) rfl ?_
    refine j_aload_n (pc := 18) C 1 dJ7_copyOf_9075b_18 rfl ?_
    refine j_iconst (pc := 19) (v := (0 : Int32)) C dJ7_copyOf_9075b_19 rfl ?_
    refine j_aload_n (pc := 20) C 0 dJ7_copyOf_9075b_20 rfl ?_
    refine j_iconst (pc := 21) (v := (0 : Int32)) C dJ7_copyOf_9075b_21 rfl ?_
    refine j_aload_n (pc := 22) C 1 dJ7_copyOf_9075b_22 rfl ?_
    refine j_alen (pc := 23) (k := 9) C (by decide) dJ7_copyOf_9075b_23 h (fun h => ?_)
    refine j_iload_n (pc := 24) C 2 dJ7_copyOf_9075b_24 rfl ?_
    refine j_mmin (pc := 25) C wd_456 wd_457 wd_51 wd_458 dJ7_copyOf_9075b_25 (Nat.le_of_ble_eq_true rfl) (Nat.le_of_ble_eq_true rfl) ⟨Nat.le_of_ble_eq_true rfl, Nat.le_of_ble_eq_true rfl⟩ ?_
    refine n_copyb (pc := 28) C wd_459 wd_461 wd_460 wd_53 dJ7_copyOf_9075b_28 (Nat.le_of_ble_eq_true rfl) (Nat.le_of_ble_eq_true rfl) h (fun M2 h => ?_)
    refine j_aload_n (pc := 31) C 0 dJ7_copyOf_9075b_31 rfl ?_
    exact j_nret (pc := 32) (some a1) (Or.inr ⟨_, rfl⟩) C dJ7_copyOf_9075b_32 (Nat.le_of_ble_eq_true rfl) (Nat.le_of_ble_eq_true rfl) h
  · refine j_aload_n (pc := 6) C 0 dJ7_copyOf_9075b_6 rfl ?_
    refine n_cloneb (pc := 7) C 1400 wd_449 wd_450 wd_451 wd_452 wd_453 nw_454 dJ7_copyOf_9075b_7 (Nat.le_of_ble_eq_true rfl) (Nat.le_of_ble_eq_true rfl) (Nat.le_of_ble_eq_true rfl) (Nat.le_of_ble_eq_true rfl) h (fun a3 M3 h => ?_)
    refine j_castB (pc := 10) C wd_455 dJ7_copyOf_9075b_10 h (fun h => ?_)
    exact j_nret (pc := 13) (some a3) (Or.inr ⟨_, rfl⟩) C dJ7_copyOf_9075b_13 (Nat.le_of_ble_eq_true rfl) (Nat.le_of_ble_eq_true rfl) h
theorem c2_J5_114 (C : Cx p l s m args meth c cc nL RJ5 ret E) {y0 : Int32} {y1 : Int32} {y2 : Int32} {P : Int32 → Mm → Prop} (hR : rm_J8_newLength_cabcc.frames + 1 ≤ R.frames ∧ 8 + (4 + 11) + rm_J8_newLength_cabcc.locals ≤ R.locals) (hf : kc ≤ R.cells ∧ ks ≤ R.slots) (hst : (st.map fun v => v.category).sum ≤ 8) (d : decode cc pc = .ok (.invokestatic 114, 3)) (h : w_J8_newLength_cabcc M y0 y1 y2 P) (kk : ∀ r M', P r M' → J p l e R s m args below meth c Q E nL M' kc ks (pc + 3) lo (.int r :: st)) : J p l e R s m args below meth c Q E nL M kc ks pc lo (.int y2 :: .int y1 :: .int y0 :: st) :=
  j_cS_I (n := 3) (As := [.int y0, .int y1, .int y2]) C wd_436 (c_J8_newLength_cabcc l E M y0 y1 y2 P h) ⟨wd_437, wd_435, wd_50, by decide +kernel, by decide +kernel, by decide +kernel⟩ rfl rfl hR hf rfl hst d kk
abbrev rm_J5_newCapacity_0f7a4 : Room := { frames := 2, cells := 0, slots := 0, locals := 45 }
def w_J5_newCapacity_0f7a4 (M : Mm) (x0 : Nat) (x1 : Int32) (P : Int32 → Mm → Prop) : Prop := (zk M x0 = 16 ∧ ∃ a1, zR M x0 0 = some a1 ∧ zk M a1 = 9 ∧ zk M x0 = 16 ∧ zk M x0 = 16 ∧ w_J8_newLength_cabcc M (nI (zl M a1)) ((x1 <<< ((zI M x0 1) &&& 31)) - (nI (zl M a1))) ((nI (zl M a1)) + ((2 : Int32) <<< ((zI M x0 1) &&& 31))) (fun r4 M4 => (if r4 = (2147483647 : Int32) then False else zk M4 x0 = 16 ∧ P (r4 >>> ((zI M4 x0 1) &&& 31)) M4)))
set_option maxHeartbeats 4000000 in
set_option maxRecDepth 100000 in
theorem c_J5_newCapacity_0f7a4 (l : Launch) (E : EV) (M : Mm) (x0 : Nat) (x1 : Int32) (P : Int32 → Mm → Prop) (h : w_J5_newCapacity_0f7a4 M x0 x1 P) : CtI l E yJ5_newCapacity_0f7a4 cJ5_newCapacity_0f7a4 6 .int rm_J5_newCapacity_0f7a4 0 0 [.ref x0, .int x1] M P := by
  refine ctI_of (by decide +kernel) (Nat.le_of_ble_eq_true rfl) ?_
  intro p e s m args below meth c C
  rw [w_J5_newCapacity_0f7a4] at h
  show J p l e rm_J5_newCapacity_0f7a4 s m args below meth c (QI below E P args s 0 0) E 6 M 0 0 0 [(0, .ref x0), (1, .int x1)] []
  refine j_aload_n (pc := 0) C 0 dJ5_newCapacity_0f7a4_0 rfl ?_
  refine gf_J5_15 (pc := 1) C dJ5_newCapacity_0f7a4_1 h (fun a1 h => ?_)
  refine j_alen (pc := 4) (k := 9) C (by decide) dJ5_newCapacity_0f7a4_4 h (fun h => ?_)
  refine j_istore_n (pc := 5) C [(2, _), (0, _), (1, _)] dJ5_newCapacity_0f7a4_5 (by decide) rfl ?_
  refine j_iload_n (pc := 6) C 2 dJ5_newCapacity_0f7a4_6 rfl ?_
  refine j_aload_n (pc := 7) C 1 dJ5_newCapacity_0f7a4_7 rfl ?_
  refine gf_J5_22 (pc := 8) C dJ5_newCapacity_0f7a4_8 h (fun h => ?_)
  refine j_ishl (pc := 11) C dJ5_newCapacity_0f7a4_11 ?_
  refine j_istore_n (pc := 12) C [(3, _), (2, _), (0, _), (1, _)] dJ5_newCapacity_0f7a4_12 (by decide) rfl ?_
  refine j_iload_n (pc := 13) C 0 dJ5_newCapacity_0f7a4_13 rfl ?_
  refine j_iload_n (pc := 14) C 1 dJ5_newCapacity_0f7a4_14 rfl ?_
  refine j_isub (pc := 15) C dJ5_newCapacity_0f7a4_15 ?_
  refine j_istore (pc := 16) C [(4, _), (3, _), (2, _), (0, _), (1, _)] dJ5_newCapacity_0f7a4_16 (by decide) rfl ?_
  refine j_iload_n (pc := 18) C 2 dJ5_newCapacity_0f7a4_18 rfl ?_
  refine j_iload (pc := 19) C 0 dJ5_newCapacity_0f7a4_19 rfl ?_
  refine j_iload_n (pc := 21) C 2 dJ5_newCapacity_0f7a4_21 rfl ?_
  refine j_iconst (pc := 22) (v := (2 : Int32)) C dJ5_newCapacity_0f7a4_22 rfl ?_
  refine j_aload_n (pc := 23) C 3 dJ5_newCapacity_0f7a4_23 rfl ?_
  refine gf_J5_22 (pc := 24) C dJ5_newCapacity_0f7a4_24 h (fun h => ?_)
  refine j_ishl (pc := 27) C dJ5_newCapacity_0f7a4_27 ?_
  refine j_iadd (pc := 28) C dJ5_newCapacity_0f7a4_28 ?_
  refine c2_J5_114 (pc := 29) C ⟨(Nat.le_of_ble_eq_true rfl), (Nat.le_of_ble_eq_true rfl)⟩ ⟨Nat.le_of_ble_eq_true rfl, Nat.le_of_ble_eq_true rfl⟩ (Nat.le_of_ble_eq_true rfl) dJ5_newCapacity_0f7a4_29 h (fun r4 M4 h => ?_)
  refine j_istore (pc := 32) C [(5, _), (4, _), (3, _), (2, _), (0, _), (1, _)] dJ5_newCapacity_0f7a4_32 (by decide) rfl ?_
  refine j_iload (pc := 34) C 0 dJ5_newCapacity_0f7a4_34 rfl ?_
  refine j_ldci (pc := 36) C wd_445 dJ5_newCapacity_0f7a4_36 ?_
  refine j_icmp_ne (pc := 38) C 51 dJ5_newCapacity_0f7a4_38 (by decide) h (fun h => ?_) (fun h => ?_)
  · refine j_iload (pc := 51) C 0 dJ5_newCapacity_0f7a4_51 rfl ?_
    refine j_aload_n (pc := 53) C 4 dJ5_newCapacity_0f7a4_53 rfl ?_
    refine gf_J5_22 (pc := 54) C dJ5_newCapacity_0f7a4_54 h (fun h => ?_)
    refine j_ishr (pc := 57) C dJ5_newCapacity_0f7a4_57 ?_
    exact j_iret (pc := 58) C dJ5_newCapacity_0f7a4_58 (Nat.le_of_ble_eq_true rfl) (Nat.le_of_ble_eq_true rfl) h
  · exact h.elim
theorem c2_J5_104 (C : Cx p l s m args meth c cc nL RJ5 ret E) {b : Nat} {y0 : Int32} {P : Int32 → Mm → Prop} (hR : rm_J5_newCapacity_0f7a4.frames + 1 ≤ R.frames ∧ 8 + (6 + 11) + rm_J5_newCapacity_0f7a4.locals ≤ R.locals) (hf : kc ≤ R.cells ∧ ks ≤ R.slots) (hst : (st.map fun v => v.category).sum ≤ 8) (d : decode cc pc = .ok (.invokevirtual 104, 3)) (h : zk M b = 16 ∧ w_J5_newCapacity_0f7a4 M b y0 P) (kk : ∀ r M', P r M' → J p l e R s m args below meth c Q E nL M' kc ks (pc + 3) lo (.int r :: st)) : J p l e R s m args below meth c Q E nL M kc ks pc lo (.int y0 :: .ref b :: st) :=
  j_cU_I (n := 1) (As := [.int y0]) C co_J4 h.1 (c_J5_newCapacity_0f7a4 l E M b y0 P h.2) (k_cu C wd_434 wd_431 wd_1387 wd_45 wd_433 (zPv_use C 1 rfl) rfl wd_433 wd_434 (by decide +kernel) rfl rfl hR) hf rfl hst d kk
theorem c2_J5_108 (C : Cx p l s m args meth c cc nL RJ5 ret E) {y0 : Nat} {y1 : Int32} {P : Option Nat → Mm → Prop} (hR : rm_J7_copyOf_9075b.frames + 1 ≤ R.frames ∧ 8 + (3 + 11) + rm_J7_copyOf_9075b.locals ≤ R.locals) (hf : kc + 1 ≤ R.cells ∧ ks + 1400 ≤ R.slots) (hst : (st.map fun v => v.category).sum ≤ 8) (d : decode cc pc = .ok (.invokestatic 108, 3)) (h : w_J7_copyOf_9075b M y0 y1 P) (kk : ∀ r M', P r M' → J p l e R s m args below meth c Q E nL M' (kc + 1) (ks + 1400) (pc + 3) lo (va_rf r :: st)) : J p l e R s m args below meth c Q E nL M kc ks pc lo (.int y1 :: .ref y0 :: st) :=
  j_cS_N (n := 2) (As := [.ref y0, .int y1]) C wd_447 (c_J7_copyOf_9075b l E M y0 y1 P h) ⟨wd_448, wd_446, wd_52, by decide +kernel, by decide +kernel, by decide +kernel⟩ rfl rfl hR hf rfl hst d kk
abbrev rm_J5_ensureCapacityInternal_d00df : Room := { frames := 3, cells := 1, slots := 1400, locals := 82 }
def w_J5_ensureCapacityInternal_d00df (M : Mm) (x0 : Nat) (x1 : Int32) (P : Mm → Prop) : Prop := (zk M x0 = 16 ∧ ∃ a1, zR M x0 0 = some a1 ∧ zk M a1 = 9 ∧ zk M x0 = 16 ∧ (if (x1 - ((nI (zl M a1)) >>> ((zI M x0 1) &&& 31))) ≤ 0 then P M else (zk M x0 = 16 ∧ ∃ a3, zR M x0 0 = some a3 ∧ zk M x0 = 16 ∧ w_J5_newCapacity_0f7a4 M x0 x1 (fun r4 M4 => zk M4 x0 = 16 ∧ w_J7_copyOf_9075b M4 a3 (r4 <<< ((zI M4 x0 1) &&& 31)) (fun r6 M6 => ∃ a6, r6 = some a6 ∧ zk M6 x0 = 16 ∧ (∀ M7, M7 = sR M6 x0 0 (some a6) → P M7))))))
set_option maxHeartbeats 4000000 in
set_option maxRecDepth 100000 in
theorem c_J5_ensureCapacityInternal_d00df (l : Launch) (E : EV) (M : Mm) (x0 : Nat) (x1 : Int32) (P : Mm → Prop) (h : w_J5_ensureCapacityInternal_d00df M x0 x1 P) : CtV l E yJ5_ensureCapacityInternal_d00df cJ5_ensureCapacityInternal_d00df 3 rm_J5_ensureCapacityInternal_d00df 1 1400 [.ref x0, .int x1] M P := by
  refine ctV_of (by decide +kernel) (Nat.le_of_ble_eq_true rfl) ?_
  intro p e s m args below meth c C hnm
  rw [w_J5_ensureCapacityInternal_d00df] at h
  show J p l e rm_J5_ensureCapacityInternal_d00df s m args below meth c (QV below E P args s 1 1400) E 3 M 0 0 0 [(0, .ref x0), (1, .int x1)] []
  refine j_aload_n (pc := 0) C 0 dJ5_ensureCapacityInternal_d00df_0 rfl ?_
  refine gf_J5_15 (pc := 1) C dJ5_ensureCapacityInternal_d00df_1 h (fun a1 h => ?_)
  refine j_alen (pc := 4) (k := 9) C (by decide) dJ5_ensureCapacityInternal_d00df_4 h (fun h => ?_)
  refine j_aload_n (pc := 5) C 0 dJ5_ensureCapacityInternal_d00df_5 rfl ?_
  refine gf_J5_22 (pc := 6) C dJ5_ensureCapacityInternal_d00df_6 h (fun h => ?_)
  refine j_ishr (pc := 9) C dJ5_ensureCapacityInternal_d00df_9 ?_
  refine j_istore_n (pc := 10) C [(2, _), (0, _), (1, _)] dJ5_ensureCapacityInternal_d00df_10 (by decide) rfl ?_
  refine j_iload_n (pc := 11) C 2 dJ5_ensureCapacityInternal_d00df_11 rfl ?_
  refine j_iload_n (pc := 12) C 0 dJ5_ensureCapacityInternal_d00df_12 rfl ?_
  refine j_isub (pc := 13) C dJ5_ensureCapacityInternal_d00df_13 ?_
  refine j_if_le (pc := 14) C 38 dJ5_ensureCapacityInternal_d00df_14 (by decide) h (fun h => ?_) (fun h => ?_)
  · exact j_vret (pc := 38) C dJ5_ensureCapacityInternal_d00df_38 (Nat.le_of_ble_eq_true rfl) (Nat.le_of_ble_eq_true rfl) h
  · refine j_aload_n (pc := 17) C 1 dJ5_ensureCapacityInternal_d00df_17 rfl ?_
    refine j_aload_n (pc := 18) C 1 dJ5_ensureCapacityInternal_d00df_18 rfl ?_
    refine gf_J5_15 (pc := 19) C dJ5_ensureCapacityInternal_d00df_19 h (fun a3 h => ?_)
    refine j_aload_n (pc := 22) C 1 dJ5_ensureCapacityInternal_d00df_22 rfl ?_
    refine j_iload_n (pc := 23) C 2 dJ5_ensureCapacityInternal_d00df_23 rfl ?_
    refine c2_J5_104 (pc := 24) C ⟨(Nat.le_of_ble_eq_true rfl), (Nat.le_of_ble_eq_true rfl)⟩ ⟨Nat.le_of_ble_eq_true rfl, Nat.le_of_ble_eq_true rfl⟩ (Nat.le_of_ble_eq_true rfl) dJ5_ensureCapacityInternal_d00df_24 h (fun r4 M4 h => ?_)
    refine j_aload_n (pc := 27) C 1 dJ5_ensureCapacityInternal_d00df_27 rfl ?_
    refine gf_J5_22 (pc := 28) C dJ5_ensureCapacityInternal_d00df_28 h (fun h => ?_)
    refine j_ishl (pc := 31) C dJ5_ensureCapacityInternal_d00df_31 ?_
    refine c2_J5_108 (pc := 32) C ⟨(Nat.le_of_ble_eq_true rfl), (Nat.le_of_ble_eq_true rfl)⟩ ⟨Nat.le_of_ble_eq_true rfl, Nat.le_of_ble_eq_true rfl⟩ (Nat.le_of_ble_eq_true rfl) dJ5_ensureCapacityInternal_d00df_32 h (fun r6 M6 h => ?_)
    obtain ⟨a6, rfl, h⟩ := h
    refine pf_J5_15 (pc := 35) C dJ5_ensureCapacityInternal_d00df_35 h (fun M7 h => ?_)
    exact j_vret (pc := 38) C dJ5_ensureCapacityInternal_d00df_38 (Nat.le_of_ble_eq_true rfl) (Nat.le_of_ble_eq_true rfl) h
theorem c2_J5_40_S (C : Cx p l s m args meth c cc nL RJ5 ret E) {b : Nat} {P : Int32 → Mm → Prop} (hR : rm_J0_coder_7d493_S.frames + 1 ≤ R.frames ∧ 8 + (1 + 11) + rm_J0_coder_7d493_S.locals ≤ R.locals) (hf : kc ≤ R.cells ∧ ks ≤ R.slots) (hst : (st.map fun v => v.category).sum ≤ 8) (d : decode cc pc = .ok (.invokevirtual 40, 3)) (h : b < 12 ∧ w_J0_coder_7d493_S M b P) (kk : ∀ r M', P r M' → J p l e R s m args below meth c Q E nL M' kc ks (pc + 3) lo (.int r :: st)) : J p l e R s m args below meth c Q E nL M kc ks pc lo (.ref (E.2.2.2.1 b) :: st) :=
  j_cVs_I (n := 0) (As := []) C h.1 wd_498 wd_499 (c_J0_coder_7d493_S l E M b P h.2) ⟨wd_500, wd_510, wd_47, by decide +kernel, by decide +kernel, by decide +kernel⟩ rfl rfl hR hf rfl hst d kk
abbrev rm_J5_inflateIfNeededFor_a7421_AS : Room := { frames := 1, cells := 0, slots := 0, locals := 20 }
def w_J5_inflateIfNeededFor_a7421_AS (M : Mm) (x0 : Nat) (x1 : Nat) (P : Mm → Prop) : Prop := zk M x0 = 16 ∧ x1 < 12 ∧ w_J0_coder_7d493_S M x1 (fun r2 M2 => (if (zI M x0 1) = r2 then P M2 else False))
set_option maxHeartbeats 4000000 in
set_option maxRecDepth 100000 in
theorem c_J5_inflateIfNeededFor_a7421_AS (l : Launch) (E : EV) (M : Mm) (x0 : Nat) (x1 : Nat) (P : Mm → Prop) (h : w_J5_inflateIfNeededFor_a7421_AS M x0 x1 P) : CtV l E yJ5_inflateIfNeededFor_a7421 cJ5_inflateIfNeededFor_a7421 2 rm_J5_inflateIfNeededFor_a7421_AS 0 0 [.ref x0, .ref (E.2.2.2.1 x1)] M P := by
  refine ctV_of (by decide +kernel) (Nat.le_of_ble_eq_true rfl) ?_
  intro p e s m args below meth c C hnm
  rw [w_J5_inflateIfNeededFor_a7421_AS] at h
  show J p l e rm_J5_inflateIfNeededFor_a7421_AS s m args below meth c (QV below E P args s 0 0) E 2 M 0 0 0 [(0, .ref x0), (1, .ref (E.2.2.2.1 x1))] []
  refine j_scs (pc := 0) C wd_307 dJ5_inflateIfNeededFor_a7421_0 ?_
  refine j_if_eq (pc := 3) (A := False) (B := True) C 21 dJ5_inflateIfNeededFor_a7421_3 (by decide) (by first | rw [if_pos (by decide)] ; trivial | rw [if_neg (by decide)] ; trivial) (fun z => z.elim) (fun _ => ?_)
  refine j_aload_n (pc := 6) C 0 dJ5_inflateIfNeededFor_a7421_6 rfl ?_
  refine gf_J5_22 (pc := 7) C dJ5_inflateIfNeededFor_a7421_7 h (fun h => ?_)
  refine j_aload_n (pc := 10) C 1 dJ5_inflateIfNeededFor_a7421_10 rfl ?_
  refine c2_J5_40_S (pc := 11) C ⟨(Nat.le_of_ble_eq_true rfl), (Nat.le_of_ble_eq_true rfl)⟩ ⟨Nat.le_of_ble_eq_true rfl, Nat.le_of_ble_eq_true rfl⟩ (Nat.le_of_ble_eq_true rfl) dJ5_inflateIfNeededFor_a7421_11 h (fun r2 M2 h => ?_)
  refine j_icmp_eq (pc := 14) C 21 dJ5_inflateIfNeededFor_a7421_14 (by decide) h (fun h => ?_) (fun h => ?_)
  · exact j_vret (pc := 21) C dJ5_inflateIfNeededFor_a7421_21 (Nat.le_of_ble_eq_true rfl) (Nat.le_of_ble_eq_true rfl) h
  · refine j_aload_n (pc := 17) C 0 dJ5_inflateIfNeededFor_a7421_17 rfl ?_
    exact h.elim
theorem c2_J5_40_A (C : Cx p l s m args meth c cc nL RJ5 ret E) {b : Nat} {P : Int32 → Mm → Prop} (hR : rm_J0_coder_7d493_A.frames + 1 ≤ R.frames ∧ 8 + (1 + 11) + rm_J0_coder_7d493_A.locals ≤ R.locals) (hf : kc ≤ R.cells ∧ ks ≤ R.slots) (hst : (st.map fun v => v.category).sum ≤ 8) (d : decode cc pc = .ok (.invokevirtual 40, 3)) (h : zk M b = 17 ∧ w_J0_coder_7d493_A M b P) (kk : ∀ r M', P r M' → J p l e R s m args below meth c Q E nL M' kc ks (pc + 3) lo (.int r :: st)) : J p l e R s m args below meth c Q E nL M kc ks pc lo (.ref b :: st) :=
  j_cV_I (n := 0) (As := []) C co_J0 rfl wd_498 wd_499 h.1 (c_J0_coder_7d493_A l E M b P h.2) ⟨wd_500, wd_510, wd_47, by decide +kernel, by decide +kernel, by decide +kernel⟩ rfl rfl hR hf rfl hst d kk
abbrev rm_J5_inflateIfNeededFor_a7421_AA : Room := { frames := 1, cells := 0, slots := 0, locals := 20 }
def w_J5_inflateIfNeededFor_a7421_AA (M : Mm) (x0 : Nat) (x1 : Nat) (P : Mm → Prop) : Prop := zk M x0 = 16 ∧ zk M x1 = 17 ∧ w_J0_coder_7d493_A M x1 (fun r2 M2 => (if (zI M x0 1) = r2 then P M2 else False))
set_option maxHeartbeats 4000000 in
set_option maxRecDepth 100000 in
theorem c_J5_inflateIfNeededFor_a7421_AA (l : Launch) (E : EV) (M : Mm) (x0 : Nat) (x1 : Nat) (P : Mm → Prop) (h : w_J5_inflateIfNeededFor_a7421_AA M x0 x1 P) : CtV l E yJ5_inflateIfNeededFor_a7421 cJ5_inflateIfNeededFor_a7421 2 rm_J5_inflateIfNeededFor_a7421_AA 0 0 [.ref x0, .ref x1] M P := by
  refine ctV_of (by decide +kernel) (Nat.le_of_ble_eq_true rfl) ?_
  intro p e s m args below meth c C hnm
  rw [w_J5_inflateIfNeededFor_a7421_AA] at h
  show J p l e rm_J5_inflateIfNeededFor_a7421_AA s m args below meth c (QV below E P args s 0 0) E 2 M 0 0 0 [(0, .ref x0), (1, .ref x1)] []
  refine j_scs (pc := 0) C wd_307 dJ5_inflateIfNeededFor_a7421_0 ?_
  refine j_if_eq (pc := 3) (A := False) (B := True) C 21 dJ5_inflateIfNeededFor_a7421_3 (by decide) (by first | rw [if_pos (by decide)] ; trivial | rw [if_neg (by decide)] ; trivial) (fun z => z.elim) (fun _ => ?_)
  refine j_aload_n (pc := 6) C 0 dJ5_inflateIfNeededFor_a7421_6 rfl ?_
  refine gf_J5_22 (pc := 7) C dJ5_inflateIfNeededFor_a7421_7 h (fun h => ?_)
  refine j_aload_n (pc := 10) C 1 dJ5_inflateIfNeededFor_a7421_10 rfl ?_
  refine c2_J5_40_A (pc := 11) C ⟨(Nat.le_of_ble_eq_true rfl), (Nat.le_of_ble_eq_true rfl)⟩ ⟨Nat.le_of_ble_eq_true rfl, Nat.le_of_ble_eq_true rfl⟩ (Nat.le_of_ble_eq_true rfl) dJ5_inflateIfNeededFor_a7421_11 h (fun r2 M2 h => ?_)
  refine j_icmp_eq (pc := 14) C 21 dJ5_inflateIfNeededFor_a7421_14 (by decide) h (fun h => ?_) (fun h => ?_)
  · exact j_vret (pc := 21) C dJ5_inflateIfNeededFor_a7421_21 (Nat.le_of_ble_eq_true rfl) (Nat.le_of_ble_eq_true rfl) h
  · refine j_aload_n (pc := 17) C 0 dJ5_inflateIfNeededFor_a7421_17 rfl ?_
    exact h.elim
theorem c2_J5_397_AS (C : Cx p l s m args meth c cc nL RJ5 ret E) {b : Nat} {y0 : Nat} {P : Mm → Prop} (hR : rm_J5_inflateIfNeededFor_a7421_AS.frames + 1 ≤ R.frames ∧ 8 + (2 + 11) + rm_J5_inflateIfNeededFor_a7421_AS.locals ≤ R.locals) (hf : kc ≤ R.cells ∧ ks ≤ R.slots) (hst : (st.map fun v => v.category).sum ≤ 8) (d : decode cc pc = .ok (.invokevirtual 397, 3)) (h : zk M b = 16 ∧ w_J5_inflateIfNeededFor_a7421_AS M b y0 P) (kk : ∀ M', P M' → J p l e R s m args below meth c Q E nL M' kc ks (pc + 3) lo st) : J p l e R s m args below meth c Q E nL M kc ks pc lo (.ref (E.2.2.2.1 y0) :: .ref b :: st) :=
  j_cU_V (n := 1) (As := [.ref (E.2.2.2.1 y0)]) C co_J4 h.1 (c_J5_inflateIfNeededFor_a7421_AS l E M b y0 P h.2) (k_cu C wd_509 wd_506 wd_1389 wd_45 wd_508 (zPv_use C 3 rfl) rfl wd_508 wd_509 (by decide +kernel) rfl rfl hR) hf rfl hst d kk
theorem c2_J5_399_SAII (C : Cx p l s m args meth c cc nL RJ5 ret E) {b : Nat} {y0 : Nat} {y1 : Int32} {y2 : Int32} {P : Mm → Prop} (hR : rm_J0_getBytes_840e7_SAII.frames + 1 ≤ R.frames ∧ 8 + (4 + 11) + rm_J0_getBytes_840e7_SAII.locals ≤ R.locals) (hf : kc ≤ R.cells ∧ ks ≤ R.slots) (hst : (st.map fun v => v.category).sum ≤ 8) (d : decode cc pc = .ok (.invokevirtual 399, 3)) (h : b < 12 ∧ w_J0_getBytes_840e7_SAII M b y0 y1 y2 P) (kk : ∀ M', P M' → J p l e R s m args below meth c Q E nL M' kc ks (pc + 3) lo st) : J p l e R s m args below meth c Q E nL M kc ks pc lo (.int y2 :: .int y1 :: .ref y0 :: .ref (E.2.2.2.1 b) :: st) :=
  j_cVs_V (n := 3) (As := [.ref y0, .int y1, .int y2]) C h.1 wd_531 wd_532 (c_J0_getBytes_840e7_SAII l E M b y0 y1 y2 P h.2) ⟨wd_533, wd_530, wd_47, by decide +kernel, by decide +kernel, by decide +kernel⟩ rfl rfl hR hf rfl hst d kk
abbrev rm_J5_putStringAt_47b60_AIS : Room := { frames := 2, cells := 0, slots := 0, locals := 83 }
def w_J5_putStringAt_47b60_AIS (M : Mm) (x0 : Nat) (x1 : Int32) (x2 : Nat) (P : Mm → Prop) : Prop := zk M x0 = 16 ∧ w_J5_inflateIfNeededFor_a7421_AS M x0 x2 (fun M1 => (zk M1 x0 = 16 ∧ ∃ a2, zR M1 x0 0 = some a2 ∧ zk M1 x0 = 16 ∧ x2 < 12 ∧ w_J0_getBytes_840e7_SAII M1 x2 a2 x1 (zI M1 x0 1) (fun M4 => P M4)))
set_option maxHeartbeats 4000000 in
set_option maxRecDepth 100000 in
theorem c_J5_putStringAt_47b60_AIS (l : Launch) (E : EV) (M : Mm) (x0 : Nat) (x1 : Int32) (x2 : Nat) (P : Mm → Prop) (h : w_J5_putStringAt_47b60_AIS M x0 x1 x2 P) : CtV l E yJ5_putStringAt_47b60 cJ5_putStringAt_47b60 3 rm_J5_putStringAt_47b60_AIS 0 0 [.ref x0, .int x1, .ref (E.2.2.2.1 x2)] M P := by
  refine ctV_of (by decide +kernel) (Nat.le_of_ble_eq_true rfl) ?_
  intro p e s m args below meth c C hnm
  rw [w_J5_putStringAt_47b60_AIS] at h
  show J p l e rm_J5_putStringAt_47b60_AIS s m args below meth c (QV below E P args s 0 0) E 3 M 0 0 0 [(0, .ref x0), (1, .int x1), (2, .ref (E.2.2.2.1 x2))] []
  refine j_aload_n (pc := 0) C 0 dJ5_putStringAt_47b60_0 rfl ?_
  refine j_aload_n (pc := 1) C 2 dJ5_putStringAt_47b60_1 rfl ?_
  refine c2_J5_397_AS (pc := 2) C ⟨(Nat.le_of_ble_eq_true rfl), (Nat.le_of_ble_eq_true rfl)⟩ ⟨Nat.le_of_ble_eq_true rfl, Nat.le_of_ble_eq_true rfl⟩ (Nat.le_of_ble_eq_true rfl) dJ5_putStringAt_47b60_2 h (fun M1 h => ?_)
  refine j_aload_n (pc := 5) C 2 dJ5_putStringAt_47b60_5 rfl ?_
  refine j_aload_n (pc := 6) C 0 dJ5_putStringAt_47b60_6 rfl ?_
  refine gf_J5_15 (pc := 7) C dJ5_putStringAt_47b60_7 h (fun a2 h => ?_)
  refine j_iload_n (pc := 10) C 1 dJ5_putStringAt_47b60_10 rfl ?_
  refine j_aload_n (pc := 11) C 0 dJ5_putStringAt_47b60_11 rfl ?_
  refine gf_J5_22 (pc := 12) C dJ5_putStringAt_47b60_12 h (fun h => ?_)
  refine c2_J5_399_SAII (pc := 15) C ⟨(Nat.le_of_ble_eq_true rfl), (Nat.le_of_ble_eq_true rfl)⟩ ⟨Nat.le_of_ble_eq_true rfl, Nat.le_of_ble_eq_true rfl⟩ (Nat.le_of_ble_eq_true rfl) dJ5_putStringAt_47b60_15 h (fun M4 h => ?_)
  exact j_vret (pc := 18) C dJ5_putStringAt_47b60_18 (Nat.le_of_ble_eq_true rfl) (Nat.le_of_ble_eq_true rfl) h
theorem c2_J5_397_AA (C : Cx p l s m args meth c cc nL RJ5 ret E) {b : Nat} {y0 : Nat} {P : Mm → Prop} (hR : rm_J5_inflateIfNeededFor_a7421_AA.frames + 1 ≤ R.frames ∧ 8 + (2 + 11) + rm_J5_inflateIfNeededFor_a7421_AA.locals ≤ R.locals) (hf : kc ≤ R.cells ∧ ks ≤ R.slots) (hst : (st.map fun v => v.category).sum ≤ 8) (d : decode cc pc = .ok (.invokevirtual 397, 3)) (h : zk M b = 16 ∧ w_J5_inflateIfNeededFor_a7421_AA M b y0 P) (kk : ∀ M', P M' → J p l e R s m args below meth c Q E nL M' kc ks (pc + 3) lo st) : J p l e R s m args below meth c Q E nL M kc ks pc lo (.ref y0 :: .ref b :: st) :=
  j_cU_V (n := 1) (As := [.ref y0]) C co_J4 h.1 (c_J5_inflateIfNeededFor_a7421_AA l E M b y0 P h.2) (k_cu C wd_509 wd_506 wd_1389 wd_45 wd_508 (zPv_use C 3 rfl) rfl wd_508 wd_509 (by decide +kernel) rfl rfl hR) hf rfl hst d kk
theorem c2_J5_399_AAII (C : Cx p l s m args meth c cc nL RJ5 ret E) {b : Nat} {y0 : Nat} {y1 : Int32} {y2 : Int32} {P : Mm → Prop} (hR : rm_J0_getBytes_840e7_AAII.frames + 1 ≤ R.frames ∧ 8 + (4 + 11) + rm_J0_getBytes_840e7_AAII.locals ≤ R.locals) (hf : kc ≤ R.cells ∧ ks ≤ R.slots) (hst : (st.map fun v => v.category).sum ≤ 8) (d : decode cc pc = .ok (.invokevirtual 399, 3)) (h : zk M b = 17 ∧ w_J0_getBytes_840e7_AAII M b y0 y1 y2 P) (kk : ∀ M', P M' → J p l e R s m args below meth c Q E nL M' kc ks (pc + 3) lo st) : J p l e R s m args below meth c Q E nL M kc ks pc lo (.int y2 :: .int y1 :: .ref y0 :: .ref b :: st) :=
  j_cV_V (n := 3) (As := [.ref y0, .int y1, .int y2]) C co_J0 rfl wd_531 wd_532 h.1 (c_J0_getBytes_840e7_AAII l E M b y0 y1 y2 P h.2) ⟨wd_533, wd_530, wd_47, by decide +kernel, by decide +kernel, by decide +kernel⟩ rfl rfl hR hf rfl hst d kk
abbrev rm_J5_putStringAt_47b60_AIA : Room := { frames := 2, cells := 0, slots := 0, locals := 83 }
def w_J5_putStringAt_47b60_AIA (M : Mm) (x0 : Nat) (x1 : Int32) (x2 : Nat) (P : Mm → Prop) : Prop := zk M x0 = 16 ∧ w_J5_inflateIfNeededFor_a7421_AA M x0 x2 (fun M1 => (zk M1 x0 = 16 ∧ ∃ a2, zR M1 x0 0 = some a2 ∧ zk M1 x0 = 16 ∧ zk M1 x2 = 17 ∧ w_J0_getBytes_840e7_AAII M1 x2 a2 x1 (zI M1 x0 1) (fun M4 => P M4)))
set_option maxHeartbeats 4000000 in
set_option maxRecDepth 100000 in
theorem c_J5_putStringAt_47b60_AIA (l : Launch) (E : EV) (M : Mm) (x0 : Nat) (x1 : Int32) (x2 : Nat) (P : Mm → Prop) (h : w_J5_putStringAt_47b60_AIA M x0 x1 x2 P) : CtV l E yJ5_putStringAt_47b60 cJ5_putStringAt_47b60 3 rm_J5_putStringAt_47b60_AIA 0 0 [.ref x0, .int x1, .ref x2] M P := by
  refine ctV_of (by decide +kernel) (Nat.le_of_ble_eq_true rfl) ?_
  intro p e s m args below meth c C hnm
  rw [w_J5_putStringAt_47b60_AIA] at h
  show J p l e rm_J5_putStringAt_47b60_AIA s m args below meth c (QV below E P args s 0 0) E 3 M 0 0 0 [(0, .ref x0), (1, .int x1), (2, .ref x2)] []
  refine j_aload_n (pc := 0) C 0 dJ5_putStringAt_47b60_0 rfl ?_
  refine j_aload_n (pc := 1) C 2 dJ5_putStringAt_47b60_1 rfl ?_
  refine c2_J5_397_AA (pc := 2) C ⟨(Nat.le_of_ble_eq_true rfl), (Nat.le_of_ble_eq_true rfl)⟩ ⟨Nat.le_of_ble_eq_true rfl, Nat.le_of_ble_eq_true rfl⟩ (Nat.le_of_ble_eq_true rfl) dJ5_putStringAt_47b60_2 h (fun M1 h => ?_)
  refine j_aload_n (pc := 5) C 2 dJ5_putStringAt_47b60_5 rfl ?_
  refine j_aload_n (pc := 6) C 0 dJ5_putStringAt_47b60_6 rfl ?_
  refine gf_J5_15 (pc := 7) C dJ5_putStringAt_47b60_7 h (fun a2 h => ?_)
  refine j_iload_n (pc := 10) C 1 dJ5_putStringAt_47b60_10 rfl ?_
  refine j_aload_n (pc := 11) C 0 dJ5_putStringAt_47b60_11 rfl ?_
  refine gf_J5_22 (pc := 12) C dJ5_putStringAt_47b60_12 h (fun h => ?_)
  refine c2_J5_399_AAII (pc := 15) C ⟨(Nat.le_of_ble_eq_true rfl), (Nat.le_of_ble_eq_true rfl)⟩ ⟨Nat.le_of_ble_eq_true rfl, Nat.le_of_ble_eq_true rfl⟩ (Nat.le_of_ble_eq_true rfl) dJ5_putStringAt_47b60_15 h (fun M4 h => ?_)
  exact j_vret (pc := 18) C dJ5_putStringAt_47b60_18 (Nat.le_of_ble_eq_true rfl) (Nat.le_of_ble_eq_true rfl) h
theorem c2_J5_32_S (C : Cx p l s m args meth c cc nL RJ5 ret E) {b : Nat} {P : Int32 → Mm → Prop} (hR : rm_J0_length_8abf5_S.frames + 1 ≤ R.frames ∧ 8 + (1 + 11) + rm_J0_length_8abf5_S.locals ≤ R.locals) (hf : kc ≤ R.cells ∧ ks ≤ R.slots) (hst : (st.map fun v => v.category).sum ≤ 8) (d : decode cc pc = .ok (.invokevirtual 32, 3)) (h : b < 12 ∧ w_J0_length_8abf5_S M b P) (kk : ∀ r M', P r M' → J p l e R s m args below meth c Q E nL M' kc ks (pc + 3) lo (.int r :: st)) : J p l e R s m args below meth c Q E nL M kc ks pc lo (.ref (E.2.2.2.1 b) :: st) :=
  j_cVs_I (n := 0) (As := []) C h.1 wd_494 wd_495 (c_J0_length_8abf5_S l E M b P h.2) ⟨wd_496, wd_493, wd_47, by decide +kernel, by decide +kernel, by decide +kernel⟩ rfl rfl hR hf rfl hst d kk
theorem c2_J5_100 (C : Cx p l s m args meth c cc nL RJ5 ret E) {b : Nat} {y0 : Int32} {P : Mm → Prop} (hR : rm_J5_ensureCapacityInternal_d00df.frames + 1 ≤ R.frames ∧ 8 + (3 + 11) + rm_J5_ensureCapacityInternal_d00df.locals ≤ R.locals) (hf : kc + 1 ≤ R.cells ∧ ks + 1400 ≤ R.slots) (hst : (st.map fun v => v.category).sum ≤ 8) (d : decode cc pc = .ok (.invokevirtual 100, 3)) (h : zk M b = 16 ∧ w_J5_ensureCapacityInternal_d00df M b y0 P) (kk : ∀ M', P M' → J p l e R s m args below meth c Q E nL M' (kc + 1) (ks + 1400) (pc + 3) lo st) : J p l e R s m args below meth c Q E nL M kc ks pc lo (.int y0 :: .ref b :: st) :=
  j_cU_V (n := 1) (As := [.int y0]) C co_J4 h.1 (c_J5_ensureCapacityInternal_d00df l E M b y0 P h.2) (k_cu C wd_430 wd_427 wd_1386 wd_45 wd_429 (zPv_use C 0 rfl) rfl wd_429 wd_430 (by decide +kernel) rfl rfl hR) hf rfl hst d kk
theorem c2_J5_208_AIS (C : Cx p l s m args meth c cc nL RJ5 ret E) {b : Nat} {y0 : Int32} {y1 : Nat} {P : Mm → Prop} (hR : rm_J5_putStringAt_47b60_AIS.frames + 1 ≤ R.frames ∧ 8 + (3 + 11) + rm_J5_putStringAt_47b60_AIS.locals ≤ R.locals) (hf : kc ≤ R.cells ∧ ks ≤ R.slots) (hst : (st.map fun v => v.category).sum ≤ 8) (d : decode cc pc = .ok (.invokevirtual 208, 3)) (h : zk M b = 16 ∧ w_J5_putStringAt_47b60_AIS M b y0 y1 P) (kk : ∀ M', P M' → J p l e R s m args below meth c Q E nL M' kc ks (pc + 3) lo st) : J p l e R s m args below meth c Q E nL M kc ks pc lo (.ref (E.2.2.2.1 y1) :: .int y0 :: .ref b :: st) :=
  j_cU_V (n := 2) (As := [.int y0, .ref (E.2.2.2.1 y1)]) C co_J4 h.1 (c_J5_putStringAt_47b60_AIS l E M b y0 y1 P h.2) (k_cu C wd_505 wd_502 wd_1388 wd_45 wd_504 (zPv_use C 2 rfl) rfl wd_504 wd_505 (by decide +kernel) rfl rfl hR) hf rfl hst d kk
abbrev rm_J5_append_cf1ce_AS : Room := { frames := 4, cells := 1, slots := 1400, locals := 105 }
def w_J5_append_cf1ce_AS (M : Mm) (x0 : Nat) (x1 : Nat) (P : Option Nat → Mm → Prop) : Prop := x1 < 12 ∧ w_J0_length_8abf5_S M x1 (fun r1 M1 => zk M1 x0 = 16 ∧ zk M1 x0 = 16 ∧ w_J5_ensureCapacityInternal_d00df M1 x0 ((zI M1 x0 3) + r1) (fun M3 => zk M3 x0 = 16 ∧ zk M3 x0 = 16 ∧ w_J5_putStringAt_47b60_AIS M3 x0 (zI M3 x0 3) x1 (fun M5 => zk M5 x0 = 16 ∧ zk M5 x0 = 16 ∧ (∀ M7, M7 = sI M5 x0 3 ((zI M5 x0 3) + r1) → P (some x0) M7))))
set_option maxHeartbeats 4000000 in
set_option maxRecDepth 100000 in
theorem c_J5_append_cf1ce_AS (l : Launch) (E : EV) (M : Mm) (x0 : Nat) (x1 : Nat) (P : Option Nat → Mm → Prop) (h : w_J5_append_cf1ce_AS M x0 x1 P) : CtN l E yJ5_append_cf1ce cJ5_append_cf1ce 3 (.object "java/lang/AbstractStringBuilder") rm_J5_append_cf1ce_AS 1 1400 [.ref x0, .ref (E.2.2.2.1 x1)] M P := by
  refine ctN_of (by decide +kernel) (Nat.le_of_ble_eq_true rfl) ?_
  intro p e s m args below meth c C
  rw [w_J5_append_cf1ce_AS] at h
  show J p l e rm_J5_append_cf1ce_AS s m args below meth c (QN below E P args s 1 1400) E 3 M 0 0 0 [(0, .ref x0), (1, .ref (E.2.2.2.1 x1))] []
  refine j_aload_n (pc := 0) C 1 dJ5_append_cf1ce_0 rfl ?_
  refine j_ifnnA (pc := 1) C 9 dJ5_append_cf1ce_1 (by decide) ?_
  refine j_aload_n (pc := 9) C 1 dJ5_append_cf1ce_9 rfl ?_
  refine c2_J5_32_S (pc := 10) C ⟨(Nat.le_of_ble_eq_true rfl), (Nat.le_of_ble_eq_true rfl)⟩ ⟨Nat.le_of_ble_eq_true rfl, Nat.le_of_ble_eq_true rfl⟩ (Nat.le_of_ble_eq_true rfl) dJ5_append_cf1ce_10 h (fun r1 M1 h => ?_)
  refine j_istore_n (pc := 13) C [(2, _), (0, _), (1, _)] dJ5_append_cf1ce_13 (by decide) rfl ?_
  refine j_aload_n (pc := 14) C 1 dJ5_append_cf1ce_14 rfl ?_
  refine j_aload_n (pc := 15) C 1 dJ5_append_cf1ce_15 rfl ?_
  refine gf_J5_79 (pc := 16) C dJ5_append_cf1ce_16 h (fun h => ?_)
  refine j_iload_n (pc := 19) C 0 dJ5_append_cf1ce_19 rfl ?_
  refine j_iadd (pc := 20) C dJ5_append_cf1ce_20 ?_
  refine c2_J5_100 (pc := 21) C ⟨(Nat.le_of_ble_eq_true rfl), (Nat.le_of_ble_eq_true rfl)⟩ ⟨Nat.le_of_ble_eq_true rfl, Nat.le_of_ble_eq_true rfl⟩ (Nat.le_of_ble_eq_true rfl) dJ5_append_cf1ce_21 h (fun M3 h => ?_)
  refine j_aload_n (pc := 24) C 1 dJ5_append_cf1ce_24 rfl ?_
  refine j_aload_n (pc := 25) C 1 dJ5_append_cf1ce_25 rfl ?_
  refine gf_J5_79 (pc := 26) C dJ5_append_cf1ce_26 h (fun h => ?_)
  refine j_aload_n (pc := 29) C 2 dJ5_append_cf1ce_29 rfl ?_
  refine c2_J5_208_AIS (pc := 30) C ⟨(Nat.le_of_ble_eq_true rfl), (Nat.le_of_ble_eq_true rfl)⟩ ⟨Nat.le_of_ble_eq_true rfl, Nat.le_of_ble_eq_true rfl⟩ (Nat.le_of_ble_eq_true rfl) dJ5_append_cf1ce_30 h (fun M5 h => ?_)
  refine j_aload_n (pc := 33) C 1 dJ5_append_cf1ce_33 rfl ?_
  refine j_dup (pc := 34) C dJ5_append_cf1ce_34 rfl ?_
  refine gf_J5_79 (pc := 35) C dJ5_append_cf1ce_35 h (fun h => ?_)
  refine j_iload_n (pc := 38) C 0 dJ5_append_cf1ce_38 rfl ?_
  refine j_iadd (pc := 39) C dJ5_append_cf1ce_39 ?_
  refine pf_J5_79 (pc := 40) C dJ5_append_cf1ce_40 h (fun M7 h => ?_)
  refine j_aload_n (pc := 43) C 1 dJ5_append_cf1ce_43 rfl ?_
  exact j_nret (pc := 44) (some x0) (Or.inl ⟨_, rfl⟩) C dJ5_append_cf1ce_44 (Nat.le_of_ble_eq_true rfl) (Nat.le_of_ble_eq_true rfl) h
theorem c2_J5_32_A (C : Cx p l s m args meth c cc nL RJ5 ret E) {b : Nat} {P : Int32 → Mm → Prop} (hR : rm_J0_length_8abf5_A.frames + 1 ≤ R.frames ∧ 8 + (1 + 11) + rm_J0_length_8abf5_A.locals ≤ R.locals) (hf : kc ≤ R.cells ∧ ks ≤ R.slots) (hst : (st.map fun v => v.category).sum ≤ 8) (d : decode cc pc = .ok (.invokevirtual 32, 3)) (h : zk M b = 17 ∧ w_J0_length_8abf5_A M b P) (kk : ∀ r M', P r M' → J p l e R s m args below meth c Q E nL M' kc ks (pc + 3) lo (.int r :: st)) : J p l e R s m args below meth c Q E nL M kc ks pc lo (.ref b :: st) :=
  j_cV_I (n := 0) (As := []) C co_J0 rfl wd_494 wd_495 h.1 (c_J0_length_8abf5_A l E M b P h.2) ⟨wd_496, wd_493, wd_47, by decide +kernel, by decide +kernel, by decide +kernel⟩ rfl rfl hR hf rfl hst d kk
theorem c2_J5_208_AIA (C : Cx p l s m args meth c cc nL RJ5 ret E) {b : Nat} {y0 : Int32} {y1 : Nat} {P : Mm → Prop} (hR : rm_J5_putStringAt_47b60_AIA.frames + 1 ≤ R.frames ∧ 8 + (3 + 11) + rm_J5_putStringAt_47b60_AIA.locals ≤ R.locals) (hf : kc ≤ R.cells ∧ ks ≤ R.slots) (hst : (st.map fun v => v.category).sum ≤ 8) (d : decode cc pc = .ok (.invokevirtual 208, 3)) (h : zk M b = 16 ∧ w_J5_putStringAt_47b60_AIA M b y0 y1 P) (kk : ∀ M', P M' → J p l e R s m args below meth c Q E nL M' kc ks (pc + 3) lo st) : J p l e R s m args below meth c Q E nL M kc ks pc lo (.ref y1 :: .int y0 :: .ref b :: st) :=
  j_cU_V (n := 2) (As := [.int y0, .ref y1]) C co_J4 h.1 (c_J5_putStringAt_47b60_AIA l E M b y0 y1 P h.2) (k_cu C wd_505 wd_502 wd_1388 wd_45 wd_504 (zPv_use C 2 rfl) rfl wd_504 wd_505 (by decide +kernel) rfl rfl hR) hf rfl hst d kk
abbrev rm_J5_append_cf1ce_AA : Room := { frames := 4, cells := 1, slots := 1400, locals := 105 }
def w_J5_append_cf1ce_AA (M : Mm) (x0 : Nat) (x1 : Nat) (P : Option Nat → Mm → Prop) : Prop := zk M x1 = 17 ∧ w_J0_length_8abf5_A M x1 (fun r1 M1 => zk M1 x0 = 16 ∧ zk M1 x0 = 16 ∧ w_J5_ensureCapacityInternal_d00df M1 x0 ((zI M1 x0 3) + r1) (fun M3 => zk M3 x0 = 16 ∧ zk M3 x0 = 16 ∧ w_J5_putStringAt_47b60_AIA M3 x0 (zI M3 x0 3) x1 (fun M5 => zk M5 x0 = 16 ∧ zk M5 x0 = 16 ∧ (∀ M7, M7 = sI M5 x0 3 ((zI M5 x0 3) + r1) → P (some x0) M7))))
set_option maxHeartbeats 4000000 in
set_option maxRecDepth 100000 in
theorem c_J5_append_cf1ce_AA (l : Launch) (E : EV) (M : Mm) (x0 : Nat) (x1 : Nat) (P : Option Nat → Mm → Prop) (h : w_J5_append_cf1ce_AA M x0 x1 P) : CtN l E yJ5_append_cf1ce cJ5_append_cf1ce 3 (.object "java/lang/AbstractStringBuilder") rm_J5_append_cf1ce_AA 1 1400 [.ref x0, .ref x1] M P := by
  refine ctN_of (by decide +kernel) (Nat.le_of_ble_eq_true rfl) ?_
  intro p e s m args below meth c C
  rw [w_J5_append_cf1ce_AA] at h
  show J p l e rm_J5_append_cf1ce_AA s m args below meth c (QN below E P args s 1 1400) E 3 M 0 0 0 [(0, .ref x0), (1, .ref x1)] []
  refine j_aload_n (pc := 0) C 1 dJ5_append_cf1ce_0 rfl ?_
  refine j_ifnnA (pc := 1) C 9 dJ5_append_cf1ce_1 (by decide) ?_
  refine j_aload_n (pc := 9) C 1 dJ5_append_cf1ce_9 rfl ?_
  refine c2_J5_32_A (pc := 10) C ⟨(Nat.le_of_ble_eq_true rfl), (Nat.le_of_ble_eq_true rfl)⟩ ⟨Nat.le_of_ble_eq_true rfl, Nat.le_of_ble_eq_true rfl⟩ (Nat.le_of_ble_eq_true rfl) dJ5_append_cf1ce_10 h (fun r1 M1 h => ?_)
  refine j_istore_n (pc := 13) C [(2, _), (0, _), (1, _)] dJ5_append_cf1ce_13 (by decide) rfl ?_
  refine j_aload_n (pc := 14) C 1 dJ5_append_cf1ce_14 rfl ?_
  refine j_aload_n (pc := 15) C 1 dJ5_append_cf1ce_15 rfl ?_
  refine gf_J5_79 (pc := 16) C dJ5_append_cf1ce_16 h (fun h => ?_)
  refine j_iload_n (pc := 19) C 0 dJ5_append_cf1ce_19 rfl ?_
  refine j_iadd (pc := 20) C dJ5_append_cf1ce_20 ?_
  refine c2_J5_100 (pc := 21) C ⟨(Nat.le_of_ble_eq_true rfl), (Nat.le_of_ble_eq_true rfl)⟩ ⟨Nat.le_of_ble_eq_true rfl, Nat.le_of_ble_eq_true rfl⟩ (Nat.le_of_ble_eq_true rfl) dJ5_append_cf1ce_21 h (fun M3 h => ?_)
  refine j_aload_n (pc := 24) C 1 dJ5_append_cf1ce_24 rfl ?_
  refine j_aload_n (pc := 25) C 1 dJ5_append_cf1ce_25 rfl ?_
  refine gf_J5_79 (pc := 26) C dJ5_append_cf1ce_26 h (fun h => ?_)
  refine j_aload_n (pc := 29) C 2 dJ5_append_cf1ce_29 rfl ?_
  refine c2_J5_208_AIA (pc := 30) C ⟨(Nat.le_of_ble_eq_true rfl), (Nat.le_of_ble_eq_true rfl)⟩ ⟨Nat.le_of_ble_eq_true rfl, Nat.le_of_ble_eq_true rfl⟩ (Nat.le_of_ble_eq_true rfl) dJ5_append_cf1ce_30 h (fun M5 h => ?_)
  refine j_aload_n (pc := 33) C 1 dJ5_append_cf1ce_33 rfl ?_
  refine j_dup (pc := 34) C dJ5_append_cf1ce_34 rfl ?_
  refine gf_J5_79 (pc := 35) C dJ5_append_cf1ce_35 h (fun h => ?_)
  refine j_iload_n (pc := 38) C 0 dJ5_append_cf1ce_38 rfl ?_
  refine j_iadd (pc := 39) C dJ5_append_cf1ce_39 ?_
  refine pf_J5_79 (pc := 40) C dJ5_append_cf1ce_40 h (fun M7 h => ?_)
  refine j_aload_n (pc := 43) C 1 dJ5_append_cf1ce_43 rfl ?_
  exact j_nret (pc := 44) (some x0) (Or.inl ⟨_, rfl⟩) C dJ5_append_cf1ce_44 (Nat.le_of_ble_eq_true rfl) (Nat.le_of_ble_eq_true rfl) h
theorem c2_J5_83 (C : Cx p l s m args meth c cc nL RJ5 ret E) {b : Nat} {P : Int32 → Mm → Prop} (hR : rm_J5_isLatin1_aae02.frames + 1 ≤ R.frames ∧ 8 + (1 + 11) + rm_J5_isLatin1_aae02.locals ≤ R.locals) (hf : kc ≤ R.cells ∧ ks ≤ R.slots) (hst : (st.map fun v => v.category).sum ≤ 8) (d : decode cc pc = .ok (.invokevirtual 83, 3)) (h : zk M b = 16 ∧ w_J5_isLatin1_aae02 M b P) (kk : ∀ r M', P r M' → J p l e R s m args below meth c Q E nL M' kc ks (pc + 3) lo (.int r :: st)) : J p l e R s m args below meth c Q E nL M kc ks pc lo (.ref b :: st) :=
  j_cU_I (n := 0) (As := []) C co_J4 h.1 (c_J5_isLatin1_aae02 l E M b P h.2) (k_cu C wd_466 wd_462 wd_464 wd_45 wd_463 (C.2.2.2.2.1 _ wd_465) rfl wd_463 wd_466 (by decide +kernel) rfl rfl hR) hf rfl hst d kk
theorem c2_J5_191 (C : Cx p l s m args meth c cc nL RJ5 ret E) {y0 : Int32} {P : Int32 → Mm → Prop} (hR : rm_J1_canEncode_fc78d.frames + 1 ≤ R.frames ∧ 8 + (1 + 11) + rm_J1_canEncode_fc78d.locals ≤ R.locals) (hf : kc ≤ R.cells ∧ ks ≤ R.slots) (hst : (st.map fun v => v.category).sum ≤ 8) (d : decode cc pc = .ok (.invokestatic 191, 3)) (h : w_J1_canEncode_fc78d M y0 P) (kk : ∀ r M', P r M' → J p l e R s m args below meth c Q E nL M' kc ks (pc + 3) lo (.int r :: st)) : J p l e R s m args below meth c Q E nL M kc ks pc lo (.int y0 :: st) :=
  j_cS_I (n := 1) (As := [.int y0]) C wd_569 (c_J1_canEncode_fc78d l E M y0 P h) ⟨wd_570, wd_568, wd_55, by decide +kernel, by decide +kernel, by decide +kernel⟩ rfl rfl hR hf rfl hst d kk
abbrev rm_J5_append_3fe6f : Room := { frames := 4, cells := 1, slots := 1400, locals := 104 }
def w_J5_append_3fe6f (M : Mm) (x0 : Nat) (x1 : Int32) (P : Option Nat → Mm → Prop) : Prop := zk M x0 = 16 ∧ zk M x0 = 16 ∧ w_J5_ensureCapacityInternal_d00df M x0 ((zI M x0 3) + (1 : Int32)) (fun M2 => zk M2 x0 = 16 ∧ w_J5_isLatin1_aae02 M2 x0 (fun r3 M3 => (if r3 = 0 then zk M3 x0 = 16 ∧ w_J5_isLatin1_aae02 M3 x0 (fun r4 M4 => (if r4 = 0 then (zk M4 x0 = 16 ∧ ∃ a5, zR M4 x0 0 = some a5 ∧ zk M4 x0 = 16 ∧ zk M4 x0 = 16 ∧ (∀ M7, M7 = sI M4 x0 3 ((zI M4 x0 3) + (1 : Int32)) → False)) else False)) else w_J1_canEncode_fc78d M3 x1 (fun r8 M8 => (if r8 = 0 then zk M8 x0 = 16 ∧ w_J5_isLatin1_aae02 M8 x0 (fun r9 M9 => (if r9 = 0 then (zk M9 x0 = 16 ∧ ∃ a10, zR M9 x0 0 = some a10 ∧ zk M9 x0 = 16 ∧ zk M9 x0 = 16 ∧ (∀ M12, M12 = sI M9 x0 3 ((zI M9 x0 3) + (1 : Int32)) → False)) else False)) else (zk M8 x0 = 16 ∧ ∃ a13, zR M8 x0 0 = some a13 ∧ zk M8 x0 = 16 ∧ zk M8 x0 = 16 ∧ (∀ M15, M15 = sI M8 x0 3 ((zI M8 x0 3) + (1 : Int32)) → zk M15 a13 = 9 ∧ vp_in (zI M8 x0 3) (zl M15 a13) ∧ (∀ M16, M16 = sI M15 a13 (zI M8 x0 3).toNatClampNeg (vp_nar .byte x1.toInt8.toInt32) → P (some x0) M16))))))))
set_option maxHeartbeats 4000000 in
set_option maxRecDepth 100000 in
theorem c_J5_append_3fe6f (l : Launch) (E : EV) (M : Mm) (x0 : Nat) (x1 : Int32) (P : Option Nat → Mm → Prop) (h : w_J5_append_3fe6f M x0 x1 P) : CtN l E yJ5_append_3fe6f cJ5_append_3fe6f 2 (.object "java/lang/AbstractStringBuilder") rm_J5_append_3fe6f 1 1400 [.ref x0, .int x1] M P := by
  refine ctN_of (by decide +kernel) (Nat.le_of_ble_eq_true rfl) ?_
  intro p e s m args below meth c C
  rw [w_J5_append_3fe6f] at h
  show J p l e rm_J5_append_3fe6f s m args below meth c (QN below E P args s 1 1400) E 2 M 0 0 0 [(0, .ref x0), (1, .int x1)] []
  refine j_aload_n (pc := 0) C 0 dJ5_append_3fe6f_0 rfl ?_
  refine j_aload_n (pc := 1) C 0 dJ5_append_3fe6f_1 rfl ?_
  refine gf_J5_79 (pc := 2) C dJ5_append_3fe6f_2 h (fun h => ?_)
  refine j_iconst (pc := 5) (v := (1 : Int32)) C dJ5_append_3fe6f_5 rfl ?_
  refine j_iadd (pc := 6) C dJ5_append_3fe6f_6 ?_
  refine c2_J5_100 (pc := 7) C ⟨(Nat.le_of_ble_eq_true rfl), (Nat.le_of_ble_eq_true rfl)⟩ ⟨Nat.le_of_ble_eq_true rfl, Nat.le_of_ble_eq_true rfl⟩ (Nat.le_of_ble_eq_true rfl) dJ5_append_3fe6f_7 h (fun M2 h => ?_)
  refine j_aload_n (pc := 10) C 0 dJ5_append_3fe6f_10 rfl ?_
  refine c2_J5_83 (pc := 11) C ⟨(Nat.le_of_ble_eq_true rfl), (Nat.le_of_ble_eq_true rfl)⟩ ⟨Nat.le_of_ble_eq_true rfl, Nat.le_of_ble_eq_true rfl⟩ (Nat.le_of_ble_eq_true rfl) dJ5_append_3fe6f_11 h (fun r3 M3 h => ?_)
  refine j_if_eq (pc := 14) C 45 dJ5_append_3fe6f_14 (by decide) h (fun h => ?_) (fun h => ?_)
  · refine j_aload_n (pc := 45) C 0 dJ5_append_3fe6f_45 rfl ?_
    refine c2_J5_83 (pc := 46) C ⟨(Nat.le_of_ble_eq_true rfl), (Nat.le_of_ble_eq_true rfl)⟩ ⟨Nat.le_of_ble_eq_true rfl, Nat.le_of_ble_eq_true rfl⟩ (Nat.le_of_ble_eq_true rfl) dJ5_append_3fe6f_46 h (fun r4 M4 h => ?_)
    refine j_if_eq (pc := 49) C 56 dJ5_append_3fe6f_49 (by decide) h (fun h => ?_) (fun h => ?_)
    · refine j_aload_n (pc := 56) C 0 dJ5_append_3fe6f_56 rfl ?_
      refine gf_J5_15 (pc := 57) C dJ5_append_3fe6f_57 h (fun a5 h => ?_)
      refine j_aload_n (pc := 60) C 0 dJ5_append_3fe6f_60 rfl ?_
      refine j_dup (pc := 61) C dJ5_append_3fe6f_61 rfl ?_
      refine gf_J5_79 (pc := 62) C dJ5_append_3fe6f_62 h (fun h => ?_)
      refine j_dup_x1 (pc := 65) C dJ5_append_3fe6f_65 rfl rfl ?_
      refine j_iconst (pc := 66) (v := (1 : Int32)) C dJ5_append_3fe6f_66 rfl ?_
      refine j_iadd (pc := 67) C dJ5_append_3fe6f_67 ?_
      refine pf_J5_79 (pc := 68) C dJ5_append_3fe6f_68 h (fun M7 h => ?_)
      refine j_iload_n (pc := 71) C 1 dJ5_append_3fe6f_71 rfl ?_
      exact h.elim
    · refine j_aload_n (pc := 52) C 0 dJ5_append_3fe6f_52 rfl ?_
      exact h.elim
  · refine j_iload_n (pc := 17) C 1 dJ5_append_3fe6f_17 rfl ?_
    refine c2_J5_191 (pc := 18) C ⟨(Nat.le_of_ble_eq_true rfl), (Nat.le_of_ble_eq_true rfl)⟩ ⟨Nat.le_of_ble_eq_true rfl, Nat.le_of_ble_eq_true rfl⟩ (Nat.le_of_ble_eq_true rfl) dJ5_append_3fe6f_18 h (fun r8 M8 h => ?_)
    refine j_if_eq (pc := 21) C 45 dJ5_append_3fe6f_21 (by decide) h (fun h => ?_) (fun h => ?_)
    · refine j_aload_n (pc := 45) C 0 dJ5_append_3fe6f_45 rfl ?_
      refine c2_J5_83 (pc := 46) C ⟨(Nat.le_of_ble_eq_true rfl), (Nat.le_of_ble_eq_true rfl)⟩ ⟨Nat.le_of_ble_eq_true rfl, Nat.le_of_ble_eq_true rfl⟩ (Nat.le_of_ble_eq_true rfl) dJ5_append_3fe6f_46 h (fun r9 M9 h => ?_)
      refine j_if_eq (pc := 49) C 56 dJ5_append_3fe6f_49 (by decide) h (fun h => ?_) (fun h => ?_)
      · refine j_aload_n (pc := 56) C 0 dJ5_append_3fe6f_56 rfl ?_
        refine gf_J5_15 (pc := 57) C dJ5_append_3fe6f_57 h (fun a10 h => ?_)
        refine j_aload_n (pc := 60) C 0 dJ5_append_3fe6f_60 rfl ?_
        refine j_dup (pc := 61) C dJ5_append_3fe6f_61 rfl ?_
        refine gf_J5_79 (pc := 62) C dJ5_append_3fe6f_62 h (fun h => ?_)
        refine j_dup_x1 (pc := 65) C dJ5_append_3fe6f_65 rfl rfl ?_
        refine j_iconst (pc := 66) (v := (1 : Int32)) C dJ5_append_3fe6f_66 rfl ?_
        refine j_iadd (pc := 67) C dJ5_append_3fe6f_67 ?_
        refine pf_J5_79 (pc := 68) C dJ5_append_3fe6f_68 h (fun M12 h => ?_)
        refine j_iload_n (pc := 71) C 1 dJ5_append_3fe6f_71 rfl ?_
        exact h.elim
      · refine j_aload_n (pc := 52) C 0 dJ5_append_3fe6f_52 rfl ?_
        exact h.elim
    · refine j_aload_n (pc := 24) C 0 dJ5_append_3fe6f_24 rfl ?_
      refine gf_J5_15 (pc := 25) C dJ5_append_3fe6f_25 h (fun a13 h => ?_)
      refine j_aload_n (pc := 28) C 0 dJ5_append_3fe6f_28 rfl ?_
      refine j_dup (pc := 29) C dJ5_append_3fe6f_29 rfl ?_
      refine gf_J5_79 (pc := 30) C dJ5_append_3fe6f_30 h (fun h => ?_)
      refine j_dup_x1 (pc := 33) C dJ5_append_3fe6f_33 rfl rfl ?_
      refine j_iconst (pc := 34) (v := (1 : Int32)) C dJ5_append_3fe6f_34 rfl ?_
      refine j_iadd (pc := 35) C dJ5_append_3fe6f_35 ?_
      refine pf_J5_79 (pc := 36) C dJ5_append_3fe6f_36 h (fun M15 h => ?_)
      refine j_iload_n (pc := 39) C 1 dJ5_append_3fe6f_39 rfl ?_
      refine j_i2b (pc := 40) C dJ5_append_3fe6f_40 ?_
      refine n_bast (pc := 41) C dJ5_append_3fe6f_41 h (fun M16 h => ?_)
      refine j_goto (pc := 42) C 75 dJ5_append_3fe6f_42 (by decide) ?_
      refine j_aload_n (pc := 75) C 0 dJ5_append_3fe6f_75 rfl ?_
      exact j_nret (pc := 76) (some x0) (Or.inl ⟨_, rfl⟩) C dJ5_append_3fe6f_76 (Nat.le_of_ble_eq_true rfl) (Nat.le_of_ble_eq_true rfl) h
abbrev rm_J6_stringSize_0f7a4 : Room := { frames := 0, cells := 0, slots := 0, locals := 0 }
def l_J6_stringSize_0f7a4_16 (P : Int32 → Mm → Prop) (K27 : Mm → Int32 → Int32 → Prop) (K42 : Mm → Int32 → Prop) : Nat → Mm → Int32 → Int32 → Int32 → Int32 → Prop
  | 0, _, _, _, _, _ => False
  | n + 1, M, x0, x1, x2, x3 => (if (10 : Int32) ≤ x3 then K42 M x1 else (if x0 ≤ x2 then l_J6_stringSize_0f7a4_16 P K27 K42 n M x0 x1 ((10 : Int32) * x2) (x3 + (1 : Int32)) else K27 M x1 x3))
set_option maxHeartbeats 4000000 in
set_option maxRecDepth 100000 in
theorem jl_J6_stringSize_0f7a4_16 {P : Int32 → Mm → Prop} {K27 : Mm → Int32 → Int32 → Prop} {K42 : Mm → Int32 → Prop} (C : Cx p l s m args meth c cJ6_stringSize_0f7a4 4 RJ6 (some .int) E) (hkc : kc ≤ rm_J6_stringSize_0f7a4.cells ∧ ks ≤ rm_J6_stringSize_0f7a4.slots) (k27 : ∀ M x1 x3, K27 M x1 x3 → J p l e rm_J6_stringSize_0f7a4 s m args below meth c (QI below E P args s rm_J6_stringSize_0f7a4.cells rm_J6_stringSize_0f7a4.slots) E 4 M kc ks 27 [(1, .int x1), (3, .int x3)] []) (k42 : ∀ M x1, K42 M x1 → J p l e rm_J6_stringSize_0f7a4 s m args below meth c (QI below E P args s rm_J6_stringSize_0f7a4.cells rm_J6_stringSize_0f7a4.slots) E 4 M kc ks 42 [(1, .int x1)] []) : ∀ n M x0 x1 x2 x3, l_J6_stringSize_0f7a4_16 P K27 K42 n M x0 x1 x2 x3 → J p l e rm_J6_stringSize_0f7a4 s m args below meth c (QI below E P args s rm_J6_stringSize_0f7a4.cells rm_J6_stringSize_0f7a4.slots) E 4 M kc ks 16 [(0, .int x0), (1, .int x1), (2, .int x2), (3, .int x3)] [] := by
  intro n
  induction n with
  | zero => intro M x0 x1 x2 x3 h; exact h.elim
  | succ n ih =>
    intro M x0 x1 x2 x3 h
    rw [l_J6_stringSize_0f7a4_16] at h
    refine j_iload_n (pc := 16) C 3 dJ6_stringSize_0f7a4_16 rfl ?_
    refine j_bipush (pc := 17) (v := (10 : Int32)) C dJ6_stringSize_0f7a4_17 rfl ?_
    refine j_icmp_ge (pc := 19) C 42 dJ6_stringSize_0f7a4_19 (by decide) h (fun h => ?_) (fun h => ?_)
    · exact j_weak [1] rfl (k42 _ _ h)
    · refine j_iload_n (pc := 22) C 0 dJ6_stringSize_0f7a4_22 rfl ?_
      refine j_iload_n (pc := 23) C 2 dJ6_stringSize_0f7a4_23 rfl ?_
      refine j_icmp_le (pc := 24) C 31 dJ6_stringSize_0f7a4_24 (by decide) h (fun h => ?_) (fun h => ?_)
      · refine j_bipush (pc := 31) (v := (10 : Int32)) C dJ6_stringSize_0f7a4_31 rfl ?_
        refine j_iload_n (pc := 33) C 2 dJ6_stringSize_0f7a4_33 rfl ?_
        refine j_imul (pc := 34) C dJ6_stringSize_0f7a4_34 ?_
        refine j_istore_n (pc := 35) C [(2, _), (0, _), (1, _), (3, _)] dJ6_stringSize_0f7a4_35 (by decide) rfl ?_
        refine j_iinc (pc := 36) (v := (1 : Int32)) C 3 [(3, _), (2, _), (0, _), (1, _)] dJ6_stringSize_0f7a4_36 rfl rfl (by decide) rfl ?_
        refine j_goto (pc := 39) C 16 dJ6_stringSize_0f7a4_39 (by decide) ?_
        exact j_weak [2, 3, 1, 0] rfl (ih _ _ _ _ _ h)
      · exact j_weak [1, 3] rfl (k27 _ _ _ h)
def w_J6_stringSize_0f7a4 (M : Mm) (x0 : Int32) (P : Int32 → Mm → Prop) : Prop := (if x0 < 0 then (∃ n16, l_J6_stringSize_0f7a4_16 P (fun M1 x1_1 x3_1 => P (x3_1 + x1_1) M1) (fun M2 x1_2 => P ((10 : Int32) + x1_2) M2) n16 M x0 (1 : Int32) (-10 : Int32) (1 : Int32)) else (∃ n16, l_J6_stringSize_0f7a4_16 P (fun M3 x1_3 x3_3 => P (x3_3 + x1_3) M3) (fun M4 x1_4 => P ((10 : Int32) + x1_4) M4) n16 M (-x0) (0 : Int32) (-10 : Int32) (1 : Int32)))
set_option maxHeartbeats 4000000 in
set_option maxRecDepth 100000 in
theorem c_J6_stringSize_0f7a4 (l : Launch) (E : EV) (M : Mm) (x0 : Int32) (P : Int32 → Mm → Prop) (h : w_J6_stringSize_0f7a4 M x0 P) : CtI l E yJ6_stringSize_0f7a4 cJ6_stringSize_0f7a4 4 .int rm_J6_stringSize_0f7a4 0 0 [.int x0] M P := by
  refine ctI_of (by decide +kernel) (Nat.le_of_ble_eq_true rfl) ?_
  intro p e s m args below meth c C
  rw [w_J6_stringSize_0f7a4] at h
  show J p l e rm_J6_stringSize_0f7a4 s m args below meth c (QI below E P args s 0 0) E 4 M 0 0 0 [(0, .int x0)] []
  refine j_iconst (pc := 0) (v := (1 : Int32)) C dJ6_stringSize_0f7a4_0 rfl ?_
  refine j_istore_n (pc := 1) C [(1, _), (0, _)] dJ6_stringSize_0f7a4_1 (by decide) rfl ?_
  refine j_iload_n (pc := 2) C 1 dJ6_stringSize_0f7a4_2 rfl ?_
  refine j_if_lt (pc := 3) C 11 dJ6_stringSize_0f7a4_3 (by decide) h (fun h => ?_) (fun h => ?_)
  · refine j_bipush (pc := 11) (v := (-10 : Int32)) C dJ6_stringSize_0f7a4_11 rfl ?_
    refine j_istore_n (pc := 13) C [(2, _), (1, _), (0, _)] dJ6_stringSize_0f7a4_13 (by decide) rfl ?_
    refine j_iconst (pc := 14) (v := (1 : Int32)) C dJ6_stringSize_0f7a4_14 rfl ?_
    refine j_istore_n (pc := 15) C [(3, _), (2, _), (1, _), (0, _)] dJ6_stringSize_0f7a4_15 (by decide) rfl ?_
    obtain ⟨n16, h⟩ := h
    refine j_weak [3, 2, 1, 0] rfl (jl_J6_stringSize_0f7a4_16 C ⟨Nat.le_of_ble_eq_true rfl, Nat.le_of_ble_eq_true rfl⟩ (fun M1 x1_1 x3_1 h => ?_) (fun M2 x1_2 h => ?_) n16 _ _ _ _ _ h)
    · refine j_iload_n (pc := 27) C 1 dJ6_stringSize_0f7a4_27 rfl ?_
      refine j_iload_n (pc := 28) C 0 dJ6_stringSize_0f7a4_28 rfl ?_
      refine j_iadd (pc := 29) C dJ6_stringSize_0f7a4_29 ?_
      exact j_iret (pc := 30) C dJ6_stringSize_0f7a4_30 (Nat.le_of_ble_eq_true rfl) (Nat.le_of_ble_eq_true rfl) h
    · refine j_bipush (pc := 42) (v := (10 : Int32)) C dJ6_stringSize_0f7a4_42 rfl ?_
      refine j_iload_n (pc := 44) C 0 dJ6_stringSize_0f7a4_44 rfl ?_
      refine j_iadd (pc := 45) C dJ6_stringSize_0f7a4_45 ?_
      exact j_iret (pc := 46) C dJ6_stringSize_0f7a4_46 (Nat.le_of_ble_eq_true rfl) (Nat.le_of_ble_eq_true rfl) h
  · refine j_iconst (pc := 6) (v := (0 : Int32)) C dJ6_stringSize_0f7a4_6 rfl ?_
    refine j_istore_n (pc := 7) C [(1, _), (0, _)] dJ6_stringSize_0f7a4_7 (by decide) rfl ?_
    refine j_iload_n (pc := 8) C 1 dJ6_stringSize_0f7a4_8 rfl ?_
    refine j_ineg (pc := 9) C dJ6_stringSize_0f7a4_9 ?_
    refine j_istore_n (pc := 10) C [(0, _), (1, _)] dJ6_stringSize_0f7a4_10 (by decide) rfl ?_
    refine j_bipush (pc := 11) (v := (-10 : Int32)) C dJ6_stringSize_0f7a4_11 rfl ?_
    refine j_istore_n (pc := 13) C [(2, _), (0, _), (1, _)] dJ6_stringSize_0f7a4_13 (by decide) rfl ?_
    refine j_iconst (pc := 14) (v := (1 : Int32)) C dJ6_stringSize_0f7a4_14 rfl ?_
    refine j_istore_n (pc := 15) C [(3, _), (2, _), (0, _), (1, _)] dJ6_stringSize_0f7a4_15 (by decide) rfl ?_
    obtain ⟨n16, h⟩ := h
    refine j_weak [2, 3, 1, 0] rfl (jl_J6_stringSize_0f7a4_16 C ⟨Nat.le_of_ble_eq_true rfl, Nat.le_of_ble_eq_true rfl⟩ (fun M3 x1_3 x3_3 h => ?_) (fun M4 x1_4 h => ?_) n16 _ _ _ _ _ h)
    · refine j_iload_n (pc := 27) C 1 dJ6_stringSize_0f7a4_27 rfl ?_
      refine j_iload_n (pc := 28) C 0 dJ6_stringSize_0f7a4_28 rfl ?_
      refine j_iadd (pc := 29) C dJ6_stringSize_0f7a4_29 ?_
      exact j_iret (pc := 30) C dJ6_stringSize_0f7a4_30 (Nat.le_of_ble_eq_true rfl) (Nat.le_of_ble_eq_true rfl) h
    · refine j_bipush (pc := 42) (v := (10 : Int32)) C dJ6_stringSize_0f7a4_42 rfl ?_
      refine j_iload_n (pc := 44) C 0 dJ6_stringSize_0f7a4_44 rfl ?_
      refine j_iadd (pc := 45) C dJ6_stringSize_0f7a4_45 ?_
      exact j_iret (pc := 46) C dJ6_stringSize_0f7a4_46 (Nat.le_of_ble_eq_true rfl) (Nat.le_of_ble_eq_true rfl) h
abbrev rm_J6_getChars_ba4f3 : Room := { frames := 0, cells := 0, slots := 0, locals := 0 }
def l_J6_getChars_ba4f3_22 (P : Int32 → Mm → Prop) (K72 : Mm → Int32 → Nat → Int32 → Int32 → Prop) : Nat → Mm → Int32 → Nat → Int32 → Int32 → Prop
  | 0, _, _, _, _, _ => False
  | n + 1, M, x0, x2, x5, x6 => (if (-100 : Int32) < x0 then K72 M x0 x2 x5 x6 else ¬ (100 : Int32) = 0 ∧ vp_in (((x0 / (100 : Int32)) * (100 : Int32)) - x0) 100 ∧ zk M x2 = 9 ∧ vp_in (x5 + (-1 : Int32)) (zl M x2) ∧ (∀ M2, M2 = sI M x2 (x5 + (-1 : Int32)).toNatClampNeg (vp_nar .byte (zDig true (((x0 / (100 : Int32)) * (100 : Int32)) - x0).toNatClampNeg)) → vp_in (((x0 / (100 : Int32)) * (100 : Int32)) - x0) 100 ∧ zk M2 x2 = 9 ∧ vp_in ((x5 + (-1 : Int32)) + (-1 : Int32)) (zl M2 x2) ∧ (∀ M4, M4 = sI M2 x2 ((x5 + (-1 : Int32)) + (-1 : Int32)).toNatClampNeg (vp_nar .byte (zDig false (((x0 / (100 : Int32)) * (100 : Int32)) - x0).toNatClampNeg)) → l_J6_getChars_ba4f3_22 P K72 n M4 (x0 / (100 : Int32)) x2 ((x5 + (-1 : Int32)) + (-1 : Int32)) x6)))
set_option maxHeartbeats 4000000 in
set_option maxRecDepth 100000 in
theorem jl_J6_getChars_ba4f3_22 {P : Int32 → Mm → Prop} {K72 : Mm → Int32 → Nat → Int32 → Int32 → Prop} (C : Cx p l s m args meth c cJ6_getChars_ba4f3 7 RJ6 (some .int) E) (hkc : kc ≤ rm_J6_getChars_ba4f3.cells ∧ ks ≤ rm_J6_getChars_ba4f3.slots) (k72 : ∀ M x0 x2 x5 x6, K72 M x0 x2 x5 x6 → J p l e rm_J6_getChars_ba4f3 s m args below meth c (QI below E P args s rm_J6_getChars_ba4f3.cells rm_J6_getChars_ba4f3.slots) E 7 M kc ks 72 [(0, .int x0), (2, .ref x2), (5, .int x5), (6, .int x6)] []) : ∀ n M x0 x2 x5 x6, l_J6_getChars_ba4f3_22 P K72 n M x0 x2 x5 x6 → J p l e rm_J6_getChars_ba4f3 s m args below meth c (QI below E P args s rm_J6_getChars_ba4f3.cells rm_J6_getChars_ba4f3.slots) E 7 M kc ks 22 [(0, .int x0), (2, .ref x2), (5, .int x5), (6, .int x6)] [] := by
  intro n
  induction n with
  | zero => intro M x0 x2 x5 x6 h; exact h.elim
  | succ n ih =>
    intro M x0 x2 x5 x6 h
    rw [l_J6_getChars_ba4f3_22] at h
    refine j_iload_n (pc := 22) C 0 dJ6_getChars_ba4f3_22 rfl ?_
    refine j_bipush (pc := 23) (v := (-100 : Int32)) C dJ6_getChars_ba4f3_23 rfl ?_
    refine j_icmp_gt (pc := 25) C 72 dJ6_getChars_ba4f3_25 (by decide) h (fun h => ?_) (fun h => ?_)
    · exact j_weak [0, 1, 2, 3] rfl (k72 _ _ _ _ _ h)
    · refine j_iload_n (pc := 28) C 0 dJ6_getChars_ba4f3_28 rfl ?_
      refine j_bipush (pc := 29) (v := (100 : Int32)) C dJ6_getChars_ba4f3_29 rfl ?_
      refine j_idiv (pc := 31) C dJ6_getChars_ba4f3_31 h (fun h => ?_)
      refine j_istore_n (pc := 32) C [(3, _), (0, _), (2, _), (5, _), (6, _)] dJ6_getChars_ba4f3_32 (by decide) rfl ?_
      refine j_iload_n (pc := 33) C 0 dJ6_getChars_ba4f3_33 rfl ?_
      refine j_bipush (pc := 34) (v := (100 : Int32)) C dJ6_getChars_ba4f3_34 rfl ?_
      refine j_imul (pc := 36) C dJ6_getChars_ba4f3_36 ?_
      refine j_iload_n (pc := 37) C 1 dJ6_getChars_ba4f3_37 rfl ?_
      refine j_isub (pc := 38) C dJ6_getChars_ba4f3_38 ?_
      refine j_istore (pc := 39) C [(4, _), (3, _), (0, _), (2, _), (5, _), (6, _)] dJ6_getChars_ba4f3_39 (by decide) rfl ?_
      refine j_iload_n (pc := 41) C 1 dJ6_getChars_ba4f3_41 rfl ?_
      refine j_istore_n (pc := 42) C [(0, _), (4, _), (3, _), (2, _), (5, _), (6, _)] dJ6_getChars_ba4f3_42 (by decide) rfl ?_
      refine j_aload_n (pc := 43) C 3 dJ6_getChars_ba4f3_43 rfl ?_
      refine j_iinc (pc := 44) (v := (-1 : Int32)) C 4 [(5, _), (0, _), (4, _), (3, _), (2, _), (6, _)] dJ6_getChars_ba4f3_44 rfl rfl (by decide) rfl ?_
      refine j_iload (pc := 47) C 0 dJ6_getChars_ba4f3_47 rfl ?_
      refine j_gdig1 (pc := 49) C wd_549 dJ6_getChars_ba4f3_49 (fun t1 hT1 => ?_)
      refine j_iload (pc := 52) C 2 dJ6_getChars_ba4f3_52 rfl ?_
      refine j_dbald (pc := 54) C hT1 dJ6_getChars_ba4f3_54 h (fun h => ?_)
      refine n_bast (pc := 55) C dJ6_getChars_ba4f3_55 h (fun M2 h => ?_)
      refine j_aload_n (pc := 56) C 4 dJ6_getChars_ba4f3_56 rfl ?_
      refine j_iinc (pc := 57) (v := (-1 : Int32)) C 0 [(5, _), (0, _), (4, _), (3, _), (2, _), (6, _)] dJ6_getChars_ba4f3_57 rfl rfl (by decide) rfl ?_
      refine j_iload (pc := 60) C 0 dJ6_getChars_ba4f3_60 rfl ?_
      refine j_gdig0 (pc := 62) C wd_551 dJ6_getChars_ba4f3_62 (fun t3 hT3 => ?_)
      refine j_iload (pc := 65) C 2 dJ6_getChars_ba4f3_65 rfl ?_
      refine j_dbald (pc := 67) C hT3 dJ6_getChars_ba4f3_67 h (fun h => ?_)
      refine n_bast (pc := 68) C dJ6_getChars_ba4f3_68 h (fun M4 h => ?_)
      refine j_goto (pc := 69) C 22 dJ6_getChars_ba4f3_69 (by decide) ?_
      exact j_weak [1, 4, 0, 5] rfl (ih _ _ _ _ _ h)
def w_J6_getChars_ba4f3 (M : Mm) (x0 : Int32) (x1 : Int32) (x2 : Nat) (P : Int32 → Mm → Prop) : Prop := (if 0 ≤ x0 then (∃ n22, l_J6_getChars_ba4f3_22 P (fun M5 x0_5 x2_5 x5_5 x6_5 => vp_in (-x0_5) 100 ∧ zk M5 x2_5 = 9 ∧ vp_in (x5_5 + (-1 : Int32)) (zl M5 x2_5) ∧ (∀ M7, M7 = sI M5 x2_5 (x5_5 + (-1 : Int32)).toNatClampNeg (vp_nar .byte (zDig true (-x0_5).toNatClampNeg)) → (if (-9 : Int32) ≤ x0_5 then (if x6_5 = 0 then P (x5_5 + (-1 : Int32)) M7 else zk M7 x2_5 = 9 ∧ vp_in ((x5_5 + (-1 : Int32)) + (-1 : Int32)) (zl M7 x2_5) ∧ (∀ M8, M8 = sI M7 x2_5 ((x5_5 + (-1 : Int32)) + (-1 : Int32)).toNatClampNeg (vp_nar .byte (45 : Int32)) → P ((x5_5 + (-1 : Int32)) + (-1 : Int32)) M8)) else vp_in (-x0_5) 100 ∧ zk M7 x2_5 = 9 ∧ vp_in ((x5_5 + (-1 : Int32)) + (-1 : Int32)) (zl M7 x2_5) ∧ (∀ M10, M10 = sI M7 x2_5 ((x5_5 + (-1 : Int32)) + (-1 : Int32)).toNatClampNeg (vp_nar .byte (zDig false (-x0_5).toNatClampNeg)) → (if x6_5 = 0 then P ((x5_5 + (-1 : Int32)) + (-1 : Int32)) M10 else zk M10 x2_5 = 9 ∧ vp_in (((x5_5 + (-1 : Int32)) + (-1 : Int32)) + (-1 : Int32)) (zl M10 x2_5) ∧ (∀ M11, M11 = sI M10 x2_5 (((x5_5 + (-1 : Int32)) + (-1 : Int32)) + (-1 : Int32)).toNatClampNeg (vp_nar .byte (45 : Int32)) → P (((x5_5 + (-1 : Int32)) + (-1 : Int32)) + (-1 : Int32)) M11)))))) n22 M (-x0) x2 x1 (0 : Int32)) else (∃ n22, l_J6_getChars_ba4f3_22 P (fun M12 x0_12 x2_12 x5_12 x6_12 => vp_in (-x0_12) 100 ∧ zk M12 x2_12 = 9 ∧ vp_in (x5_12 + (-1 : Int32)) (zl M12 x2_12) ∧ (∀ M14, M14 = sI M12 x2_12 (x5_12 + (-1 : Int32)).toNatClampNeg (vp_nar .byte (zDig true (-x0_12).toNatClampNeg)) → (if (-9 : Int32) ≤ x0_12 then (if x6_12 = 0 then P (x5_12 + (-1 : Int32)) M14 else zk M14 x2_12 = 9 ∧ vp_in ((x5_12 + (-1 : Int32)) + (-1 : Int32)) (zl M14 x2_12) ∧ (∀ M15, M15 = sI M14 x2_12 ((x5_12 + (-1 : Int32)) + (-1 : Int32)).toNatClampNeg (vp_nar .byte (45 : Int32)) → P ((x5_12 + (-1 : Int32)) + (-1 : Int32)) M15)) else vp_in (-x0_12) 100 ∧ zk M14 x2_12 = 9 ∧ vp_in ((x5_12 + (-1 : Int32)) + (-1 : Int32)) (zl M14 x2_12) ∧ (∀ M17, M17 = sI M14 x2_12 ((x5_12 + (-1 : Int32)) + (-1 : Int32)).toNatClampNeg (vp_nar .byte (zDig false (-x0_12).toNatClampNeg)) → (if x6_12 = 0 then P ((x5_12 + (-1 : Int32)) + (-1 : Int32)) M17 else zk M17 x2_12 = 9 ∧ vp_in (((x5_12 + (-1 : Int32)) + (-1 : Int32)) + (-1 : Int32)) (zl M17 x2_12) ∧ (∀ M18, M18 = sI M17 x2_12 (((x5_12 + (-1 : Int32)) + (-1 : Int32)) + (-1 : Int32)).toNatClampNeg (vp_nar .byte (45 : Int32)) → P (((x5_12 + (-1 : Int32)) + (-1 : Int32)) + (-1 : Int32)) M18)))))) n22 M x0 x2 x1 (1 : Int32)))
set_option maxHeartbeats 4000000 in
set_option maxRecDepth 100000 in
theorem c_J6_getChars_ba4f3 (l : Launch) (E : EV) (M : Mm) (x0 : Int32) (x1 : Int32) (x2 : Nat) (P : Int32 → Mm → Prop) (h : w_J6_getChars_ba4f3 M x0 x1 x2 P) : CtI l E yJ6_getChars_ba4f3 cJ6_getChars_ba4f3 7 .int rm_J6_getChars_ba4f3 0 0 [.int x0, .int x1, .ref x2] M P := by
  refine ctI_of (by decide +kernel) (Nat.le_of_ble_eq_true rfl) ?_
  intro p e s m args below meth c C
  rw [w_J6_getChars_ba4f3] at h
  show J p l e rm_J6_getChars_ba4f3 s m args below meth c (QI below E P args s 0 0) E 7 M 0 0 0 [(0, .int x0), (1, .int x1), (2, .ref x2)] []
  refine j_iload_n (pc := 0) C 1 dJ6_getChars_ba4f3_0 rfl ?_
  refine j_istore (pc := 1) C [(5, _), (0, _), (1, _), (2, _)] dJ6_getChars_ba4f3_1 (by decide) rfl ?_
  refine j_iload_n (pc := 3) C 1 dJ6_getChars_ba4f3_3 rfl ?_
  refine j_if_ge (pc := 4) C 11 dJ6_getChars_ba4f3_4 (by decide) h (fun h => ?_) (fun h => ?_)
  · refine j_iconst (pc := 11) (v := (0 : Int32)) C dJ6_getChars_ba4f3_11 rfl ?_
    refine j_istore (pc := 12) C [(6, _), (5, _), (0, _), (1, _), (2, _)] dJ6_getChars_ba4f3_12 (by decide) rfl ?_
    refine j_iload (pc := 14) C 0 dJ6_getChars_ba4f3_14 rfl ?_
    refine j_if_ne (pc := 16) (A := False) (B := True) C 22 dJ6_getChars_ba4f3_16 (by decide) (by first | rw [if_pos (by decide)] ; trivial | rw [if_neg (by decide)] ; trivial) (fun z => z.elim) (fun _ => ?_)
    refine j_iload_n (pc := 19) C 2 dJ6_getChars_ba4f3_19 rfl ?_
    refine j_ineg (pc := 20) C dJ6_getChars_ba4f3_20 ?_
    refine j_istore_n (pc := 21) C [(0, _), (6, _), (5, _), (1, _), (2, _)] dJ6_getChars_ba4f3_21 (by decide) rfl ?_
    obtain ⟨n22, h⟩ := h
    refine j_weak [0, 4, 2, 1] rfl (jl_J6_getChars_ba4f3_22 C ⟨Nat.le_of_ble_eq_true rfl, Nat.le_of_ble_eq_true rfl⟩ (fun M5 x0_5 x2_5 x5_5 x6_5 h => ?_) n22 _ _ _ _ _ h)
    · refine j_aload_n (pc := 72) C 1 dJ6_getChars_ba4f3_72 rfl ?_
      refine j_iinc (pc := 73) (v := (-1 : Int32)) C 2 [(5, _), (0, _), (2, _), (6, _)] dJ6_getChars_ba4f3_73 rfl rfl (by decide) rfl ?_
      refine j_iload (pc := 76) C 0 dJ6_getChars_ba4f3_76 rfl ?_
      refine j_gdig1 (pc := 78) C wd_549 dJ6_getChars_ba4f3_78 (fun t6 hT6 => ?_)
      refine j_iload_n (pc := 81) C 1 dJ6_getChars_ba4f3_81 rfl ?_
      refine j_ineg (pc := 82) C dJ6_getChars_ba4f3_82 ?_
      refine j_dbald (pc := 83) C hT6 dJ6_getChars_ba4f3_83 h (fun h => ?_)
      refine n_bast (pc := 84) C dJ6_getChars_ba4f3_84 h (fun M7 h => ?_)
      refine j_iload_n (pc := 85) C 1 dJ6_getChars_ba4f3_85 rfl ?_
      refine j_bipush (pc := 86) (v := (-9 : Int32)) C dJ6_getChars_ba4f3_86 rfl ?_
      refine j_icmp_ge (pc := 88) C 104 dJ6_getChars_ba4f3_88 (by decide) h (fun h => ?_) (fun h => ?_)
      · refine j_iload (pc := 104) C 3 dJ6_getChars_ba4f3_104 rfl ?_
        refine j_if_eq (pc := 106) C 118 dJ6_getChars_ba4f3_106 (by decide) h (fun h => ?_) (fun h => ?_)
        · refine j_iload (pc := 118) C 0 dJ6_getChars_ba4f3_118 rfl ?_
          exact j_iret (pc := 120) C dJ6_getChars_ba4f3_120 (Nat.le_of_ble_eq_true rfl) (Nat.le_of_ble_eq_true rfl) h
        · refine j_aload_n (pc := 109) C 2 dJ6_getChars_ba4f3_109 rfl ?_
          refine j_iinc (pc := 110) (v := (-1 : Int32)) C 0 [(5, _), (0, _), (2, _), (6, _)] dJ6_getChars_ba4f3_110 rfl rfl (by decide) rfl ?_
          refine j_iload (pc := 113) C 0 dJ6_getChars_ba4f3_113 rfl ?_
          refine j_bipush (pc := 115) (v := (45 : Int32)) C dJ6_getChars_ba4f3_115 rfl ?_
          refine n_bast (pc := 117) C dJ6_getChars_ba4f3_117 h (fun M8 h => ?_)
          refine j_iload (pc := 118) C 0 dJ6_getChars_ba4f3_118 rfl ?_
          exact j_iret (pc := 120) C dJ6_getChars_ba4f3_120 (Nat.le_of_ble_eq_true rfl) (Nat.le_of_ble_eq_true rfl) h
      · refine j_aload_n (pc := 91) C 2 dJ6_getChars_ba4f3_91 rfl ?_
        refine j_iinc (pc := 92) (v := (-1 : Int32)) C 0 [(5, _), (0, _), (2, _), (6, _)] dJ6_getChars_ba4f3_92 rfl rfl (by decide) rfl ?_
        refine j_iload (pc := 95) C 0 dJ6_getChars_ba4f3_95 rfl ?_
        refine j_gdig0 (pc := 97) C wd_551 dJ6_getChars_ba4f3_97 (fun t9 hT9 => ?_)
        refine j_iload_n (pc := 100) C 1 dJ6_getChars_ba4f3_100 rfl ?_
        refine j_ineg (pc := 101) C dJ6_getChars_ba4f3_101 ?_
        refine j_dbald (pc := 102) C hT9 dJ6_getChars_ba4f3_102 h (fun h => ?_)
        refine n_bast (pc := 103) C dJ6_getChars_ba4f3_103 h (fun M10 h => ?_)
        refine j_iload (pc := 104) C 3 dJ6_getChars_ba4f3_104 rfl ?_
        refine j_if_eq (pc := 106) C 118 dJ6_getChars_ba4f3_106 (by decide) h (fun h => ?_) (fun h => ?_)
        · refine j_iload (pc := 118) C 0 dJ6_getChars_ba4f3_118 rfl ?_
          exact j_iret (pc := 120) C dJ6_getChars_ba4f3_120 (Nat.le_of_ble_eq_true rfl) (Nat.le_of_ble_eq_true rfl) h
        · refine j_aload_n (pc := 109) C 2 dJ6_getChars_ba4f3_109 rfl ?_
          refine j_iinc (pc := 110) (v := (-1 : Int32)) C 0 [(5, _), (0, _), (2, _), (6, _)] dJ6_getChars_ba4f3_110 rfl rfl (by decide) rfl ?_
          refine j_iload (pc := 113) C 0 dJ6_getChars_ba4f3_113 rfl ?_
          refine j_bipush (pc := 115) (v := (45 : Int32)) C dJ6_getChars_ba4f3_115 rfl ?_
          refine n_bast (pc := 117) C dJ6_getChars_ba4f3_117 h (fun M11 h => ?_)
          refine j_iload (pc := 118) C 0 dJ6_getChars_ba4f3_118 rfl ?_
          exact j_iret (pc := 120) C dJ6_getChars_ba4f3_120 (Nat.le_of_ble_eq_true rfl) (Nat.le_of_ble_eq_true rfl) h
  · refine j_iconst (pc := 7) (v := (1 : Int32)) C dJ6_getChars_ba4f3_7 rfl ?_
    refine j_goto (pc := 8) C 12 dJ6_getChars_ba4f3_8 (by decide) ?_
    refine j_istore (pc := 12) C [(6, _), (5, _), (0, _), (1, _), (2, _)] dJ6_getChars_ba4f3_12 (by decide) rfl ?_
    refine j_iload (pc := 14) C 0 dJ6_getChars_ba4f3_14 rfl ?_
    refine j_if_ne (pc := 16) (A := True) (B := False) C 22 dJ6_getChars_ba4f3_16 (by decide) (by first | rw [if_pos (by decide)] ; trivial | rw [if_neg (by decide)] ; trivial) (fun _ => ?_) (fun z => z.elim)
    obtain ⟨n22, h⟩ := h
    refine j_weak [2, 4, 1, 0] rfl (jl_J6_getChars_ba4f3_22 C ⟨Nat.le_of_ble_eq_true rfl, Nat.le_of_ble_eq_true rfl⟩ (fun M12 x0_12 x2_12 x5_12 x6_12 h => ?_) n22 _ _ _ _ _ h)
    · refine j_aload_n (pc := 72) C 1 dJ6_getChars_ba4f3_72 rfl ?_
      refine j_iinc (pc := 73) (v := (-1 : Int32)) C 2 [(5, _), (0, _), (2, _), (6, _)] dJ6_getChars_ba4f3_73 rfl rfl (by decide) rfl ?_
      refine j_iload (pc := 76) C 0 dJ6_getChars_ba4f3_76 rfl ?_
      refine j_gdig1 (pc := 78) C wd_549 dJ6_getChars_ba4f3_78 (fun t13 hT13 => ?_)
      refine j_iload_n (pc := 81) C 1 dJ6_getChars_ba4f3_81 rfl ?_
      refine j_ineg (pc := 82) C dJ6_getChars_ba4f3_82 ?_
      refine j_dbald (pc := 83) C hT13 dJ6_getChars_ba4f3_83 h (fun h => ?_)
      refine n_bast (pc := 84) C dJ6_getChars_ba4f3_84 h (fun M14 h => ?_)
      refine j_iload_n (pc := 85) C 1 dJ6_getChars_ba4f3_85 rfl ?_
      refine j_bipush (pc := 86) (v := (-9 : Int32)) C dJ6_getChars_ba4f3_86 rfl ?_
      refine j_icmp_ge (pc := 88) C 104 dJ6_getChars_ba4f3_88 (by decide) h (fun h => ?_) (fun h => ?_)
      · refine j_iload (pc := 104) C 3 dJ6_getChars_ba4f3_104 rfl ?_
        refine j_if_eq (pc := 106) C 118 dJ6_getChars_ba4f3_106 (by decide) h (fun h => ?_) (fun h => ?_)
        · refine j_iload (pc := 118) C 0 dJ6_getChars_ba4f3_118 rfl ?_
          exact j_iret (pc := 120) C dJ6_getChars_ba4f3_120 (Nat.le_of_ble_eq_true rfl) (Nat.le_of_ble_eq_true rfl) h
        · refine j_aload_n (pc := 109) C 2 dJ6_getChars_ba4f3_109 rfl ?_
          refine j_iinc (pc := 110) (v := (-1 : Int32)) C 0 [(5, _), (0, _), (2, _), (6, _)] dJ6_getChars_ba4f3_110 rfl rfl (by decide) rfl ?_
          refine j_iload (pc := 113) C 0 dJ6_getChars_ba4f3_113 rfl ?_
          refine j_bipush (pc := 115) (v := (45 : Int32)) C dJ6_getChars_ba4f3_115 rfl ?_
          refine n_bast (pc := 117) C dJ6_getChars_ba4f3_117 h (fun M15 h => ?_)
          refine j_iload (pc := 118) C 0 dJ6_getChars_ba4f3_118 rfl ?_
          exact j_iret (pc := 120) C dJ6_getChars_ba4f3_120 (Nat.le_of_ble_eq_true rfl) (Nat.le_of_ble_eq_true rfl) h
      · refine j_aload_n (pc := 91) C 2 dJ6_getChars_ba4f3_91 rfl ?_
        refine j_iinc (pc := 92) (v := (-1 : Int32)) C 0 [(5, _), (0, _), (2, _), (6, _)] dJ6_getChars_ba4f3_92 rfl rfl (by decide) rfl ?_
        refine j_iload (pc := 95) C 0 dJ6_getChars_ba4f3_95 rfl ?_
        refine j_gdig0 (pc := 97) C wd_551 dJ6_getChars_ba4f3_97 (fun t16 hT16 => ?_)
        refine j_iload_n (pc := 100) C 1 dJ6_getChars_ba4f3_100 rfl ?_
        refine j_ineg (pc := 101) C dJ6_getChars_ba4f3_101 ?_
        refine j_dbald (pc := 102) C hT16 dJ6_getChars_ba4f3_102 h (fun h => ?_)
        refine n_bast (pc := 103) C dJ6_getChars_ba4f3_103 h (fun M17 h => ?_)
        refine j_iload (pc := 104) C 3 dJ6_getChars_ba4f3_104 rfl ?_
        refine j_if_eq (pc := 106) C 118 dJ6_getChars_ba4f3_106 (by decide) h (fun h => ?_) (fun h => ?_)
        · refine j_iload (pc := 118) C 0 dJ6_getChars_ba4f3_118 rfl ?_
          exact j_iret (pc := 120) C dJ6_getChars_ba4f3_120 (Nat.le_of_ble_eq_true rfl) (Nat.le_of_ble_eq_true rfl) h
        · refine j_aload_n (pc := 109) C 2 dJ6_getChars_ba4f3_109 rfl ?_
          refine j_iinc (pc := 110) (v := (-1 : Int32)) C 0 [(5, _), (0, _), (2, _), (6, _)] dJ6_getChars_ba4f3_110 rfl rfl (by decide) rfl ?_
          refine j_iload (pc := 113) C 0 dJ6_getChars_ba4f3_113 rfl ?_
          refine j_bipush (pc := 115) (v := (45 : Int32)) C dJ6_getChars_ba4f3_115 rfl ?_
          refine n_bast (pc := 117) C dJ6_getChars_ba4f3_117 h (fun M18 h => ?_)
          refine j_iload (pc := 118) C 0 dJ6_getChars_ba4f3_118 rfl ?_
          exact j_iret (pc := 120) C dJ6_getChars_ba4f3_120 (Nat.le_of_ble_eq_true rfl) (Nat.le_of_ble_eq_true rfl) h
theorem c2_J5_245 (C : Cx p l s m args meth c cc nL RJ5 ret E) {y0 : Int32} {P : Int32 → Mm → Prop} (hR : rm_J6_stringSize_0f7a4.frames + 1 ≤ R.frames ∧ 8 + (4 + 11) + rm_J6_stringSize_0f7a4.locals ≤ R.locals) (hf : kc ≤ R.cells ∧ ks ≤ R.slots) (hst : (st.map fun v => v.category).sum ≤ 8) (d : decode cc pc = .ok (.invokestatic 245, 3)) (h : w_J6_stringSize_0f7a4 M y0 P) (kk : ∀ r M', P r M' → J p l e R s m args below meth c Q E nL M' kc ks (pc + 3) lo (.int r :: st)) : J p l e R s m args below meth c Q E nL M kc ks pc lo (.int y0 :: st) :=
  j_cS_I (n := 1) (As := [.int y0]) C wd_544 (c_J6_stringSize_0f7a4 l E M y0 P h) ⟨wd_545, wd_543, wd_56, by decide +kernel, by decide +kernel, by decide +kernel⟩ rfl rfl hR hf rfl hst d kk
theorem c2_J5_248 (C : Cx p l s m args meth c cc nL RJ5 ret E) {y0 : Int32} {y1 : Int32} {y2 : Nat} {P : Int32 → Mm → Prop} (hR : rm_J6_getChars_ba4f3.frames + 1 ≤ R.frames ∧ 8 + (7 + 11) + rm_J6_getChars_ba4f3.locals ≤ R.locals) (hf : kc ≤ R.cells ∧ ks ≤ R.slots) (hst : (st.map fun v => v.category).sum ≤ 8) (d : decode cc pc = .ok (.invokestatic 248, 3)) (h : w_J6_getChars_ba4f3 M y0 y1 y2 P) (kk : ∀ r M', P r M' → J p l e R s m args below meth c Q E nL M' kc ks (pc + 3) lo (.int r :: st)) : J p l e R s m args below meth c Q E nL M kc ks pc lo (.ref y2 :: .int y1 :: .int y0 :: st) :=
  j_cS_I (n := 3) (As := [.int y0, .int y1, .ref y2]) C wd_547 (c_J6_getChars_ba4f3 l E M y0 y1 y2 P h) ⟨wd_548, wd_546, wd_56, by decide +kernel, by decide +kernel, by decide +kernel⟩ rfl rfl hR hf rfl hst d kk
abbrev rm_J5_append_c97b9 : Room := { frames := 4, cells := 1, slots := 1400, locals := 104 }
def w_J5_append_c97b9 (M : Mm) (x0 : Nat) (x1 : Int32) (P : Option Nat → Mm → Prop) : Prop := zk M x0 = 16 ∧ w_J6_stringSize_0f7a4 M x1 (fun r2 M2 => zk M2 x0 = 16 ∧ w_J5_ensureCapacityInternal_d00df M2 x0 ((zI M x0 3) + r2) (fun M3 => zk M3 x0 = 16 ∧ w_J5_isLatin1_aae02 M3 x0 (fun r4 M4 => (if r4 = 0 then (zk M4 x0 = 16 ∧ ∃ a5, zR M4 x0 0 = some a5 ∧ False) else (zk M4 x0 = 16 ∧ ∃ a6, zR M4 x0 0 = some a6 ∧ w_J6_getChars_ba4f3 M4 x1 ((zI M x0 3) + r2) a6 (fun r7 M7 => zk M7 x0 = 16 ∧ (∀ M8, M8 = sI M7 x0 3 ((zI M x0 3) + r2) → P (some x0) M8)))))))
set_option maxHeartbeats 4000000 in
set_option maxRecDepth 100000 in
theorem c_J5_append_c97b9 (l : Launch) (E : EV) (M : Mm) (x0 : Nat) (x1 : Int32) (P : Option Nat → Mm → Prop) (h : w_J5_append_c97b9 M x0 x1 P) : CtN l E yJ5_append_c97b9 cJ5_append_c97b9 4 (.object "java/lang/AbstractStringBuilder") rm_J5_append_c97b9 1 1400 [.ref x0, .int x1] M P := by
  refine ctN_of (by decide +kernel) (Nat.le_of_ble_eq_true rfl) ?_
  intro p e s m args below meth c C
  rw [w_J5_append_c97b9] at h
  show J p l e rm_J5_append_c97b9 s m args below meth c (QN below E P args s 1 1400) E 4 M 0 0 0 [(0, .ref x0), (1, .int x1)] []
  refine j_aload_n (pc := 0) C 0 dJ5_append_c97b9_0 rfl ?_
  refine gf_J5_79 (pc := 1) C dJ5_append_c97b9_1 h (fun h => ?_)
  refine j_istore_n (pc := 4) C [(2, _), (0, _), (1, _)] dJ5_append_c97b9_4 (by decide) rfl ?_
  refine j_iload_n (pc := 5) C 0 dJ5_append_c97b9_5 rfl ?_
  refine j_iload_n (pc := 6) C 2 dJ5_append_c97b9_6 rfl ?_
  refine c2_J5_245 (pc := 7) C ⟨(Nat.le_of_ble_eq_true rfl), (Nat.le_of_ble_eq_true rfl)⟩ ⟨Nat.le_of_ble_eq_true rfl, Nat.le_of_ble_eq_true rfl⟩ (Nat.le_of_ble_eq_true rfl) dJ5_append_c97b9_7 h (fun r2 M2 h => ?_)
  refine j_iadd (pc := 10) C dJ5_append_c97b9_10 ?_
  refine j_istore_n (pc := 11) C [(3, _), (2, _), (0, _), (1, _)] dJ5_append_c97b9_11 (by decide) rfl ?_
  refine j_aload_n (pc := 12) C 2 dJ5_append_c97b9_12 rfl ?_
  refine j_iload_n (pc := 13) C 0 dJ5_append_c97b9_13 rfl ?_
  refine c2_J5_100 (pc := 14) C ⟨(Nat.le_of_ble_eq_true rfl), (Nat.le_of_ble_eq_true rfl)⟩ ⟨Nat.le_of_ble_eq_true rfl, Nat.le_of_ble_eq_true rfl⟩ (Nat.le_of_ble_eq_true rfl) dJ5_append_c97b9_14 h (fun M3 h => ?_)
  refine j_aload_n (pc := 17) C 2 dJ5_append_c97b9_17 rfl ?_
  refine c2_J5_83 (pc := 18) C ⟨(Nat.le_of_ble_eq_true rfl), (Nat.le_of_ble_eq_true rfl)⟩ ⟨Nat.le_of_ble_eq_true rfl, Nat.le_of_ble_eq_true rfl⟩ (Nat.le_of_ble_eq_true rfl) dJ5_append_c97b9_18 h (fun r4 M4 h => ?_)
  refine j_if_eq (pc := 21) C 37 dJ5_append_c97b9_21 (by decide) h (fun h => ?_) (fun h => ?_)
  · refine j_iload_n (pc := 37) C 3 dJ5_append_c97b9_37 rfl ?_
    refine j_iload_n (pc := 38) C 1 dJ5_append_c97b9_38 rfl ?_
    refine j_iload_n (pc := 39) C 0 dJ5_append_c97b9_39 rfl ?_
    refine j_aload_n (pc := 40) C 2 dJ5_append_c97b9_40 rfl ?_
    refine gf_J5_15 (pc := 41) C dJ5_append_c97b9_41 h (fun a5 h => ?_)
    exact h.elim
  · refine j_iload_n (pc := 24) C 3 dJ5_append_c97b9_24 rfl ?_
    refine j_iload_n (pc := 25) C 0 dJ5_append_c97b9_25 rfl ?_
    refine j_aload_n (pc := 26) C 2 dJ5_append_c97b9_26 rfl ?_
    refine gf_J5_15 (pc := 27) C dJ5_append_c97b9_27 h (fun a6 h => ?_)
    refine c2_J5_248 (pc := 30) C ⟨(Nat.le_of_ble_eq_true rfl), (Nat.le_of_ble_eq_true rfl)⟩ ⟨Nat.le_of_ble_eq_true rfl, Nat.le_of_ble_eq_true rfl⟩ (Nat.le_of_ble_eq_true rfl) dJ5_append_c97b9_30 h (fun r7 M7 h => ?_)
    refine j_pop (pc := 33) C dJ5_append_c97b9_33 rfl ?_
    refine j_goto (pc := 34) C 48 dJ5_append_c97b9_34 (by decide) ?_
    refine j_aload_n (pc := 48) C 2 dJ5_append_c97b9_48 rfl ?_
    refine j_iload_n (pc := 49) C 0 dJ5_append_c97b9_49 rfl ?_
    refine pf_J5_79 (pc := 50) C dJ5_append_c97b9_50 h (fun M8 h => ?_)
    refine j_aload_n (pc := 53) C 2 dJ5_append_c97b9_53 rfl ?_
    exact j_nret (pc := 54) (some x0) (Or.inl ⟨_, rfl⟩) C dJ5_append_c97b9_54 (Nat.le_of_ble_eq_true rfl) (Nat.le_of_ble_eq_true rfl) h
end GL5
