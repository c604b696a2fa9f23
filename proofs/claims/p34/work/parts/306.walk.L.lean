/-! written by a program (wip/p34/gen.py) out of the decode rows and the tables: walks of the law -/

section GL6
variable {p : Program} {l : Launch} {e : Env} {R : Room} {s : State} {m : MethodId} {args : Array Value} {below : List Frame} {meth : Method} {c : Code} {Q : State → Prop} {cc : ByteArray} {nL : Nat} {ret : Option FieldType} {E : EV} {M : Mm} {kc ks pc : Nat} {lo : List (Nat × Value)} {st : List Value}
theorem c2_J4_29_AS (C : Cx p l s m args meth c cc nL RJ4 ret E) {b : Nat} {y0 : Nat} {P : Option Nat → Mm → Prop} (hR : rm_J5_append_cf1ce_AS.frames + 1 ≤ R.frames ∧ 8 + (3 + 11) + rm_J5_append_cf1ce_AS.locals ≤ R.locals) (hf : kc + 1 ≤ R.cells ∧ ks + 1400 ≤ R.slots) (hst : (st.map fun v => v.category).sum ≤ 8) (d : decode cc pc = .ok (.invokespecial 29, 3)) (h : zk M b = 16 ∧ w_J5_append_cf1ce_AS M b y0 P) (kk : ∀ r M', P r M' → J p l e R s m args below meth c Q E nL M' (kc + 1) (ks + 1400) (pc + 3) lo (va_rf r :: st)) : J p l e R s m args below meth c Q E nL M kc ks pc lo (.ref (E.2.2.2.1 y0) :: .ref b :: st) :=
  j_cSU_N (n := 1) (As := [.ref (E.2.2.2.1 y0)]) C co_J4 h.1 (c_J5_append_cf1ce_AS l E M b y0 P h.2) (k_cs C wd_422 wd_420 wd_1384 wd_328 wd_421 wd_45 (by decide) (by decide +kernel) rfl rfl hR) hf rfl hst d kk
abbrev rm_J4_append_15ec4_AS : Room := { frames := 5, cells := 1, slots := 1400, locals := 127 }
def w_J4_append_15ec4_AS (M : Mm) (x0 : Nat) (x1 : Nat) (P : Option Nat → Mm → Prop) : Prop := zk M x0 = 16 ∧ w_J5_append_cf1ce_AS M x0 x1 (fun r1 M1 => ∃ a1, r1 = some a1 ∧ P (some x0) M1)
set_option maxHeartbeats 4000000 in
set_option maxRecDepth 100000 in
theorem c_J4_append_15ec4_AS (l : Launch) (E : EV) (M : Mm) (x0 : Nat) (x1 : Nat) (P : Option Nat → Mm → Prop) (h : w_J4_append_15ec4_AS M x0 x1 P) : CtN l E yJ4_append_15ec4 cJ4_append_15ec4 2 (.object "java/lang/StringBuilder") rm_J4_append_15ec4_AS 1 1400 [.ref x0, .ref (E.2.2.2.1 x1)] M P := by
  refine ctN_of (by decide +kernel) (Nat.le_of_ble_eq_true rfl) ?_
  intro p e s m args below meth c C
  rw [w_J4_append_15ec4_AS] at h
  show J p l e rm_J4_append_15ec4_AS s m args below meth c (QN below E P args s 1 1400) E 2 M 0 0 0 [(0, .ref x0), (1, .ref (E.2.2.2.1 x1))] []
  refine j_aload_n (pc := 0) C 0 dJ4_append_15ec4_0 rfl ?_
  refine j_aload_n (pc := 1) C 1 dJ4_append_15ec4_1 rfl ?_
  refine c2_J4_29_AS (pc := 2) C ⟨(Nat.le_of_ble_eq_true rfl), (Nat.le_of_ble_eq_true rfl)⟩ ⟨Nat.le_of_ble_eq_true rfl, Nat.le_of_ble_eq_true rfl⟩ (Nat.le_of_ble_eq_true rfl) dJ4_append_15ec4_2 h (fun r1 M1 h => ?_)
  obtain ⟨a1, rfl, h⟩ := h
  refine j_pop (pc := 5) C dJ4_append_15ec4_5 rfl ?_
  refine j_aload_n (pc := 6) C 0 dJ4_append_15ec4_6 rfl ?_
  exact j_nret (pc := 7) (some x0) (Or.inl ⟨_, rfl⟩) C dJ4_append_15ec4_7 (Nat.le_of_ble_eq_true rfl) (Nat.le_of_ble_eq_true rfl) h
theorem c2_J4_29_AA (C : Cx p l s m args meth c cc nL RJ4 ret E) {b : Nat} {y0 : Nat} {P : Option Nat → Mm → Prop} (hR : rm_J5_append_cf1ce_AA.frames + 1 ≤ R.frames ∧ 8 + (3 + 11) + rm_J5_append_cf1ce_AA.locals ≤ R.locals) (hf : kc + 1 ≤ R.cells ∧ ks + 1400 ≤ R.slots) (hst : (st.map fun v => v.category).sum ≤ 8) (d : decode cc pc = .ok (.invokespecial 29, 3)) (h : zk M b = 16 ∧ w_J5_append_cf1ce_AA M b y0 P) (kk : ∀ r M', P r M' → J p l e R s m args below meth c Q E nL M' (kc + 1) (ks + 1400) (pc + 3) lo (va_rf r :: st)) : J p l e R s m args below meth c Q E nL M kc ks pc lo (.ref y0 :: .ref b :: st) :=
  j_cSU_N (n := 1) (As := [.ref y0]) C co_J4 h.1 (c_J5_append_cf1ce_AA l E M b y0 P h.2) (k_cs C wd_422 wd_420 wd_1384 wd_328 wd_421 wd_45 (by decide) (by decide +kernel) rfl rfl hR) hf rfl hst d kk
abbrev rm_J4_append_15ec4_AA : Room := { frames := 5, cells := 1, slots := 1400, locals := 127 }
def w_J4_append_15ec4_AA (M : Mm) (x0 : Nat) (x1 : Nat) (P : Option Nat → Mm → Prop) : Prop := zk M x0 = 16 ∧ w_J5_append_cf1ce_AA M x0 x1 (fun r1 M1 => ∃ a1, r1 = some a1 ∧ P (some x0) M1)
set_option maxHeartbeats 4000000 in
set_option maxRecDepth 100000 in
theorem c_J4_append_15ec4_AA (l : Launch) (E : EV) (M : Mm) (x0 : Nat) (x1 : Nat) (P : Option Nat → Mm → Prop) (h : w_J4_append_15ec4_AA M x0 x1 P) : CtN l E yJ4_append_15ec4 cJ4_append_15ec4 2 (.object "java/lang/StringBuilder") rm_J4_append_15ec4_AA 1 1400 [.ref x0, .ref x1] M P := by
  refine ctN_of (by decide +kernel) (Nat.le_of_ble_eq_true rfl) ?_
  intro p e s m args below meth c C
  rw [w_J4_append_15ec4_AA] at h
  show J p l e rm_J4_append_15ec4_AA s m args below meth c (QN below E P args s 1 1400) E 2 M 0 0 0 [(0, .ref x0), (1, .ref x1)] []
  refine j_aload_n (pc := 0) C 0 dJ4_append_15ec4_0 rfl ?_
  refine j_aload_n (pc := 1) C 1 dJ4_append_15ec4_1 rfl ?_
  refine c2_J4_29_AA (pc := 2) C ⟨(Nat.le_of_ble_eq_true rfl), (Nat.le_of_ble_eq_true rfl)⟩ ⟨Nat.le_of_ble_eq_true rfl, Nat.le_of_ble_eq_true rfl⟩ (Nat.le_of_ble_eq_true rfl) dJ4_append_15ec4_2 h (fun r1 M1 h => ?_)
  obtain ⟨a1, rfl, h⟩ := h
  refine j_pop (pc := 5) C dJ4_append_15ec4_5 rfl ?_
  refine j_aload_n (pc := 6) C 0 dJ4_append_15ec4_6 rfl ?_
  exact j_nret (pc := 7) (some x0) (Or.inl ⟨_, rfl⟩) C dJ4_append_15ec4_7 (Nat.le_of_ble_eq_true rfl) (Nat.le_of_ble_eq_true rfl) h
theorem c2_J4_50 (C : Cx p l s m args meth c cc nL RJ4 ret E) {b : Nat} {y0 : Int32} {P : Option Nat → Mm → Prop} (hR : rm_J5_append_3fe6f.frames + 1 ≤ R.frames ∧ 8 + (2 + 11) + rm_J5_append_3fe6f.locals ≤ R.locals) (hf : kc + 1 ≤ R.cells ∧ ks + 1400 ≤ R.slots) (hst : (st.map fun v => v.category).sum ≤ 8) (d : decode cc pc = .ok (.invokespecial 50, 3)) (h : zk M b = 16 ∧ w_J5_append_3fe6f M b y0 P) (kk : ∀ r M', P r M' → J p l e R s m args below meth c Q E nL M' (kc + 1) (ks + 1400) (pc + 3) lo (va_rf r :: st)) : J p l e R s m args below meth c Q E nL M kc ks pc lo (.int y0 :: .ref b :: st) :=
  j_cSU_N (n := 1) (As := [.int y0]) C co_J4 h.1 (c_J5_append_3fe6f l E M b y0 P h.2) (k_cs C wd_567 wd_565 wd_1392 wd_328 wd_566 wd_45 (by decide) (by decide +kernel) rfl rfl hR) hf rfl hst d kk
abbrev rm_J4_append_cf468 : Room := { frames := 5, cells := 1, slots := 1400, locals := 125 }
def w_J4_append_cf468 (M : Mm) (x0 : Nat) (x1 : Int32) (P : Option Nat → Mm → Prop) : Prop := zk M x0 = 16 ∧ w_J5_append_3fe6f M x0 x1 (fun r1 M1 => ∃ a1, r1 = some a1 ∧ P (some x0) M1)
set_option maxHeartbeats 4000000 in
set_option maxRecDepth 100000 in
theorem c_J4_append_cf468 (l : Launch) (E : EV) (M : Mm) (x0 : Nat) (x1 : Int32) (P : Option Nat → Mm → Prop) (h : w_J4_append_cf468 M x0 x1 P) : CtN l E yJ4_append_cf468 cJ4_append_cf468 2 (.object "java/lang/StringBuilder") rm_J4_append_cf468 1 1400 [.ref x0, .int x1] M P := by
  refine ctN_of (by decide +kernel) (Nat.le_of_ble_eq_true rfl) ?_
  intro p e s m args below meth c C
  rw [w_J4_append_cf468] at h
  show J p l e rm_J4_append_cf468 s m args below meth c (QN below E P args s 1 1400) E 2 M 0 0 0 [(0, .ref x0), (1, .int x1)] []
  refine j_aload_n (pc := 0) C 0 dJ4_append_cf468_0 rfl ?_
  refine j_iload_n (pc := 1) C 1 dJ4_append_cf468_1 rfl ?_
  refine c2_J4_50 (pc := 2) C ⟨(Nat.le_of_ble_eq_true rfl), (Nat.le_of_ble_eq_true rfl)⟩ ⟨Nat.le_of_ble_eq_true rfl, Nat.le_of_ble_eq_true rfl⟩ (Nat.le_of_ble_eq_true rfl) dJ4_append_cf468_2 h (fun r1 M1 h => ?_)
  obtain ⟨a1, rfl, h⟩ := h
  refine j_pop (pc := 5) C dJ4_append_cf468_5 rfl ?_
  refine j_aload_n (pc := 6) C 0 dJ4_append_cf468_6 rfl ?_
  exact j_nret (pc := 7) (some x0) (Or.inl ⟨_, rfl⟩) C dJ4_append_cf468_7 (Nat.le_of_ble_eq_true rfl) (Nat.le_of_ble_eq_true rfl) h
theorem c2_J4_53 (C : Cx p l s m args meth c cc nL RJ4 ret E) {b : Nat} {y0 : Int32} {P : Option Nat → Mm → Prop} (hR : rm_J5_append_c97b9.frames + 1 ≤ R.frames ∧ 8 + (4 + 11) + rm_J5_append_c97b9.locals ≤ R.locals) (hf : kc + 1 ≤ R.cells ∧ ks + 1400 ≤ R.slots) (hst : (st.map fun v => v.category).sum ≤ 8) (d : decode cc pc = .ok (.invokespecial 53, 3)) (h : zk M b = 16 ∧ w_J5_append_c97b9 M b y0 P) (kk : ∀ r M', P r M' → J p l e R s m args below meth c Q E nL M' (kc + 1) (ks + 1400) (pc + 3) lo (va_rf r :: st)) : J p l e R s m args below meth c Q E nL M kc ks pc lo (.int y0 :: .ref b :: st) :=
  j_cSU_N (n := 1) (As := [.int y0]) C co_J4 h.1 (c_J5_append_c97b9 l E M b y0 P h.2) (k_cs C wd_542 wd_540 wd_1391 wd_328 wd_541 wd_45 (by decide) (by decide +kernel) rfl rfl hR) hf rfl hst d kk
abbrev rm_J4_append_bf812 : Room := { frames := 5, cells := 1, slots := 1400, locals := 127 }
def w_J4_append_bf812 (M : Mm) (x0 : Nat) (x1 : Int32) (P : Option Nat → Mm → Prop) : Prop := zk M x0 = 16 ∧ w_J5_append_c97b9 M x0 x1 (fun r1 M1 => ∃ a1, r1 = some a1 ∧ P (some x0) M1)
set_option maxHeartbeats 4000000 in
set_option maxRecDepth 100000 in
theorem c_J4_append_bf812 (l : Launch) (E : EV) (M : Mm) (x0 : Nat) (x1 : Int32) (P : Option Nat → Mm → Prop) (h : w_J4_append_bf812 M x0 x1 P) : CtN l E yJ4_append_bf812 cJ4_append_bf812 2 (.object "java/lang/StringBuilder") rm_J4_append_bf812 1 1400 [.ref x0, .int x1] M P := by
  refine ctN_of (by decide +kernel) (Nat.le_of_ble_eq_true rfl) ?_
  intro p e s m args below meth c C
  rw [w_J4_append_bf812] at h
  show J p l e rm_J4_append_bf812 s m args below meth c (QN below E P args s 1 1400) E 2 M 0 0 0 [(0, .ref x0), (1, .int x1)] []
  refine j_aload_n (pc := 0) C 0 dJ4_append_bf812_0 rfl ?_
  refine j_iload_n (pc := 1) C 1 dJ4_append_bf812_1 rfl ?_
  refine c2_J4_53 (pc := 2) C ⟨(Nat.le_of_ble_eq_true rfl), (Nat.le_of_ble_eq_true rfl)⟩ ⟨Nat.le_of_ble_eq_true rfl, Nat.le_of_ble_eq_true rfl⟩ (Nat.le_of_ble_eq_true rfl) dJ4_append_bf812_2 h (fun r1 M1 h => ?_)
  obtain ⟨a1, rfl, h⟩ := h
  refine j_pop (pc := 5) C dJ4_append_bf812_5 rfl ?_
  refine j_aload_n (pc := 6) C 0 dJ4_append_bf812_6 rfl ?_
  exact j_nret (pc := 7) (some x0) (Or.inl ⟨_, rfl⟩) C dJ4_append_bf812_7 (Nat.le_of_ble_eq_true rfl) (Nat.le_of_ble_eq_true rfl) h
abbrev rm_J5_init_d00df : Room := { frames := 1, cells := 1, slots := 16, locals := 20 }
def w_J5_init_d00df (M : Mm) (x0 : Nat) (x1 : Int32) (P : Mm → Prop) : Prop := ¬ x1 < 0 ∧ x1.toNatClampNeg ≤ 16 ∧ (∀ a1 M1, a1 = zn M → M1 = sN M 9 x1.toNatClampNeg → zk M1 x0 = 16 ∧ (∀ M2, M2 = sR M1 x0 0 (some a1) → zk M2 x0 = 16 ∧ (narrow .byte (.int (0 : Int32)) = .int (0 : Int32) ∧ fits .byte (.int (0 : Int32)) = true) ∧ (∀ M3, M3 = sI M2 x0 1 (0 : Int32) → P M3)))
set_option maxHeartbeats 4000000 in
set_option maxRecDepth 100000 in
theorem c_J5_init_d00df (l : Launch) (E : EV) (M : Mm) (x0 : Nat) (x1 : Int32) (P : Mm → Prop) (h : w_J5_init_d00df M x0 x1 P) : CtV l E yJ5_init_d00df cJ5_init_d00df 2 rm_J5_init_d00df 1 16 [.ref x0, .int x1] M P := by
  refine ctV_of (by decide +kernel) (Nat.le_of_ble_eq_true rfl) ?_
  intro p e s m args below meth c C hnm
  rw [w_J5_init_d00df] at h
  show J p l e rm_J5_init_d00df s m args below meth c (QV below E P args s 1 16) E 2 M 0 0 0 [(0, .ref x0), (1, .int x1)] []
  refine j_aload_n (pc := 0) C 0 dJ5_init_d00df_0 rfl ?_
  refine j_objInit (pc := 1) C wd_306 wd_72 wd_73 dJ5_init_d00df_1 (Nat.le_of_ble_eq_true rfl) (Nat.le_of_ble_eq_true rfl) ?_
  refine j_scs (pc := 4) C wd_307 dJ5_init_d00df_4 ?_
  refine j_if_eq (pc := 7) (A := False) (B := True) C 25 dJ5_init_d00df_7 (by decide) (by first | rw [if_pos (by decide)] ; trivial | rw [if_neg (by decide)] ; trivial) (fun z => z.elim) (fun _ => ?_)
  refine j_aload_n (pc := 10) C 0 dJ5_init_d00df_10 rfl ?_
  refine j_iload_n (pc := 11) C 1 dJ5_init_d00df_11 rfl ?_
  refine n_newb (pc := 12) C 16 wd_91 dJ5_init_d00df_12 (Nat.le_of_ble_eq_true rfl) (Nat.le_of_ble_eq_true rfl) (Nat.le_of_ble_eq_true rfl) h (fun a1 M1 h => ?_)
  refine pf_J5_15 (pc := 14) C dJ5_init_d00df_14 h (fun M2 h => ?_)
  refine j_aload_n (pc := 17) C 0 dJ5_init_d00df_17 rfl ?_
  refine j_iconst (pc := 18) (v := (0 : Int32)) C dJ5_init_d00df_18 rfl ?_
  refine pf_J5_22 (pc := 19) C dJ5_init_d00df_19 h (fun M3 h => ?_)
  refine j_goto (pc := 22) C 38 dJ5_init_d00df_22 (by decide) ?_
  exact j_vret (pc := 38) C dJ5_init_d00df_38 (Nat.le_of_ble_eq_true rfl) (Nat.le_of_ble_eq_true rfl) h
theorem c2_J4_1 (C : Cx p l s m args meth c cc nL RJ4 ret E) {b : Nat} {y0 : Int32} {P : Mm → Prop} (hR : rm_J5_init_d00df.frames + 1 ≤ R.frames ∧ 8 + (2 + 11) + rm_J5_init_d00df.locals ≤ R.locals) (hf : kc + 1 ≤ R.cells ∧ ks + 16 ≤ R.slots) (hst : (st.map fun v => v.category).sum ≤ 8) (d : decode cc pc = .ok (.invokespecial 1, 3)) (h : w_J5_init_d00df M b y0 P) (kk : ∀ M', P M' → J p l e R s m args below meth c Q E nL M' (kc + 1) (ks + 16) (pc + 3) lo st) : J p l e R s m args below meth c Q E nL M kc ks pc lo (.int y0 :: .ref b :: st) :=
  j_cI_V (n := 1) (As := [.int y0]) C rfl wd_304 (c_J5_init_d00df l E M b y0 P h) ⟨wd_305, wd_303, wd_45, by decide +kernel, by decide +kernel, by decide +kernel⟩ rfl rfl hR hf rfl hst d kk
abbrev rm_J4_init_da8c8 : Room := { frames := 2, cells := 1, slots := 16, locals := 41 }
def w_J4_init_da8c8 (M : Mm) (x0 : Nat) (P : Mm → Prop) : Prop := w_J5_init_d00df M x0 (16 : Int32) (fun M1 => P M1)
set_option maxHeartbeats 4000000 in
set_option maxRecDepth 100000 in
theorem c_J4_init_da8c8 (l : Launch) (E : EV) (M : Mm) (x0 : Nat) (P : Mm → Prop) (h : w_J4_init_da8c8 M x0 P) : CtV l E yJ4_init_da8c8 cJ4_init_da8c8 1 rm_J4_init_da8c8 1 16 [.ref x0] M P := by
  refine ctV_of (by decide +kernel) (Nat.le_of_ble_eq_true rfl) ?_
  intro p e s m args below meth c C hnm
  rw [w_J4_init_da8c8] at h
  show J p l e rm_J4_init_da8c8 s m args below meth c (QV below E P args s 1 16) E 1 M 0 0 0 [(0, .ref x0)] []
  refine j_aload_n (pc := 0) C 0 dJ4_init_da8c8_0 rfl ?_
  refine j_bipush (pc := 1) (v := (16 : Int32)) C dJ4_init_da8c8_1 rfl ?_
  refine c2_J4_1 (pc := 3) C ⟨(Nat.le_of_ble_eq_true rfl), (Nat.le_of_ble_eq_true rfl)⟩ ⟨Nat.le_of_ble_eq_true rfl, Nat.le_of_ble_eq_true rfl⟩ (Nat.le_of_ble_eq_true rfl) dJ4_init_da8c8_3 h (fun M1 h => ?_)
  exact j_vret (pc := 6) C dJ4_init_da8c8_6 (Nat.le_of_ble_eq_true rfl) (Nat.le_of_ble_eq_true rfl) h
abbrev rm_J5_getValue_6d5f1 : Room := { frames := 0, cells := 0, slots := 0, locals := 0 }
def w_J5_getValue_6d5f1 (M : Mm) (x0 : Nat) (P : Option Nat → Mm → Prop) : Prop := (zk M x0 = 16 ∧ ∃ a1, zR M x0 0 = some a1 ∧ P (some a1) M)
set_option maxHeartbeats 4000000 in
set_option maxRecDepth 100000 in
theorem c_J5_getValue_6d5f1 (l : Launch) (E : EV) (M : Mm) (x0 : Nat) (P : Option Nat → Mm → Prop) (h : w_J5_getValue_6d5f1 M x0 P) : CtN l E yJ5_getValue_6d5f1 cJ5_getValue_6d5f1 1 (.array .byte) rm_J5_getValue_6d5f1 0 0 [.ref x0] M P := by
  refine ctN_of (by decide +kernel) (Nat.le_of_ble_eq_true rfl) ?_
  intro p e s m args below meth c C
  rw [w_J5_getValue_6d5f1] at h
  show J p l e rm_J5_getValue_6d5f1 s m args below meth c (QN below E P args s 0 0) E 1 M 0 0 0 [(0, .ref x0)] []
  refine j_aload_n (pc := 0) C 0 dJ5_getValue_6d5f1_0 rfl ?_
  refine gf_J5_15 (pc := 1) C dJ5_getValue_6d5f1_1 h (fun a1 h => ?_)
  exact j_nret (pc := 4) (some a1) (Or.inr ⟨_, rfl⟩) C dJ5_getValue_6d5f1_4 (Nat.le_of_ble_eq_true rfl) (Nat.le_of_ble_eq_true rfl) h
abbrev rm_J5_length_8abf5 : Room := { frames := 0, cells := 0, slots := 0, locals := 0 }
def w_J5_length_8abf5 (M : Mm) (x0 : Nat) (P : Int32 → Mm → Prop) : Prop := zk M x0 = 16 ∧ P (zI M x0 3) M
set_option maxHeartbeats 4000000 in
set_option maxRecDepth 100000 in
theorem c_J5_length_8abf5 (l : Launch) (E : EV) (M : Mm) (x0 : Nat) (P : Int32 → Mm → Prop) (h : w_J5_length_8abf5 M x0 P) : CtI l E yJ5_length_8abf5 cJ5_length_8abf5 1 .int rm_J5_length_8abf5 0 0 [.ref x0] M P := by
  refine ctI_of (by decide +kernel) (Nat.le_of_ble_eq_true rfl) ?_
  intro p e s m args below meth c C
  rw [w_J5_length_8abf5] at h
  show J p l e rm_J5_length_8abf5 s m args below meth c (QI below E P args s 0 0) E 1 M 0 0 0 [(0, .ref x0)] []
  refine j_aload_n (pc := 0) C 0 dJ5_length_8abf5_0 rfl ?_
  refine gf_J5_79 (pc := 1) C dJ5_length_8abf5_1 h (fun h => ?_)
  exact j_iret (pc := 4) C dJ5_length_8abf5_4 (Nat.le_of_ble_eq_true rfl) (Nat.le_of_ble_eq_true rfl) h
theorem c2_J4_343 (C : Cx p l s m args meth c cc nL RJ4 ret E) {b : Nat} {P : Int32 → Mm → Prop} (hR : rm_J5_length_8abf5.frames + 1 ≤ R.frames ∧ 8 + (1 + 11) + rm_J5_length_8abf5.locals ≤ R.locals) (hf : kc ≤ R.cells ∧ ks ≤ R.slots) (hst : (st.map fun v => v.category).sum ≤ 8) (d : decode cc pc = .ok (.invokespecial 343, 3)) (h : zk M b = 16 ∧ w_J5_length_8abf5 M b P) (kk : ∀ r M', P r M' → J p l e R s m args below meth c Q E nL M' kc ks (pc + 3) lo (.int r :: st)) : J p l e R s m args below meth c Q E nL M kc ks pc lo (.ref b :: st) :=
  j_cSU_I (n := 0) (As := []) C co_J4 h.1 (c_J5_length_8abf5 l E M b P h.2) (k_cs C wd_643 wd_642 wd_638 wd_328 wd_637 wd_45 (by decide) (by decide +kernel) rfl rfl hR) hf rfl hst d kk
abbrev rm_J4_length_8abf5 : Room := { frames := 1, cells := 0, slots := 0, locals := 20 }
def w_J4_length_8abf5 (M : Mm) (x0 : Nat) (P : Int32 → Mm → Prop) : Prop := zk M x0 = 16 ∧ w_J5_length_8abf5 M x0 (fun r1 M1 => P r1 M1)
set_option maxHeartbeats 4000000 in
set_option maxRecDepth 100000 in
theorem c_J4_length_8abf5 (l : Launch) (E : EV) (M : Mm) (x0 : Nat) (P : Int32 → Mm → Prop) (h : w_J4_length_8abf5 M x0 P) : CtI l E yJ4_length_8abf5 cJ4_length_8abf5 1 .int rm_J4_length_8abf5 0 0 [.ref x0] M P := by
  refine ctI_of (by decide +kernel) (Nat.le_of_ble_eq_true rfl) ?_
  intro p e s m args below meth c C
  rw [w_J4_length_8abf5] at h
  show J p l e rm_J4_length_8abf5 s m args below meth c (QI below E P args s 0 0) E 1 M 0 0 0 [(0, .ref x0)] []
  refine j_aload_n (pc := 0) C 0 dJ4_length_8abf5_0 rfl ?_
  refine c2_J4_343 (pc := 1) C ⟨(Nat.le_of_ble_eq_true rfl), (Nat.le_of_ble_eq_true rfl)⟩ ⟨Nat.le_of_ble_eq_true rfl, Nat.le_of_ble_eq_true rfl⟩ (Nat.le_of_ble_eq_true rfl) dJ4_length_8abf5_1 h (fun r1 M1 h => ?_)
  exact j_iret (pc := 4) C dJ4_length_8abf5_4 (Nat.le_of_ble_eq_true rfl) (Nat.le_of_ble_eq_true rfl) h
abbrev rm_J7_checkLength_df160 : Room := { frames := 0, cells := 0, slots := 0, locals := 0 }
def w_J7_checkLength_df160 (M : Mm) (x0 : Int32) (x1 : Int32) (P : Mm → Prop) : Prop := (if x0 ≤ x1 then P M else False)
set_option maxHeartbeats 4000000 in
set_option maxRecDepth 100000 in
theorem c_J7_checkLength_df160 (l : Launch) (E : EV) (M : Mm) (x0 : Int32) (x1 : Int32) (P : Mm → Prop) (h : w_J7_checkLength_df160 M x0 x1 P) : CtV l E yJ7_checkLength_df160 cJ7_checkLength_df160 2 rm_J7_checkLength_df160 0 0 [.int x0, .int x1] M P := by
  refine ctV_of (by decide +kernel) (Nat.le_of_ble_eq_true rfl) ?_
  intro p e s m args below meth c C hnm
  rw [w_J7_checkLength_df160] at h
  show J p l e rm_J7_checkLength_df160 s m args below meth c (QV below E P args s 0 0) E 2 M 0 0 0 [(0, .int x0), (1, .int x1)] []
  refine j_iload_n (pc := 0) C 1 dJ7_checkLength_df160_0 rfl ?_
  refine j_iload_n (pc := 1) C 0 dJ7_checkLength_df160_1 rfl ?_
  refine j_icmp_ge (pc := 2) C 37 dJ7_checkLength_df160_2 (by decide) h (fun h => ?_) (fun h => ?_)
  · exact j_vret (pc := 37) C dJ7_checkLength_df160_37 (Nat.le_of_ble_eq_true rfl) (Nat.le_of_ble_eq_true rfl) h
  · exact h.elim
theorem c2_J7_343 (C : Cx p l s m args meth c cc nL RJ7 ret E) {y0 : Int32} {y1 : Int32} {P : Mm → Prop} (hR : rm_J7_checkLength_df160.frames + 1 ≤ R.frames ∧ 8 + (2 + 11) + rm_J7_checkLength_df160.locals ≤ R.locals) (hf : kc ≤ R.cells ∧ ks ≤ R.slots) (hst : (st.map fun v => v.category).sum ≤ 8) (d : decode cc pc = .ok (.invokestatic 343, 3)) (h : w_J7_checkLength_df160 M y0 y1 P) (kk : ∀ M', P M' → J p l e R s m args below meth c Q E nL M' kc ks (pc + 3) lo st) : J p l e R s m args below meth c Q E nL M kc ks pc lo (.int y1 :: .int y0 :: st) :=
  j_cS_V (n := 2) (As := [.int y0, .int y1]) C wd_652 (c_J7_checkLength_df160 l E M y0 y1 P h) ⟨wd_653, wd_651, wd_52, by decide +kernel, by decide +kernel, by decide +kernel⟩ rfl rfl hR hf rfl hst d kk
abbrev rm_J7_copyOfRangeByte_39247 : Room := { frames := 1, cells := 1, slots := 700, locals := 60 }
def w_J7_copyOfRangeByte_39247 (M : Mm) (x0 : Nat) (x1 : Int32) (x2 : Int32) (P : Option Nat → Mm → Prop) : Prop := w_J7_checkLength_df160 M x1 x2 (fun M1 => ¬ (x2 - x1) < 0 ∧ (x2 - x1).toNatClampNeg ≤ 700 ∧ (∀ a2 M2, a2 = zn M1 → M2 = sN M1 9 (x2 - x1).toNatClampNeg → zk M2 x0 = 9 ∧ zk M2 x0 = 9 ∧ zk M2 a2 = 9 ∧ ¬ x1 < 0 ∧ ¬ (0 : Int32) < 0 ∧ ¬ (if (x2 - x1) < ((nI (zl M2 x0)) - x1) then (x2 - x1) else ((nI (zl M2 x0)) - x1)) < 0 ∧ x1.toNatClampNeg + (if (x2 - x1) < ((nI (zl M2 x0)) - x1) then (x2 - x1) else ((nI (zl M2 x0)) - x1)).toNatClampNeg ≤ zl M2 x0 ∧ (0 : Int32).toNatClampNeg + (if (x2 - x1) < ((nI (zl M2 x0)) - x1) then (x2 - x1) else ((nI (zl M2 x0)) - x1)).toNatClampNeg ≤ zl M2 a2 ∧ (∀ i, i < (if (x2 - x1) < ((nI (zl M2 x0)) - x1) then (x2 - x1) else ((nI (zl M2 x0)) - x1)).toNatClampNeg → fits .byte (.int (zI M2 x0 (x1.toNatClampNeg + i))) = true) ∧ (∀ M3, M3 = sC M2 x0 x1.toNatClampNeg a2 (0 : Int32).toNatClampNeg (if (x2 - x1) < ((nI (zl M2 x0)) - x1) then (x2 - x1) else ((nI (zl M2 x0)) - x1)).toNatClampNeg → P (some a2) M3)))
set_option maxHeartbeats 4000000 in
set_option maxRecDepth 100000 in
theorem c_J7_copyOfRangeByte_39247 (l : Launch) (E : EV) (M : Mm) (x0 : Nat) (x1 : Int32) (x2 : Int32) (P : Option Nat → Mm → Prop) (h : w_J7_copyOfRangeByte_39247 M x0 x1 x2 P) : CtN l E yJ7_copyOfRangeByte_39247 cJ7_copyOfRangeByte_39247 5 (.array .byte) rm_J7_copyOfRangeByte_39247 1 700 [.ref x0, .int x1, .int x2] M P := by
  refine ctN_of (by decide +kernel) (Nat.le_of_ble_eq_true rfl) ?_
  intro p e s m args below meth c C
  rw [w_J7_copyOfRangeByte_39247] at h
  show J p l e rm_J7_copyOfRangeByte_39247 s m args below meth c (QN below E P args s 1 700) E 5 M 0 0 0 [(0, .ref x0), (1, .int x1), (2, .int x2)] []
  refine j_iload_n (pc := 0) C 1 dJ7_copyOfRangeByte_39247_0 rfl ?_
  refine j_iload_n (pc := 1) C 2 dJ7_copyOfRangeByte_39247_1 rfl ?_
  refine c2_J7_343 (pc := 2) C ⟨(Nat.le_of_ble_eq_true rfl), (Nat.le_of_ble_eq_true rfl)⟩ ⟨Nat.le_of_ble_eq_true rfl, Nat.le_of_ble_eq_true rfl⟩ (Nat.le_of_ble_eq_true rfl) dJ7_copyOfRangeByte_39247_2 h (fun M1 h => ?_)
  refine j_iload_n (pc := 5) C 2 dJ7_copyOfRangeByte_39247_5 rfl ?_
  refine j_iload_n (pc := 6) C 1 dJ7_copyOfRangeByte_39247_6 rfl ?_
  refine j_isub (pc := 7) C dJ7_copyOfRangeByte_39247_7 ?_
  refine j_istore_n (pc := 8) C [(3, _), (0, _), (1, _), (2, _)] dJ7_copyOfRangeByte_39247_8 (by decide) rfl ?_
  refine j_iload_n (pc := 9) C 0 dJ7_copyOfRangeByte_39247_9 rfl ?_
  refine n_newb (pc := 10) C 700 wd_91 dJ7_copyOfRangeByte_39247_10 (Nat.le_of_ble_eq_true rfl) (Nat.le_of_ble_eq_true rfl) (Nat.le_of_ble_eq_true rfl) h (fun a2 M2 h => ?_)
  refine j_astore (pc := 12) C [(4, _), (3, _), (0, _), (1, _), (2, _)] dJ7_copyOfRangeByte_39247_12 (by decide) rfl ?_
  refine j_aload_n (pc := 14) C 2 dJ7_copyOfRangeByte_39247_14 rfl ?_
  refine j_iload_n (pc := 15) C 3 dJ7_copyOfRangeByte_39247_15 rfl ?_
  refine j_aload (pc := 16) C 0 dJ7_copyOfRangeByte_39247_16 rfl ?_
  refine j_iconst (pc := 18) (v := (0 : Int32)) C dJ7_copyOfRangeByte_39247_18 rfl ?_
  refine j_aload_n (pc := 19) C 2 dJ7_copyOfRangeByte_39247_19 rfl ?_
  refine j_alen (pc := 20) (k := 9) C (by decide) dJ7_copyOfRangeByte_39247_20 h (fun h => ?_)
  refine j_iload_n (pc := 21) C 3 dJ7_copyOfRangeByte_39247_21 rfl ?_
  refine j_isub (pc := 22) C dJ7_copyOfRangeByte_39247_22 ?_
  refine j_iload_n (pc := 23) C 1 dJ7_copyOfRangeByte_39247_23 rfl ?_
  refine j_mmin (pc := 24) C wd_456 wd_457 wd_51 wd_458 dJ7_copyOfRangeByte_39247_24 (Nat.le_of_ble_eq_true rfl) (Nat.le_of_ble_eq_true rfl) ⟨Nat.le_of_ble_eq_true rfl, Nat.le_of_ble_eq_true rfl⟩ ?_
  refine n_copyb (pc := 27) C wd_459 wd_461 wd_460 wd_53 dJ7_copyOfRangeByte_39247_27 (Nat.le_of_ble_eq_true rfl) (Nat.le_of_ble_eq_true rfl) h (fun M3 h => ?_)
  refine j_aload (pc := 30) C 0 dJ7_copyOfRangeByte_39247_30 rfl ?_
  exact j_nret (pc := 32) (some a2) (Or.inr ⟨_, rfl⟩) C dJ7_copyOfRangeByte_39247_32 (Nat.le_of_ble_eq_true rfl) (Nat.le_of_ble_eq_true rfl) h
theorem c2_J7_339 (C : Cx p l s m args meth c cc nL RJ7 ret E) {y0 : Nat} {y1 : Int32} {y2 : Int32} {P : Option Nat → Mm → Prop} (hR : rm_J7_copyOfRangeByte_39247.frames + 1 ≤ R.frames ∧ 8 + (5 + 11) + rm_J7_copyOfRangeByte_39247.locals ≤ R.locals) (hf : kc + 1 ≤ R.cells ∧ ks + 700 ≤ R.slots) (hst : (st.map fun v => v.category).sum ≤ 8) (d : decode cc pc = .ok (.invokestatic 339, 3)) (h : w_J7_copyOfRangeByte_39247 M y0 y1 y2 P) (kk : ∀ r M', P r M' → J p l e R s m args below meth c Q E nL M' (kc + 1) (ks + 700) (pc + 3) lo (va_rf r :: st)) : J p l e R s m args below meth c Q E nL M kc ks pc lo (.int y2 :: .int y1 :: .ref y0 :: st) :=
  j_cS_N (n := 3) (As := [.ref y0, .int y1, .int y2]) C wd_649 (c_J7_copyOfRangeByte_39247 l E M y0 y1 y2 P h) ⟨wd_650, wd_648, wd_52, by decide +kernel, by decide +kernel, by decide +kernel⟩ rfl rfl hR hf rfl hst d kk
abbrev rm_J7_copyOfRange_39247 : Room := { frames := 2, cells := 1, slots := 700, locals := 84 }
def w_J7_copyOfRange_39247 (M : Mm) (x0 : Nat) (x1 : Int32) (x2 : Int32) (P : Option Nat → Mm → Prop) : Prop := (if x1 = 0 then zk M x0 = 9 ∧ (if x2 = (nI (zl M x0)) then zk M x0 = 9 ∧ zl M x0 ≤ 700 ∧ (∀ i, i < zl M x0 → fits .byte (.int (zI M x0 i)) = true) ∧ (∀ a2 M2, a2 = zn M → M2 = sK M x0 → zk M2 a2 = 9 ∧ P (some a2) M2) else w_J7_copyOfRangeByte_39247 M x0 x1 x2 (fun r3 M3 => ∃ a3, r3 = some a3 ∧ P (some a3) M3)) else w_J7_copyOfRangeByte_39247 M x0 x1 x2 (fun r1 M1 => ∃ a1, r1 = some a1 ∧ P (some a1) M1))
set_option maxHeartbeats 4000000 in
set_option maxRecDepth 100000 in
theorem c_J7_copyOfRange_39247 (l : Launch) (E : EV) (M : Mm) (x0 : Nat) (x1 : Int32) (x2 : Int32) (P : Option Nat → Mm → Prop) (h : w_J7_copyOfRange_39247 M x0 x1 x2 P) : CtN l E yJ7_copyOfRange_39247 cJ7_copyOfRange_39247 3 (.array .byte) rm_J7_copyOfRange_39247 1 700 [.ref x0, .int x1, .int x2] M P := by
  refine ctN_of (by decide +kernel) (Nat.le_of_ble_eq_true rfl) ?_
  intro p e s m args below meth c C
  rw [w_J7_copyOfRange_39247] at h
  show J p l e rm_J7_copyOfRange_39247 s m args below meth c (QN below E P args s 1 700) E 3 M 0 0 0 [(0, .ref x0), (1, .int x1), (2, .int x2)] []
  refine j_iload_n (pc := 0) C 1 dJ7_copyOfRange_39247_0 rfl ?_
  refine j_if_ne (pc := 1) C 10 dJ7_copyOfRange_39247_1 (by decide) h (fun h => ?_) (fun h => ?_)
  · refine j_aload_n (pc := 10) C 0 dJ7_copyOfRange_39247_10 rfl ?_
    refine j_iload_n (pc := 11) C 1 dJ7_copyOfRange_39247_11 rfl ?_
    refine j_iload_n (pc := 12) C 2 dJ7_copyOfRange_39247_12 rfl ?_
    refine c2_J7_339 (pc := 13) C ⟨(Nat.le_of_ble_eq_true rfl), (Nat.le_of_ble_eq_true rfl)⟩ ⟨Nat.le_of_ble_eq_true rfl, Nat.le_of_ble_eq_true rfl⟩ (Nat.le_of_ble_eq_true rfl) dJ7_copyOfRange_39247_13 h (fun r1 M1 h => ?_)
    obtain ⟨a1, rfl, h⟩ := h
    exact j_nret (pc := 16) (some a1) (Or.inr ⟨_, rfl⟩) C dJ7_copyOfRange_39247_16 (Nat.le_of_ble_eq_true rfl) (Nat.le_of_ble_eq_true rfl) h
  · refine j_iload_n (pc := 4) C 2 dJ7_copyOfRange_39247_4 rfl ?_
    refine j_aload_n (pc := 5) C 0 dJ7_copyOfRange_39247_5 rfl ?_
    refine j_alen (pc := 6) (k := 9) C (by decide) dJ7_copyOfRange_39247_6 h (fun h => ?_)
    refine j_icmp_eq (pc := 7) C 17 dJ7_copyOfRange_39247_7 (by decide) h (fun h => ?_) (fun h => ?_)
    · refine j_aload_n (pc := 17) C 0 dJ7_copyOfRange_39247_17 rfl ?_
      refine n_cloneb (pc := 18) C 700 wd_449 wd_450 wd_451 wd_452 wd_453 nw_454 dJ7_copyOfRange_39247_18 (Nat.le_of_ble_eq_true rfl) (Nat.le_of_ble_eq_true rfl) (Nat.le_of_ble_eq_true rfl) (Nat.le_of_ble_eq_true rfl) h (fun a2 M2 h => ?_)
      refine j_castB (pc := 21) C wd_455 dJ7_copyOfRange_39247_21 h (fun h => ?_)
      exact j_nret (pc := 24) (some a2) (Or.inr ⟨_, rfl⟩) C dJ7_copyOfRange_39247_24 (Nat.le_of_ble_eq_true rfl) (Nat.le_of_ble_eq_true rfl) h
    · refine j_aload_n (pc := 10) C 0 dJ7_copyOfRange_39247_10 rfl ?_
      refine j_iload_n (pc := 11) C 1 dJ7_copyOfRange_39247_11 rfl ?_
      refine j_iload_n (pc := 12) C 2 dJ7_copyOfRange_39247_12 rfl ?_
      refine c2_J7_339 (pc := 13) C ⟨(Nat.le_of_ble_eq_true rfl), (Nat.le_of_ble_eq_true rfl)⟩ ⟨Nat.le_of_ble_eq_true rfl, Nat.le_of_ble_eq_true rfl⟩ (Nat.le_of_ble_eq_true rfl) dJ7_copyOfRange_39247_13 h (fun r3 M3 h => ?_)
      obtain ⟨a3, rfl, h⟩ := h
      exact j_nret (pc := 16) (some a3) (Or.inr ⟨_, rfl⟩) C dJ7_copyOfRange_39247_16 (Nat.le_of_ble_eq_true rfl) (Nat.le_of_ble_eq_true rfl) h
theorem c2_J0_54 (C : Cx p l s m args meth c cc nL RJ0 ret E) {y0 : Nat} {y1 : Int32} {y2 : Int32} {P : Option Nat → Mm → Prop} (hR : rm_J7_copyOfRange_39247.frames + 1 ≤ R.frames ∧ 8 + (3 + 11) + rm_J7_copyOfRange_39247.locals ≤ R.locals) (hf : kc + 1 ≤ R.cells ∧ ks + 700 ≤ R.slots) (hst : (st.map fun v => v.category).sum ≤ 8) (d : decode cc pc = .ok (.invokestatic 54, 3)) (h : w_J7_copyOfRange_39247 M y0 y1 y2 P) (kk : ∀ r M', P r M' → J p l e R s m args below meth c Q E nL M' (kc + 1) (ks + 700) (pc + 3) lo (va_rf r :: st)) : J p l e R s m args below meth c Q E nL M kc ks pc lo (.int y2 :: .int y1 :: .ref y0 :: st) :=
  j_cS_N (n := 3) (As := [.ref y0, .int y1, .int y2]) C wd_646 (c_J7_copyOfRange_39247 l E M y0 y1 y2 P h) ⟨wd_647, wd_645, wd_52, by decide +kernel, by decide +kernel, by decide +kernel⟩ rfl rfl hR hf rfl hst d kk
theorem c2_J0_549 (C : Cx p l s m args meth c cc nL RJ0 ret E) {b : Nat} {P : Int32 → Mm → Prop} (hR : rm_J4_length_8abf5.frames + 1 ≤ R.frames ∧ 8 + (1 + 11) + rm_J4_length_8abf5.locals ≤ R.locals) (hf : kc ≤ R.cells ∧ ks ≤ R.slots) (hst : (st.map fun v => v.category).sum ≤ 8) (d : decode cc pc = .ok (.invokevirtual 549, 3)) (h : zk M b = 16 ∧ w_J4_length_8abf5 M b P) (kk : ∀ r M', P r M' → J p l e R s m args below meth c Q E nL M' kc ks (pc + 3) lo (.int r :: st)) : J p l e R s m args below meth c Q E nL M kc ks pc lo (.ref b :: st) :=
  j_cU_I (n := 0) (As := []) C co_J4 h.1 (c_J4_length_8abf5 l E M b P h.2) (k_cu C wd_641 wd_636 wd_638 wd_46 wd_640 (C.2.2.2.2.1 _ wd_639) rfl wd_637 wd_643 (by decide +kernel) rfl rfl hR) hf rfl hst d kk
theorem c2_J0_552 (C : Cx p l s m args meth c cc nL RJ0 ret E) {b : Nat} {P : Option Nat → Mm → Prop} (hR : rm_J5_getValue_6d5f1.frames + 1 ≤ R.frames ∧ 8 + (1 + 11) + rm_J5_getValue_6d5f1.locals ≤ R.locals) (hf : kc ≤ R.cells ∧ ks ≤ R.slots) (hst : (st.map fun v => v.category).sum ≤ 8) (d : decode cc pc = .ok (.invokevirtual 552, 3)) (h : zk M b = 16 ∧ w_J5_getValue_6d5f1 M b P) (kk : ∀ r M', P r M' → J p l e R s m args below meth c Q E nL M' kc ks (pc + 3) lo (va_rf r :: st)) : J p l e R s m args below meth c Q E nL M kc ks pc lo (.ref b :: st) :=
  j_cU_N (n := 0) (As := []) C co_J4 h.1 (c_J5_getValue_6d5f1 l E M b P h.2) (k_cu C wd_635 wd_631 wd_633 wd_45 wd_632 (C.2.2.2.2.1 _ wd_634) rfl wd_632 wd_635 (by decide +kernel) rfl rfl hR) hf rfl hst d kk
theorem c2_J0_1047 (C : Cx p l s m args meth c cc nL RJ0 ret E) {b : Nat} {P : Int32 → Mm → Prop} (hR : rm_J5_isLatin1_aae02.frames + 1 ≤ R.frames ∧ 8 + (1 + 11) + rm_J5_isLatin1_aae02.locals ≤ R.locals) (hf : kc ≤ R.cells ∧ ks ≤ R.slots) (hst : (st.map fun v => v.category).sum ≤ 8) (d : decode cc pc = .ok (.invokevirtual 1047, 3)) (h : zk M b = 16 ∧ w_J5_isLatin1_aae02 M b P) (kk : ∀ r M', P r M' → J p l e R s m args below meth c Q E nL M' kc ks (pc + 3) lo (.int r :: st)) : J p l e R s m args below meth c Q E nL M kc ks pc lo (.ref b :: st) :=
  j_cU_I (n := 0) (As := []) C co_J4 h.1 (c_J5_isLatin1_aae02 l E M b P h.2) (k_cu C wd_466 wd_644 wd_464 wd_45 wd_463 (C.2.2.2.2.1 _ wd_465) rfl wd_463 wd_466 (by decide +kernel) rfl rfl hR) hf rfl hst d kk
abbrev rm_J0_init_db425_AA0 : Room := { frames := 3, cells := 1, slots := 700, locals := 106 }
def w_J0_init_db425_AA0 (M : Mm) (x0 : Nat) (x1 : Nat) (P : Mm → Prop) : Prop := zk M x1 = 16 ∧ w_J5_getValue_6d5f1 M x1 (fun r1 M1 => ∃ a1, r1 = some a1 ∧ zk M1 x1 = 16 ∧ w_J4_length_8abf5 M1 x1 (fun r2 M2 => zk M2 x1 = 16 ∧ w_J5_isLatin1_aae02 M2 x1 (fun r3 M3 => (if r3 = 0 then zk M3 x1 = 16 ∧ (if (zI M3 x1 2) = 0 then zk M3 x0 = 17 ∧ (narrow .byte (.int (1 : Int32)) = .int (1 : Int32) ∧ fits .byte (.int (1 : Int32)) = true) ∧ (∀ M5, M5 = sI M3 x0 1 (1 : Int32) → w_J7_copyOfRange_39247 M5 a1 (0 : Int32) (r2 <<< ((1 : Int32) &&& 31)) (fun r6 M6 => ∃ a6, r6 = some a6 ∧ zk M6 x0 = 17 ∧ (∀ M7, M7 = sR M6 x0 0 (some a6) → P M7))) else False) else zk M3 x0 = 17 ∧ (narrow .byte (.int (0 : Int32)) = .int (0 : Int32) ∧ fits .byte (.int (0 : Int32)) = true) ∧ (∀ M8, M8 = sI M3 x0 1 (0 : Int32) → w_J7_copyOfRange_39247 M8 a1 (0 : Int32) r2 (fun r9 M9 => ∃ a9, r9 = some a9 ∧ zk M9 x0 = 17 ∧ (∀ M10, M10 = sR M9 x0 0 (some a9) → P M10)))))))
set_option maxHeartbeats 4000000 in
set_option maxRecDepth 100000 in
theorem c_J0_init_db425_AA0 (l : Launch) (E : EV) (M : Mm) (x0 : Nat) (x1 : Nat) (P : Mm → Prop) (h : w_J0_init_db425_AA0 M x0 x1 P) : CtV l E yJ0_init_db425 cJ0_init_db425 5 rm_J0_init_db425_AA0 1 700 [.ref x0, .ref x1, .null] M P := by
  refine ctV_of (by decide +kernel) (Nat.le_of_ble_eq_true rfl) ?_
  intro p e s m args below meth c C hnm
  rw [w_J0_init_db425_AA0] at h
  show J p l e rm_J0_init_db425_AA0 s m args below meth c (QV below E P args s 1 700) E 5 M 0 0 0 [(0, .ref x0), (1, .ref x1), (2, .null)] []
  refine j_aload_n (pc := 0) C 0 dJ0_init_db425_0 rfl ?_
  refine j_objInit (pc := 1) C wd_599 wd_72 wd_73 dJ0_init_db425_1 (Nat.le_of_ble_eq_true rfl) (Nat.le_of_ble_eq_true rfl) ?_
  refine j_aload_n (pc := 4) C 1 dJ0_init_db425_4 rfl ?_
  refine c2_J0_552 (pc := 5) C ⟨(Nat.le_of_ble_eq_true rfl), (Nat.le_of_ble_eq_true rfl)⟩ ⟨Nat.le_of_ble_eq_true rfl, Nat.le_of_ble_eq_true rfl⟩ (Nat.le_of_ble_eq_true rfl) dJ0_init_db425_5 h (fun r1 M1 h => ?_)
  obtain ⟨a1, rfl, h⟩ := h
  refine j_astore_n (pc := 8) C [(3, _), (0, _), (1, _), (2, _)] dJ0_init_db425_8 (by decide) rfl ?_
  refine j_aload_n (pc := 9) C 2 dJ0_init_db425_9 rfl ?_
  refine c2_J0_549 (pc := 10) C ⟨(Nat.le_of_ble_eq_true rfl), (Nat.le_of_ble_eq_true rfl)⟩ ⟨Nat.le_of_ble_eq_true rfl, Nat.le_of_ble_eq_true rfl⟩ (Nat.le_of_ble_eq_true rfl) dJ0_init_db425_10 h (fun r2 M2 h => ?_)
  refine j_istore (pc := 13) C [(4, _), (3, _), (0, _), (1, _), (2, _)] dJ0_init_db425_13 (by decide) rfl ?_
  refine j_aload_n (pc := 15) C 3 dJ0_init_db425_15 rfl ?_
  refine c2_J0_1047 (pc := 16) C ⟨(Nat.le_of_ble_eq_true rfl), (Nat.le_of_ble_eq_true rfl)⟩ ⟨Nat.le_of_ble_eq_true rfl, Nat.le_of_ble_eq_true rfl⟩ (Nat.le_of_ble_eq_true rfl) dJ0_init_db425_16 h (fun r3 M3 h => ?_)
  refine j_if_eq (pc := 19) C 41 dJ0_init_db425_19 (by decide) h (fun h => ?_) (fun h => ?_)
  · refine j_scs (pc := 41) C wd_501 dJ0_init_db425_41 ?_
    refine j_if_eq (pc := 44) (A := False) (B := True) C 79 dJ0_init_db425_44 (by decide) (by first | rw [if_pos (by decide)] ; trivial | rw [if_neg (by decide)] ; trivial) (fun z => z.elim) (fun _ => ?_)
    refine j_aload_n (pc := 47) C 3 dJ0_init_db425_47 rfl ?_
    refine gf_J0_1048 (pc := 48) C dJ0_init_db425_48 h (fun h => ?_)
    refine j_if_eq (pc := 51) C 79 dJ0_init_db425_51 (by decide) h (fun h => ?_) (fun h => ?_)
    · refine j_aload_n (pc := 79) C 2 dJ0_init_db425_79 rfl ?_
      refine j_iconst (pc := 80) (v := (1 : Int32)) C dJ0_init_db425_80 rfl ?_
      refine pf_J0_15 (pc := 81) C hnm dJ0_init_db425_81 h (fun M5 h => ?_)
      refine j_aload_n (pc := 84) C 2 dJ0_init_db425_84 rfl ?_
      refine j_aload_n (pc := 85) C 1 dJ0_init_db425_85 rfl ?_
      refine j_iconst (pc := 86) (v := (0 : Int32)) C dJ0_init_db425_86 rfl ?_
      refine j_iload (pc := 87) C 0 dJ0_init_db425_87 rfl ?_
      refine j_iconst (pc := 89) (v := (1 : Int32)) C dJ0_init_db425_89 rfl ?_
      refine j_ishl (pc := 90) C dJ0_init_db425_90 ?_
      refine c2_J0_54 (pc := 91) C ⟨(Nat.le_of_ble_eq_true rfl), (Nat.le_of_ble_eq_true rfl)⟩ ⟨Nat.le_of_ble_eq_true rfl, Nat.le_of_ble_eq_true rfl⟩ (Nat.le_of_ble_eq_true rfl) dJ0_init_db425_91 h (fun r6 M6 h => ?_)
      obtain ⟨a6, rfl, h⟩ := h
      refine pf_J0_9 (pc := 94) C hnm dJ0_init_db425_94 h (fun M7 h => ?_)
      exact j_vret (pc := 97) C dJ0_init_db425_97 (Nat.le_of_ble_eq_true rfl) (Nat.le_of_ble_eq_true rfl) h
    · refine j_aload_n (pc := 54) C 2 dJ0_init_db425_54 rfl ?_
      refine j_aload_n (pc := 55) C 1 dJ0_init_db425_55 rfl ?_
      refine j_iconst (pc := 56) (v := (0 : Int32)) C dJ0_init_db425_56 rfl ?_
      refine j_iload (pc := 57) C 0 dJ0_init_db425_57 rfl ?_
      exact h.elim
  · refine j_aload_n (pc := 22) C 2 dJ0_init_db425_22 rfl ?_
    refine j_iconst (pc := 23) (v := (0 : Int32)) C dJ0_init_db425_23 rfl ?_
    refine pf_J0_15 (pc := 24) C hnm dJ0_init_db425_24 h (fun M8 h => ?_)
    refine j_aload_n (pc := 27) C 2 dJ0_init_db425_27 rfl ?_
    refine j_aload_n (pc := 28) C 1 dJ0_init_db425_28 rfl ?_
    refine j_iconst (pc := 29) (v := (0 : Int32)) C dJ0_init_db425_29 rfl ?_
    refine j_iload (pc := 30) C 0 dJ0_init_db425_30 rfl ?_
    refine c2_J0_54 (pc := 32) C ⟨(Nat.le_of_ble_eq_true rfl), (Nat.le_of_ble_eq_true rfl)⟩ ⟨Nat.le_of_ble_eq_true rfl, Nat.le_of_ble_eq_true rfl⟩ (Nat.le_of_ble_eq_true rfl) dJ0_init_db425_32 h (fun r9 M9 h => ?_)
    obtain ⟨a9, rfl, h⟩ := h
    refine pf_J0_9 (pc := 35) C hnm dJ0_init_db425_35 h (fun M10 h => ?_)
    refine j_goto (pc := 38) C 97 dJ0_init_db425_38 (by decide) ?_
    exact j_vret (pc := 97) C dJ0_init_db425_97 (Nat.le_of_ble_eq_true rfl) (Nat.le_of_ble_eq_true rfl) h
theorem c2_J0_489_AA0 (C : Cx p l s m args meth c cc nL RJ0 ret E) {b : Nat} {y0 : Nat} {P : Mm → Prop} (hR : rm_J0_init_db425_AA0.frames + 1 ≤ R.frames ∧ 8 + (5 + 11) + rm_J0_init_db425_AA0.locals ≤ R.locals) (hf : kc + 1 ≤ R.cells ∧ ks + 700 ≤ R.slots) (hst : (st.map fun v => v.category).sum ≤ 8) (d : decode cc pc = .ok (.invokespecial 489, 3)) (h : w_J0_init_db425_AA0 M b y0 P) (kk : ∀ M', P M' → J p l e R s m args below meth c Q E nL M' (kc + 1) (ks + 700) (pc + 3) lo st) : J p l e R s m args below meth c Q E nL M kc ks pc lo (.null :: .ref y0 :: .ref b :: st) :=
  j_cI_V (n := 2) (As := [.ref y0, .null]) C rfl wd_629 (c_J0_init_db425_AA0 l E M b y0 P h) ⟨wd_630, wd_628, wd_47, by decide +kernel, by decide +kernel, by decide +kernel⟩ rfl rfl hR hf rfl hst d kk
abbrev rm_J0_init_81219_AA : Room := { frames := 4, cells := 1, slots := 700, locals := 130 }
def w_J0_init_81219_AA (M : Mm) (x0 : Nat) (x1 : Nat) (P : Mm → Prop) : Prop := w_J0_init_db425_AA0 M x0 x1 (fun M1 => P M1)
set_option maxHeartbeats 4000000 in
set_option maxRecDepth 100000 in
theorem c_J0_init_81219_AA (l : Launch) (E : EV) (M : Mm) (x0 : Nat) (x1 : Nat) (P : Mm → Prop) (h : w_J0_init_81219_AA M x0 x1 P) : CtV l E yJ0_init_81219 cJ0_init_81219 2 rm_J0_init_81219_AA 1 700 [.ref x0, .ref x1] M P := by
  refine ctV_of (by decide +kernel) (Nat.le_of_ble_eq_true rfl) ?_
  intro p e s m args below meth c C hnm
  rw [w_J0_init_81219_AA] at h
  show J p l e rm_J0_init_81219_AA s m args below meth c (QV below E P args s 1 700) E 2 M 0 0 0 [(0, .ref x0), (1, .ref x1)] []
  refine j_aload_n (pc := 0) C 0 dJ0_init_81219_0 rfl ?_
  refine j_aload_n (pc := 1) C 1 dJ0_init_81219_1 rfl ?_
  refine j_null (pc := 2) C dJ0_init_81219_2 ?_
  refine c2_J0_489_AA0 (pc := 3) C ⟨(Nat.le_of_ble_eq_true rfl), (Nat.le_of_ble_eq_true rfl)⟩ ⟨Nat.le_of_ble_eq_true rfl, Nat.le_of_ble_eq_true rfl⟩ (Nat.le_of_ble_eq_true rfl) dJ0_init_81219_3 h (fun M1 h => ?_)
  exact j_vret (pc := 6) C dJ0_init_81219_6 (Nat.le_of_ble_eq_true rfl) (Nat.le_of_ble_eq_true rfl) h
theorem c2_J4_137_AA (C : Cx p l s m args meth c cc nL RJ4 ret E) {b : Nat} {y0 : Nat} {P : Mm → Prop} (hR : rm_J0_init_81219_AA.frames + 1 ≤ R.frames ∧ 8 + (2 + 11) + rm_J0_init_81219_AA.locals ≤ R.locals) (hf : kc + 1 ≤ R.cells ∧ ks + 700 ≤ R.slots) (hst : (st.map fun v => v.category).sum ≤ 8) (d : decode cc pc = .ok (.invokespecial 137, 3)) (h : w_J0_init_81219_AA M b y0 P) (kk : ∀ M', P M' → J p l e R s m args below meth c Q E nL M' (kc + 1) (ks + 700) (pc + 3) lo st) : J p l e R s m args below meth c Q E nL M kc ks pc lo (.ref y0 :: .ref b :: st) :=
  j_cI_V (n := 1) (As := [.ref y0]) C rfl wd_626 (c_J0_init_81219_AA l E M b y0 P h) ⟨wd_627, wd_625, wd_47, by decide +kernel, by decide +kernel, by decide +kernel⟩ rfl rfl hR hf rfl hst d kk
abbrev rm_J4_toString_0e30d : Room := { frames := 5, cells := 2, slots := 704, locals := 151 }
def w_J4_toString_0e30d (M : Mm) (x0 : Nat) (P : Option Nat → Mm → Prop) : Prop := (∀ a1 M1, a1 = zn M → M1 = sN M 17 0 → w_J0_init_81219_AA M1 a1 x0 (fun M2 => P (some a1) M2))
set_option maxHeartbeats 4000000 in
set_option maxRecDepth 100000 in
theorem c_J4_toString_0e30d (l : Launch) (E : EV) (M : Mm) (x0 : Nat) (P : Option Nat → Mm → Prop) (h : w_J4_toString_0e30d M x0 P) : CtN l E yJ4_toString_0e30d cJ4_toString_0e30d 1 (.object "java/lang/String") rm_J4_toString_0e30d 2 704 [.ref x0] M P := by
  refine ctN_of (by decide +kernel) (Nat.le_of_ble_eq_true rfl) ?_
  intro p e s m args below meth c C
  rw [w_J4_toString_0e30d] at h
  show J p l e rm_J4_toString_0e30d s m args below meth c (QN below E P args s 2 704) E 1 M 0 0 0 [(0, .ref x0)] []
  refine n_new (pc := 0) C co_J0 df_J0 wd_624 wd_592 wd_47 dJ4_toString_0e30d_0 (Nat.le_of_ble_eq_true rfl) (Nat.le_of_ble_eq_true rfl) h (fun a1 M1 h => ?_)
  refine j_dup (pc := 3) C dJ4_toString_0e30d_3 rfl ?_
  refine j_aload_n (pc := 4) C 0 dJ4_toString_0e30d_4 rfl ?_
  refine c2_J4_137_AA (pc := 5) C ⟨(Nat.le_of_ble_eq_true rfl), (Nat.le_of_ble_eq_true rfl)⟩ ⟨Nat.le_of_ble_eq_true rfl, Nat.le_of_ble_eq_true rfl⟩ (Nat.le_of_ble_eq_true rfl) dJ4_toString_0e30d_5 h (fun M2 h => ?_)
  exact j_nret (pc := 8) (some a1) (Or.inl ⟨_, rfl⟩) C dJ4_toString_0e30d_8 (Nat.le_of_ble_eq_true rfl) (Nat.le_of_ble_eq_true rfl) h
abbrev rm_J1_toBytes_a14e5 : Room := { frames := 0, cells := 1, slots := 1, locals := 0 }
def w_J1_toBytes_a14e5 (M : Mm) (x0 : Int32) (P : Option Nat → Mm → Prop) : Prop := ¬ (1 : Int32) < 0 ∧ (1 : Int32).toNatClampNeg ≤ 1 ∧ (∀ a1 M1, a1 = zn M → M1 = sN M 9 (1 : Int32).toNatClampNeg → zk M1 a1 = 9 ∧ vp_in (0 : Int32) (zl M1 a1) ∧ (∀ M2, M2 = sI M1 a1 (0 : Int32).toNatClampNeg (vp_nar .byte x0.toInt8.toInt32) → P (some a1) M2))
set_option maxHeartbeats 4000000 in
set_option maxRecDepth 100000 in
theorem c_J1_toBytes_a14e5 (l : Launch) (E : EV) (M : Mm) (x0 : Int32) (P : Option Nat → Mm → Prop) (h : w_J1_toBytes_a14e5 M x0 P) : CtN l E yJ1_toBytes_a14e5 cJ1_toBytes_a14e5 1 (.array .byte) rm_J1_toBytes_a14e5 1 1 [.int x0] M P := by
  refine ctN_of (by decide +kernel) (Nat.le_of_ble_eq_true rfl) ?_
  intro p e s m args below meth c C
  rw [w_J1_toBytes_a14e5] at h
  show J p l e rm_J1_toBytes_a14e5 s m args below meth c (QN below E P args s 1 1) E 1 M 0 0 0 [(0, .int x0)] []
  refine j_iconst (pc := 0) (v := (1 : Int32)) C dJ1_toBytes_a14e5_0 rfl ?_
  refine n_newb (pc := 1) C 1 wd_91 dJ1_toBytes_a14e5_1 (Nat.le_of_ble_eq_true rfl) (Nat.le_of_ble_eq_true rfl) (Nat.le_of_ble_eq_true rfl) h (fun a1 M1 h => ?_)
  refine j_dup (pc := 3) C dJ1_toBytes_a14e5_3 rfl ?_
  refine j_iconst (pc := 4) (v := (0 : Int32)) C dJ1_toBytes_a14e5_4 rfl ?_
  refine j_iload_n (pc := 5) C 0 dJ1_toBytes_a14e5_5 rfl ?_
  refine j_i2b (pc := 6) C dJ1_toBytes_a14e5_6 ?_
  refine n_bast (pc := 7) C dJ1_toBytes_a14e5_7 h (fun M2 h => ?_)
  exact j_nret (pc := 8) (some a1) (Or.inr ⟨_, rfl⟩) C dJ1_toBytes_a14e5_8 (Nat.le_of_ble_eq_true rfl) (Nat.le_of_ble_eq_true rfl) h
abbrev rm_J0_init_031fb_AAI : Room := { frames := 1, cells := 0, slots := 0, locals := 20 }
def w_J0_init_031fb_AAI (M : Mm) (x0 : Nat) (x1 : Nat) (x2 : Int32) (P : Mm → Prop) : Prop := zk M x0 = 17 ∧ (∀ M1, M1 = sR M x0 0 (some x1) → zk M1 x0 = 17 ∧ (narrow .byte (.int x2) = .int x2 ∧ fits .byte (.int x2) = true) ∧ (∀ M2, M2 = sI M1 x0 1 x2 → P M2))
set_option maxHeartbeats 4000000 in
set_option maxRecDepth 100000 in
theorem c_J0_init_031fb_AAI (l : Launch) (E : EV) (M : Mm) (x0 : Nat) (x1 : Nat) (x2 : Int32) (P : Mm → Prop) (h : w_J0_init_031fb_AAI M x0 x1 x2 P) : CtV l E yJ0_init_031fb cJ0_init_031fb 3 rm_J0_init_031fb_AAI 0 0 [.ref x0, .ref x1, .int x2] M P := by
  refine ctV_of (by decide +kernel) (Nat.le_of_ble_eq_true rfl) ?_
  intro p e s m args below meth c C hnm
  rw [w_J0_init_031fb_AAI] at h
  show J p l e rm_J0_init_031fb_AAI s m args below meth c (QV below E P args s 0 0) E 3 M 0 0 0 [(0, .ref x0), (1, .ref x1), (2, .int x2)] []
  refine j_aload_n (pc := 0) C 0 dJ0_init_031fb_0 rfl ?_
  refine j_objInit (pc := 1) C wd_599 wd_72 wd_73 dJ0_init_031fb_1 (Nat.le_of_ble_eq_true rfl) (Nat.le_of_ble_eq_true rfl) ?_
  refine j_aload_n (pc := 4) C 0 dJ0_init_031fb_4 rfl ?_
  refine j_aload_n (pc := 5) C 1 dJ0_init_031fb_5 rfl ?_
  refine pf_J0_9 (pc := 6) C hnm dJ0_init_031fb_6 h (fun M1 h => ?_)
  refine j_aload_n (pc := 9) C 0 dJ0_init_031fb_9 rfl ?_
  refine j_iload_n (pc := 10) C 2 dJ0_init_031fb_10 rfl ?_
  refine pf_J0_15 (pc := 11) C hnm dJ0_init_031fb_11 h (fun M2 h => ?_)
  exact j_vret (pc := 14) C dJ0_init_031fb_14 (Nat.le_of_ble_eq_true rfl) (Nat.le_of_ble_eq_true rfl) h
theorem c2_J0_209_AAI (C : Cx p l s m args meth c cc nL RJ0 ret E) {b : Nat} {y0 : Nat} {y1 : Int32} {P : Mm → Prop} (hR : rm_J0_init_031fb_AAI.frames + 1 ≤ R.frames ∧ 8 + (3 + 11) + rm_J0_init_031fb_AAI.locals ≤ R.locals) (hf : kc ≤ R.cells ∧ ks ≤ R.slots) (hst : (st.map fun v => v.category).sum ≤ 8) (d : decode cc pc = .ok (.invokespecial 209, 3)) (h : w_J0_init_031fb_AAI M b y0 y1 P) (kk : ∀ M', P M' → J p l e R s m args below meth c Q E nL M' kc ks (pc + 3) lo st) : J p l e R s m args below meth c Q E nL M kc ks pc lo (.int y1 :: .ref y0 :: .ref b :: st) :=
  j_cI_V (n := 2) (As := [.ref y0, .int y1]) C rfl wd_597 (c_J0_init_031fb_AAI l E M b y0 y1 P h) ⟨wd_598, wd_596, wd_47, by decide +kernel, by decide +kernel, by decide +kernel⟩ rfl rfl hR hf rfl hst d kk
theorem c2_J0_1015 (C : Cx p l s m args meth c cc nL RJ0 ret E) {y0 : Int32} {P : Int32 → Mm → Prop} (hR : rm_J1_canEncode_fc78d.frames + 1 ≤ R.frames ∧ 8 + (1 + 11) + rm_J1_canEncode_fc78d.locals ≤ R.locals) (hf : kc ≤ R.cells ∧ ks ≤ R.slots) (hst : (st.map fun v => v.category).sum ≤ 8) (d : decode cc pc = .ok (.invokestatic 1015, 3)) (h : w_J1_canEncode_fc78d M y0 P) (kk : ∀ r M', P r M' → J p l e R s m args below meth c Q E nL M' kc ks (pc + 3) lo (.int r :: st)) : J p l e R s m args below meth c Q E nL M kc ks pc lo (.int y0 :: st) :=
  j_cS_I (n := 1) (As := [.int y0]) C wd_569 (c_J1_canEncode_fc78d l E M y0 P h) ⟨wd_570, wd_590, wd_55, by decide +kernel, by decide +kernel, by decide +kernel⟩ rfl rfl hR hf rfl hst d kk
theorem c2_J0_1018 (C : Cx p l s m args meth c cc nL RJ0 ret E) {y0 : Int32} {P : Option Nat → Mm → Prop} (hR : rm_J1_toBytes_a14e5.frames + 1 ≤ R.frames ∧ 8 + (1 + 11) + rm_J1_toBytes_a14e5.locals ≤ R.locals) (hf : kc + 1 ≤ R.cells ∧ ks + 1 ≤ R.slots) (hst : (st.map fun v => v.category).sum ≤ 8) (d : decode cc pc = .ok (.invokestatic 1018, 3)) (h : w_J1_toBytes_a14e5 M y0 P) (kk : ∀ r M', P r M' → J p l e R s m args below meth c Q E nL M' (kc + 1) (ks + 1) (pc + 3) lo (va_rf r :: st)) : J p l e R s m args below meth c Q E nL M kc ks pc lo (.int y0 :: st) :=
  j_cS_N (n := 1) (As := [.int y0]) C wd_594 (c_J1_toBytes_a14e5 l E M y0 P h) ⟨wd_595, wd_593, wd_55, by decide +kernel, by decide +kernel, by decide +kernel⟩ rfl rfl hR hf rfl hst d kk
abbrev rm_J0_valueOf_756af : Room := { frames := 2, cells := 2, slots := 5, locals := 42 }
def w_J0_valueOf_756af (M : Mm) (x0 : Int32) (P : Option Nat → Mm → Prop) : Prop := w_J1_canEncode_fc78d M x0 (fun r1 M1 => (if r1 = 0 then (∀ a2 M2, a2 = zn M1 → M2 = sN M1 17 0 → False) else (∀ a3 M3, a3 = zn M1 → M3 = sN M1 17 0 → w_J1_toBytes_a14e5 M3 x0 (fun r4 M4 => ∃ a4, r4 = some a4 ∧ w_J0_init_031fb_AAI M4 a3 a4 (0 : Int32) (fun M5 => P (some a3) M5)))))
set_option maxHeartbeats 4000000 in
set_option maxRecDepth 100000 in
theorem c_J0_valueOf_756af (l : Launch) (E : EV) (M : Mm) (x0 : Int32) (P : Option Nat → Mm → Prop) (h : w_J0_valueOf_756af M x0 P) : CtN l E yJ0_valueOf_756af cJ0_valueOf_756af 1 (.object "java/lang/String") rm_J0_valueOf_756af 2 5 [.int x0] M P := by
  refine ctN_of (by decide +kernel) (Nat.le_of_ble_eq_true rfl) ?_
  intro p e s m args below meth c C
  rw [w_J0_valueOf_756af] at h
  show J p l e rm_J0_valueOf_756af s m args below meth c (QN below E P args s 2 5) E 1 M 0 0 0 [(0, .int x0)] []
  refine j_scs (pc := 0) C wd_501 dJ0_valueOf_756af_0 ?_
  refine j_if_eq (pc := 3) (A := False) (B := True) C 26 dJ0_valueOf_756af_3 (by decide) (by first | rw [if_pos (by decide)] ; trivial | rw [if_neg (by decide)] ; trivial) (fun z => z.elim) (fun _ => ?_)
  refine j_iload_n (pc := 6) C 0 dJ0_valueOf_756af_6 rfl ?_
  refine c2_J0_1015 (pc := 7) C ⟨(Nat.le_of_ble_eq_true rfl), (Nat.le_of_ble_eq_true rfl)⟩ ⟨Nat.le_of_ble_eq_true rfl, Nat.le_of_ble_eq_true rfl⟩ (Nat.le_of_ble_eq_true rfl) dJ0_valueOf_756af_7 h (fun r1 M1 h => ?_)
  refine j_if_eq (pc := 10) C 26 dJ0_valueOf_756af_10 (by decide) h (fun h => ?_) (fun h => ?_)
  · refine n_new (pc := 26) C co_J0 df_J0 wd_591 wd_592 wd_47 dJ0_valueOf_756af_26 (Nat.le_of_ble_eq_true rfl) (Nat.le_of_ble_eq_true rfl) h (fun a2 M2 h => ?_)
    refine j_dup (pc := 29) C dJ0_valueOf_756af_29 rfl ?_
    refine j_iload_n (pc := 30) C 0 dJ0_valueOf_756af_30 rfl ?_
    exact h.elim
  · refine n_new (pc := 13) C co_J0 df_J0 wd_591 wd_592 wd_47 dJ0_valueOf_756af_13 (Nat.le_of_ble_eq_true rfl) (Nat.le_of_ble_eq_true rfl) h (fun a3 M3 h => ?_)
    refine j_dup (pc := 16) C dJ0_valueOf_756af_16 rfl ?_
    refine j_iload_n (pc := 17) C 0 dJ0_valueOf_756af_17 rfl ?_
    refine c2_J0_1018 (pc := 18) C ⟨(Nat.le_of_ble_eq_true rfl), (Nat.le_of_ble_eq_true rfl)⟩ ⟨Nat.le_of_ble_eq_true rfl, Nat.le_of_ble_eq_true rfl⟩ (Nat.le_of_ble_eq_true rfl) dJ0_valueOf_756af_18 h (fun r4 M4 h => ?_)
    obtain ⟨a4, rfl, h⟩ := h
    refine j_iconst (pc := 21) (v := (0 : Int32)) C dJ0_valueOf_756af_21 rfl ?_
    refine c2_J0_209_AAI (pc := 22) C ⟨(Nat.le_of_ble_eq_true rfl), (Nat.le_of_ble_eq_true rfl)⟩ ⟨Nat.le_of_ble_eq_true rfl, Nat.le_of_ble_eq_true rfl⟩ (Nat.le_of_ble_eq_true rfl) dJ0_valueOf_756af_22 h (fun M5 h => ?_)
    exact j_nret (pc := 25) (some a3) (Or.inl ⟨_, rfl⟩) C dJ0_valueOf_756af_25 (Nat.le_of_ble_eq_true rfl) (Nat.le_of_ble_eq_true rfl) h
theorem c2_L_32 (C : Cx p l s m args meth c cc nL RL ret E) {y0 : Int32} {P : Option Nat → Mm → Prop} (hR : rm_J0_valueOf_756af.frames + 1 ≤ R.frames ∧ 8 + (1 + 11) + rm_J0_valueOf_756af.locals ≤ R.locals) (hf : kc + 2 ≤ R.cells ∧ ks + 5 ≤ R.slots) (hst : (st.map fun v => v.category).sum ≤ 8) (d : decode cc pc = .ok (.invokestatic 32, 3)) (h : w_J0_valueOf_756af M y0 P) (kk : ∀ r M', P r M' → J p l e R s m args below meth c Q E nL M' (kc + 2) (ks + 5) (pc + 3) lo (va_rf r :: st)) : J p l e R s m args below meth c Q E nL M kc ks pc lo (.int y0 :: st) :=
  j_cS_N (n := 1) (As := [.int y0]) C wd_588 (c_J0_valueOf_756af l E M y0 P h) ⟨wd_589, wd_587, wd_47, by decide +kernel, by decide +kernel, by decide +kernel⟩ rfl rfl hR hf rfl hst d kk
abbrev rm_L_name : Room := { frames := 3, cells := 2, slots := 5, locals := 62 }
def w_L_name (M : Mm) (x0 : Int32) (P : Option Nat → Mm → Prop) : Prop := w_J0_valueOf_756af M (((97 : Int32) + x0).toUInt32 % 65536).toInt32 (fun r1 M1 => ∃ a1, r1 = some a1 ∧ P (some a1) M1)
set_option maxHeartbeats 4000000 in
set_option maxRecDepth 100000 in
theorem c_L_name (l : Launch) (E : EV) (M : Mm) (x0 : Int32) (P : Option Nat → Mm → Prop) (h : w_L_name M x0 P) : CtN l E yL_name cL_name 1 (.object "java/lang/String") rm_L_name 2 5 [.int x0] M P := by
  refine ctN_of (by decide +kernel) (Nat.le_of_ble_eq_true rfl) ?_
  intro p e s m args below meth c C
  rw [w_L_name] at h
  show J p l e rm_L_name s m args below meth c (QN below E P args s 2 5) E 1 M 0 0 0 [(0, .int x0)] []
  refine j_bipush (pc := 0) (v := (97 : Int32)) C dL_name_0 rfl ?_
  refine j_iload_n (pc := 2) C 0 dL_name_2 rfl ?_
  refine j_iadd (pc := 3) C dL_name_3 ?_
  refine j_i2c (pc := 4) C dL_name_4 ?_
  refine c2_L_32 (pc := 5) C ⟨(Nat.le_of_ble_eq_true rfl), (Nat.le_of_ble_eq_true rfl)⟩ ⟨Nat.le_of_ble_eq_true rfl, Nat.le_of_ble_eq_true rfl⟩ (Nat.le_of_ble_eq_true rfl) dL_name_5 h (fun r1 M1 h => ?_)
  obtain ⟨a1, rfl, h⟩ := h
  exact j_nret (pc := 8) (some a1) (Or.inl ⟨_, rfl⟩) C dL_name_8 (Nat.le_of_ble_eq_true rfl) (Nat.le_of_ble_eq_true rfl) h
abbrev rm_J0_isLatin1_aae02_A : Room := { frames := 0, cells := 0, slots := 0, locals := 0 }
def w_J0_isLatin1_aae02_A (M : Mm) (x0 : Nat) (P : Int32 → Mm → Prop) : Prop := zk M x0 = 17 ∧ (if (zI M x0 1) = 0 then ((1 : Int32) = 0 ∨ (1 : Int32) = 1) ∧ P (1 : Int32) M else ((0 : Int32) = 0 ∨ (0 : Int32) = 1) ∧ P (0 : Int32) M)
set_option maxHeartbeats 4000000 in
set_option maxRecDepth 100000 in
theorem c_J0_isLatin1_aae02_A (l : Launch) (E : EV) (M : Mm) (x0 : Nat) (P : Int32 → Mm → Prop) (h : w_J0_isLatin1_aae02_A M x0 P) : CtI l E yJ0_isLatin1_aae02 cJ0_isLatin1_aae02 1 .boolean rm_J0_isLatin1_aae02_A 0 0 [.ref x0] M P := by
  refine ctI_of (by decide +kernel) (Nat.le_of_ble_eq_true rfl) ?_
  intro p e s m args below meth c C
  rw [w_J0_isLatin1_aae02_A] at h
  show J p l e rm_J0_isLatin1_aae02_A s m args below meth c (QI below E P args s 0 0) E 1 M 0 0 0 [(0, .ref x0)] []
  refine j_scs (pc := 0) C wd_501 dJ0_isLatin1_aae02_0 ?_
  refine j_if_eq (pc := 3) (A := False) (B := True) C 17 dJ0_isLatin1_aae02_3 (by decide) (by first | rw [if_pos (by decide)] ; trivial | rw [if_neg (by decide)] ; trivial) (fun z => z.elim) (fun _ => ?_)
  refine j_aload_n (pc := 6) C 0 dJ0_isLatin1_aae02_6 rfl ?_
  refine gf_J0_15 (pc := 7) C dJ0_isLatin1_aae02_7 h (fun h => ?_)
  refine j_if_ne (pc := 10) C 17 dJ0_isLatin1_aae02_10 (by decide) h (fun h => ?_) (fun h => ?_)
  · refine j_iconst (pc := 17) (v := (0 : Int32)) C dJ0_isLatin1_aae02_17 rfl ?_
    exact j_zret (pc := 18) C dJ0_isLatin1_aae02_18 (Nat.le_of_ble_eq_true rfl) (Nat.le_of_ble_eq_true rfl) h
  · refine j_iconst (pc := 13) (v := (1 : Int32)) C dJ0_isLatin1_aae02_13 rfl ?_
    refine j_goto (pc := 14) C 18 dJ0_isLatin1_aae02_14 (by decide) ?_
    exact j_zret (pc := 18) C dJ0_isLatin1_aae02_18 (Nat.le_of_ble_eq_true rfl) (Nat.le_of_ble_eq_true rfl) h
theorem c2_J1_9 (C : Cx p l s m args meth c cc nL RJ1 ret E) {y0 : Int32} {y1 : Int32} {P : Mm → Prop} (hR : rm_J0_checkIndex_df160.frames + 1 ≤ R.frames ∧ 8 + (2 + 11) + rm_J0_checkIndex_df160.locals ≤ R.locals) (hf : kc ≤ R.cells ∧ ks ≤ R.slots) (hst : (st.map fun v => v.category).sum ≤ 8) (d : decode cc pc = .ok (.invokestatic 9, 3)) (h : w_J0_checkIndex_df160 M y0 y1 P) (kk : ∀ M', P M' → J p l e R s m args below meth c Q E nL M' kc ks (pc + 3) lo st) : J p l e R s m args below meth c Q E nL M kc ks pc lo (.int y1 :: .int y0 :: st) :=
  j_cS_V (n := 2) (As := [.int y0, .int y1]) C wd_578 (c_J0_checkIndex_df160 l E M y0 y1 P h) ⟨wd_579, wd_682, wd_47, by decide +kernel, by decide +kernel, by decide +kernel⟩ rfl rfl hR hf rfl hst d kk
abbrev rm_J1_charAt_3b067 : Room := { frames := 2, cells := 0, slots := 0, locals := 51 }
def w_J1_charAt_3b067 (M : Mm) (x0 : Nat) (x1 : Int32) (P : Int32 → Mm → Prop) : Prop := zk M x0 = 9 ∧ w_J0_checkIndex_df160 M x1 (nI (zl M x0)) (fun M1 => zk M1 x0 = 9 ∧ vp_in x1 (zl M1 x0) ∧ narrow .char (.int (((zI M1 x0 x1.toNatClampNeg) &&& (255 : Int32)).toUInt32 % 65536).toInt32) = .int (((zI M1 x0 x1.toNatClampNeg) &&& (255 : Int32)).toUInt32 % 65536).toInt32 ∧ P (((zI M1 x0 x1.toNatClampNeg) &&& (255 : Int32)).toUInt32 % 65536).toInt32 M1)
set_option maxHeartbeats 4000000 in
set_option maxRecDepth 100000 in
theorem c_J1_charAt_3b067 (l : Launch) (E : EV) (M : Mm) (x0 : Nat) (x1 : Int32) (P : Int32 → Mm → Prop) (h : w_J1_charAt_3b067 M x0 x1 P) : CtI l E yJ1_charAt_3b067 cJ1_charAt_3b067 2 .char rm_J1_charAt_3b067 0 0 [.ref x0, .int x1] M P := by
  refine ctI_of (by decide +kernel) (Nat.le_of_ble_eq_true rfl) ?_
  intro p e s m args below meth c C
  rw [w_J1_charAt_3b067] at h
  show J p l e rm_J1_charAt_3b067 s m args below meth c (QI below E P args s 0 0) E 2 M 0 0 0 [(0, .ref x0), (1, .int x1)] []
  refine j_iload_n (pc := 0) C 1 dJ1_charAt_3b067_0 rfl ?_
  refine j_aload_n (pc := 1) C 0 dJ1_charAt_3b067_1 rfl ?_
  refine j_alen (pc := 2) (k := 9) C (by decide) dJ1_charAt_3b067_2 h (fun h => ?_)
  refine c2_J1_9 (pc := 3) C ⟨(Nat.le_of_ble_eq_true rfl), (Nat.le_of_ble_eq_true rfl)⟩ ⟨Nat.le_of_ble_eq_true rfl, Nat.le_of_ble_eq_true rfl⟩ (Nat.le_of_ble_eq_true rfl) dJ1_charAt_3b067_3 h (fun M1 h => ?_)
  refine j_aload_n (pc := 6) C 0 dJ1_charAt_3b067_6 rfl ?_
  refine j_iload_n (pc := 7) C 1 dJ1_charAt_3b067_7 rfl ?_
  refine j_bald (pc := 8) C dJ1_charAt_3b067_8 h (fun h => ?_)
  refine j_sipush (pc := 9) (v := (255 : Int32)) C dJ1_charAt_3b067_9 rfl ?_
  refine j_iand (pc := 12) C dJ1_charAt_3b067_12 ?_
  refine j_i2c (pc := 13) C dJ1_charAt_3b067_13 ?_
  exact j_cret (pc := 14) C dJ1_charAt_3b067_14 (Nat.le_of_ble_eq_true rfl) (Nat.le_of_ble_eq_true rfl) h
theorem c2_J0_492_A (C : Cx p l s m args meth c cc nL RJ0 ret E) {b : Nat} {P : Int32 → Mm → Prop} (hR : rm_J0_isLatin1_aae02_A.frames + 1 ≤ R.frames ∧ 8 + (1 + 11) + rm_J0_isLatin1_aae02_A.locals ≤ R.locals) (hf : kc ≤ R.cells ∧ ks ≤ R.slots) (hst : (st.map fun v => v.category).sum ≤ 8) (d : decode cc pc = .ok (.invokevirtual 492, 3)) (h : zk M b = 17 ∧ w_J0_isLatin1_aae02_A M b P) (kk : ∀ r M', P r M' → J p l e R s m args below meth c Q E nL M' kc ks (pc + 3) lo (.int r :: st)) : J p l e R s m args below meth c Q E nL M kc ks pc lo (.ref b :: st) :=
  j_cV_I (n := 0) (As := []) C co_J0 rfl wd_676 wd_677 h.1 (c_J0_isLatin1_aae02_A l E M b P h.2) ⟨wd_678, wd_675, wd_47, by decide +kernel, by decide +kernel, by decide +kernel⟩ rfl rfl hR hf rfl hst d kk
theorem c2_J0_495 (C : Cx p l s m args meth c cc nL RJ0 ret E) {y0 : Nat} {y1 : Int32} {P : Int32 → Mm → Prop} (hR : rm_J1_charAt_3b067.frames + 1 ≤ R.frames ∧ 8 + (2 + 11) + rm_J1_charAt_3b067.locals ≤ R.locals) (hf : kc ≤ R.cells ∧ ks ≤ R.slots) (hst : (st.map fun v => v.category).sum ≤ 8) (d : decode cc pc = .ok (.invokestatic 495, 3)) (h : w_J1_charAt_3b067 M y0 y1 P) (kk : ∀ r M', P r M' → J p l e R s m args below meth c Q E nL M' kc ks (pc + 3) lo (.int r :: st)) : J p l e R s m args below meth c Q E nL M kc ks pc lo (.int y1 :: .ref y0 :: st) :=
  j_cS_I (n := 2) (As := [.ref y0, .int y1]) C wd_680 (c_J1_charAt_3b067 l E M y0 y1 P h) ⟨wd_681, wd_679, wd_55, by decide +kernel, by decide +kernel, by decide +kernel⟩ rfl rfl hR hf rfl hst d kk
abbrev rm_J0_charAt_5068e_AI : Room := { frames := 3, cells := 0, slots := 0, locals := 72 }
def w_J0_charAt_5068e_AI (M : Mm) (x0 : Nat) (x1 : Int32) (P : Int32 → Mm → Prop) : Prop := zk M x0 = 17 ∧ w_J0_isLatin1_aae02_A M x0 (fun r1 M1 => (if r1 = 0 then (zk M1 x0 = 17 ∧ ∃ a2, zR M1 x0 0 = some a2 ∧ False) else (zk M1 x0 = 17 ∧ ∃ a3, zR M1 x0 0 = some a3 ∧ w_J1_charAt_3b067 M1 a3 x1 (fun r4 M4 => narrow .char (.int r4) = .int r4 ∧ P r4 M4))))
set_option maxHeartbeats 4000000 in
set_option maxRecDepth 100000 in
theorem c_J0_charAt_5068e_AI (l : Launch) (E : EV) (M : Mm) (x0 : Nat) (x1 : Int32) (P : Int32 → Mm → Prop) (h : w_J0_charAt_5068e_AI M x0 x1 P) : CtI l E yJ0_charAt_5068e cJ0_charAt_5068e 2 .char rm_J0_charAt_5068e_AI 0 0 [.ref x0, .int x1] M P := by
  refine ctI_of (by decide +kernel) (Nat.le_of_ble_eq_true rfl) ?_
  intro p e s m args below meth c C
  rw [w_J0_charAt_5068e_AI] at h
  show J p l e rm_J0_charAt_5068e_AI s m args below meth c (QI below E P args s 0 0) E 2 M 0 0 0 [(0, .ref x0), (1, .int x1)] []
  refine j_aload_n (pc := 0) C 0 dJ0_charAt_5068e_0 rfl ?_
  refine c2_J0_492_A (pc := 1) C ⟨(Nat.le_of_ble_eq_true rfl), (Nat.le_of_ble_eq_true rfl)⟩ ⟨Nat.le_of_ble_eq_true rfl, Nat.le_of_ble_eq_true rfl⟩ (Nat.le_of_ble_eq_true rfl) dJ0_charAt_5068e_1 h (fun r1 M1 h => ?_)
  refine j_if_eq (pc := 4) C 16 dJ0_charAt_5068e_4 (by decide) h (fun h => ?_) (fun h => ?_)
  · refine j_aload_n (pc := 16) C 0 dJ0_charAt_5068e_16 rfl ?_
    refine gf_J0_9 (pc := 17) C dJ0_charAt_5068e_17 h (fun a2 h => ?_)
    refine j_iload_n (pc := 20) C 1 dJ0_charAt_5068e_20 rfl ?_
    exact h.elim
  · refine j_aload_n (pc := 7) C 0 dJ0_charAt_5068e_7 rfl ?_
    refine gf_J0_9 (pc := 8) C dJ0_charAt_5068e_8 h (fun a3 h => ?_)
    refine j_iload_n (pc := 11) C 1 dJ0_charAt_5068e_11 rfl ?_
    refine c2_J0_495 (pc := 12) C ⟨(Nat.le_of_ble_eq_true rfl), (Nat.le_of_ble_eq_true rfl)⟩ ⟨Nat.le_of_ble_eq_true rfl, Nat.le_of_ble_eq_true rfl⟩ (Nat.le_of_ble_eq_true rfl) dJ0_charAt_5068e_12 h (fun r4 M4 h => ?_)
    exact j_cret (pc := 15) C dJ0_charAt_5068e_15 (Nat.le_of_ble_eq_true rfl) (Nat.le_of_ble_eq_true rfl) h
theorem c2_L_7_A (C : Cx p l s m args meth c cc nL RL ret E) {b : Nat} {P : Int32 → Mm → Prop} (hR : rm_J0_length_8abf5_A.frames + 1 ≤ R.frames ∧ 8 + (1 + 11) + rm_J0_length_8abf5_A.locals ≤ R.locals) (hf : kc ≤ R.cells ∧ ks ≤ R.slots) (hst : (st.map fun v => v.category).sum ≤ 8) (d : decode cc pc = .ok (.invokevirtual 7, 3)) (h : zk M b = 17 ∧ w_J0_length_8abf5_A M b P) (kk : ∀ r M', P r M' → J p l e R s m args below meth c Q E nL M' kc ks (pc + 3) lo (.int r :: st)) : J p l e R s m args below meth c Q E nL M kc ks pc lo (.ref b :: st) :=
  j_cV_I (n := 0) (As := []) C co_J0 rfl wd_494 wd_495 h.1 (c_J0_length_8abf5_A l E M b P h.2) ⟨wd_496, wd_670, wd_47, by decide +kernel, by decide +kernel, by decide +kernel⟩ rfl rfl hR hf rfl hst d kk
theorem c2_L_13_AI (C : Cx p l s m args meth c cc nL RL ret E) {b : Nat} {y0 : Int32} {P : Int32 → Mm → Prop} (hR : rm_J0_charAt_5068e_AI.frames + 1 ≤ R.frames ∧ 8 + (2 + 11) + rm_J0_charAt_5068e_AI.locals ≤ R.locals) (hf : kc ≤ R.cells ∧ ks ≤ R.slots) (hst : (st.map fun v => v.category).sum ≤ 8) (d : decode cc pc = .ok (.invokevirtual 13, 3)) (h : zk M b = 17 ∧ w_J0_charAt_5068e_AI M b y0 P) (kk : ∀ r M', P r M' → J p l e R s m args below meth c Q E nL M' kc ks (pc + 3) lo (.int r :: st)) : J p l e R s m args below meth c Q E nL M kc ks pc lo (.int y0 :: .ref b :: st) :=
  j_cV_I (n := 1) (As := [.int y0]) C co_J0 rfl wd_672 wd_673 h.1 (c_J0_charAt_5068e_AI l E M b y0 P h.2) ⟨wd_674, wd_671, wd_47, by decide +kernel, by decide +kernel, by decide +kernel⟩ rfl rfl hR hf rfl hst d kk
theorem c2_L_17 (C : Cx p l s m args meth c cc nL RL ret E) {b : Nat} {y0 : Int32} {y1 : Int32} {y2 : Int32} {y3 : Int32} {y4 : Int32} {P : Int32 → Mm → Prop} (hR : rm_X7_append.frames + 1 ≤ R.frames ∧ 8 + (6 + 11) + rm_X7_append.locals ≤ R.locals) (hf : kc ≤ R.cells ∧ ks ≤ R.slots) (hst : (st.map fun v => v.category).sum ≤ 8) (d : decode cc pc = .ok (.invokevirtual 17, 3)) (h : zk M b = 7 ∧ w_X7_append M b y0 y1 y2 y3 y4 P) (kk : ∀ r M', P r M' → J p l e R s m args below meth c Q E nL M' kc ks (pc + 3) lo (.int r :: st)) : J p l e R s m args below meth c Q E nL M kc ks pc lo (.int y4 :: .int y3 :: .int y2 :: .int y1 :: .int y0 :: .ref b :: st) :=
  j_cV_I (n := 5) (As := [.int y0, .int y1, .int y2, .int y3, .int y4]) C co_X7 rfl wd_687 wd_688 h.1 (c_X7_append l E M b y0 y1 y2 y3 y4 P h.2) ⟨wd_689, wd_686, wd_40, by decide +kernel, by decide +kernel, by decide +kernel⟩ rfl rfl hR hf rfl hst d kk
abbrev rm_L_feeds_AA (B S : Nat) : Room := { frames := 4, cells := B, slots := S, locals := 93 }
def l_L_feeds_AA_20 (B S : Nat) (P : Int32 → Mm → Prop) (K75 : Mm → Nat → Nat → Nat → Nat → Int32 → Int32 → Nat → Prop) : Nat → Mm → Nat → Nat → Nat → Nat → Int32 → Int32 → Nat → Int32 → Prop
  | 0, _, _, _, _, _, _, _, _, _ => False
  | n + 1, M, b, s, x0, x1, x2, x3, x4, x5 => (if (20 : Int32) ≤ x5 then K75 M b s x0 x1 x2 x3 x4 else ¬ (4 : Int32) = 0 ∧ ¬ (4 : Int32) = 0 ∧ zk M x4 = 10 ∧ vp_in (x5 / (4 : Int32)) (zl M x4) ∧ zk M x1 = 17 ∧ w_J0_length_8abf5_A M x1 (fun r3 M3 => (if r3 ≤ (x3 + x5) then zk M3 x4 = 10 ∧ vp_in (x5 / (4 : Int32)) (zl M3 x4) ∧ (∀ M4, M4 = sI M3 x4 (x5 / (4 : Int32)).toNatClampNeg (((zI M x4 (x5 / (4 : Int32)).toNatClampNeg) <<< ((8 : Int32) &&& 31)) ||| (32 : Int32)) → l_L_feeds_AA_20 B S P K75 n M4 b s x0 x1 x2 x3 x4 (x5 + (1 : Int32))) else zk M3 x1 = 17 ∧ w_J0_charAt_5068e_AI M3 x1 (x3 + x5) (fun r5 M5 => zk M5 x4 = 10 ∧ vp_in (x5 / (4 : Int32)) (zl M5 x4) ∧ (∀ M6, M6 = sI M5 x4 (x5 / (4 : Int32)).toNatClampNeg (((zI M x4 (x5 / (4 : Int32)).toNatClampNeg) <<< ((8 : Int32) &&& 31)) ||| r5) → l_L_feeds_AA_20 B S P K75 n M6 b s x0 x1 x2 x3 x4 (x5 + (1 : Int32)))))))
set_option maxHeartbeats 4000000 in
set_option maxRecDepth 100000 in
theorem jl_L_feeds_AA_20 {s0 : State} {B S : Nat} {P : Int32 → Mm → Prop} {K75 : Mm → Nat → Nat → Nat → Nat → Int32 → Int32 → Nat → Prop} (C : Cx p l s0 m args meth c cL_feeds 6 RL (some .boolean) E) (k75 : ∀ M b s x0 x1 x2 x3 x4, b ≤ B → s ≤ S → K75 M b s x0 x1 x2 x3 x4 → J p l e (rm_L_feeds_AA B S) s0 m args below meth c (QI below E P args s0 B S) E 6 M b s 75 [(0, .ref x0), (1, .ref x1), (2, .int x2), (3, .int x3), (4, .ref x4)] []) : ∀ n M b s x0 x1 x2 x3 x4 x5, b ≤ B → s ≤ S → l_L_feeds_AA_20 B S P K75 n M b s x0 x1 x2 x3 x4 x5 → J p l e (rm_L_feeds_AA B S) s0 m args below meth c (QI below E P args s0 B S) E 6 M b s 20 [(0, .ref x0), (1, .ref x1), (2, .int x2), (3, .int x3), (4, .ref x4), (5, .int x5)] [] := by
  intro n
  induction n with
  | zero => intro M b s x0 x1 x2 x3 x4 x5 hb hs h; exact h.elim
  | succ n ih =>
    intro M b s x0 x1 x2 x3 x4 x5 hb hs h
    rw [l_L_feeds_AA_20] at h
    refine j_iload (pc := 20) C 5 dL_feeds_20 rfl ?_
    refine j_bipush (pc := 22) (v := (20 : Int32)) C dL_feeds_22 rfl ?_
    refine j_icmp_ge (pc := 24) C 75 dL_feeds_24 (by decide) h (fun h => ?_) (fun h => ?_)
    · exact j_weak [0, 1, 2, 3, 4] rfl (k75 _ _ _ _ _ _ _ _ hb hs h)
    · refine j_aload (pc := 27) C 4 dL_feeds_27 rfl ?_
      refine j_iload (pc := 29) C 5 dL_feeds_29 rfl ?_
      refine j_iconst (pc := 31) (v := (4 : Int32)) C dL_feeds_31 rfl ?_
      refine j_idiv (pc := 32) C dL_feeds_32 h (fun h => ?_)
      refine j_aload (pc := 33) C 4 dL_feeds_33 rfl ?_
      refine j_iload (pc := 35) C 5 dL_feeds_35 rfl ?_
      refine j_iconst (pc := 37) (v := (4 : Int32)) C dL_feeds_37 rfl ?_
      refine j_idiv (pc := 38) C dL_feeds_38 h (fun h => ?_)
      refine j_iald (pc := 39) C dL_feeds_39 h (fun h => ?_)
      refine j_bipush (pc := 40) (v := (8 : Int32)) C dL_feeds_40 rfl ?_
      refine j_ishl (pc := 42) C dL_feeds_42 ?_
      refine j_iload_n (pc := 43) C 3 dL_feeds_43 rfl ?_
      refine j_iload (pc := 44) C 5 dL_feeds_44 rfl ?_
      refine j_iadd (pc := 46) C dL_feeds_46 ?_
      refine j_aload_n (pc := 47) C 1 dL_feeds_47 rfl ?_
      refine c2_L_7_A (pc := 48) C ⟨(Nat.le_of_ble_eq_true rfl), (Nat.le_of_ble_eq_true rfl)⟩ ⟨hb, hs⟩ (Nat.le_of_ble_eq_true rfl) dL_feeds_48 h (fun r3 M3 h => ?_)
      refine j_icmp_ge (pc := 51) C 65 dL_feeds_51 (by decide) h (fun h => ?_) (fun h => ?_)
      · refine j_bipush (pc := 65) (v := (32 : Int32)) C dL_feeds_65 rfl ?_
        refine j_ior (pc := 67) C dL_feeds_67 ?_
        refine n_iast (pc := 68) C dL_feeds_68 h (fun M4 h => ?_)
        refine j_iinc (pc := 69) (v := (1 : Int32)) C 5 [(5, _), (0, _), (1, _), (2, _), (3, _), (4, _)] dL_feeds_69 rfl rfl (by decide) rfl ?_
        refine j_goto (pc := 72) C 20 dL_feeds_72 (by decide) ?_
        exact j_weak [1, 2, 3, 4, 5, 0] rfl (ih _ _ _ _ _ _ _ _ _ hb hs h)
      · refine j_aload_n (pc := 54) C 1 dL_feeds_54 rfl ?_
        refine j_iload_n (pc := 55) C 3 dL_feeds_55 rfl ?_
        refine j_iload (pc := 56) C 5 dL_feeds_56 rfl ?_
        refine j_iadd (pc := 58) C dL_feeds_58 ?_
        refine c2_L_13_AI (pc := 59) C ⟨(Nat.le_of_ble_eq_true rfl), (Nat.le_of_ble_eq_true rfl)⟩ ⟨hb, hs⟩ (Nat.le_of_ble_eq_true rfl) dL_feeds_59 h (fun r5 M5 h => ?_)
        refine j_goto (pc := 62) C 67 dL_feeds_62 (by decide) ?_
        refine j_ior (pc := 67) C dL_feeds_67 ?_
        refine n_iast (pc := 68) C dL_feeds_68 h (fun M6 h => ?_)
        refine j_iinc (pc := 69) (v := (1 : Int32)) C 5 [(5, _), (0, _), (1, _), (2, _), (3, _), (4, _)] dL_feeds_69 rfl rfl (by decide) rfl ?_
        refine j_goto (pc := 72) C 20 dL_feeds_72 (by decide) ?_
        exact j_weak [1, 2, 3, 4, 5, 0] rfl (ih _ _ _ _ _ _ _ _ _ hb hs h)
def l_L_feeds_AA_4 (B S : Nat) (P : Int32 → Mm → Prop) (K106 : Mm → Nat → Nat → Prop) (K114 : Mm → Nat → Nat → Prop) : Nat → Mm → Nat → Nat → Nat → Nat → Int32 → Int32 → Prop
  | 0, _, _, _, _, _, _, _ => False
  | n + 1, M, b, s, x0, x1, x2, x3 => zk M x1 = 17 ∧ w_J0_length_8abf5_A M x1 (fun r1 M1 => (if r1 ≤ x3 then K114 M1 b s else b + 1 ≤ B ∧ s + 5 ≤ S ∧ ¬ (5 : Int32) < 0 ∧ (5 : Int32).toNatClampNeg ≤ 5 ∧ (∀ a2 M2, a2 = zn M1 → M2 = sN M1 10 (5 : Int32).toNatClampNeg → (∃ n20, l_L_feeds_AA_20 B S P (fun M7 b7 s7 x0_7 x1_7 x2_7 x3_7 x4_7 => zk M7 x4_7 = 10 ∧ vp_in (0 : Int32) (zl M7 x4_7) ∧ zk M7 x4_7 = 10 ∧ vp_in (1 : Int32) (zl M7 x4_7) ∧ zk M7 x4_7 = 10 ∧ vp_in (2 : Int32) (zl M7 x4_7) ∧ zk M7 x4_7 = 10 ∧ vp_in (3 : Int32) (zl M7 x4_7) ∧ zk M7 x4_7 = 10 ∧ vp_in (4 : Int32) (zl M7 x4_7) ∧ zk M7 x0_7 = 7 ∧ w_X7_append M7 x0_7 (zI M7 x4_7 (0 : Int32).toNatClampNeg) (zI M7 x4_7 (1 : Int32).toNatClampNeg) (zI M7 x4_7 (2 : Int32).toNatClampNeg) (zI M7 x4_7 (3 : Int32).toNatClampNeg) (zI M7 x4_7 (4 : Int32).toNatClampNeg) (fun r8 M8 => (if r8 = (x2_7 + (20 : Int32)) then l_L_feeds_AA_4 B S P K106 K114 n M8 b7 s7 x0_7 x1_7 (x2_7 + (20 : Int32)) (x3_7 + (20 : Int32)) else K106 M8 b7 s7))) n20 M2 (b + 1) (s + 5) x0 x1 x2 x3 a2 (0 : Int32)))))
set_option maxHeartbeats 4000000 in
set_option maxRecDepth 100000 in
theorem jl_L_feeds_AA_4 {s0 : State} {B S : Nat} {P : Int32 → Mm → Prop} {K106 : Mm → Nat → Nat → Prop} {K114 : Mm → Nat → Nat → Prop} (C : Cx p l s0 m args meth c cL_feeds 6 RL (some .boolean) E) (k106 : ∀ M b s, b ≤ B → s ≤ S → K106 M b s → J p l e (rm_L_feeds_AA B S) s0 m args below meth c (QI below E P args s0 B S) E 6 M b s 106 [] []) (k114 : ∀ M b s, b ≤ B → s ≤ S → K114 M b s → J p l e (rm_L_feeds_AA B S) s0 m args below meth c (QI below E P args s0 B S) E 6 M b s 114 [] []) : ∀ n M b s x0 x1 x2 x3, b ≤ B → s ≤ S → l_L_feeds_AA_4 B S P K106 K114 n M b s x0 x1 x2 x3 → J p l e (rm_L_feeds_AA B S) s0 m args below meth c (QI below E P args s0 B S) E 6 M b s 4 [(0, .ref x0), (1, .ref x1), (2, .int x2), (3, .int x3)] [] := by
  intro n
  induction n with
  | zero => intro M b s x0 x1 x2 x3 hb hs h; exact h.elim
  | succ n ih =>
    intro M b s x0 x1 x2 x3 hb hs h
    rw [l_L_feeds_AA_4] at h
    refine j_iload_n (pc := 4) C 3 dL_feeds_4 rfl ?_
    refine j_aload_n (pc := 5) C 1 dL_feeds_5 rfl ?_
    refine c2_L_7_A (pc := 6) C ⟨(Nat.le_of_ble_eq_true rfl), (Nat.le_of_ble_eq_true rfl)⟩ ⟨hb, hs⟩ (Nat.le_of_ble_eq_true rfl) dL_feeds_6 h (fun r1 M1 h => ?_)
    refine j_icmp_ge (pc := 9) C 114 dL_feeds_9 (by decide) h (fun h => ?_) (fun h => ?_)
    · exact j_weak [] rfl (k114 _ _ _  hb hs h)
    · refine j_iconst (pc := 12) (v := (5 : Int32)) C dL_feeds_12 rfl ?_
      obtain ⟨hb, hs, h⟩ := h
      refine n_newi (pc := 13) C 5 wd_92 dL_feeds_13 (Nat.le_of_ble_eq_true rfl) hb hs h (fun a2 M2 h => ?_)
      refine j_astore (pc := 15) C [(4, _), (0, _), (1, _), (2, _), (3, _)] dL_feeds_15 (by decide) rfl ?_
      refine j_iconst (pc := 17) (v := (0 : Int32)) C dL_feeds_17 rfl ?_
      refine j_istore (pc := 18) C [(5, _), (4, _), (0, _), (1, _), (2, _), (3, _)] dL_feeds_18 (by decide) rfl ?_
      obtain ⟨n20, h⟩ := h
      refine j_weak [2, 3, 4, 5, 1, 0] rfl (jl_L_feeds_AA_20 C (fun M7 b7 s7 x0_7 x1_7 x2_7 x3_7 x4_7 hb hs h => ?_) n20 _ _ _ _ _ _ _ _ _ hb hs h)
      · refine j_iinc (pc := 75) (v := (20 : Int32)) C 2 [(2, _), (0, _), (1, _), (3, _), (4, _)] dL_feeds_75 rfl rfl (by decide) rfl ?_
        refine j_aload_n (pc := 78) C 1 dL_feeds_78 rfl ?_
        refine j_aload (pc := 79) C 4 dL_feeds_79 rfl ?_
        refine j_iconst (pc := 81) (v := (0 : Int32)) C dL_feeds_81 rfl ?_
        refine j_iald (pc := 82) C dL_feeds_82 h (fun h => ?_)
        refine j_aload (pc := 83) C 4 dL_feeds_83 rfl ?_
        refine j_iconst (pc := 85) (v := (1 : Int32)) C dL_feeds_85 rfl ?_
        refine j_iald (pc := 86) C dL_feeds_86 h (fun h => ?_)
        refine j_aload (pc := 87) C 4 dL_feeds_87 rfl ?_
        refine j_iconst (pc := 89) (v := (2 : Int32)) C dL_feeds_89 rfl ?_
        refine j_iald (pc := 90) C dL_feeds_90 h (fun h => ?_)
        refine j_aload (pc := 91) C 4 dL_feeds_91 rfl ?_
        refine j_iconst (pc := 93) (v := (3 : Int32)) C dL_feeds_93 rfl ?_
        refine j_iald (pc := 94) C dL_feeds_94 h (fun h => ?_)
        refine j_aload (pc := 95) C 4 dL_feeds_95 rfl ?_
        refine j_iconst (pc := 97) (v := (4 : Int32)) C dL_feeds_97 rfl ?_
        refine j_iald (pc := 98) C dL_feeds_98 h (fun h => ?_)
        refine c2_L_17 (pc := 99) C ⟨(Nat.le_of_ble_eq_true rfl), (Nat.le_of_ble_eq_true rfl)⟩ ⟨hb, hs⟩ (Nat.le_of_ble_eq_true rfl) dL_feeds_99 h (fun r8 M8 h => ?_)
        refine j_iload_n (pc := 102) C 0 dL_feeds_102 rfl ?_
        refine j_icmp_eq (pc := 103) C 108 dL_feeds_103 (by decide) h (fun h => ?_) (fun h => ?_)
        · refine j_iinc (pc := 108) (v := (20 : Int32)) C 3 [(3, _), (2, _), (0, _), (1, _), (4, _)] dL_feeds_108 rfl rfl (by decide) rfl ?_
          refine j_goto (pc := 111) C 4 dL_feeds_111 (by decide) ?_
          exact j_weak [2, 3, 1, 0] rfl (ih _ _ _ _ _ _ _ hb hs h)
        · exact j_weak [] rfl (k106 _ _ _  hb hs h)
def w_L_feeds_AA (M : Mm) (x0 : Nat) (x1 : Nat) (P : Int32 → Mm → Prop) (B S : Nat) : Prop := (∃ n4, l_L_feeds_AA_4 B S P (fun M9 b9 s9 => ((0 : Int32) = 0 ∨ (0 : Int32) = 1) ∧ P (0 : Int32) M9) (fun M10 b10 s10 => ((1 : Int32) = 0 ∨ (1 : Int32) = 1) ∧ P (1 : Int32) M10) n4 M 0 0 x0 x1 (0 : Int32) (0 : Int32))
set_option maxHeartbeats 4000000 in
set_option maxRecDepth 100000 in
theorem c_L_feeds_AA (l : Launch) (E : EV) (M : Mm) (x0 : Nat) (x1 : Nat) (P : Int32 → Mm → Prop) (B S : Nat) (h : w_L_feeds_AA M x0 x1 P B S) : CtI l E yL_feeds cL_feeds 6 .boolean (rm_L_feeds_AA B S) B S [.ref x0, .ref x1] M P := by
  refine ctI_of (by decide +kernel) (Nat.le_of_ble_eq_true rfl) ?_
  intro p e s m args below meth c C
  rw [w_L_feeds_AA] at h
  have hb : 0 ≤ B := Nat.zero_le _
  have hs : 0 ≤ S := Nat.zero_le _
  show J p l e (rm_L_feeds_AA B S) s m args below meth c (QI below E P args s B S) E 6 M 0 0 0 [(0, .ref x0), (1, .ref x1)] []
  refine j_iconst (pc := 0) (v := (0 : Int32)) C dL_feeds_0 rfl ?_
  refine j_istore_n (pc := 1) C [(2, _), (0, _), (1, _)] dL_feeds_1 (by decide) rfl ?_
  refine j_iconst (pc := 2) (v := (0 : Int32)) C dL_feeds_2 rfl ?_
  refine j_istore_n (pc := 3) C [(3, _), (2, _), (0, _), (1, _)] dL_feeds_3 (by decide) rfl ?_
  obtain ⟨n4, h⟩ := h
  refine j_weak [2, 3, 1, 0] rfl (jl_L_feeds_AA_4 C (fun M9 b9 s9 hb hs h => ?_) (fun M10 b10 s10 hb hs h => ?_) n4 _ _ _ _ _ _ _ hb hs h)
  · refine j_iconst (pc := 106) (v := (0 : Int32)) C dL_feeds_106 rfl ?_
    exact j_zret (pc := 107) C dL_feeds_107 hb hs h
  · refine j_iconst (pc := 114) (v := (1 : Int32)) C dL_feeds_114 rfl ?_
    exact j_zret (pc := 115) C dL_feeds_115 hb hs h
theorem c2_L_38 (C : Cx p l s m args meth c cc nL RL ret E) {b : Nat} {P : Mm → Prop} {b1 s1 : Nat} (hR : 1 + 1 ≤ R.frames ∧ 8 + (1 + 11) + 20 ≤ R.locals) (hf : kc + b1 ≤ R.cells ∧ ks + s1 ≤ R.slots) (hst : (st.map fun v => v.category).sum ≤ 8) (d : decode cc pc = .ok (.invokespecial 38, 3)) (h : w_X8_init M b P b1 s1) (kk : ∀ M', P M' → J p l e R s m args below meth c Q E nL M' (kc + b1) (ks + s1) (pc + 3) lo st) : J p l e R s m args below meth c Q E nL M kc ks pc lo (.ref b :: st) :=
  j_cIN_V (n := 0) (As := []) C rfl wd_335 (c_X8_init l E M b P b1 s1 h) ⟨wd_336, nw_334, wd_49, by decide +kernel, by decide +kernel, by decide +kernel⟩ rfl rfl hR hf rfl hst d kk
theorem c2_L_49_AA (C : Cx p l s m args meth c cc nL RL ret E) {b : Nat} {y0 : Nat} {P : Option Nat → Mm → Prop} (hR : rm_J4_append_15ec4_AA.frames + 1 ≤ R.frames ∧ 8 + (2 + 11) + rm_J4_append_15ec4_AA.locals ≤ R.locals) (hf : kc + 1 ≤ R.cells ∧ ks + 1400 ≤ R.slots) (hst : (st.map fun v => v.category).sum ≤ 8) (d : decode cc pc = .ok (.invokevirtual 49, 3)) (h : zk M b = 16 ∧ w_J4_append_15ec4_AA M b y0 P) (kk : ∀ r M', P r M' → J p l e R s m args below meth c Q E nL M' (kc + 1) (ks + 1400) (pc + 3) lo (va_rf r :: st)) : J p l e R s m args below meth c Q E nL M kc ks pc lo (.ref y0 :: .ref b :: st) :=
  j_cV_N (n := 1) (As := [.ref y0]) C co_J4 rfl wd_417 wd_418 h.1 (c_J4_append_15ec4_AA l E M b y0 P h.2) ⟨wd_419, wd_416, wd_46, by decide +kernel, by decide +kernel, by decide +kernel⟩ rfl rfl hR hf rfl hst d kk
theorem c2_L_49_AS (C : Cx p l s m args meth c cc nL RL ret E) {b : Nat} {y0 : Nat} {P : Option Nat → Mm → Prop} (hR : rm_J4_append_15ec4_AS.frames + 1 ≤ R.frames ∧ 8 + (2 + 11) + rm_J4_append_15ec4_AS.locals ≤ R.locals) (hf : kc + 1 ≤ R.cells ∧ ks + 1400 ≤ R.slots) (hst : (st.map fun v => v.category).sum ≤ 8) (d : decode cc pc = .ok (.invokevirtual 49, 3)) (h : zk M b = 16 ∧ w_J4_append_15ec4_AS M b y0 P) (kk : ∀ r M', P r M' → J p l e R s m args below meth c Q E nL M' (kc + 1) (ks + 1400) (pc + 3) lo (va_rf r :: st)) : J p l e R s m args below meth c Q E nL M kc ks pc lo (.ref (E.2.2.2.1 y0) :: .ref b :: st) :=
  j_cV_N (n := 1) (As := [.ref (E.2.2.2.1 y0)]) C co_J4 rfl wd_417 wd_418 h.1 (c_J4_append_15ec4_AS l E M b y0 P h.2) ⟨wd_419, wd_416, wd_46, by decide +kernel, by decide +kernel, by decide +kernel⟩ rfl rfl hR hf rfl hst d kk
theorem c2_L_54 (C : Cx p l s m args meth c cc nL RL ret E) {b : Nat} {y0 : Int32} {P : Option Nat → Mm → Prop} (hR : rm_J4_append_bf812.frames + 1 ≤ R.frames ∧ 8 + (2 + 11) + rm_J4_append_bf812.locals ≤ R.locals) (hf : kc + 1 ≤ R.cells ∧ ks + 1400 ≤ R.slots) (hst : (st.map fun v => v.category).sum ≤ 8) (d : decode cc pc = .ok (.invokevirtual 54, 3)) (h : zk M b = 16 ∧ w_J4_append_bf812 M b y0 P) (kk : ∀ r M', P r M' → J p l e R s m args below meth c Q E nL M' (kc + 1) (ks + 1400) (pc + 3) lo (va_rf r :: st)) : J p l e R s m args below meth c Q E nL M kc ks pc lo (.int y0 :: .ref b :: st) :=
  j_cV_N (n := 1) (As := [.int y0]) C co_J4 rfl wd_537 wd_538 h.1 (c_J4_append_bf812 l E M b y0 P h.2) ⟨wd_539, wd_536, wd_46, by decide +kernel, by decide +kernel, by decide +kernel⟩ rfl rfl hR hf rfl hst d kk
theorem c2_L_57 (C : Cx p l s m args meth c cc nL RL ret E) {b : Nat} {y0 : Int32} {P : Option Nat → Mm → Prop} (hR : rm_J4_append_cf468.frames + 1 ≤ R.frames ∧ 8 + (2 + 11) + rm_J4_append_cf468.locals ≤ R.locals) (hf : kc + 1 ≤ R.cells ∧ ks + 1400 ≤ R.slots) (hst : (st.map fun v => v.category).sum ≤ 8) (d : decode cc pc = .ok (.invokevirtual 57, 3)) (h : zk M b = 16 ∧ w_J4_append_cf468 M b y0 P) (kk : ∀ r M', P r M' → J p l e R s m args below meth c Q E nL M' (kc + 1) (ks + 1400) (pc + 3) lo (va_rf r :: st)) : J p l e R s m args below meth c Q E nL M kc ks pc lo (.int y0 :: .ref b :: st) :=
  j_cV_N (n := 1) (As := [.int y0]) C co_J4 rfl wd_562 wd_563 h.1 (c_J4_append_cf468 l E M b y0 P h.2) ⟨wd_564, wd_561, wd_46, by decide +kernel, by decide +kernel, by decide +kernel⟩ rfl rfl hR hf rfl hst d kk
theorem c2_L_69 (C : Cx p l s m args meth c cc nL RL ret E) {y0 : Int32} {P : Option Nat → Mm → Prop} (hR : rm_L_name.frames + 1 ≤ R.frames ∧ 8 + (1 + 11) + rm_L_name.locals ≤ R.locals) (hf : kc + 2 ≤ R.cells ∧ ks + 5 ≤ R.slots) (hst : (st.map fun v => v.category).sum ≤ 8) (d : decode cc pc = .ok (.invokestatic 69, 3)) (h : w_L_name M y0 P) (kk : ∀ r M', P r M' → J p l e R s m args below meth c Q E nL M' (kc + 2) (ks + 5) (pc + 3) lo (va_rf r :: st)) : J p l e R s m args below meth c Q E nL M kc ks pc lo (.int y0 :: st) :=
  j_cS_N (n := 1) (As := [.int y0]) C wd_585 (c_L_name l E M y0 P h) ⟨wd_586, wd_584, wd_39, by decide +kernel, by decide +kernel, by decide +kernel⟩ rfl rfl hR hf rfl hst d kk
abbrev rm_L_season (B S : Nat) : Room := { frames := 6, cells := B, slots := S, locals := 148 }
def l_L_season_52 (B S : Nat) (P : Option Nat → Mm → Prop) (K110 : Mm → Nat → Nat → Nat → Nat → Nat → Prop) : Nat → Mm → Nat → Nat → Nat → Nat → Nat → Int32 → Prop
  | 0, _, _, _, _, _, _, _ => False
  | n + 1, M, b, s, x0, x1, x2, x3 => zk M x2 = 8 ∧ (if (zI M x2 1) ≤ x3 then K110 M b s x0 x1 x2 else (zk M x2 = 8 ∧ ∃ a12, zR M x2 7 = some a12 ∧ w_L_draw M x1 (3 : Int32) (fun r13 M13 => zk M13 a12 = 10 ∧ vp_in x3 (zl M13 a12) ∧ (∀ M14, M14 = sI M13 a12 x3.toNatClampNeg r13 → b + 1 ≤ B ∧ s + 1400 ≤ S ∧ zk M14 x0 = 16 ∧ w_J4_append_15ec4_AS M14 x0 7 (fun r15 M15 => ∃ a15, r15 = some a15 ∧ (b + 1) + 2 ≤ B ∧ (s + 1400) + 5 ≤ S ∧ w_L_name M15 x3 (fun r16 M16 => ∃ a16, r16 = some a16 ∧ ((b + 1) + 2) + 1 ≤ B ∧ ((s + 1400) + 5) + 1400 ≤ S ∧ zk M16 a15 = 16 ∧ w_J4_append_15ec4_AA M16 a15 a16 (fun r17 M17 => ∃ a17, r17 = some a17 ∧ (((b + 1) + 2) + 1) + 1 ≤ B ∧ (((s + 1400) + 5) + 1400) + 1400 ≤ S ∧ zk M17 a17 = 16 ∧ w_J4_append_cf468 M17 a17 (32 : Int32) (fun r18 M18 => ∃ a18, r18 = some a18 ∧ (zk M18 x2 = 8 ∧ ∃ a19, zR M18 x2 7 = some a19 ∧ zk M18 a19 = 10 ∧ vp_in x3 (zl M18 a19) ∧ ((((b + 1) + 2) + 1) + 1) + 1 ≤ B ∧ ((((s + 1400) + 5) + 1400) + 1400) + 1400 ≤ S ∧ zk M18 a18 = 16 ∧ w_J4_append_bf812 M18 a18 (zI M18 a19 x3.toNatClampNeg) (fun r20 M20 => ∃ a20, r20 = some a20 ∧ (((((b + 1) + 2) + 1) + 1) + 1) + 1 ≤ B ∧ (((((s + 1400) + 5) + 1400) + 1400) + 1400) + 1400 ≤ S ∧ zk M20 a20 = 16 ∧ w_J4_append_cf468 M20 a20 (59 : Int32) (fun r21 M21 => ∃ a21, r21 = some a21 ∧ l_L_season_52 B S P K110 n M21 ((((((b + 1) + 2) + 1) + 1) + 1) + 1) ((((((s + 1400) + 5) + 1400) + 1400) + 1400) + 1400) x0 x1 x2 (x3 + (1 : Int32)))))))))))))
set_option maxHeartbeats 4000000 in
set_option maxRecDepth 100000 in
theorem jl_L_season_52 {s0 : State} {B S : Nat} {P : Option Nat → Mm → Prop} {K110 : Mm → Nat → Nat → Nat → Nat → Nat → Prop} (C : Cx p l s0 m args meth c cL_season 10 RL (some (.object "OrchestraSeasonLaw$Season")) E) (k110 : ∀ M b s x0 x1 x2, b ≤ B → s ≤ S → K110 M b s x0 x1 x2 → J p l e (rm_L_season B S) s0 m args below meth c (QN below E P args s0 B S) E 10 M b s 110 [(0, .ref x0), (1, .ref x1), (2, .ref x2)] []) : ∀ n M b s x0 x1 x2 x3, b ≤ B → s ≤ S → l_L_season_52 B S P K110 n M b s x0 x1 x2 x3 → J p l e (rm_L_season B S) s0 m args below meth c (QN below E P args s0 B S) E 10 M b s 52 [(0, .ref x0), (1, .ref x1), (2, .ref x2), (3, .int x3)] [] := by
  intro n
  induction n with
  | zero => intro M b s x0 x1 x2 x3 hb hs h; exact h.elim
  | succ n ih =>
    intro M b s x0 x1 x2 x3 hb hs h
    rw [l_L_season_52] at h
    refine j_iload_n (pc := 52) C 3 dL_season_52 rfl ?_
    refine j_aload_n (pc := 53) C 2 dL_season_53 rfl ?_
    refine gf_L_60 (pc := 54) C dL_season_54 h (fun h => ?_)
    refine j_icmp_ge (pc := 57) C 110 dL_season_57 (by decide) h (fun h => ?_) (fun h => ?_)
    · exact j_weak [0, 1, 2] rfl (k110 _ _ _ _ _ _ hb hs h)
    · refine j_aload_n (pc := 60) C 2 dL_season_60 rfl ?_
      refine gf_L_63 (pc := 61) C dL_season_61 h (fun a12 h => ?_)
      refine j_iload_n (pc := 64) C 3 dL_season_64 rfl ?_
      refine j_aload_n (pc := 65) C 1 dL_season_65 rfl ?_
      refine j_iconst (pc := 66) (v := (3 : Int32)) C dL_season_66 rfl ?_
      refine c2_L_39 (pc := 67) C ⟨(Nat.le_of_ble_eq_true rfl), (Nat.le_of_ble_eq_true rfl)⟩ ⟨hb, hs⟩ (Nat.le_of_ble_eq_true rfl) dL_season_67 h (fun r13 M13 h => ?_)
      refine n_iast (pc := 70) C dL_season_70 h (fun M14 h => ?_)
      refine j_aload_n (pc := 71) C 0 dL_season_71 rfl ?_
      refine j_ldcS (pc := 72) (i := 7) C (List.mem_of_getElem? (i := 7) rfl) dL_season_72 ?_
      obtain ⟨hb, hs, h⟩ := h
      refine c2_L_49_AS (pc := 74) C ⟨(Nat.le_of_ble_eq_true rfl), (Nat.le_of_ble_eq_true rfl)⟩ ⟨hb, hs⟩ (Nat.le_of_ble_eq_true rfl) dL_season_74 h (fun r15 M15 h => ?_)
      obtain ⟨a15, rfl, h⟩ := h
      refine j_iload_n (pc := 77) C 3 dL_season_77 rfl ?_
      obtain ⟨hb, hs, h⟩ := h
      refine c2_L_69 (pc := 78) C ⟨(Nat.le_of_ble_eq_true rfl), (Nat.le_of_ble_eq_true rfl)⟩ ⟨hb, hs⟩ (Nat.le_of_ble_eq_true rfl) dL_season_78 h (fun r16 M16 h => ?_)
      obtain ⟨a16, rfl, h⟩ := h
      obtain ⟨hb, hs, h⟩ := h
      refine c2_L_49_AA (pc := 81) C ⟨(Nat.le_of_ble_eq_true rfl), (Nat.le_of_ble_eq_true rfl)⟩ ⟨hb, hs⟩ (Nat.le_of_ble_eq_true rfl) dL_season_81 h (fun r17 M17 h => ?_)
      obtain ⟨a17, rfl, h⟩ := h
      refine j_bipush (pc := 84) (v := (32 : Int32)) C dL_season_84 rfl ?_
      obtain ⟨hb, hs, h⟩ := h
      refine c2_L_57 (pc := 86) C ⟨(Nat.le_of_ble_eq_true rfl), (Nat.le_of_ble_eq_true rfl)⟩ ⟨hb, hs⟩ (Nat.le_of_ble_eq_true rfl) dL_season_86 h (fun r18 M18 h => ?_)
      obtain ⟨a18, rfl, h⟩ := h
      refine j_aload_n (pc := 89) C 2 dL_season_89 rfl ?_
      refine gf_L_63 (pc := 90) C dL_season_90 h (fun a19 h => ?_)
      refine j_iload_n (pc := 93) C 3 dL_season_93 rfl ?_
      refine j_iald (pc := 94) C dL_season_94 h (fun h => ?_)
      obtain ⟨hb, hs, h⟩ := h
      refine c2_L_54 (pc := 95) C ⟨(Nat.le_of_ble_eq_true rfl), (Nat.le_of_ble_eq_true rfl)⟩ ⟨hb, hs⟩ (Nat.le_of_ble_eq_true rfl) dL_season_95 h (fun r20 M20 h => ?_)
      obtain ⟨a20, rfl, h⟩ := h
      refine j_bipush (pc := 98) (v := (59 : Int32)) C dL_season_98 rfl ?_
      obtain ⟨hb, hs, h⟩ := h
      refine c2_L_57 (pc := 100) C ⟨(Nat.le_of_ble_eq_true rfl), (Nat.le_of_ble_eq_true rfl)⟩ ⟨hb, hs⟩ (Nat.le_of_ble_eq_true rfl) dL_season_100 h (fun r21 M21 h => ?_)
      obtain ⟨a21, rfl, h⟩ := h
      refine j_pop (pc := 103) C dL_season_103 rfl ?_
      refine j_iinc (pc := 104) (v := (1 : Int32)) C 3 [(3, _), (0, _), (1, _), (2, _)] dL_season_104 rfl rfl (by decide) rfl ?_
      refine j_goto (pc := 107) C 52 dL_season_107 (by decide) ?_
      exact j_weak [1, 2, 3, 0] rfl (ih _ _ _ _ _ _ _ hb hs h)
def l_L_season_124 (B S : Nat) (P : Option Nat → Mm → Prop) (K365 : Mm → Nat → Nat → Nat → Nat → Nat → Prop) : Nat → Mm → Nat → Nat → Nat → Nat → Nat → Int32 → Prop
  | 0, _, _, _, _, _, _, _ => False
  | n + 1, M, b, s, x0, x1, x2, x3 => zk M x2 = 8 ∧ (if (zI M x2 2) ≤ x3 then K365 M b s x0 x1 x2 else (zk M x2 = 8 ∧ ∃ a26, zR M x2 9 = some a26 ∧ w_L_draw M x1 (6 : Int32) (fun r27 M27 => zk M27 a26 = 10 ∧ vp_in x3 (zl M27 a26) ∧ (∀ M28, M28 = sI M27 a26 x3.toNatClampNeg r27 → (zk M28 x2 = 8 ∧ ∃ a29, zR M28 x2 8 = some a29 ∧ w_L_draw M28 x1 (90 : Int32) (fun r30 M30 => zk M30 a29 = 10 ∧ vp_in x3 (zl M30 a29) ∧ (∀ M31, M31 = sI M30 a29 x3.toNatClampNeg r30 → b + 1 ≤ B ∧ s + 1400 ≤ S ∧ zk M31 x0 = 16 ∧ w_J4_append_15ec4_AS M31 x0 8 (fun r32 M32 => ∃ a32, r32 = some a32 ∧ (b + 1) + 2 ≤ B ∧ (s + 1400) + 5 ≤ S ∧ w_L_name M32 x3 (fun r33 M33 => ∃ a33, r33 = some a33 ∧ ((b + 1) + 2) + 1 ≤ B ∧ ((s + 1400) + 5) + 1400 ≤ S ∧ zk M33 a32 = 16 ∧ w_J4_append_15ec4_AA M33 a32 a33 (fun r34 M34 => ∃ a34, r34 = some a34 ∧ (((b + 1) + 2) + 1) + 1 ≤ B ∧ (((s + 1400) + 5) + 1400) + 1400 ≤ S ∧ zk M34 a34 = 16 ∧ w_J4_append_cf468 M34 a34 (32 : Int32) (fun r35 M35 => ∃ a35, r35 = some a35 ∧ (zk M35 x2 = 8 ∧ ∃ a36, zR M35 x2 9 = some a36 ∧ zk M35 a36 = 10 ∧ vp_in x3 (zl M35 a36) ∧ ((((b + 1) + 2) + 1) + 1) + 1 ≤ B ∧ ((((s + 1400) + 5) + 1400) + 1400) + 1400 ≤ S ∧ zk M35 a35 = 16 ∧ w_J4_append_bf812 M35 a35 (zI M35 a36 x3.toNatClampNeg) (fun r37 M37 => ∃ a37, r37 = some a37 ∧ (((((b + 1) + 2) + 1) + 1) + 1) + 1 ≤ B ∧ (((((s + 1400) + 5) + 1400) + 1400) + 1400) + 1400 ≤ S ∧ zk M37 a37 = 16 ∧ w_J4_append_cf468 M37 a37 (32 : Int32) (fun r38 M38 => ∃ a38, r38 = some a38 ∧ (zk M38 x2 = 8 ∧ ∃ a39, zR M38 x2 8 = some a39 ∧ zk M38 a39 = 10 ∧ vp_in x3 (zl M38 a39) ∧ ((((((b + 1) + 2) + 1) + 1) + 1) + 1) + 1 ≤ B ∧ ((((((s + 1400) + 5) + 1400) + 1400) + 1400) + 1400) + 1400 ≤ S ∧ zk M38 a38 = 16 ∧ w_J4_append_bf812 M38 a38 (zI M38 a39 x3.toNatClampNeg) (fun r40 M40 => ∃ a40, r40 = some a40 ∧ zk M40 x2 = 8 ∧ w_L_draw M40 x1 (if ((zI M40 x2 4) + (1 : Int32)) < (4 : Int32) then ((zI M40 x2 4) + (1 : Int32)) else (4 : Int32)) (fun r42 M42 => zk M42 x2 = 8 ∧ zk M42 x2 = 8 ∧ (∀ M44, M44 = sI M42 x2 4 (if (zI M42 x2 4) < (r42 + (1 : Int32)) then (r42 + (1 : Int32)) else (zI M42 x2 4)) → (((((((b + 1) + 2) + 1) + 1) + 1) + 1) + 1) + 1 ≤ B ∧ (((((((s + 1400) + 5) + 1400) + 1400) + 1400) + 1400) + 1400) + 1400 ≤ S ∧ zk M44 x0 = 16 ∧ w_J4_append_cf468 M44 x0 (32 : Int32) (fun r45 M45 => ∃ a45, r45 = some a45 ∧ ((((((((b + 1) + 2) + 1) + 1) + 1) + 1) + 1) + 1) + 2 ≤ B ∧ ((((((((s + 1400) + 5) + 1400) + 1400) + 1400) + 1400) + 1400) + 1400) + 5 ≤ S ∧ w_L_name M45 r42 (fun r46 M46 => ∃ a46, r46 = some a46 ∧ (((((((((b + 1) + 2) + 1) + 1) + 1) + 1) + 1) + 1) + 2) + 1 ≤ B ∧ (((((((((s + 1400) + 5) + 1400) + 1400) + 1400) + 1400) + 1400) + 1400) + 5) + 1400 ≤ S ∧ zk M46 a45 = 16 ∧ w_J4_append_15ec4_AA M46 a45 a46 (fun r47 M47 => ∃ a47, r47 = some a47 ∧ zk M47 x2 = 8 ∧ w_L_draw M47 x1 (if ((zI M47 x2 4) + (1 : Int32)) < (4 : Int32) then ((zI M47 x2 4) + (1 : Int32)) else (4 : Int32)) (fun r49 M49 => (if r49 = r42 then (zk M49 x2 = 8 ∧ ∃ a50, zR M49 x2 11 = some a50 ∧ ((((((((((b + 1) + 2) + 1) + 1) + 1) + 1) + 1) + 1) + 2) + 1) + 1 ≤ B ∧ ((((((((((s + 1400) + 5) + 1400) + 1400) + 1400) + 1400) + 1400) + 1400) + 5) + 1400) + 1 ≤ S ∧ ¬ (1 : Int32) < 0 ∧ (1 : Int32).toNatClampNeg ≤ 1 ∧ (∀ a51 M51, a51 = zn M49 → M51 = sN M49 10 (1 : Int32).toNatClampNeg → zk M51 a51 = 10 ∧ vp_in (0 : Int32) (zl M51 a51) ∧ (∀ M52, M52 = sI M51 a51 (0 : Int32).toNatClampNeg r42 → zk M52 a50 = 14 ∧ zk M52 a51 = 10 ∧ vp_in x3 (zl M52 a50) ∧ (∀ M53, M53 = sR M52 a50 x3.toNatClampNeg (some a51) → (((((((((((b + 1) + 2) + 1) + 1) + 1) + 1) + 1) + 1) + 2) + 1) + 1) + 1 ≤ B ∧ (((((((((((s + 1400) + 5) + 1400) + 1400) + 1400) + 1400) + 1400) + 1400) + 5) + 1400) + 1) + 1400 ≤ S ∧ zk M53 x0 = 16 ∧ w_J4_append_cf468 M53 x0 (59 : Int32) (fun r54 M54 => ∃ a54, r54 = some a54 ∧ l_L_season_124 B S P K365 n M54 ((((((((((((b + 1) + 2) + 1) + 1) + 1) + 1) + 1) + 1) + 2) + 1) + 1) + 1) ((((((((((((s + 1400) + 5) + 1400) + 1400) + 1400) + 1400) + 1400) + 1400) + 5) + 1400) + 1) + 1400) x0 x1 x2 (x3 + (1 : Int32))))))) else w_L_draw M49 x1 (2 : Int32) (fun r55 M55 => (if r55 = 0 then zk M55 x2 = 8 ∧ zk M55 x2 = 8 ∧ (∀ M62, M62 = sI M55 x2 4 (if (zI M55 x2 4) < (r49 + (1 : Int32)) then (r49 + (1 : Int32)) else (zI M55 x2 4)) → ((((((((((b + 1) + 2) + 1) + 1) + 1) + 1) + 1) + 1) + 2) + 1) + 1 ≤ B ∧ ((((((((((s + 1400) + 5) + 1400) + 1400) + 1400) + 1400) + 1400) + 1400) + 5) + 1400) + 1400 ≤ S ∧ zk M62 x0 = 16 ∧ w_J4_append_cf468 M62 x0 (32 : Int32) (fun r63 M63 => ∃ a63, r63 = some a63 ∧ (((((((((((b + 1) + 2) + 1) + 1) + 1) + 1) + 1) + 1) + 2) + 1) + 1) + 2 ≤ B ∧ (((((((((((s + 1400) + 5) + 1400) + 1400) + 1400) + 1400) + 1400) + 1400) + 5) + 1400) + 1400) + 5 ≤ S ∧ w_L_name M63 r49 (fun r64 M64 => ∃ a64, r64 = some a64 ∧ ((((((((((((b + 1) + 2) + 1) + 1) + 1) + 1) + 1) + 1) + 2) + 1) + 1) + 2) + 1 ≤ B ∧ ((((((((((((s + 1400) + 5) + 1400) + 1400) + 1400) + 1400) + 1400) + 1400) + 5) + 1400) + 1400) + 5) + 1400 ≤ S ∧ zk M64 a63 = 16 ∧ w_J4_append_15ec4_AA M64 a63 a64 (fun r65 M65 => ∃ a65, r65 = some a65 ∧ (zk M65 x2 = 8 ∧ ∃ a66, zR M65 x2 11 = some a66 ∧ (((((((((((((b + 1) + 2) + 1) + 1) + 1) + 1) + 1) + 1) + 2) + 1) + 1) + 2) + 1) + 1 ≤ B ∧ (((((((((((((s + 1400) + 5) + 1400) + 1400) + 1400) + 1400) + 1400) + 1400) + 5) + 1400) + 1400) + 5) + 1400) + 2 ≤ S ∧ ¬ (2 : Int32) < 0 ∧ (2 : Int32).toNatClampNeg ≤ 2 ∧ (∀ a67 M67, a67 = zn M65 → M67 = sN M65 10 (2 : Int32).toNatClampNeg → zk M67 a67 = 10 ∧ vp_in (0 : Int32) (zl M67 a67) ∧ (∀ M68, M68 = sI M67 a67 (0 : Int32).toNatClampNeg r42 → zk M68 a67 = 10 ∧ vp_in (1 : Int32) (zl M68 a67) ∧ (∀ M69, M69 = sI M68 a67 (1 : Int32).toNatClampNeg r49 → zk M69 a66 = 14 ∧ zk M69 a67 = 10 ∧ vp_in x3 (zl M69 a66) ∧ (∀ M70, M70 = sR M69 a66 x3.toNatClampNeg (some a67) → ((((((((((((((b + 1) + 2) + 1) + 1) + 1) + 1) + 1) + 1) + 2) + 1) + 1) + 2) + 1) + 1) + 1 ≤ B ∧ ((((((((((((((s + 1400) + 5) + 1400) + 1400) + 1400) + 1400) + 1400) + 1400) + 5) + 1400) + 1400) + 5) + 1400) + 2) + 1400 ≤ S ∧ zk M70 x0 = 16 ∧ w_J4_append_cf468 M70 x0 (59 : Int32) (fun r71 M71 => ∃ a71, r71 = some a71 ∧ l_L_season_124 B S P K365 n M71 (((((((((((((((b + 1) + 2) + 1) + 1) + 1) + 1) + 1) + 1) + 2) + 1) + 1) + 2) + 1) + 1) + 1) (((((((((((((((s + 1400) + 5) + 1400) + 1400) + 1400) + 1400) + 1400) + 1400) + 5) + 1400) + 1400) + 5) + 1400) + 2) + 1400) x0 x1 x2 (x3 + (1 : Int32)))))))))))) else (zk M55 x2 = 8 ∧ ∃ a56, zR M55 x2 11 = some a56 ∧ ((((((((((b + 1) + 2) + 1) + 1) + 1) + 1) + 1) + 1) + 2) + 1) + 1 ≤ B ∧ ((((((((((s + 1400) + 5) + 1400) + 1400) + 1400) + 1400) + 1400) + 1400) + 5) + 1400) + 1 ≤ S ∧ ¬ (1 : Int32) < 0 ∧ (1 : Int32).toNatClampNeg ≤ 1 ∧ (∀ a57 M57, a57 = zn M55 → M57 = sN M55 10 (1 : Int32).toNatClampNeg → zk M57 a57 = 10 ∧ vp_in (0 : Int32) (zl M57 a57) ∧ (∀ M58, M58 = sI M57 a57 (0 : Int32).toNatClampNeg r42 → zk M58 a56 = 14 ∧ zk M58 a57 = 10 ∧ vp_in x3 (zl M58 a56) ∧ (∀ M59, M59 = sR M58 a56 x3.toNatClampNeg (some a57) → (((((((((((b + 1) + 2) + 1) + 1) + 1) + 1) + 1) + 1) + 2) + 1) + 1) + 1 ≤ B ∧ (((((((((((s + 1400) + 5) + 1400) + 1400) + 1400) + 1400) + 1400) + 1400) + 5) + 1400) + 1) + 1400 ≤ S ∧ zk M59 x0 = 16 ∧ w_J4_append_cf468 M59 x0 (59 : Int32) (fun r60 M60 => ∃ a60, r60 = some a60 ∧ l_L_season_124 B S P K365 n M60 ((((((((((((b + 1) + 2) + 1) + 1) + 1) + 1) + 1) + 1) + 2) + 1) + 1) + 1) ((((((((((((s + 1400) + 5) + 1400) + 1400) + 1400) + 1400) + 1400) + 1400) + 5) + 1400) + 1) + 1400) x0 x1 x2 (x3 + (1 : Int32))))))))))))))))))))))))))))))))
set_option maxHeartbeats 4000000 in
set_option maxRecDepth 100000 in
theorem jl_L_season_124 {s0 : State} {B S : Nat} {P : Option Nat → Mm → Prop} {K365 : Mm → Nat → Nat → Nat → Nat → Nat → Prop} (C : Cx p l s0 m args meth c cL_season 10 RL (some (.object "OrchestraSeasonLaw$Season")) E) (k365 : ∀ M b s x0 x1 x2, b ≤ B → s ≤ S → K365 M b s x0 x1 x2 → J p l e (rm_L_season B S) s0 m args below meth c (QN below E P args s0 B S) E 10 M b s 365 [(0, .ref x0), (1, .ref x1), (2, .ref x2)] []) : ∀ n M b s x0 x1 x2 x3, b ≤ B → s ≤ S → l_L_season_124 B S P K365 n M b s x0 x1 x2 x3 → J p l e (rm_L_season B S) s0 m args below meth c (QN below E P args s0 B S) E 10 M b s 124 [(0, .ref x0), (1, .ref x1), (2, .ref x2), (3, .int x3)] [] := by
  intro n
  induction n with
  | zero => intro M b s x0 x1 x2 x3 hb hs h; exact h.elim
  | succ n ih =>
    intro M b s x0 x1 x2 x3 hb hs h
    rw [l_L_season_124] at h
    refine j_iload_n (pc := 124) C 3 dL_season_124 rfl ?_
    refine j_aload_n (pc := 125) C 2 dL_season_125 rfl ?_
    refine gf_L_73 (pc := 126) C dL_season_126 h (fun h => ?_)
    refine j_icmp_ge (pc := 129) C 365 dL_season_129 (by decide) h (fun h => ?_) (fun h => ?_)
    · exact j_weak [0, 1, 2] rfl (k365 _ _ _ _ _ _ hb hs h)
    · refine j_aload_n (pc := 132) C 2 dL_season_132 rfl ?_
      refine gf_L_76 (pc := 133) C dL_season_133 h (fun a26 h => ?_)
      refine j_iload_n (pc := 136) C 3 dL_season_136 rfl ?_
      refine j_aload_n (pc := 137) C 1 dL_season_137 rfl ?_
      refine j_bipush (pc := 138) (v := (6 : Int32)) C dL_season_138 rfl ?_
      refine c2_L_39 (pc := 140) C ⟨(Nat.le_of_ble_eq_true rfl), (Nat.le_of_ble_eq_true rfl)⟩ ⟨hb, hs⟩ (Nat.le_of_ble_eq_true rfl) dL_season_140 h (fun r27 M27 h => ?_)
      refine n_iast (pc := 143) C dL_season_143 h (fun M28 h => ?_)
      refine j_aload_n (pc := 144) C 2 dL_season_144 rfl ?_
      refine gf_L_79 (pc := 145) C dL_season_145 h (fun a29 h => ?_)
      refine j_iload_n (pc := 148) C 3 dL_season_148 rfl ?_
      refine j_aload_n (pc := 149) C 1 dL_season_149 rfl ?_
      refine j_bipush (pc := 150) (v := (90 : Int32)) C dL_season_150 rfl ?_
      refine c2_L_39 (pc := 152) C ⟨(Nat.le_of_ble_eq_true rfl), (Nat.le_of_ble_eq_true rfl)⟩ ⟨hb, hs⟩ (Nat.le_of_ble_eq_true rfl) dL_season_152 h (fun r30 M30 h => ?_)
      refine n_iast (pc := 155) C dL_season_155 h (fun M31 h => ?_)
      refine j_aload_n (pc := 156) C 0 dL_season_156 rfl ?_
      refine j_ldcS (pc := 157) (i := 8) C (List.mem_of_getElem? (i := 8) rfl) dL_season_157 ?_
      obtain ⟨hb, hs, h⟩ := h
      refine c2_L_49_AS (pc := 159) C ⟨(Nat.le_of_ble_eq_true rfl), (Nat.le_of_ble_eq_true rfl)⟩ ⟨hb, hs⟩ (Nat.le_of_ble_eq_true rfl) dL_season_159 h (fun r32 M32 h => ?_)
      obtain ⟨a32, rfl, h⟩ := h
      refine j_iload_n (pc := 162) C 3 dL_season_162 rfl ?_
      obtain ⟨hb, hs, h⟩ := h
      refine c2_L_69 (pc := 163) C ⟨(Nat.le_of_ble_eq_true rfl), (Nat.le_of_ble_eq_true rfl)⟩ ⟨hb, hs⟩ (Nat.le_of_ble_eq_true rfl) dL_season_163 h (fun r33 M33 h => ?_)
      obtain ⟨a33, rfl, h⟩ := h
      obtain ⟨hb, hs, h⟩ := h
      refine c2_L_49_AA (pc := 166) C ⟨(Nat.le_of_ble_eq_true rfl), (Nat.le_of_ble_eq_true rfl)⟩ ⟨hb, hs⟩ (Nat.le_of_ble_eq_true rfl) dL_season_166 h (fun r34 M34 h => ?_)
      obtain ⟨a34, rfl, h⟩ := h
      refine j_bipush (pc := 169) (v := (32 : Int32)) C dL_season_169 rfl ?_
      obtain ⟨hb, hs, h⟩ := h
      refine c2_L_57 (pc := 171) C ⟨(Nat.le_of_ble_eq_true rfl), (Nat.le_of_ble_eq_true rfl)⟩ ⟨hb, hs⟩ (Nat.le_of_ble_eq_true rfl) dL_season_171 h (fun r35 M35 h => ?_)
      obtain ⟨a35, rfl, h⟩ := h
      refine j_aload_n (pc := 174) C 2 dL_season_174 rfl ?_
      refine gf_L_76 (pc := 175) C dL_season_175 h (fun a36 h => ?_)
      refine j_iload_n (pc := 178) C 3 dL_season_178 rfl ?_
      refine j_iald (pc := 179) C dL_season_179 h (fun h => ?_)
      obtain ⟨hb, hs, h⟩ := h
      refine c2_L_54 (pc := 180) C ⟨(Nat.le_of_ble_eq_true rfl), (Nat.le_of_ble_eq_true rfl)⟩ ⟨hb, hs⟩ (Nat.le_of_ble_eq_true rfl) dL_season_180 h (fun r37 M37 h => ?_)
      obtain ⟨a37, rfl, h⟩ := h
      refine j_bipush (pc := 183) (v := (32 : Int32)) C dL_season_183 rfl ?_
      obtain ⟨hb, hs, h⟩ := h
      refine c2_L_57 (pc := 185) C ⟨(Nat.le_of_ble_eq_true rfl), (Nat.le_of_ble_eq_true rfl)⟩ ⟨hb, hs⟩ (Nat.le_of_ble_eq_true rfl) dL_season_185 h (fun r38 M38 h => ?_)
      obtain ⟨a38, rfl, h⟩ := h
      refine j_aload_n (pc := 188) C 2 dL_season_188 rfl ?_
      refine gf_L_79 (pc := 189) C dL_season_189 h (fun a39 h => ?_)
      refine j_iload_n (pc := 192) C 3 dL_season_192 rfl ?_
      refine j_iald (pc := 193) C dL_season_193 h (fun h => ?_)
      obtain ⟨hb, hs, h⟩ := h
      refine c2_L_54 (pc := 194) C ⟨(Nat.le_of_ble_eq_true rfl), (Nat.le_of_ble_eq_true rfl)⟩ ⟨hb, hs⟩ (Nat.le_of_ble_eq_true rfl) dL_season_194 h (fun r40 M40 h => ?_)
      obtain ⟨a40, rfl, h⟩ := h
      refine j_pop (pc := 197) C dL_season_197 rfl ?_
      refine j_aload_n (pc := 198) C 1 dL_season_198 rfl ?_
      refine j_iconst (pc := 199) (v := (4 : Int32)) C dL_season_199 rfl ?_
      refine j_aload_n (pc := 200) C 2 dL_season_200 rfl ?_
      refine gf_L_84 (pc := 201) C dL_season_201 h (fun h => ?_)
      refine j_iconst (pc := 204) (v := (1 : Int32)) C dL_season_204 rfl ?_
      refine j_iadd (pc := 205) C dL_season_205 ?_
      refine j_mmin (pc := 206) C wd_615 wd_457 wd_51 wd_458 dL_season_206 (Nat.le_of_ble_eq_true rfl) (Nat.le_of_ble_eq_true rfl) ⟨hb, hs⟩ ?_
      refine c2_L_39 (pc := 209) C ⟨(Nat.le_of_ble_eq_true rfl), (Nat.le_of_ble_eq_true rfl)⟩ ⟨hb, hs⟩ (Nat.le_of_ble_eq_true rfl) dL_season_209 h (fun r42 M42 h => ?_)
      refine j_istore (pc := 212) C [(4, _), (0, _), (1, _), (2, _), (3, _)] dL_season_212 (by decide) rfl ?_
      refine j_aload_n (pc := 214) C 3 dL_season_214 rfl ?_
      refine j_aload_n (pc := 215) C 3 dL_season_215 rfl ?_
      refine gf_L_84 (pc := 216) C dL_season_216 h (fun h => ?_)
      refine j_iload (pc := 219) C 0 dL_season_219 rfl ?_
      refine j_iconst (pc := 221) (v := (1 : Int32)) C dL_season_221 rfl ?_
      refine j_iadd (pc := 222) C dL_season_222 ?_
      refine j_mmax (pc := 223) C wd_616 wd_439 wd_51 wd_440 dL_season_223 (Nat.le_of_ble_eq_true rfl) (Nat.le_of_ble_eq_true rfl) ⟨hb, hs⟩ ?_
      refine pf_L_84 (pc := 226) C dL_season_226 h (fun M44 h => ?_)
      refine j_aload_n (pc := 229) C 1 dL_season_229 rfl ?_
      refine j_bipush (pc := 230) (v := (32 : Int32)) C dL_season_230 rfl ?_
      obtain ⟨hb, hs, h⟩ := h
      refine c2_L_57 (pc := 232) C ⟨(Nat.le_of_ble_eq_true rfl), (Nat.le_of_ble_eq_true rfl)⟩ ⟨hb, hs⟩ (Nat.le_of_ble_eq_true rfl) dL_season_232 h (fun r45 M45 h => ?_)
      obtain ⟨a45, rfl, h⟩ := h
      refine j_iload (pc := 235) C 0 dL_season_235 rfl ?_
      obtain ⟨hb, hs, h⟩ := h
      refine c2_L_69 (pc := 237) C ⟨(Nat.le_of_ble_eq_true rfl), (Nat.le_of_ble_eq_true rfl)⟩ ⟨hb, hs⟩ (Nat.le_of_ble_eq_true rfl) dL_season_237 h (fun r46 M46 h => ?_)
      obtain ⟨a46, rfl, h⟩ := h
      obtain ⟨hb, hs, h⟩ := h
      refine c2_L_49_AA (pc := 240) C ⟨(Nat.le_of_ble_eq_true rfl), (Nat.le_of_ble_eq_true rfl)⟩ ⟨hb, hs⟩ (Nat.le_of_ble_eq_true rfl) dL_season_240 h (fun r47 M47 h => ?_)
      obtain ⟨a47, rfl, h⟩ := h
      refine j_pop (pc := 243) C dL_season_243 rfl ?_
      refine j_aload_n (pc := 244) C 2 dL_season_244 rfl ?_
      refine j_iconst (pc := 245) (v := (4 : Int32)) C dL_season_245 rfl ?_
      refine j_aload_n (pc := 246) C 3 dL_season_246 rfl ?_
      refine gf_L_84 (pc := 247) C dL_season_247 h (fun h => ?_)
      refine j_iconst (pc := 250) (v := (1 : Int32)) C dL_season_250 rfl ?_
      refine j_iadd (pc := 251) C dL_season_251 ?_
      refine j_mmin (pc := 252) C wd_615 wd_457 wd_51 wd_458 dL_season_252 (Nat.le_of_ble_eq_true rfl) (Nat.le_of_ble_eq_true rfl) ⟨hb, hs⟩ ?_
      refine c2_L_39 (pc := 255) C ⟨(Nat.le_of_ble_eq_true rfl), (Nat.le_of_ble_eq_true rfl)⟩ ⟨hb, hs⟩ (Nat.le_of_ble_eq_true rfl) dL_season_255 h (fun r49 M49 h => ?_)
      refine j_istore (pc := 258) C [(5, _), (4, _), (0, _), (1, _), (2, _), (3, _)] dL_season_258 (by decide) rfl ?_
      refine j_iload (pc := 260) C 0 dL_season_260 rfl ?_
      refine j_iload (pc := 262) C 1 dL_season_262 rfl ?_
      refine j_icmp_eq (pc := 264) C 279 dL_season_264 (by decide) h (fun h => ?_) (fun h => ?_)
      · refine j_iconst (pc := 279) (v := (0 : Int32)) C dL_season_279 rfl ?_
        refine j_istore (pc := 280) C [(6, _), (5, _), (4, _), (0, _), (1, _), (2, _), (3, _)] dL_season_280 (by decide) rfl ?_
        refine j_iload (pc := 282) C 0 dL_season_282 rfl ?_
        refine j_if_eq (pc := 284) (A := True) (B := False) C 317 dL_season_284 (by decide) (by first | rw [if_pos (by decide)] ; trivial | rw [if_neg (by decide)] ; trivial) (fun _ => ?_) (fun z => z.elim)
        refine j_aload_n (pc := 317) C 5 dL_season_317 rfl ?_
        refine gf_L_96 (pc := 318) C dL_season_318 h (fun a50 h => ?_)
        refine j_iload_n (pc := 321) C 6 dL_season_321 rfl ?_
        refine j_iload (pc := 322) C 0 dL_season_322 rfl ?_
        refine j_if_eq (pc := 324) (A := True) (B := False) C 343 dL_season_324 (by decide) (by first | rw [if_pos (by decide)] ; trivial | rw [if_neg (by decide)] ; trivial) (fun _ => ?_) (fun z => z.elim)
        refine j_iconst (pc := 343) (v := (1 : Int32)) C dL_season_343 rfl ?_
        obtain ⟨hb, hs, h⟩ := h
        refine n_newi (pc := 344) C 1 wd_92 dL_season_344 (Nat.le_of_ble_eq_true rfl) hb hs h (fun a51 M51 h => ?_)
        refine j_dup (pc := 346) C dL_season_346 rfl ?_
        refine j_iconst (pc := 347) (v := (0 : Int32)) C dL_season_347 rfl ?_
        refine j_iload (pc := 348) C 2 dL_season_348 rfl ?_
        refine n_iast (pc := 350) C dL_season_350 h (fun M52 h => ?_)
        refine n_aas2 (pc := 351) C (by decide) dL_season_351 h (fun M53 h => ?_)
        refine j_aload_n (pc := 352) C 3 dL_season_352 rfl ?_
        refine j_bipush (pc := 353) (v := (59 : Int32)) C dL_season_353 rfl ?_
        obtain ⟨hb, hs, h⟩ := h
        refine c2_L_57 (pc := 355) C ⟨(Nat.le_of_ble_eq_true rfl), (Nat.le_of_ble_eq_true rfl)⟩ ⟨hb, hs⟩ (Nat.le_of_ble_eq_true rfl) dL_season_355 h (fun r54 M54 h => ?_)
        obtain ⟨a54, rfl, h⟩ := h
        refine j_pop (pc := 358) C dL_season_358 rfl ?_
        refine j_iinc (pc := 359) (v := (1 : Int32)) C 6 [(3, _), (6, _), (5, _), (4, _), (0, _), (1, _), (2, _)] dL_season_359 rfl rfl (by decide) rfl ?_
        refine j_goto (pc := 362) C 124 dL_season_362 (by decide) ?_
        exact j_weak [4, 5, 6, 0] rfl (ih _ _ _ _ _ _ _ hb hs h)
      · refine j_aload_n (pc := 267) C 3 dL_season_267 rfl ?_
        refine j_iconst (pc := 268) (v := (2 : Int32)) C dL_season_268 rfl ?_
        refine c2_L_39 (pc := 269) C ⟨(Nat.le_of_ble_eq_true rfl), (Nat.le_of_ble_eq_true rfl)⟩ ⟨hb, hs⟩ (Nat.le_of_ble_eq_true rfl) dL_season_269 h (fun r55 M55 h => ?_)
        refine j_if_ne (pc := 272) C 279 dL_season_272 (by decide) h (fun h => ?_) (fun h => ?_)
        · refine j_iconst (pc := 279) (v := (0 : Int32)) C dL_season_279 rfl ?_
          refine j_istore (pc := 280) C [(6, _), (5, _), (4, _), (0, _), (1, _), (2, _), (3, _)] dL_season_280 (by decide) rfl ?_
          refine j_iload (pc := 282) C 0 dL_season_282 rfl ?_
          refine j_if_eq (pc := 284) (A := True) (B := False) C 317 dL_season_284 (by decide) (by first | rw [if_pos (by decide)] ; trivial | rw [if_neg (by decide)] ; trivial) (fun _ => ?_) (fun z => z.elim)
          refine j_aload_n (pc := 317) C 5 dL_season_317 rfl ?_
          refine gf_L_96 (pc := 318) C dL_season_318 h (fun a56 h => ?_)
          refine j_iload_n (pc := 321) C 6 dL_season_321 rfl ?_
          refine j_iload (pc := 322) C 0 dL_season_322 rfl ?_
          refine j_if_eq (pc := 324) (A := True) (B := False) C 343 dL_season_324 (by decide) (by first | rw [if_pos (by decide)] ; trivial | rw [if_neg (by decide)] ; trivial) (fun _ => ?_) (fun z => z.elim)
          refine j_iconst (pc := 343) (v := (1 : Int32)) C dL_season_343 rfl ?_
          obtain ⟨hb, hs, h⟩ := h
          refine n_newi (pc := 344) C 1 wd_92 dL_season_344 (Nat.le_of_ble_eq_true rfl) hb hs h (fun a57 M57 h => ?_)
          refine j_dup (pc := 346) C dL_season_346 rfl ?_
          refine j_iconst (pc := 347) (v := (0 : Int32)) C dL_season_347 rfl ?_
          refine j_iload (pc := 348) C 2 dL_season_348 rfl ?_
          refine n_iast (pc := 350) C dL_season_350 h (fun M58 h => ?_)
          refine n_aas2 (pc := 351) C (by decide) dL_season_351 h (fun M59 h => ?_)
          refine j_aload_n (pc := 352) C 3 dL_season_352 rfl ?_
          refine j_bipush (pc := 353) (v := (59 : Int32)) C dL_season_353 rfl ?_
          obtain ⟨hb, hs, h⟩ := h
          refine c2_L_57 (pc := 355) C ⟨(Nat.le_of_ble_eq_true rfl), (Nat.le_of_ble_eq_true rfl)⟩ ⟨hb, hs⟩ (Nat.le_of_ble_eq_true rfl) dL_season_355 h (fun r60 M60 h => ?_)
          obtain ⟨a60, rfl, h⟩ := h
          refine j_pop (pc := 358) C dL_season_358 rfl ?_
          refine j_iinc (pc := 359) (v := (1 : Int32)) C 6 [(3, _), (6, _), (5, _), (4, _), (0, _), (1, _), (2, _)] dL_season_359 rfl rfl (by decide) rfl ?_
          refine j_goto (pc := 362) C 124 dL_season_362 (by decide) ?_
          exact j_weak [4, 5, 6, 0] rfl (ih _ _ _ _ _ _ _ hb hs h)
        · refine j_iconst (pc := 275) (v := (1 : Int32)) C dL_season_275 rfl ?_
          refine j_goto (pc := 276) C 280 dL_season_276 (by decide) ?_
          refine j_istore (pc := 280) C [(6, _), (5, _), (4, _), (0, _), (1, _), (2, _), (3, _)] dL_season_280 (by decide) rfl ?_
          refine j_iload (pc := 282) C 0 dL_season_282 rfl ?_
          refine j_if_eq (pc := 284) (A := False) (B := True) C 317 dL_season_284 (by decide) (by first | rw [if_pos (by decide)] ; trivial | rw [if_neg (by decide)] ; trivial) (fun z => z.elim) (fun _ => ?_)
          refine j_aload_n (pc := 287) C 5 dL_season_287 rfl ?_
          refine j_aload_n (pc := 288) C 5 dL_season_288 rfl ?_
          refine gf_L_84 (pc := 289) C dL_season_289 h (fun h => ?_)
          refine j_iload (pc := 292) C 1 dL_season_292 rfl ?_
          refine j_iconst (pc := 294) (v := (1 : Int32)) C dL_season_294 rfl ?_
          refine j_iadd (pc := 295) C dL_season_295 ?_
          refine j_mmax (pc := 296) C wd_616 wd_439 wd_51 wd_440 dL_season_296 (Nat.le_of_ble_eq_true rfl) (Nat.le_of_ble_eq_true rfl) ⟨hb, hs⟩ ?_
          refine pf_L_84 (pc := 299) C dL_season_299 h (fun M62 h => ?_)
          refine j_aload_n (pc := 302) C 3 dL_season_302 rfl ?_
          refine j_bipush (pc := 303) (v := (32 : Int32)) C dL_season_303 rfl ?_
          obtain ⟨hb, hs, h⟩ := h
          refine c2_L_57 (pc := 305) C ⟨(Nat.le_of_ble_eq_true rfl), (Nat.le_of_ble_eq_true rfl)⟩ ⟨hb, hs⟩ (Nat.le_of_ble_eq_true rfl) dL_season_305 h (fun r63 M63 h => ?_)
          obtain ⟨a63, rfl, h⟩ := h
          refine j_iload (pc := 308) C 1 dL_season_308 rfl ?_
          obtain ⟨hb, hs, h⟩ := h
          refine c2_L_69 (pc := 310) C ⟨(Nat.le_of_ble_eq_true rfl), (Nat.le_of_ble_eq_true rfl)⟩ ⟨hb, hs⟩ (Nat.le_of_ble_eq_true rfl) dL_season_310 h (fun r64 M64 h => ?_)
          obtain ⟨a64, rfl, h⟩ := h
          obtain ⟨hb, hs, h⟩ := h
          refine c2_L_49_AA (pc := 313) C ⟨(Nat.le_of_ble_eq_true rfl), (Nat.le_of_ble_eq_true rfl)⟩ ⟨hb, hs⟩ (Nat.le_of_ble_eq_true rfl) dL_season_313 h (fun r65 M65 h => ?_)
          obtain ⟨a65, rfl, h⟩ := h
          refine j_pop (pc := 316) C dL_season_316 rfl ?_
          refine j_aload_n (pc := 317) C 5 dL_season_317 rfl ?_
          refine gf_L_96 (pc := 318) C dL_season_318 h (fun a66 h => ?_)
          refine j_iload_n (pc := 321) C 6 dL_season_321 rfl ?_
          refine j_iload (pc := 322) C 0 dL_season_322 rfl ?_
          refine j_if_eq (pc := 324) (A := False) (B := True) C 343 dL_season_324 (by decide) (by first | rw [if_pos (by decide)] ; trivial | rw [if_neg (by decide)] ; trivial) (fun z => z.elim) (fun _ => ?_)
          refine j_iconst (pc := 327) (v := (2 : Int32)) C dL_season_327 rfl ?_
          obtain ⟨hb, hs, h⟩ := h
          refine n_newi (pc := 328) C 2 wd_92 dL_season_328 (Nat.le_of_ble_eq_true rfl) hb hs h (fun a67 M67 h => ?_)
          refine j_dup (pc := 330) C dL_season_330 rfl ?_
          refine j_iconst (pc := 331) (v := (0 : Int32)) C dL_season_331 rfl ?_
          refine j_iload (pc := 332) C 2 dL_season_332 rfl ?_
          refine n_iast (pc := 334) C dL_season_334 h (fun M68 h => ?_)
          refine j_dup (pc := 335) C dL_season_335 rfl ?_
          refine j_iconst (pc := 336) (v := (1 : Int32)) C dL_season_336 rfl ?_
          refine j_iload (pc := 337) C 1 dL_season_337 rfl ?_
          refine n_iast (pc := 339) C dL_season_339 h (fun M69 h => ?_)
          refine j_goto (pc := 340) C 351 dL_season_340 (by decide) ?_
          refine n_aas2 (pc := 351) C (by decide) dL_season_351 h (fun M70 h => ?_)
          refine j_aload_n (pc := 352) C 3 dL_season_352 rfl ?_
          refine j_bipush (pc := 353) (v := (59 : Int32)) C dL_season_353 rfl ?_
          obtain ⟨hb, hs, h⟩ := h
          refine c2_L_57 (pc := 355) C ⟨(Nat.le_of_ble_eq_true rfl), (Nat.le_of_ble_eq_true rfl)⟩ ⟨hb, hs⟩ (Nat.le_of_ble_eq_true rfl) dL_season_355 h (fun r71 M71 h => ?_)
          obtain ⟨a71, rfl, h⟩ := h
          refine j_pop (pc := 358) C dL_season_358 rfl ?_
          refine j_iinc (pc := 359) (v := (1 : Int32)) C 6 [(3, _), (6, _), (5, _), (4, _), (0, _), (1, _), (2, _)] dL_season_359 rfl rfl (by decide) rfl ?_
          refine j_goto (pc := 362) C 124 dL_season_362 (by decide) ?_
          exact j_weak [4, 5, 6, 0] rfl (ih _ _ _ _ _ _ _ hb hs h)
def l_L_season_494 (B S : Nat) (P : Option Nat → Mm → Prop) (K526 : Mm → Nat → Nat → Nat → Nat → Nat → Int32 → Prop) : Nat → Mm → Nat → Nat → Nat → Nat → Nat → Int32 → Nat → Int32 → Int32 → Prop
  | 0, _, _, _, _, _, _, _, _, _, _ => False
  | n + 1, M, b, s, x0, x1, x2, x3, x6, x7, x8 => (if x7 ≤ x8 then K526 M b s x0 x1 x2 x3 else zk M x6 = 10 ∧ vp_in x8 (zl M x6) ∧ b + 1 ≤ B ∧ s + 1400 ≤ S ∧ zk M x0 = 16 ∧ w_J4_append_cf468 M x0 (32 : Int32) (fun r97 M97 => ∃ a97, r97 = some a97 ∧ (b + 1) + 1 ≤ B ∧ (s + 1400) + 1400 ≤ S ∧ zk M97 a97 = 16 ∧ w_J4_append_bf812 M97 a97 (zI M x6 x8.toNatClampNeg) (fun r98 M98 => ∃ a98, r98 = some a98 ∧ l_L_season_494 B S P K526 n M98 ((b + 1) + 1) ((s + 1400) + 1400) x0 x1 x2 x3 x6 x7 (x8 + (1 : Int32)))))
set_option maxHeartbeats 4000000 in
set_option maxRecDepth 100000 in
theorem jl_L_season_494 {s0 : State} {B S : Nat} {P : Option Nat → Mm → Prop} {K526 : Mm → Nat → Nat → Nat → Nat → Nat → Int32 → Prop} (C : Cx p l s0 m args meth c cL_season 10 RL (some (.object "OrchestraSeasonLaw$Season")) E) (k526 : ∀ M b s x0 x1 x2 x3, b ≤ B → s ≤ S → K526 M b s x0 x1 x2 x3 → J p l e (rm_L_season B S) s0 m args below meth c (QN below E P args s0 B S) E 10 M b s 526 [(0, .ref x0), (1, .ref x1), (2, .ref x2), (3, .int x3)] []) : ∀ n M b s x0 x1 x2 x3 x6 x7 x8, b ≤ B → s ≤ S → l_L_season_494 B S P K526 n M b s x0 x1 x2 x3 x6 x7 x8 → J p l e (rm_L_season B S) s0 m args below meth c (QN below E P args s0 B S) E 10 M b s 494 [(0, .ref x0), (1, .ref x1), (2, .ref x2), (3, .int x3), (6, .ref x6), (7, .int x7), (8, .int x8)] [] := by
  intro n
  induction n with
  | zero => intro M b s x0 x1 x2 x3 x6 x7 x8 hb hs h; exact h.elim
  | succ n ih =>
    intro M b s x0 x1 x2 x3 x6 x7 x8 hb hs h
    rw [l_L_season_494] at h
    refine j_iload (pc := 494) C 6 dL_season_494 rfl ?_
    refine j_iload (pc := 496) C 5 dL_season_496 rfl ?_
    refine j_icmp_ge (pc := 498) C 526 dL_season_498 (by decide) h (fun h => ?_) (fun h => ?_)
    · exact j_weak [0, 1, 2, 3] rfl (k526 _ _ _ _ _ _ _ hb hs h)
    · refine j_aload (pc := 501) C 4 dL_season_501 rfl ?_
      refine j_iload (pc := 503) C 6 dL_season_503 rfl ?_
      refine j_iald (pc := 505) C dL_season_505 h (fun h => ?_)
      refine j_istore (pc := 506) C [(9, _), (0, _), (1, _), (2, _), (3, _), (6, _), (7, _), (8, _)] dL_season_506 (by decide) rfl ?_
      refine j_aload_n (pc := 508) C 1 dL_season_508 rfl ?_
      refine j_bipush (pc := 509) (v := (32 : Int32)) C dL_season_509 rfl ?_
      obtain ⟨hb, hs, h⟩ := h
      refine c2_L_57 (pc := 511) C ⟨(Nat.le_of_ble_eq_true rfl), (Nat.le_of_ble_eq_true rfl)⟩ ⟨hb, hs⟩ (Nat.le_of_ble_eq_true rfl) dL_season_511 h (fun r97 M97 h => ?_)
      obtain ⟨a97, rfl, h⟩ := h
      refine j_iload (pc := 514) C 0 dL_season_514 rfl ?_
      obtain ⟨hb, hs, h⟩ := h
      refine c2_L_54 (pc := 516) C ⟨(Nat.le_of_ble_eq_true rfl), (Nat.le_of_ble_eq_true rfl)⟩ ⟨hb, hs⟩ (Nat.le_of_ble_eq_true rfl) dL_season_516 h (fun r98 M98 h => ?_)
      obtain ⟨a98, rfl, h⟩ := h
      refine j_pop (pc := 519) C dL_season_519 rfl ?_
      refine j_iinc (pc := 520) (v := (1 : Int32)) C 7 [(8, _), (9, _), (0, _), (1, _), (2, _), (3, _), (6, _), (7, _)] dL_season_520 rfl rfl (by decide) rfl ?_
      refine j_goto (pc := 523) C 494 dL_season_523 (by decide) ?_
      exact j_weak [2, 3, 4, 5, 6, 7, 0] rfl (ih _ _ _ _ _ _ _ _ _ _ hb hs h)
def l_L_season_529 (B S : Nat) (P : Option Nat → Mm → Prop) (K586 : Mm → Nat → Nat → Nat → Nat → Nat → Int32 → Prop) : Nat → Mm → Nat → Nat → Nat → Nat → Nat → Int32 → Int32 → Prop
  | 0, _, _, _, _, _, _, _, _ => False
  | n + 1, M, b, s, x0, x1, x2, x3, x6 => (zk M x2 = 8 ∧ ∃ a100, zR M x2 13 = some a100 ∧ (zk M a100 = 14 ∧ vp_in x3 (zl M a100) ∧ ∃ a101, zR M a100 x3.toNatClampNeg = some a101 ∧ zk M a101 = 10 ∧ (if (nI (zl M a101)) ≤ x6 then K586 M b s x0 x1 x2 x3 else (zk M x2 = 8 ∧ ∃ a102, zR M x2 13 = some a102 ∧ (zk M a102 = 14 ∧ vp_in x3 (zl M a102) ∧ ∃ a103, zR M a102 x3.toNatClampNeg = some a103 ∧ zk M x2 = 8 ∧ w_L_draw M x1 (zI M x2 4) (fun r105 M105 => zk M105 a103 = 10 ∧ vp_in x6 (zl M105 a103) ∧ (∀ M106, M106 = sI M105 a103 x6.toNatClampNeg r105 → b + 1 ≤ B ∧ s + 1400 ≤ S ∧ zk M106 x0 = 16 ∧ w_J4_append_cf468 M106 x0 (32 : Int32) (fun r107 M107 => ∃ a107, r107 = some a107 ∧ (zk M107 x2 = 8 ∧ ∃ a108, zR M107 x2 13 = some a108 ∧ (zk M107 a108 = 14 ∧ vp_in x3 (zl M107 a108) ∧ ∃ a109, zR M107 a108 x3.toNatClampNeg = some a109 ∧ zk M107 a109 = 10 ∧ vp_in x6 (zl M107 a109) ∧ (b + 1) + 2 ≤ B ∧ (s + 1400) + 5 ≤ S ∧ w_L_name M107 (zI M107 a109 x6.toNatClampNeg) (fun r110 M110 => ∃ a110, r110 = some a110 ∧ ((b + 1) + 2) + 1 ≤ B ∧ ((s + 1400) + 5) + 1400 ≤ S ∧ zk M110 a107 = 16 ∧ w_J4_append_15ec4_AA M110 a107 a110 (fun r111 M111 => ∃ a111, r111 = some a111 ∧ l_L_season_529 B S P K586 n M111 (((b + 1) + 2) + 1) (((s + 1400) + 5) + 1400) x0 x1 x2 x3 (x6 + (1 : Int32))))))))))))))
set_option maxHeartbeats 4000000 in
set_option maxRecDepth 100000 in
theorem jl_L_season_529 {s0 : State} {B S : Nat} {P : Option Nat → Mm → Prop} {K586 : Mm → Nat → Nat → Nat → Nat → Nat → Int32 → Prop} (C : Cx p l s0 m args meth c cL_season 10 RL (some (.object "OrchestraSeasonLaw$Season")) E) (k586 : ∀ M b s x0 x1 x2 x3, b ≤ B → s ≤ S → K586 M b s x0 x1 x2 x3 → J p l e (rm_L_season B S) s0 m args below meth c (QN below E P args s0 B S) E 10 M b s 586 [(0, .ref x0), (1, .ref x1), (2, .ref x2), (3, .int x3)] []) : ∀ n M b s x0 x1 x2 x3 x6, b ≤ B → s ≤ S → l_L_season_529 B S P K586 n M b s x0 x1 x2 x3 x6 → J p l e (rm_L_season B S) s0 m args below meth c (QN below E P args s0 B S) E 10 M b s 529 [(0, .ref x0), (1, .ref x1), (2, .ref x2), (3, .int x3), (6, .int x6)] [] := by
  intro n
  induction n with
  | zero => intro M b s x0 x1 x2 x3 x6 hb hs h; exact h.elim
  | succ n ih =>
    intro M b s x0 x1 x2 x3 x6 hb hs h
    rw [l_L_season_529] at h
    refine j_iload (pc := 529) C 4 dL_season_529 rfl ?_
    refine j_aload_n (pc := 531) C 2 dL_season_531 rfl ?_
    refine gf_L_106 (pc := 532) C dL_season_532 h (fun a100 h => ?_)
    refine j_iload_n (pc := 535) C 3 dL_season_535 rfl ?_
    refine j_aals (pc := 536) C (by decide) dL_season_536 h (fun a101 h => ?_)
    refine j_alen (pc := 537) (k := 10) C (by decide) dL_season_537 h (fun h => ?_)
    refine j_icmp_ge (pc := 538) C 586 dL_season_538 (by decide) h (fun h => ?_) (fun h => ?_)
    · exact j_weak [0, 1, 2, 3] rfl (k586 _ _ _ _ _ _ _ hb hs h)
    · refine j_aload_n (pc := 541) C 2 dL_season_541 rfl ?_
      refine gf_L_106 (pc := 542) C dL_season_542 h (fun a102 h => ?_)
      refine j_iload_n (pc := 545) C 3 dL_season_545 rfl ?_
      refine j_aals (pc := 546) C (by decide) dL_season_546 h (fun a103 h => ?_)
      refine j_iload (pc := 547) C 4 dL_season_547 rfl ?_
      refine j_aload_n (pc := 549) C 1 dL_season_549 rfl ?_
      refine j_aload_n (pc := 550) C 2 dL_season_550 rfl ?_
      refine gf_L_84 (pc := 551) C dL_season_551 h (fun h => ?_)
      refine c2_L_39 (pc := 554) C ⟨(Nat.le_of_ble_eq_true rfl), (Nat.le_of_ble_eq_true rfl)⟩ ⟨hb, hs⟩ (Nat.le_of_ble_eq_true rfl) dL_season_554 h (fun r105 M105 h => ?_)
      refine n_iast (pc := 557) C dL_season_557 h (fun M106 h => ?_)
      refine j_aload_n (pc := 558) C 0 dL_season_558 rfl ?_
      refine j_bipush (pc := 559) (v := (32 : Int32)) C dL_season_559 rfl ?_
      obtain ⟨hb, hs, h⟩ := h
      refine c2_L_57 (pc := 561) C ⟨(Nat.le_of_ble_eq_true rfl), (Nat.le_of_ble_eq_true rfl)⟩ ⟨hb, hs⟩ (Nat.le_of_ble_eq_true rfl) dL_season_561 h (fun r107 M107 h => ?_)
      obtain ⟨a107, rfl, h⟩ := h
      refine j_aload_n (pc := 564) C 2 dL_season_564 rfl ?_
      refine gf_L_106 (pc := 565) C dL_season_565 h (fun a108 h => ?_)
      refine j_iload_n (pc := 568) C 3 dL_season_568 rfl ?_
      refine j_aals (pc := 569) C (by decide) dL_season_569 h (fun a109 h => ?_)
      refine j_iload (pc := 570) C 4 dL_season_570 rfl ?_
      refine j_iald (pc := 572) C dL_season_572 h (fun h => ?_)
      obtain ⟨hb, hs, h⟩ := h
      refine c2_L_69 (pc := 573) C ⟨(Nat.le_of_ble_eq_true rfl), (Nat.le_of_ble_eq_true rfl)⟩ ⟨hb, hs⟩ (Nat.le_of_ble_eq_true rfl) dL_season_573 h (fun r110 M110 h => ?_)
      obtain ⟨a110, rfl, h⟩ := h
      obtain ⟨hb, hs, h⟩ := h
      refine c2_L_49_AA (pc := 576) C ⟨(Nat.le_of_ble_eq_true rfl), (Nat.le_of_ble_eq_true rfl)⟩ ⟨hb, hs⟩ (Nat.le_of_ble_eq_true rfl) dL_season_576 h (fun r111 M111 h => ?_)
      obtain ⟨a111, rfl, h⟩ := h
      refine j_pop (pc := 579) C dL_season_579 rfl ?_
      refine j_iinc (pc := 580) (v := (1 : Int32)) C 4 [(6, _), (0, _), (1, _), (2, _), (3, _)] dL_season_580 rfl rfl (by decide) rfl ?_
      refine j_goto (pc := 583) C 529 dL_season_583 (by decide) ?_
      exact j_weak [1, 2, 3, 4, 0] rfl (ih _ _ _ _ _ _ _ _ hb hs h)
def l_L_season_378 (B S : Nat) (P : Option Nat → Mm → Prop) (K599 : Mm → Nat → Nat → Nat → Nat → Nat → Prop) : Nat → Mm → Nat → Nat → Nat → Nat → Nat → Int32 → Prop
  | 0, _, _, _, _, _, _, _ => False
  | n + 1, M, b, s, x0, x1, x2, x3 => zk M x2 = 8 ∧ (if (zI M x2 3) ≤ x3 then K599 M b s x0 x1 x2 else w_L_draw M x1 (2 : Int32) (fun r76 M76 => zk M76 x2 = 8 ∧ w_L_draw M76 x1 (2 : Int32) (fun r78 M78 => (zk M78 x2 = 8 ∧ ∃ a79, zR M78 x2 12 = some a79 ∧ b + 1 ≤ B ∧ s + 4 ≤ S ∧ ¬ (4 : Int32) < 0 ∧ (4 : Int32).toNatClampNeg ≤ 4 ∧ (∀ a80 M80, a80 = zn M78 → M80 = sN M78 10 (4 : Int32).toNatClampNeg → w_L_draw M80 x1 (3 : Int32) (fun r81 M81 => zk M81 a80 = 10 ∧ vp_in (0 : Int32) (zl M81 a80) ∧ (∀ M82, M82 = sI M81 a80 (0 : Int32).toNatClampNeg r81 → zk M82 a80 = 10 ∧ vp_in (1 : Int32) (zl M82 a80) ∧ (∀ M83, M83 = sI M82 a80 (1 : Int32).toNatClampNeg r76 → zk M83 a80 = 10 ∧ vp_in (2 : Int32) (zl M83 a80) ∧ (∀ M84, M84 = sI M83 a80 (2 : Int32).toNatClampNeg (if r76 < (((zI M76 x2 0) - (1 : Int32)) - r78) then (((zI M76 x2 0) - (1 : Int32)) - r78) else r76) → w_L_draw M84 x1 (200 : Int32) (fun r85 M85 => zk M85 a80 = 10 ∧ vp_in (3 : Int32) (zl M85 a80) ∧ (∀ M86, M86 = sI M85 a80 (3 : Int32).toNatClampNeg r85 → zk M86 a79 = 14 ∧ zk M86 a80 = 10 ∧ vp_in x3 (zl M86 a79) ∧ (∀ M87, M87 = sR M86 a79 x3.toNatClampNeg (some a80) → (zk M87 x2 = 8 ∧ ∃ a88, zR M87 x2 13 = some a88 ∧ w_L_draw M87 x1 (4 : Int32) (fun r89 M89 => (b + 1) + 1 ≤ B ∧ (s + 4) + 8 ≤ S ∧ ¬ ((1 : Int32) + r89) < 0 ∧ ((1 : Int32) + r89).toNatClampNeg ≤ 8 ∧ (∀ a90 M90, a90 = zn M89 → M90 = sN M89 10 ((1 : Int32) + r89).toNatClampNeg → zk M90 a88 = 14 ∧ zk M90 a90 = 10 ∧ vp_in x3 (zl M90 a88) ∧ (∀ M91, M91 = sR M90 a88 x3.toNatClampNeg (some a90) → ((b + 1) + 1) + 1 ≤ B ∧ ((s + 4) + 8) + 1400 ≤ S ∧ zk M91 x0 = 16 ∧ w_J4_append_15ec4_AS M91 x0 9 (fun r92 M92 => ∃ a92, r92 = some a92 ∧ (((b + 1) + 1) + 1) + 2 ≤ B ∧ (((s + 4) + 8) + 1400) + 5 ≤ S ∧ w_L_name M92 x3 (fun r93 M93 => ∃ a93, r93 = some a93 ∧ ((((b + 1) + 1) + 1) + 2) + 1 ≤ B ∧ ((((s + 4) + 8) + 1400) + 5) + 1400 ≤ S ∧ zk M93 a92 = 16 ∧ w_J4_append_15ec4_AA M93 a92 a93 (fun r94 M94 => ∃ a94, r94 = some a94 ∧ (zk M94 x2 = 8 ∧ ∃ a95, zR M94 x2 12 = some a95 ∧ (zk M94 a95 = 14 ∧ vp_in x3 (zl M94 a95) ∧ ∃ a96, zR M94 a95 x3.toNatClampNeg = some a96 ∧ zk M94 a96 = 10 ∧ (∃ n494, l_L_season_494 B S P (fun M99 b99 s99 x0_99 x1_99 x2_99 x3_99 => (∃ n529, l_L_season_529 B S P (fun M112 b112 s112 x0_112 x1_112 x2_112 x3_112 => b112 + 1 ≤ B ∧ s112 + 1400 ≤ S ∧ zk M112 x0_112 = 16 ∧ w_J4_append_cf468 M112 x0_112 (59 : Int32) (fun r113 M113 => ∃ a113, r113 = some a113 ∧ l_L_season_378 B S P K599 n M113 (b112 + 1) (s112 + 1400) x0_112 x1_112 x2_112 (x3_112 + (1 : Int32)))) n529 M99 b99 s99 x0_99 x1_99 x2_99 x3_99 (0 : Int32))) n494 M94 (((((b + 1) + 1) + 1) + 2) + 1) (((((s + 4) + 8) + 1400) + 5) + 1400) x0 x1 x2 x3 a96 (nI (zl M94 a96)) (0 : Int32)))))))))))))))))))))))
set_option maxHeartbeats 4000000 in
set_option maxRecDepth 100000 in
theorem jl_L_season_378 {s0 : State} {B S : Nat} {P : Option Nat → Mm → Prop} {K599 : Mm → Nat → Nat → Nat → Nat → Nat → Prop} (C : Cx p l s0 m args meth c cL_season 10 RL (some (.object "OrchestraSeasonLaw$Season")) E) (k599 : ∀ M b s x0 x1 x2, b ≤ B → s ≤ S → K599 M b s x0 x1 x2 → J p l e (rm_L_season B S) s0 m args below meth c (QN below E P args s0 B S) E 10 M b s 599 [(0, .ref x0), (1, .ref x1), (2, .ref x2)] []) : ∀ n M b s x0 x1 x2 x3, b ≤ B → s ≤ S → l_L_season_378 B S P K599 n M b s x0 x1 x2 x3 → J p l e (rm_L_season B S) s0 m args below meth c (QN below E P args s0 B S) E 10 M b s 378 [(0, .ref x0), (1, .ref x1), (2, .ref x2), (3, .int x3)] [] := by
  intro n
  induction n with
  | zero => intro M b s x0 x1 x2 x3 hb hs h; exact h.elim
  | succ n ih =>
    intro M b s x0 x1 x2 x3 hb hs h
    rw [l_L_season_378] at h
    refine j_iload_n (pc := 378) C 3 dL_season_378 rfl ?_
    refine j_aload_n (pc := 379) C 2 dL_season_379 rfl ?_
    refine gf_L_100 (pc := 380) C dL_season_380 h (fun h => ?_)
    refine j_icmp_ge (pc := 383) C 599 dL_season_383 (by decide) h (fun h => ?_) (fun h => ?_)
    · exact j_weak [0, 1, 2] rfl (k599 _ _ _ _ _ _ hb hs h)
    · refine j_aload_n (pc := 386) C 1 dL_season_386 rfl ?_
      refine j_iconst (pc := 387) (v := (2 : Int32)) C dL_season_387 rfl ?_
      refine c2_L_39 (pc := 388) C ⟨(Nat.le_of_ble_eq_true rfl), (Nat.le_of_ble_eq_true rfl)⟩ ⟨hb, hs⟩ (Nat.le_of_ble_eq_true rfl) dL_season_388 h (fun r76 M76 h => ?_)
      refine j_istore (pc := 391) C [(4, _), (0, _), (1, _), (2, _), (3, _)] dL_season_391 (by decide) rfl ?_
      refine j_iload (pc := 393) C 0 dL_season_393 rfl ?_
      refine j_aload_n (pc := 395) C 3 dL_season_395 rfl ?_
      refine gf_L_43 (pc := 396) C dL_season_396 h (fun h => ?_)
      refine j_iconst (pc := 399) (v := (1 : Int32)) C dL_season_399 rfl ?_
      refine j_isub (pc := 400) C dL_season_400 ?_
      refine j_aload_n (pc := 401) C 2 dL_season_401 rfl ?_
      refine j_iconst (pc := 402) (v := (2 : Int32)) C dL_season_402 rfl ?_
      refine c2_L_39 (pc := 403) C ⟨(Nat.le_of_ble_eq_true rfl), (Nat.le_of_ble_eq_true rfl)⟩ ⟨hb, hs⟩ (Nat.le_of_ble_eq_true rfl) dL_season_403 h (fun r78 M78 h => ?_)
      refine j_isub (pc := 406) C dL_season_406 ?_
      refine j_mmax (pc := 407) C wd_616 wd_439 wd_51 wd_440 dL_season_407 (Nat.le_of_ble_eq_true rfl) (Nat.le_of_ble_eq_true rfl) ⟨hb, hs⟩ ?_
      refine j_istore (pc := 410) C [(5, _), (4, _), (0, _), (1, _), (2, _), (3, _)] dL_season_410 (by decide) rfl ?_
      refine j_aload_n (pc := 412) C 4 dL_season_412 rfl ?_
      refine gf_L_103 (pc := 413) C dL_season_413 h (fun a79 h => ?_)
      refine j_iload_n (pc := 416) C 5 dL_season_416 rfl ?_
      refine j_iconst (pc := 417) (v := (4 : Int32)) C dL_season_417 rfl ?_
      obtain ⟨hb, hs, h⟩ := h
      refine n_newi (pc := 418) C 4 wd_92 dL_season_418 (Nat.le_of_ble_eq_true rfl) hb hs h (fun a80 M80 h => ?_)
      refine j_dup (pc := 420) C dL_season_420 rfl ?_
      refine j_iconst (pc := 421) (v := (0 : Int32)) C dL_season_421 rfl ?_
      refine j_aload_n (pc := 422) C 3 dL_season_422 rfl ?_
      refine j_iconst (pc := 423) (v := (3 : Int32)) C dL_season_423 rfl ?_
      refine c2_L_39 (pc := 424) C ⟨(Nat.le_of_ble_eq_true rfl), (Nat.le_of_ble_eq_true rfl)⟩ ⟨hb, hs⟩ (Nat.le_of_ble_eq_true rfl) dL_season_424 h (fun r81 M81 h => ?_)
      refine n_iast (pc := 427) C dL_season_427 h (fun M82 h => ?_)
      refine j_dup (pc := 428) C dL_season_428 rfl ?_
      refine j_iconst (pc := 429) (v := (1 : Int32)) C dL_season_429 rfl ?_
      refine j_iload (pc := 430) C 1 dL_season_430 rfl ?_
      refine n_iast (pc := 432) C dL_season_432 h (fun M83 h => ?_)
      refine j_dup (pc := 433) C dL_season_433 rfl ?_
      refine j_iconst (pc := 434) (v := (2 : Int32)) C dL_season_434 rfl ?_
      refine j_iload (pc := 435) C 0 dL_season_435 rfl ?_
      refine n_iast (pc := 437) C dL_season_437 h (fun M84 h => ?_)
      refine j_dup (pc := 438) C dL_season_438 rfl ?_
      refine j_iconst (pc := 439) (v := (3 : Int32)) C dL_season_439 rfl ?_
      refine j_aload_n (pc := 440) C 3 dL_season_440 rfl ?_
      refine j_sipush (pc := 441) (v := (200 : Int32)) C dL_season_441 rfl ?_
      refine c2_L_39 (pc := 444) C ⟨(Nat.le_of_ble_eq_true rfl), (Nat.le_of_ble_eq_true rfl)⟩ ⟨hb, hs⟩ (Nat.le_of_ble_eq_true rfl) dL_season_444 h (fun r85 M85 h => ?_)
      refine n_iast (pc := 447) C dL_season_447 h (fun M86 h => ?_)
      refine n_aas2 (pc := 448) C (by decide) dL_season_448 h (fun M87 h => ?_)
      refine j_aload_n (pc := 449) C 4 dL_season_449 rfl ?_
      refine gf_L_106 (pc := 450) C dL_season_450 h (fun a88 h => ?_)
      refine j_iload_n (pc := 453) C 5 dL_season_453 rfl ?_
      refine j_iconst (pc := 454) (v := (1 : Int32)) C dL_season_454 rfl ?_
      refine j_aload_n (pc := 455) C 3 dL_season_455 rfl ?_
      refine j_iconst (pc := 456) (v := (4 : Int32)) C dL_season_456 rfl ?_
      refine c2_L_39 (pc := 457) C ⟨(Nat.le_of_ble_eq_true rfl), (Nat.le_of_ble_eq_true rfl)⟩ ⟨hb, hs⟩ (Nat.le_of_ble_eq_true rfl) dL_season_457 h (fun r89 M89 h => ?_)
      refine j_iadd (pc := 460) C dL_season_460 ?_
      obtain ⟨hb, hs, h⟩ := h
      refine n_newi (pc := 461) C 8 wd_92 dL_season_461 (Nat.le_of_ble_eq_true rfl) hb hs h (fun a90 M90 h => ?_)
      refine n_aas2 (pc := 463) C (by decide) dL_season_463 h (fun M91 h => ?_)
      refine j_aload_n (pc := 464) C 2 dL_season_464 rfl ?_
      refine j_ldcS (pc := 465) (i := 9) C (List.mem_of_getElem? (i := 9) rfl) dL_season_465 ?_
      obtain ⟨hb, hs, h⟩ := h
      refine c2_L_49_AS (pc := 467) C ⟨(Nat.le_of_ble_eq_true rfl), (Nat.le_of_ble_eq_true rfl)⟩ ⟨hb, hs⟩ (Nat.le_of_ble_eq_true rfl) dL_season_467 h (fun r92 M92 h => ?_)
      obtain ⟨a92, rfl, h⟩ := h
      refine j_iload_n (pc := 470) C 5 dL_season_470 rfl ?_
      obtain ⟨hb, hs, h⟩ := h
      refine c2_L_69 (pc := 471) C ⟨(Nat.le_of_ble_eq_true rfl), (Nat.le_of_ble_eq_true rfl)⟩ ⟨hb, hs⟩ (Nat.le_of_ble_eq_true rfl) dL_season_471 h (fun r93 M93 h => ?_)
      obtain ⟨a93, rfl, h⟩ := h
      obtain ⟨hb, hs, h⟩ := h
      refine c2_L_49_AA (pc := 474) C ⟨(Nat.le_of_ble_eq_true rfl), (Nat.le_of_ble_eq_true rfl)⟩ ⟨hb, hs⟩ (Nat.le_of_ble_eq_true rfl) dL_season_474 h (fun r94 M94 h => ?_)
      obtain ⟨a94, rfl, h⟩ := h
      refine j_pop (pc := 477) C dL_season_477 rfl ?_
      refine j_aload_n (pc := 478) C 4 dL_season_478 rfl ?_
      refine gf_L_103 (pc := 479) C dL_season_479 h (fun a95 h => ?_)
      refine j_iload_n (pc := 482) C 5 dL_season_482 rfl ?_
      refine j_aals (pc := 483) C (by decide) dL_season_483 h (fun a96 h => ?_)
      refine j_astore (pc := 484) C [(6, _), (5, _), (4, _), (0, _), (1, _), (2, _), (3, _)] dL_season_484 (by decide) rfl ?_
      refine j_aload (pc := 486) C 0 dL_season_486 rfl ?_
      refine j_alen (pc := 488) (k := 10) C (by decide) dL_season_488 h (fun h => ?_)
      refine j_istore (pc := 489) C [(7, _), (6, _), (5, _), (4, _), (0, _), (1, _), (2, _), (3, _)] dL_season_489 (by decide) rfl ?_
      refine j_iconst (pc := 491) (v := (0 : Int32)) C dL_season_491 rfl ?_
      refine j_istore (pc := 492) C [(8, _), (7, _), (6, _), (5, _), (4, _), (0, _), (1, _), (2, _), (3, _)] dL_season_492 (by decide) rfl ?_
      obtain ⟨n494, h⟩ := h
      refine j_weak [5, 6, 7, 8, 2, 1, 0] rfl (jl_L_season_494 C (fun M99 b99 s99 x0_99 x1_99 x2_99 x3_99 hb hs h => ?_) n494 _ _ _ _ _ _ _ _ _ _ hb hs h)
      · refine j_iconst (pc := 526) (v := (0 : Int32)) C dL_season_526 rfl ?_
        refine j_istore (pc := 527) C [(6, _), (0, _), (1, _), (2, _), (3, _)] dL_season_527 (by decide) rfl ?_
        obtain ⟨n529, h⟩ := h
        refine j_weak [1, 2, 3, 4, 0] rfl (jl_L_season_529 C (fun M112 b112 s112 x0_112 x1_112 x2_112 x3_112 hb hs h => ?_) n529 _ _ _ _ _ _ _ _ hb hs h)
        · refine j_aload_n (pc := 586) C 0 dL_season_586 rfl ?_
          refine j_bipush (pc := 587) (v := (59 : Int32)) C dL_season_587 rfl ?_
          obtain ⟨hb, hs, h⟩ := h
          refine c2_L_57 (pc := 589) C ⟨(Nat.le_of_ble_eq_true rfl), (Nat.le_of_ble_eq_true rfl)⟩ ⟨hb, hs⟩ (Nat.le_of_ble_eq_true rfl) dL_season_589 h (fun r113 M113 h => ?_)
          obtain ⟨a113, rfl, h⟩ := h
          refine j_pop (pc := 592) C dL_season_592 rfl ?_
          refine j_iinc (pc := 593) (v := (1 : Int32)) C 3 [(3, _), (0, _), (1, _), (2, _)] dL_season_593 rfl rfl (by decide) rfl ?_
          refine j_goto (pc := 596) C 378 dL_season_596 (by decide) ?_
          exact j_weak [1, 2, 3, 0] rfl (ih _ _ _ _ _ _ _ hb hs h)
def l_L_season_601 (B S : Nat) (P : Option Nat → Mm → Prop) (K675 : Mm → Nat → Nat → Nat → Nat → Nat → Prop) : Nat → Mm → Nat → Nat → Nat → Nat → Nat → Int32 → Prop
  | 0, _, _, _, _, _, _, _ => False
  | n + 1, M, b, s, x0, x1, x2, x3 => zk M x2 = 8 ∧ (if (zI M x2 2) ≤ x3 then K675 M b s x0 x1 x2 else w_L_draw M x1 (4 : Int32) (fun r116 M116 => (if r116 ≤ 0 then zk M116 x2 = 8 ∧ w_L_draw M116 x1 (zI M116 x2 0) (fun r118 M118 => (zk M118 x2 = 8 ∧ ∃ a119, zR M118 x2 10 = some a119 ∧ zk M118 a119 = 10 ∧ vp_in x3 (zl M118 a119) ∧ (∀ M120, M120 = sI M118 a119 x3.toNatClampNeg ((1 : Int32) <<< (r118 &&& 31)) → b + 1 ≤ B ∧ s + 1400 ≤ S ∧ zk M120 x0 = 16 ∧ w_J4_append_15ec4_AS M120 x0 10 (fun r121 M121 => ∃ a121, r121 = some a121 ∧ (b + 1) + 2 ≤ B ∧ (s + 1400) + 5 ≤ S ∧ w_L_name M121 x3 (fun r122 M122 => ∃ a122, r122 = some a122 ∧ ((b + 1) + 2) + 1 ≤ B ∧ ((s + 1400) + 5) + 1400 ≤ S ∧ zk M122 a121 = 16 ∧ w_J4_append_15ec4_AA M122 a121 a122 (fun r123 M123 => ∃ a123, r123 = some a123 ∧ (((b + 1) + 2) + 1) + 1 ≤ B ∧ (((s + 1400) + 5) + 1400) + 1400 ≤ S ∧ zk M123 a123 = 16 ∧ w_J4_append_cf468 M123 a123 (32 : Int32) (fun r124 M124 => ∃ a124, r124 = some a124 ∧ ((((b + 1) + 2) + 1) + 1) + 1 ≤ B ∧ ((((s + 1400) + 5) + 1400) + 1400) + 1400 ≤ S ∧ zk M124 a124 = 16 ∧ w_J4_append_bf812 M124 a124 r118 (fun r125 M125 => ∃ a125, r125 = some a125 ∧ (((((b + 1) + 2) + 1) + 1) + 1) + 1 ≤ B ∧ (((((s + 1400) + 5) + 1400) + 1400) + 1400) + 1400 ≤ S ∧ zk M125 a125 = 16 ∧ w_J4_append_cf468 M125 a125 (59 : Int32) (fun r126 M126 => ∃ a126, r126 = some a126 ∧ l_L_season_601 B S P K675 n M126 ((((((b + 1) + 2) + 1) + 1) + 1) + 1) ((((((s + 1400) + 5) + 1400) + 1400) + 1400) + 1400) x0 x1 x2 (x3 + (1 : Int32))))))))))) else l_L_season_601 B S P K675 n M116 b s x0 x1 x2 (x3 + (1 : Int32)))))
set_option maxHeartbeats 4000000 in
set_option maxRecDepth 100000 in
theorem jl_L_season_601 {s0 : State} {B S : Nat} {P : Option Nat → Mm → Prop} {K675 : Mm → Nat → Nat → Nat → Nat → Nat → Prop} (C : Cx p l s0 m args meth c cL_season 10 RL (some (.object "OrchestraSeasonLaw$Season")) E) (k675 : ∀ M b s x0 x1 x2, b ≤ B → s ≤ S → K675 M b s x0 x1 x2 → J p l e (rm_L_season B S) s0 m args below meth c (QN below E P args s0 B S) E 10 M b s 675 [(0, .ref x0), (1, .ref x1), (2, .ref x2)] []) : ∀ n M b s x0 x1 x2 x3, b ≤ B → s ≤ S → l_L_season_601 B S P K675 n M b s x0 x1 x2 x3 → J p l e (rm_L_season B S) s0 m args below meth c (QN below E P args s0 B S) E 10 M b s 601 [(0, .ref x0), (1, .ref x1), (2, .ref x2), (3, .int x3)] [] := by
  intro n
  induction n with
  | zero => intro M b s x0 x1 x2 x3 hb hs h; exact h.elim
  | succ n ih =>
    intro M b s x0 x1 x2 x3 hb hs h
    rw [l_L_season_601] at h
    refine j_iload_n (pc := 601) C 3 dL_season_601 rfl ?_
    refine j_aload_n (pc := 602) C 2 dL_season_602 rfl ?_
    refine gf_L_73 (pc := 603) C dL_season_603 h (fun h => ?_)
    refine j_icmp_ge (pc := 606) C 675 dL_season_606 (by decide) h (fun h => ?_) (fun h => ?_)
    · exact j_weak [0, 1, 2] rfl (k675 _ _ _ _ _ _ hb hs h)
    · refine j_aload_n (pc := 609) C 1 dL_season_609 rfl ?_
      refine j_iconst (pc := 610) (v := (4 : Int32)) C dL_season_610 rfl ?_
      refine c2_L_39 (pc := 611) C ⟨(Nat.le_of_ble_eq_true rfl), (Nat.le_of_ble_eq_true rfl)⟩ ⟨hb, hs⟩ (Nat.le_of_ble_eq_true rfl) dL_season_611 h (fun r116 M116 h => ?_)
      refine j_if_le (pc := 614) C 620 dL_season_614 (by decide) h (fun h => ?_) (fun h => ?_)
      · refine j_aload_n (pc := 620) C 1 dL_season_620 rfl ?_
        refine j_aload_n (pc := 621) C 2 dL_season_621 rfl ?_
        refine gf_L_43 (pc := 622) C dL_season_622 h (fun h => ?_)
        refine c2_L_39 (pc := 625) C ⟨(Nat.le_of_ble_eq_true rfl), (Nat.le_of_ble_eq_true rfl)⟩ ⟨hb, hs⟩ (Nat.le_of_ble_eq_true rfl) dL_season_625 h (fun r118 M118 h => ?_)
        refine j_istore (pc := 628) C [(4, _), (0, _), (1, _), (2, _), (3, _)] dL_season_628 (by decide) rfl ?_
        refine j_aload_n (pc := 630) C 3 dL_season_630 rfl ?_
        refine gf_L_111 (pc := 631) C dL_season_631 h (fun a119 h => ?_)
        refine j_iload_n (pc := 634) C 4 dL_season_634 rfl ?_
        refine j_iconst (pc := 635) (v := (1 : Int32)) C dL_season_635 rfl ?_
        refine j_iload (pc := 636) C 0 dL_season_636 rfl ?_
        refine j_ishl (pc := 638) C dL_season_638 ?_
        refine n_iast (pc := 639) C dL_season_639 h (fun M120 h => ?_)
        refine j_aload_n (pc := 640) C 1 dL_season_640 rfl ?_
        refine j_ldcS (pc := 641) (i := 10) C (List.mem_of_getElem? (i := 10) rfl) dL_season_641 ?_
        obtain ⟨hb, hs, h⟩ := h
        refine c2_L_49_AS (pc := 643) C ⟨(Nat.le_of_ble_eq_true rfl), (Nat.le_of_ble_eq_true rfl)⟩ ⟨hb, hs⟩ (Nat.le_of_ble_eq_true rfl) dL_season_643 h (fun r121 M121 h => ?_)
        obtain ⟨a121, rfl, h⟩ := h
        refine j_iload_n (pc := 646) C 4 dL_season_646 rfl ?_
        obtain ⟨hb, hs, h⟩ := h
        refine c2_L_69 (pc := 647) C ⟨(Nat.le_of_ble_eq_true rfl), (Nat.le_of_ble_eq_true rfl)⟩ ⟨hb, hs⟩ (Nat.le_of_ble_eq_true rfl) dL_season_647 h (fun r122 M122 h => ?_)
        obtain ⟨a122, rfl, h⟩ := h
        obtain ⟨hb, hs, h⟩ := h
        refine c2_L_49_AA (pc := 650) C ⟨(Nat.le_of_ble_eq_true rfl), (Nat.le_of_ble_eq_true rfl)⟩ ⟨hb, hs⟩ (Nat.le_of_ble_eq_true rfl) dL_season_650 h (fun r123 M123 h => ?_)
        obtain ⟨a123, rfl, h⟩ := h
        refine j_bipush (pc := 653) (v := (32 : Int32)) C dL_season_653 rfl ?_
        obtain ⟨hb, hs, h⟩ := h
        refine c2_L_57 (pc := 655) C ⟨(Nat.le_of_ble_eq_true rfl), (Nat.le_of_ble_eq_true rfl)⟩ ⟨hb, hs⟩ (Nat.le_of_ble_eq_true rfl) dL_season_655 h (fun r124 M124 h => ?_)
        obtain ⟨a124, rfl, h⟩ := h
        refine j_iload (pc := 658) C 0 dL_season_658 rfl ?_
        obtain ⟨hb, hs, h⟩ := h
        refine c2_L_54 (pc := 660) C ⟨(Nat.le_of_ble_eq_true rfl), (Nat.le_of_ble_eq_true rfl)⟩ ⟨hb, hs⟩ (Nat.le_of_ble_eq_true rfl) dL_season_660 h (fun r125 M125 h => ?_)
        obtain ⟨a125, rfl, h⟩ := h
        refine j_bipush (pc := 663) (v := (59 : Int32)) C dL_season_663 rfl ?_
        obtain ⟨hb, hs, h⟩ := h
        refine c2_L_57 (pc := 665) C ⟨(Nat.le_of_ble_eq_true rfl), (Nat.le_of_ble_eq_true rfl)⟩ ⟨hb, hs⟩ (Nat.le_of_ble_eq_true rfl) dL_season_665 h (fun r126 M126 h => ?_)
        obtain ⟨a126, rfl, h⟩ := h
        refine j_pop (pc := 668) C dL_season_668 rfl ?_
        refine j_iinc (pc := 669) (v := (1 : Int32)) C 4 [(3, _), (4, _), (0, _), (1, _), (2, _)] dL_season_669 rfl rfl (by decide) rfl ?_
        refine j_goto (pc := 672) C 601 dL_season_672 (by decide) ?_
        exact j_weak [2, 3, 4, 0] rfl (ih _ _ _ _ _ _ _ hb hs h)
      · refine j_goto (pc := 617) C 669 dL_season_617 (by decide) ?_
        refine j_iinc (pc := 669) (v := (1 : Int32)) C 3 [(3, _), (0, _), (1, _), (2, _)] dL_season_669 rfl rfl (by decide) rfl ?_
        refine j_goto (pc := 672) C 601 dL_season_672 (by decide) ?_
        exact j_weak [1, 2, 3, 0] rfl (ih _ _ _ _ _ _ _ hb hs h)
def w_L_season (M : Mm) (x0 : Nat) (x1 : Nat) (P : Option Nat → Mm → Prop) (B S : Nat) : Prop := 0 + 1 ≤ B ∧ 0 + 18 ≤ S ∧ (∀ a1 M1, a1 = zn M → M1 = sN M 8 0 → ∃ b2 s2, (0 + 1) + b2 ≤ B ∧ (0 + 18) + s2 ≤ S ∧ w_X8_init M1 a1 (fun M2 => w_L_draw M2 x1 (6 : Int32) (fun r3 M3 => zk M3 a1 = 8 ∧ (∀ M4, M4 = sI M3 a1 0 ((2 : Int32) + r3) → ((0 + 1) + b2) + 1 ≤ B ∧ ((0 + 18) + s2) + 1400 ≤ S ∧ zk M4 x0 = 16 ∧ w_J4_append_15ec4_AS M4 x0 6 (fun r5 M5 => ∃ a5, r5 = some a5 ∧ zk M5 a1 = 8 ∧ (((0 + 1) + b2) + 1) + 1 ≤ B ∧ (((0 + 18) + s2) + 1400) + 1400 ≤ S ∧ zk M5 a5 = 16 ∧ w_J4_append_bf812 M5 a5 (zI M5 a1 0) (fun r7 M7 => ∃ a7, r7 = some a7 ∧ ((((0 + 1) + b2) + 1) + 1) + 1 ≤ B ∧ ((((0 + 18) + s2) + 1400) + 1400) + 1400 ≤ S ∧ zk M7 a7 = 16 ∧ w_J4_append_cf468 M7 a7 (59 : Int32) (fun r8 M8 => ∃ a8, r8 = some a8 ∧ w_L_draw M8 x1 (3 : Int32) (fun r9 M9 => zk M9 a1 = 8 ∧ (∀ M10, M10 = sI M9 a1 1 ((1 : Int32) + r9) → (∃ n52, l_L_season_52 B S P (fun M22 b22 s22 x0_22 x1_22 x2_22 => w_L_draw M22 x1_22 (6 : Int32) (fun r23 M23 => zk M23 x2_22 = 8 ∧ (∀ M24, M24 = sI M23 x2_22 2 ((2 : Int32) + r23) → (∃ n124, l_L_season_124 B S P (fun M72 b72 s72 x0_72 x1_72 x2_72 => w_L_draw M72 x1_72 (4 : Int32) (fun r73 M73 => zk M73 x2_72 = 8 ∧ (∀ M74, M74 = sI M73 x2_72 3 ((1 : Int32) + r73) → (∃ n378, l_L_season_378 B S P (fun M114 b114 s114 x0_114 x1_114 x2_114 => (∃ n601, l_L_season_601 B S P (fun M127 b127 s127 x0_127 x1_127 x2_127 => w_L_draw M127 x1_127 (2 : Int32) (fun r128 M128 => (if r128 = 0 then w_L_draw M128 x1_127 (50 : Int32) (fun r129 M129 => zk M129 x2_127 = 8 ∧ (∀ M130, M130 = sI M129 x2_127 5 r129 → b127 + 1 ≤ B ∧ s127 + 1400 ≤ S ∧ zk M130 x0_127 = 16 ∧ w_J4_append_15ec4_AS M130 x0_127 11 (fun r131 M131 => ∃ a131, r131 = some a131 ∧ zk M131 x2_127 = 8 ∧ (b127 + 1) + 1 ≤ B ∧ (s127 + 1400) + 1400 ≤ S ∧ zk M131 a131 = 16 ∧ w_J4_append_bf812 M131 a131 (zI M131 x2_127 5) (fun r133 M133 => ∃ a133, r133 = some a133 ∧ ((b127 + 1) + 1) + 1 ≤ B ∧ ((s127 + 1400) + 1400) + 1400 ≤ S ∧ zk M133 a133 = 16 ∧ w_J4_append_cf468 M133 a133 (59 : Int32) (fun r134 M134 => ∃ a134, r134 = some a134 ∧ P (some x2_127) M134))))) else P (some x2_127) M128))) n601 M114 b114 s114 x0_114 x1_114 x2_114 (0 : Int32))) n378 M74 b72 s72 x0_72 x1_72 x2_72 (0 : Int32))))) n124 M24 b22 s22 x0_22 x1_22 x2_22 (0 : Int32))))) n52 M10 (((((0 + 1) + b2) + 1) + 1) + 1) (((((0 + 18) + s2) + 1400) + 1400) + 1400) x0 x1 a1 (0 : Int32)))))))))) b2 s2)
set_option maxHeartbeats 4000000 in
set_option maxRecDepth 100000 in
theorem c_L_season (l : Launch) (E : EV) (M : Mm) (x0 : Nat) (x1 : Nat) (P : Option Nat → Mm → Prop) (B S : Nat) (h : w_L_season M x0 x1 P B S) : CtN l E yL_season cL_season 10 (.object "OrchestraSeasonLaw$Season") (rm_L_season B S) B S [.ref x0, .ref x1] M P := by
  refine ctN_of (by decide +kernel) (Nat.le_of_ble_eq_true rfl) ?_
  intro p e s m args below meth c C
  rw [w_L_season] at h
  have hb : 0 ≤ B := Nat.zero_le _
  have hs : 0 ≤ S := Nat.zero_le _
  show J p l e (rm_L_season B S) s m args below meth c (QN below E P args s B S) E 10 M 0 0 0 [(0, .ref x0), (1, .ref x1)] []
  obtain ⟨hb, hs, h⟩ := h
  refine n_new (pc := 0) C co_X8 df_X8 wd_332 wd_333 wd_49 dL_season_0 hb hs h (fun a1 M1 h => ?_)
  refine j_dup (pc := 3) C dL_season_3 rfl ?_
  obtain ⟨b2, s2, hb, hs, h⟩ := h
  refine c2_L_38 (pc := 4) C ⟨(Nat.le_of_ble_eq_true rfl), (Nat.le_of_ble_eq_true rfl)⟩ ⟨hb, hs⟩ (Nat.le_of_ble_eq_true rfl) dL_season_4 h (fun M2 h => ?_)
  refine j_astore_n (pc := 7) C [(2, _), (0, _), (1, _)] dL_season_7 (by decide) rfl ?_
  refine j_aload_n (pc := 8) C 0 dL_season_8 rfl ?_
  refine j_iconst (pc := 9) (v := (2 : Int32)) C dL_season_9 rfl ?_
  refine j_aload_n (pc := 10) C 2 dL_season_10 rfl ?_
  refine j_bipush (pc := 11) (v := (6 : Int32)) C dL_season_11 rfl ?_
  refine c2_L_39 (pc := 13) C ⟨(Nat.le_of_ble_eq_true rfl), (Nat.le_of_ble_eq_true rfl)⟩ ⟨hb, hs⟩ (Nat.le_of_ble_eq_true rfl) dL_season_13 h (fun r3 M3 h => ?_)
  refine j_iadd (pc := 16) C dL_season_16 ?_
  refine pf_L_43 (pc := 17) C dL_season_17 h (fun M4 h => ?_)
  refine j_aload_n (pc := 20) C 1 dL_season_20 rfl ?_
  refine j_ldcS (pc := 21) (i := 6) C (List.mem_of_getElem? (i := 6) rfl) dL_season_21 ?_
  obtain ⟨hb, hs, h⟩ := h
  refine c2_L_49_AS (pc := 23) C ⟨(Nat.le_of_ble_eq_true rfl), (Nat.le_of_ble_eq_true rfl)⟩ ⟨hb, hs⟩ (Nat.le_of_ble_eq_true rfl) dL_season_23 h (fun r5 M5 h => ?_)
  obtain ⟨a5, rfl, h⟩ := h
  refine j_aload_n (pc := 26) C 0 dL_season_26 rfl ?_
  refine gf_L_43 (pc := 27) C dL_season_27 h (fun h => ?_)
  obtain ⟨hb, hs, h⟩ := h
  refine c2_L_54 (pc := 30) C ⟨(Nat.le_of_ble_eq_true rfl), (Nat.le_of_ble_eq_true rfl)⟩ ⟨hb, hs⟩ (Nat.le_of_ble_eq_true rfl) dL_season_30 h (fun r7 M7 h => ?_)
  obtain ⟨a7, rfl, h⟩ := h
  refine j_bipush (pc := 33) (v := (59 : Int32)) C dL_season_33 rfl ?_
  obtain ⟨hb, hs, h⟩ := h
  refine c2_L_57 (pc := 35) C ⟨(Nat.le_of_ble_eq_true rfl), (Nat.le_of_ble_eq_true rfl)⟩ ⟨hb, hs⟩ (Nat.le_of_ble_eq_true rfl) dL_season_35 h (fun r8 M8 h => ?_)
  obtain ⟨a8, rfl, h⟩ := h
  refine j_pop (pc := 38) C dL_season_38 rfl ?_
  refine j_aload_n (pc := 39) C 0 dL_season_39 rfl ?_
  refine j_iconst (pc := 40) (v := (1 : Int32)) C dL_season_40 rfl ?_
  refine j_aload_n (pc := 41) C 2 dL_season_41 rfl ?_
  refine j_iconst (pc := 42) (v := (3 : Int32)) C dL_season_42 rfl ?_
  refine c2_L_39 (pc := 43) C ⟨(Nat.le_of_ble_eq_true rfl), (Nat.le_of_ble_eq_true rfl)⟩ ⟨hb, hs⟩ (Nat.le_of_ble_eq_true rfl) dL_season_43 h (fun r9 M9 h => ?_)
  refine j_iadd (pc := 46) C dL_season_46 ?_
  refine pf_L_60 (pc := 47) C dL_season_47 h (fun M10 h => ?_)
  refine j_iconst (pc := 50) (v := (0 : Int32)) C dL_season_50 rfl ?_
  refine j_istore_n (pc := 51) C [(3, _), (2, _), (0, _), (1, _)] dL_season_51 (by decide) rfl ?_
  obtain ⟨n52, h⟩ := h
  refine j_weak [2, 3, 1, 0] rfl (jl_L_season_52 C (fun M22 b22 s22 x0_22 x1_22 x2_22 hb hs h => ?_) n52 _ _ _ _ _ _ _ hb hs h)
  · refine j_aload_n (pc := 110) C 2 dL_season_110 rfl ?_
    refine j_iconst (pc := 111) (v := (2 : Int32)) C dL_season_111 rfl ?_
    refine j_aload_n (pc := 112) C 1 dL_season_112 rfl ?_
    refine j_bipush (pc := 113) (v := (6 : Int32)) C dL_season_113 rfl ?_
    refine c2_L_39 (pc := 115) C ⟨(Nat.le_of_ble_eq_true rfl), (Nat.le_of_ble_eq_true rfl)⟩ ⟨hb, hs⟩ (Nat.le_of_ble_eq_true rfl) dL_season_115 h (fun r23 M23 h => ?_)
    refine j_iadd (pc := 118) C dL_season_118 ?_
    refine pf_L_73 (pc := 119) C dL_season_119 h (fun M24 h => ?_)
    refine j_iconst (pc := 122) (v := (0 : Int32)) C dL_season_122 rfl ?_
    refine j_istore_n (pc := 123) C [(3, _), (0, _), (1, _), (2, _)] dL_season_123 (by decide) rfl ?_
    obtain ⟨n124, h⟩ := h
    refine j_weak [1, 2, 3, 0] rfl (jl_L_season_124 C (fun M72 b72 s72 x0_72 x1_72 x2_72 hb hs h => ?_) n124 _ _ _ _ _ _ _ hb hs h)
    · refine j_aload_n (pc := 365) C 2 dL_season_365 rfl ?_
      refine j_iconst (pc := 366) (v := (1 : Int32)) C dL_season_366 rfl ?_
      refine j_aload_n (pc := 367) C 1 dL_season_367 rfl ?_
      refine j_iconst (pc := 368) (v := (4 : Int32)) C dL_season_368 rfl ?_
      refine c2_L_39 (pc := 369) C ⟨(Nat.le_of_ble_eq_true rfl), (Nat.le_of_ble_eq_true rfl)⟩ ⟨hb, hs⟩ (Nat.le_of_ble_eq_true rfl) dL_season_369 h (fun r73 M73 h => ?_)
      refine j_iadd (pc := 372) C dL_season_372 ?_
      refine pf_L_100 (pc := 373) C dL_season_373 h (fun M74 h => ?_)
      refine j_iconst (pc := 376) (v := (0 : Int32)) C dL_season_376 rfl ?_
      refine j_istore_n (pc := 377) C [(3, _), (0, _), (1, _), (2, _)] dL_season_377 (by decide) rfl ?_
      obtain ⟨n378, h⟩ := h
      refine j_weak [1, 2, 3, 0] rfl (jl_L_season_378 C (fun M114 b114 s114 x0_114 x1_114 x2_114 hb hs h => ?_) n378 _ _ _ _ _ _ _ hb hs h)
      · refine j_iconst (pc := 599) (v := (0 : Int32)) C dL_season_599 rfl ?_
        refine j_istore_n (pc := 600) C [(3, _), (0, _), (1, _), (2, _)] dL_season_600 (by decide) rfl ?_
        obtain ⟨n601, h⟩ := h
        refine j_weak [1, 2, 3, 0] rfl (jl_L_season_601 C (fun M127 b127 s127 x0_127 x1_127 x2_127 hb hs h => ?_) n601 _ _ _ _ _ _ _ hb hs h)
        · refine j_aload_n (pc := 675) C 1 dL_season_675 rfl ?_
          refine j_iconst (pc := 676) (v := (2 : Int32)) C dL_season_676 rfl ?_
          refine c2_L_39 (pc := 677) C ⟨(Nat.le_of_ble_eq_true rfl), (Nat.le_of_ble_eq_true rfl)⟩ ⟨hb, hs⟩ (Nat.le_of_ble_eq_true rfl) dL_season_677 h (fun r128 M128 h => ?_)
          refine j_if_ne (pc := 680) C 712 dL_season_680 (by decide) h (fun h => ?_) (fun h => ?_)
          · refine j_aload_n (pc := 712) C 2 dL_season_712 rfl ?_
            exact j_nret (pc := 713) (some x2_127) (Or.inl ⟨_, rfl⟩) C dL_season_713 hb hs h
          · refine j_aload_n (pc := 683) C 2 dL_season_683 rfl ?_
            refine j_aload_n (pc := 684) C 1 dL_season_684 rfl ?_
            refine j_bipush (pc := 685) (v := (50 : Int32)) C dL_season_685 rfl ?_
            refine c2_L_39 (pc := 687) C ⟨(Nat.le_of_ble_eq_true rfl), (Nat.le_of_ble_eq_true rfl)⟩ ⟨hb, hs⟩ (Nat.le_of_ble_eq_true rfl) dL_season_687 h (fun r129 M129 h => ?_)
            refine pf_L_116 (pc := 690) C dL_season_690 h (fun M130 h => ?_)
            refine j_aload_n (pc := 693) C 0 dL_season_693 rfl ?_
            refine j_ldcS (pc := 694) (i := 11) C (List.mem_of_getElem? (i := 11) rfl) dL_season_694 ?_
            obtain ⟨hb, hs, h⟩ := h
            refine c2_L_49_AS (pc := 696) C ⟨(Nat.le_of_ble_eq_true rfl), (Nat.le_of_ble_eq_true rfl)⟩ ⟨hb, hs⟩ (Nat.le_of_ble_eq_true rfl) dL_season_696 h (fun r131 M131 h => ?_)
            obtain ⟨a131, rfl, h⟩ := h
            refine j_aload_n (pc := 699) C 2 dL_season_699 rfl ?_
            refine gf_L_116 (pc := 700) C dL_season_700 h (fun h => ?_)
            obtain ⟨hb, hs, h⟩ := h
            refine c2_L_54 (pc := 703) C ⟨(Nat.le_of_ble_eq_true rfl), (Nat.le_of_ble_eq_true rfl)⟩ ⟨hb, hs⟩ (Nat.le_of_ble_eq_true rfl) dL_season_703 h (fun r133 M133 h => ?_)
            obtain ⟨a133, rfl, h⟩ := h
            refine j_bipush (pc := 706) (v := (59 : Int32)) C dL_season_706 rfl ?_
            obtain ⟨hb, hs, h⟩ := h
            refine c2_L_57 (pc := 708) C ⟨(Nat.le_of_ble_eq_true rfl), (Nat.le_of_ble_eq_true rfl)⟩ ⟨hb, hs⟩ (Nat.le_of_ble_eq_true rfl) dL_season_708 h (fun r134 M134 h => ?_)
            obtain ⟨a134, rfl, h⟩ := h
            refine j_pop (pc := 711) C dL_season_711 rfl ?_
            refine j_aload_n (pc := 712) C 2 dL_season_712 rfl ?_
            exact j_nret (pc := 713) (some x2_127) (Or.inl ⟨_, rfl⟩) C dL_season_713 hb hs h
end GL6
