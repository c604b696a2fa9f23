/-! written by a program (wip/p34/gen.py) out of the decode rows and the tables: walks of the law -/

section GL6
variable {p : Program} {l : Launch} {e : Env} {R : Room} {s : State} {m : MethodId} {args : Array Value} {below : List Frame} {meth : Method} {c : Code} {Q : State → Prop} {cc : ByteArray} {nL : Nat} {ret : Option FieldType} {E : EV} {M : Mm} {kc ks pc : Nat} {lo : List (Nat × Value)} {st : List Value}
theorem c2_J4_29_AS (C : Cx p l s m args meth c cc nL RJ4 ret E) {b : Nat} {y0 : Nat} {P : Option Nat → Mm → Prop} (hR : rm_J5_append_cf1ce_AS.frames + 1 ≤ R.frames ∧ 8 + (3 + 11) + rm_J5_append_cf1ce_AS.locals ≤ R.locals) (hf : kc + 1 ≤ R.cells ∧ ks + 1400 ≤ R.slots) (hst : (st.map fun v => v.category).sum ≤ 8) (d : decode cc pc = .ok (.invokespecial 29, 3)) (h : zk M b = 16 ∧ w_J5_append_cf1ce_AS M b y0 P) (kk : ∀ r M', P r M' → J p l e R s m args below meth c Q E nL M' (kc + 1) (ks + 1400) (pc + 3) lo (va_rf r :: st)) : J p l e R s m args below meth c Q E nL M kc ks pc lo (.ref (E.2.2.2.1 y0) :: .ref b :: st) :=
  j_cSU_N (n := 1) (As := [.ref (E.2.2.2.1 y0)]) C co_J4 h.1 (c_J5_append_cf1ce_AS l E M b y0 P h.2) (k_cs C wd_422 wd_420 wd_1384 wd_328 wd_421 wd_45 (by decide) (by decide +kernel) rfl rfl hR) hf rfl hst d kk
abbrev rm_J4_append_15ec4_AS : Room := { frames := 5, cells := 1, slots := 1400, locals := 127 }
def w_J4_append_15ec4_AS (M : Mm) (x0 : Nat) (x1 : Nat) (P : Option Nat → Mm → Prop) : Prop := zk M x0 = 16 ∧ w_J5_append_cf1ce_AS M x0 x1 (fun r1 M1 => ∃ a1, r1 = some a1 ∧ P (some x0) M1)
set_option maxHeartbeats 4000000 in
set_option maxRecDepth 100000 in
theorem c_J4_append_15ec4_AS (l : Launch) (E : EV) (M : Mm) (x0 : Nat) (x1 : Nat) (P : Option Nat → Mm → Prop) (h : w_J4_append_15ec4_AS M x0 x1 P) : CtN l E yJ4_append_15ec4 cJ4_append_15ec4 2 (.object "java/lang/StringBuilder") rm_J4_append_15ec4_AS 1 1400 [.ref x0, .ref (E.2.2.2.1 x1)] M P := by
  refine ctN_of (by decide +kernel) (Nat.le_of_ble_eq_true rfl) ?_
  intro p e s m args below meth c C
  rw [w_J4_append_15ec4_AS] at h
  show J p l e rm_J4_append_15ec4_AS s m args below meth c (QN below E P args s 1 1400) E 2 M 0 0 0 [(0, .ref x0), (1, .ref (E.2.2.2.1 x1))] []
  refine j_aload_n (pc := 0) C 0 dJ4_append_15ec4_0 rfl ?_
  refine j_aload_n (pc := 1) C 1 dJ4_append_15ec4_1 rfl ?_
  refine c2_J4_29_AS (pc := 2) C ⟨(Nat.le_of_ble_eq_true rfl), (Nat.le_of_ble_eq_true rfl)⟩ ⟨Nat.le_of_ble_eq_true rfl, Nat.le_of_ble_eq_true rfl⟩ (Nat.le_of_ble_eq_true rfl) dJ4_append_15ec4_2 h (fun r1 M1 h => ?_)
  obtain ⟨a1, rfl, h⟩ := h
  refine j_pop (pc := 5) C dJ4_append_15ec4_5 rfl ?_
  refine j_aload_n (pc := 6) C 0 dJ4_append_15ec4_6 rfl ?_
  exact j_nret (pc := 7) (some x0) (Or.inl ⟨_, rfl⟩) C dJ4_append_15ec4_7 (Nat.le_of_ble_eq_true rfl) (Nat.le_of_ble_eq_true rfl) h
theorem c2_J4_29_AA (C : Cx p l s m args meth c cc nL RJ4 ret E) {b : Nat} {y0 : Nat} {P : Option Nat → Mm → Prop} (hR : rm_J5_append_cf1ce_AA.frames + 1 ≤ R.frames ∧ 8 + (3 + 11) + rm_J5_append_cf1ce_AA.locals ≤ R.locals) (hf : kc + 1 ≤ R.cells ∧ ks + 1400 ≤ R.slots) (hst : (st.map fun v => v.category).sum ≤ 8) (d : decode cc pc = .ok (.invokespecial 29, 3)) (h : zk M b = 16 ∧ w_J5_append_cf1ce_AA M b y0 P) (kk : ∀ r M', P r M' → J p l e R s m args below meth c Q E nL M' (kc + 1) (ks + 1400) (pc + 3) lo (va_rf r :: st)) : J p l e R s m args below meth c Q E nL M kc ks pc lo (.ref y0 :: .ref b :: st) :=
  j_cSU_N (n := 1) (As := [.ref y0]) C co_J4 h.1 (c_J5_append_cf1ce_AA l E M b y0 P h.2) (k_cs C wd_422 wd_420 wd_1384 wd_328 wd_421 wd_45 (by decide) (by decide +kernel) rfl rfl hR) hf rfl hst d kk
abbrev rm_J4_append_15ec4_AA : Room := { frames := 5, cells := 1, slots := 1400, locals := 127 }
def w_J4_append_15ec4_AA (M : Mm) (x0 : Nat) (x1 : Nat) (P : Option Nat → Mm → Prop) : Prop := zk M x0 = 16 ∧ w_J5_append_cf1ce_AA M x0 x1 (fun r1 M1 => ∃ a1, r1 = some a1 ∧ P (some x0) M1)
set_option maxHeartbeats 4000000 in
set_option maxRecDepth 100000 in
theorem c_J4_append_15ec4_AA (l : Launch) (E : EV) (M : Mm) (x0 : Nat) (x1 : Nat) (P : Option Nat → Mm → Prop) (h : w_J4_append_15ec4_AA M x0 x1 P) : CtN l E yJ4_append_15ec4 cJ4_append_15ec4 2 (.object "java/lang/StringBuilder") rm_J4_append_15ec4_AA 1 1400 [.ref x0, .ref x1] M P := by
  refine ctN_of (by decide +kernel) (Nat.le_of_ble_eq_true rfl) ?_
  intro p e s m args below meth c C
  rw [w_J4_append_15ec4_AA] at h
  show J p l e rm_J4_append_15ec4_AA s m args below meth c (QN below E P args s 1 1400) E 2 M 0 0 0 [(0, .ref x0), (1, .ref x1)] []
  refine j_aload_n (pc := 0) C 0 dJ4_append_15ec4_0 rfl ?_
  refine j_aload_n (pc := 1) C 1 dJ4_append_15ec4_1 rfl ?_
  refine c2_J4_29_AA (pc := 2) C ⟨(Nat.le_of_ble_eq_true rfl), (Nat.le_of_ble_eq_true rfl)⟩ ⟨Nat.le_of_ble_eq_true rfl, Nat.le_of_ble_eq_true rfl⟩ (Nat.le_of_ble_eq_true rfl) dJ4_append_15ec4_2 h (fun r1 M1 h => ?_)
  obtain ⟨a1, rfl, h⟩ := h
  refine j_pop (pc := 5) C dJ4_append_15ec4_5 rfl ?_
  refine j_aload_n (pc := 6) C 0 dJ4_append_15ec4_6 rfl ?_
  exact j_nret (pc := 7) (some x0) (Or.inl ⟨_, rfl⟩) C dJ4_append_15ec4_7 (Nat.le_of_ble_eq_true rfl) (Nat.le_of_ble_eq_true rfl) h
theorem c2_J4_50 (C : Cx p l s m args meth c cc nL RJ4 ret E) {b : Nat} {y0 : Int32} {P : Option Nat → Mm → Prop} (hR : rm_J5_append_3fe6f.frames + 1 ≤ R.frames ∧ 8 + (2 + 11) + rm_J5_append_3fe6f.locals ≤ R.locals) (hf : kc + 1 ≤ R.cells ∧ ks + 1400 ≤ R.slots) (hst : (st.map fun v => v.category).sum ≤ 8) (d : decode cc pc = .ok (.invokespecial 50, 3)) (h : zk M b = 16 ∧ w_J5_append_3fe6f M b y0 P) (kk : ∀ r M', P r M' → J p l e R s m args below meth c Q E nL M' (kc + 1) (ks + 1400) (pc + 3) lo (va_rf r :: st)) : J p l e R s m args below meth c Q E nL M kc ks pc lo (.int y0 :: .ref b :: st) :=
  j_cSU_N (n := 1) (As := [.int y0]) C co_J4 h.1 (c_J5_append_3fe6f l E M b y0 P h.2) (k_cs C wd_567 wd_565 wd_1392 wd_328 wd_566 wd_45 (by decide) (by decide +kernel) rfl rfl hR) hf rfl hst d kk
abbrev rm_J4_append_cf468 : Room := { frames := 5, cells := 1, slots := 1400, locals := 125 }
def w_J4_append_cf468 (M : Mm) (x0 : Nat) (x1 : Int32) (P : Option Nat → Mm → Prop) : Prop := zk M x0 = 16 ∧ w_J5_append_3fe6f M x0 x1 (fun r1 M1 => ∃ a1, r1 = some a1 ∧ P (some x0) M1)
set_option maxHeartbeats 4000000 in
set_option maxRecDepth 100000 in
theorem c_J4_append_cf468 (l : Launch) (E : EV) (M : Mm) (x0 : Nat) (x1 : Int32) (P : Option Nat → Mm → Prop) (h : w_J4_append_cf468 M x0 x1 P) : CtN l E yJ4_append_cf468 cJ4_append_cf468 2 (.object "java/lang/StringBuilder") rm_J4_append_cf468 1 1400 [.ref x0, .int x1] M P := by
  refine ctN_of (by decide +kernel) (Nat.le_of_ble_eq_true rfl) ?_
  intro p e s m args below meth c C
  rw [w_J4_append_cf468] at h
  show J p l e rm_J4_append_cf468 s m args below meth c (QN below E P args s 1 1400) E 2 M 0 0 0 [(0, .ref x0), (1, .int x1)] []
  refine j_aload_n (pc := 0) C 0 dJ4_append_cf468_0 rfl ?_
  refine j_iload_n (pc := 1) C 1 dJ4_append_cf468_1 rfl ?_
  refine c2_J4_50 (pc := 2) C ⟨(Nat.le_of_ble_eq_true rfl), (Nat.le_of_ble_eq_true rfl)⟩ ⟨Nat.le_of_ble_eq_true rfl, Nat.le_of_ble_eq_true rfl⟩ (Nat.le_of_ble_eq_true rfl) dJ4_append_cf468_2 h (fun r1 M1 h => ?_)
  obtain ⟨a1, rfl, h⟩ := h
  refine j_pop (pc := 5) C dJ4_append_cf468_5 rfl ?_
  refine j_aload_n (pc := 6) C 0 dJ4_append_cf468_6 rfl ?_
  exact j_nret (pc := 7) (some x0) (Or.inl ⟨_, rfl⟩) C dJ4_append_cf468_7 (Nat.le_of_ble_eq_true rfl) (Nat.le_of_ble_eq_true rfl) h
theorem c2_J4_53 (C : Cx p l s m args meth c cc nL RJ4 ret E) {b : Nat} {y0 : Int32} {P : Option Nat → Mm → Prop} (hR : rm_J5_append_c97b9.frames + 1 ≤ R.frames ∧ 8 + (4 + 11) + rm_J5_append_c97b9.locals ≤ R.locals) (hf : kc + 1 ≤ R.cells ∧ ks + 1400 ≤ R.slots) (hst : (st.map fun v => v.category).sum ≤ 8) (d : decode cc pc = .ok (.invokespecial 53, 3)) (h : zk M b = 16 ∧ w_J5_append_c97b9 M b y0 P) (kk : ∀ r M', P r M' → J p l e R s m args below meth c Q E nL M' (kc + 1) (ks + 1400) (pc + 3) lo (va_rf r :: st)) : J p l e R s m args below meth c Q E nL M kc ks pc lo (.int y0 :: .ref b :: st) :=
  j_cSU_N (n := 1) (As := [.int y0]) C co_J4 h.1 (c_J5_append_c97b9 l E M b y0 P h.2) (k_cs C wd_542 wd_540 wd_1391 wd_328 wd_541 wd_45 (by decide) (by decide +kernel) rfl rfl hR) hf rfl hst d kk
abbrev rm_J4_append_bf812 : Room := { frames := 5, cells := 1, slots := 1400, locals := 127 }
def w_J4_append_bf812 (M : Mm) (x0 : Nat) (x1 : Int32) (P : Option Nat → Mm → Prop) : Prop := zk M x0 = 16 ∧ w_J5_append_c97b9 M x0 x1 (fun r1 M1 => ∃ a1, r1 = some a1 ∧ P (some x0) M1)
set_option maxHeartbeats 4000000 in
set_option maxRecDepth 100000 in
theorem c_J4_append_bf812 (l : Launch) (E : EV) (M : Mm) (x0 : Nat) (x1 : Int32) (P : Option Nat → Mm → Prop) (h : w_J4_append_bf812 M x0 x1 P) : CtN l E yJ4_append_bf812 cJ4_append_bf812 2 (.object "java/lang/StringBuilder") rm_J4_append_bf812 1 1400 [.ref x0, .int x1] M P := by
  refine ctN_of (by decide +kernel) (Nat.le_of_ble_eq_true rfl) ?_
  intro p e s m args below meth c C
  rw [w_J4_append_bf812] at h
  show J p l e rm_J4_append_bf812 s m args below meth c (QN below E P args s 1 1400) E 2 M 0 0 0 [(0, .ref x0), (1, .int x1)] []
  refine j_aload_n (pc := 0) C 0 dJ4_append_bf812_0 rfl ?_
  refine j_iload_n (pc := 1) C 1 dJ4_append_bf812_1 rfl ?_
  refine c2_J4_53 (pc := 2) C ⟨(Nat.le_of_ble_eq_true rfl), (Nat.le_of_ble_eq_true rfl)⟩ ⟨Nat.le_of_ble_eq_true rfl, Nat.le_of_ble_eq_true rfl⟩ (Nat.le_of_ble_eq_true rfl) dJ4_append_bf812_2 h (fun r1 M1 h => ?_)
  obtain ⟨a1, rfl, h⟩ := h
  refine j_pop (pc := 5) C dJ4_append_bf812_5 rfl ?_
  refine j_aload_n (pc := 6) C 0 dJ4_append_bf812_6 rfl ?_
  exact j_nret (pc := 7) (some x0) (Or.inl ⟨_, rfl⟩) C dJ4_append_bf812_7 (Nat.le_of_ble_eq_true rfl) (Nat.le_of_ble_eq_true rfl) h
abbrev rm_J5_init_d00df : Room := { frames := 1, cells := 1, slots := 8, locals := 20 }
def w_J5_init_d00df (M : Mm) (x0 : Nat) (x1 : Int32) (P : Mm → Prop) : Prop := ¬ x1 < 0 ∧ x1.toNatClampNeg ≤ 8 ∧ (∀ a1 M1, a1 = zn M → M1 = sN M 9 x1.toNatClampNeg → zk M1 x0 = 16 ∧ (∀ M2, M2 = sR M1 x0 0 (some a1) → zk M2 x0 = 16 ∧ (narrow .byte (.int (0 : Int32)) = .int (0 : Int32) ∧ fits .byte (.int (0 : Int32)) = true) ∧ (∀ M3, M3 = sI M2 x0 1 (0 : Int32) → P M3)))
set_option maxHeartbeats 4000000 in
set_option maxRecDepth 100000 in
theorem c_J5_init_d00df (l : Launch) (E : EV) (M : Mm) (x0 : Nat) (x1 : Int32) (P : Mm → Prop) (h : w_J5_init_d00df M x0 x1 P) : CtV l E yJ5_init_d00df cJ5_init_d00df 2 rm_J5_init_d00df 1 8 [.ref x0, .int x1] M P := by
  refine ctV_of (by decide +kernel) (Nat.le_of_ble_eq_true rfl) ?_
  intro p e s m args below meth c C hnm
  rw [w_J5_init_d00df] at h
  show J p l e rm_J5_init_d00df s m args below meth c (QV below E P args s 1 8) E 2 M 0 0 0 [(0, .ref x0), (1, .int x1)] []
  refine j_aload_n (pc := 0) C 0 dJ5_init_d00df_0 rfl ?_
  refine j_objInit (pc := 1) C wd_306 wd_72 wd_73 dJ5_init_d00df_1 (Nat.le_of_ble_eq_true rfl) (Nat.le_of_ble_eq_true rfl) ?_
  refine j_scs (pc := 4) C wd_307 dJ5_init_d00df_4 ?_
  refine j_if_eq (pc := 7) (A := False) (B := True) C 25 dJ5_init_d00df_7 (by decide) (by first | rw [if_pos (by decide)] ; trivial | rw [if_neg (by decide)] ; trivial) (fun z => z.elim) (fun _ => ?_)
  refine j_aload_n (pc := 10) C 0 dJ5_init_d00df_10 rfl ?_
  refine j_iload_n (pc := 11) C 1 dJ5_init_d00df_11 rfl ?_
  refine n_newb (pc := 12) C 8 wd_91 dJ5_init_d00df_12 (Nat.le_of_ble_eq_true rfl) (Nat.le_of_ble_eq_true rfl) (Nat.le_of_ble_eq_true rfl) h (fun a1 M1 h => ?_)
  refine pf_J5_15 (pc := 14) C dJ5_init_d00df_14 h (fun M2 h => ?_)
  refine j_aload_n (pc := 17) C 0 dJ5_init_d00df_17 rfl ?_
  refine j_iconst (pc := 18) (v := (0 : Int32)) C dJ5_init_d00df_18 rfl ?_
  refine pf_J5_22 (pc := 19) C dJ5_init_d00df_19 h (fun M3 h => ?_)
  refine j_goto (pc := 22) C 38 dJ5_init_d00df_22 (by decide) ?_
  exact j_vret (pc := 38) C dJ5_init_d00df_38 (Nat.le_of_ble_eq_true rfl) (Nat.le_of_ble_eq_true rfl) h
theorem c2_J4_1 (C : Cx p l s m args meth c cc nL RJ4 ret E) {b : Nat} {y0 : Int32} {P : Mm → Prop} (hR : rm_J5_init_d00df.frames + 1 ≤ R.frames ∧ 8 + (2 + 11) + rm_J5_init_d00df.locals ≤ R.locals) (hf : kc + 1 ≤ R.cells ∧ ks + 8 ≤ R.slots) (hst : (st.map fun v => v.category).sum ≤ 8) (d : decode cc pc = .ok (.invokespecial 1, 3)) (h : w_J5_init_d00df M b y0 P) (kk : ∀ M', P M' → J p l e R s m args below meth c Q E nL M' (kc + 1) (ks + 8) (pc + 3) lo st) : J p l e R s m args below meth c Q E nL M kc ks pc lo (.int y0 :: .ref b :: st) :=
  j_cI_V (n := 1) (As := [.int y0]) C rfl wd_304 (c_J5_init_d00df l E M b y0 P h) ⟨wd_305, wd_303, wd_45, by decide +kernel, by decide +kernel, by decide +kernel⟩ rfl rfl hR hf rfl hst d kk
abbrev rm_J4_init_da8c8 : Room := { frames := 2, cells := 1, slots := 8, locals := 41 }
def w_J4_init_da8c8 (M : Mm) (x0 : Nat) (P : Mm → Prop) : Prop := w_J5_init_d00df M x0 (16 : Int32) (fun M1 => P M1)
set_option maxHeartbeats 4000000 in
set_option maxRecDepth 100000 in
theorem c_J4_init_da8c8 (l : Launch) (E : EV) (M : Mm) (x0 : Nat) (P : Mm → Prop) (h : w_J4_init_da8c8 M x0 P) : CtV l E yJ4_init_da8c8 cJ4_init_da8c8 1 rm_J4_init_da8c8 1 8 [.ref x0] M P := by
  refine ctV_of (by decide +kernel) (Nat.le_of_ble_eq_true rfl) ?_
  intro p e s m args below meth c C hnm
  rw [w_J4_init_da8c8] at h
  show J p l e rm_J4_init_da8c8 s m args below meth c (QV below E P args s 1 8) E 1 M 0 0 0 [(0, .ref x0)] []
  refine j_aload_n (pc := 0) C 0 dJ4_init_da8c8_0 rfl ?_
  refine j_bipush (pc := 1) (v := (16 : Int32)) C dJ4_init_da8c8_1 rfl ?_
  refine c2_J4_1 (pc := 3) C ⟨(Nat.le_of_ble_eq_true rfl), (Nat.le_of_ble_eq_true rfl)⟩ ⟨Nat.le_of_ble_eq_true rfl, Nat.le_of_ble_eq_true rfl⟩ (Nat.le_of_ble_eq_true rfl) dJ4_init_da8c8_3 h (fun M1 h => ?_)
  exact j_vret (pc := 6) C dJ4_init_da8c8_6 (Nat.le_of_ble_eq_true rfl) (Nat.le_of_ble_eq_true rfl) h
abbrev rm_J5_getValue_6d5f1 : Room := { frames := 0, cells := 0, slots := 0, locals := 0 }
def w_J5_getValue_6d5f1 (M : Mm) (x0 : Nat) (P : Option Nat → Mm → Prop) : Prop := (zk M x0 = 16 ∧ ∃ a1, zR M x0 0 = some a1 ∧ P (some a1) M)
set_option maxHeartbeats 4000000 in
set_option maxRecDepth 100000 in
theorem c_J5_getValue_6d5f1 (l : Launch) (E : EV) (M : Mm) (x0 : Nat) (P : Option Nat → Mm → Prop) (h : w_J5_getValue_6d5f1 M x0 P) : CtN l E yJ5_getValue_6d5f1 cJ5_getValue_6d5f1 1 (.array .byte) rm_J5_getValue_6d5f1 0 0 [.ref x0] M P := by
  refine ctN_of (by decide +kernel) (Nat.le_of_ble_eq_true rfl) ?_
  intro p e s m args below meth c C
  rw [w_J5_getValue_6d5f1] at h
  show J p l e rm_J5_getValue_6d5f1 s m args below meth c (QN below E P args s 0 0) E 1 M 0 0 0 [(0, .ref x0)] []
  refine j_aload_n (pc := 0) C 0 dJ5_getValue_6d5f1_0 rfl ?_
  refine gf_J5_15 (pc := 1) C dJ5_getValue_6d5f1_1 h (fun a1 h => ?_)
  exact j_nret (pc := 4) (some a1) (Or.inr ⟨_, rfl⟩) C dJ5_getValue_6d5f1_4 (Nat.le_of_ble_eq_true rfl) (Nat.le_of_ble_eq_true rfl) h
abbrev rm_J5_length_8abf5 : Room := { frames := 0, cells := 0, slots := 0, locals := 0 }
def w_J5_length_8abf5 (M : Mm) (x0 : Nat) (P : Int32 → Mm → Prop) : Prop := zk M x0 = 16 ∧ P (zI M x0 3) M
set_option maxHeartbeats 4000000 in
set_option maxRecDepth 100000 in
theorem c_J5_length_8abf5 (l : Launch) (E : EV) (M : Mm) (x0 : Nat) (P : Int32 → Mm → Prop) (h : w_J5_length_8abf5 M x0 P) : CtI l E yJ5_length_8abf5 cJ5_length_8abf5 1 .int rm_J5_length_8abf5 0 0 [.ref x0] M P := by
  refine ctI_of (by decide +kernel) (Nat.le_of_ble_eq_true rfl) ?_
  intro p e s m args below meth c C
  rw [w_J5_length_8abf5] at h
  show J p l e rm_J5_length_8abf5 s m args below meth c (QI below E P args s 0 0) E 1 M 0 0 0 [(0, .ref x0)] []
  refine j_aload_n (pc := 0) C 0 dJ5_length_8abf5_0 rfl ?_
  refine gf_J5_79 (pc := 1) C dJ5_length_8abf5_1 h (fun h => ?_)
  exact j_iret (pc := 4) C dJ5_length_8abf5_4 (Nat.le_of_ble_eq_true rfl) (Nat.le_of_ble_eq_true rfl) h
theorem c2_J4_343 (C : Cx p l s m args meth c cc nL RJ4 ret E) {b : Nat} {P : Int32 → Mm → Prop} (hR : rm_J5_length_8abf5.frames + 1 ≤ R.frames ∧ 8 + (1 + 11) + rm_J5_length_8abf5.locals ≤ R.locals) (hf : kc ≤ R.cells ∧ ks ≤ R.slots) (hst : (st.map fun v => v.category).sum ≤ 8) (d : decode cc pc = .ok (.invokespecial 343, 3)) (h : zk M b = 16 ∧ w_J5_length_8abf5 M b P) (kk : ∀ r M', P r M' → J p l e R s m args below meth c Q E nL M' kc ks (pc + 3) lo (.int r :: st)) : J p l e R s m args below meth c Q E nL M kc ks pc lo (.ref b :: st) :=
  j_cSU_I (n := 0) (As := []) C co_J4 h.1 (c_J5_length_8abf5 l E M b P h.2) (k_cs C wd_643 wd_642 wd_638 wd_328 wd_637 wd_45 (by decide) (by decide +kernel) rfl rfl hR) hf rfl hst d kk
abbrev rm_J4_length_8abf5 : Room := { frames := 1, cells := 0, slots := 0, locals := 20 }
def w_J4_length_8abf5 (M : Mm) (x0 : Nat) (P : Int32 → Mm → Prop) : Prop := zk M x0 = 16 ∧ w_J5_length_8abf5 M x0 (fun r1 M1 => P r1 M1)
set_option maxHeartbeats 4000000 in
set_option maxRecDepth 100000 in
theorem c_J4_length_8abf5 (l : Launch) (E : EV) (M : Mm) (x0 : Nat) (P : Int32 → Mm → Prop) (h : w_J4_length_8abf5 M x0 P) : CtI l E yJ4_length_8abf5 cJ4_length_8abf5 1 .int rm_J4_length_8abf5 0 0 [.ref x0] M P := by
  refine ctI_of (by decide +kernel) (Nat.le_of_ble_eq_true rfl) ?_
  intro p e s m args below meth c C
  rw [w_J4_length_8abf5] at h
  show J p l e rm_J4_length_8abf5 s m args below meth c (QI below E P args s 0 0) E 1 M 0 0 0 [(0, .ref x0)] []
  refine j_aload_n (pc := 0) C 0 dJ4_length_8abf5_0 rfl ?_
  refine c2_J4_343 (pc := 1) C ⟨(Nat.le_of_ble_eq_true rfl), (Nat.le_of_ble_eq_true rfl)⟩ ⟨Nat.le_of_ble_eq_true rfl, Nat.le_of_ble_eq_true rfl⟩ (Nat.le_of_ble_eq_true rfl) dJ4_length_8abf5_1 h (fun r1 M1 h => ?_)
  exact j_iret (pc := 4) C dJ4_length_8abf5_4 (Nat.le_of_ble_eq_true rfl) (Nat.le_of_ble_eq_true rfl) h
abbrev rm_J7_checkLength_df160 : Room := { frames := 0, cells := 0, slots := 0, locals := 0 }
def w_J7_checkLength_df160 (M : Mm) (x0 : Int32) (x1 : Int32) (P : Mm → Prop) : Prop := (if x0 ≤ x1 then P M else False)
set_option maxHeartbeats 4000000 in
set_option maxRecDepth 100000 in
theorem c_J7_checkLength_df160 (l : Launch) (E : EV) (M : Mm) (x0 : Int32) (x1 : Int32) (P : Mm → Prop) (h : w_J7_checkLength_df160 M x0 x1 P) : CtV l E yJ7_checkLength_df160 cJ7_checkLength_df160 2 rm_J7_checkLength_df160 0 0 [.int x0, .int x1] M P := by
  refine ctV_of (by decide +kernel) (Nat.le_of_ble_eq_true rfl) ?_
  intro p e s m args below meth c C hnm
  rw [w_J7_checkLength_df160] at h
  show J p l e rm_J7_checkLength_df160 s m args below meth c (QV below E P args s 0 0) E 2 M 0 0 0 [(0, .int x0), (1, .int x1)] []
  refine j_iload_n (pc := 0) C 1 dJ7_checkLength_df160_0 rfl ?_
  refine j_iload_n (pc := 1) C 0 dJ7_checkLength_df160_1 rfl ?_
  refine j_icmp_ge (pc := 2) C 37 dJ7_checkLength_df160_2 (by decide) h (fun h => ?_) (fun h => ?_)
  · exact j_vret (pc := 37) C dJ7_checkLength_df160_37 (Nat.le_of_ble_eq_true rfl) (Nat.le_of_ble_eq_true rfl) h
  · exact h.elim
theorem c2_J7_343 (C : Cx p l s m args meth c cc nL RJ7 ret E) {y0 : Int32} {y1 : Int32} {P : Mm → Prop} (hR : rm_J7_checkLength_df160.frames + 1 ≤ R.frames ∧ 8 + (2 + 11) + rm_J7_checkLength_df160.locals ≤ R.locals) (hf : kc ≤ R.cells ∧ ks ≤ R.slots) (hst : (st.map fun v => v.category).sum ≤ 8) (d : decode cc pc = .ok (.invokestatic 343, 3)) (h : w_J7_checkLength_df160 M y0 y1 P) (kk : ∀ M', P M' → J p l e R s m args below meth c Q E nL M' kc ks (pc + 3) lo st) : J p l e R s m args below meth c Q E nL M kc ks pc lo (.int y1 :: .int y0 :: st) :=
  j_cS_V (n := 2) (As := [.int y0, .int y1]) C wd_652 (c_J7_checkLength_df160 l E M y0 y1 P h) ⟨wd_653, wd_651, wd_52, by decide +kernel, by decide +kernel, by decide +kernel⟩ rfl rfl hR hf rfl hst d kk
abbrev rm_J7_copyOfRangeByte_39247 : Room := { frames := 1, cells := 1, slots := 700, locals := 60 }
def w_J7_copyOfRangeByte_39247 (M : Mm) (x0 : Nat) (x1 : Int32) (x2 : Int32) (P : Option Nat → Mm → Prop) : Prop := w_J7_checkLength_df160 M x1 x2 (fun M1 => ¬ (x2 - x1) < 0 ∧ (x2 - x1).toNatClampNeg ≤ 700 ∧ (∀ a2 M2, a2 = zn M1 → M2 = sN M1 9 (x2 - x1).toNatClampNeg → zk M2 x0 = 9 ∧ zk M2 x0 = 9 ∧ zk M2 a2 = 9 ∧ ¬ x1 < 0 ∧ ¬ (0 : Int32) < 0 ∧ ¬ (if (x2 - x1) < ((nI (zl M2 x0)) - x1) then (x2 - x1) else ((nI (zl M2 x0)) - x1)) < 0 ∧ x1.toNatClampNeg + (if (x2 - x1) < ((nI (zl M2 x0)) - x1) then (x2 - x1) else ((nI (zl M2 x0)) - x1)).toNatClampNeg ≤ zl M2 x0 ∧ (0 : Int32).toNatClampNeg + (if (x2 - x1) < ((nI (zl M2 x0)) - x1) then (x2 - x1) else ((nI (zl M2 x0)) - x1)).toNatClampNeg ≤ zl M2 a2 ∧ (∀ i, i < (if (x2 - x1) < ((nI (zl M2 x0)) - x1) then (x2 - x1) else ((nI (zl M2 x0)) - x1)).toNatClampNeg → fits .byte (.int (zI M2 x0 (x1.toNatClampNeg + i))) = true) ∧ (∀ M3, M3 = sC M2 x0 x1.toNatClampNeg a2 (0 : Int32).toNatClampNeg (if (x2 - x1) < ((nI (zl M2 x0)) - x1) then (x2 - x1) else ((nI (zl M2 x0)) - x1)).toNatClampNeg → P (some a2) M3)))
set_option maxHeartbeats 4000000 in
set_option maxRecDepth 100000 in
theorem c_J7_copyOfRangeByte_39247 (l : Launch) (E : EV) (M : Mm) (x0 : Nat) (x1 : Int32) (x2 : Int32) (P : Option Nat → Mm → Prop) (h : w_J7_copyOfRangeByte_39247 M x0 x1 x2 P) : CtN l E yJ7_copyOfRangeByte_39247 cJ7_copyOfRangeByte_39247 5 (.array .byte) rm_J7_copyOfRangeByte_39247 1 700 [.ref x0, .int x1, .int x2] M P := by
  refine ctN_of (by decide +kernel) (Nat.le_of_ble_eq_true rfl) ?_
  intro p e s m args below meth c C
  rw [w_J7_copyOfRangeByte_39247] at h
  show J p l e rm_J7_copyOfRangeByte_39247 s m args below meth c (QN below E P args s 1 700) E 5 M 0 0 0 [(0, .ref x0), (1, .int x1), (2, .int x2)] []
  refine j_iload_n (pc := 0) C 1 dJ7_copyOfRangeByte_39247_0 rfl ?_
  refine j_iload_n (pc := 1) C 2 dJ7_copyOfRangeByte_39247_1 rfl ?_
  refine c2_J7_343 (pc := 2) C ⟨(Nat.le_of_ble_eq_true rfl), (Nat.le_of_ble_eq_true rfl)⟩ ⟨Nat.le_of_ble_eq_true rfl, Nat.le_of_ble_eq_true rfl⟩ (Nat.le_of_ble_eq_true rfl) dJ7_copyOfRangeByte_39247_2 h (fun M1 h => ?_)
  refine j_iload_n (pc := 5) C 2 dJ7_copyOfRangeByte_39247_5 rfl ?_
  refine j_iload_n (pc := 6) C 1 dJ7_copyOfRangeByte_39247_6 rfl ?_
  refine j_isub (pc := 7) C dJ7_copyOfRangeByte_39247_7 ?_
  refine j_istore_n (pc := 8) C [(3, _), (0, _), (1, _), (2, _)] dJ7_copyOfRangeByte_39247_8 (by decide) rfl ?_
  refine j_iload_n (pc := 9) C 0 dJ7_copyOfRangeByte_39247_9 rfl ?_
  refine n_newb (pc := 10) C 700 wd_91 dJ7_copyOfRangeByte_39247_10 (Nat.le_of_ble_eq_true rfl) (Nat.le_of_ble_eq_true rfl) (Nat.le_of_ble_eq_true rfl) h (fun a2 M2 h => ?_)
  refine j_astore (pc := 12) C [(4, _), (3, _), (0, _), (1, _), (2, _)] dJ7_copyOfRangeByte_39247_12 (by decide) rfl ?_
  refine j_aload_n (pc := 14) C 2 dJ7_copyOfRangeByte_39247_14 rfl ?_
  refine j_iload_n (pc := 15) C 3 dJ7_copyOfRangeByte_39247_15 rfl ?_
  refine j_aload (pc := 16) C 0 dJ7_copyOfRangeByte_39247_16 rfl ?_
  refine j_iconst (pc := 18) (v := (0 : Int32)) C dJ7_copyOfRangeByte_39247_18 rfl ?_
  refine j_aload_n (pc := 19) C 2 dJ7_copyOfRangeByte_39247_19 rfl ?_
  refine j_alen (pc := 20) (k := 9) C (by decide) dJ7_copyOfRangeByte_39247_20 h (fun h => ?_)
  refine j_iload_n (pc := 21) C 3 dJ7_copyOfRangeByte_39247_21 rfl ?_
  refine j_isub (pc := 22) C dJ7_copyOfRangeByte_39247_22 ?_
  refine j_iload_n (pc := 23) C 1 dJ7_copyOfRangeByte_39247_23 rfl ?_
  refine j_mmin (pc := 24) C wd_456 wd_457 wd_51 wd_458 dJ7_copyOfRangeByte_39247_24 (Nat.le_of_ble_eq_true rfl) (Nat.le_of_ble_eq_true rfl) ⟨Nat.le_of_ble_eq_true rfl, Nat.le_of_ble_eq_true rfl⟩ ?_
  refine n_copyb (pc := 27) C wd_459 wd_461 wd_460 wd_53 dJ7_copyOfRangeByte_39247_27 (Nat.le_of_ble_eq_true rfl) (Nat.le_of_ble_eq_true rfl) h (fun M3 h => ?_)
  refine j_aload (pc := 30) C 0 dJ7_copyOfRangeByte_39247_30 rfl ?_
  exact j_nret (pc := 32) (some a2) (Or.inr ⟨_, rfl⟩) C dJ7_copyOfRangeByte_39247_32 (Nat.le_of_ble_eq_true rfl) (Nat.le_of_ble_eq_true rfl) h
theorem c2_J7_339 (C : Cx p l s m args meth c cc nL RJ7 ret E) {y0 : Nat} {y1 : Int32} {y2 : Int32} {P : Option Nat → Mm → Prop} (hR : rm_J7_copyOfRangeByte_39247.frames + 1 ≤ R.frames ∧ 8 + (5 + 11) + rm_J7_copyOfRangeByte_39247.locals ≤ R.locals) (hf : kc + 1 ≤ R.cells ∧ ks + 700 ≤ R.slots) (hst : (st.map fun v => v.category).sum ≤ 8) (d : decode cc pc = .ok (.invokestatic 339, 3)) (h : w_J7_copyOfRangeByte_39247 M y0 y1 y2 P) (kk : ∀ r M', P r M' → J p l e R s m args below meth c Q E nL M' (kc + 1) (ks + 700) (pc + 3) lo (va_rf r :: st)) : J p l e R s m args below meth c Q E nL M kc ks pc lo (.int y2 :: .int y1 :: .ref y0 :: st) :=
  j_cS_N (n := 3) (As := [.ref y0, .int y1, .int y2]) C wd_649 (c_J7_copyOfRangeByte_39247 l E M y0 y1 y2 P h) ⟨wd_650, wd_648, wd_52, by decide +kernel, by decide +kernel, by decide +kernel⟩ rfl rfl hR hf rfl hst d kk
abbrev rm_J7_copyOfRange_39247 : Room := { frames := 2, cells := 1, slots := 700, locals := 84 }
def w_J7_copyOfRange_39247 (M : Mm) (x0 : Nat) (x1 : Int32) (x2 : Int32) (P : Option Nat → Mm → Prop) : Prop := (if x1 = 0 then zk M x0 = 9 ∧ (if x2 = (nI (zl M x0)) then zk M x0 = 9 ∧ zl M x0 ≤ 700 ∧ (∀ i, i < zl M x0 → fits .byte (.int (zI M x0 i)) = true) ∧ (∀ a2 M2, a2 = zn M → M2 = sK M x0 → zk M2 a2 = 9 ∧ P (some a2) M2) else w_J7_copyOfRangeByte_39247 M x0 x1 x2 (fun r3 M3 => ∃ a3, r3 = some a3 ∧ P (some a3) M3)) else w_J7_copyOfRangeByte_39247 M x0 x1 x2 (fun r1 M1 => ∃ a1, r1 = some a1 ∧ P (some a1) M1))
set_option maxHeartbeats 4000000 in
set_option maxRecDepth 100000 in
theorem c_J7_copyOfRange_39247 (l : Launch) (E : EV) (M : Mm) (x0 : Nat) (x1 : Int32) (x2 : Int32) (P : Option Nat → Mm → Prop) (h : w_J7_copyOfRange_39247 M x0 x1 x2 P) : CtN l E yJ7_copyOfRange_39247 cJ7_copyOfRange_39247 3 (.array .byte) rm_J7_copyOfRange_39247 1 700 [.ref x0, .int x1, .int x2] M P := by
  refine ctN_of (by decide +kernel) (Nat.le_of_ble_eq_true rfl) ?_
  intro p e s m args below meth c C
  rw [w_J7_copyOfRange_39247] at h
  show J p l e rm_J7_copyOfRange_39247 s m args below meth c (QN below E P args s 1 700) E 3 M 0 0 0 [(0, .ref x0), (1, .int x1), (2, .int x2)] []
  refine j_iload_n (pc := 0) C 1 dJ7_copyOfRange_39247_0 rfl ?_
  refine j_if_ne (pc := 1) C 10 dJ7_copyOfRange_39247_1 (by decide) h (fun h => ?_) (fun h => ?_)
  · refine j_aload_n (pc := 10) C 0 dJ7_copyOfRange_39247_10 rfl ?_
    refine j_iload_n (pc := 11) C 1 dJ7_copyOfRange_39247_11 rfl ?_
    refine j_iload_n (pc := 12) C 2 dJ7_copyOfRange_39247_12 rfl ?_
    refine c2_J7_339 (pc := 13) C ⟨(Nat.le_of_ble_eq_true rfl), (Nat.le_of_ble_eq_true rfl)⟩ ⟨Nat.le_of_ble_eq_true rfl, Nat.le_of_ble_eq_true rfl⟩ (Nat.le_of_ble_eq_true rfl) dJ7_copyOfRange_39247_13 h (fun r1 M1 h => ?_)
    obtain ⟨a1, rfl, h⟩ := h
    exact j_nret (pc := 16) (some a1) (Or.inr ⟨_, rfl⟩) C dJ7_copyOfRange_39247_16 (Nat.le_of_ble_eq_true rfl) (Nat.le_of_ble_eq_true rfl) h
  · refine j_iload_n (pc := 4) C 2 dJ7_copyOfRange_39247_4 rfl ?_
    refine j_aload_n (pc := 5) C 0 dJ7_copyOfRange_39247_5 rfl ?_
    refine j_alen (pc := 6) (k := 9) C (by decide) dJ7_copyOfRange_39247_6 h (fun h => ?_)
    refine j_icmp_eq (pc := 7) C 17 dJ7_copyOfRange_39247_7 (by decide) h (fun h => ?_) (fun h => ?_)
    · refine j_aload_n (pc := 17) C 0 dJ7_copyOfRange_39247_17 rfl ?_
      refine n_cloneb (pc := 18) C 700 wd_449 wd_450 wd_451 wd_452 wd_453 nw_454 dJ7_copyOfRange_39247_18 (Nat.le_of_ble_eq_true rfl) (Nat.le_of_ble_eq_true rfl) (Nat.le_of_ble_eq_true rfl) (Nat.le_of_ble_eq_true rfl) h (fun a2 M2 h => ?_)
      refine j_castB (pc := 21) C wd_455 dJ7_copyOfRange_39247_21 h (fun h => ?_)
      exact j_nret (pc := 24) (some a2) (Or.inr ⟨_, rfl⟩) C dJ7_copyOfRange_39247_24 (Nat.le_of_ble_eq_true rfl) (Nat.le_of_ble_eq_true rfl) h
    · refine j_aload_n (pc := 10) C 0 dJ7_copyOfRange_39247_10 rfl ?_
      refine j_iload_n (pc := 11) C 1 dJ7_copyOfRange_39247_11 rfl ?_
      refine j_iload_n (pc := 12) C 2 dJ7_copyOfRange_39247_12 rfl ?_
      refine c2_J7_339 (pc := 13) C ⟨(Nat.le_of_ble_eq_true rfl), (Nat.le_of_ble_eq_true rfl)⟩ ⟨Nat.le_of_ble_eq_true rfl, Nat.le_of_ble_eq_true rfl⟩ (Nat.le_of_ble_eq_true rfl) dJ7_copyOfRange_39247_13 h (fun r3 M3 h => ?_)
      obtain ⟨a3, rfl, h⟩ := h
      exact j_nret (pc := 16) (some a3) (Or.inr ⟨_, rfl⟩) C dJ7_copyOfRange_39247_16 (Nat.le_of_ble_eq_true rfl) (Nat.le_of_ble_eq_true rfl) h
theorem c2_J0_54 (C : Cx p l s m args meth c cc nL RJ0 ret E) {y0 : Nat} {y1 : Int32} {y2 : Int32} {P : Option Nat → Mm → Prop} (hR : rm_J7_copyOfRange_39247.frames + 1 ≤ R.frames ∧ 8 + (3 + 11) + rm_J7_copyOfRange_39247.locals ≤ R.locals) (hf : kc + 1 ≤ R.cells ∧ ks + 700 ≤ R.slots) (hst : (st.map fun v => v.category).sum ≤ 8) (d : decode cc pc = .ok (.invokestatic 54, 3)) (h : w_J7_copyOfRange_39247 M y0 y1 y2 P) (kk : ∀ r M', P r M' → J p l e R s m args below meth c Q E nL M' (kc + 1) (ks + 700) (pc + 3) lo (va_rf r :: st)) : J p l e R s m args below meth c Q E nL M kc ks pc lo (.int y2 :: .int y1 :: .ref y0 :: st) :=
  j_cS_N (n := 3) (As := [.ref y0, .int y1, .int y2]) C wd_646 (c_J7_copyOfRange_39247 l E M y0 y1 y2 P h) ⟨wd_647, wd_645, wd_52, by decide +kernel, by decide +kernel, by decide +kernel⟩ rfl rfl hR hf rfl hst d kk
theorem c2_J0_549 (C : Cx p l s m args meth c cc nL RJ0 ret E) {b : Nat} {P : Int32 → Mm → Prop} (hR : rm_J4_length_8abf5.frames + 1 ≤ R.frames ∧ 8 + (1 + 11) + rm_J4_length_8abf5.locals ≤ R.locals) (hf : kc ≤ R.cells ∧ ks ≤ R.slots) (hst : (st.map fun v => v.category).sum ≤ 8) (d : decode cc pc = .ok (.invokevirtual 549, 3)) (h : zk M b = 16 ∧ w_J4_length_8abf5 M b P) (kk : ∀ r M', P r M' → J p l e R s m args below meth c Q E nL M' kc ks (pc + 3) lo (.int r :: st)) : J p l e R s m args below meth c Q E nL M kc ks pc lo (.ref b :: st) :=
  j_cU_I (n := 0) (As := []) C co_J4 h.1 (c_J4_length_8abf5 l E M b P h.2) (k_cu C wd_641 wd_636 wd_638 wd_46 wd_640 (C.2.2.2.2.1 _ wd_639) rfl wd_637 wd_643 (by decide +kernel) rfl rfl hR) hf rfl hst d kk
theorem c2_J0_552 (C : Cx p l s m args meth c cc nL RJ0 ret E) {b : Nat} {P : Option Nat → Mm → Prop} (hR : rm_J5_getValue_6d5f1.frames + 1 ≤ R.frames ∧ 8 + (1 + 11) + rm_J5_getValue_6d5f1.locals ≤ R.locals) (hf : kc ≤ R.cells ∧ ks ≤ R.slots) (hst : (st.map fun v => v.category).sum ≤ 8) (d : decode cc pc = .ok (.invokevirtual 552, 3)) (h : zk M b = 16 ∧ w_J5_getValue_6d5f1 M b P) (kk : ∀ r M', P r M' → J p l e R s m args below meth c Q E nL M' kc ks (pc + 3) lo (va_rf r :: st)) : J p l e R s m args below meth c Q E nL M kc ks pc lo (.ref b :: st) :=
  j_cU_N (n := 0) (As := []) C co_J4 h.1 (c_J5_getValue_6d5f1 l E M b P h.2) (k_cu C wd_635 wd_631 wd_633 wd_45 wd_632 (C.2.2.2.2.1 _ wd_634) rfl wd_632 wd_635 (by decide +kernel) rfl rfl hR) hf rfl hst d kk
theorem c2_J0_1047 (C : Cx p l s m args meth c cc nL RJ0 ret E) {b : Nat} {P : Int32 → Mm → Prop} (hR : rm_J5_isLatin1_aae02.frames + 1 ≤ R.frames ∧ 8 + (1 + 11) + rm_J5_isLatin1_aae02.locals ≤ R.locals) (hf : kc ≤ R.cells ∧ ks ≤ R.slots) (hst : (st.map fun v => v.category).sum ≤ 8) (d : decode cc pc = .ok (.invokevirtual 1047, 3)) (h : zk M b = 16 ∧ w_J5_isLatin1_aae02 M b P) (kk : ∀ r M', P r M' → J p l e R s m args below meth c Q E nL M' kc ks (pc + 3) lo (.int r :: st)) : J p l e R s m args below meth c Q E nL M kc ks pc lo (.ref b :: st) :=
  j_cU_I (n := 0) (As := []) C co_J4 h.1 (c_J5_isLatin1_aae02 l E M b P h.2) (k_cu C wd_466 wd_644 wd_464 wd_45 wd_463 (C.2.2.2.2.1 _ wd_465) rfl wd_463 wd_466 (by decide +kernel) rfl rfl hR) hf rfl hst d kk
abbrev rm_J0_init_db425_AA0 : Room := { frames := 3, cells := 1, slots := 700, locals := 106 }
def w_J0_init_db425_AA0 (M : Mm) (x0 : Nat) (x1 : Nat) (P : Mm → Prop) : Prop := zk M x1 = 16 ∧ w_J5_getValue_6d5f1 M x1 (fun r1 M1 => ∃ a1, r1 = some a1 ∧ zk M1 x1 = 16 ∧ w_J4_length_8abf5 M1 x1 (fun r2 M2 => zk M2 x1 = 16 ∧ w_J5_isLatin1_aae02 M2 x1 (fun r3 M3 => (if r3 = 0 then zk M3 x1 = 16 ∧ (if (zI M3 x1 2) = 0 then zk M3 x0 = 17 ∧ (narrow .byte (.int (1 : Int32)) = .int (1 : Int32) ∧ fits .byte (.int (1 : Int32)) = true) ∧ (∀ M5, M5 = sI M3 x0 1 (1 : Int32) → w_J7_copyOfRange_39247 M5 a1 (0 : Int32) (r2 <<< ((1 : Int32) &&& 31)) (fun r6 M6 => ∃ a6, r6 = some a6 ∧ zk M6 x0 = 17 ∧ (∀ M7, M7 = sR M6 x0 0 (some a6) → P M7))) else False) else zk M3 x0 = 17 ∧ (narrow .byte (.int (0 : Int32)) = .int (0 : Int32) ∧ fits .byte (.int (0 : Int32)) = true) ∧ (∀ M8, M8 = sI M3 x0 1 (0 : Int32) → w_J7_copyOfRange_39247 M8 a1 (0 : Int32) r2 (fun r9 M9 => ∃ a9, r9 = some a9 ∧ zk M9 x0 = 17 ∧ (∀ M10, M10 = sR M9 x0 0 (some a9) → P M10)))))))
set_option maxHeartbeats 4000000 in
set_option maxRecDepth 100000 in
theorem c_J0_init_db425_AA0 (l : Launch) (E : EV) (M : Mm) (x0 : Nat) (x1 : Nat) (P : Mm → Prop) (h : w_J0_init_db425_AA0 M x0 x1 P) : CtV l E yJ0_init_db425 cJ0_init_db425 5 rm_J0_init_db425_AA0 1 700 [.ref x0, .ref x1, .null] M P := by
  refine ctV_of (by decide +kernel) (Nat.le_of_ble_eq_true rfl) ?_
  intro p e s m args below meth c C hnm
  rw [w_J0_init_db425_AA0] at h
  show J p l e rm_J0_init_db425_AA0 s m args below meth c (QV below E P args s 1 700) E 5 M 0 0 0 [(0, .ref x0), (1, .ref x1), (2, .null)] []
  refine j_aload_n (pc := 0) C 0 dJ0_init_db425_0 rfl ?_
  refine j_objInit (pc := 1) C wd_599 wd_72 wd_73 dJ0_init_db425_1 (Nat.le_of_ble_eq_true rfl) (Nat.le_of_ble_eq_true rfl) ?_
  refine j_aload_n (pc := 4) C 1 dJ0_init_db425_4 rfl ?_
  refine c2_J0_552 (pc := 5) C ⟨(Nat.le_of_ble_eq_true rfl), (Nat.le_of_ble_eq_true rfl)⟩ ⟨Nat.le_of_ble_eq_true rfl, Nat.le_of_ble_eq_true rfl⟩ (Nat.le_of_ble_eq_true rfl) dJ0_init_db425_5 h (fun r1 M1 h => ?_)
  obtain ⟨a1, rfl, h⟩ := h
  refine j_astore_n (pc := 8) C [(3, _), (0, _), (1, _), (2, _)] dJ0_init_db425_8 (by decide) rfl ?_
  refine j_aload_n (pc := 9) C 2 dJ0_init_db425_9 rfl ?_
  refine c2_J0_549 (pc := 10) C ⟨(Nat.le_of_ble_eq_true rfl), (Nat.le_of_ble_eq_true rfl)⟩ ⟨Nat.le_of_ble_eq_true rfl, Nat.le_of_ble_eq_true rfl⟩ (Nat.le_of_ble_eq_true rfl) dJ0_init_db425_10 h (fun r2 M2 h => ?_)
  refine j_istore (pc := 13) C [(4, _), (3, _), (0, _), (1, _), (2, _)] dJ0_init_db425_13 (by decide) rfl ?_
  refine j_aload_n (pc := 15) C 3 dJ0_init_db425_15 rfl ?_
  refine c2_J0_1047 (pc := 16) C ⟨(Nat.le_of_ble_eq_true rfl), (Nat.le_of_ble_eq_true rfl)⟩ ⟨Nat.le_of_ble_eq_true rfl, Nat.le_of_ble_eq_true rfl⟩ (Nat.le_of_ble_eq_true rfl) dJ0_init_db425_16 h (fun r3 M3 h => ?_)
  refine j_if_eq (pc := 19) C 41 dJ0_init_db425_19 (by decide) h (fun h => ?_) (fun h => ?_)
  · refine j_scs (pc := 41) C wd_501 dJ0_init_db425_41 ?_
    refine j_if_eq (pc := 44) (A := False) (B := True) C 79 dJ0_init_db425_44 (by decide) (by first | rw [if_pos (by decide)] ; trivial | rw [if_neg (by decide)] ; trivial) (fun z => z.elim) (fun _ => ?_)
    refine j_aload_n (pc := 47) C 3 dJ0_init_db425_47 rfl ?_
    refine gf_J0_1048 (pc := 48) C dJ0_init_db425_48 h (fun h => ?_)
    refine j_if_eq (pc := 51) C 79 dJ0_init_db425_51 (by decide) h (fun h => ?_) (fun h => ?_)
    · refine j_aload_n (pc := 79) C 2 dJ0_init_db425_79 rfl ?_
      refine j_iconst (pc := 80) (v := (1 : Int32)) C dJ0_init_db425_80 rfl ?_
      refine pf_J0_15 (pc := 81) C hnm dJ0_init_db425_81 h (fun M5 h => ?_)
      refine j_aload_n (pc := 84) C 2 dJ0_init_db425_84 rfl ?_
      refine j_aload_n (pc := 85) C 1 dJ0_init_db425_85 rfl ?_
      refine j_iconst (pc := 86) (v := (0 : Int32)) C dJ0_init_db425_86 rfl ?_
      refine j_iload (pc := 87) C 0 dJ0_init_db425_87 rfl ?_
      refine j_iconst (pc := 89) (v := (1 : Int32)) C dJ0_init_db425_89 rfl ?_
      refine j_ishl (pc := 90) C dJ0_init_db425_90 ?_
      refine c2_J0_54 (pc := 91) C ⟨(Nat.le_of_ble_eq_true rfl), (Nat.le_of_ble_eq_true rfl)⟩ ⟨Nat.le_of_ble_eq_true rfl, Nat.le_of_ble_eq_true rfl⟩ (Nat.le_of_ble_eq_true rfl) dJ0_init_db425_91 h (fun r6 M6 h => ?_)
      obtain ⟨a6, rfl, h⟩ := h
      refine pf_J0_9 (pc := 94) C hnm dJ0_init_db425_94 h (fun M7 h => ?_)
      exact j_vret (pc := 97) C dJ0_init_db425_97 (Nat.le_of_ble_eq_true rfl) (Nat.le_of_ble_eq_true rfl) h
    · refine j_aload_n (pc := 54) C 2 dJ0_init_db425_54 rfl ?_
      refine j_aload_n (pc := 55) C 1 dJ0_init_db425_55 rfl ?_
      refine j_iconst (pc := 56) (v := (0 : Int32)) C dJ0_init_db425_56 rfl ?_
      refine j_iload (pc := 57) C 0 dJ0_init_db425_57 rfl ?_
      exact h.elim
  · refine j_aload_n (pc := 22) C 2 dJ0_init_db425_22 rfl ?_
    refine j_iconst (pc := 23) (v := (0 : Int32)) C dJ0_init_db425_23 rfl ?_
    refine pf_J0_15 (pc := 24) C hnm dJ0_init_db425_24 h (fun M8 h => ?_)
    refine j_aload_n (pc := 27) C 2 dJ0_init_db425_27 rfl ?_
    refine j_aload_n (pc := 28) C 1 dJ0_init_db425_28 rfl ?_
    refine j_iconst (pc := 29) (v := (0 : Int32)) C dJ0_init_db425_29 rfl ?_
    refine j_iload (pc := 30) C 0 dJ0_init_db425_30 rfl ?_
    refine c2_J0_54 (pc := 32) C ⟨(Nat.le_of_ble_eq_true rfl), (Nat.le_of_ble_eq_true rfl)⟩ ⟨Nat.le_of_ble_eq_true rfl, Nat.le_of_ble_eq_true rfl⟩ (Nat.le_of_ble_eq_true rfl) dJ0_init_db425_32 h (fun r9 M9 h => ?_)
    obtain ⟨a9, rfl, h⟩ := h
    refine pf_J0_9 (pc := 35) C hnm dJ0_init_db425_35 h (fun M10 h => ?_)
    refine j_goto (pc := 38) C 97 dJ0_init_db425_38 (by decide) ?_
    exact j_vret (pc := 97) C dJ0_init_db425_97 (Nat.le_of_ble_eq_true rfl) (Nat.le_of_ble_eq_true rfl) h
theorem c2_J0_489_AA0 (C : Cx p l s m args meth c cc nL RJ0 ret E) {b : Nat} {y0 : Nat} {P : Mm → Prop} (hR : rm_J0_init_db425_AA0.frames + 1 ≤ R.frames ∧ 8 + (5 + 11) + rm_J0_init_db425_AA0.locals ≤ R.locals) (hf : kc + 1 ≤ R.cells ∧ ks + 700 ≤ R.slots) (hst : (st.map fun v => v.category).sum ≤ 8) (d : decode cc pc = .ok (.invokespecial 489, 3)) (h : w_J0_init_db425_AA0 M b y0 P) (kk : ∀ M', P M' → J p l e R s m args below meth c Q E nL M' (kc + 1) (ks + 700) (pc + 3) lo st) : J p l e R s m args below meth c Q E nL M kc ks pc lo (.null :: .ref y0 :: .ref b :: st) :=
  j_cI_V (n := 2) (As := [.ref y0, .null]) C rfl wd_629 (c_J0_init_db425_AA0 l E M b y0 P h) ⟨wd_630, wd_628, wd_47, by decide +kernel, by decide +kernel, by decide +kernel⟩ rfl rfl hR hf rfl hst d kk
abbrev rm_J0_init_81219_AA : Room := { frames := 4, cells := 1, slots := 700, locals := 130 }
def w_J0_init_81219_AA (M : Mm) (x0 : Nat) (x1 : Nat) (P : Mm → Prop) : Prop := w_J0_init_db425_AA0 M x0 x1 (fun M1 => P M1)
set_option maxHeartbeats 4000000 in
set_option maxRecDepth 100000 in
theorem c_J0_init_81219_AA (l : Launch) (E : EV) (M : Mm) (x0 : Nat) (x1 : Nat) (P : Mm → Prop) (h : w_J0_init_81219_AA M x0 x1 P) : CtV l E yJ0_init_81219 cJ0_init_81219 2 rm_J0_init_81219_AA 1 700 [.ref x0, .ref x1] M P := by
  refine ctV_of (by decide +kernel) (Nat.le_of_ble_eq_true rfl) ?_
  intro p e s m args below meth c C hnm
  rw [w_J0_init_81219_AA] at h
  show J p l e rm_J0_init_81219_AA s m args below meth c (QV below E P args s 1 700) E 2 M 0 0 0 [(0, .ref x0), (1, .ref x1)] []
  refine j_aload_n (pc := 0) C 0 dJ0_init_81219_0 rfl ?_
  refine j_aload_n (pc := 1) C 1 dJ0_init_81219_1 rfl ?_
  refine j_null (pc := 2) C dJ0_init_81219_2 ?_
  refine c2_J0_489_AA0 (pc := 3) C ⟨(Nat.le_of_ble_eq_true rfl), (Nat.le_of_ble_eq_true rfl)⟩ ⟨Nat.le_of_ble_eq_true rfl, Nat.le_of_ble_eq_true rfl⟩ (Nat.le_of_ble_eq_true rfl) dJ0_init_81219_3 h (fun M1 h => ?_)
  exact j_vret (pc := 6) C dJ0_init_81219_6 (Nat.le_of_ble_eq_true rfl) (Nat.le_of_ble_eq_true rfl) h
theorem c2_J4_137_AA (C : Cx p l s m args meth c cc nL RJ4 ret E) {b : Nat} {y0 : Nat} {P : Mm → Prop} (hR : rm_J0_init_81219_AA.frames + 1 ≤ R.frames ∧ 8 + (2 + 11) + rm_J0_init_81219_AA.locals ≤ R.locals) (hf : kc + 1 ≤ R.cells ∧ ks + 700 ≤ R.slots) (hst : (st.map fun v => v.category).sum ≤ 8) (d : decode cc pc = .ok (.invokespecial 137, 3)) (h : w_J0_init_81219_AA M b y0 P) (kk : ∀ M', P M' → J p l e R s m args below meth c Q E nL M' (kc + 1) (ks + 700) (pc + 3) lo st) : J p l e R s m args below meth c Q E nL M kc ks pc lo (.ref y0 :: .ref b :: st) :=
  j_cI_V (n := 1) (As := [.ref y0]) C rfl wd_626 (c_J0_init_81219_AA l E M b y0 P h) ⟨wd_627, wd_625, wd_47, by decide +kernel, by decide +kernel, by decide +kernel⟩ rfl rfl hR hf rfl hst d kk
abbrev rm_J4_toString_0e30d : Room := { frames := 5, cells := 2, slots := 704, locals := 151 }
def w_J4_toString_0e30d (M : Mm) (x0 : Nat) (P : Option Nat → Mm → Prop) : Prop := (∀ a1 M1, a1 = zn M → M1 = sN M 17 0 → w_J0_init_81219_AA M1 a1 x0 (fun M2 => P (some a1) M2))
set_option maxHeartbeats 4000000 in
set_option maxRecDepth 100000 in
theorem c_J4_toString_0e30d (l : Launch) (E : EV) (M : Mm) (x0 : Nat) (P : Option Nat → Mm → Prop) (h : w_J4_toString_0e30d M x0 P) : CtN l E yJ4_toString_0e30d cJ4_toString_0e30d 1 (.object "java/lang/String") rm_J4_toString_0e30d 2 704 [.ref x0] M P := by
  refine ctN_of (by decide +kernel) (Nat.le_of_ble_eq_true rfl) ?_
  intro p e s m args below meth c C
  rw [w_J4_toString_0e30d] at h
  show J p l e rm_J4_toString_0e30d s m args below meth c (QN below E P args s 2 704) E 1 M 0 0 0 [(0, .ref x0)] []
  refine n_new (pc := 0) C co_J0 df_J0 wd_624 wd_592 wd_47 dJ4_toString_0e30d_0 (Nat.le_of_ble_eq_true rfl) (Nat.le_of_ble_eq_true rfl) h (fun a1 M1 h => ?_)
  refine j_dup (pc := 3) C dJ4_toString_0e30d_3 rfl ?_
  refine j_aload_n (pc := 4) C 0 dJ4_toString_0e30d_4 rfl ?_
  refine c2_J4_137_AA (pc := 5) C ⟨(Nat.le_of_ble_eq_true rfl), (Nat.le_of_ble_eq_true rfl)⟩ ⟨Nat.le_of_ble_eq_true rfl, Nat.le_of_ble_eq_true rfl⟩ (Nat.le_of_ble_eq_true rfl) dJ4_toString_0e30d_5 h (fun M2 h => ?_)
  exact j_nret (pc := 8) (some a1) (Or.inl ⟨_, rfl⟩) C dJ4_toString_0e30d_8 (Nat.le_of_ble_eq_true rfl) (Nat.le_of_ble_eq_true rfl) h
abbrev rm_J1_toBytes_a14e5 : Room := { frames := 0, cells := 1, slots := 1, locals := 0 }
def w_J1_toBytes_a14e5 (M : Mm) (x0 : Int32) (P : Option Nat → Mm → Prop) : Prop := ¬ (1 : Int32) < 0 ∧ (1 : Int32).toNatClampNeg ≤ 1 ∧ (∀ a1 M1, a1 = zn M → M1 = sN M 9 (1 : Int32).toNatClampNeg → zk M1 a1 = 9 ∧ vp_in (0 : Int32) (zl M1 a1) ∧ (∀ M2, M2 = sI M1 a1 (0 : Int32).toNatClampNeg (vp_nar .byte x0.toInt8.toInt32) → P (some a1) M2))
set_option maxHeartbeats 4000000 in
set_option maxRecDepth 100000 in
theorem c_J1_toBytes_a14e5 (l : Launch) (E : EV) (M : Mm) (x0 : Int32) (P : Option Nat → Mm → Prop) (h : w_J1_toBytes_a14e5 M x0 P) : CtN l E yJ1_toBytes_a14e5 cJ1_toBytes_a14e5 1 (.array .byte) rm_J1_toBytes_a14e5 1 1 [.int x0] M P := by
  refine ctN_of (by decide +kernel) (Nat.le_of_ble_eq_true rfl) ?_
  intro p e s m args below meth c C
  rw [w_J1_toBytes_a14e5] at h
  show J p l e rm_J1_toBytes_a14e5 s m args below meth c (QN below E P args s 1 1) E 1 M 0 0 0 [(0, .int x0)] []
  refine j_iconst (pc := 0) (v := (1 : Int32)) C dJ1_toBytes_a14e5_0 rfl ?_
  refine n_newb (pc := 1) C 1 wd_91 dJ1_toBytes_a14e5_1 (Nat.le_of_ble_eq_true rfl) (Nat.le_of_ble_eq_true rfl) (Nat.le_of_ble_eq_true rfl) h (fun a1 M1 h => ?_)
  refine j_dup (pc := 3) C dJ1_toBytes_a14e5_3 rfl ?_
  refine j_iconst (pc := 4) (v := (0 : Int32)) C dJ1_toBytes_a14e5_4 rfl ?_
  refine j_iload_n (pc := 5) C 0 dJ1_toBytes_a14e5_5 rfl ?_
  refine j_i2b (pc := 6) C dJ1_toBytes_a14e5_6 ?_
  refine n_bast (pc := 7) C dJ1_toBytes_a14e5_7 h (fun M2 h => ?_)
  exact j_nret (pc := 8) (some a1) (Or.inr ⟨_, rfl⟩) C dJ1_toBytes_a14e5_8 (Nat.le_of_ble_eq_true rfl) (Nat.le_of_ble_eq_true rfl) h
abbrev rm_J0_init_031fb_AAI : Room := { frames := 1, cells := 0, slots := 0, locals := 20 }
def w_J0_init_031fb_AAI (M : Mm) (x0 : Nat) (x1 : Nat) (x2 : Int32) (P : Mm → Prop) : Prop := zk M x0 = 17 ∧ (∀ M1, M1 = sR M x0 0 (some x1) → zk M1 x0 = 17 ∧ (narrow .byte (.int x2) = .int x2 ∧ fits .byte (.int x2) = true) ∧ (∀ M2, M2 = sI M1 x0 1 x2 → P M2))
set_option maxHeartbeats 4000000 in
set_option maxRecDepth 100000 in
theorem c_J0_init_031fb_AAI (l : Launch) (E : EV) (M : Mm) (x0 : Nat) (x1 : Nat) (x2 : Int32) (P : Mm → Prop) (h : w_J0_init_031fb_AAI M x0 x1 x2 P) : CtV l E yJ0_init_031fb cJ0_init_031fb 3 rm_J0_init_031fb_AAI 0 0 [.ref x0, .ref x1, .int x2] M P := by
  refine ctV_of (by decide +kernel) (Nat.le_of_ble_eq_true rfl) ?_
  intro p e s m args below meth c C hnm
  rw [w_J0_init_031fb_AAI] at h
  show J p l e rm_J0_init_031fb_AAI s m args below meth c (QV below E P args s 0 0) E 3 M 0 0 0 [(0, .ref x0), (1, .ref x1), (2, .int x2)] []
  refine j_aload_n (pc := 0) C 0 dJ0_init_031fb_0 rfl ?_
  refine j_objInit (pc := 1) C wd_599 wd_72 wd_73 dJ0_init_031fb_1 (Nat.le_of_ble_eq_true rfl) (Nat.le_of_ble_eq_true rfl) ?_
  refine j_aload_n (pc := 4) C 0 dJ0_init_031fb_4 rfl ?_
  refine j_aload_n (pc := 5) C 1 dJ0_init_031fb_5 rfl ?_
  refine pf_J0_9 (pc := 6) C hnm dJ0_init_031fb_6 h (fun M1 h => ?_)
  refine j_aload_n (pc := 9) C 0 dJ0_init_031fb_9 rfl ?_
  refine j_iload_n (pc := 10) C 2 dJ0_init_031fb_10 rfl ?_
  refine pf_J0_15 (pc := 11) C hnm dJ0_init_031fb_11 h (fun M2 h => ?_)
  exact j_vret (pc := 14) C dJ0_init_031fb_14 (Nat.le_of_ble_eq_true rfl) (Nat.le_of_ble_eq_true rfl) h
theorem c2_J0_209_AAI (C : Cx p l s m args meth c cc nL RJ0 ret E) {b : Nat} {y0 : Nat} {y1 : Int32} {P : Mm → Prop} (hR : rm_J0_init_031fb_AAI.frames + 1 ≤ R.frames ∧ 8 + (3 + 11) + rm_J0_init_031fb_AAI.locals ≤ R.locals) (hf : kc ≤ R.cells ∧ ks ≤ R.slots) (hst : (st.map fun v => v.category).sum ≤ 8) (d : decode cc pc = .ok (.invokespecial 209, 3)) (h : w_J0_init_031fb_AAI M b y0 y1 P) (kk : ∀ M', P M' → J p l e R s m args below meth c Q E nL M' kc ks (pc + 3) lo st) : J p l e R s m args below meth c Q E nL M kc ks pc lo (.int y1 :: .ref y0 :: .ref b :: st) :=
  j_cI_V (n := 2) (As := [.ref y0, .int y1]) C rfl wd_597 (c_J0_init_031fb_AAI l E M b y0 y1 P h) ⟨wd_598, wd_596, wd_47, by decide +kernel, by decide +kernel, by decide +kernel⟩ rfl rfl hR hf rfl hst d kk
theorem c2_J0_1015 (C : Cx p l s m args meth c cc nL RJ0 ret E) {y0 : Int32} {P : Int32 → Mm → Prop} (hR : rm_J1_canEncode_fc78d.frames + 1 ≤ R.frames ∧ 8 + (1 + 11) + rm_J1_canEncode_fc78d.locals ≤ R.locals) (hf : kc ≤ R.cells ∧ ks ≤ R.slots) (hst : (st.map fun v => v.category).sum ≤ 8) (d : decode cc pc = .ok (.invokestatic 1015, 3)) (h : w_J1_canEncode_fc78d M y0 P) (kk : ∀ r M', P r M' → J p l e R s m args below meth c Q E nL M' kc ks (pc + 3) lo (.int r :: st)) : J p l e R s m args below meth c Q E nL M kc ks pc lo (.int y0 :: st) :=
  j_cS_I (n := 1) (As := [.int y0]) C wd_569 (c_J1_canEncode_fc78d l E M y0 P h) ⟨wd_570, wd_590, wd_55, by decide +kernel, by decide +kernel, by decide +kernel⟩ rfl rfl hR hf rfl hst d kk
theorem c2_J0_1018 (C : Cx p l s m args meth c cc nL RJ0 ret E) {y0 : Int32} {P : Option Nat → Mm → Prop} (hR : rm_J1_toBytes_a14e5.frames + 1 ≤ R.frames ∧ 8 + (1 + 11) + rm_J1_toBytes_a14e5.locals ≤ R.locals) (hf : kc + 1 ≤ R.cells ∧ ks + 1 ≤ R.slots) (hst : (st.map fun v => v.category).sum ≤ 8) (d : decode cc pc = .ok (.invokestatic 1018, 3)) (h : w_J1_toBytes_a14e5 M y0 P) (kk : ∀ r M', P r M' → J p l e R s m args below meth c Q E nL M' (kc + 1) (ks + 1) (pc + 3) lo (va_rf r :: st)) : J p l e R s m args below meth c Q E nL M kc ks pc lo (.int y0 :: st) :=
  j_cS_N (n := 1) (As := [.int y0]) C wd_594 (c_J1_toBytes_a14e5 l E M y0 P h) ⟨wd_595, wd_593, wd_55, by decide +kernel, by decide +kernel, by decide +kernel⟩ rfl rfl hR hf rfl hst d kk
abbrev rm_J0_valueOf_756af : Room := { frames := 2, cells := 2, slots := 5, locals := 42 }
def w_J0_valueOf_756af (M : Mm) (x0 : Int32) (P : Option Nat → Mm → Prop) : Prop := w_J1_canEncode_fc78d M x0 (fun r1 M1 => (if r1 = 0 then (∀ a2 M2, a2 = zn M1 → M2 = sN M1 17 0 → False) else (∀ a3 M3, a3 = zn M1 → M3 = sN M1 17 0 → w_J1_toBytes_a14e5 M3 x0 (fun r4 M4 => ∃ a4, r4 = some a4 ∧ w_J0_init_031fb_AAI M4 a3 a4 (0 : Int32) (fun M5 => P (some a3) M5)))))
set_option maxHeartbeats 4000000 in
set_option maxRecDepth 100000 in
theorem c_J0_valueOf_756af (l : Launch) (E : EV) (M : Mm) (x0 : Int32) (P : Option Nat → Mm → Prop) (h : w_J0_valueOf_756af M x0 P) : CtN l E yJ0_valueOf_756af cJ0_valueOf_756af 1 (.object "java/lang/String") rm_J0_valueOf_756af 2 5 [.int x0] M P := by
  refine ctN_of (by decide +kernel) (Nat.le_of_ble_eq_true rfl) ?_
  intro p e s m args below meth c C
  rw [w_J0_valueOf_756af] at h
  show J p l e rm_J0_valueOf_756af s m args below meth c (QN below E P args s 2 5) E 1 M 0 0 0 [(0, .int x0)] []
  refine j_scs (pc := 0) C wd_501 dJ0_valueOf_756af_0 ?_
  refine j_if_eq (pc := 3) (A := False) (B := True) C 26 dJ0_valueOf_756af_3 (by decide) (by first | rw [if_pos (by decide)] ; trivial | rw [if_neg (by decide)] ; trivial) (fun z => z.elim) (fun _ => ?_)
  refine j_iload_n (pc := 6) C 0 dJ0_valueOf_756af_6 rfl ?_
  refine c2_J0_1015 (pc := 7) C ⟨(Nat.le_of_ble_eq_true rfl), (Nat.le_of_ble_eq_true rfl)⟩ ⟨Nat.le_of_ble_eq_true rfl, Nat.le_of_ble_eq_true rfl⟩ (Nat.le_of_ble_eq_true rfl) dJ0_valueOf_756af_7 h (fun r1 M1 h => ?_)
  refine j_if_eq (pc := 10) C 26 dJ0_valueOf_756af_10 (by decide) h (fun h => ?_) (fun h => ?_)
  · refine n_new (pc := 26) C co_J0 df_J0 wd_591 wd_592 wd_47 dJ0_valueOf_756af_26 (Nat.le_of_ble_eq_true rfl) (Nat.le_of_ble_eq_true rfl) h (fun a2 M2 h => ?_)
    refine j_dup (pc := 29) C dJ0_valueOf_756af_29 rfl ?_
    refine j_iload_n (pc := 30) C 0 dJ0_valueOf_756af_30 rfl ?_
    exact h.elim
  · refine n_new (pc := 13) C co_J0 df_J0 wd_591 wd_592 wd_47 dJ0_valueOf_756af_13 (Nat.le_of_ble_eq_true rfl) (Nat.le_of_ble_eq_true rfl) h (fun a3 M3 h => ?_)
    refine j_dup (pc := 16) C dJ0_valueOf_756af_16 rfl ?_
    refine j_iload_n (pc := 17) C 0 dJ0_valueOf_756af_17 rfl ?_
    refine c2_J0_1018 (pc := 18) C ⟨(Nat.le_of_ble_eq_true rfl), (Nat.le_of_ble_eq_true rfl)⟩ ⟨Nat.le_of_ble_eq_true rfl, Nat.le_of_ble_eq_true rfl⟩ (Nat.le_of_ble_eq_true rfl) dJ0_valueOf_756af_18 h (fun r4 M4 h => ?_)
    obtain ⟨a4, rfl, h⟩ := h
    refine j_iconst (pc := 21) (v := (0 : Int32)) C dJ0_valueOf_756af_21 rfl ?_
    refine c2_J0_209_AAI (pc := 22) C ⟨(Nat.le_of_ble_eq_true rfl), (Nat.le_of_ble_eq_true rfl)⟩ ⟨Nat.le_of_ble_eq_true rfl, Nat.le_of_ble_eq_true rfl⟩ (Nat.le_of_ble_eq_true rfl) dJ0_valueOf_756af_22 h (fun M5 h => ?_)
    exact j_nret (pc := 25) (some a3) (Or.inl ⟨_, rfl⟩) C dJ0_valueOf_756af_25 (Nat.le_of_ble_eq_true rfl) (Nat.le_of_ble_eq_true rfl) h
end GL6
