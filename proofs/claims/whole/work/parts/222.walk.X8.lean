/-! written by a program (wip/whole/gen.py) out of the decode rows and the tables: walks of X8 -/

section GW22
variable {p : Program} {l : Launch} {e : Env} {R : Room} {s : State} {m : MethodId} {args : Array Value} {below : List Frame} {meth : Method} {c : Code} {Q : State → Prop} {cc : ByteArray} {nL : Nat} {ret : Option FieldType} {E : EV} {M : Mm} {kc ks pc : Nat} {lo : List (Nat × Value)} {st : List Value}
abbrev rm_X8_errorPosition : Room := { frames := 0, cells := 0, slots := 0, locals := 0 }
def w_X8_errorPosition (M : Mm) (x0 : Nat) (P : Int32 → Mm → Prop) : Prop := zk M x0 = 8 ∧ (∀ M1, M1 = sI M x0 0 (0 : Int32) → zk M1 x0 = 8 ∧ P (zI M1 x0 13) M1)
set_option maxHeartbeats 4000000 in
set_option maxRecDepth 100000 in
theorem c_X8_errorPosition (l : Launch) (E : EV) (M : Mm) (x0 : Nat) (P : Int32 → Mm → Prop) (h : w_X8_errorPosition M x0 P) : CtI l E yX8_errorPosition cX8_errorPosition 1 .int rm_X8_errorPosition 0 0 [.ref x0] M P := by
  refine ctI_of (by decide +kernel) (Nat.le_of_ble_eq_true rfl) ?_
  intro p e s m args below meth c C
  rw [w_X8_errorPosition] at h
  show J p l e rm_X8_errorPosition s m args below meth c (QI below E P args s 0 0) E 1 M 0 0 0 [(0, .ref x0)] []
  refine j_aload_n (pc := 0) C 0 dX8_errorPosition_0 rfl ?_
  refine j_iconst (pc := 1) (v := (0 : Int32)) C dX8_errorPosition_1 rfl ?_
  refine pf_X8_56 (pc := 2) C dX8_errorPosition_2 h (fun M1 h => ?_)
  refine j_aload_n (pc := 5) C 0 dX8_errorPosition_5 rfl ?_
  refine gf_X8_24 (pc := 6) C dX8_errorPosition_6 h (fun h => ?_)
  exact j_iret (pc := 9) C dX8_errorPosition_9 (Nat.le_of_ble_eq_true rfl) (Nat.le_of_ble_eq_true rfl) h
abbrev rm_X8_ofPlayer : Room := { frames := 0, cells := 0, slots := 0, locals := 0 }
def w_X8_ofPlayer (M : Mm) (x0 : Nat) (x1 : Int32) (x2 : Int32) (P : Int32 → Mm → Prop) : Prop := (zk M x0 = 8 ∧ ∃ a1, zR M x0 1 = some a1 ∧ zk M a1 = 10 ∧ vp_in (((9 : Int32) + ((7 : Int32) * x1)) + x2) (zl M a1) ∧ P (zI M a1 (((9 : Int32) + ((7 : Int32) * x1)) + x2).toNatClampNeg) M)
set_option maxHeartbeats 4000000 in
set_option maxRecDepth 100000 in
theorem c_X8_ofPlayer (l : Launch) (E : EV) (M : Mm) (x0 : Nat) (x1 : Int32) (x2 : Int32) (P : Int32 → Mm → Prop) (h : w_X8_ofPlayer M x0 x1 x2 P) : CtI l E yX8_ofPlayer cX8_ofPlayer 3 .int rm_X8_ofPlayer 0 0 [.ref x0, .int x1, .int x2] M P := by
  refine ctI_of (by decide +kernel) (Nat.le_of_ble_eq_true rfl) ?_
  intro p e s m args below meth c C
  rw [w_X8_ofPlayer] at h
  show J p l e rm_X8_ofPlayer s m args below meth c (QI below E P args s 0 0) E 3 M 0 0 0 [(0, .ref x0), (1, .int x1), (2, .int x2)] []
  refine j_aload_n (pc := 0) C 0 dX8_ofPlayer_0 rfl ?_
  refine gf_X8_7 (pc := 1) C dX8_ofPlayer_1 h (fun a1 h => ?_)
  refine j_bipush (pc := 4) (v := (9 : Int32)) C dX8_ofPlayer_4 rfl ?_
  refine j_bipush (pc := 6) (v := (7 : Int32)) C dX8_ofPlayer_6 rfl ?_
  refine j_iload_n (pc := 8) C 1 dX8_ofPlayer_8 rfl ?_
  refine j_imul (pc := 9) C dX8_ofPlayer_9 ?_
  refine j_iadd (pc := 10) C dX8_ofPlayer_10 ?_
  refine j_iload_n (pc := 11) C 2 dX8_ofPlayer_11 rfl ?_
  refine j_iadd (pc := 12) C dX8_ofPlayer_12 ?_
  refine j_iald (pc := 13) C dX8_ofPlayer_13 h (fun h => ?_)
  exact j_iret (pc := 14) C dX8_ofPlayer_14 (Nat.le_of_ble_eq_true rfl) (Nat.le_of_ble_eq_true rfl) h
abbrev rm_X8_ofWork : Room := { frames := 0, cells := 0, slots := 0, locals := 0 }
def w_X8_ofWork (M : Mm) (x0 : Nat) (x1 : Int32) (x2 : Int32) (P : Int32 → Mm → Prop) : Prop := (zk M x0 = 8 ∧ ∃ a1, zR M x0 1 = some a1 ∧ zk M a1 = 10 ∧ vp_in (((65 : Int32) + ((11 : Int32) * x1)) + x2) (zl M a1) ∧ P (zI M a1 (((65 : Int32) + ((11 : Int32) * x1)) + x2).toNatClampNeg) M)
set_option maxHeartbeats 4000000 in
set_option maxRecDepth 100000 in
theorem c_X8_ofWork (l : Launch) (E : EV) (M : Mm) (x0 : Nat) (x1 : Int32) (x2 : Int32) (P : Int32 → Mm → Prop) (h : w_X8_ofWork M x0 x1 x2 P) : CtI l E yX8_ofWork cX8_ofWork 3 .int rm_X8_ofWork 0 0 [.ref x0, .int x1, .int x2] M P := by
  refine ctI_of (by decide +kernel) (Nat.le_of_ble_eq_true rfl) ?_
  intro p e s m args below meth c C
  rw [w_X8_ofWork] at h
  show J p l e rm_X8_ofWork s m args below meth c (QI below E P args s 0 0) E 3 M 0 0 0 [(0, .ref x0), (1, .int x1), (2, .int x2)] []
  refine j_aload_n (pc := 0) C 0 dX8_ofWork_0 rfl ?_
  refine gf_X8_7 (pc := 1) C dX8_ofWork_1 h (fun a1 h => ?_)
  refine j_bipush (pc := 4) (v := (65 : Int32)) C dX8_ofWork_4 rfl ?_
  refine j_bipush (pc := 6) (v := (11 : Int32)) C dX8_ofWork_6 rfl ?_
  refine j_iload_n (pc := 8) C 1 dX8_ofWork_8 rfl ?_
  refine j_imul (pc := 9) C dX8_ofWork_9 ?_
  refine j_iadd (pc := 10) C dX8_ofWork_10 ?_
  refine j_iload_n (pc := 11) C 2 dX8_ofWork_11 rfl ?_
  refine j_iadd (pc := 12) C dX8_ofWork_12 ?_
  refine j_iald (pc := 13) C dX8_ofWork_13 h (fun h => ?_)
  exact j_iret (pc := 14) C dX8_ofWork_14 (Nat.le_of_ble_eq_true rfl) (Nat.le_of_ble_eq_true rfl) h
theorem cs_X8_194 (C : Cx p l s m args meth c cc nL RX8 ret E) {b : Nat} {y0 : Int32} {y1 : Int32} {P : Int32 → Mm → Prop} (hR : rm_X8_ofPlayer.frames + 1 ≤ R.frames ∧ 8 + (3 + 11) + rm_X8_ofPlayer.locals ≤ R.locals) (hf : kc ≤ R.cells ∧ ks ≤ R.slots) (hst : (st.map fun v => v.category).sum ≤ 8) (d : decode cc pc = .ok (.invokevirtual 194, 3)) (h : zk M b = 8 ∧ w_X8_ofPlayer M b y0 y1 P) (kk : ∀ r M', P r M' → J p l e R s m args below meth c Q E nL M' kc ks (pc + 3) lo (.int r :: st)) : J p l e R s m args below meth c Q E nL M kc ks pc lo (.int y1 :: .int y0 :: .ref b :: st) :=
  j_cV_I (n := 2) (As := [.int y0, .int y1]) C co_X8 rfl wd_1354 wd_62 h.1 (c_X8_ofPlayer l E M b y0 y1 P h.2) ⟨wd_1355, wd_1352, wd_106, by decide +kernel, by decide +kernel, by decide +kernel⟩ rfl rfl hR hf rfl hst d kk
abbrev rm_X8_plays : Room := { frames := 1, cells := 0, slots := 0, locals := 22 }
def l_X8_plays_5 (P : Int32 → Mm → Prop) (K45 : Mm → Int32 → Prop) : Nat → Mm → Nat → Int32 → Int32 → Int32 → Int32 → Prop
  | 0, _, _, _, _, _, _ => False
  | n + 1, M, x0, x1, x2, x3, x4 => zk M x0 = 8 ∧ w_X8_ofPlayer M x0 x1 (2 : Int32) (fun r1 M1 => (if r1 ≤ x4 then K45 M1 x3 else (if x3 = 0 then zk M1 x0 = 8 ∧ w_X8_ofPlayer M1 x0 x1 ((3 : Int32) + x4) (fun r2 M2 => (if r2 = x2 then l_X8_plays_5 P K45 n M2 x0 x1 x2 (1 : Int32) (x4 + (1 : Int32)) else l_X8_plays_5 P K45 n M2 x0 x1 x2 (0 : Int32) (x4 + (1 : Int32)))) else l_X8_plays_5 P K45 n M1 x0 x1 x2 (1 : Int32) (x4 + (1 : Int32)))))
set_option maxHeartbeats 4000000 in
set_option maxRecDepth 100000 in
theorem jl_X8_plays_5 {P : Int32 → Mm → Prop} {K45 : Mm → Int32 → Prop} (C : Cx p l s m args meth c cX8_plays 5 RX8 (some .boolean) E) (hkc : kc ≤ rm_X8_plays.cells ∧ ks ≤ rm_X8_plays.slots) (k45 : ∀ M x3, K45 M x3 → J p l e rm_X8_plays s m args below meth c (QI below E P args s rm_X8_plays.cells rm_X8_plays.slots) E 5 M kc ks 45 [(3, .int x3)] []) : ∀ n M x0 x1 x2 x3 x4, l_X8_plays_5 P K45 n M x0 x1 x2 x3 x4 → J p l e rm_X8_plays s m args below meth c (QI below E P args s rm_X8_plays.cells rm_X8_plays.slots) E 5 M kc ks 5 [(0, .ref x0), (1, .int x1), (2, .int x2), (3, .int x3), (4, .int x4)] [] := by
  intro n
  induction n with
  | zero => intro M x0 x1 x2 x3 x4 h; exact h.elim
  | succ n ih =>
    intro M x0 x1 x2 x3 x4 h
    rw [l_X8_plays_5] at h
    refine j_iload (pc := 5) C 4 dX8_plays_5 rfl ?_
    refine j_aload_n (pc := 7) C 0 dX8_plays_7 rfl ?_
    refine j_iload_n (pc := 8) C 1 dX8_plays_8 rfl ?_
    refine j_iconst (pc := 9) (v := (2 : Int32)) C dX8_plays_9 rfl ?_
    refine cs_X8_194 (pc := 10) C ⟨Nat.le_of_ble_eq_true rfl, Nat.le_of_ble_eq_true rfl⟩ hkc (Nat.le_of_ble_eq_true rfl) dX8_plays_10 h (fun r1 M1 h => ?_)
    refine j_icmp_ge (pc := 13) C 45 dX8_plays_13 (by decide) h (fun h => ?_) (fun h => ?_)
    · exact j_weak [3] rfl (k45 _ _ h)
    · refine j_iload_n (pc := 16) C 3 dX8_plays_16 rfl ?_
      refine j_if_ne (pc := 17) C 33 dX8_plays_17 (by decide) h (fun h => ?_) (fun h => ?_)
      · refine j_iconst (pc := 33) (v := (1 : Int32)) C dX8_plays_33 rfl ?_
        refine j_goto (pc := 34) C 38 dX8_plays_34 (by decide) ?_
        refine j_istore_n (pc := 38) C [(3, _), (0, _), (1, _), (2, _), (4, _)] dX8_plays_38 (by decide) rfl ?_
        refine j_iinc (pc := 39) (v := (1 : Int32)) C 4 [(4, _), (3, _), (0, _), (1, _), (2, _)] dX8_plays_39 rfl rfl (by decide) rfl ?_
        refine j_goto (pc := 42) C 5 dX8_plays_42 (by decide) ?_
        exact j_weak [2, 3, 4, 1, 0] rfl (ih _ _ _ _ _ _ h)
      · refine j_aload_n (pc := 20) C 0 dX8_plays_20 rfl ?_
        refine j_iload_n (pc := 21) C 1 dX8_plays_21 rfl ?_
        refine j_iconst (pc := 22) (v := (3 : Int32)) C dX8_plays_22 rfl ?_
        refine j_iload (pc := 23) C 4 dX8_plays_23 rfl ?_
        refine j_iadd (pc := 25) C dX8_plays_25 ?_
        refine cs_X8_194 (pc := 26) C ⟨Nat.le_of_ble_eq_true rfl, Nat.le_of_ble_eq_true rfl⟩ hkc (Nat.le_of_ble_eq_true rfl) dX8_plays_26 h (fun r2 M2 h => ?_)
        refine j_iload_n (pc := 29) C 2 dX8_plays_29 rfl ?_
        refine j_icmp_ne (pc := 30) C 37 dX8_plays_30 (by decide) h (fun h => ?_) (fun h => ?_)
        · refine j_iconst (pc := 37) (v := (0 : Int32)) C dX8_plays_37 rfl ?_
          refine j_istore_n (pc := 38) C [(3, _), (0, _), (1, _), (2, _), (4, _)] dX8_plays_38 (by decide) rfl ?_
          refine j_iinc (pc := 39) (v := (1 : Int32)) C 4 [(4, _), (3, _), (0, _), (1, _), (2, _)] dX8_plays_39 rfl rfl (by decide) rfl ?_
          refine j_goto (pc := 42) C 5 dX8_plays_42 (by decide) ?_
          exact j_weak [2, 3, 4, 1, 0] rfl (ih _ _ _ _ _ _ h)
        · refine j_iconst (pc := 33) (v := (1 : Int32)) C dX8_plays_33 rfl ?_
          refine j_goto (pc := 34) C 38 dX8_plays_34 (by decide) ?_
          refine j_istore_n (pc := 38) C [(3, _), (0, _), (1, _), (2, _), (4, _)] dX8_plays_38 (by decide) rfl ?_
          refine j_iinc (pc := 39) (v := (1 : Int32)) C 4 [(4, _), (3, _), (0, _), (1, _), (2, _)] dX8_plays_39 rfl rfl (by decide) rfl ?_
          refine j_goto (pc := 42) C 5 dX8_plays_42 (by decide) ?_
          exact j_weak [2, 3, 4, 1, 0] rfl (ih _ _ _ _ _ _ h)
def w_X8_plays (M : Mm) (x0 : Nat) (x1 : Int32) (x2 : Int32) (P : Int32 → Mm → Prop) : Prop := (∃ n5, l_X8_plays_5 P (fun M3 x3_3 => (x3_3 = 0 ∨ x3_3 = 1) ∧ P x3_3 M3) n5 M x0 x1 x2 (0 : Int32) (0 : Int32))
set_option maxHeartbeats 4000000 in
set_option maxRecDepth 100000 in
theorem c_X8_plays (l : Launch) (E : EV) (M : Mm) (x0 : Nat) (x1 : Int32) (x2 : Int32) (P : Int32 → Mm → Prop) (h : w_X8_plays M x0 x1 x2 P) : CtI l E yX8_plays cX8_plays 5 .boolean rm_X8_plays 0 0 [.ref x0, .int x1, .int x2] M P := by
  refine ctI_of (by decide +kernel) (Nat.le_of_ble_eq_true rfl) ?_
  intro p e s m args below meth c C
  rw [w_X8_plays] at h
  show J p l e rm_X8_plays s m args below meth c (QI below E P args s 0 0) E 5 M 0 0 0 [(0, .ref x0), (1, .int x1), (2, .int x2)] []
  refine j_iconst (pc := 0) (v := (0 : Int32)) C dX8_plays_0 rfl ?_
  refine j_istore_n (pc := 1) C [(3, _), (0, _), (1, _), (2, _)] dX8_plays_1 (by decide) rfl ?_
  refine j_iconst (pc := 2) (v := (0 : Int32)) C dX8_plays_2 rfl ?_
  refine j_istore (pc := 3) C [(4, _), (3, _), (0, _), (1, _), (2, _)] dX8_plays_3 (by decide) rfl ?_
  obtain ⟨n5, h⟩ := h
  refine j_weak [2, 3, 4, 1, 0] rfl (jl_X8_plays_5 C ⟨Nat.le_of_ble_eq_true rfl, Nat.le_of_ble_eq_true rfl⟩ (fun M3 x3_3 h => ?_) n5 _ _ _ _ _ _ h)
  · refine j_iload_n (pc := 45) C 0 dX8_plays_45 rfl ?_
    exact j_zret (pc := 46) C dX8_plays_46 (Nat.le_of_ble_eq_true rfl) (Nat.le_of_ble_eq_true rfl) h
abbrev rm_X8_slotMany : Room := { frames := 0, cells := 0, slots := 0, locals := 0 }
def w_X8_slotMany (M : Mm) (x0 : Nat) (P : Int32 → Mm → Prop) : Prop := (zk M x0 = 8 ∧ ∃ a1, zR M x0 1 = some a1 ∧ zk M a1 = 10 ∧ vp_in (0 : Int32) (zl M a1) ∧ P ((3 : Int32) * (zI M a1 (0 : Int32).toNatClampNeg)) M)
set_option maxHeartbeats 4000000 in
set_option maxRecDepth 100000 in
theorem c_X8_slotMany (l : Launch) (E : EV) (M : Mm) (x0 : Nat) (P : Int32 → Mm → Prop) (h : w_X8_slotMany M x0 P) : CtI l E yX8_slotMany cX8_slotMany 1 .int rm_X8_slotMany 0 0 [.ref x0] M P := by
  refine ctI_of (by decide +kernel) (Nat.le_of_ble_eq_true rfl) ?_
  intro p e s m args below meth c C
  rw [w_X8_slotMany] at h
  show J p l e rm_X8_slotMany s m args below meth c (QI below E P args s 0 0) E 1 M 0 0 0 [(0, .ref x0)] []
  refine j_iconst (pc := 0) (v := (3 : Int32)) C dX8_slotMany_0 rfl ?_
  refine j_aload_n (pc := 1) C 0 dX8_slotMany_1 rfl ?_
  refine gf_X8_7 (pc := 2) C dX8_slotMany_2 h (fun a1 h => ?_)
  refine j_iconst (pc := 5) (v := (0 : Int32)) C dX8_slotMany_5 rfl ?_
  refine j_iald (pc := 6) C dX8_slotMany_6 h (fun h => ?_)
  refine j_imul (pc := 7) C dX8_slotMany_7 ?_
  exact j_iret (pc := 8) C dX8_slotMany_8 (Nat.le_of_ble_eq_true rfl) (Nat.le_of_ble_eq_true rfl) h
abbrev rm_X8_of : Room := { frames := 0, cells := 0, slots := 0, locals := 0 }
def w_X8_of (M : Mm) (x0 : Nat) (x1 : Int32) (x2 : Int32) (P : Int32 → Mm → Prop) : Prop := (zk M x0 = 8 ∧ ∃ a1, zR M x0 2 = some a1 ∧ zk M a1 = 10 ∧ vp_in (((9 : Int32) + ((34 : Int32) * x1)) + x2) (zl M a1) ∧ P (zI M a1 (((9 : Int32) + ((34 : Int32) * x1)) + x2).toNatClampNeg) M)
set_option maxHeartbeats 4000000 in
set_option maxRecDepth 100000 in
theorem c_X8_of (l : Launch) (E : EV) (M : Mm) (x0 : Nat) (x1 : Int32) (x2 : Int32) (P : Int32 → Mm → Prop) (h : w_X8_of M x0 x1 x2 P) : CtI l E yX8_of cX8_of 3 .int rm_X8_of 0 0 [.ref x0, .int x1, .int x2] M P := by
  refine ctI_of (by decide +kernel) (Nat.le_of_ble_eq_true rfl) ?_
  intro p e s m args below meth c C
  rw [w_X8_of] at h
  show J p l e rm_X8_of s m args below meth c (QI below E P args s 0 0) E 3 M 0 0 0 [(0, .ref x0), (1, .int x1), (2, .int x2)] []
  refine j_aload_n (pc := 0) C 0 dX8_of_0 rfl ?_
  refine gf_X8_13 (pc := 1) C dX8_of_1 h (fun a1 h => ?_)
  refine j_bipush (pc := 4) (v := (9 : Int32)) C dX8_of_4 rfl ?_
  refine j_bipush (pc := 6) (v := (34 : Int32)) C dX8_of_6 rfl ?_
  refine j_iload_n (pc := 8) C 1 dX8_of_8 rfl ?_
  refine j_imul (pc := 9) C dX8_of_9 ?_
  refine j_iadd (pc := 10) C dX8_of_10 ?_
  refine j_iload_n (pc := 11) C 2 dX8_of_11 rfl ?_
  refine j_iadd (pc := 12) C dX8_of_12 ?_
  refine j_iald (pc := 13) C dX8_of_13 h (fun h => ?_)
  exact j_iret (pc := 14) C dX8_of_14 (Nat.le_of_ble_eq_true rfl) (Nat.le_of_ble_eq_true rfl) h
theorem cs_X8_198 (C : Cx p l s m args meth c cc nL RX8 ret E) {b : Nat} {y0 : Int32} {y1 : Int32} {P : Int32 → Mm → Prop} (hR : rm_X8_of.frames + 1 ≤ R.frames ∧ 8 + (3 + 11) + rm_X8_of.locals ≤ R.locals) (hf : kc ≤ R.cells ∧ ks ≤ R.slots) (hst : (st.map fun v => v.category).sum ≤ 8) (d : decode cc pc = .ok (.invokevirtual 198, 3)) (h : zk M b = 8 ∧ w_X8_of M b y0 y1 P) (kk : ∀ r M', P r M' → J p l e R s m args below meth c Q E nL M' kc ks (pc + 3) lo (.int r :: st)) : J p l e R s m args below meth c Q E nL M kc ks pc lo (.int y1 :: .int y0 :: .ref b :: st) :=
  j_cV_I (n := 2) (As := [.int y0, .int y1]) C co_X8 rfl wd_1378 wd_68 h.1 (c_X8_of l E M b y0 y1 P h.2) ⟨wd_1379, wd_1376, wd_106, by decide +kernel, by decide +kernel, by decide +kernel⟩ rfl rfl hR hf rfl hst d kk
abbrev rm_X8_hasWork : Room := { frames := 1, cells := 0, slots := 0, locals := 22 }
def w_X8_hasWork (M : Mm) (x0 : Nat) (x1 : Int32) (x2 : Int32) (P : Int32 → Mm → Prop) : Prop := zk M x0 = 8 ∧ w_X8_of M x0 x1 (3 : Int32) (fun r1 M1 => (if ((r1 >>> (x2 &&& 31)) &&& (1 : Int32)) = (1 : Int32) then ((1 : Int32) = 0 ∨ (1 : Int32) = 1) ∧ P (1 : Int32) M1 else ((0 : Int32) = 0 ∨ (0 : Int32) = 1) ∧ P (0 : Int32) M1))
set_option maxHeartbeats 4000000 in
set_option maxRecDepth 100000 in
theorem c_X8_hasWork (l : Launch) (E : EV) (M : Mm) (x0 : Nat) (x1 : Int32) (x2 : Int32) (P : Int32 → Mm → Prop) (h : w_X8_hasWork M x0 x1 x2 P) : CtI l E yX8_hasWork cX8_hasWork 3 .boolean rm_X8_hasWork 0 0 [.ref x0, .int x1, .int x2] M P := by
  refine ctI_of (by decide +kernel) (Nat.le_of_ble_eq_true rfl) ?_
  intro p e s m args below meth c C
  rw [w_X8_hasWork] at h
  show J p l e rm_X8_hasWork s m args below meth c (QI below E P args s 0 0) E 3 M 0 0 0 [(0, .ref x0), (1, .int x1), (2, .int x2)] []
  refine j_aload_n (pc := 0) C 0 dX8_hasWork_0 rfl ?_
  refine j_iload_n (pc := 1) C 1 dX8_hasWork_1 rfl ?_
  refine j_iconst (pc := 2) (v := (3 : Int32)) C dX8_hasWork_2 rfl ?_
  refine cs_X8_198 (pc := 3) C ⟨Nat.le_of_ble_eq_true rfl, Nat.le_of_ble_eq_true rfl⟩ ⟨Nat.le_of_ble_eq_true rfl, Nat.le_of_ble_eq_true rfl⟩ (Nat.le_of_ble_eq_true rfl) dX8_hasWork_3 h (fun r1 M1 h => ?_)
  refine j_iload_n (pc := 6) C 2 dX8_hasWork_6 rfl ?_
  refine j_ishr (pc := 7) C dX8_hasWork_7 ?_
  refine j_iconst (pc := 8) (v := (1 : Int32)) C dX8_hasWork_8 rfl ?_
  refine j_iand (pc := 9) C dX8_hasWork_9 ?_
  refine j_iconst (pc := 10) (v := (1 : Int32)) C dX8_hasWork_10 rfl ?_
  refine j_icmp_ne (pc := 11) C 18 dX8_hasWork_11 (by decide) h (fun h => ?_) (fun h => ?_)
  · refine j_iconst (pc := 18) (v := (0 : Int32)) C dX8_hasWork_18 rfl ?_
    exact j_zret (pc := 19) C dX8_hasWork_19 (Nat.le_of_ble_eq_true rfl) (Nat.le_of_ble_eq_true rfl) h
  · refine j_iconst (pc := 14) (v := (1 : Int32)) C dX8_hasWork_14 rfl ?_
    refine j_goto (pc := 15) C 19 dX8_hasWork_15 (by decide) ?_
    exact j_zret (pc := 19) C dX8_hasWork_19 (Nat.le_of_ble_eq_true rfl) (Nat.le_of_ble_eq_true rfl) h
abbrev rm_X8_castOf : Room := { frames := 1, cells := 0, slots := 0, locals := 22 }
def w_X8_castOf (M : Mm) (x0 : Nat) (x1 : Int32) (x2 : Int32) (x3 : Int32) (P : Int32 → Mm → Prop) : Prop := zk M x0 = 8 ∧ w_X8_of M x0 x1 (((4 : Int32) + ((6 : Int32) * x2)) + x3) (fun r1 M1 => P r1 M1)
set_option maxHeartbeats 4000000 in
set_option maxRecDepth 100000 in
theorem c_X8_castOf (l : Launch) (E : EV) (M : Mm) (x0 : Nat) (x1 : Int32) (x2 : Int32) (x3 : Int32) (P : Int32 → Mm → Prop) (h : w_X8_castOf M x0 x1 x2 x3 P) : CtI l E yX8_castOf cX8_castOf 4 .int rm_X8_castOf 0 0 [.ref x0, .int x1, .int x2, .int x3] M P := by
  refine ctI_of (by decide +kernel) (Nat.le_of_ble_eq_true rfl) ?_
  intro p e s m args below meth c C
  rw [w_X8_castOf] at h
  show J p l e rm_X8_castOf s m args below meth c (QI below E P args s 0 0) E 4 M 0 0 0 [(0, .ref x0), (1, .int x1), (2, .int x2), (3, .int x3)] []
  refine j_aload_n (pc := 0) C 0 dX8_castOf_0 rfl ?_
  refine j_iload_n (pc := 1) C 1 dX8_castOf_1 rfl ?_
  refine j_iconst (pc := 2) (v := (4 : Int32)) C dX8_castOf_2 rfl ?_
  refine j_bipush (pc := 3) (v := (6 : Int32)) C dX8_castOf_3 rfl ?_
  refine j_iload_n (pc := 5) C 2 dX8_castOf_5 rfl ?_
  refine j_imul (pc := 6) C dX8_castOf_6 ?_
  refine j_iadd (pc := 7) C dX8_castOf_7 ?_
  refine j_iload_n (pc := 8) C 3 dX8_castOf_8 rfl ?_
  refine j_iadd (pc := 9) C dX8_castOf_9 ?_
  refine cs_X8_198 (pc := 10) C ⟨Nat.le_of_ble_eq_true rfl, Nat.le_of_ble_eq_true rfl⟩ ⟨Nat.le_of_ble_eq_true rfl, Nat.le_of_ble_eq_true rfl⟩ (Nat.le_of_ble_eq_true rfl) dX8_castOf_10 h (fun r1 M1 h => ?_)
  exact j_iret (pc := 13) C dX8_castOf_13 (Nat.le_of_ble_eq_true rfl) (Nat.le_of_ble_eq_true rfl) h
theorem cs_X8_201 (C : Cx p l s m args meth c cc nL RX8 ret E) {b : Nat} {y0 : Int32} {y1 : Int32} {P : Int32 → Mm → Prop} (hR : rm_X8_ofWork.frames + 1 ≤ R.frames ∧ 8 + (3 + 11) + rm_X8_ofWork.locals ≤ R.locals) (hf : kc ≤ R.cells ∧ ks ≤ R.slots) (hst : (st.map fun v => v.category).sum ≤ 8) (d : decode cc pc = .ok (.invokevirtual 201, 3)) (h : zk M b = 8 ∧ w_X8_ofWork M b y0 y1 P) (kk : ∀ r M', P r M' → J p l e R s m args below meth c Q E nL M' kc ks (pc + 3) lo (.int r :: st)) : J p l e R s m args below meth c Q E nL M kc ks pc lo (.int y1 :: .int y0 :: .ref b :: st) :=
  j_cV_I (n := 2) (As := [.int y0, .int y1]) C co_X8 rfl wd_1370 wd_66 h.1 (c_X8_ofWork l E M b y0 y1 P h.2) ⟨wd_1371, wd_1368, wd_106, by decide +kernel, by decide +kernel, by decide +kernel⟩ rfl rfl hR hf rfl hst d kk
theorem cs_X8_204 (C : Cx p l s m args meth c cc nL RX8 ret E) {b : Nat} {y0 : Int32} {y1 : Int32} {P : Int32 → Mm → Prop} (hR : rm_X8_hasWork.frames + 1 ≤ R.frames ∧ 8 + (3 + 11) + rm_X8_hasWork.locals ≤ R.locals) (hf : kc ≤ R.cells ∧ ks ≤ R.slots) (hst : (st.map fun v => v.category).sum ≤ 8) (d : decode cc pc = .ok (.invokevirtual 204, 3)) (h : zk M b = 8 ∧ w_X8_hasWork M b y0 y1 P) (kk : ∀ r M', P r M' → J p l e R s m args below meth c Q E nL M' kc ks (pc + 3) lo (.int r :: st)) : J p l e R s m args below meth c Q E nL M kc ks pc lo (.int y1 :: .int y0 :: .ref b :: st) :=
  j_cV_I (n := 2) (As := [.int y0, .int y1]) C co_X8 rfl wd_1374 wd_67 h.1 (c_X8_hasWork l E M b y0 y1 P h.2) ⟨wd_1375, wd_1372, wd_106, by decide +kernel, by decide +kernel, by decide +kernel⟩ rfl rfl hR hf rfl hst d kk
theorem cs_X8_207 (C : Cx p l s m args meth c cc nL RX8 ret E) {b : Nat} {y0 : Int32} {y1 : Int32} {y2 : Int32} {P : Int32 → Mm → Prop} (hR : rm_X8_castOf.frames + 1 ≤ R.frames ∧ 8 + (4 + 11) + rm_X8_castOf.locals ≤ R.locals) (hf : kc ≤ R.cells ∧ ks ≤ R.slots) (hst : (st.map fun v => v.category).sum ≤ 8) (d : decode cc pc = .ok (.invokevirtual 207, 3)) (h : zk M b = 8 ∧ w_X8_castOf M b y0 y1 y2 P) (kk : ∀ r M', P r M' → J p l e R s m args below meth c Q E nL M' kc ks (pc + 3) lo (.int r :: st)) : J p l e R s m args below meth c Q E nL M kc ks pc lo (.int y2 :: .int y1 :: .int y0 :: .ref b :: st) :=
  j_cV_I (n := 3) (As := [.int y0, .int y1, .int y2]) C co_X8 rfl wd_1382 wd_69 h.1 (c_X8_castOf l E M b y0 y1 y2 P h.2) ⟨wd_1383, wd_1380, wd_106, by decide +kernel, by decide +kernel, by decide +kernel⟩ rfl rfl hR hf rfl hst d kk
abbrev rm_X8_inService : Room := { frames := 2, cells := 0, slots := 0, locals := 45 }
def l_X8_inService_17 (P : Int32 → Mm → Prop) (K56 : Mm → Nat → Int32 → Int32 → Int32 → Prop) : Nat → Mm → Nat → Int32 → Int32 → Int32 → Int32 → Prop
  | 0, _, _, _, _, _, _ => False
  | n + 1, M, x0, x1, x2, x3, x4 => zk M x0 = 8 ∧ w_X8_ofWork M x0 x3 (4 : Int32) (fun r2 M2 => (if r2 ≤ x4 then K56 M2 x0 x1 x2 x3 else zk M2 x0 = 8 ∧ w_X8_hasWork M2 x0 x1 x3 (fun r3 M3 => (if r3 = 0 then K56 M3 x0 x1 x2 x3 else zk M3 x0 = 8 ∧ w_X8_castOf M3 x0 x1 x3 x4 (fun r4 M4 => l_X8_inService_17 P K56 n M4 x0 x1 (x2 ||| ((1 : Int32) <<< (r4 &&& 31))) x3 (x4 + (1 : Int32)))))))
set_option maxHeartbeats 4000000 in
set_option maxRecDepth 100000 in
theorem jl_X8_inService_17 {P : Int32 → Mm → Prop} {K56 : Mm → Nat → Int32 → Int32 → Int32 → Prop} (C : Cx p l s m args meth c cX8_inService 5 RX8 (some .int) E) (hkc : kc ≤ rm_X8_inService.cells ∧ ks ≤ rm_X8_inService.slots) (k56 : ∀ M x0 x1 x2 x3, K56 M x0 x1 x2 x3 → J p l e rm_X8_inService s m args below meth c (QI below E P args s rm_X8_inService.cells rm_X8_inService.slots) E 5 M kc ks 56 [(0, .ref x0), (1, .int x1), (2, .int x2), (3, .int x3)] []) : ∀ n M x0 x1 x2 x3 x4, l_X8_inService_17 P K56 n M x0 x1 x2 x3 x4 → J p l e rm_X8_inService s m args below meth c (QI below E P args s rm_X8_inService.cells rm_X8_inService.slots) E 5 M kc ks 17 [(0, .ref x0), (1, .int x1), (2, .int x2), (3, .int x3), (4, .int x4)] [] := by
  intro n
  induction n with
  | zero => intro M x0 x1 x2 x3 x4 h; exact h.elim
  | succ n ih =>
    intro M x0 x1 x2 x3 x4 h
    rw [l_X8_inService_17] at h
    refine j_iload (pc := 17) C 4 dX8_inService_17 rfl ?_
    refine j_aload_n (pc := 19) C 0 dX8_inService_19 rfl ?_
    refine j_iload_n (pc := 20) C 3 dX8_inService_20 rfl ?_
    refine j_iconst (pc := 21) (v := (4 : Int32)) C dX8_inService_21 rfl ?_
    refine cs_X8_201 (pc := 22) C ⟨Nat.le_of_ble_eq_true rfl, Nat.le_of_ble_eq_true rfl⟩ hkc (Nat.le_of_ble_eq_true rfl) dX8_inService_22 h (fun r2 M2 h => ?_)
    refine j_icmp_ge (pc := 25) C 56 dX8_inService_25 (by decide) h (fun h => ?_) (fun h => ?_)
    · exact j_weak [0, 1, 2, 3] rfl (k56 _ _ _ _ _ h)
    · refine j_aload_n (pc := 28) C 0 dX8_inService_28 rfl ?_
      refine j_iload_n (pc := 29) C 1 dX8_inService_29 rfl ?_
      refine j_iload_n (pc := 30) C 3 dX8_inService_30 rfl ?_
      refine cs_X8_204 (pc := 31) C ⟨Nat.le_of_ble_eq_true rfl, Nat.le_of_ble_eq_true rfl⟩ hkc (Nat.le_of_ble_eq_true rfl) dX8_inService_31 h (fun r3 M3 h => ?_)
      refine j_if_eq (pc := 34) C 56 dX8_inService_34 (by decide) h (fun h => ?_) (fun h => ?_)
      · exact j_weak [0, 1, 2, 3] rfl (k56 _ _ _ _ _ h)
      · refine j_iload_n (pc := 37) C 2 dX8_inService_37 rfl ?_
        refine j_iconst (pc := 38) (v := (1 : Int32)) C dX8_inService_38 rfl ?_
        refine j_aload_n (pc := 39) C 0 dX8_inService_39 rfl ?_
        refine j_iload_n (pc := 40) C 1 dX8_inService_40 rfl ?_
        refine j_iload_n (pc := 41) C 3 dX8_inService_41 rfl ?_
        refine j_iload (pc := 42) C 4 dX8_inService_42 rfl ?_
        refine cs_X8_207 (pc := 44) C ⟨Nat.le_of_ble_eq_true rfl, Nat.le_of_ble_eq_true rfl⟩ hkc (Nat.le_of_ble_eq_true rfl) dX8_inService_44 h (fun r4 M4 h => ?_)
        refine j_ishl (pc := 47) C dX8_inService_47 ?_
        refine j_ior (pc := 48) C dX8_inService_48 ?_
        refine j_istore_n (pc := 49) C [(2, _), (0, _), (1, _), (3, _), (4, _)] dX8_inService_49 (by decide) rfl ?_
        refine j_iinc (pc := 50) (v := (1 : Int32)) C 4 [(4, _), (2, _), (0, _), (1, _), (3, _)] dX8_inService_50 rfl rfl (by decide) rfl ?_
        refine j_goto (pc := 53) C 17 dX8_inService_53 (by decide) ?_
        exact j_weak [2, 3, 1, 4, 0] rfl (ih _ _ _ _ _ _ h)
def l_X8_inService_4 (P : Int32 → Mm → Prop) (K62 : Mm → Int32 → Prop) : Nat → Mm → Nat → Int32 → Int32 → Int32 → Prop
  | 0, _, _, _, _, _ => False
  | n + 1, M, x0, x1, x2, x3 => (zk M x0 = 8 ∧ ∃ a1, zR M x0 1 = some a1 ∧ zk M a1 = 10 ∧ vp_in (3 : Int32) (zl M a1) ∧ (if (zI M a1 (3 : Int32).toNatClampNeg) ≤ x3 then K62 M x2 else (∃ n17, l_X8_inService_17 P (fun M5 x0_5 x1_5 x2_5 x3_5 => l_X8_inService_4 P K62 n M5 x0_5 x1_5 x2_5 (x3_5 + (1 : Int32))) n17 M x0 x1 x2 x3 (0 : Int32))))
set_option maxHeartbeats 4000000 in
set_option maxRecDepth 100000 in
theorem jl_X8_inService_4 {P : Int32 → Mm → Prop} {K62 : Mm → Int32 → Prop} (C : Cx p l s m args meth c cX8_inService 5 RX8 (some .int) E) (hkc : kc ≤ rm_X8_inService.cells ∧ ks ≤ rm_X8_inService.slots) (k62 : ∀ M x2, K62 M x2 → J p l e rm_X8_inService s m args below meth c (QI below E P args s rm_X8_inService.cells rm_X8_inService.slots) E 5 M kc ks 62 [(2, .int x2)] []) : ∀ n M x0 x1 x2 x3, l_X8_inService_4 P K62 n M x0 x1 x2 x3 → J p l e rm_X8_inService s m args below meth c (QI below E P args s rm_X8_inService.cells rm_X8_inService.slots) E 5 M kc ks 4 [(0, .ref x0), (1, .int x1), (2, .int x2), (3, .int x3)] [] := by
  intro n
  induction n with
  | zero => intro M x0 x1 x2 x3 h; exact h.elim
  | succ n ih =>
    intro M x0 x1 x2 x3 h
    rw [l_X8_inService_4] at h
    refine j_iload_n (pc := 4) C 3 dX8_inService_4 rfl ?_
    refine j_aload_n (pc := 5) C 0 dX8_inService_5 rfl ?_
    refine gf_X8_7 (pc := 6) C dX8_inService_6 h (fun a1 h => ?_)
    refine j_iconst (pc := 9) (v := (3 : Int32)) C dX8_inService_9 rfl ?_
    refine j_iald (pc := 10) C dX8_inService_10 h (fun h => ?_)
    refine j_icmp_ge (pc := 11) C 62 dX8_inService_11 (by decide) h (fun h => ?_) (fun h => ?_)
    · exact j_weak [2] rfl (k62 _ _ h)
    · refine j_iconst (pc := 14) (v := (0 : Int32)) C dX8_inService_14 rfl ?_
      refine j_istore (pc := 15) C [(4, _), (0, _), (1, _), (2, _), (3, _)] dX8_inService_15 (by decide) rfl ?_
      obtain ⟨n17, h⟩ := h
      refine j_weak [1, 2, 3, 4, 0] rfl (jl_X8_inService_17 C hkc (fun M5 x0_5 x1_5 x2_5 x3_5 h => ?_) n17 _ _ _ _ _ _ h)
      · refine j_iinc (pc := 56) (v := (1 : Int32)) C 3 [(3, _), (0, _), (1, _), (2, _)] dX8_inService_56 rfl rfl (by decide) rfl ?_
        refine j_goto (pc := 59) C 4 dX8_inService_59 (by decide) ?_
        exact j_weak [1, 2, 3, 0] rfl (ih _ _ _ _ _ h)
def w_X8_inService (M : Mm) (x0 : Nat) (x1 : Int32) (P : Int32 → Mm → Prop) : Prop := (∃ n4, l_X8_inService_4 P (fun M6 x2_6 => P x2_6 M6) n4 M x0 x1 (0 : Int32) (0 : Int32))
set_option maxHeartbeats 4000000 in
set_option maxRecDepth 100000 in
theorem c_X8_inService (l : Launch) (E : EV) (M : Mm) (x0 : Nat) (x1 : Int32) (P : Int32 → Mm → Prop) (h : w_X8_inService M x0 x1 P) : CtI l E yX8_inService cX8_inService 5 .int rm_X8_inService 0 0 [.ref x0, .int x1] M P := by
  refine ctI_of (by decide +kernel) (Nat.le_of_ble_eq_true rfl) ?_
  intro p e s m args below meth c C
  rw [w_X8_inService] at h
  show J p l e rm_X8_inService s m args below meth c (QI below E P args s 0 0) E 5 M 0 0 0 [(0, .ref x0), (1, .int x1)] []
  refine j_iconst (pc := 0) (v := (0 : Int32)) C dX8_inService_0 rfl ?_
  refine j_istore_n (pc := 1) C [(2, _), (0, _), (1, _)] dX8_inService_1 (by decide) rfl ?_
  refine j_iconst (pc := 2) (v := (0 : Int32)) C dX8_inService_2 rfl ?_
  refine j_istore_n (pc := 3) C [(3, _), (2, _), (0, _), (1, _)] dX8_inService_3 (by decide) rfl ?_
  obtain ⟨n4, h⟩ := h
  refine j_weak [2, 3, 1, 0] rfl (jl_X8_inService_4 C ⟨Nat.le_of_ble_eq_true rfl, Nat.le_of_ble_eq_true rfl⟩ (fun M6 x2_6 h => ?_) n4 _ _ _ _ _ h)
  · refine j_iload_n (pc := 62) C 0 dX8_inService_62 rfl ?_
    exact j_iret (pc := 63) C dX8_inService_63 (Nat.le_of_ble_eq_true rfl) (Nat.le_of_ble_eq_true rfl) h
abbrev rm_X8_doublingsIn : Room := { frames := 2, cells := 0, slots := 0, locals := 45 }
def l_X8_doublingsIn_19 (P : Int32 → Mm → Prop) (K97 : Mm → Nat → Int32 → Int32 → Int32 → Int32 → Prop) : Nat → Mm → Nat → Int32 → Int32 → Int32 → Int32 → Int32 → Prop
  | 0, _, _, _, _, _, _, _ => False
  | n + 1, M, x0, x1, x2, x3, x4, x5 => zk M x0 = 8 ∧ w_X8_ofWork M x0 x4 (4 : Int32) (fun r2 M2 => (if r2 ≤ x5 then K97 M2 x0 x1 x2 x3 x4 else zk M2 x0 = 8 ∧ w_X8_hasWork M2 x0 x1 x4 (fun r3 M3 => (if r3 = 0 then K97 M3 x0 x1 x2 x3 x4 else zk M3 x0 = 8 ∧ w_X8_castOf M3 x0 x1 x4 x5 (fun r4 M4 => (if x2 = (-1 : Int32) then zk M4 x0 = 8 ∧ w_X8_ofPlayer M4 x0 r4 (3 : Int32) (fun r5 M5 => zk M5 x0 = 8 ∧ w_X8_ofWork M5 x0 x4 ((5 : Int32) + x5) (fun r6 M6 => (if r5 = r6 then l_X8_doublingsIn_19 P K97 n M6 x0 x1 x2 (x3 + (0 : Int32)) x4 (x5 + (1 : Int32)) else l_X8_doublingsIn_19 P K97 n M6 x0 x1 x2 (x3 + (1 : Int32)) x4 (x5 + (1 : Int32))))) else (if r4 = x2 then zk M4 x0 = 8 ∧ w_X8_ofPlayer M4 x0 r4 (3 : Int32) (fun r7 M7 => zk M7 x0 = 8 ∧ w_X8_ofWork M7 x0 x4 ((5 : Int32) + x5) (fun r8 M8 => (if r7 = r8 then l_X8_doublingsIn_19 P K97 n M8 x0 x1 x2 (x3 + (0 : Int32)) x4 (x5 + (1 : Int32)) else l_X8_doublingsIn_19 P K97 n M8 x0 x1 x2 (x3 + (1 : Int32)) x4 (x5 + (1 : Int32))))) else l_X8_doublingsIn_19 P K97 n M4 x0 x1 x2 (x3 + (0 : Int32)) x4 (x5 + (1 : Int32)))))))))
set_option maxHeartbeats 4000000 in
set_option maxRecDepth 100000 in
theorem jl_X8_doublingsIn_19 {P : Int32 → Mm → Prop} {K97 : Mm → Nat → Int32 → Int32 → Int32 → Int32 → Prop} (C : Cx p l s m args meth c cX8_doublingsIn 7 RX8 (some .int) E) (hkc : kc ≤ rm_X8_doublingsIn.cells ∧ ks ≤ rm_X8_doublingsIn.slots) (k97 : ∀ M x0 x1 x2 x3 x4, K97 M x0 x1 x2 x3 x4 → J p l e rm_X8_doublingsIn s m args below meth c (QI below E P args s rm_X8_doublingsIn.cells rm_X8_doublingsIn.slots) E 7 M kc ks 97 [(0, .ref x0), (1, .int x1), (2, .int x2), (3, .int x3), (4, .int x4)] []) : ∀ n M x0 x1 x2 x3 x4 x5, l_X8_doublingsIn_19 P K97 n M x0 x1 x2 x3 x4 x5 → J p l e rm_X8_doublingsIn s m args below meth c (QI below E P args s rm_X8_doublingsIn.cells rm_X8_doublingsIn.slots) E 7 M kc ks 19 [(0, .ref x0), (1, .int x1), (2, .int x2), (3, .int x3), (4, .int x4), (5, .int x5)] [] := by
  intro n
  induction n with
  | zero => intro M x0 x1 x2 x3 x4 x5 h; exact h.elim
  | succ n ih =>
    intro M x0 x1 x2 x3 x4 x5 h
    rw [l_X8_doublingsIn_19] at h
    refine j_iload (pc := 19) C 5 dX8_doublingsIn_19 rfl ?_
    refine j_aload_n (pc := 21) C 0 dX8_doublingsIn_21 rfl ?_
    refine j_iload (pc := 22) C 4 dX8_doublingsIn_22 rfl ?_
    refine j_iconst (pc := 24) (v := (4 : Int32)) C dX8_doublingsIn_24 rfl ?_
    refine cs_X8_201 (pc := 25) C ⟨Nat.le_of_ble_eq_true rfl, Nat.le_of_ble_eq_true rfl⟩ hkc (Nat.le_of_ble_eq_true rfl) dX8_doublingsIn_25 h (fun r2 M2 h => ?_)
    refine j_icmp_ge (pc := 28) C 97 dX8_doublingsIn_28 (by decide) h (fun h => ?_) (fun h => ?_)
    · exact j_weak [0, 1, 2, 3, 4] rfl (k97 _ _ _ _ _ _ h)
    · refine j_aload_n (pc := 31) C 0 dX8_doublingsIn_31 rfl ?_
      refine j_iload_n (pc := 32) C 1 dX8_doublingsIn_32 rfl ?_
      refine j_iload (pc := 33) C 4 dX8_doublingsIn_33 rfl ?_
      refine cs_X8_204 (pc := 35) C ⟨Nat.le_of_ble_eq_true rfl, Nat.le_of_ble_eq_true rfl⟩ hkc (Nat.le_of_ble_eq_true rfl) dX8_doublingsIn_35 h (fun r3 M3 h => ?_)
      refine j_if_eq (pc := 38) C 97 dX8_doublingsIn_38 (by decide) h (fun h => ?_) (fun h => ?_)
      · exact j_weak [0, 1, 2, 3, 4] rfl (k97 _ _ _ _ _ _ h)
      · refine j_aload_n (pc := 41) C 0 dX8_doublingsIn_41 rfl ?_
        refine j_iload_n (pc := 42) C 1 dX8_doublingsIn_42 rfl ?_
        refine j_iload (pc := 43) C 4 dX8_doublingsIn_43 rfl ?_
        refine j_iload (pc := 45) C 5 dX8_doublingsIn_45 rfl ?_
        refine cs_X8_207 (pc := 47) C ⟨Nat.le_of_ble_eq_true rfl, Nat.le_of_ble_eq_true rfl⟩ hkc (Nat.le_of_ble_eq_true rfl) dX8_doublingsIn_47 h (fun r4 M4 h => ?_)
        refine j_istore (pc := 50) C [(6, _), (0, _), (1, _), (2, _), (3, _), (4, _), (5, _)] dX8_doublingsIn_50 (by decide) rfl ?_
        refine j_iload_n (pc := 52) C 4 dX8_doublingsIn_52 rfl ?_
        refine j_iload_n (pc := 53) C 3 dX8_doublingsIn_53 rfl ?_
        refine j_iconst (pc := 54) (v := (-1 : Int32)) C dX8_doublingsIn_54 rfl ?_
        refine j_icmp_eq (pc := 55) C 64 dX8_doublingsIn_55 (by decide) h (fun h => ?_) (fun h => ?_)
        · refine j_aload_n (pc := 64) C 1 dX8_doublingsIn_64 rfl ?_
          refine j_iload (pc := 65) C 0 dX8_doublingsIn_65 rfl ?_
          refine j_iconst (pc := 67) (v := (3 : Int32)) C dX8_doublingsIn_67 rfl ?_
          refine cs_X8_194 (pc := 68) C ⟨Nat.le_of_ble_eq_true rfl, Nat.le_of_ble_eq_true rfl⟩ hkc (Nat.le_of_ble_eq_true rfl) dX8_doublingsIn_68 h (fun r5 M5 h => ?_)
          refine j_aload_n (pc := 71) C 1 dX8_doublingsIn_71 rfl ?_
          refine j_iload (pc := 72) C 5 dX8_doublingsIn_72 rfl ?_
          refine j_iconst (pc := 74) (v := (5 : Int32)) C dX8_doublingsIn_74 rfl ?_
          refine j_iload (pc := 75) C 6 dX8_doublingsIn_75 rfl ?_
          refine j_iadd (pc := 77) C dX8_doublingsIn_77 ?_
          refine cs_X8_201 (pc := 78) C ⟨Nat.le_of_ble_eq_true rfl, Nat.le_of_ble_eq_true rfl⟩ hkc (Nat.le_of_ble_eq_true rfl) dX8_doublingsIn_78 h (fun r6 M6 h => ?_)
          refine j_icmp_eq (pc := 81) C 88 dX8_doublingsIn_81 (by decide) h (fun h => ?_) (fun h => ?_)
          · refine j_iconst (pc := 88) (v := (0 : Int32)) C dX8_doublingsIn_88 rfl ?_
            refine j_iadd (pc := 89) C dX8_doublingsIn_89 ?_
            refine j_istore_n (pc := 90) C [(3, _), (6, _), (0, _), (1, _), (2, _), (4, _), (5, _)] dX8_doublingsIn_90 (by decide) rfl ?_
            refine j_iinc (pc := 91) (v := (1 : Int32)) C 6 [(5, _), (3, _), (6, _), (0, _), (1, _), (2, _), (4, _)] dX8_doublingsIn_91 rfl rfl (by decide) rfl ?_
            refine j_goto (pc := 94) C 19 dX8_doublingsIn_94 (by decide) ?_
            exact j_weak [3, 4, 5, 1, 6, 0] rfl (ih _ _ _ _ _ _ _ h)
          · refine j_iconst (pc := 84) (v := (1 : Int32)) C dX8_doublingsIn_84 rfl ?_
            refine j_goto (pc := 85) C 89 dX8_doublingsIn_85 (by decide) ?_
            refine j_iadd (pc := 89) C dX8_doublingsIn_89 ?_
            refine j_istore_n (pc := 90) C [(3, _), (6, _), (0, _), (1, _), (2, _), (4, _), (5, _)] dX8_doublingsIn_90 (by decide) rfl ?_
            refine j_iinc (pc := 91) (v := (1 : Int32)) C 6 [(5, _), (3, _), (6, _), (0, _), (1, _), (2, _), (4, _)] dX8_doublingsIn_91 rfl rfl (by decide) rfl ?_
            refine j_goto (pc := 94) C 19 dX8_doublingsIn_94 (by decide) ?_
            exact j_weak [3, 4, 5, 1, 6, 0] rfl (ih _ _ _ _ _ _ _ h)
        · refine j_iload (pc := 58) C 0 dX8_doublingsIn_58 rfl ?_
          refine j_iload_n (pc := 60) C 3 dX8_doublingsIn_60 rfl ?_
          refine j_icmp_ne (pc := 61) C 88 dX8_doublingsIn_61 (by decide) h (fun h => ?_) (fun h => ?_)
          · refine j_iconst (pc := 88) (v := (0 : Int32)) C dX8_doublingsIn_88 rfl ?_
            refine j_iadd (pc := 89) C dX8_doublingsIn_89 ?_
            refine j_istore_n (pc := 90) C [(3, _), (6, _), (0, _), (1, _), (2, _), (4, _), (5, _)] dX8_doublingsIn_90 (by decide) rfl ?_
            refine j_iinc (pc := 91) (v := (1 : Int32)) C 6 [(5, _), (3, _), (6, _), (0, _), (1, _), (2, _), (4, _)] dX8_doublingsIn_91 rfl rfl (by decide) rfl ?_
            refine j_goto (pc := 94) C 19 dX8_doublingsIn_94 (by decide) ?_
            exact j_weak [3, 4, 5, 1, 6, 0] rfl (ih _ _ _ _ _ _ _ h)
          · refine j_aload_n (pc := 64) C 1 dX8_doublingsIn_64 rfl ?_
            refine j_iload (pc := 65) C 0 dX8_doublingsIn_65 rfl ?_
            refine j_iconst (pc := 67) (v := (3 : Int32)) C dX8_doublingsIn_67 rfl ?_
            refine cs_X8_194 (pc := 68) C ⟨Nat.le_of_ble_eq_true rfl, Nat.le_of_ble_eq_true rfl⟩ hkc (Nat.le_of_ble_eq_true rfl) dX8_doublingsIn_68 h (fun r7 M7 h => ?_)
            refine j_aload_n (pc := 71) C 1 dX8_doublingsIn_71 rfl ?_
            refine j_iload (pc := 72) C 5 dX8_doublingsIn_72 rfl ?_
            refine j_iconst (pc := 74) (v := (5 : Int32)) C dX8_doublingsIn_74 rfl ?_
            refine j_iload (pc := 75) C 6 dX8_doublingsIn_75 rfl ?_
            refine j_iadd (pc := 77) C dX8_doublingsIn_77 ?_
            refine cs_X8_201 (pc := 78) C ⟨Nat.le_of_ble_eq_true rfl, Nat.le_of_ble_eq_true rfl⟩ hkc (Nat.le_of_ble_eq_true rfl) dX8_doublingsIn_78 h (fun r8 M8 h => ?_)
            refine j_icmp_eq (pc := 81) C 88 dX8_doublingsIn_81 (by decide) h (fun h => ?_) (fun h => ?_)
            · refine j_iconst (pc := 88) (v := (0 : Int32)) C dX8_doublingsIn_88 rfl ?_
              refine j_iadd (pc := 89) C dX8_doublingsIn_89 ?_
              refine j_istore_n (pc := 90) C [(3, _), (6, _), (0, _), (1, _), (2, _), (4, _), (5, _)] dX8_doublingsIn_90 (by decide) rfl ?_
              refine j_iinc (pc := 91) (v := (1 : Int32)) C 6 [(5, _), (3, _), (6, _), (0, _), (1, _), (2, _), (4, _)] dX8_doublingsIn_91 rfl rfl (by decide) rfl ?_
              refine j_goto (pc := 94) C 19 dX8_doublingsIn_94 (by decide) ?_
              exact j_weak [3, 4, 5, 1, 6, 0] rfl (ih _ _ _ _ _ _ _ h)
            · refine j_iconst (pc := 84) (v := (1 : Int32)) C dX8_doublingsIn_84 rfl ?_
              refine j_goto (pc := 85) C 89 dX8_doublingsIn_85 (by decide) ?_
              refine j_iadd (pc := 89) C dX8_doublingsIn_89 ?_
              refine j_istore_n (pc := 90) C [(3, _), (6, _), (0, _), (1, _), (2, _), (4, _), (5, _)] dX8_doublingsIn_90 (by decide) rfl ?_
              refine j_iinc (pc := 91) (v := (1 : Int32)) C 6 [(5, _), (3, _), (6, _), (0, _), (1, _), (2, _), (4, _)] dX8_doublingsIn_91 rfl rfl (by decide) rfl ?_
              refine j_goto (pc := 94) C 19 dX8_doublingsIn_94 (by decide) ?_
              exact j_weak [3, 4, 5, 1, 6, 0] rfl (ih _ _ _ _ _ _ _ h)
def l_X8_doublingsIn_5 (P : Int32 → Mm → Prop) (K103 : Mm → Int32 → Prop) : Nat → Mm → Nat → Int32 → Int32 → Int32 → Int32 → Prop
  | 0, _, _, _, _, _, _ => False
  | n + 1, M, x0, x1, x2, x3, x4 => (zk M x0 = 8 ∧ ∃ a1, zR M x0 1 = some a1 ∧ zk M a1 = 10 ∧ vp_in (3 : Int32) (zl M a1) ∧ (if (zI M a1 (3 : Int32).toNatClampNeg) ≤ x4 then K103 M x3 else (∃ n19, l_X8_doublingsIn_19 P (fun M9 x0_9 x1_9 x2_9 x3_9 x4_9 => l_X8_doublingsIn_5 P K103 n M9 x0_9 x1_9 x2_9 x3_9 (x4_9 + (1 : Int32))) n19 M x0 x1 x2 x3 x4 (0 : Int32))))
set_option maxHeartbeats 4000000 in
set_option maxRecDepth 100000 in
theorem jl_X8_doublingsIn_5 {P : Int32 → Mm → Prop} {K103 : Mm → Int32 → Prop} (C : Cx p l s m args meth c cX8_doublingsIn 7 RX8 (some .int) E) (hkc : kc ≤ rm_X8_doublingsIn.cells ∧ ks ≤ rm_X8_doublingsIn.slots) (k103 : ∀ M x3, K103 M x3 → J p l e rm_X8_doublingsIn s m args below meth c (QI below E P args s rm_X8_doublingsIn.cells rm_X8_doublingsIn.slots) E 7 M kc ks 103 [(3, .int x3)] []) : ∀ n M x0 x1 x2 x3 x4, l_X8_doublingsIn_5 P K103 n M x0 x1 x2 x3 x4 → J p l e rm_X8_doublingsIn s m args below meth c (QI below E P args s rm_X8_doublingsIn.cells rm_X8_doublingsIn.slots) E 7 M kc ks 5 [(0, .ref x0), (1, .int x1), (2, .int x2), (3, .int x3), (4, .int x4)] [] := by
  intro n
  induction n with
  | zero => intro M x0 x1 x2 x3 x4 h; exact h.elim
  | succ n ih =>
    intro M x0 x1 x2 x3 x4 h
    rw [l_X8_doublingsIn_5] at h
    refine j_iload (pc := 5) C 4 dX8_doublingsIn_5 rfl ?_
    refine j_aload_n (pc := 7) C 0 dX8_doublingsIn_7 rfl ?_
    refine gf_X8_7 (pc := 8) C dX8_doublingsIn_8 h (fun a1 h => ?_)
    refine j_iconst (pc := 11) (v := (3 : Int32)) C dX8_doublingsIn_11 rfl ?_
    refine j_iald (pc := 12) C dX8_doublingsIn_12 h (fun h => ?_)
    refine j_icmp_ge (pc := 13) C 103 dX8_doublingsIn_13 (by decide) h (fun h => ?_) (fun h => ?_)
    · exact j_weak [3] rfl (k103 _ _ h)
    · refine j_iconst (pc := 16) (v := (0 : Int32)) C dX8_doublingsIn_16 rfl ?_
      refine j_istore (pc := 17) C [(5, _), (0, _), (1, _), (2, _), (3, _), (4, _)] dX8_doublingsIn_17 (by decide) rfl ?_
      obtain ⟨n19, h⟩ := h
      refine j_weak [1, 2, 3, 4, 5, 0] rfl (jl_X8_doublingsIn_19 C hkc (fun M9 x0_9 x1_9 x2_9 x3_9 x4_9 h => ?_) n19 _ _ _ _ _ _ _ h)
      · refine j_iinc (pc := 97) (v := (1 : Int32)) C 4 [(4, _), (0, _), (1, _), (2, _), (3, _)] dX8_doublingsIn_97 rfl rfl (by decide) rfl ?_
        refine j_goto (pc := 100) C 5 dX8_doublingsIn_100 (by decide) ?_
        exact j_weak [1, 2, 3, 4, 0] rfl (ih _ _ _ _ _ _ h)
def w_X8_doublingsIn (M : Mm) (x0 : Nat) (x1 : Int32) (x2 : Int32) (P : Int32 → Mm → Prop) : Prop := (∃ n5, l_X8_doublingsIn_5 P (fun M10 x3_10 => P x3_10 M10) n5 M x0 x1 x2 (0 : Int32) (0 : Int32))
set_option maxHeartbeats 4000000 in
set_option maxRecDepth 100000 in
theorem c_X8_doublingsIn (l : Launch) (E : EV) (M : Mm) (x0 : Nat) (x1 : Int32) (x2 : Int32) (P : Int32 → Mm → Prop) (h : w_X8_doublingsIn M x0 x1 x2 P) : CtI l E yX8_doublingsIn cX8_doublingsIn 7 .int rm_X8_doublingsIn 0 0 [.ref x0, .int x1, .int x2] M P := by
  refine ctI_of (by decide +kernel) (Nat.le_of_ble_eq_true rfl) ?_
  intro p e s m args below meth c C
  rw [w_X8_doublingsIn] at h
  show J p l e rm_X8_doublingsIn s m args below meth c (QI below E P args s 0 0) E 7 M 0 0 0 [(0, .ref x0), (1, .int x1), (2, .int x2)] []
  refine j_iconst (pc := 0) (v := (0 : Int32)) C dX8_doublingsIn_0 rfl ?_
  refine j_istore_n (pc := 1) C [(3, _), (0, _), (1, _), (2, _)] dX8_doublingsIn_1 (by decide) rfl ?_
  refine j_iconst (pc := 2) (v := (0 : Int32)) C dX8_doublingsIn_2 rfl ?_
  refine j_istore (pc := 3) C [(4, _), (3, _), (0, _), (1, _), (2, _)] dX8_doublingsIn_3 (by decide) rfl ?_
  obtain ⟨n5, h⟩ := h
  refine j_weak [2, 3, 4, 1, 0] rfl (jl_X8_doublingsIn_5 C ⟨Nat.le_of_ble_eq_true rfl, Nat.le_of_ble_eq_true rfl⟩ (fun M10 x3_10 h => ?_) n5 _ _ _ _ _ _ h)
  · refine j_iload_n (pc := 103) C 0 dX8_doublingsIn_103 rfl ?_
    exact j_iret (pc := 104) C dX8_doublingsIn_104 (Nat.le_of_ble_eq_true rfl) (Nat.le_of_ble_eq_true rfl) h
theorem cs_X8_211 (C : Cx p l s m args meth c cc nL RX8 ret E) {b : Nat} {y0 : Int32} {P : Int32 → Mm → Prop} (hR : rm_X8_inService.frames + 1 ≤ R.frames ∧ 8 + (5 + 11) + rm_X8_inService.locals ≤ R.locals) (hf : kc ≤ R.cells ∧ ks ≤ R.slots) (hst : (st.map fun v => v.category).sum ≤ 8) (d : decode cc pc = .ok (.invokevirtual 211, 3)) (h : zk M b = 8 ∧ w_X8_inService M b y0 P) (kk : ∀ r M', P r M' → J p l e R s m args below meth c Q E nL M' kc ks (pc + 3) lo (.int r :: st)) : J p l e R s m args below meth c Q E nL M kc ks pc lo (.int y0 :: .ref b :: st) :=
  j_cV_I (n := 1) (As := [.int y0]) C co_X8 rfl wd_1366 wd_65 h.1 (c_X8_inService l E M b y0 P h.2) ⟨wd_1367, wd_1364, wd_106, by decide +kernel, by decide +kernel, by decide +kernel⟩ rfl rfl hR hf rfl hst d kk
abbrev rm_X8_freeAt : Room := { frames := 3, cells := 0, slots := 0, locals := 69 }
def l_X8_freeAt_4 (P : Int32 → Mm → Prop) (K45 : Mm → Nat → Int32 → Int32 → Prop) : Nat → Mm → Nat → Int32 → Int32 → Int32 → Prop
  | 0, _, _, _, _, _ => False
  | n + 1, M, x0, x1, x2, x3 => (zk M x0 = 8 ∧ ∃ a1, zR M x0 1 = some a1 ∧ zk M a1 = 10 ∧ vp_in (2 : Int32) (zl M a1) ∧ (if (zI M a1 (2 : Int32).toNatClampNeg) ≤ x3 then K45 M x0 x1 x2 else zk M x0 = 8 ∧ w_X8_ofPlayer M x0 x3 (1 : Int32) (fun r2 M2 => ¬ (3 : Int32) = 0 ∧ (if ((r2 >>> ((x1 / (3 : Int32)) &&& 31)) &&& (1 : Int32)) = 0 then l_X8_freeAt_4 P K45 n M2 x0 x1 (x2 ||| ((1 : Int32) <<< (x3 &&& 31))) (x3 + (1 : Int32)) else l_X8_freeAt_4 P K45 n M2 x0 x1 (x2 ||| (0 : Int32)) (x3 + (1 : Int32))))))
set_option maxHeartbeats 4000000 in
set_option maxRecDepth 100000 in
theorem jl_X8_freeAt_4 {P : Int32 → Mm → Prop} {K45 : Mm → Nat → Int32 → Int32 → Prop} (C : Cx p l s m args meth c cX8_freeAt 4 RX8 (some .int) E) (hkc : kc ≤ rm_X8_freeAt.cells ∧ ks ≤ rm_X8_freeAt.slots) (k45 : ∀ M x0 x1 x2, K45 M x0 x1 x2 → J p l e rm_X8_freeAt s m args below meth c (QI below E P args s rm_X8_freeAt.cells rm_X8_freeAt.slots) E 4 M kc ks 45 [(0, .ref x0), (1, .int x1), (2, .int x2)] []) : ∀ n M x0 x1 x2 x3, l_X8_freeAt_4 P K45 n M x0 x1 x2 x3 → J p l e rm_X8_freeAt s m args below meth c (QI below E P args s rm_X8_freeAt.cells rm_X8_freeAt.slots) E 4 M kc ks 4 [(0, .ref x0), (1, .int x1), (2, .int x2), (3, .int x3)] [] := by
  intro n
  induction n with
  | zero => intro M x0 x1 x2 x3 h; exact h.elim
  | succ n ih =>
    intro M x0 x1 x2 x3 h
    rw [l_X8_freeAt_4] at h
    refine j_iload_n (pc := 4) C 3 dX8_freeAt_4 rfl ?_
    refine j_aload_n (pc := 5) C 0 dX8_freeAt_5 rfl ?_
    refine gf_X8_7 (pc := 6) C dX8_freeAt_6 h (fun a1 h => ?_)
    refine j_iconst (pc := 9) (v := (2 : Int32)) C dX8_freeAt_9 rfl ?_
    refine j_iald (pc := 10) C dX8_freeAt_10 h (fun h => ?_)
    refine j_icmp_ge (pc := 11) C 45 dX8_freeAt_11 (by decide) h (fun h => ?_) (fun h => ?_)
    · exact j_weak [0, 1, 2] rfl (k45 _ _ _ _ h)
    · refine j_iload_n (pc := 14) C 2 dX8_freeAt_14 rfl ?_
      refine j_aload_n (pc := 15) C 0 dX8_freeAt_15 rfl ?_
      refine j_iload_n (pc := 16) C 3 dX8_freeAt_16 rfl ?_
      refine j_iconst (pc := 17) (v := (1 : Int32)) C dX8_freeAt_17 rfl ?_
      refine cs_X8_194 (pc := 18) C ⟨Nat.le_of_ble_eq_true rfl, Nat.le_of_ble_eq_true rfl⟩ hkc (Nat.le_of_ble_eq_true rfl) dX8_freeAt_18 h (fun r2 M2 h => ?_)
      refine j_iload_n (pc := 21) C 1 dX8_freeAt_21 rfl ?_
      refine j_iconst (pc := 22) (v := (3 : Int32)) C dX8_freeAt_22 rfl ?_
      refine j_idiv (pc := 23) C dX8_freeAt_23 h (fun h => ?_)
      refine j_ishr (pc := 24) C dX8_freeAt_24 ?_
      refine j_iconst (pc := 25) (v := (1 : Int32)) C dX8_freeAt_25 rfl ?_
      refine j_iand (pc := 26) C dX8_freeAt_26 ?_
      refine j_if_ne (pc := 27) C 36 dX8_freeAt_27 (by decide) h (fun h => ?_) (fun h => ?_)
      · refine j_iconst (pc := 36) (v := (0 : Int32)) C dX8_freeAt_36 rfl ?_
        refine j_ior (pc := 37) C dX8_freeAt_37 ?_
        refine j_istore_n (pc := 38) C [(2, _), (0, _), (1, _), (3, _)] dX8_freeAt_38 (by decide) rfl ?_
        refine j_iinc (pc := 39) (v := (1 : Int32)) C 3 [(3, _), (2, _), (0, _), (1, _)] dX8_freeAt_39 rfl rfl (by decide) rfl ?_
        refine j_goto (pc := 42) C 4 dX8_freeAt_42 (by decide) ?_
        exact j_weak [2, 3, 1, 0] rfl (ih _ _ _ _ _ h)
      · refine j_iconst (pc := 30) (v := (1 : Int32)) C dX8_freeAt_30 rfl ?_
        refine j_iload_n (pc := 31) C 3 dX8_freeAt_31 rfl ?_
        refine j_ishl (pc := 32) C dX8_freeAt_32 ?_
        refine j_goto (pc := 33) C 37 dX8_freeAt_33 (by decide) ?_
        refine j_ior (pc := 37) C dX8_freeAt_37 ?_
        refine j_istore_n (pc := 38) C [(2, _), (0, _), (1, _), (3, _)] dX8_freeAt_38 (by decide) rfl ?_
        refine j_iinc (pc := 39) (v := (1 : Int32)) C 3 [(3, _), (2, _), (0, _), (1, _)] dX8_freeAt_39 rfl rfl (by decide) rfl ?_
        refine j_goto (pc := 42) C 4 dX8_freeAt_42 (by decide) ?_
        exact j_weak [2, 3, 1, 0] rfl (ih _ _ _ _ _ h)
def l_X8_freeAt_47 (P : Int32 → Mm → Prop) (K87 : Mm → Int32 → Prop) : Nat → Mm → Nat → Int32 → Int32 → Int32 → Prop
  | 0, _, _, _, _, _ => False
  | n + 1, M, x0, x1, x2, x3 => (zk M x0 = 8 ∧ ∃ a4, zR M x0 2 = some a4 ∧ zk M a4 = 10 ∧ vp_in (0 : Int32) (zl M a4) ∧ (if (zI M a4 (0 : Int32).toNatClampNeg) ≤ x3 then K87 M x2 else zk M x0 = 8 ∧ w_X8_of M x0 x3 (0 : Int32) (fun r5 M5 => (if r5 = x1 then zk M5 x0 = 8 ∧ w_X8_inService M5 x0 x3 (fun r6 M6 => l_X8_freeAt_47 P K87 n M6 x0 x1 (x2 &&& (r6 ^^^ (-1 : Int32))) (x3 + (1 : Int32))) else l_X8_freeAt_47 P K87 n M5 x0 x1 (x2 &&& (-1 : Int32)) (x3 + (1 : Int32))))))
set_option maxHeartbeats 4000000 in
set_option maxRecDepth 100000 in
theorem jl_X8_freeAt_47 {P : Int32 → Mm → Prop} {K87 : Mm → Int32 → Prop} (C : Cx p l s m args meth c cX8_freeAt 4 RX8 (some .int) E) (hkc : kc ≤ rm_X8_freeAt.cells ∧ ks ≤ rm_X8_freeAt.slots) (k87 : ∀ M x2, K87 M x2 → J p l e rm_X8_freeAt s m args below meth c (QI below E P args s rm_X8_freeAt.cells rm_X8_freeAt.slots) E 4 M kc ks 87 [(2, .int x2)] []) : ∀ n M x0 x1 x2 x3, l_X8_freeAt_47 P K87 n M x0 x1 x2 x3 → J p l e rm_X8_freeAt s m args below meth c (QI below E P args s rm_X8_freeAt.cells rm_X8_freeAt.slots) E 4 M kc ks 47 [(0, .ref x0), (1, .int x1), (2, .int x2), (3, .int x3)] [] := by
  intro n
  induction n with
  | zero => intro M x0 x1 x2 x3 h; exact h.elim
  | succ n ih =>
    intro M x0 x1 x2 x3 h
    rw [l_X8_freeAt_47] at h
    refine j_iload_n (pc := 47) C 3 dX8_freeAt_47 rfl ?_
    refine j_aload_n (pc := 48) C 0 dX8_freeAt_48 rfl ?_
    refine gf_X8_13 (pc := 49) C dX8_freeAt_49 h (fun a4 h => ?_)
    refine j_iconst (pc := 52) (v := (0 : Int32)) C dX8_freeAt_52 rfl ?_
    refine j_iald (pc := 53) C dX8_freeAt_53 h (fun h => ?_)
    refine j_icmp_ge (pc := 54) C 87 dX8_freeAt_54 (by decide) h (fun h => ?_) (fun h => ?_)
    · exact j_weak [2] rfl (k87 _ _ h)
    · refine j_iload_n (pc := 57) C 2 dX8_freeAt_57 rfl ?_
      refine j_aload_n (pc := 58) C 0 dX8_freeAt_58 rfl ?_
      refine j_iload_n (pc := 59) C 3 dX8_freeAt_59 rfl ?_
      refine j_iconst (pc := 60) (v := (0 : Int32)) C dX8_freeAt_60 rfl ?_
      refine cs_X8_198 (pc := 61) C ⟨Nat.le_of_ble_eq_true rfl, Nat.le_of_ble_eq_true rfl⟩ hkc (Nat.le_of_ble_eq_true rfl) dX8_freeAt_61 h (fun r5 M5 h => ?_)
      refine j_iload_n (pc := 64) C 1 dX8_freeAt_64 rfl ?_
      refine j_icmp_ne (pc := 65) C 78 dX8_freeAt_65 (by decide) h (fun h => ?_) (fun h => ?_)
      · refine j_iconst (pc := 78) (v := (-1 : Int32)) C dX8_freeAt_78 rfl ?_
        refine j_iand (pc := 79) C dX8_freeAt_79 ?_
        refine j_istore_n (pc := 80) C [(2, _), (0, _), (1, _), (3, _)] dX8_freeAt_80 (by decide) rfl ?_
        refine j_iinc (pc := 81) (v := (1 : Int32)) C 3 [(3, _), (2, _), (0, _), (1, _)] dX8_freeAt_81 rfl rfl (by decide) rfl ?_
        refine j_goto (pc := 84) C 47 dX8_freeAt_84 (by decide) ?_
        exact j_weak [2, 3, 1, 0] rfl (ih _ _ _ _ _ h)
      · refine j_aload_n (pc := 68) C 0 dX8_freeAt_68 rfl ?_
        refine j_iload_n (pc := 69) C 3 dX8_freeAt_69 rfl ?_
        refine cs_X8_211 (pc := 70) C ⟨Nat.le_of_ble_eq_true rfl, Nat.le_of_ble_eq_true rfl⟩ hkc (Nat.le_of_ble_eq_true rfl) dX8_freeAt_70 h (fun r6 M6 h => ?_)
        refine j_iconst (pc := 73) (v := (-1 : Int32)) C dX8_freeAt_73 rfl ?_
        refine j_ixor (pc := 74) C dX8_freeAt_74 ?_
        refine j_goto (pc := 75) C 79 dX8_freeAt_75 (by decide) ?_
        refine j_iand (pc := 79) C dX8_freeAt_79 ?_
        refine j_istore_n (pc := 80) C [(2, _), (0, _), (1, _), (3, _)] dX8_freeAt_80 (by decide) rfl ?_
        refine j_iinc (pc := 81) (v := (1 : Int32)) C 3 [(3, _), (2, _), (0, _), (1, _)] dX8_freeAt_81 rfl rfl (by decide) rfl ?_
        refine j_goto (pc := 84) C 47 dX8_freeAt_84 (by decide) ?_
        exact j_weak [2, 3, 1, 0] rfl (ih _ _ _ _ _ h)
def w_X8_freeAt (M : Mm) (x0 : Nat) (x1 : Int32) (P : Int32 → Mm → Prop) : Prop := (∃ n4, l_X8_freeAt_4 P (fun M3 x0_3 x1_3 x2_3 => (∃ n47, l_X8_freeAt_47 P (fun M7 x2_7 => P x2_7 M7) n47 M3 x0_3 x1_3 x2_3 (0 : Int32))) n4 M x0 x1 (0 : Int32) (0 : Int32))
set_option maxHeartbeats 4000000 in
set_option maxRecDepth 100000 in
theorem c_X8_freeAt (l : Launch) (E : EV) (M : Mm) (x0 : Nat) (x1 : Int32) (P : Int32 → Mm → Prop) (h : w_X8_freeAt M x0 x1 P) : CtI l E yX8_freeAt cX8_freeAt 4 .int rm_X8_freeAt 0 0 [.ref x0, .int x1] M P := by
  refine ctI_of (by decide +kernel) (Nat.le_of_ble_eq_true rfl) ?_
  intro p e s m args below meth c C
  rw [w_X8_freeAt] at h
  show J p l e rm_X8_freeAt s m args below meth c (QI below E P args s 0 0) E 4 M 0 0 0 [(0, .ref x0), (1, .int x1)] []
  refine j_iconst (pc := 0) (v := (0 : Int32)) C dX8_freeAt_0 rfl ?_
  refine j_istore_n (pc := 1) C [(2, _), (0, _), (1, _)] dX8_freeAt_1 (by decide) rfl ?_
  refine j_iconst (pc := 2) (v := (0 : Int32)) C dX8_freeAt_2 rfl ?_
  refine j_istore_n (pc := 3) C [(3, _), (2, _), (0, _), (1, _)] dX8_freeAt_3 (by decide) rfl ?_
  obtain ⟨n4, h⟩ := h
  refine j_weak [2, 3, 1, 0] rfl (jl_X8_freeAt_4 C ⟨Nat.le_of_ble_eq_true rfl, Nat.le_of_ble_eq_true rfl⟩ (fun M3 x0_3 x1_3 x2_3 h => ?_) n4 _ _ _ _ _ h)
  · refine j_iconst (pc := 45) (v := (0 : Int32)) C dX8_freeAt_45 rfl ?_
    refine j_istore_n (pc := 46) C [(3, _), (0, _), (1, _), (2, _)] dX8_freeAt_46 (by decide) rfl ?_
    obtain ⟨n47, h⟩ := h
    refine j_weak [1, 2, 3, 0] rfl (jl_X8_freeAt_47 C ⟨Nat.le_of_ble_eq_true rfl, Nat.le_of_ble_eq_true rfl⟩ (fun M7 x2_7 h => ?_) n47 _ _ _ _ _ h)
    · refine j_iload_n (pc := 87) C 0 dX8_freeAt_87 rfl ?_
      exact j_iret (pc := 88) C dX8_freeAt_88 (Nat.le_of_ble_eq_true rfl) (Nat.le_of_ble_eq_true rfl) h
theorem cs_X8_217 (C : Cx p l s m args meth c cc nL RX8 ret E) {b : Nat} {y0 : Int32} {y1 : Int32} {P : Int32 → Mm → Prop} (hR : rm_X8_plays.frames + 1 ≤ R.frames ∧ 8 + (5 + 11) + rm_X8_plays.locals ≤ R.locals) (hf : kc ≤ R.cells ∧ ks ≤ R.slots) (hst : (st.map fun v => v.category).sum ≤ 8) (d : decode cc pc = .ok (.invokevirtual 217, 3)) (h : zk M b = 8 ∧ w_X8_plays M b y0 y1 P) (kk : ∀ r M', P r M' → J p l e R s m args below meth c Q E nL M' kc ks (pc + 3) lo (.int r :: st)) : J p l e R s m args below meth c Q E nL M kc ks pc lo (.int y1 :: .int y0 :: .ref b :: st) :=
  j_cV_I (n := 2) (As := [.int y0, .int y1]) C co_X8 rfl wd_1462 wd_82 h.1 (c_X8_plays l E M b y0 y1 P h.2) ⟨wd_1463, wd_1460, wd_106, by decide +kernel, by decide +kernel, by decide +kernel⟩ rfl rfl hR hf rfl hst d kk
abbrev rmT_X8_tries (d : Nat) : Room := { frames := 2 + d, cells := 0, slots := 0, locals := 46 + d * 26 }
theorem cr_X8_220 {d : Nat} {T : Mm → Nat → Int32 → Int32 → Int32 → Int32 → (Mm → Prop) → Prop} (C : Cx p l s m args meth c cc nL RX8 ret E) (hT : ∀ (M : Mm) (y0 : Nat) (y1 : Int32) (y2 : Int32) (y3 : Int32) (y4 : Int32) (P : Mm → Prop), T M y0 y1 y2 y3 y4 P → CtV l E yX8_tries cX8_tries 7 (rmT_X8_tries d) 0 0 [.ref y0, .int y1, .int y2, .int y3, .int y4] M P) {y0 : Nat} {y1 : Int32} {y2 : Int32} {y3 : Int32} {y4 : Int32} {P : Mm → Prop} (hf : kc ≤ (rmT_X8_tries (d + 1)).cells ∧ ks ≤ (rmT_X8_tries (d + 1)).slots) (hst : (st.map fun v => v.category).sum ≤ 8) (d0 : decode cc pc = .ok (.invokevirtual 220, 3)) (h : zk M y0 = 8 ∧ T M y0 y1 y2 y3 y4 P) (kk : ∀ M', P M' → J p l e (rmT_X8_tries (d + 1)) s m args below meth c Q E nL M' kc ks (pc + 3) lo st) : J p l e (rmT_X8_tries (d + 1)) s m args below meth c Q E nL M kc ks pc lo (.int y4 :: .int y3 :: .int y2 :: .int y1 :: .ref y0 :: st) :=
  j_cV_V (n := 4) (As := [.int y1, .int y2, .int y3, .int y4]) C co_X8 rfl wd_1458 wd_81 h.1 (hT _ _ _ _ _ _ _ h.2) ⟨wd_1459, wd_1456, wd_106, by decide +kernel, by decide +kernel, by decide +kernel⟩ rfl rfl ⟨show 2 + d + 1 ≤ 2 + (d + 1) by omega, show 8 + (7 + 11) + (46 + d * 26) ≤ 46 + (d + 1) * 26 by omega⟩ hf rfl hst d0 kk
def l_X8_tries_69 (T : Mm → Nat → Int32 → Int32 → Int32 → Int32 → (Mm → Prop) → Prop) (P : Mm → Prop) (K151 : Mm → Prop) : Nat → Mm → Nat → Int32 → Int32 → Int32 → Int32 → Int32 → Int32 → Prop
  | 0, _, _, _, _, _, _, _, _ => False
  | n + 1, M, x0, x1, x2, x3, x4, x5, x6 => (zk M x0 = 8 ∧ ∃ a3, zR M x0 1 = some a3 ∧ zk M a3 = 10 ∧ vp_in (2 : Int32) (zl M a3) ∧ (if (zI M a3 (2 : Int32).toNatClampNeg) ≤ x6 then K151 M else (if ((x3 >>> (x6 &&& 31)) &&& (1 : Int32)) = (1 : Int32) then zk M x0 = 8 ∧ w_X8_plays M x0 x6 x5 (fun r4 M4 => (if r4 = 0 then l_X8_tries_69 T P K151 n M4 x0 x1 x2 x3 x4 x5 (x6 + (1 : Int32)) else (zk M4 x0 = 8 ∧ ∃ a5, zR M4 x0 20 = some a5 ∧ zk M4 a5 = 10 ∧ vp_in x2 (zl M4 a5) ∧ (∀ M6, M6 = sI M4 a5 x2.toNatClampNeg x6 → zk M6 x0 = 8 ∧ w_X8_ofPlayer M6 x0 x6 (3 : Int32) (fun r7 M7 => (if r7 = x5 then zk M7 x0 = 8 ∧ T M7 x0 x1 (x2 + (1 : Int32)) (x3 &&& (((1 : Int32) <<< (x6 &&& 31)) ^^^ (-1 : Int32))) (x4 + (0 : Int32)) (fun M9 => l_X8_tries_69 T P K151 n M9 x0 x1 x2 x3 x4 x5 (x6 + (1 : Int32))) else zk M7 x0 = 8 ∧ T M7 x0 x1 (x2 + (1 : Int32)) (x3 &&& (((1 : Int32) <<< (x6 &&& 31)) ^^^ (-1 : Int32))) (x4 + (1 : Int32)) (fun M8 => l_X8_tries_69 T P K151 n M8 x0 x1 x2 x3 x4 x5 (x6 + (1 : Int32))))))))) else l_X8_tries_69 T P K151 n M x0 x1 x2 x3 x4 x5 (x6 + (1 : Int32)))))
set_option maxHeartbeats 4000000 in
set_option maxRecDepth 100000 in
theorem jl_X8_tries_69 {d : Nat} {T : Mm → Nat → Int32 → Int32 → Int32 → Int32 → (Mm → Prop) → Prop} {P : Mm → Prop} {K151 : Mm → Prop} (C : Cx p l s m args meth c cX8_tries 7 RX8 none E) (hT : ∀ (M : Mm) (y0 : Nat) (y1 : Int32) (y2 : Int32) (y3 : Int32) (y4 : Int32) (P : Mm → Prop), T M y0 y1 y2 y3 y4 P → CtV l E yX8_tries cX8_tries 7 (rmT_X8_tries d) 0 0 [.ref y0, .int y1, .int y2, .int y3, .int y4] M P) (hkc : kc ≤ (rmT_X8_tries (d + 1)).cells ∧ ks ≤ (rmT_X8_tries (d + 1)).slots) (k151 : ∀ M, K151 M → J p l e (rmT_X8_tries (d + 1)) s m args below meth c (QV below E P args s (rmT_X8_tries (d + 1)).cells (rmT_X8_tries (d + 1)).slots) E 7 M kc ks 151 [] []) : ∀ n M x0 x1 x2 x3 x4 x5 x6, l_X8_tries_69 T P K151 n M x0 x1 x2 x3 x4 x5 x6 → J p l e (rmT_X8_tries (d + 1)) s m args below meth c (QV below E P args s (rmT_X8_tries (d + 1)).cells (rmT_X8_tries (d + 1)).slots) E 7 M kc ks 69 [(0, .ref x0), (1, .int x1), (2, .int x2), (3, .int x3), (4, .int x4), (5, .int x5), (6, .int x6)] [] := by
  intro n
  induction n with
  | zero => intro M x0 x1 x2 x3 x4 x5 x6 h; exact h.elim
  | succ n ih =>
    intro M x0 x1 x2 x3 x4 x5 x6 h
    rw [l_X8_tries_69] at h
    refine j_iload (pc := 69) C 6 dX8_tries_69 rfl ?_
    refine j_aload_n (pc := 71) C 0 dX8_tries_71 rfl ?_
    refine gf_X8_7 (pc := 72) C dX8_tries_72 h (fun a3 h => ?_)
    refine j_iconst (pc := 75) (v := (2 : Int32)) C dX8_tries_75 rfl ?_
    refine j_iald (pc := 76) C dX8_tries_76 h (fun h => ?_)
    refine j_icmp_ge (pc := 77) C 151 dX8_tries_77 (by decide) h (fun h => ?_) (fun h => ?_)
    · exact j_weak [] rfl (k151 _ h)
    · refine j_iload_n (pc := 80) C 3 dX8_tries_80 rfl ?_
      refine j_iload (pc := 81) C 6 dX8_tries_81 rfl ?_
      refine j_ishr (pc := 83) C dX8_tries_83 ?_
      refine j_iconst (pc := 84) (v := (1 : Int32)) C dX8_tries_84 rfl ?_
      refine j_iand (pc := 85) C dX8_tries_85 ?_
      refine j_iconst (pc := 86) (v := (1 : Int32)) C dX8_tries_86 rfl ?_
      refine j_icmp_ne (pc := 87) C 145 dX8_tries_87 (by decide) h (fun h => ?_) (fun h => ?_)
      · refine j_iinc (pc := 145) (v := (1 : Int32)) C 6 [(6, _), (0, _), (1, _), (2, _), (3, _), (4, _), (5, _)] dX8_tries_145 rfl rfl (by decide) rfl ?_
        refine j_goto (pc := 148) C 69 dX8_tries_148 (by decide) ?_
        exact j_weak [1, 2, 3, 4, 5, 6, 0] rfl (ih _ _ _ _ _ _ _ _ h)
      · refine j_aload_n (pc := 90) C 0 dX8_tries_90 rfl ?_
        refine j_iload (pc := 91) C 6 dX8_tries_91 rfl ?_
        refine j_iload (pc := 93) C 5 dX8_tries_93 rfl ?_
        refine cs_X8_217 (pc := 95) C ⟨Nat.le_trans (Nat.le_of_ble_eq_true rfl) (Nat.le_add_right 2 _), Nat.le_trans (Nat.le_of_ble_eq_true rfl) (Nat.le_add_right 46 _)⟩ hkc (Nat.le_of_ble_eq_true rfl) dX8_tries_95 h (fun r4 M4 h => ?_)
        refine j_if_eq (pc := 98) C 145 dX8_tries_98 (by decide) h (fun h => ?_) (fun h => ?_)
        · refine j_iinc (pc := 145) (v := (1 : Int32)) C 6 [(6, _), (0, _), (1, _), (2, _), (3, _), (4, _), (5, _)] dX8_tries_145 rfl rfl (by decide) rfl ?_
          refine j_goto (pc := 148) C 69 dX8_tries_148 (by decide) ?_
          exact j_weak [1, 2, 3, 4, 5, 6, 0] rfl (ih _ _ _ _ _ _ _ _ h)
        · refine j_aload_n (pc := 101) C 0 dX8_tries_101 rfl ?_
          refine gf_X8_40 (pc := 102) C dX8_tries_102 h (fun a5 h => ?_)
          refine j_iload_n (pc := 105) C 2 dX8_tries_105 rfl ?_
          refine j_iload (pc := 106) C 6 dX8_tries_106 rfl ?_
          refine n_iast (pc := 108) C dX8_tries_108 h (fun M6 h => ?_)
          refine j_aload_n (pc := 109) C 0 dX8_tries_109 rfl ?_
          refine j_iload_n (pc := 110) C 1 dX8_tries_110 rfl ?_
          refine j_iload_n (pc := 111) C 2 dX8_tries_111 rfl ?_
          refine j_iconst (pc := 112) (v := (1 : Int32)) C dX8_tries_112 rfl ?_
          refine j_iadd (pc := 113) C dX8_tries_113 ?_
          refine j_iload_n (pc := 114) C 3 dX8_tries_114 rfl ?_
          refine j_iconst (pc := 115) (v := (1 : Int32)) C dX8_tries_115 rfl ?_
          refine j_iload (pc := 116) C 6 dX8_tries_116 rfl ?_
          refine j_ishl (pc := 118) C dX8_tries_118 ?_
          refine j_iconst (pc := 119) (v := (-1 : Int32)) C dX8_tries_119 rfl ?_
          refine j_ixor (pc := 120) C dX8_tries_120 ?_
          refine j_iand (pc := 121) C dX8_tries_121 ?_
          refine j_iload (pc := 122) C 4 dX8_tries_122 rfl ?_
          refine j_aload_n (pc := 124) C 0 dX8_tries_124 rfl ?_
          refine j_iload (pc := 125) C 6 dX8_tries_125 rfl ?_
          refine j_iconst (pc := 127) (v := (3 : Int32)) C dX8_tries_127 rfl ?_
          refine cs_X8_194 (pc := 128) C ⟨Nat.le_trans (Nat.le_of_ble_eq_true rfl) (Nat.le_add_right 2 _), Nat.le_trans (Nat.le_of_ble_eq_true rfl) (Nat.le_add_right 46 _)⟩ hkc (Nat.le_of_ble_eq_true rfl) dX8_tries_128 h (fun r7 M7 h => ?_)
          refine j_iload (pc := 131) C 5 dX8_tries_131 rfl ?_
          refine j_icmp_ne (pc := 133) C 140 dX8_tries_133 (by decide) h (fun h => ?_) (fun h => ?_)
          · refine j_iconst (pc := 140) (v := (1 : Int32)) C dX8_tries_140 rfl ?_
            refine j_iadd (pc := 141) C dX8_tries_141 ?_
            refine cr_X8_220 (pc := 142) C hT hkc (Nat.le_of_ble_eq_true rfl) dX8_tries_142 h (fun M8 h => ?_)
            refine j_iinc (pc := 145) (v := (1 : Int32)) C 6 [(6, _), (0, _), (1, _), (2, _), (3, _), (4, _), (5, _)] dX8_tries_145 rfl rfl (by decide) rfl ?_
            refine j_goto (pc := 148) C 69 dX8_tries_148 (by decide) ?_
            exact j_weak [1, 2, 3, 4, 5, 6, 0] rfl (ih _ _ _ _ _ _ _ _ h)
          · refine j_iconst (pc := 136) (v := (0 : Int32)) C dX8_tries_136 rfl ?_
            refine j_goto (pc := 137) C 141 dX8_tries_137 (by decide) ?_
            refine j_iadd (pc := 141) C dX8_tries_141 ?_
            refine cr_X8_220 (pc := 142) C hT hkc (Nat.le_of_ble_eq_true rfl) dX8_tries_142 h (fun M9 h => ?_)
            refine j_iinc (pc := 145) (v := (1 : Int32)) C 6 [(6, _), (0, _), (1, _), (2, _), (3, _), (4, _), (5, _)] dX8_tries_145 rfl rfl (by decide) rfl ?_
            refine j_goto (pc := 148) C 69 dX8_tries_148 (by decide) ?_
            exact j_weak [1, 2, 3, 4, 5, 6, 0] rfl (ih _ _ _ _ _ _ _ _ h)
def l_X8_tries_29 (T : Mm → Nat → Int32 → Int32 → Int32 → Int32 → (Mm → Prop) → Prop) (P : Mm → Prop) (K55 : Mm → Prop) : Nat → Mm → Nat → Int32 → Int32 → Prop
  | 0, _, _, _, _ => False
  | n + 1, M, x0, x2, x5 => (if x2 ≤ x5 then K55 M else (zk M x0 = 8 ∧ ∃ a12, zR M x0 19 = some a12 ∧ (zk M x0 = 8 ∧ ∃ a13, zR M x0 20 = some a13 ∧ zk M a13 = 10 ∧ vp_in x5 (zl M a13) ∧ zk M a12 = 10 ∧ vp_in x5 (zl M a12) ∧ (∀ M14, M14 = sI M a12 x5.toNatClampNeg (zI M a13 x5.toNatClampNeg) → l_X8_tries_29 T P K55 n M14 x0 x2 (x5 + (1 : Int32))))))
set_option maxHeartbeats 4000000 in
set_option maxRecDepth 100000 in
theorem jl_X8_tries_29 {d : Nat} {T : Mm → Nat → Int32 → Int32 → Int32 → Int32 → (Mm → Prop) → Prop} {P : Mm → Prop} {K55 : Mm → Prop} (C : Cx p l s m args meth c cX8_tries 7 RX8 none E) (hT : ∀ (M : Mm) (y0 : Nat) (y1 : Int32) (y2 : Int32) (y3 : Int32) (y4 : Int32) (P : Mm → Prop), T M y0 y1 y2 y3 y4 P → CtV l E yX8_tries cX8_tries 7 (rmT_X8_tries d) 0 0 [.ref y0, .int y1, .int y2, .int y3, .int y4] M P) (hkc : kc ≤ (rmT_X8_tries (d + 1)).cells ∧ ks ≤ (rmT_X8_tries (d + 1)).slots) (k55 : ∀ M, K55 M → J p l e (rmT_X8_tries (d + 1)) s m args below meth c (QV below E P args s (rmT_X8_tries (d + 1)).cells (rmT_X8_tries (d + 1)).slots) E 7 M kc ks 55 [] []) : ∀ n M x0 x2 x5, l_X8_tries_29 T P K55 n M x0 x2 x5 → J p l e (rmT_X8_tries (d + 1)) s m args below meth c (QV below E P args s (rmT_X8_tries (d + 1)).cells (rmT_X8_tries (d + 1)).slots) E 7 M kc ks 29 [(0, .ref x0), (2, .int x2), (5, .int x5)] [] := by
  intro n
  induction n with
  | zero => intro M x0 x2 x5 h; exact h.elim
  | succ n ih =>
    intro M x0 x2 x5 h
    rw [l_X8_tries_29] at h
    refine j_iload (pc := 29) C 2 dX8_tries_29 rfl ?_
    refine j_iload_n (pc := 31) C 1 dX8_tries_31 rfl ?_
    refine j_icmp_ge (pc := 32) C 55 dX8_tries_32 (by decide) h (fun h => ?_) (fun h => ?_)
    · exact j_weak [] rfl (k55 _ h)
    · refine j_aload_n (pc := 35) C 0 dX8_tries_35 rfl ?_
      refine gf_X8_37 (pc := 36) C dX8_tries_36 h (fun a12 h => ?_)
      refine j_iload (pc := 39) C 2 dX8_tries_39 rfl ?_
      refine j_aload_n (pc := 41) C 0 dX8_tries_41 rfl ?_
      refine gf_X8_40 (pc := 42) C dX8_tries_42 h (fun a13 h => ?_)
      refine j_iload (pc := 45) C 2 dX8_tries_45 rfl ?_
      refine j_iald (pc := 47) C dX8_tries_47 h (fun h => ?_)
      refine n_iast (pc := 48) C dX8_tries_48 h (fun M14 h => ?_)
      refine j_iinc (pc := 49) (v := (1 : Int32)) C 2 [(5, _), (0, _), (2, _)] dX8_tries_49 rfl rfl (by decide) rfl ?_
      refine j_goto (pc := 52) C 29 dX8_tries_52 (by decide) ?_
      exact j_weak [1, 2, 0] rfl (ih _ _ _ _ h)
def wf_X8_tries (T : Mm → Nat → Int32 → Int32 → Int32 → Int32 → (Mm → Prop) → Prop) (M : Mm) (x0 : Nat) (x1 : Int32) (x2 : Int32) (x3 : Int32) (x4 : Int32) (P : Mm → Prop) : Prop := zk M x0 = 8 ∧ (if x4 < (zI M x0 21) then zk M x0 = 8 ∧ w_X8_ofWork M x0 x1 (4 : Int32) (fun r1 M1 => (if x2 = r1 then zk M1 x0 = 8 ∧ (∀ M11, M11 = sI M1 x0 21 x4 → (∃ n29, l_X8_tries_29 T P (fun M15 => P M15) n29 M11 x0 x2 (0 : Int32))) else zk M1 x0 = 8 ∧ w_X8_ofWork M1 x0 x1 ((5 : Int32) + x2) (fun r2 M2 => (∃ n69, l_X8_tries_69 T P (fun M10 => P M10) n69 M2 x0 x1 x2 x3 x4 r2 (0 : Int32))))) else P M)
def w_X8_tries : Nat → Mm → Nat → Int32 → Int32 → Int32 → Int32 → (Mm → Prop) → Prop
  | 0 => fun _ _ _ _ _ _ _ => False
  | d + 1 => wf_X8_tries (w_X8_tries d)
set_option maxHeartbeats 4000000 in
set_option maxRecDepth 100000 in
theorem cf_X8_tries (l : Launch) (E : EV) {d : Nat} {T : Mm → Nat → Int32 → Int32 → Int32 → Int32 → (Mm → Prop) → Prop} (hT : ∀ (M : Mm) (y0 : Nat) (y1 : Int32) (y2 : Int32) (y3 : Int32) (y4 : Int32) (P : Mm → Prop), T M y0 y1 y2 y3 y4 P → CtV l E yX8_tries cX8_tries 7 (rmT_X8_tries d) 0 0 [.ref y0, .int y1, .int y2, .int y3, .int y4] M P) (M : Mm) (x0 : Nat) (x1 : Int32) (x2 : Int32) (x3 : Int32) (x4 : Int32) (P : Mm → Prop) (h : wf_X8_tries T M x0 x1 x2 x3 x4 P) : CtV l E yX8_tries cX8_tries 7 (rmT_X8_tries (d + 1)) 0 0 [.ref x0, .int x1, .int x2, .int x3, .int x4] M P := by
  refine ctV_of (by decide +kernel) (Nat.le_of_ble_eq_true rfl) ?_
  intro p e s m args below meth c C hnm
  rw [wf_X8_tries] at h
  show J p l e (rmT_X8_tries (d + 1)) s m args below meth c (QV below E P args s 0 0) E 7 M 0 0 0 [(0, .ref x0), (1, .int x1), (2, .int x2), (3, .int x3), (4, .int x4)] []
  refine j_iload (pc := 0) C 4 dX8_tries_0 rfl ?_
  refine j_aload_n (pc := 2) C 0 dX8_tries_2 rfl ?_
  refine gf_X8_214 (pc := 3) C dX8_tries_3 h (fun h => ?_)
  refine j_icmp_lt (pc := 6) C 10 dX8_tries_6 (by decide) h (fun h => ?_) (fun h => ?_)
  · refine j_iload_n (pc := 10) C 2 dX8_tries_10 rfl ?_
    refine j_aload_n (pc := 11) C 0 dX8_tries_11 rfl ?_
    refine j_iload_n (pc := 12) C 1 dX8_tries_12 rfl ?_
    refine j_iconst (pc := 13) (v := (4 : Int32)) C dX8_tries_13 rfl ?_
    refine cs_X8_201 (pc := 14) C ⟨Nat.le_trans (Nat.le_of_ble_eq_true rfl) (Nat.le_add_right 2 _), Nat.le_trans (Nat.le_of_ble_eq_true rfl) (Nat.le_add_right 46 _)⟩ ⟨Nat.le_of_ble_eq_true rfl, Nat.le_of_ble_eq_true rfl⟩ (Nat.le_of_ble_eq_true rfl) dX8_tries_14 h (fun r1 M1 h => ?_)
    refine j_icmp_ne (pc := 17) C 56 dX8_tries_17 (by decide) h (fun h => ?_) (fun h => ?_)
    · refine j_aload_n (pc := 56) C 0 dX8_tries_56 rfl ?_
      refine j_iload_n (pc := 57) C 1 dX8_tries_57 rfl ?_
      refine j_iconst (pc := 58) (v := (5 : Int32)) C dX8_tries_58 rfl ?_
      refine j_iload_n (pc := 59) C 2 dX8_tries_59 rfl ?_
      refine j_iadd (pc := 60) C dX8_tries_60 ?_
      refine cs_X8_201 (pc := 61) C ⟨Nat.le_trans (Nat.le_of_ble_eq_true rfl) (Nat.le_add_right 2 _), Nat.le_trans (Nat.le_of_ble_eq_true rfl) (Nat.le_add_right 46 _)⟩ ⟨Nat.le_of_ble_eq_true rfl, Nat.le_of_ble_eq_true rfl⟩ (Nat.le_of_ble_eq_true rfl) dX8_tries_61 h (fun r2 M2 h => ?_)
      refine j_istore (pc := 64) C [(5, _), (0, _), (1, _), (2, _), (3, _), (4, _)] dX8_tries_64 (by decide) rfl ?_
      refine j_iconst (pc := 66) (v := (0 : Int32)) C dX8_tries_66 rfl ?_
      refine j_istore (pc := 67) C [(6, _), (5, _), (0, _), (1, _), (2, _), (3, _), (4, _)] dX8_tries_67 (by decide) rfl ?_
      obtain ⟨n69, h⟩ := h
      refine j_weak [2, 3, 4, 5, 6, 1, 0] rfl (jl_X8_tries_69 C hT ⟨Nat.le_of_ble_eq_true rfl, Nat.le_of_ble_eq_true rfl⟩ (fun M10 h => ?_) n69 _ _ _ _ _ _ _ _ h)
      · exact j_vret (pc := 151) C dX8_tries_151 (Nat.le_of_ble_eq_true rfl) (Nat.le_of_ble_eq_true rfl) h
    · refine j_aload_n (pc := 20) C 0 dX8_tries_20 rfl ?_
      refine j_iload (pc := 21) C 4 dX8_tries_21 rfl ?_
      refine pf_X8_214 (pc := 23) C dX8_tries_23 h (fun M11 h => ?_)
      refine j_iconst (pc := 26) (v := (0 : Int32)) C dX8_tries_26 rfl ?_
      refine j_istore (pc := 27) C [(5, _), (0, _), (1, _), (2, _), (3, _), (4, _)] dX8_tries_27 (by decide) rfl ?_
      obtain ⟨n29, h⟩ := h
      refine j_weak [1, 3, 0] rfl (jl_X8_tries_29 C hT ⟨Nat.le_of_ble_eq_true rfl, Nat.le_of_ble_eq_true rfl⟩ (fun M15 h => ?_) n29 _ _ _ _ h)
      · exact j_vret (pc := 55) C dX8_tries_55 (Nat.le_of_ble_eq_true rfl) (Nat.le_of_ble_eq_true rfl) h
  · exact j_vret (pc := 9) C dX8_tries_9 (Nat.le_of_ble_eq_true rfl) (Nat.le_of_ble_eq_true rfl) h
theorem c_X8_tries (l : Launch) (E : EV) : ∀ (d : Nat) (M : Mm) (x0 : Nat) (x1 : Int32) (x2 : Int32) (x3 : Int32) (x4 : Int32) (P : Mm → Prop), w_X8_tries d M x0 x1 x2 x3 x4 P → CtV l E yX8_tries cX8_tries 7 (rmT_X8_tries d) 0 0 [.ref x0, .int x1, .int x2, .int x3, .int x4] M P := by
  intro d
  induction d with
  | zero => intro M x0 x1 x2 x3 x4 P h; exact h.elim
  | succ d ih => intro M x0 x1 x2 x3 x4 P h; exact cf_X8_tries l E ih M x0 x1 x2 x3 x4 P h
abbrev rm_X8_triesC : Room := rmT_X8_tries 8
def w_X8_triesC (M : Mm) (x0 : Nat) (x1 : Int32) (x2 : Int32) (x3 : Int32) (x4 : Int32) (P : Mm → Prop) : Prop := w_X8_tries 8 M x0 x1 x2 x3 x4 P
theorem c_X8_triesC (l : Launch) (E : EV) (M : Mm) (x0 : Nat) (x1 : Int32) (x2 : Int32) (x3 : Int32) (x4 : Int32) (P : Mm → Prop) (h : w_X8_triesC M x0 x1 x2 x3 x4 P) : CtV l E yX8_tries cX8_tries 7 rm_X8_triesC 0 0 [.ref x0, .int x1, .int x2, .int x3, .int x4] M P := c_X8_tries l E 8 M x0 x1 x2 x3 x4 P h
theorem cs_X8_220 (C : Cx p l s m args meth c cc nL RX8 ret E) {b : Nat} {y0 : Int32} {y1 : Int32} {y2 : Int32} {y3 : Int32} {P : Mm → Prop} (hR : rm_X8_triesC.frames + 1 ≤ R.frames ∧ 8 + (7 + 11) + rm_X8_triesC.locals ≤ R.locals) (hf : kc ≤ R.cells ∧ ks ≤ R.slots) (hst : (st.map fun v => v.category).sum ≤ 8) (d : decode cc pc = .ok (.invokevirtual 220, 3)) (h : zk M b = 8 ∧ w_X8_triesC M b y0 y1 y2 y3 P) (kk : ∀ M', P M' → J p l e R s m args below meth c Q E nL M' kc ks (pc + 3) lo st) : J p l e R s m args below meth c Q E nL M kc ks pc lo (.int y3 :: .int y2 :: .int y1 :: .int y0 :: .ref b :: st) :=
  j_cV_V (n := 4) (As := [.int y0, .int y1, .int y2, .int y3]) C co_X8 rfl wd_1458 wd_81 h.1 (c_X8_triesC l E M b y0 y1 y2 y3 P h.2) ⟨wd_1459, wd_1456, wd_106, by decide +kernel, by decide +kernel, by decide +kernel⟩ rfl rfl hR hf rfl hst d kk
abbrev rm_X8_casts : Room := { frames := 11, cells := 0, slots := 0, locals := 280 }
def w_X8_casts (M : Mm) (x0 : Nat) (x1 : Int32) (x2 : Int32) (P : Int32 → Mm → Prop) : Prop := zk M x0 = 8 ∧ (∀ M1, M1 = sI M x0 21 (7 : Int32) → zk M1 x0 = 8 ∧ w_X8_triesC M1 x0 x1 (0 : Int32) x2 (0 : Int32) (fun M2 => zk M2 x0 = 8 ∧ (if (6 : Int32) < (zI M2 x0 21) then ((0 : Int32) = 0 ∨ (0 : Int32) = 1) ∧ P (0 : Int32) M2 else ((1 : Int32) = 0 ∨ (1 : Int32) = 1) ∧ P (1 : Int32) M2)))
set_option maxHeartbeats 4000000 in
set_option maxRecDepth 100000 in
theorem c_X8_casts (l : Launch) (E : EV) (M : Mm) (x0 : Nat) (x1 : Int32) (x2 : Int32) (P : Int32 → Mm → Prop) (h : w_X8_casts M x0 x1 x2 P) : CtI l E yX8_casts cX8_casts 3 .boolean rm_X8_casts 0 0 [.ref x0, .int x1, .int x2] M P := by
  refine ctI_of (by decide +kernel) (Nat.le_of_ble_eq_true rfl) ?_
  intro p e s m args below meth c C
  rw [w_X8_casts] at h
  show J p l e rm_X8_casts s m args below meth c (QI below E P args s 0 0) E 3 M 0 0 0 [(0, .ref x0), (1, .int x1), (2, .int x2)] []
  refine j_aload_n (pc := 0) C 0 dX8_casts_0 rfl ?_
  refine j_bipush (pc := 1) (v := (7 : Int32)) C dX8_casts_1 rfl ?_
  refine pf_X8_214 (pc := 3) C dX8_casts_3 h (fun M1 h => ?_)
  refine j_aload_n (pc := 6) C 0 dX8_casts_6 rfl ?_
  refine j_iload_n (pc := 7) C 1 dX8_casts_7 rfl ?_
  refine j_iconst (pc := 8) (v := (0 : Int32)) C dX8_casts_8 rfl ?_
  refine j_iload_n (pc := 9) C 2 dX8_casts_9 rfl ?_
  refine j_iconst (pc := 10) (v := (0 : Int32)) C dX8_casts_10 rfl ?_
  refine cs_X8_220 (pc := 11) C ⟨Nat.le_of_ble_eq_true rfl, Nat.le_of_ble_eq_true rfl⟩ ⟨Nat.le_of_ble_eq_true rfl, Nat.le_of_ble_eq_true rfl⟩ (Nat.le_of_ble_eq_true rfl) dX8_casts_11 h (fun M2 h => ?_)
  refine j_aload_n (pc := 14) C 0 dX8_casts_14 rfl ?_
  refine gf_X8_214 (pc := 15) C dX8_casts_15 h (fun h => ?_)
  refine j_bipush (pc := 18) (v := (6 : Int32)) C dX8_casts_18 rfl ?_
  refine j_icmp_gt (pc := 20) C 27 dX8_casts_20 (by decide) h (fun h => ?_) (fun h => ?_)
  · refine j_iconst (pc := 27) (v := (0 : Int32)) C dX8_casts_27 rfl ?_
    exact j_zret (pc := 28) C dX8_casts_28 (Nat.le_of_ble_eq_true rfl) (Nat.le_of_ble_eq_true rfl) h
  · refine j_iconst (pc := 23) (v := (1 : Int32)) C dX8_casts_23 rfl ?_
    refine j_goto (pc := 24) C 28 dX8_casts_24 (by decide) ?_
    exact j_zret (pc := 28) C dX8_casts_28 (Nat.le_of_ble_eq_true rfl) (Nat.le_of_ble_eq_true rfl) h
theorem cs_X8_224 (C : Cx p l s m args meth c cc nL RX8 ret E) {b : Nat} {y0 : Int32} {P : Int32 → Mm → Prop} (hR : rm_X8_freeAt.frames + 1 ≤ R.frames ∧ 8 + (4 + 11) + rm_X8_freeAt.locals ≤ R.locals) (hf : kc ≤ R.cells ∧ ks ≤ R.slots) (hst : (st.map fun v => v.category).sum ≤ 8) (d : decode cc pc = .ok (.invokevirtual 224, 3)) (h : zk M b = 8 ∧ w_X8_freeAt M b y0 P) (kk : ∀ r M', P r M' → J p l e R s m args below meth c Q E nL M' kc ks (pc + 3) lo (.int r :: st)) : J p l e R s m args below meth c Q E nL M kc ks pc lo (.int y0 :: .ref b :: st) :=
  j_cV_I (n := 1) (As := [.int y0]) C co_X8 rfl wd_1410 wd_75 h.1 (c_X8_freeAt l E M b y0 P h.2) ⟨wd_1411, wd_1408, wd_106, by decide +kernel, by decide +kernel, by decide +kernel⟩ rfl rfl hR hf rfl hst d kk
theorem cs_X8_227 (C : Cx p l s m args meth c cc nL RX8 ret E) {b : Nat} {y0 : Int32} {y1 : Int32} {P : Int32 → Mm → Prop} (hR : rm_X8_casts.frames + 1 ≤ R.frames ∧ 8 + (3 + 11) + rm_X8_casts.locals ≤ R.locals) (hf : kc ≤ R.cells ∧ ks ≤ R.slots) (hst : (st.map fun v => v.category).sum ≤ 8) (d : decode cc pc = .ok (.invokevirtual 227, 3)) (h : zk M b = 8 ∧ w_X8_casts M b y0 y1 P) (kk : ∀ r M', P r M' → J p l e R s m args below meth c Q E nL M' kc ks (pc + 3) lo (.int r :: st)) : J p l e R s m args below meth c Q E nL M kc ks pc lo (.int y1 :: .int y0 :: .ref b :: st) :=
  j_cV_I (n := 2) (As := [.int y0, .int y1]) C co_X8 rfl wd_1454 wd_80 h.1 (c_X8_casts l E M b y0 y1 P h.2) ⟨wd_1455, wd_1452, wd_106, by decide +kernel, by decide +kernel, by decide +kernel⟩ rfl rfl hR hf rfl hst d kk
abbrev rm_X8_allCast : Room := { frames := 12, cells := 0, slots := 0, locals := 302 }
def l_X8_allCast_12 (P : Int32 → Mm → Prop) (K60 : Mm → Int32 → Prop) : Nat → Mm → Nat → Int32 → Int32 → Int32 → Int32 → Prop
  | 0, _, _, _, _, _, _ => False
  | n + 1, M, x0, x2, x3, x4, x5 => (zk M x0 = 8 ∧ ∃ a2, zR M x0 1 = some a2 ∧ zk M a2 = 10 ∧ vp_in (3 : Int32) (zl M a2) ∧ (if (zI M a2 (3 : Int32).toNatClampNeg) ≤ x5 then K60 M x4 else (if x4 = 0 then l_X8_allCast_12 P K60 n M x0 x2 x3 (0 : Int32) (x5 + (1 : Int32)) else (if ((x2 >>> (x5 &&& 31)) &&& (1 : Int32)) = 0 then l_X8_allCast_12 P K60 n M x0 x2 x3 (1 : Int32) (x5 + (1 : Int32)) else zk M x0 = 8 ∧ w_X8_casts M x0 x5 x3 (fun r3 M3 => (if r3 = 0 then l_X8_allCast_12 P K60 n M3 x0 x2 x3 (0 : Int32) (x5 + (1 : Int32)) else l_X8_allCast_12 P K60 n M3 x0 x2 x3 (1 : Int32) (x5 + (1 : Int32))))))))
set_option maxHeartbeats 4000000 in
set_option maxRecDepth 100000 in
theorem jl_X8_allCast_12 {P : Int32 → Mm → Prop} {K60 : Mm → Int32 → Prop} (C : Cx p l s m args meth c cX8_allCast 6 RX8 (some .boolean) E) (hkc : kc ≤ rm_X8_allCast.cells ∧ ks ≤ rm_X8_allCast.slots) (k60 : ∀ M x4, K60 M x4 → J p l e rm_X8_allCast s m args below meth c (QI below E P args s rm_X8_allCast.cells rm_X8_allCast.slots) E 6 M kc ks 60 [(4, .int x4)] []) : ∀ n M x0 x2 x3 x4 x5, l_X8_allCast_12 P K60 n M x0 x2 x3 x4 x5 → J p l e rm_X8_allCast s m args below meth c (QI below E P args s rm_X8_allCast.cells rm_X8_allCast.slots) E 6 M kc ks 12 [(0, .ref x0), (2, .int x2), (3, .int x3), (4, .int x4), (5, .int x5)] [] := by
  intro n
  induction n with
  | zero => intro M x0 x2 x3 x4 x5 h; exact h.elim
  | succ n ih =>
    intro M x0 x2 x3 x4 x5 h
    rw [l_X8_allCast_12] at h
    refine j_iload (pc := 12) C 4 dX8_allCast_12 rfl ?_
    refine j_aload_n (pc := 14) C 0 dX8_allCast_14 rfl ?_
    refine gf_X8_7 (pc := 15) C dX8_allCast_15 h (fun a2 h => ?_)
    refine j_iconst (pc := 18) (v := (3 : Int32)) C dX8_allCast_18 rfl ?_
    refine j_iald (pc := 19) C dX8_allCast_19 h (fun h => ?_)
    refine j_icmp_ge (pc := 20) C 60 dX8_allCast_20 (by decide) h (fun h => ?_) (fun h => ?_)
    · exact j_weak [3] rfl (k60 _ _ h)
    · refine j_iload (pc := 23) C 3 dX8_allCast_23 rfl ?_
      refine j_if_eq (pc := 25) C 51 dX8_allCast_25 (by decide) h (fun h => ?_) (fun h => ?_)
      · refine j_iconst (pc := 51) (v := (0 : Int32)) C dX8_allCast_51 rfl ?_
        refine j_istore (pc := 52) C [(4, _), (0, _), (2, _), (3, _), (5, _)] dX8_allCast_52 (by decide) rfl ?_
        refine j_iinc (pc := 54) (v := (1 : Int32)) C 4 [(5, _), (4, _), (0, _), (2, _), (3, _)] dX8_allCast_54 rfl rfl (by decide) rfl ?_
        refine j_goto (pc := 57) C 12 dX8_allCast_57 (by decide) ?_
        exact j_weak [2, 3, 4, 1, 0] rfl (ih _ _ _ _ _ _ h)
      · refine j_iload_n (pc := 28) C 1 dX8_allCast_28 rfl ?_
        refine j_iload (pc := 29) C 4 dX8_allCast_29 rfl ?_
        refine j_ishr (pc := 31) C dX8_allCast_31 ?_
        refine j_iconst (pc := 32) (v := (1 : Int32)) C dX8_allCast_32 rfl ?_
        refine j_iand (pc := 33) C dX8_allCast_33 ?_
        refine j_if_eq (pc := 34) C 47 dX8_allCast_34 (by decide) h (fun h => ?_) (fun h => ?_)
        · refine j_iconst (pc := 47) (v := (1 : Int32)) C dX8_allCast_47 rfl ?_
          refine j_goto (pc := 48) C 52 dX8_allCast_48 (by decide) ?_
          refine j_istore (pc := 52) C [(4, _), (0, _), (2, _), (3, _), (5, _)] dX8_allCast_52 (by decide) rfl ?_
          refine j_iinc (pc := 54) (v := (1 : Int32)) C 4 [(5, _), (4, _), (0, _), (2, _), (3, _)] dX8_allCast_54 rfl rfl (by decide) rfl ?_
          refine j_goto (pc := 57) C 12 dX8_allCast_57 (by decide) ?_
          exact j_weak [2, 3, 4, 1, 0] rfl (ih _ _ _ _ _ _ h)
        · refine j_aload_n (pc := 37) C 0 dX8_allCast_37 rfl ?_
          refine j_iload (pc := 38) C 4 dX8_allCast_38 rfl ?_
          refine j_iload_n (pc := 40) C 2 dX8_allCast_40 rfl ?_
          refine cs_X8_227 (pc := 41) C ⟨Nat.le_of_ble_eq_true rfl, Nat.le_of_ble_eq_true rfl⟩ hkc (Nat.le_of_ble_eq_true rfl) dX8_allCast_41 h (fun r3 M3 h => ?_)
          refine j_if_eq (pc := 44) C 51 dX8_allCast_44 (by decide) h (fun h => ?_) (fun h => ?_)
          · refine j_iconst (pc := 51) (v := (0 : Int32)) C dX8_allCast_51 rfl ?_
            refine j_istore (pc := 52) C [(4, _), (0, _), (2, _), (3, _), (5, _)] dX8_allCast_52 (by decide) rfl ?_
            refine j_iinc (pc := 54) (v := (1 : Int32)) C 4 [(5, _), (4, _), (0, _), (2, _), (3, _)] dX8_allCast_54 rfl rfl (by decide) rfl ?_
            refine j_goto (pc := 57) C 12 dX8_allCast_57 (by decide) ?_
            exact j_weak [2, 3, 4, 1, 0] rfl (ih _ _ _ _ _ _ h)
          · refine j_iconst (pc := 47) (v := (1 : Int32)) C dX8_allCast_47 rfl ?_
            refine j_goto (pc := 48) C 52 dX8_allCast_48 (by decide) ?_
            refine j_istore (pc := 52) C [(4, _), (0, _), (2, _), (3, _), (5, _)] dX8_allCast_52 (by decide) rfl ?_
            refine j_iinc (pc := 54) (v := (1 : Int32)) C 4 [(5, _), (4, _), (0, _), (2, _), (3, _)] dX8_allCast_54 rfl rfl (by decide) rfl ?_
            refine j_goto (pc := 57) C 12 dX8_allCast_57 (by decide) ?_
            exact j_weak [2, 3, 4, 1, 0] rfl (ih _ _ _ _ _ _ h)
def w_X8_allCast (M : Mm) (x0 : Nat) (x1 : Int32) (x2 : Int32) (P : Int32 → Mm → Prop) : Prop := zk M x0 = 8 ∧ w_X8_freeAt M x0 x1 (fun r1 M1 => (∃ n12, l_X8_allCast_12 P (fun M4 x4_4 => (x4_4 = 0 ∨ x4_4 = 1) ∧ P x4_4 M4) n12 M1 x0 x2 r1 (1 : Int32) (0 : Int32)))
set_option maxHeartbeats 4000000 in
set_option maxRecDepth 100000 in
theorem c_X8_allCast (l : Launch) (E : EV) (M : Mm) (x0 : Nat) (x1 : Int32) (x2 : Int32) (P : Int32 → Mm → Prop) (h : w_X8_allCast M x0 x1 x2 P) : CtI l E yX8_allCast cX8_allCast 6 .boolean rm_X8_allCast 0 0 [.ref x0, .int x1, .int x2] M P := by
  refine ctI_of (by decide +kernel) (Nat.le_of_ble_eq_true rfl) ?_
  intro p e s m args below meth c C
  rw [w_X8_allCast] at h
  show J p l e rm_X8_allCast s m args below meth c (QI below E P args s 0 0) E 6 M 0 0 0 [(0, .ref x0), (1, .int x1), (2, .int x2)] []
  refine j_aload_n (pc := 0) C 0 dX8_allCast_0 rfl ?_
  refine j_iload_n (pc := 1) C 1 dX8_allCast_1 rfl ?_
  refine cs_X8_224 (pc := 2) C ⟨Nat.le_of_ble_eq_true rfl, Nat.le_of_ble_eq_true rfl⟩ ⟨Nat.le_of_ble_eq_true rfl, Nat.le_of_ble_eq_true rfl⟩ (Nat.le_of_ble_eq_true rfl) dX8_allCast_2 h (fun r1 M1 h => ?_)
  refine j_istore_n (pc := 5) C [(3, _), (0, _), (1, _), (2, _)] dX8_allCast_5 (by decide) rfl ?_
  refine j_iconst (pc := 6) (v := (1 : Int32)) C dX8_allCast_6 rfl ?_
  refine j_istore (pc := 7) C [(4, _), (3, _), (0, _), (1, _), (2, _)] dX8_allCast_7 (by decide) rfl ?_
  refine j_iconst (pc := 9) (v := (0 : Int32)) C dX8_allCast_9 rfl ?_
  refine j_istore (pc := 10) C [(5, _), (4, _), (3, _), (0, _), (1, _), (2, _)] dX8_allCast_10 (by decide) rfl ?_
  obtain ⟨n12, h⟩ := h
  refine j_weak [3, 5, 2, 1, 0] rfl (jl_X8_allCast_12 C ⟨Nat.le_of_ble_eq_true rfl, Nat.le_of_ble_eq_true rfl⟩ (fun M4 x4_4 h => ?_) n12 _ _ _ _ _ _ h)
  · refine j_iload (pc := 60) C 0 dX8_allCast_60 rfl ?_
    exact j_zret (pc := 62) C dX8_allCast_62 (Nat.le_of_ble_eq_true rfl) (Nat.le_of_ble_eq_true rfl) h
abbrev rm_X8_rehearsalsAhead : Room := { frames := 2, cells := 0, slots := 0, locals := 44 }
def l_X8_rehearsalsAhead_5 (P : Int32 → Mm → Prop) (K61 : Mm → Int32 → Prop) : Nat → Mm → Nat → Int32 → Int32 → Int32 → Int32 → Prop
  | 0, _, _, _, _, _, _ => False
  | n + 1, M, x0, x1, x2, x3, x4 => (zk M x0 = 8 ∧ ∃ a1, zR M x0 2 = some a1 ∧ zk M a1 = 10 ∧ vp_in (0 : Int32) (zl M a1) ∧ (if (zI M a1 (0 : Int32).toNatClampNeg) ≤ x4 then K61 M x3 else zk M x0 = 8 ∧ w_X8_of M x0 x4 (2 : Int32) (fun r2 M2 => (if r2 = 0 then zk M2 x0 = 8 ∧ w_X8_hasWork M2 x0 x4 x1 (fun r3 M3 => (if r3 = 0 then l_X8_rehearsalsAhead_5 P K61 n M3 x0 x1 x2 (x3 + (0 : Int32)) (x4 + (1 : Int32)) else zk M3 x0 = 8 ∧ w_X8_of M3 x0 x4 (0 : Int32) (fun r4 M4 => (if x2 ≤ r4 then l_X8_rehearsalsAhead_5 P K61 n M4 x0 x1 x2 (x3 + (0 : Int32)) (x4 + (1 : Int32)) else l_X8_rehearsalsAhead_5 P K61 n M4 x0 x1 x2 (x3 + (1 : Int32)) (x4 + (1 : Int32)))))) else l_X8_rehearsalsAhead_5 P K61 n M2 x0 x1 x2 (x3 + (0 : Int32)) (x4 + (1 : Int32))))))
set_option maxHeartbeats 4000000 in
set_option maxRecDepth 100000 in
theorem jl_X8_rehearsalsAhead_5 {P : Int32 → Mm → Prop} {K61 : Mm → Int32 → Prop} (C : Cx p l s m args meth c cX8_rehearsalsAhead 5 RX8 (some .int) E) (hkc : kc ≤ rm_X8_rehearsalsAhead.cells ∧ ks ≤ rm_X8_rehearsalsAhead.slots) (k61 : ∀ M x3, K61 M x3 → J p l e rm_X8_rehearsalsAhead s m args below meth c (QI below E P args s rm_X8_rehearsalsAhead.cells rm_X8_rehearsalsAhead.slots) E 5 M kc ks 61 [(3, .int x3)] []) : ∀ n M x0 x1 x2 x3 x4, l_X8_rehearsalsAhead_5 P K61 n M x0 x1 x2 x3 x4 → J p l e rm_X8_rehearsalsAhead s m args below meth c (QI below E P args s rm_X8_rehearsalsAhead.cells rm_X8_rehearsalsAhead.slots) E 5 M kc ks 5 [(0, .ref x0), (1, .int x1), (2, .int x2), (3, .int x3), (4, .int x4)] [] := by
  intro n
  induction n with
  | zero => intro M x0 x1 x2 x3 x4 h; exact h.elim
  | succ n ih =>
    intro M x0 x1 x2 x3 x4 h
    rw [l_X8_rehearsalsAhead_5] at h
    refine j_iload (pc := 5) C 4 dX8_rehearsalsAhead_5 rfl ?_
    refine j_aload_n (pc := 7) C 0 dX8_rehearsalsAhead_7 rfl ?_
    refine gf_X8_13 (pc := 8) C dX8_rehearsalsAhead_8 h (fun a1 h => ?_)
    refine j_iconst (pc := 11) (v := (0 : Int32)) C dX8_rehearsalsAhead_11 rfl ?_
    refine j_iald (pc := 12) C dX8_rehearsalsAhead_12 h (fun h => ?_)
    refine j_icmp_ge (pc := 13) C 61 dX8_rehearsalsAhead_13 (by decide) h (fun h => ?_) (fun h => ?_)
    · exact j_weak [3] rfl (k61 _ _ h)
    · refine j_iload_n (pc := 16) C 3 dX8_rehearsalsAhead_16 rfl ?_
      refine j_aload_n (pc := 17) C 0 dX8_rehearsalsAhead_17 rfl ?_
      refine j_iload (pc := 18) C 4 dX8_rehearsalsAhead_18 rfl ?_
      refine j_iconst (pc := 20) (v := (2 : Int32)) C dX8_rehearsalsAhead_20 rfl ?_
      refine cs_X8_198 (pc := 21) C ⟨Nat.le_of_ble_eq_true rfl, Nat.le_of_ble_eq_true rfl⟩ hkc (Nat.le_of_ble_eq_true rfl) dX8_rehearsalsAhead_21 h (fun r2 M2 h => ?_)
      refine j_if_ne (pc := 24) C 52 dX8_rehearsalsAhead_24 (by decide) h (fun h => ?_) (fun h => ?_)
      · refine j_iconst (pc := 52) (v := (0 : Int32)) C dX8_rehearsalsAhead_52 rfl ?_
        refine j_iadd (pc := 53) C dX8_rehearsalsAhead_53 ?_
        refine j_istore_n (pc := 54) C [(3, _), (0, _), (1, _), (2, _), (4, _)] dX8_rehearsalsAhead_54 (by decide) rfl ?_
        refine j_iinc (pc := 55) (v := (1 : Int32)) C 4 [(4, _), (3, _), (0, _), (1, _), (2, _)] dX8_rehearsalsAhead_55 rfl rfl (by decide) rfl ?_
        refine j_goto (pc := 58) C 5 dX8_rehearsalsAhead_58 (by decide) ?_
        exact j_weak [2, 3, 4, 1, 0] rfl (ih _ _ _ _ _ _ h)
      · refine j_aload_n (pc := 27) C 0 dX8_rehearsalsAhead_27 rfl ?_
        refine j_iload (pc := 28) C 4 dX8_rehearsalsAhead_28 rfl ?_
        refine j_iload_n (pc := 30) C 1 dX8_rehearsalsAhead_30 rfl ?_
        refine cs_X8_204 (pc := 31) C ⟨Nat.le_of_ble_eq_true rfl, Nat.le_of_ble_eq_true rfl⟩ hkc (Nat.le_of_ble_eq_true rfl) dX8_rehearsalsAhead_31 h (fun r3 M3 h => ?_)
        refine j_if_eq (pc := 34) C 52 dX8_rehearsalsAhead_34 (by decide) h (fun h => ?_) (fun h => ?_)
        · refine j_iconst (pc := 52) (v := (0 : Int32)) C dX8_rehearsalsAhead_52 rfl ?_
          refine j_iadd (pc := 53) C dX8_rehearsalsAhead_53 ?_
          refine j_istore_n (pc := 54) C [(3, _), (0, _), (1, _), (2, _), (4, _)] dX8_rehearsalsAhead_54 (by decide) rfl ?_
          refine j_iinc (pc := 55) (v := (1 : Int32)) C 4 [(4, _), (3, _), (0, _), (1, _), (2, _)] dX8_rehearsalsAhead_55 rfl rfl (by decide) rfl ?_
          refine j_goto (pc := 58) C 5 dX8_rehearsalsAhead_58 (by decide) ?_
          exact j_weak [2, 3, 4, 1, 0] rfl (ih _ _ _ _ _ _ h)
        · refine j_aload_n (pc := 37) C 0 dX8_rehearsalsAhead_37 rfl ?_
          refine j_iload (pc := 38) C 4 dX8_rehearsalsAhead_38 rfl ?_
          refine j_iconst (pc := 40) (v := (0 : Int32)) C dX8_rehearsalsAhead_40 rfl ?_
          refine cs_X8_198 (pc := 41) C ⟨Nat.le_of_ble_eq_true rfl, Nat.le_of_ble_eq_true rfl⟩ hkc (Nat.le_of_ble_eq_true rfl) dX8_rehearsalsAhead_41 h (fun r4 M4 h => ?_)
          refine j_iload_n (pc := 44) C 2 dX8_rehearsalsAhead_44 rfl ?_
          refine j_icmp_ge (pc := 45) C 52 dX8_rehearsalsAhead_45 (by decide) h (fun h => ?_) (fun h => ?_)
          · refine j_iconst (pc := 52) (v := (0 : Int32)) C dX8_rehearsalsAhead_52 rfl ?_
            refine j_iadd (pc := 53) C dX8_rehearsalsAhead_53 ?_
            refine j_istore_n (pc := 54) C [(3, _), (0, _), (1, _), (2, _), (4, _)] dX8_rehearsalsAhead_54 (by decide) rfl ?_
            refine j_iinc (pc := 55) (v := (1 : Int32)) C 4 [(4, _), (3, _), (0, _), (1, _), (2, _)] dX8_rehearsalsAhead_55 rfl rfl (by decide) rfl ?_
            refine j_goto (pc := 58) C 5 dX8_rehearsalsAhead_58 (by decide) ?_
            exact j_weak [2, 3, 4, 1, 0] rfl (ih _ _ _ _ _ _ h)
          · refine j_iconst (pc := 48) (v := (1 : Int32)) C dX8_rehearsalsAhead_48 rfl ?_
            refine j_goto (pc := 49) C 53 dX8_rehearsalsAhead_49 (by decide) ?_
            refine j_iadd (pc := 53) C dX8_rehearsalsAhead_53 ?_
            refine j_istore_n (pc := 54) C [(3, _), (0, _), (1, _), (2, _), (4, _)] dX8_rehearsalsAhead_54 (by decide) rfl ?_
            refine j_iinc (pc := 55) (v := (1 : Int32)) C 4 [(4, _), (3, _), (0, _), (1, _), (2, _)] dX8_rehearsalsAhead_55 rfl rfl (by decide) rfl ?_
            refine j_goto (pc := 58) C 5 dX8_rehearsalsAhead_58 (by decide) ?_
            exact j_weak [2, 3, 4, 1, 0] rfl (ih _ _ _ _ _ _ h)
def w_X8_rehearsalsAhead (M : Mm) (x0 : Nat) (x1 : Int32) (x2 : Int32) (P : Int32 → Mm → Prop) : Prop := (∃ n5, l_X8_rehearsalsAhead_5 P (fun M5 x3_5 => P x3_5 M5) n5 M x0 x1 x2 (0 : Int32) (0 : Int32))
set_option maxHeartbeats 4000000 in
set_option maxRecDepth 100000 in
theorem c_X8_rehearsalsAhead (l : Launch) (E : EV) (M : Mm) (x0 : Nat) (x1 : Int32) (x2 : Int32) (P : Int32 → Mm → Prop) (h : w_X8_rehearsalsAhead M x0 x1 x2 P) : CtI l E yX8_rehearsalsAhead cX8_rehearsalsAhead 5 .int rm_X8_rehearsalsAhead 0 0 [.ref x0, .int x1, .int x2] M P := by
  refine ctI_of (by decide +kernel) (Nat.le_of_ble_eq_true rfl) ?_
  intro p e s m args below meth c C
  rw [w_X8_rehearsalsAhead] at h
  show J p l e rm_X8_rehearsalsAhead s m args below meth c (QI below E P args s 0 0) E 5 M 0 0 0 [(0, .ref x0), (1, .int x1), (2, .int x2)] []
  refine j_iconst (pc := 0) (v := (0 : Int32)) C dX8_rehearsalsAhead_0 rfl ?_
  refine j_istore_n (pc := 1) C [(3, _), (0, _), (1, _), (2, _)] dX8_rehearsalsAhead_1 (by decide) rfl ?_
  refine j_iconst (pc := 2) (v := (0 : Int32)) C dX8_rehearsalsAhead_2 rfl ?_
  refine j_istore (pc := 3) C [(4, _), (3, _), (0, _), (1, _), (2, _)] dX8_rehearsalsAhead_3 (by decide) rfl ?_
  obtain ⟨n5, h⟩ := h
  refine j_weak [2, 3, 4, 1, 0] rfl (jl_X8_rehearsalsAhead_5 C ⟨Nat.le_of_ble_eq_true rfl, Nat.le_of_ble_eq_true rfl⟩ (fun M5 x3_5 h => ?_) n5 _ _ _ _ _ _ h)
  · refine j_iload_n (pc := 61) C 0 dX8_rehearsalsAhead_61 rfl ?_
    exact j_iret (pc := 62) C dX8_rehearsalsAhead_62 (Nat.le_of_ble_eq_true rfl) (Nat.le_of_ble_eq_true rfl) h
theorem cs_X8_230 (C : Cx p l s m args meth c cc nL RX8 ret E) {b : Nat} {y0 : Int32} {y1 : Int32} {P : Int32 → Mm → Prop} (hR : rm_X8_rehearsalsAhead.frames + 1 ≤ R.frames ∧ 8 + (5 + 11) + rm_X8_rehearsalsAhead.locals ≤ R.locals) (hf : kc ≤ R.cells ∧ ks ≤ R.slots) (hst : (st.map fun v => v.category).sum ≤ 8) (d : decode cc pc = .ok (.invokevirtual 230, 3)) (h : zk M b = 8 ∧ w_X8_rehearsalsAhead M b y0 y1 P) (kk : ∀ r M', P r M' → J p l e R s m args below meth c Q E nL M' kc ks (pc + 3) lo (.int r :: st)) : J p l e R s m args below meth c Q E nL M kc ks pc lo (.int y1 :: .int y0 :: .ref b :: st) :=
  j_cV_I (n := 2) (As := [.int y0, .int y1]) C co_X8 rfl wd_1493 wd_88 h.1 (c_X8_rehearsalsAhead l E M b y0 y1 P h.2) ⟨wd_1494, wd_1491, wd_106, by decide +kernel, by decide +kernel, by decide +kernel⟩ rfl rfl hR hf rfl hst d kk
abbrev rm_X8_areReady : Room := { frames := 3, cells := 0, slots := 0, locals := 68 }
def l_X8_areReady_5 (P : Int32 → Mm → Prop) (K58 : Mm → Int32 → Prop) : Nat → Mm → Nat → Int32 → Int32 → Int32 → Int32 → Prop
  | 0, _, _, _, _, _, _ => False
  | n + 1, M, x0, x1, x2, x3, x4 => (zk M x0 = 8 ∧ ∃ a1, zR M x0 1 = some a1 ∧ zk M a1 = 10 ∧ vp_in (3 : Int32) (zl M a1) ∧ (if (zI M a1 (3 : Int32).toNatClampNeg) ≤ x4 then K58 M x3 else (if x3 = 0 then l_X8_areReady_5 P K58 n M x0 x1 x2 (0 : Int32) (x4 + (1 : Int32)) else (if ((x1 >>> (x4 &&& 31)) &&& (1 : Int32)) = 0 then l_X8_areReady_5 P K58 n M x0 x1 x2 (1 : Int32) (x4 + (1 : Int32)) else zk M x0 = 8 ∧ w_X8_rehearsalsAhead M x0 x4 x2 (fun r2 M2 => zk M2 x0 = 8 ∧ w_X8_ofWork M2 x0 x4 (0 : Int32) (fun r3 M3 => (if r2 < r3 then l_X8_areReady_5 P K58 n M3 x0 x1 x2 (0 : Int32) (x4 + (1 : Int32)) else l_X8_areReady_5 P K58 n M3 x0 x1 x2 (1 : Int32) (x4 + (1 : Int32)))))))))
set_option maxHeartbeats 4000000 in
set_option maxRecDepth 100000 in
theorem jl_X8_areReady_5 {P : Int32 → Mm → Prop} {K58 : Mm → Int32 → Prop} (C : Cx p l s m args meth c cX8_areReady 5 RX8 (some .boolean) E) (hkc : kc ≤ rm_X8_areReady.cells ∧ ks ≤ rm_X8_areReady.slots) (k58 : ∀ M x3, K58 M x3 → J p l e rm_X8_areReady s m args below meth c (QI below E P args s rm_X8_areReady.cells rm_X8_areReady.slots) E 5 M kc ks 58 [(3, .int x3)] []) : ∀ n M x0 x1 x2 x3 x4, l_X8_areReady_5 P K58 n M x0 x1 x2 x3 x4 → J p l e rm_X8_areReady s m args below meth c (QI below E P args s rm_X8_areReady.cells rm_X8_areReady.slots) E 5 M kc ks 5 [(0, .ref x0), (1, .int x1), (2, .int x2), (3, .int x3), (4, .int x4)] [] := by
  intro n
  induction n with
  | zero => intro M x0 x1 x2 x3 x4 h; exact h.elim
  | succ n ih =>
    intro M x0 x1 x2 x3 x4 h
    rw [l_X8_areReady_5] at h
    refine j_iload (pc := 5) C 4 dX8_areReady_5 rfl ?_
    refine j_aload_n (pc := 7) C 0 dX8_areReady_7 rfl ?_
    refine gf_X8_7 (pc := 8) C dX8_areReady_8 h (fun a1 h => ?_)
    refine j_iconst (pc := 11) (v := (3 : Int32)) C dX8_areReady_11 rfl ?_
    refine j_iald (pc := 12) C dX8_areReady_12 h (fun h => ?_)
    refine j_icmp_ge (pc := 13) C 58 dX8_areReady_13 (by decide) h (fun h => ?_) (fun h => ?_)
    · exact j_weak [3] rfl (k58 _ _ h)
    · refine j_iload_n (pc := 16) C 3 dX8_areReady_16 rfl ?_
      refine j_if_eq (pc := 17) C 50 dX8_areReady_17 (by decide) h (fun h => ?_) (fun h => ?_)
      · refine j_iconst (pc := 50) (v := (0 : Int32)) C dX8_areReady_50 rfl ?_
        refine j_istore_n (pc := 51) C [(3, _), (0, _), (1, _), (2, _), (4, _)] dX8_areReady_51 (by decide) rfl ?_
        refine j_iinc (pc := 52) (v := (1 : Int32)) C 4 [(4, _), (3, _), (0, _), (1, _), (2, _)] dX8_areReady_52 rfl rfl (by decide) rfl ?_
        refine j_goto (pc := 55) C 5 dX8_areReady_55 (by decide) ?_
        exact j_weak [2, 3, 4, 1, 0] rfl (ih _ _ _ _ _ _ h)
      · refine j_iload_n (pc := 20) C 1 dX8_areReady_20 rfl ?_
        refine j_iload (pc := 21) C 4 dX8_areReady_21 rfl ?_
        refine j_ishr (pc := 23) C dX8_areReady_23 ?_
        refine j_iconst (pc := 24) (v := (1 : Int32)) C dX8_areReady_24 rfl ?_
        refine j_iand (pc := 25) C dX8_areReady_25 ?_
        refine j_if_eq (pc := 26) C 46 dX8_areReady_26 (by decide) h (fun h => ?_) (fun h => ?_)
        · refine j_iconst (pc := 46) (v := (1 : Int32)) C dX8_areReady_46 rfl ?_
          refine j_goto (pc := 47) C 51 dX8_areReady_47 (by decide) ?_
          refine j_istore_n (pc := 51) C [(3, _), (0, _), (1, _), (2, _), (4, _)] dX8_areReady_51 (by decide) rfl ?_
          refine j_iinc (pc := 52) (v := (1 : Int32)) C 4 [(4, _), (3, _), (0, _), (1, _), (2, _)] dX8_areReady_52 rfl rfl (by decide) rfl ?_
          refine j_goto (pc := 55) C 5 dX8_areReady_55 (by decide) ?_
          exact j_weak [2, 3, 4, 1, 0] rfl (ih _ _ _ _ _ _ h)
        · refine j_aload_n (pc := 29) C 0 dX8_areReady_29 rfl ?_
          refine j_iload (pc := 30) C 4 dX8_areReady_30 rfl ?_
          refine j_iload_n (pc := 32) C 2 dX8_areReady_32 rfl ?_
          refine cs_X8_230 (pc := 33) C ⟨Nat.le_of_ble_eq_true rfl, Nat.le_of_ble_eq_true rfl⟩ hkc (Nat.le_of_ble_eq_true rfl) dX8_areReady_33 h (fun r2 M2 h => ?_)
          refine j_aload_n (pc := 36) C 0 dX8_areReady_36 rfl ?_
          refine j_iload (pc := 37) C 4 dX8_areReady_37 rfl ?_
          refine j_iconst (pc := 39) (v := (0 : Int32)) C dX8_areReady_39 rfl ?_
          refine cs_X8_201 (pc := 40) C ⟨Nat.le_of_ble_eq_true rfl, Nat.le_of_ble_eq_true rfl⟩ hkc (Nat.le_of_ble_eq_true rfl) dX8_areReady_40 h (fun r3 M3 h => ?_)
          refine j_icmp_lt (pc := 43) C 50 dX8_areReady_43 (by decide) h (fun h => ?_) (fun h => ?_)
          · refine j_iconst (pc := 50) (v := (0 : Int32)) C dX8_areReady_50 rfl ?_
            refine j_istore_n (pc := 51) C [(3, _), (0, _), (1, _), (2, _), (4, _)] dX8_areReady_51 (by decide) rfl ?_
            refine j_iinc (pc := 52) (v := (1 : Int32)) C 4 [(4, _), (3, _), (0, _), (1, _), (2, _)] dX8_areReady_52 rfl rfl (by decide) rfl ?_
            refine j_goto (pc := 55) C 5 dX8_areReady_55 (by decide) ?_
            exact j_weak [2, 3, 4, 1, 0] rfl (ih _ _ _ _ _ _ h)
          · refine j_iconst (pc := 46) (v := (1 : Int32)) C dX8_areReady_46 rfl ?_
            refine j_goto (pc := 47) C 51 dX8_areReady_47 (by decide) ?_
            refine j_istore_n (pc := 51) C [(3, _), (0, _), (1, _), (2, _), (4, _)] dX8_areReady_51 (by decide) rfl ?_
            refine j_iinc (pc := 52) (v := (1 : Int32)) C 4 [(4, _), (3, _), (0, _), (1, _), (2, _)] dX8_areReady_52 rfl rfl (by decide) rfl ?_
            refine j_goto (pc := 55) C 5 dX8_areReady_55 (by decide) ?_
            exact j_weak [2, 3, 4, 1, 0] rfl (ih _ _ _ _ _ _ h)
def w_X8_areReady (M : Mm) (x0 : Nat) (x1 : Int32) (x2 : Int32) (P : Int32 → Mm → Prop) : Prop := (∃ n5, l_X8_areReady_5 P (fun M4 x3_4 => (x3_4 = 0 ∨ x3_4 = 1) ∧ P x3_4 M4) n5 M x0 x1 x2 (1 : Int32) (0 : Int32))
set_option maxHeartbeats 4000000 in
set_option maxRecDepth 100000 in
theorem c_X8_areReady (l : Launch) (E : EV) (M : Mm) (x0 : Nat) (x1 : Int32) (x2 : Int32) (P : Int32 → Mm → Prop) (h : w_X8_areReady M x0 x1 x2 P) : CtI l E yX8_areReady cX8_areReady 5 .boolean rm_X8_areReady 0 0 [.ref x0, .int x1, .int x2] M P := by
  refine ctI_of (by decide +kernel) (Nat.le_of_ble_eq_true rfl) ?_
  intro p e s m args below meth c C
  rw [w_X8_areReady] at h
  show J p l e rm_X8_areReady s m args below meth c (QI below E P args s 0 0) E 5 M 0 0 0 [(0, .ref x0), (1, .int x1), (2, .int x2)] []
  refine j_iconst (pc := 0) (v := (1 : Int32)) C dX8_areReady_0 rfl ?_
  refine j_istore_n (pc := 1) C [(3, _), (0, _), (1, _), (2, _)] dX8_areReady_1 (by decide) rfl ?_
  refine j_iconst (pc := 2) (v := (0 : Int32)) C dX8_areReady_2 rfl ?_
  refine j_istore (pc := 3) C [(4, _), (3, _), (0, _), (1, _), (2, _)] dX8_areReady_3 (by decide) rfl ?_
  obtain ⟨n5, h⟩ := h
  refine j_weak [2, 3, 4, 1, 0] rfl (jl_X8_areReady_5 C ⟨Nat.le_of_ble_eq_true rfl, Nat.le_of_ble_eq_true rfl⟩ (fun M4 x3_4 h => ?_) n5 _ _ _ _ _ _ h)
  · refine j_iload_n (pc := 58) C 0 dX8_areReady_58 rfl ?_
    exact j_zret (pc := 59) C dX8_areReady_59 (Nat.le_of_ble_eq_true rfl) (Nat.le_of_ble_eq_true rfl) h
abbrev rm_X8_areInTime : Room := { frames := 1, cells := 0, slots := 0, locals := 22 }
def l_X8_areInTime_5 (P : Int32 → Mm → Prop) (K62 : Mm → Int32 → Prop) : Nat → Mm → Nat → Int32 → Int32 → Int32 → Int32 → Prop
  | 0, _, _, _, _, _, _ => False
  | n + 1, M, x0, x1, x2, x3, x4 => (zk M x0 = 8 ∧ ∃ a1, zR M x0 1 = some a1 ∧ zk M a1 = 10 ∧ vp_in (3 : Int32) (zl M a1) ∧ (if (zI M a1 (3 : Int32).toNatClampNeg) ≤ x4 then K62 M x3 else (if x3 = 0 then l_X8_areInTime_5 P K62 n M x0 x1 x2 (0 : Int32) (x4 + (1 : Int32)) else (if ((x1 >>> (x4 &&& 31)) &&& (1 : Int32)) = 0 then l_X8_areInTime_5 P K62 n M x0 x1 x2 (1 : Int32) (x4 + (1 : Int32)) else zk M x0 = 8 ∧ w_X8_ofWork M x0 x4 (1 : Int32) (fun r2 M2 => zk M2 x0 = 8 ∧ w_X8_ofWork M2 x0 x4 (2 : Int32) (fun r3 M3 => w_X8_within M3 x2 r2 r3 (fun r4 M4 => (if r4 = 0 then l_X8_areInTime_5 P K62 n M4 x0 x1 x2 (0 : Int32) (x4 + (1 : Int32)) else l_X8_areInTime_5 P K62 n M4 x0 x1 x2 (1 : Int32) (x4 + (1 : Int32))))))))))
set_option maxHeartbeats 4000000 in
set_option maxRecDepth 100000 in
theorem jl_X8_areInTime_5 {P : Int32 → Mm → Prop} {K62 : Mm → Int32 → Prop} (C : Cx p l s m args meth c cX8_areInTime 5 RX8 (some .boolean) E) (hkc : kc ≤ rm_X8_areInTime.cells ∧ ks ≤ rm_X8_areInTime.slots) (k62 : ∀ M x3, K62 M x3 → J p l e rm_X8_areInTime s m args below meth c (QI below E P args s rm_X8_areInTime.cells rm_X8_areInTime.slots) E 5 M kc ks 62 [(3, .int x3)] []) : ∀ n M x0 x1 x2 x3 x4, l_X8_areInTime_5 P K62 n M x0 x1 x2 x3 x4 → J p l e rm_X8_areInTime s m args below meth c (QI below E P args s rm_X8_areInTime.cells rm_X8_areInTime.slots) E 5 M kc ks 5 [(0, .ref x0), (1, .int x1), (2, .int x2), (3, .int x3), (4, .int x4)] [] := by
  intro n
  induction n with
  | zero => intro M x0 x1 x2 x3 x4 h; exact h.elim
  | succ n ih =>
    intro M x0 x1 x2 x3 x4 h
    rw [l_X8_areInTime_5] at h
    refine j_iload (pc := 5) C 4 dX8_areInTime_5 rfl ?_
    refine j_aload_n (pc := 7) C 0 dX8_areInTime_7 rfl ?_
    refine gf_X8_7 (pc := 8) C dX8_areInTime_8 h (fun a1 h => ?_)
    refine j_iconst (pc := 11) (v := (3 : Int32)) C dX8_areInTime_11 rfl ?_
    refine j_iald (pc := 12) C dX8_areInTime_12 h (fun h => ?_)
    refine j_icmp_ge (pc := 13) C 62 dX8_areInTime_13 (by decide) h (fun h => ?_) (fun h => ?_)
    · exact j_weak [3] rfl (k62 _ _ h)
    · refine j_iload_n (pc := 16) C 3 dX8_areInTime_16 rfl ?_
      refine j_if_eq (pc := 17) C 54 dX8_areInTime_17 (by decide) h (fun h => ?_) (fun h => ?_)
      · refine j_iconst (pc := 54) (v := (0 : Int32)) C dX8_areInTime_54 rfl ?_
        refine j_istore_n (pc := 55) C [(3, _), (0, _), (1, _), (2, _), (4, _)] dX8_areInTime_55 (by decide) rfl ?_
        refine j_iinc (pc := 56) (v := (1 : Int32)) C 4 [(4, _), (3, _), (0, _), (1, _), (2, _)] dX8_areInTime_56 rfl rfl (by decide) rfl ?_
        refine j_goto (pc := 59) C 5 dX8_areInTime_59 (by decide) ?_
        exact j_weak [2, 3, 4, 1, 0] rfl (ih _ _ _ _ _ _ h)
      · refine j_iload_n (pc := 20) C 1 dX8_areInTime_20 rfl ?_
        refine j_iload (pc := 21) C 4 dX8_areInTime_21 rfl ?_
        refine j_ishr (pc := 23) C dX8_areInTime_23 ?_
        refine j_iconst (pc := 24) (v := (1 : Int32)) C dX8_areInTime_24 rfl ?_
        refine j_iand (pc := 25) C dX8_areInTime_25 ?_
        refine j_if_eq (pc := 26) C 50 dX8_areInTime_26 (by decide) h (fun h => ?_) (fun h => ?_)
        · refine j_iconst (pc := 50) (v := (1 : Int32)) C dX8_areInTime_50 rfl ?_
          refine j_goto (pc := 51) C 55 dX8_areInTime_51 (by decide) ?_
          refine j_istore_n (pc := 55) C [(3, _), (0, _), (1, _), (2, _), (4, _)] dX8_areInTime_55 (by decide) rfl ?_
          refine j_iinc (pc := 56) (v := (1 : Int32)) C 4 [(4, _), (3, _), (0, _), (1, _), (2, _)] dX8_areInTime_56 rfl rfl (by decide) rfl ?_
          refine j_goto (pc := 59) C 5 dX8_areInTime_59 (by decide) ?_
          exact j_weak [2, 3, 4, 1, 0] rfl (ih _ _ _ _ _ _ h)
        · refine j_iload_n (pc := 29) C 2 dX8_areInTime_29 rfl ?_
          refine j_aload_n (pc := 30) C 0 dX8_areInTime_30 rfl ?_
          refine j_iload (pc := 31) C 4 dX8_areInTime_31 rfl ?_
          refine j_iconst (pc := 33) (v := (1 : Int32)) C dX8_areInTime_33 rfl ?_
          refine cs_X8_201 (pc := 34) C ⟨Nat.le_of_ble_eq_true rfl, Nat.le_of_ble_eq_true rfl⟩ hkc (Nat.le_of_ble_eq_true rfl) dX8_areInTime_34 h (fun r2 M2 h => ?_)
          refine j_aload_n (pc := 37) C 0 dX8_areInTime_37 rfl ?_
          refine j_iload (pc := 38) C 4 dX8_areInTime_38 rfl ?_
          refine j_iconst (pc := 40) (v := (2 : Int32)) C dX8_areInTime_40 rfl ?_
          refine cs_X8_201 (pc := 41) C ⟨Nat.le_of_ble_eq_true rfl, Nat.le_of_ble_eq_true rfl⟩ hkc (Nat.le_of_ble_eq_true rfl) dX8_areInTime_41 h (fun r3 M3 h => ?_)
          refine cs_X8_80 (pc := 44) C ⟨Nat.le_of_ble_eq_true rfl, Nat.le_of_ble_eq_true rfl⟩ hkc (Nat.le_of_ble_eq_true rfl) dX8_areInTime_44 h (fun r4 M4 h => ?_)
          refine j_if_eq (pc := 47) C 54 dX8_areInTime_47 (by decide) h (fun h => ?_) (fun h => ?_)
          · refine j_iconst (pc := 54) (v := (0 : Int32)) C dX8_areInTime_54 rfl ?_
            refine j_istore_n (pc := 55) C [(3, _), (0, _), (1, _), (2, _), (4, _)] dX8_areInTime_55 (by decide) rfl ?_
            refine j_iinc (pc := 56) (v := (1 : Int32)) C 4 [(4, _), (3, _), (0, _), (1, _), (2, _)] dX8_areInTime_56 rfl rfl (by decide) rfl ?_
            refine j_goto (pc := 59) C 5 dX8_areInTime_59 (by decide) ?_
            exact j_weak [2, 3, 4, 1, 0] rfl (ih _ _ _ _ _ _ h)
          · refine j_iconst (pc := 50) (v := (1 : Int32)) C dX8_areInTime_50 rfl ?_
            refine j_goto (pc := 51) C 55 dX8_areInTime_51 (by decide) ?_
            refine j_istore_n (pc := 55) C [(3, _), (0, _), (1, _), (2, _), (4, _)] dX8_areInTime_55 (by decide) rfl ?_
            refine j_iinc (pc := 56) (v := (1 : Int32)) C 4 [(4, _), (3, _), (0, _), (1, _), (2, _)] dX8_areInTime_56 rfl rfl (by decide) rfl ?_
            refine j_goto (pc := 59) C 5 dX8_areInTime_59 (by decide) ?_
            exact j_weak [2, 3, 4, 1, 0] rfl (ih _ _ _ _ _ _ h)
def w_X8_areInTime (M : Mm) (x0 : Nat) (x1 : Int32) (x2 : Int32) (P : Int32 → Mm → Prop) : Prop := (∃ n5, l_X8_areInTime_5 P (fun M5 x3_5 => (x3_5 = 0 ∨ x3_5 = 1) ∧ P x3_5 M5) n5 M x0 x1 x2 (1 : Int32) (0 : Int32))
set_option maxHeartbeats 4000000 in
set_option maxRecDepth 100000 in
theorem c_X8_areInTime (l : Launch) (E : EV) (M : Mm) (x0 : Nat) (x1 : Int32) (x2 : Int32) (P : Int32 → Mm → Prop) (h : w_X8_areInTime M x0 x1 x2 P) : CtI l E yX8_areInTime cX8_areInTime 5 .boolean rm_X8_areInTime 0 0 [.ref x0, .int x1, .int x2] M P := by
  refine ctI_of (by decide +kernel) (Nat.le_of_ble_eq_true rfl) ?_
  intro p e s m args below meth c C
  rw [w_X8_areInTime] at h
  show J p l e rm_X8_areInTime s m args below meth c (QI below E P args s 0 0) E 5 M 0 0 0 [(0, .ref x0), (1, .int x1), (2, .int x2)] []
  refine j_iconst (pc := 0) (v := (1 : Int32)) C dX8_areInTime_0 rfl ?_
  refine j_istore_n (pc := 1) C [(3, _), (0, _), (1, _), (2, _)] dX8_areInTime_1 (by decide) rfl ?_
  refine j_iconst (pc := 2) (v := (0 : Int32)) C dX8_areInTime_2 rfl ?_
  refine j_istore (pc := 3) C [(4, _), (3, _), (0, _), (1, _), (2, _)] dX8_areInTime_3 (by decide) rfl ?_
  obtain ⟨n5, h⟩ := h
  refine j_weak [2, 3, 4, 1, 0] rfl (jl_X8_areInTime_5 C ⟨Nat.le_of_ble_eq_true rfl, Nat.le_of_ble_eq_true rfl⟩ (fun M5 x3_5 h => ?_) n5 _ _ _ _ _ _ h)
  · refine j_iload_n (pc := 62) C 0 dX8_areInTime_62 rfl ?_
    exact j_zret (pc := 63) C dX8_areInTime_63 (Nat.le_of_ble_eq_true rfl) (Nat.le_of_ble_eq_true rfl) h
abbrev rm_X8_isHallFree : Room := { frames := 1, cells := 0, slots := 0, locals := 22 }
def l_X8_isHallFree_5 (P : Int32 → Mm → Prop) (K91 : Mm → Int32 → Prop) : Nat → Mm → Nat → Int32 → Int32 → Int32 → Int32 → Prop
  | 0, _, _, _, _, _, _ => False
  | n + 1, M, x0, x1, x2, x3, x4 => (zk M x0 = 8 ∧ ∃ a1, zR M x0 2 = some a1 ∧ zk M a1 = 10 ∧ vp_in (0 : Int32) (zl M a1) ∧ (if (zI M a1 (0 : Int32).toNatClampNeg) ≤ x4 then K91 M x3 else zk M x0 = 8 ∧ w_X8_of M x0 x4 (0 : Int32) (fun r2 M2 => (if x2 ≤ r2 then zk M2 x0 = 8 ∧ w_X8_of M2 x0 x4 (0 : Int32) (fun r3 M3 => (if x3 = 0 then l_X8_isHallFree_5 P K91 n M3 x0 x1 x2 (0 : Int32) (x4 + (1 : Int32)) else zk M3 x0 = 8 ∧ w_X8_of M3 x0 x4 (1 : Int32) (fun r4 M4 => (if r4 = x1 then (zk M4 x0 = 8 ∧ ∃ a5, zR M4 x0 1 = some a5 ∧ zk M4 a5 = 10 ∧ vp_in ((6 : Int32) + x1) (zl M4 a5) ∧ (if (r3 - x2) ≤ (zI M4 a5 ((6 : Int32) + x1).toNatClampNeg) then l_X8_isHallFree_5 P K91 n M4 x0 x1 x2 (0 : Int32) (x4 + (1 : Int32)) else l_X8_isHallFree_5 P K91 n M4 x0 x1 x2 (1 : Int32) (x4 + (1 : Int32)))) else l_X8_isHallFree_5 P K91 n M4 x0 x1 x2 (1 : Int32) (x4 + (1 : Int32)))))) else zk M2 x0 = 8 ∧ w_X8_of M2 x0 x4 (0 : Int32) (fun r6 M6 => (if x3 = 0 then l_X8_isHallFree_5 P K91 n M6 x0 x1 x2 (0 : Int32) (x4 + (1 : Int32)) else zk M6 x0 = 8 ∧ w_X8_of M6 x0 x4 (1 : Int32) (fun r7 M7 => (if r7 = x1 then (zk M7 x0 = 8 ∧ ∃ a8, zR M7 x0 1 = some a8 ∧ zk M7 a8 = 10 ∧ vp_in ((6 : Int32) + x1) (zl M7 a8) ∧ (if (x2 - r6) ≤ (zI M7 a8 ((6 : Int32) + x1).toNatClampNeg) then l_X8_isHallFree_5 P K91 n M7 x0 x1 x2 (0 : Int32) (x4 + (1 : Int32)) else l_X8_isHallFree_5 P K91 n M7 x0 x1 x2 (1 : Int32) (x4 + (1 : Int32)))) else l_X8_isHallFree_5 P K91 n M7 x0 x1 x2 (1 : Int32) (x4 + (1 : Int32))))))))))
set_option maxHeartbeats 4000000 in
set_option maxRecDepth 100000 in
theorem jl_X8_isHallFree_5 {P : Int32 → Mm → Prop} {K91 : Mm → Int32 → Prop} (C : Cx p l s m args meth c cX8_isHallFree 6 RX8 (some .boolean) E) (hkc : kc ≤ rm_X8_isHallFree.cells ∧ ks ≤ rm_X8_isHallFree.slots) (k91 : ∀ M x3, K91 M x3 → J p l e rm_X8_isHallFree s m args below meth c (QI below E P args s rm_X8_isHallFree.cells rm_X8_isHallFree.slots) E 6 M kc ks 91 [(3, .int x3)] []) : ∀ n M x0 x1 x2 x3 x4, l_X8_isHallFree_5 P K91 n M x0 x1 x2 x3 x4 → J p l e rm_X8_isHallFree s m args below meth c (QI below E P args s rm_X8_isHallFree.cells rm_X8_isHallFree.slots) E 6 M kc ks 5 [(0, .ref x0), (1, .int x1), (2, .int x2), (3, .int x3), (4, .int x4)] [] := by
  intro n
  induction n with
  | zero => intro M x0 x1 x2 x3 x4 h; exact h.elim
  | succ n ih =>
    intro M x0 x1 x2 x3 x4 h
    rw [l_X8_isHallFree_5] at h
    refine j_iload (pc := 5) C 4 dX8_isHallFree_5 rfl ?_
    refine j_aload_n (pc := 7) C 0 dX8_isHallFree_7 rfl ?_
    refine gf_X8_13 (pc := 8) C dX8_isHallFree_8 h (fun a1 h => ?_)
    refine j_iconst (pc := 11) (v := (0 : Int32)) C dX8_isHallFree_11 rfl ?_
    refine j_iald (pc := 12) C dX8_isHallFree_12 h (fun h => ?_)
    refine j_icmp_ge (pc := 13) C 91 dX8_isHallFree_13 (by decide) h (fun h => ?_) (fun h => ?_)
    · exact j_weak [3] rfl (k91 _ _ h)
    · refine j_aload_n (pc := 16) C 0 dX8_isHallFree_16 rfl ?_
      refine j_iload (pc := 17) C 4 dX8_isHallFree_17 rfl ?_
      refine j_iconst (pc := 19) (v := (0 : Int32)) C dX8_isHallFree_19 rfl ?_
      refine cs_X8_198 (pc := 20) C ⟨Nat.le_of_ble_eq_true rfl, Nat.le_of_ble_eq_true rfl⟩ hkc (Nat.le_of_ble_eq_true rfl) dX8_isHallFree_20 h (fun r2 M2 h => ?_)
      refine j_iload_n (pc := 23) C 2 dX8_isHallFree_23 rfl ?_
      refine j_icmp_ge (pc := 24) C 39 dX8_isHallFree_24 (by decide) h (fun h => ?_) (fun h => ?_)
      · refine j_aload_n (pc := 39) C 0 dX8_isHallFree_39 rfl ?_
        refine j_iload (pc := 40) C 4 dX8_isHallFree_40 rfl ?_
        refine j_iconst (pc := 42) (v := (0 : Int32)) C dX8_isHallFree_42 rfl ?_
        refine cs_X8_198 (pc := 43) C ⟨Nat.le_of_ble_eq_true rfl, Nat.le_of_ble_eq_true rfl⟩ hkc (Nat.le_of_ble_eq_true rfl) dX8_isHallFree_43 h (fun r3 M3 h => ?_)
        refine j_iload_n (pc := 46) C 2 dX8_isHallFree_46 rfl ?_
        refine j_isub (pc := 47) C dX8_isHallFree_47 ?_
        refine j_istore (pc := 48) C [(5, _), (0, _), (1, _), (2, _), (3, _), (4, _)] dX8_isHallFree_48 (by decide) rfl ?_
        refine j_iload_n (pc := 50) C 4 dX8_isHallFree_50 rfl ?_
        refine j_if_eq (pc := 51) C 83 dX8_isHallFree_51 (by decide) h (fun h => ?_) (fun h => ?_)
        · refine j_iconst (pc := 83) (v := (0 : Int32)) C dX8_isHallFree_83 rfl ?_
          refine j_istore_n (pc := 84) C [(3, _), (5, _), (0, _), (1, _), (2, _), (4, _)] dX8_isHallFree_84 (by decide) rfl ?_
          refine j_iinc (pc := 85) (v := (1 : Int32)) C 5 [(4, _), (3, _), (5, _), (0, _), (1, _), (2, _)] dX8_isHallFree_85 rfl rfl (by decide) rfl ?_
          refine j_goto (pc := 88) C 5 dX8_isHallFree_88 (by decide) ?_
          exact j_weak [3, 4, 5, 1, 0] rfl (ih _ _ _ _ _ _ h)
        · refine j_aload_n (pc := 54) C 1 dX8_isHallFree_54 rfl ?_
          refine j_iload (pc := 55) C 5 dX8_isHallFree_55 rfl ?_
          refine j_iconst (pc := 57) (v := (1 : Int32)) C dX8_isHallFree_57 rfl ?_
          refine cs_X8_198 (pc := 58) C ⟨Nat.le_of_ble_eq_true rfl, Nat.le_of_ble_eq_true rfl⟩ hkc (Nat.le_of_ble_eq_true rfl) dX8_isHallFree_58 h (fun r4 M4 h => ?_)
          refine j_iload_n (pc := 61) C 2 dX8_isHallFree_61 rfl ?_
          refine j_icmp_ne (pc := 62) C 79 dX8_isHallFree_62 (by decide) h (fun h => ?_) (fun h => ?_)
          · refine j_iconst (pc := 79) (v := (1 : Int32)) C dX8_isHallFree_79 rfl ?_
            refine j_goto (pc := 80) C 84 dX8_isHallFree_80 (by decide) ?_
            refine j_istore_n (pc := 84) C [(3, _), (5, _), (0, _), (1, _), (2, _), (4, _)] dX8_isHallFree_84 (by decide) rfl ?_
            refine j_iinc (pc := 85) (v := (1 : Int32)) C 5 [(4, _), (3, _), (5, _), (0, _), (1, _), (2, _)] dX8_isHallFree_85 rfl rfl (by decide) rfl ?_
            refine j_goto (pc := 88) C 5 dX8_isHallFree_88 (by decide) ?_
            exact j_weak [3, 4, 5, 1, 0] rfl (ih _ _ _ _ _ _ h)
          · refine j_iload (pc := 65) C 0 dX8_isHallFree_65 rfl ?_
            refine j_aload_n (pc := 67) C 1 dX8_isHallFree_67 rfl ?_
            refine gf_X8_7 (pc := 68) C dX8_isHallFree_68 h (fun a5 h => ?_)
            refine j_bipush (pc := 71) (v := (6 : Int32)) C dX8_isHallFree_71 rfl ?_
            refine j_iload_n (pc := 73) C 2 dX8_isHallFree_73 rfl ?_
            refine j_iadd (pc := 74) C dX8_isHallFree_74 ?_
            refine j_iald (pc := 75) C dX8_isHallFree_75 h (fun h => ?_)
            refine j_icmp_le (pc := 76) C 83 dX8_isHallFree_76 (by decide) h (fun h => ?_) (fun h => ?_)
            · refine j_iconst (pc := 83) (v := (0 : Int32)) C dX8_isHallFree_83 rfl ?_
              refine j_istore_n (pc := 84) C [(3, _), (5, _), (0, _), (1, _), (2, _), (4, _)] dX8_isHallFree_84 (by decide) rfl ?_
              refine j_iinc (pc := 85) (v := (1 : Int32)) C 5 [(4, _), (3, _), (5, _), (0, _), (1, _), (2, _)] dX8_isHallFree_85 rfl rfl (by decide) rfl ?_
              refine j_goto (pc := 88) C 5 dX8_isHallFree_88 (by decide) ?_
              exact j_weak [3, 4, 5, 1, 0] rfl (ih _ _ _ _ _ _ h)
            · refine j_iconst (pc := 79) (v := (1 : Int32)) C dX8_isHallFree_79 rfl ?_
              refine j_goto (pc := 80) C 84 dX8_isHallFree_80 (by decide) ?_
              refine j_istore_n (pc := 84) C [(3, _), (5, _), (0, _), (1, _), (2, _), (4, _)] dX8_isHallFree_84 (by decide) rfl ?_
              refine j_iinc (pc := 85) (v := (1 : Int32)) C 5 [(4, _), (3, _), (5, _), (0, _), (1, _), (2, _)] dX8_isHallFree_85 rfl rfl (by decide) rfl ?_
              refine j_goto (pc := 88) C 5 dX8_isHallFree_88 (by decide) ?_
              exact j_weak [3, 4, 5, 1, 0] rfl (ih _ _ _ _ _ _ h)
      · refine j_iload_n (pc := 27) C 2 dX8_isHallFree_27 rfl ?_
        refine j_aload_n (pc := 28) C 0 dX8_isHallFree_28 rfl ?_
        refine j_iload (pc := 29) C 4 dX8_isHallFree_29 rfl ?_
        refine j_iconst (pc := 31) (v := (0 : Int32)) C dX8_isHallFree_31 rfl ?_
        refine cs_X8_198 (pc := 32) C ⟨Nat.le_of_ble_eq_true rfl, Nat.le_of_ble_eq_true rfl⟩ hkc (Nat.le_of_ble_eq_true rfl) dX8_isHallFree_32 h (fun r6 M6 h => ?_)
        refine j_isub (pc := 35) C dX8_isHallFree_35 ?_
        refine j_goto (pc := 36) C 48 dX8_isHallFree_36 (by decide) ?_
        refine j_istore (pc := 48) C [(5, _), (0, _), (1, _), (2, _), (3, _), (4, _)] dX8_isHallFree_48 (by decide) rfl ?_
        refine j_iload_n (pc := 50) C 4 dX8_isHallFree_50 rfl ?_
        refine j_if_eq (pc := 51) C 83 dX8_isHallFree_51 (by decide) h (fun h => ?_) (fun h => ?_)
        · refine j_iconst (pc := 83) (v := (0 : Int32)) C dX8_isHallFree_83 rfl ?_
          refine j_istore_n (pc := 84) C [(3, _), (5, _), (0, _), (1, _), (2, _), (4, _)] dX8_isHallFree_84 (by decide) rfl ?_
          refine j_iinc (pc := 85) (v := (1 : Int32)) C 5 [(4, _), (3, _), (5, _), (0, _), (1, _), (2, _)] dX8_isHallFree_85 rfl rfl (by decide) rfl ?_
          refine j_goto (pc := 88) C 5 dX8_isHallFree_88 (by decide) ?_
          exact j_weak [3, 4, 5, 1, 0] rfl (ih _ _ _ _ _ _ h)
        · refine j_aload_n (pc := 54) C 1 dX8_isHallFree_54 rfl ?_
          refine j_iload (pc := 55) C 5 dX8_isHallFree_55 rfl ?_
          refine j_iconst (pc := 57) (v := (1 : Int32)) C dX8_isHallFree_57 rfl ?_
          refine cs_X8_198 (pc := 58) C ⟨Nat.le_of_ble_eq_true rfl, Nat.le_of_ble_eq_true rfl⟩ hkc (Nat.le_of_ble_eq_true rfl) dX8_isHallFree_58 h (fun r7 M7 h => ?_)
          refine j_iload_n (pc := 61) C 2 dX8_isHallFree_61 rfl ?_
          refine j_icmp_ne (pc := 62) C 79 dX8_isHallFree_62 (by decide) h (fun h => ?_) (fun h => ?_)
          · refine j_iconst (pc := 79) (v := (1 : Int32)) C dX8_isHallFree_79 rfl ?_
            refine j_goto (pc := 80) C 84 dX8_isHallFree_80 (by decide) ?_
            refine j_istore_n (pc := 84) C [(3, _), (5, _), (0, _), (1, _), (2, _), (4, _)] dX8_isHallFree_84 (by decide) rfl ?_
            refine j_iinc (pc := 85) (v := (1 : Int32)) C 5 [(4, _), (3, _), (5, _), (0, _), (1, _), (2, _)] dX8_isHallFree_85 rfl rfl (by decide) rfl ?_
            refine j_goto (pc := 88) C 5 dX8_isHallFree_88 (by decide) ?_
            exact j_weak [3, 4, 5, 1, 0] rfl (ih _ _ _ _ _ _ h)
          · refine j_iload (pc := 65) C 0 dX8_isHallFree_65 rfl ?_
            refine j_aload_n (pc := 67) C 1 dX8_isHallFree_67 rfl ?_
            refine gf_X8_7 (pc := 68) C dX8_isHallFree_68 h (fun a8 h => ?_)
            refine j_bipush (pc := 71) (v := (6 : Int32)) C dX8_isHallFree_71 rfl ?_
            refine j_iload_n (pc := 73) C 2 dX8_isHallFree_73 rfl ?_
            refine j_iadd (pc := 74) C dX8_isHallFree_74 ?_
            refine j_iald (pc := 75) C dX8_isHallFree_75 h (fun h => ?_)
            refine j_icmp_le (pc := 76) C 83 dX8_isHallFree_76 (by decide) h (fun h => ?_) (fun h => ?_)
            · refine j_iconst (pc := 83) (v := (0 : Int32)) C dX8_isHallFree_83 rfl ?_
              refine j_istore_n (pc := 84) C [(3, _), (5, _), (0, _), (1, _), (2, _), (4, _)] dX8_isHallFree_84 (by decide) rfl ?_
              refine j_iinc (pc := 85) (v := (1 : Int32)) C 5 [(4, _), (3, _), (5, _), (0, _), (1, _), (2, _)] dX8_isHallFree_85 rfl rfl (by decide) rfl ?_
              refine j_goto (pc := 88) C 5 dX8_isHallFree_88 (by decide) ?_
              exact j_weak [3, 4, 5, 1, 0] rfl (ih _ _ _ _ _ _ h)
            · refine j_iconst (pc := 79) (v := (1 : Int32)) C dX8_isHallFree_79 rfl ?_
              refine j_goto (pc := 80) C 84 dX8_isHallFree_80 (by decide) ?_
              refine j_istore_n (pc := 84) C [(3, _), (5, _), (0, _), (1, _), (2, _), (4, _)] dX8_isHallFree_84 (by decide) rfl ?_
              refine j_iinc (pc := 85) (v := (1 : Int32)) C 5 [(4, _), (3, _), (5, _), (0, _), (1, _), (2, _)] dX8_isHallFree_85 rfl rfl (by decide) rfl ?_
              refine j_goto (pc := 88) C 5 dX8_isHallFree_88 (by decide) ?_
              exact j_weak [3, 4, 5, 1, 0] rfl (ih _ _ _ _ _ _ h)
def w_X8_isHallFree (M : Mm) (x0 : Nat) (x1 : Int32) (x2 : Int32) (P : Int32 → Mm → Prop) : Prop := (∃ n5, l_X8_isHallFree_5 P (fun M9 x3_9 => (x3_9 = 0 ∨ x3_9 = 1) ∧ P x3_9 M9) n5 M x0 x1 x2 (1 : Int32) (0 : Int32))
set_option maxHeartbeats 4000000 in
set_option maxRecDepth 100000 in
theorem c_X8_isHallFree (l : Launch) (E : EV) (M : Mm) (x0 : Nat) (x1 : Int32) (x2 : Int32) (P : Int32 → Mm → Prop) (h : w_X8_isHallFree M x0 x1 x2 P) : CtI l E yX8_isHallFree cX8_isHallFree 6 .boolean rm_X8_isHallFree 0 0 [.ref x0, .int x1, .int x2] M P := by
  refine ctI_of (by decide +kernel) (Nat.le_of_ble_eq_true rfl) ?_
  intro p e s m args below meth c C
  rw [w_X8_isHallFree] at h
  show J p l e rm_X8_isHallFree s m args below meth c (QI below E P args s 0 0) E 6 M 0 0 0 [(0, .ref x0), (1, .int x1), (2, .int x2)] []
  refine j_iconst (pc := 0) (v := (1 : Int32)) C dX8_isHallFree_0 rfl ?_
  refine j_istore_n (pc := 1) C [(3, _), (0, _), (1, _), (2, _)] dX8_isHallFree_1 (by decide) rfl ?_
  refine j_iconst (pc := 2) (v := (0 : Int32)) C dX8_isHallFree_2 rfl ?_
  refine j_istore (pc := 3) C [(4, _), (3, _), (0, _), (1, _), (2, _)] dX8_isHallFree_3 (by decide) rfl ?_
  obtain ⟨n5, h⟩ := h
  refine j_weak [2, 3, 4, 1, 0] rfl (jl_X8_isHallFree_5 C ⟨Nat.le_of_ble_eq_true rfl, Nat.le_of_ble_eq_true rfl⟩ (fun M9 x3_9 h => ?_) n5 _ _ _ _ _ _ h)
  · refine j_iload_n (pc := 91) C 0 dX8_isHallFree_91 rfl ?_
    exact j_zret (pc := 92) C dX8_isHallFree_92 (Nat.le_of_ble_eq_true rfl) (Nat.le_of_ble_eq_true rfl) h
end GW22
