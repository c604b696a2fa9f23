/-! written by a program (wip/whole/gen.py) out of the decode rows and the tables: walks of X8 -/

section GW26
variable {p : Program} {l : Launch} {e : Env} {R : Room} {s : State} {m : MethodId} {args : Array Value} {below : List Frame} {meth : Method} {c : Code} {Q : State → Prop} {cc : ByteArray} {nL : Nat} {ret : Option FieldType} {E : EV} {M : Mm} {kc ks pc : Nat} {lo : List (Nat × Value)} {st : List Value}
abbrev rm_X8_noSlot : Room := { frames := 2, cells := 0, slots := 0, locals := 44 }
def w_X8_noSlot (M : Mm) (x0 : Nat) (x1 : Int32) (P : Int32 → Mm → Prop) : Prop := zk M x0 = 8 ∧ (∀ M1, M1 = sI M x0 0 (0 : Int32) → zk M1 x0 = 8 ∧ w_X8_no M1 x0 x1 (2 : Int32) (fun r2 M2 => (r2 = 0 ∨ r2 = 1) ∧ P r2 M2))
set_option maxHeartbeats 4000000 in
set_option maxRecDepth 100000 in
theorem c_X8_noSlot (l : Launch) (E : EV) (M : Mm) (x0 : Nat) (x1 : Int32) (P : Int32 → Mm → Prop) (h : w_X8_noSlot M x0 x1 P) : CtI l E yX8_noSlot cX8_noSlot 2 .boolean rm_X8_noSlot 0 0 [.ref x0, .int x1] M P := by
  refine ctI_of (by decide +kernel) (Nat.le_of_ble_eq_true rfl) ?_
  intro p e s m args below meth c C
  rw [w_X8_noSlot] at h
  show J p l e rm_X8_noSlot s m args below meth c (QI below E P args s 0 0) E 2 M 0 0 0 [(0, .ref x0), (1, .int x1)] []
  refine j_aload_n (pc := 0) C 0 dX8_noSlot_0 rfl ?_
  refine j_iconst (pc := 1) (v := (0 : Int32)) C dX8_noSlot_1 rfl ?_
  refine pf_X8_56 (pc := 2) C dX8_noSlot_2 h (fun M1 h => ?_)
  refine j_aload_n (pc := 5) C 0 dX8_noSlot_5 rfl ?_
  refine j_iload_n (pc := 6) C 1 dX8_noSlot_6 rfl ?_
  refine j_iconst (pc := 7) (v := (2 : Int32)) C dX8_noSlot_7 rfl ?_
  refine cs_X8_249 (pc := 8) C ⟨Nat.le_of_ble_eq_true rfl, Nat.le_of_ble_eq_true rfl⟩ ⟨Nat.le_of_ble_eq_true rfl, Nat.le_of_ble_eq_true rfl⟩ (Nat.le_of_ble_eq_true rfl) dX8_noSlot_8 h (fun r2 M2 h => ?_)
  exact j_zret (pc := 11) C dX8_noSlot_11 (Nat.le_of_ble_eq_true rfl) (Nat.le_of_ble_eq_true rfl) h
theorem cs_X8_331 (C : Cx p l s m args meth c cc nL RX8 ret E) {b : Nat} {y0 : Int32} {P : Int32 → Mm → Prop} (hR : rm_X8_noSlot.frames + 1 ≤ R.frames ∧ 8 + (2 + 11) + rm_X8_noSlot.locals ≤ R.locals) (hf : kc ≤ R.cells ∧ ks ≤ R.slots) (hst : (st.map fun v => v.category).sum ≤ 8) (d : decode cc pc = .ok (.invokevirtual 331, 3)) (h : zk M b = 8 ∧ w_X8_noSlot M b y0 P) (kk : ∀ r M', P r M' → J p l e R s m args below meth c Q E nL M' kc ks (pc + 3) lo (.int r :: st)) : J p l e R s m args below meth c Q E nL M kc ks pc lo (.int y0 :: .ref b :: st) :=
  j_cV_I (n := 1) (As := [.int y0]) C co_X8 rfl wd_1600 wd_99 h.1 (c_X8_noSlot l E M b y0 P h.2) ⟨wd_1601, wd_1598, wd_106, by decide +kernel, by decide +kernel, by decide +kernel⟩ rfl rfl hR hf rfl hst d kk
abbrev rm_X8_saveSnapshot : Room := { frames := 3, cells := 0, slots := 0, locals := 65 }
def w_X8_saveSnapshot (M : Mm) (x0 : Nat) (x1 : Int32) (P : Int32 → Mm → Prop) : Prop := zk M x0 = 8 ∧ w_X8_noSlot M x0 x1 (fun r1 M1 => (if r1 = 0 then (zk M1 x0 = 8 ∧ ∃ a2, zR M1 x0 27 = some a2 ∧ zk M1 a2 = 12 ∧ vp_in x1 (zl M1 a2) ∧ (zk M1 x0 = 8 ∧ ∃ a3, zR M1 x0 2 = some a3 ∧ (zk M1 x0 = 8 ∧ ∃ a4, zR M1 x0 26 = some a4 ∧ w_X8_copies M1 a3 (0 : Int32) a4 ((689 : Int32) * x1) (fun M5 => (zk M5 x0 = 8 ∧ ∃ a6, zR M5 x0 27 = some a6 ∧ zk M5 a6 = 12 ∧ vp_in x1 (zl M5 a6) ∧ (∀ M7, M7 = sI M5 a6 x1.toNatClampNeg (vp_nar .boolean (1 : Int32)) → ((zI M1 a2 x1.toNatClampNeg) = 0 ∨ (zI M1 a2 x1.toNatClampNeg) = 1) ∧ P (zI M1 a2 x1.toNatClampNeg) M7)))))) else ((0 : Int32) = 0 ∨ (0 : Int32) = 1) ∧ P (0 : Int32) M1))
set_option maxHeartbeats 4000000 in
set_option maxRecDepth 100000 in
theorem c_X8_saveSnapshot (l : Launch) (E : EV) (M : Mm) (x0 : Nat) (x1 : Int32) (P : Int32 → Mm → Prop) (h : w_X8_saveSnapshot M x0 x1 P) : CtI l E yX8_saveSnapshot cX8_saveSnapshot 3 .boolean rm_X8_saveSnapshot 0 0 [.ref x0, .int x1] M P := by
  refine ctI_of (by decide +kernel) (Nat.le_of_ble_eq_true rfl) ?_
  intro p e s m args below meth c C
  rw [w_X8_saveSnapshot] at h
  show J p l e rm_X8_saveSnapshot s m args below meth c (QI below E P args s 0 0) E 3 M 0 0 0 [(0, .ref x0), (1, .int x1)] []
  refine j_aload_n (pc := 0) C 0 dX8_saveSnapshot_0 rfl ?_
  refine j_iload_n (pc := 1) C 1 dX8_saveSnapshot_1 rfl ?_
  refine cs_X8_331 (pc := 2) C ⟨Nat.le_of_ble_eq_true rfl, Nat.le_of_ble_eq_true rfl⟩ ⟨Nat.le_of_ble_eq_true rfl, Nat.le_of_ble_eq_true rfl⟩ (Nat.le_of_ble_eq_true rfl) dX8_saveSnapshot_2 h (fun r1 M1 h => ?_)
  refine j_if_eq (pc := 5) C 10 dX8_saveSnapshot_5 (by decide) h (fun h => ?_) (fun h => ?_)
  · refine j_aload_n (pc := 10) C 0 dX8_saveSnapshot_10 rfl ?_
    refine gf_X8_52 (pc := 11) C dX8_saveSnapshot_11 h (fun a2 h => ?_)
    refine j_iload_n (pc := 14) C 1 dX8_saveSnapshot_14 rfl ?_
    refine j_zald (pc := 15) C dX8_saveSnapshot_15 h (fun h => ?_)
    refine j_istore_n (pc := 16) C [(2, _), (0, _), (1, _)] dX8_saveSnapshot_16 (by decide) rfl ?_
    refine j_aload_n (pc := 17) C 1 dX8_saveSnapshot_17 rfl ?_
    refine gf_X8_13 (pc := 18) C dX8_saveSnapshot_18 h (fun a3 h => ?_)
    refine j_iconst (pc := 21) (v := (0 : Int32)) C dX8_saveSnapshot_21 rfl ?_
    refine j_aload_n (pc := 22) C 1 dX8_saveSnapshot_22 rfl ?_
    refine gf_X8_49 (pc := 23) C dX8_saveSnapshot_23 h (fun a4 h => ?_)
    refine j_sipush (pc := 26) (v := (689 : Int32)) C dX8_saveSnapshot_26 rfl ?_
    refine j_iload_n (pc := 29) C 2 dX8_saveSnapshot_29 rfl ?_
    refine j_imul (pc := 30) C dX8_saveSnapshot_30 ?_
    refine cs_X8_327 (pc := 31) C ⟨Nat.le_of_ble_eq_true rfl, Nat.le_of_ble_eq_true rfl⟩ ⟨Nat.le_of_ble_eq_true rfl, Nat.le_of_ble_eq_true rfl⟩ (Nat.le_of_ble_eq_true rfl) dX8_saveSnapshot_31 h (fun M5 h => ?_)
    refine j_aload_n (pc := 34) C 1 dX8_saveSnapshot_34 rfl ?_
    refine gf_X8_52 (pc := 35) C dX8_saveSnapshot_35 h (fun a6 h => ?_)
    refine j_iload_n (pc := 38) C 2 dX8_saveSnapshot_38 rfl ?_
    refine j_iconst (pc := 39) (v := (1 : Int32)) C dX8_saveSnapshot_39 rfl ?_
    refine n_zast (pc := 40) C dX8_saveSnapshot_40 h (fun M7 h => ?_)
    refine j_iload_n (pc := 41) C 0 dX8_saveSnapshot_41 rfl ?_
    exact j_zret (pc := 42) C dX8_saveSnapshot_42 (Nat.le_of_ble_eq_true rfl) (Nat.le_of_ble_eq_true rfl) h
  · refine j_iconst (pc := 8) (v := (0 : Int32)) C dX8_saveSnapshot_8 rfl ?_
    exact j_zret (pc := 9) C dX8_saveSnapshot_9 (Nat.le_of_ble_eq_true rfl) (Nat.le_of_ble_eq_true rfl) h
abbrev rm_X8_restoreSnapshot : Room := { frames := 3, cells := 0, slots := 0, locals := 65 }
def w_X8_restoreSnapshot (M : Mm) (x0 : Nat) (x1 : Int32) (P : Int32 → Mm → Prop) : Prop := zk M x0 = 8 ∧ w_X8_noSlot M x0 x1 (fun r1 M1 => (if r1 = 0 then (zk M1 x0 = 8 ∧ ∃ a2, zR M1 x0 27 = some a2 ∧ zk M1 a2 = 12 ∧ vp_in x1 (zl M1 a2) ∧ (if (zI M1 a2 x1.toNatClampNeg) = 0 then zk M1 x0 = 8 ∧ w_X8_throwsIf M1 x0 (1 : Int32) (2 : Int32) (fun r9 M9 => (if r9 = 0 then (zk M9 x0 = 8 ∧ ∃ a10, zR M9 x0 26 = some a10 ∧ (zk M9 x0 = 8 ∧ ∃ a11, zR M9 x0 2 = some a11 ∧ w_X8_copies M9 a10 ((689 : Int32) * x1) a11 (0 : Int32) (fun M12 => zk M12 x0 = 8 ∧ (∀ M13, M13 = sI M12 x0 24 (0 : Int32) → (zk M13 x0 = 8 ∧ ∃ a14, zR M13 x0 2 = some a14 ∧ zk M13 a14 = 10 ∧ vp_in (0 : Int32) (zl M13 a14) ∧ P (zI M13 a14 (0 : Int32).toNatClampNeg) M13))))) else P (0 : Int32) M9)) else zk M1 x0 = 8 ∧ w_X8_throwsIf M1 x0 (0 : Int32) (2 : Int32) (fun r3 M3 => (if r3 = 0 then (zk M3 x0 = 8 ∧ ∃ a4, zR M3 x0 26 = some a4 ∧ (zk M3 x0 = 8 ∧ ∃ a5, zR M3 x0 2 = some a5 ∧ w_X8_copies M3 a4 ((689 : Int32) * x1) a5 (0 : Int32) (fun M6 => zk M6 x0 = 8 ∧ (∀ M7, M7 = sI M6 x0 24 (0 : Int32) → (zk M7 x0 = 8 ∧ ∃ a8, zR M7 x0 2 = some a8 ∧ zk M7 a8 = 10 ∧ vp_in (0 : Int32) (zl M7 a8) ∧ P (zI M7 a8 (0 : Int32).toNatClampNeg) M7))))) else P (0 : Int32) M3)))) else P (0 : Int32) M1))
set_option maxHeartbeats 4000000 in
set_option maxRecDepth 100000 in
theorem c_X8_restoreSnapshot (l : Launch) (E : EV) (M : Mm) (x0 : Nat) (x1 : Int32) (P : Int32 → Mm → Prop) (h : w_X8_restoreSnapshot M x0 x1 P) : CtI l E yX8_restoreSnapshot cX8_restoreSnapshot 2 .int rm_X8_restoreSnapshot 0 0 [.ref x0, .int x1] M P := by
  refine ctI_of (by decide +kernel) (Nat.le_of_ble_eq_true rfl) ?_
  intro p e s m args below meth c C
  rw [w_X8_restoreSnapshot] at h
  show J p l e rm_X8_restoreSnapshot s m args below meth c (QI below E P args s 0 0) E 2 M 0 0 0 [(0, .ref x0), (1, .int x1)] []
  refine j_aload_n (pc := 0) C 0 dX8_restoreSnapshot_0 rfl ?_
  refine j_iload_n (pc := 1) C 1 dX8_restoreSnapshot_1 rfl ?_
  refine cs_X8_331 (pc := 2) C ⟨Nat.le_of_ble_eq_true rfl, Nat.le_of_ble_eq_true rfl⟩ ⟨Nat.le_of_ble_eq_true rfl, Nat.le_of_ble_eq_true rfl⟩ (Nat.le_of_ble_eq_true rfl) dX8_restoreSnapshot_2 h (fun r1 M1 h => ?_)
  refine j_if_ne (pc := 5) C 30 dX8_restoreSnapshot_5 (by decide) h (fun h => ?_) (fun h => ?_)
  · refine j_iconst (pc := 30) (v := (0 : Int32)) C dX8_restoreSnapshot_30 rfl ?_
    exact j_iret (pc := 31) C dX8_restoreSnapshot_31 (Nat.le_of_ble_eq_true rfl) (Nat.le_of_ble_eq_true rfl) h
  · refine j_aload_n (pc := 8) C 0 dX8_restoreSnapshot_8 rfl ?_
    refine j_aload_n (pc := 9) C 0 dX8_restoreSnapshot_9 rfl ?_
    refine gf_X8_52 (pc := 10) C dX8_restoreSnapshot_10 h (fun a2 h => ?_)
    refine j_iload_n (pc := 13) C 1 dX8_restoreSnapshot_13 rfl ?_
    refine j_zald (pc := 14) C dX8_restoreSnapshot_14 h (fun h => ?_)
    refine j_if_ne (pc := 15) C 22 dX8_restoreSnapshot_15 (by decide) h (fun h => ?_) (fun h => ?_)
    · refine j_iconst (pc := 22) (v := (0 : Int32)) C dX8_restoreSnapshot_22 rfl ?_
      refine j_iconst (pc := 23) (v := (2 : Int32)) C dX8_restoreSnapshot_23 rfl ?_
      refine cs_X8_176 (pc := 24) C ⟨Nat.le_of_ble_eq_true rfl, Nat.le_of_ble_eq_true rfl⟩ ⟨Nat.le_of_ble_eq_true rfl, Nat.le_of_ble_eq_true rfl⟩ (Nat.le_of_ble_eq_true rfl) dX8_restoreSnapshot_24 h (fun r3 M3 h => ?_)
      refine j_if_eq (pc := 27) C 32 dX8_restoreSnapshot_27 (by decide) h (fun h => ?_) (fun h => ?_)
      · refine j_aload_n (pc := 32) C 0 dX8_restoreSnapshot_32 rfl ?_
        refine gf_X8_49 (pc := 33) C dX8_restoreSnapshot_33 h (fun a4 h => ?_)
        refine j_sipush (pc := 36) (v := (689 : Int32)) C dX8_restoreSnapshot_36 rfl ?_
        refine j_iload_n (pc := 39) C 1 dX8_restoreSnapshot_39 rfl ?_
        refine j_imul (pc := 40) C dX8_restoreSnapshot_40 ?_
        refine j_aload_n (pc := 41) C 0 dX8_restoreSnapshot_41 rfl ?_
        refine gf_X8_13 (pc := 42) C dX8_restoreSnapshot_42 h (fun a5 h => ?_)
        refine j_iconst (pc := 45) (v := (0 : Int32)) C dX8_restoreSnapshot_45 rfl ?_
        refine cs_X8_327 (pc := 46) C ⟨Nat.le_of_ble_eq_true rfl, Nat.le_of_ble_eq_true rfl⟩ ⟨Nat.le_of_ble_eq_true rfl, Nat.le_of_ble_eq_true rfl⟩ (Nat.le_of_ble_eq_true rfl) dX8_restoreSnapshot_46 h (fun M6 h => ?_)
        refine j_aload_n (pc := 49) C 0 dX8_restoreSnapshot_49 rfl ?_
        refine j_iconst (pc := 50) (v := (0 : Int32)) C dX8_restoreSnapshot_50 rfl ?_
        refine pf_X8_191 (pc := 51) C dX8_restoreSnapshot_51 h (fun M7 h => ?_)
        refine j_aload_n (pc := 54) C 0 dX8_restoreSnapshot_54 rfl ?_
        refine gf_X8_13 (pc := 55) C dX8_restoreSnapshot_55 h (fun a8 h => ?_)
        refine j_iconst (pc := 58) (v := (0 : Int32)) C dX8_restoreSnapshot_58 rfl ?_
        refine j_iald (pc := 59) C dX8_restoreSnapshot_59 h (fun h => ?_)
        exact j_iret (pc := 60) C dX8_restoreSnapshot_60 (Nat.le_of_ble_eq_true rfl) (Nat.le_of_ble_eq_true rfl) h
      · refine j_iconst (pc := 30) (v := (0 : Int32)) C dX8_restoreSnapshot_30 rfl ?_
        exact j_iret (pc := 31) C dX8_restoreSnapshot_31 (Nat.le_of_ble_eq_true rfl) (Nat.le_of_ble_eq_true rfl) h
    · refine j_iconst (pc := 18) (v := (1 : Int32)) C dX8_restoreSnapshot_18 rfl ?_
      refine j_goto (pc := 19) C 23 dX8_restoreSnapshot_19 (by decide) ?_
      refine j_iconst (pc := 23) (v := (2 : Int32)) C dX8_restoreSnapshot_23 rfl ?_
      refine cs_X8_176 (pc := 24) C ⟨Nat.le_of_ble_eq_true rfl, Nat.le_of_ble_eq_true rfl⟩ ⟨Nat.le_of_ble_eq_true rfl, Nat.le_of_ble_eq_true rfl⟩ (Nat.le_of_ble_eq_true rfl) dX8_restoreSnapshot_24 h (fun r9 M9 h => ?_)
      refine j_if_eq (pc := 27) C 32 dX8_restoreSnapshot_27 (by decide) h (fun h => ?_) (fun h => ?_)
      · refine j_aload_n (pc := 32) C 0 dX8_restoreSnapshot_32 rfl ?_
        refine gf_X8_49 (pc := 33) C dX8_restoreSnapshot_33 h (fun a10 h => ?_)
        refine j_sipush (pc := 36) (v := (689 : Int32)) C dX8_restoreSnapshot_36 rfl ?_
        refine j_iload_n (pc := 39) C 1 dX8_restoreSnapshot_39 rfl ?_
        refine j_imul (pc := 40) C dX8_restoreSnapshot_40 ?_
        refine j_aload_n (pc := 41) C 0 dX8_restoreSnapshot_41 rfl ?_
        refine gf_X8_13 (pc := 42) C dX8_restoreSnapshot_42 h (fun a11 h => ?_)
        refine j_iconst (pc := 45) (v := (0 : Int32)) C dX8_restoreSnapshot_45 rfl ?_
        refine cs_X8_327 (pc := 46) C ⟨Nat.le_of_ble_eq_true rfl, Nat.le_of_ble_eq_true rfl⟩ ⟨Nat.le_of_ble_eq_true rfl, Nat.le_of_ble_eq_true rfl⟩ (Nat.le_of_ble_eq_true rfl) dX8_restoreSnapshot_46 h (fun M12 h => ?_)
        refine j_aload_n (pc := 49) C 0 dX8_restoreSnapshot_49 rfl ?_
        refine j_iconst (pc := 50) (v := (0 : Int32)) C dX8_restoreSnapshot_50 rfl ?_
        refine pf_X8_191 (pc := 51) C dX8_restoreSnapshot_51 h (fun M13 h => ?_)
        refine j_aload_n (pc := 54) C 0 dX8_restoreSnapshot_54 rfl ?_
        refine gf_X8_13 (pc := 55) C dX8_restoreSnapshot_55 h (fun a14 h => ?_)
        refine j_iconst (pc := 58) (v := (0 : Int32)) C dX8_restoreSnapshot_58 rfl ?_
        refine j_iald (pc := 59) C dX8_restoreSnapshot_59 h (fun h => ?_)
        exact j_iret (pc := 60) C dX8_restoreSnapshot_60 (Nat.le_of_ble_eq_true rfl) (Nat.le_of_ble_eq_true rfl) h
      · refine j_iconst (pc := 30) (v := (0 : Int32)) C dX8_restoreSnapshot_30 rfl ?_
        exact j_iret (pc := 31) C dX8_restoreSnapshot_31 (Nat.le_of_ble_eq_true rfl) (Nat.le_of_ble_eq_true rfl) h
end GW26
