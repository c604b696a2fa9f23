/-! written by a program (wip/p34/gen.py) out of the decode rows and the tables: walks of X7 -/

section GW20
variable {p : Program} {l : Launch} {e : Env} {R : Room} {s : State} {m : MethodId} {args : Array Value} {below : List Frame} {meth : Method} {c : Code} {Q : State → Prop} {cc : ByteArray} {nL : Nat} {ret : Option FieldType} {E : EV} {M : Mm} {kc ks pc : Nat} {lo : List (Nat × Value)} {st : List Value}
theorem cs_X7_290 {Qc : Array Value → State → Outcome → State → Prop} {X : String → Mm → Prop} {mc2 ms2 : Nat} (C : Cx p l s m args meth c cc nL RX7 ret E) (hex : ∀ x ∈ c.exceptionTable.toList, False) {b : Nat} {y0 : Int32} {y1 : Int32} {y2 : Int32} {y3 : Int32} {P : Int32 → Mm → Prop} (hR : rm_X7_addService.frames + 1 ≤ R.frames ∧ 8 + (6 + 11) + rm_X7_addService.locals ≤ R.locals) (hf : kc + 1 ≤ R.cells ∧ ks + 6 ≤ R.slots) (hf2 : kc + 1 ≤ mc2 ∧ ks + 6 ≤ ms2) (hst : (st.map fun v => v.category).sum ≤ 8) (d : decode cc pc = .ok (.invokevirtual 290, 3)) (h : zk M b = 7 ∧ w_X7_addService M b y0 y1 y2 y3 P X) (kk : ∀ r M', P r M' → J p l e R s m args below meth c (vx_MQ below Qc (XX E X) args s mc2 ms2 (fun q => E.2.2.1 ≤ q)) E nL M' (kc + 1) (ks + 6) (pc + 3) lo (.int r :: st)) : J p l e R s m args below meth c (vx_MQ below Qc (XX E X) args s mc2 ms2 (fun q => E.2.2.1 ≤ q)) E nL M kc ks pc lo (.int y3 :: .int y2 :: .int y1 :: .int y0 :: .ref b :: st) :=
  j_xV_I (n := 4) (As := [.int y0, .int y1, .int y2, .int y3]) C hex co_X7 rfl wd_1234 wd_36 h.1 (c_X7_addService l E M b y0 y1 y2 y3 P X h.2) ⟨wd_1235, wd_1232, wd_40, by decide +kernel, by decide +kernel, by decide +kernel⟩ rfl rfl hR hf hf2 rfl hst d (fun _ _ q => q) kk
theorem cs0_X7_290 (C : Cx p l s m args meth c cc nL RX7 ret E) {b : Nat} {y0 : Int32} {y1 : Int32} {y2 : Int32} {y3 : Int32} {P : Int32 → Mm → Prop} (hR : rm0_X7_addService.frames + 1 ≤ R.frames ∧ 8 + (6 + 11) + rm0_X7_addService.locals ≤ R.locals) (hf : kc ≤ R.cells ∧ ks ≤ R.slots) (hst : (st.map fun v => v.category).sum ≤ 8) (d : decode cc pc = .ok (.invokevirtual 290, 3)) (h : zk M b = 7 ∧ w_X7_addService M b y0 y1 y2 y3 P (fun _ _ => False)) (kk : ∀ r M', P r M' → J p l e R s m args below meth c Q E nL M' kc ks (pc + 3) lo (.int r :: st)) : J p l e R s m args below meth c Q E nL M kc ks pc lo (.int y3 :: .int y2 :: .int y1 :: .int y0 :: .ref b :: st) :=
  j_cV_I (n := 4) (As := [.int y0, .int y1, .int y2, .int y3]) C co_X7 rfl wd_1234 wd_36 h.1 (c0_X7_addService l E M b y0 y1 y2 y3 P h.2) ⟨wd_1235, wd_1232, wd_40, by decide +kernel, by decide +kernel, by decide +kernel⟩ rfl rfl hR hf rfl hst d kk
abbrev rm_X7_rehearse : Room := { frames := 8, cells := 4, slots := 24, locals := 159 }
def w_X7_rehearse (M : Mm) (x0 : Nat) (x1 : Int32) (x2 : Int32) (x3 : Int32) (P : Int32 → Mm → Prop) (X : String → Mm → Prop) : Prop := zk M x0 = 7 ∧ w_X7_requireHall M x0 x1 (fun M1 => zk M1 x0 = 7 ∧ w_X7_requireSlot M1 x0 x2 (fun M2 => zk M2 x0 = 7 ∧ w_X7_requireWork M2 x0 x3 (fun M3 => zk M3 x0 = 7 ∧ w_X7_addService M3 x0 x1 x2 ((1 : Int32) <<< (x3 &&& 31)) (0 : Int32) (fun r4 M4 => P r4 M4) X) X) X) X
set_option maxHeartbeats 4000000 in
set_option maxRecDepth 100000 in
theorem c_X7_rehearse (l : Launch) (E : EV) (M : Mm) (x0 : Nat) (x1 : Int32) (x2 : Int32) (x3 : Int32) (P : Int32 → Mm → Prop) (X : String → Mm → Prop) (h : w_X7_rehearse M x0 x1 x2 x3 P X) : CtIX l E yX7_rehearse cX7_rehearse 4 .int rm_X7_rehearse 4 24 [.ref x0, .int x1, .int x2, .int x3] M P X := by
  refine ctIX_of (by decide +kernel) (Nat.le_of_ble_eq_true rfl) ?_
  intro p e s m args below meth c C hex
  rw [w_X7_rehearse] at h
  show J p l e rm_X7_rehearse s m args below meth c (QIX below E P X args s 4 24) E 4 M 0 0 0 [(0, .ref x0), (1, .int x1), (2, .int x2), (3, .int x3)] []
  refine j_aload_n (pc := 0) C 0 dX7_rehearse_0 rfl ?_
  refine j_iload_n (pc := 1) C 1 dX7_rehearse_1 rfl ?_
  refine cs_X7_142 (pc := 2) C hex ⟨Nat.le_of_ble_eq_true rfl, Nat.le_of_ble_eq_true rfl⟩ ⟨Nat.le_of_ble_eq_true rfl, Nat.le_of_ble_eq_true rfl⟩ ⟨Nat.le_of_ble_eq_true rfl, Nat.le_of_ble_eq_true rfl⟩ (Nat.le_of_ble_eq_true rfl) dX7_rehearse_2 h (fun M1 h => ?_)
  refine j_aload_n (pc := 5) C 0 dX7_rehearse_5 rfl ?_
  refine j_iload_n (pc := 6) C 2 dX7_rehearse_6 rfl ?_
  refine cs_X7_183 (pc := 7) C hex ⟨Nat.le_of_ble_eq_true rfl, Nat.le_of_ble_eq_true rfl⟩ ⟨Nat.le_of_ble_eq_true rfl, Nat.le_of_ble_eq_true rfl⟩ ⟨Nat.le_of_ble_eq_true rfl, Nat.le_of_ble_eq_true rfl⟩ (Nat.le_of_ble_eq_true rfl) dX7_rehearse_7 h (fun M2 h => ?_)
  refine j_aload_n (pc := 10) C 0 dX7_rehearse_10 rfl ?_
  refine j_iload_n (pc := 11) C 3 dX7_rehearse_11 rfl ?_
  refine cs_X7_194 (pc := 12) C hex ⟨Nat.le_of_ble_eq_true rfl, Nat.le_of_ble_eq_true rfl⟩ ⟨Nat.le_of_ble_eq_true rfl, Nat.le_of_ble_eq_true rfl⟩ ⟨Nat.le_of_ble_eq_true rfl, Nat.le_of_ble_eq_true rfl⟩ (Nat.le_of_ble_eq_true rfl) dX7_rehearse_12 h (fun M3 h => ?_)
  refine j_aload_n (pc := 15) C 0 dX7_rehearse_15 rfl ?_
  refine j_iload_n (pc := 16) C 1 dX7_rehearse_16 rfl ?_
  refine j_iload_n (pc := 17) C 2 dX7_rehearse_17 rfl ?_
  refine j_iconst (pc := 18) (v := (1 : Int32)) C dX7_rehearse_18 rfl ?_
  refine j_iload_n (pc := 19) C 3 dX7_rehearse_19 rfl ?_
  refine j_ishl (pc := 20) C dX7_rehearse_20 ?_
  refine j_iconst (pc := 21) (v := (0 : Int32)) C dX7_rehearse_21 rfl ?_
  refine cs_X7_290 (pc := 22) C hex ⟨Nat.le_of_ble_eq_true rfl, Nat.le_of_ble_eq_true rfl⟩ ⟨Nat.le_of_ble_eq_true rfl, Nat.le_of_ble_eq_true rfl⟩ ⟨Nat.le_of_ble_eq_true rfl, Nat.le_of_ble_eq_true rfl⟩ (Nat.le_of_ble_eq_true rfl) dX7_rehearse_22 h (fun r4 M4 h => ?_)
  exact j_iretX (pc := 25) C dX7_rehearse_25 (Nat.le_of_ble_eq_true rfl) (Nat.le_of_ble_eq_true rfl) h
abbrev rm0_X7_rehearse : Room := { frames := 6, cells := 0, slots := 0, locals := 159 }
set_option maxHeartbeats 4000000 in
set_option maxRecDepth 100000 in
theorem c0_X7_rehearse (l : Launch) (E : EV) (M : Mm) (x0 : Nat) (x1 : Int32) (x2 : Int32) (x3 : Int32) (P : Int32 → Mm → Prop) (h : w_X7_rehearse M x0 x1 x2 x3 P (fun _ _ => False)) : CtI l E yX7_rehearse cX7_rehearse 4 .int rm0_X7_rehearse 0 0 [.ref x0, .int x1, .int x2, .int x3] M P := by
  refine ctI_of (by decide +kernel) (Nat.le_of_ble_eq_true rfl) ?_
  intro p e s m args below meth c C
  rw [w_X7_rehearse] at h
  show J p l e rm0_X7_rehearse s m args below meth c (QI below E P args s 0 0) E 4 M 0 0 0 [(0, .ref x0), (1, .int x1), (2, .int x2), (3, .int x3)] []
  refine j_aload_n (pc := 0) C 0 dX7_rehearse_0 rfl ?_
  refine j_iload_n (pc := 1) C 1 dX7_rehearse_1 rfl ?_
  refine cs0_X7_142 (pc := 2) C ⟨Nat.le_of_ble_eq_true rfl, Nat.le_of_ble_eq_true rfl⟩ ⟨Nat.le_of_ble_eq_true rfl, Nat.le_of_ble_eq_true rfl⟩ (Nat.le_of_ble_eq_true rfl) dX7_rehearse_2 h (fun M1 h => ?_)
  refine j_aload_n (pc := 5) C 0 dX7_rehearse_5 rfl ?_
  refine j_iload_n (pc := 6) C 2 dX7_rehearse_6 rfl ?_
  refine cs0_X7_183 (pc := 7) C ⟨Nat.le_of_ble_eq_true rfl, Nat.le_of_ble_eq_true rfl⟩ ⟨Nat.le_of_ble_eq_true rfl, Nat.le_of_ble_eq_true rfl⟩ (Nat.le_of_ble_eq_true rfl) dX7_rehearse_7 h (fun M2 h => ?_)
  refine j_aload_n (pc := 10) C 0 dX7_rehearse_10 rfl ?_
  refine j_iload_n (pc := 11) C 3 dX7_rehearse_11 rfl ?_
  refine cs0_X7_194 (pc := 12) C ⟨Nat.le_of_ble_eq_true rfl, Nat.le_of_ble_eq_true rfl⟩ ⟨Nat.le_of_ble_eq_true rfl, Nat.le_of_ble_eq_true rfl⟩ (Nat.le_of_ble_eq_true rfl) dX7_rehearse_12 h (fun M3 h => ?_)
  refine j_aload_n (pc := 15) C 0 dX7_rehearse_15 rfl ?_
  refine j_iload_n (pc := 16) C 1 dX7_rehearse_16 rfl ?_
  refine j_iload_n (pc := 17) C 2 dX7_rehearse_17 rfl ?_
  refine j_iconst (pc := 18) (v := (1 : Int32)) C dX7_rehearse_18 rfl ?_
  refine j_iload_n (pc := 19) C 3 dX7_rehearse_19 rfl ?_
  refine j_ishl (pc := 20) C dX7_rehearse_20 ?_
  refine j_iconst (pc := 21) (v := (0 : Int32)) C dX7_rehearse_21 rfl ?_
  refine cs0_X7_290 (pc := 22) C ⟨Nat.le_of_ble_eq_true rfl, Nat.le_of_ble_eq_true rfl⟩ ⟨Nat.le_of_ble_eq_true rfl, Nat.le_of_ble_eq_true rfl⟩ (Nat.le_of_ble_eq_true rfl) dX7_rehearse_22 h (fun r4 M4 h => ?_)
  exact j_iret (pc := 25) C dX7_rehearse_25 (Nat.le_of_ble_eq_true rfl) (Nat.le_of_ble_eq_true rfl) h
abbrev rm_X7_concert : Room := { frames := 9, cells := 5, slots := 30, locals := 159 }
def w_X7_concert (M : Mm) (x0 : Nat) (x1 : Int32) (x2 : Int32) (x3 : Int32) (P : Int32 → Mm → Prop) (X : String → Mm → Prop) : Prop := zk M x0 = 7 ∧ w_X7_requirePlaceAndWorks M x0 x1 x2 x3 (1 : Int32) (fun M1 => zk M1 x0 = 7 ∧ w_X7_addService M1 x0 x1 x2 x3 (1 : Int32) (fun r2 M2 => P r2 M2) X) X
set_option maxHeartbeats 4000000 in
set_option maxRecDepth 100000 in
theorem c_X7_concert (l : Launch) (E : EV) (M : Mm) (x0 : Nat) (x1 : Int32) (x2 : Int32) (x3 : Int32) (P : Int32 → Mm → Prop) (X : String → Mm → Prop) (h : w_X7_concert M x0 x1 x2 x3 P X) : CtIX l E yX7_concert cX7_concert 4 .int rm_X7_concert 5 30 [.ref x0, .int x1, .int x2, .int x3] M P X := by
  refine ctIX_of (by decide +kernel) (Nat.le_of_ble_eq_true rfl) ?_
  intro p e s m args below meth c C hex
  rw [w_X7_concert] at h
  show J p l e rm_X7_concert s m args below meth c (QIX below E P X args s 5 30) E 4 M 0 0 0 [(0, .ref x0), (1, .int x1), (2, .int x2), (3, .int x3)] []
  refine j_aload_n (pc := 0) C 0 dX7_concert_0 rfl ?_
  refine j_iload_n (pc := 1) C 1 dX7_concert_1 rfl ?_
  refine j_iload_n (pc := 2) C 2 dX7_concert_2 rfl ?_
  refine j_iload_n (pc := 3) C 3 dX7_concert_3 rfl ?_
  refine j_iconst (pc := 4) (v := (1 : Int32)) C dX7_concert_4 rfl ?_
  refine cs_X7_261 (pc := 5) C hex ⟨Nat.le_of_ble_eq_true rfl, Nat.le_of_ble_eq_true rfl⟩ ⟨Nat.le_of_ble_eq_true rfl, Nat.le_of_ble_eq_true rfl⟩ ⟨Nat.le_of_ble_eq_true rfl, Nat.le_of_ble_eq_true rfl⟩ (Nat.le_of_ble_eq_true rfl) dX7_concert_5 h (fun M1 h => ?_)
  refine j_aload_n (pc := 8) C 0 dX7_concert_8 rfl ?_
  refine j_iload_n (pc := 9) C 1 dX7_concert_9 rfl ?_
  refine j_iload_n (pc := 10) C 2 dX7_concert_10 rfl ?_
  refine j_iload_n (pc := 11) C 3 dX7_concert_11 rfl ?_
  refine j_iconst (pc := 12) (v := (1 : Int32)) C dX7_concert_12 rfl ?_
  refine cs_X7_290 (pc := 13) C hex ⟨Nat.le_of_ble_eq_true rfl, Nat.le_of_ble_eq_true rfl⟩ ⟨Nat.le_of_ble_eq_true rfl, Nat.le_of_ble_eq_true rfl⟩ ⟨Nat.le_of_ble_eq_true rfl, Nat.le_of_ble_eq_true rfl⟩ (Nat.le_of_ble_eq_true rfl) dX7_concert_13 h (fun r2 M2 h => ?_)
  exact j_iretX (pc := 16) C dX7_concert_16 (Nat.le_of_ble_eq_true rfl) (Nat.le_of_ble_eq_true rfl) h
abbrev rm0_X7_concert : Room := { frames := 6, cells := 0, slots := 0, locals := 159 }
set_option maxHeartbeats 4000000 in
set_option maxRecDepth 100000 in
theorem c0_X7_concert (l : Launch) (E : EV) (M : Mm) (x0 : Nat) (x1 : Int32) (x2 : Int32) (x3 : Int32) (P : Int32 → Mm → Prop) (h : w_X7_concert M x0 x1 x2 x3 P (fun _ _ => False)) : CtI l E yX7_concert cX7_concert 4 .int rm0_X7_concert 0 0 [.ref x0, .int x1, .int x2, .int x3] M P := by
  refine ctI_of (by decide +kernel) (Nat.le_of_ble_eq_true rfl) ?_
  intro p e s m args below meth c C
  rw [w_X7_concert] at h
  show J p l e rm0_X7_concert s m args below meth c (QI below E P args s 0 0) E 4 M 0 0 0 [(0, .ref x0), (1, .int x1), (2, .int x2), (3, .int x3)] []
  refine j_aload_n (pc := 0) C 0 dX7_concert_0 rfl ?_
  refine j_iload_n (pc := 1) C 1 dX7_concert_1 rfl ?_
  refine j_iload_n (pc := 2) C 2 dX7_concert_2 rfl ?_
  refine j_iload_n (pc := 3) C 3 dX7_concert_3 rfl ?_
  refine j_iconst (pc := 4) (v := (1 : Int32)) C dX7_concert_4 rfl ?_
  refine cs0_X7_261 (pc := 5) C ⟨Nat.le_of_ble_eq_true rfl, Nat.le_of_ble_eq_true rfl⟩ ⟨Nat.le_of_ble_eq_true rfl, Nat.le_of_ble_eq_true rfl⟩ (Nat.le_of_ble_eq_true rfl) dX7_concert_5 h (fun M1 h => ?_)
  refine j_aload_n (pc := 8) C 0 dX7_concert_8 rfl ?_
  refine j_iload_n (pc := 9) C 1 dX7_concert_9 rfl ?_
  refine j_iload_n (pc := 10) C 2 dX7_concert_10 rfl ?_
  refine j_iload_n (pc := 11) C 3 dX7_concert_11 rfl ?_
  refine j_iconst (pc := 12) (v := (1 : Int32)) C dX7_concert_12 rfl ?_
  refine cs0_X7_290 (pc := 13) C ⟨Nat.le_of_ble_eq_true rfl, Nat.le_of_ble_eq_true rfl⟩ ⟨Nat.le_of_ble_eq_true rfl, Nat.le_of_ble_eq_true rfl⟩ (Nat.le_of_ble_eq_true rfl) dX7_concert_13 h (fun r2 M2 h => ?_)
  exact j_iret (pc := 16) C dX7_concert_16 (Nat.le_of_ble_eq_true rfl) (Nat.le_of_ble_eq_true rfl) h
abbrev rm_X7_cancel : Room := { frames := 8, cells := 2, slots := 12, locals := 131 }
def w_X7_cancel (M : Mm) (x0 : Nat) (x1 : Int32) (P : Int32 → Mm → Prop) (X : String → Mm → Prop) : Prop := zk M x0 = 7 ∧ w_X7_requireService M x0 x1 (fun M1 => (zk M1 x0 = 7 ∧ ∃ a2, zR M1 x0 3 = some a2 ∧ (zk M1 x0 = 7 ∧ ∃ a3, zR M1 x0 2 = some a3 ∧ zk M1 a2 = 4 ∧ w_X4_copyFrom M1 a2 a3 (fun M4 => (zk M4 x0 = 7 ∧ ∃ a5, zR M4 x0 3 = some a5 ∧ zk M4 a5 = 4 ∧ w_X4_remove M4 a5 x1 (fun M6 => (zk M6 x0 = 7 ∧ ∃ a7, zR M6 x0 3 = some a7 ∧ zk M6 x0 = 7 ∧ w_X7_isEveryConcertRehearsed M6 x0 a7 (fun r8 M8 => w_X7_requireState M8 r8 (fun M9 => zk M9 x0 = 7 ∧ w_X7_acceptDraft M9 x0 (fun M10 => (zk M10 x0 = 7 ∧ ∃ a11, zR M10 x0 2 = some a11 ∧ zk M10 a11 = 4 ∧ P (zI M10 a11 0) M10))) X)))))))) X
set_option maxHeartbeats 4000000 in
set_option maxRecDepth 100000 in
theorem c_X7_cancel (l : Launch) (E : EV) (M : Mm) (x0 : Nat) (x1 : Int32) (P : Int32 → Mm → Prop) (X : String → Mm → Prop) (h : w_X7_cancel M x0 x1 P X) : CtIX l E yX7_cancel cX7_cancel 2 .int rm_X7_cancel 2 12 [.ref x0, .int x1] M P X := by
  refine ctIX_of (by decide +kernel) (Nat.le_of_ble_eq_true rfl) ?_
  intro p e s m args below meth c C hex
  rw [w_X7_cancel] at h
  show J p l e rm_X7_cancel s m args below meth c (QIX below E P X args s 2 12) E 2 M 0 0 0 [(0, .ref x0), (1, .int x1)] []
  refine j_aload_n (pc := 0) C 0 dX7_cancel_0 rfl ?_
  refine j_iload_n (pc := 1) C 1 dX7_cancel_1 rfl ?_
  refine cs_X7_230 (pc := 2) C hex ⟨Nat.le_of_ble_eq_true rfl, Nat.le_of_ble_eq_true rfl⟩ ⟨Nat.le_of_ble_eq_true rfl, Nat.le_of_ble_eq_true rfl⟩ ⟨Nat.le_of_ble_eq_true rfl, Nat.le_of_ble_eq_true rfl⟩ (Nat.le_of_ble_eq_true rfl) dX7_cancel_2 h (fun M1 h => ?_)
  refine j_aload_n (pc := 5) C 0 dX7_cancel_5 rfl ?_
  refine gf_X7_27 (pc := 6) C dX7_cancel_6 h (fun a2 h => ?_)
  refine j_aload_n (pc := 9) C 0 dX7_cancel_9 rfl ?_
  refine gf_X7_23 (pc := 10) C dX7_cancel_10 h (fun a3 h => ?_)
  refine cs_X7_275 (pc := 13) C ⟨Nat.le_of_ble_eq_true rfl, Nat.le_of_ble_eq_true rfl⟩ ⟨Nat.le_of_ble_eq_true rfl, Nat.le_of_ble_eq_true rfl⟩ (Nat.le_of_ble_eq_true rfl) dX7_cancel_13 h (fun M4 h => ?_)
  refine j_aload_n (pc := 16) C 0 dX7_cancel_16 rfl ?_
  refine gf_X7_27 (pc := 17) C dX7_cancel_17 h (fun a5 h => ?_)
  refine j_iload_n (pc := 20) C 1 dX7_cancel_20 rfl ?_
  refine cs_X7_299 (pc := 21) C ⟨Nat.le_of_ble_eq_true rfl, Nat.le_of_ble_eq_true rfl⟩ ⟨Nat.le_of_ble_eq_true rfl, Nat.le_of_ble_eq_true rfl⟩ (Nat.le_of_ble_eq_true rfl) dX7_cancel_21 h (fun M6 h => ?_)
  refine j_aload_n (pc := 24) C 0 dX7_cancel_24 rfl ?_
  refine j_aload_n (pc := 25) C 0 dX7_cancel_25 rfl ?_
  refine gf_X7_27 (pc := 26) C dX7_cancel_26 h (fun a7 h => ?_)
  refine cs_X7_302 (pc := 29) C ⟨Nat.le_of_ble_eq_true rfl, Nat.le_of_ble_eq_true rfl⟩ ⟨Nat.le_of_ble_eq_true rfl, Nat.le_of_ble_eq_true rfl⟩ (Nat.le_of_ble_eq_true rfl) dX7_cancel_29 h (fun r8 M8 h => ?_)
  refine cs_X7_293 (pc := 32) C hex ⟨Nat.le_of_ble_eq_true rfl, Nat.le_of_ble_eq_true rfl⟩ ⟨Nat.le_of_ble_eq_true rfl, Nat.le_of_ble_eq_true rfl⟩ ⟨Nat.le_of_ble_eq_true rfl, Nat.le_of_ble_eq_true rfl⟩ (Nat.le_of_ble_eq_true rfl) dX7_cancel_32 h (fun M9 h => ?_)
  refine j_aload_n (pc := 35) C 0 dX7_cancel_35 rfl ?_
  refine cs_X7_296 (pc := 36) C ⟨Nat.le_of_ble_eq_true rfl, Nat.le_of_ble_eq_true rfl⟩ ⟨Nat.le_of_ble_eq_true rfl, Nat.le_of_ble_eq_true rfl⟩ (Nat.le_of_ble_eq_true rfl) dX7_cancel_36 h (fun M10 h => ?_)
  refine j_aload_n (pc := 39) C 0 dX7_cancel_39 rfl ?_
  refine gf_X7_23 (pc := 40) C dX7_cancel_40 h (fun a11 h => ?_)
  refine gf_X7_119 (pc := 43) C dX7_cancel_43 h (fun h => ?_)
  exact j_iretX (pc := 46) C dX7_cancel_46 (Nat.le_of_ble_eq_true rfl) (Nat.le_of_ble_eq_true rfl) h
abbrev rm0_X7_cancel : Room := { frames := 4, cells := 0, slots := 0, locals := 125 }
set_option maxHeartbeats 4000000 in
set_option maxRecDepth 100000 in
theorem c0_X7_cancel (l : Launch) (E : EV) (M : Mm) (x0 : Nat) (x1 : Int32) (P : Int32 → Mm → Prop) (h : w_X7_cancel M x0 x1 P (fun _ _ => False)) : CtI l E yX7_cancel cX7_cancel 2 .int rm0_X7_cancel 0 0 [.ref x0, .int x1] M P := by
  refine ctI_of (by decide +kernel) (Nat.le_of_ble_eq_true rfl) ?_
  intro p e s m args below meth c C
  rw [w_X7_cancel] at h
  show J p l e rm0_X7_cancel s m args below meth c (QI below E P args s 0 0) E 2 M 0 0 0 [(0, .ref x0), (1, .int x1)] []
  refine j_aload_n (pc := 0) C 0 dX7_cancel_0 rfl ?_
  refine j_iload_n (pc := 1) C 1 dX7_cancel_1 rfl ?_
  refine cs0_X7_230 (pc := 2) C ⟨Nat.le_of_ble_eq_true rfl, Nat.le_of_ble_eq_true rfl⟩ ⟨Nat.le_of_ble_eq_true rfl, Nat.le_of_ble_eq_true rfl⟩ (Nat.le_of_ble_eq_true rfl) dX7_cancel_2 h (fun M1 h => ?_)
  refine j_aload_n (pc := 5) C 0 dX7_cancel_5 rfl ?_
  refine gf_X7_27 (pc := 6) C dX7_cancel_6 h (fun a2 h => ?_)
  refine j_aload_n (pc := 9) C 0 dX7_cancel_9 rfl ?_
  refine gf_X7_23 (pc := 10) C dX7_cancel_10 h (fun a3 h => ?_)
  refine cs_X7_275 (pc := 13) C ⟨Nat.le_of_ble_eq_true rfl, Nat.le_of_ble_eq_true rfl⟩ ⟨Nat.le_of_ble_eq_true rfl, Nat.le_of_ble_eq_true rfl⟩ (Nat.le_of_ble_eq_true rfl) dX7_cancel_13 h (fun M4 h => ?_)
  refine j_aload_n (pc := 16) C 0 dX7_cancel_16 rfl ?_
  refine gf_X7_27 (pc := 17) C dX7_cancel_17 h (fun a5 h => ?_)
  refine j_iload_n (pc := 20) C 1 dX7_cancel_20 rfl ?_
  refine cs_X7_299 (pc := 21) C ⟨Nat.le_of_ble_eq_true rfl, Nat.le_of_ble_eq_true rfl⟩ ⟨Nat.le_of_ble_eq_true rfl, Nat.le_of_ble_eq_true rfl⟩ (Nat.le_of_ble_eq_true rfl) dX7_cancel_21 h (fun M6 h => ?_)
  refine j_aload_n (pc := 24) C 0 dX7_cancel_24 rfl ?_
  refine j_aload_n (pc := 25) C 0 dX7_cancel_25 rfl ?_
  refine gf_X7_27 (pc := 26) C dX7_cancel_26 h (fun a7 h => ?_)
  refine cs_X7_302 (pc := 29) C ⟨Nat.le_of_ble_eq_true rfl, Nat.le_of_ble_eq_true rfl⟩ ⟨Nat.le_of_ble_eq_true rfl, Nat.le_of_ble_eq_true rfl⟩ (Nat.le_of_ble_eq_true rfl) dX7_cancel_29 h (fun r8 M8 h => ?_)
  refine cs0_X7_293 (pc := 32) C ⟨Nat.le_of_ble_eq_true rfl, Nat.le_of_ble_eq_true rfl⟩ ⟨Nat.le_of_ble_eq_true rfl, Nat.le_of_ble_eq_true rfl⟩ (Nat.le_of_ble_eq_true rfl) dX7_cancel_32 h (fun M9 h => ?_)
  refine j_aload_n (pc := 35) C 0 dX7_cancel_35 rfl ?_
  refine cs_X7_296 (pc := 36) C ⟨Nat.le_of_ble_eq_true rfl, Nat.le_of_ble_eq_true rfl⟩ ⟨Nat.le_of_ble_eq_true rfl, Nat.le_of_ble_eq_true rfl⟩ (Nat.le_of_ble_eq_true rfl) dX7_cancel_36 h (fun M10 h => ?_)
  refine j_aload_n (pc := 39) C 0 dX7_cancel_39 rfl ?_
  refine gf_X7_23 (pc := 40) C dX7_cancel_40 h (fun a11 h => ?_)
  refine gf_X7_119 (pc := 43) C dX7_cancel_43 h (fun h => ?_)
  exact j_iret (pc := 46) C dX7_cancel_46 (Nat.le_of_ble_eq_true rfl) (Nat.le_of_ble_eq_true rfl) h
abbrev rm_X7_move : Room := { frames := 8, cells := 3, slots := 18, locals := 160 }
def w_X7_move (M : Mm) (x0 : Nat) (x1 : Int32) (x2 : Int32) (P : Int32 → Mm → Prop) (X : String → Mm → Prop) : Prop := zk M x0 = 7 ∧ w_X7_requireService M x0 x1 (fun M1 => zk M1 x0 = 7 ∧ w_X7_requireSlot M1 x0 x2 (fun M2 => (zk M2 x0 = 7 ∧ ∃ a3, zR M2 x0 2 = some a3 ∧ (zk M2 a3 = 4 ∧ ∃ a4, zR M2 a3 2 = some a4 ∧ zk M2 a4 = 10 ∧ vp_in x1 (zl M2 a4) ∧ zk M2 x0 = 7 ∧ w_X7_draftMove M2 x0 x1 x2 (fun r5 M5 => (if r5 = 0 then w_X7_requireState M5 (1 : Int32) (fun M10 => zk M10 x0 = 7 ∧ w_X7_acceptDraft M10 x0 (fun M11 => (zk M11 x0 = 7 ∧ ∃ a12, zR M11 x0 2 = some a12 ∧ zk M11 a12 = 4 ∧ w_X4_numberAt M11 a12 (zI M2 a4 x1.toNatClampNeg) x2 (fun r13 M13 => P r13 M13)))) X else w_X7_requireState M5 (0 : Int32) (fun M6 => zk M6 x0 = 7 ∧ w_X7_acceptDraft M6 x0 (fun M7 => (zk M7 x0 = 7 ∧ ∃ a8, zR M7 x0 2 = some a8 ∧ zk M7 a8 = 4 ∧ w_X4_numberAt M7 a8 (zI M2 a4 x1.toNatClampNeg) x2 (fun r9 M9 => P r9 M9)))) X))))) X) X
set_option maxHeartbeats 4000000 in
set_option maxRecDepth 100000 in
theorem c_X7_move (l : Launch) (E : EV) (M : Mm) (x0 : Nat) (x1 : Int32) (x2 : Int32) (P : Int32 → Mm → Prop) (X : String → Mm → Prop) (h : w_X7_move M x0 x1 x2 P X) : CtIX l E yX7_move cX7_move 4 .int rm_X7_move 3 18 [.ref x0, .int x1, .int x2] M P X := by
  refine ctIX_of (by decide +kernel) (Nat.le_of_ble_eq_true rfl) ?_
  intro p e s m args below meth c C hex
  rw [w_X7_move] at h
  show J p l e rm_X7_move s m args below meth c (QIX below E P X args s 3 18) E 4 M 0 0 0 [(0, .ref x0), (1, .int x1), (2, .int x2)] []
  refine j_aload_n (pc := 0) C 0 dX7_move_0 rfl ?_
  refine j_iload_n (pc := 1) C 1 dX7_move_1 rfl ?_
  refine cs_X7_230 (pc := 2) C hex ⟨Nat.le_of_ble_eq_true rfl, Nat.le_of_ble_eq_true rfl⟩ ⟨Nat.le_of_ble_eq_true rfl, Nat.le_of_ble_eq_true rfl⟩ ⟨Nat.le_of_ble_eq_true rfl, Nat.le_of_ble_eq_true rfl⟩ (Nat.le_of_ble_eq_true rfl) dX7_move_2 h (fun M1 h => ?_)
  refine j_aload_n (pc := 5) C 0 dX7_move_5 rfl ?_
  refine j_iload_n (pc := 6) C 2 dX7_move_6 rfl ?_
  refine cs_X7_183 (pc := 7) C hex ⟨Nat.le_of_ble_eq_true rfl, Nat.le_of_ble_eq_true rfl⟩ ⟨Nat.le_of_ble_eq_true rfl, Nat.le_of_ble_eq_true rfl⟩ ⟨Nat.le_of_ble_eq_true rfl, Nat.le_of_ble_eq_true rfl⟩ (Nat.le_of_ble_eq_true rfl) dX7_move_7 h (fun M2 h => ?_)
  refine j_aload_n (pc := 10) C 0 dX7_move_10 rfl ?_
  refine gf_X7_23 (pc := 11) C dX7_move_11 h (fun a3 h => ?_)
  refine gf_X7_236 (pc := 14) C dX7_move_14 h (fun a4 h => ?_)
  refine j_iload_n (pc := 17) C 1 dX7_move_17 rfl ?_
  refine j_iald (pc := 18) C dX7_move_18 h (fun h => ?_)
  refine j_istore_n (pc := 19) C [(3, _), (0, _), (1, _), (2, _)] dX7_move_19 (by decide) rfl ?_
  refine j_aload_n (pc := 20) C 1 dX7_move_20 rfl ?_
  refine j_iload_n (pc := 21) C 2 dX7_move_21 rfl ?_
  refine j_iload_n (pc := 22) C 3 dX7_move_22 rfl ?_
  refine cs_X7_269 (pc := 23) C ⟨Nat.le_of_ble_eq_true rfl, Nat.le_of_ble_eq_true rfl⟩ ⟨Nat.le_of_ble_eq_true rfl, Nat.le_of_ble_eq_true rfl⟩ (Nat.le_of_ble_eq_true rfl) dX7_move_23 h (fun r5 M5 h => ?_)
  refine j_if_ne (pc := 26) C 33 dX7_move_26 (by decide) h (fun h => ?_) (fun h => ?_)
  · refine j_iconst (pc := 33) (v := (0 : Int32)) C dX7_move_33 rfl ?_
    refine cs_X7_293 (pc := 34) C hex ⟨Nat.le_of_ble_eq_true rfl, Nat.le_of_ble_eq_true rfl⟩ ⟨Nat.le_of_ble_eq_true rfl, Nat.le_of_ble_eq_true rfl⟩ ⟨Nat.le_of_ble_eq_true rfl, Nat.le_of_ble_eq_true rfl⟩ (Nat.le_of_ble_eq_true rfl) dX7_move_34 h (fun M6 h => ?_)
    refine j_aload_n (pc := 37) C 1 dX7_move_37 rfl ?_
    refine cs_X7_296 (pc := 38) C ⟨Nat.le_of_ble_eq_true rfl, Nat.le_of_ble_eq_true rfl⟩ ⟨Nat.le_of_ble_eq_true rfl, Nat.le_of_ble_eq_true rfl⟩ (Nat.le_of_ble_eq_true rfl) dX7_move_38 h (fun M7 h => ?_)
    refine j_aload_n (pc := 41) C 1 dX7_move_41 rfl ?_
    refine gf_X7_23 (pc := 42) C dX7_move_42 h (fun a8 h => ?_)
    refine j_iload_n (pc := 45) C 0 dX7_move_45 rfl ?_
    refine j_iload_n (pc := 46) C 3 dX7_move_46 rfl ?_
    refine cs_X7_254 (pc := 47) C ⟨Nat.le_of_ble_eq_true rfl, Nat.le_of_ble_eq_true rfl⟩ ⟨Nat.le_of_ble_eq_true rfl, Nat.le_of_ble_eq_true rfl⟩ (Nat.le_of_ble_eq_true rfl) dX7_move_47 h (fun r9 M9 h => ?_)
    exact j_iretX (pc := 50) C dX7_move_50 (Nat.le_of_ble_eq_true rfl) (Nat.le_of_ble_eq_true rfl) h
  · refine j_iconst (pc := 29) (v := (1 : Int32)) C dX7_move_29 rfl ?_
    refine j_goto (pc := 30) C 34 dX7_move_30 (by decide) ?_
    refine cs_X7_293 (pc := 34) C hex ⟨Nat.le_of_ble_eq_true rfl, Nat.le_of_ble_eq_true rfl⟩ ⟨Nat.le_of_ble_eq_true rfl, Nat.le_of_ble_eq_true rfl⟩ ⟨Nat.le_of_ble_eq_true rfl, Nat.le_of_ble_eq_true rfl⟩ (Nat.le_of_ble_eq_true rfl) dX7_move_34 h (fun M10 h => ?_)
    refine j_aload_n (pc := 37) C 1 dX7_move_37 rfl ?_
    refine cs_X7_296 (pc := 38) C ⟨Nat.le_of_ble_eq_true rfl, Nat.le_of_ble_eq_true rfl⟩ ⟨Nat.le_of_ble_eq_true rfl, Nat.le_of_ble_eq_true rfl⟩ (Nat.le_of_ble_eq_true rfl) dX7_move_38 h (fun M11 h => ?_)
    refine j_aload_n (pc := 41) C 1 dX7_move_41 rfl ?_
    refine gf_X7_23 (pc := 42) C dX7_move_42 h (fun a12 h => ?_)
    refine j_iload_n (pc := 45) C 0 dX7_move_45 rfl ?_
    refine j_iload_n (pc := 46) C 3 dX7_move_46 rfl ?_
    refine cs_X7_254 (pc := 47) C ⟨Nat.le_of_ble_eq_true rfl, Nat.le_of_ble_eq_true rfl⟩ ⟨Nat.le_of_ble_eq_true rfl, Nat.le_of_ble_eq_true rfl⟩ (Nat.le_of_ble_eq_true rfl) dX7_move_47 h (fun r13 M13 h => ?_)
    exact j_iretX (pc := 50) C dX7_move_50 (Nat.le_of_ble_eq_true rfl) (Nat.le_of_ble_eq_true rfl) h
abbrev rm0_X7_move : Room := { frames := 6, cells := 0, slots := 0, locals := 160 }
set_option maxHeartbeats 4000000 in
set_option maxRecDepth 100000 in
theorem c0_X7_move (l : Launch) (E : EV) (M : Mm) (x0 : Nat) (x1 : Int32) (x2 : Int32) (P : Int32 → Mm → Prop) (h : w_X7_move M x0 x1 x2 P (fun _ _ => False)) : CtI l E yX7_move cX7_move 4 .int rm0_X7_move 0 0 [.ref x0, .int x1, .int x2] M P := by
  refine ctI_of (by decide +kernel) (Nat.le_of_ble_eq_true rfl) ?_
  intro p e s m args below meth c C
  rw [w_X7_move] at h
  show J p l e rm0_X7_move s m args below meth c (QI below E P args s 0 0) E 4 M 0 0 0 [(0, .ref x0), (1, .int x1), (2, .int x2)] []
  refine j_aload_n (pc := 0) C 0 dX7_move_0 rfl ?_
  refine j_iload_n (pc := 1) C 1 dX7_move_1 rfl ?_
  refine cs0_X7_230 (pc := 2) C ⟨Nat.le_of_ble_eq_true rfl, Nat.le_of_ble_eq_true rfl⟩ ⟨Nat.le_of_ble_eq_true rfl, Nat.le_of_ble_eq_true rfl⟩ (Nat.le_of_ble_eq_true rfl) dX7_move_2 h (fun M1 h => ?_)
  refine j_aload_n (pc := 5) C 0 dX7_move_5 rfl ?_
  refine j_iload_n (pc := 6) C 2 dX7_move_6 rfl ?_
  refine cs0_X7_183 (pc := 7) C ⟨Nat.le_of_ble_eq_true rfl, Nat.le_of_ble_eq_true rfl⟩ ⟨Nat.le_of_ble_eq_true rfl, Nat.le_of_ble_eq_true rfl⟩ (Nat.le_of_ble_eq_true rfl) dX7_move_7 h (fun M2 h => ?_)
  refine j_aload_n (pc := 10) C 0 dX7_move_10 rfl ?_
  refine gf_X7_23 (pc := 11) C dX7_move_11 h (fun a3 h => ?_)
  refine gf_X7_236 (pc := 14) C dX7_move_14 h (fun a4 h => ?_)
  refine j_iload_n (pc := 17) C 1 dX7_move_17 rfl ?_
  refine j_iald (pc := 18) C dX7_move_18 h (fun h => ?_)
  refine j_istore_n (pc := 19) C [(3, _), (0, _), (1, _), (2, _)] dX7_move_19 (by decide) rfl ?_
  refine j_aload_n (pc := 20) C 1 dX7_move_20 rfl ?_
  refine j_iload_n (pc := 21) C 2 dX7_move_21 rfl ?_
  refine j_iload_n (pc := 22) C 3 dX7_move_22 rfl ?_
  refine cs_X7_269 (pc := 23) C ⟨Nat.le_of_ble_eq_true rfl, Nat.le_of_ble_eq_true rfl⟩ ⟨Nat.le_of_ble_eq_true rfl, Nat.le_of_ble_eq_true rfl⟩ (Nat.le_of_ble_eq_true rfl) dX7_move_23 h (fun r5 M5 h => ?_)
  refine j_if_ne (pc := 26) C 33 dX7_move_26 (by decide) h (fun h => ?_) (fun h => ?_)
  · refine j_iconst (pc := 33) (v := (0 : Int32)) C dX7_move_33 rfl ?_
    refine cs0_X7_293 (pc := 34) C ⟨Nat.le_of_ble_eq_true rfl, Nat.le_of_ble_eq_true rfl⟩ ⟨Nat.le_of_ble_eq_true rfl, Nat.le_of_ble_eq_true rfl⟩ (Nat.le_of_ble_eq_true rfl) dX7_move_34 h (fun M6 h => ?_)
    refine j_aload_n (pc := 37) C 1 dX7_move_37 rfl ?_
    refine cs_X7_296 (pc := 38) C ⟨Nat.le_of_ble_eq_true rfl, Nat.le_of_ble_eq_true rfl⟩ ⟨Nat.le_of_ble_eq_true rfl, Nat.le_of_ble_eq_true rfl⟩ (Nat.le_of_ble_eq_true rfl) dX7_move_38 h (fun M7 h => ?_)
    refine j_aload_n (pc := 41) C 1 dX7_move_41 rfl ?_
    refine gf_X7_23 (pc := 42) C dX7_move_42 h (fun a8 h => ?_)
    refine j_iload_n (pc := 45) C 0 dX7_move_45 rfl ?_
    refine j_iload_n (pc := 46) C 3 dX7_move_46 rfl ?_
    refine cs_X7_254 (pc := 47) C ⟨Nat.le_of_ble_eq_true rfl, Nat.le_of_ble_eq_true rfl⟩ ⟨Nat.le_of_ble_eq_true rfl, Nat.le_of_ble_eq_true rfl⟩ (Nat.le_of_ble_eq_true rfl) dX7_move_47 h (fun r9 M9 h => ?_)
    exact j_iret (pc := 50) C dX7_move_50 (Nat.le_of_ble_eq_true rfl) (Nat.le_of_ble_eq_true rfl) h
  · refine j_iconst (pc := 29) (v := (1 : Int32)) C dX7_move_29 rfl ?_
    refine j_goto (pc := 30) C 34 dX7_move_30 (by decide) ?_
    refine cs0_X7_293 (pc := 34) C ⟨Nat.le_of_ble_eq_true rfl, Nat.le_of_ble_eq_true rfl⟩ ⟨Nat.le_of_ble_eq_true rfl, Nat.le_of_ble_eq_true rfl⟩ (Nat.le_of_ble_eq_true rfl) dX7_move_34 h (fun M10 h => ?_)
    refine j_aload_n (pc := 37) C 1 dX7_move_37 rfl ?_
    refine cs_X7_296 (pc := 38) C ⟨Nat.le_of_ble_eq_true rfl, Nat.le_of_ble_eq_true rfl⟩ ⟨Nat.le_of_ble_eq_true rfl, Nat.le_of_ble_eq_true rfl⟩ (Nat.le_of_ble_eq_true rfl) dX7_move_38 h (fun M11 h => ?_)
    refine j_aload_n (pc := 41) C 1 dX7_move_41 rfl ?_
    refine gf_X7_23 (pc := 42) C dX7_move_42 h (fun a12 h => ?_)
    refine j_iload_n (pc := 45) C 0 dX7_move_45 rfl ?_
    refine j_iload_n (pc := 46) C 3 dX7_move_46 rfl ?_
    refine cs_X7_254 (pc := 47) C ⟨Nat.le_of_ble_eq_true rfl, Nat.le_of_ble_eq_true rfl⟩ ⟨Nat.le_of_ble_eq_true rfl, Nat.le_of_ble_eq_true rfl⟩ (Nat.le_of_ble_eq_true rfl) dX7_move_47 h (fun r13 M13 h => ?_)
    exact j_iret (pc := 50) C dX7_move_50 (Nat.le_of_ble_eq_true rfl) (Nat.le_of_ble_eq_true rfl) h
theorem cs_X7_306 (C : Cx p l s m args meth c cc nL RX7 ret E) {b : Nat} {y0 : Int32} {P : Mm → Prop} (hR : rm_X4_clearCast.frames + 1 ≤ R.frames ∧ 8 + (3 + 11) + rm_X4_clearCast.locals ≤ R.locals) (hf : kc ≤ R.cells ∧ ks ≤ R.slots) (hst : (st.map fun v => v.category).sum ≤ 8) (d : decode cc pc = .ok (.invokevirtual 306, 3)) (h : zk M b = 4 ∧ w_X4_clearCast M b y0 P) (kk : ∀ M', P M' → J p l e R s m args below meth c Q E nL M' kc ks (pc + 3) lo st) : J p l e R s m args below meth c Q E nL M kc ks pc lo (.int y0 :: .ref b :: st) :=
  j_cV_V (n := 1) (As := [.int y0]) C co_X4 rfl wd_1176 wd_1177 h.1 (c_X4_clearCast l E M b y0 P h.2) ⟨wd_1178, wd_1203, wd_42, by decide +kernel, by decide +kernel, by decide +kernel⟩ rfl rfl hR hf rfl hst d kk
abbrev rm_X7_recast : Room := { frames := 8, cells := 1, slots := 6, locals := 131 }
def w_X7_recast (M : Mm) (x0 : Nat) (x1 : Int32) (P : Int32 → Mm → Prop) (X : String → Mm → Prop) : Prop := zk M x0 = 7 ∧ w_X7_requireService M x0 x1 (fun M1 => (zk M1 x0 = 7 ∧ ∃ a2, zR M1 x0 3 = some a2 ∧ (zk M1 x0 = 7 ∧ ∃ a3, zR M1 x0 2 = some a3 ∧ zk M1 a2 = 4 ∧ w_X4_copyFrom M1 a2 a3 (fun M4 => (zk M4 x0 = 7 ∧ ∃ a5, zR M4 x0 3 = some a5 ∧ zk M4 a5 = 4 ∧ w_X4_clearCast M4 a5 x1 (fun M6 => zk M6 x0 = 7 ∧ w_X7_castInDraft M6 x0 x1 (fun M7 => zk M7 x0 = 7 ∧ w_X7_acceptDraft M7 x0 (fun M8 => (zk M8 x0 = 7 ∧ ∃ a9, zR M8 x0 10 = some a9 ∧ (zk M8 x0 = 7 ∧ ∃ a10, zR M8 x0 2 = some a10 ∧ w_X1_doublingsIn M8 a9 a10 x1 (fun r11 M11 => P r11 M11))))))))))) X
set_option maxHeartbeats 4000000 in
set_option maxRecDepth 100000 in
theorem c_X7_recast (l : Launch) (E : EV) (M : Mm) (x0 : Nat) (x1 : Int32) (P : Int32 → Mm → Prop) (X : String → Mm → Prop) (h : w_X7_recast M x0 x1 P X) : CtIX l E yX7_recast cX7_recast 2 .int rm_X7_recast 1 6 [.ref x0, .int x1] M P X := by
  refine ctIX_of (by decide +kernel) (Nat.le_of_ble_eq_true rfl) ?_
  intro p e s m args below meth c C hex
  rw [w_X7_recast] at h
  show J p l e rm_X7_recast s m args below meth c (QIX below E P X args s 1 6) E 2 M 0 0 0 [(0, .ref x0), (1, .int x1)] []
  refine j_aload_n (pc := 0) C 0 dX7_recast_0 rfl ?_
  refine j_iload_n (pc := 1) C 1 dX7_recast_1 rfl ?_
  refine cs_X7_230 (pc := 2) C hex ⟨Nat.le_of_ble_eq_true rfl, Nat.le_of_ble_eq_true rfl⟩ ⟨Nat.le_of_ble_eq_true rfl, Nat.le_of_ble_eq_true rfl⟩ ⟨Nat.le_of_ble_eq_true rfl, Nat.le_of_ble_eq_true rfl⟩ (Nat.le_of_ble_eq_true rfl) dX7_recast_2 h (fun M1 h => ?_)
  refine j_aload_n (pc := 5) C 0 dX7_recast_5 rfl ?_
  refine gf_X7_27 (pc := 6) C dX7_recast_6 h (fun a2 h => ?_)
  refine j_aload_n (pc := 9) C 0 dX7_recast_9 rfl ?_
  refine gf_X7_23 (pc := 10) C dX7_recast_10 h (fun a3 h => ?_)
  refine cs_X7_275 (pc := 13) C ⟨Nat.le_of_ble_eq_true rfl, Nat.le_of_ble_eq_true rfl⟩ ⟨Nat.le_of_ble_eq_true rfl, Nat.le_of_ble_eq_true rfl⟩ (Nat.le_of_ble_eq_true rfl) dX7_recast_13 h (fun M4 h => ?_)
  refine j_aload_n (pc := 16) C 0 dX7_recast_16 rfl ?_
  refine gf_X7_27 (pc := 17) C dX7_recast_17 h (fun a5 h => ?_)
  refine j_iload_n (pc := 20) C 1 dX7_recast_20 rfl ?_
  refine cs_X7_306 (pc := 21) C ⟨Nat.le_of_ble_eq_true rfl, Nat.le_of_ble_eq_true rfl⟩ ⟨Nat.le_of_ble_eq_true rfl, Nat.le_of_ble_eq_true rfl⟩ (Nat.le_of_ble_eq_true rfl) dX7_recast_21 h (fun M6 h => ?_)
  refine j_aload_n (pc := 24) C 0 dX7_recast_24 rfl ?_
  refine j_iload_n (pc := 25) C 1 dX7_recast_25 rfl ?_
  refine cs_X7_309 (pc := 26) C ⟨Nat.le_of_ble_eq_true rfl, Nat.le_of_ble_eq_true rfl⟩ ⟨Nat.le_of_ble_eq_true rfl, Nat.le_of_ble_eq_true rfl⟩ (Nat.le_of_ble_eq_true rfl) dX7_recast_26 h (fun M7 h => ?_)
  refine j_aload_n (pc := 29) C 0 dX7_recast_29 rfl ?_
  refine cs_X7_296 (pc := 30) C ⟨Nat.le_of_ble_eq_true rfl, Nat.le_of_ble_eq_true rfl⟩ ⟨Nat.le_of_ble_eq_true rfl, Nat.le_of_ble_eq_true rfl⟩ (Nat.le_of_ble_eq_true rfl) dX7_recast_30 h (fun M8 h => ?_)
  refine j_aload_n (pc := 33) C 0 dX7_recast_33 rfl ?_
  refine gf_X7_48 (pc := 34) C dX7_recast_34 h (fun a9 h => ?_)
  refine j_aload_n (pc := 37) C 0 dX7_recast_37 rfl ?_
  refine gf_X7_23 (pc := 38) C dX7_recast_38 h (fun a10 h => ?_)
  refine j_iload_n (pc := 41) C 1 dX7_recast_41 rfl ?_
  refine cs_X7_247 (pc := 42) C ⟨Nat.le_of_ble_eq_true rfl, Nat.le_of_ble_eq_true rfl⟩ ⟨Nat.le_of_ble_eq_true rfl, Nat.le_of_ble_eq_true rfl⟩ (Nat.le_of_ble_eq_true rfl) dX7_recast_42 h (fun r11 M11 h => ?_)
  exact j_iretX (pc := 45) C dX7_recast_45 (Nat.le_of_ble_eq_true rfl) (Nat.le_of_ble_eq_true rfl) h
abbrev rm0_X7_recast : Room := { frames := 4, cells := 0, slots := 0, locals := 125 }
set_option maxHeartbeats 4000000 in
set_option maxRecDepth 100000 in
theorem c0_X7_recast (l : Launch) (E : EV) (M : Mm) (x0 : Nat) (x1 : Int32) (P : Int32 → Mm → Prop) (h : w_X7_recast M x0 x1 P (fun _ _ => False)) : CtI l E yX7_recast cX7_recast 2 .int rm0_X7_recast 0 0 [.ref x0, .int x1] M P := by
  refine ctI_of (by decide +kernel) (Nat.le_of_ble_eq_true rfl) ?_
  intro p e s m args below meth c C
  rw [w_X7_recast] at h
  show J p l e rm0_X7_recast s m args below meth c (QI below E P args s 0 0) E 2 M 0 0 0 [(0, .ref x0), (1, .int x1)] []
  refine j_aload_n (pc := 0) C 0 dX7_recast_0 rfl ?_
  refine j_iload_n (pc := 1) C 1 dX7_recast_1 rfl ?_
  refine cs0_X7_230 (pc := 2) C ⟨Nat.le_of_ble_eq_true rfl, Nat.le_of_ble_eq_true rfl⟩ ⟨Nat.le_of_ble_eq_true rfl, Nat.le_of_ble_eq_true rfl⟩ (Nat.le_of_ble_eq_true rfl) dX7_recast_2 h (fun M1 h => ?_)
  refine j_aload_n (pc := 5) C 0 dX7_recast_5 rfl ?_
  refine gf_X7_27 (pc := 6) C dX7_recast_6 h (fun a2 h => ?_)
  refine j_aload_n (pc := 9) C 0 dX7_recast_9 rfl ?_
  refine gf_X7_23 (pc := 10) C dX7_recast_10 h (fun a3 h => ?_)
  refine cs_X7_275 (pc := 13) C ⟨Nat.le_of_ble_eq_true rfl, Nat.le_of_ble_eq_true rfl⟩ ⟨Nat.le_of_ble_eq_true rfl, Nat.le_of_ble_eq_true rfl⟩ (Nat.le_of_ble_eq_true rfl) dX7_recast_13 h (fun M4 h => ?_)
  refine j_aload_n (pc := 16) C 0 dX7_recast_16 rfl ?_
  refine gf_X7_27 (pc := 17) C dX7_recast_17 h (fun a5 h => ?_)
  refine j_iload_n (pc := 20) C 1 dX7_recast_20 rfl ?_
  refine cs_X7_306 (pc := 21) C ⟨Nat.le_of_ble_eq_true rfl, Nat.le_of_ble_eq_true rfl⟩ ⟨Nat.le_of_ble_eq_true rfl, Nat.le_of_ble_eq_true rfl⟩ (Nat.le_of_ble_eq_true rfl) dX7_recast_21 h (fun M6 h => ?_)
  refine j_aload_n (pc := 24) C 0 dX7_recast_24 rfl ?_
  refine j_iload_n (pc := 25) C 1 dX7_recast_25 rfl ?_
  refine cs_X7_309 (pc := 26) C ⟨Nat.le_of_ble_eq_true rfl, Nat.le_of_ble_eq_true rfl⟩ ⟨Nat.le_of_ble_eq_true rfl, Nat.le_of_ble_eq_true rfl⟩ (Nat.le_of_ble_eq_true rfl) dX7_recast_26 h (fun M7 h => ?_)
  refine j_aload_n (pc := 29) C 0 dX7_recast_29 rfl ?_
  refine cs_X7_296 (pc := 30) C ⟨Nat.le_of_ble_eq_true rfl, Nat.le_of_ble_eq_true rfl⟩ ⟨Nat.le_of_ble_eq_true rfl, Nat.le_of_ble_eq_true rfl⟩ (Nat.le_of_ble_eq_true rfl) dX7_recast_30 h (fun M8 h => ?_)
  refine j_aload_n (pc := 33) C 0 dX7_recast_33 rfl ?_
  refine gf_X7_48 (pc := 34) C dX7_recast_34 h (fun a9 h => ?_)
  refine j_aload_n (pc := 37) C 0 dX7_recast_37 rfl ?_
  refine gf_X7_23 (pc := 38) C dX7_recast_38 h (fun a10 h => ?_)
  refine j_iload_n (pc := 41) C 1 dX7_recast_41 rfl ?_
  refine cs_X7_247 (pc := 42) C ⟨Nat.le_of_ble_eq_true rfl, Nat.le_of_ble_eq_true rfl⟩ ⟨Nat.le_of_ble_eq_true rfl, Nat.le_of_ble_eq_true rfl⟩ (Nat.le_of_ble_eq_true rfl) dX7_recast_42 h (fun r11 M11 h => ?_)
  exact j_iret (pc := 45) C dX7_recast_45 (Nat.le_of_ble_eq_true rfl) (Nat.le_of_ble_eq_true rfl) h
abbrev rm_X7_setContract : Room := { frames := 8, cells := 2, slots := 12, locals := 131 }
def w_X7_setContract (M : Mm) (x0 : Nat) (x1 : Int32) (x2 : Int32) (P : Int32 → Mm → Prop) (X : String → Mm → Prop) : Prop := zk M x0 = 7 ∧ w_X7_requirePlayer M x0 x1 (fun M1 => (if x2 < 0 then w_X7_requireArgument M1 (0 : Int32) (fun M2 => (zk M2 x0 = 7 ∧ ∃ a3, zR M2 x0 2 = some a3 ∧ (zk M2 a3 = 4 ∧ ∃ a4, zR M2 a3 6 = some a4 ∧ zk M2 a4 = 10 ∧ vp_in x1 (zl M2 a4) ∧ (zk M2 x0 = 7 ∧ ∃ a5, zR M2 x0 3 = some a5 ∧ (zk M2 x0 = 7 ∧ ∃ a6, zR M2 x0 2 = some a6 ∧ zk M2 a5 = 4 ∧ w_X4_copyFrom M2 a5 a6 (fun M7 => (zk M7 x0 = 7 ∧ ∃ a8, zR M7 x0 3 = some a8 ∧ (zk M7 a8 = 4 ∧ ∃ a9, zR M7 a8 6 = some a9 ∧ zk M7 a9 = 10 ∧ vp_in x1 (zl M7 a9) ∧ (∀ M10, M10 = sI M7 a9 x1.toNatClampNeg x2 → zk M10 x0 = 7 ∧ w_X7_acceptDraft M10 x0 (fun M11 => P (zI M2 a4 x1.toNatClampNeg) M11)))))))))) X else (if (40 : Int32) < x2 then w_X7_requireArgument M1 (0 : Int32) (fun M12 => (zk M12 x0 = 7 ∧ ∃ a13, zR M12 x0 2 = some a13 ∧ (zk M12 a13 = 4 ∧ ∃ a14, zR M12 a13 6 = some a14 ∧ zk M12 a14 = 10 ∧ vp_in x1 (zl M12 a14) ∧ (zk M12 x0 = 7 ∧ ∃ a15, zR M12 x0 3 = some a15 ∧ (zk M12 x0 = 7 ∧ ∃ a16, zR M12 x0 2 = some a16 ∧ zk M12 a15 = 4 ∧ w_X4_copyFrom M12 a15 a16 (fun M17 => (zk M17 x0 = 7 ∧ ∃ a18, zR M17 x0 3 = some a18 ∧ (zk M17 a18 = 4 ∧ ∃ a19, zR M17 a18 6 = some a19 ∧ zk M17 a19 = 10 ∧ vp_in x1 (zl M17 a19) ∧ (∀ M20, M20 = sI M17 a19 x1.toNatClampNeg x2 → zk M20 x0 = 7 ∧ w_X7_acceptDraft M20 x0 (fun M21 => P (zI M12 a14 x1.toNatClampNeg) M21)))))))))) X else w_X7_requireArgument M1 (1 : Int32) (fun M22 => (zk M22 x0 = 7 ∧ ∃ a23, zR M22 x0 2 = some a23 ∧ (zk M22 a23 = 4 ∧ ∃ a24, zR M22 a23 6 = some a24 ∧ zk M22 a24 = 10 ∧ vp_in x1 (zl M22 a24) ∧ (zk M22 x0 = 7 ∧ ∃ a25, zR M22 x0 3 = some a25 ∧ (zk M22 x0 = 7 ∧ ∃ a26, zR M22 x0 2 = some a26 ∧ zk M22 a25 = 4 ∧ w_X4_copyFrom M22 a25 a26 (fun M27 => (zk M27 x0 = 7 ∧ ∃ a28, zR M27 x0 3 = some a28 ∧ (zk M27 a28 = 4 ∧ ∃ a29, zR M27 a28 6 = some a29 ∧ zk M27 a29 = 10 ∧ vp_in x1 (zl M27 a29) ∧ (∀ M30, M30 = sI M27 a29 x1.toNatClampNeg x2 → zk M30 x0 = 7 ∧ w_X7_acceptDraft M30 x0 (fun M31 => P (zI M22 a24 x1.toNatClampNeg) M31)))))))))) X))) X
set_option maxHeartbeats 4000000 in
set_option maxRecDepth 100000 in
theorem c_X7_setContract (l : Launch) (E : EV) (M : Mm) (x0 : Nat) (x1 : Int32) (x2 : Int32) (P : Int32 → Mm → Prop) (X : String → Mm → Prop) (h : w_X7_setContract M x0 x1 x2 P X) : CtIX l E yX7_setContract cX7_setContract 4 .int rm_X7_setContract 2 12 [.ref x0, .int x1, .int x2] M P X := by
  refine ctIX_of (by decide +kernel) (Nat.le_of_ble_eq_true rfl) ?_
  intro p e s m args below meth c C hex
  rw [w_X7_setContract] at h
  show J p l e rm_X7_setContract s m args below meth c (QIX below E P X args s 2 12) E 4 M 0 0 0 [(0, .ref x0), (1, .int x1), (2, .int x2)] []
  refine j_aload_n (pc := 0) C 0 dX7_setContract_0 rfl ?_
  refine j_iload_n (pc := 1) C 1 dX7_setContract_1 rfl ?_
  refine cs_X7_148 (pc := 2) C hex ⟨Nat.le_of_ble_eq_true rfl, Nat.le_of_ble_eq_true rfl⟩ ⟨Nat.le_of_ble_eq_true rfl, Nat.le_of_ble_eq_true rfl⟩ ⟨Nat.le_of_ble_eq_true rfl, Nat.le_of_ble_eq_true rfl⟩ (Nat.le_of_ble_eq_true rfl) dX7_setContract_2 h (fun M1 h => ?_)
  refine j_iload_n (pc := 5) C 2 dX7_setContract_5 rfl ?_
  refine j_if_lt (pc := 6) C 19 dX7_setContract_6 (by decide) h (fun h => ?_) (fun h => ?_)
  · refine j_iconst (pc := 19) (v := (0 : Int32)) C dX7_setContract_19 rfl ?_
    refine cs_X7_62 (pc := 20) C hex ⟨Nat.le_of_ble_eq_true rfl, Nat.le_of_ble_eq_true rfl⟩ ⟨Nat.le_of_ble_eq_true rfl, Nat.le_of_ble_eq_true rfl⟩ ⟨Nat.le_of_ble_eq_true rfl, Nat.le_of_ble_eq_true rfl⟩ (Nat.le_of_ble_eq_true rfl) dX7_setContract_20 h (fun M2 h => ?_)
    refine j_aload_n (pc := 23) C 0 dX7_setContract_23 rfl ?_
    refine gf_X7_23 (pc := 24) C dX7_setContract_24 h (fun a3 h => ?_)
    refine gf_X7_151 (pc := 27) C dX7_setContract_27 h (fun a4 h => ?_)
    refine j_iload_n (pc := 30) C 1 dX7_setContract_30 rfl ?_
    refine j_iald (pc := 31) C dX7_setContract_31 h (fun h => ?_)
    refine j_istore_n (pc := 32) C [(3, _), (0, _), (1, _), (2, _)] dX7_setContract_32 (by decide) rfl ?_
    refine j_aload_n (pc := 33) C 1 dX7_setContract_33 rfl ?_
    refine gf_X7_27 (pc := 34) C dX7_setContract_34 h (fun a5 h => ?_)
    refine j_aload_n (pc := 37) C 1 dX7_setContract_37 rfl ?_
    refine gf_X7_23 (pc := 38) C dX7_setContract_38 h (fun a6 h => ?_)
    refine cs_X7_275 (pc := 41) C ⟨Nat.le_of_ble_eq_true rfl, Nat.le_of_ble_eq_true rfl⟩ ⟨Nat.le_of_ble_eq_true rfl, Nat.le_of_ble_eq_true rfl⟩ (Nat.le_of_ble_eq_true rfl) dX7_setContract_41 h (fun M7 h => ?_)
    refine j_aload_n (pc := 44) C 1 dX7_setContract_44 rfl ?_
    refine gf_X7_27 (pc := 45) C dX7_setContract_45 h (fun a8 h => ?_)
    refine gf_X7_151 (pc := 48) C dX7_setContract_48 h (fun a9 h => ?_)
    refine j_iload_n (pc := 51) C 2 dX7_setContract_51 rfl ?_
    refine j_iload_n (pc := 52) C 3 dX7_setContract_52 rfl ?_
    refine n_iast (pc := 53) C dX7_setContract_53 h (fun M10 h => ?_)
    refine j_aload_n (pc := 54) C 1 dX7_setContract_54 rfl ?_
    refine cs_X7_296 (pc := 55) C ⟨Nat.le_of_ble_eq_true rfl, Nat.le_of_ble_eq_true rfl⟩ ⟨Nat.le_of_ble_eq_true rfl, Nat.le_of_ble_eq_true rfl⟩ (Nat.le_of_ble_eq_true rfl) dX7_setContract_55 h (fun M11 h => ?_)
    refine j_iload_n (pc := 58) C 0 dX7_setContract_58 rfl ?_
    exact j_iretX (pc := 59) C dX7_setContract_59 (Nat.le_of_ble_eq_true rfl) (Nat.le_of_ble_eq_true rfl) h
  · refine j_iload_n (pc := 9) C 2 dX7_setContract_9 rfl ?_
    refine j_bipush (pc := 10) (v := (40 : Int32)) C dX7_setContract_10 rfl ?_
    refine j_icmp_gt (pc := 12) C 19 dX7_setContract_12 (by decide) h (fun h => ?_) (fun h => ?_)
    · refine j_iconst (pc := 19) (v := (0 : Int32)) C dX7_setContract_19 rfl ?_
      refine cs_X7_62 (pc := 20) C hex ⟨Nat.le_of_ble_eq_true rfl, Nat.le_of_ble_eq_true rfl⟩ ⟨Nat.le_of_ble_eq_true rfl, Nat.le_of_ble_eq_true rfl⟩ ⟨Nat.le_of_ble_eq_true rfl, Nat.le_of_ble_eq_true rfl⟩ (Nat.le_of_ble_eq_true rfl) dX7_setContract_20 h (fun M12 h => ?_)
      refine j_aload_n (pc := 23) C 0 dX7_setContract_23 rfl ?_
      refine gf_X7_23 (pc := 24) C dX7_setContract_24 h (fun a13 h => ?_)
      refine gf_X7_151 (pc := 27) C dX7_setContract_27 h (fun a14 h => ?_)
      refine j_iload_n (pc := 30) C 1 dX7_setContract_30 rfl ?_
      refine j_iald (pc := 31) C dX7_setContract_31 h (fun h => ?_)
      refine j_istore_n (pc := 32) C [(3, _), (0, _), (1, _), (2, _)] dX7_setContract_32 (by decide) rfl ?_
      refine j_aload_n (pc := 33) C 1 dX7_setContract_33 rfl ?_
      refine gf_X7_27 (pc := 34) C dX7_setContract_34 h (fun a15 h => ?_)
      refine j_aload_n (pc := 37) C 1 dX7_setContract_37 rfl ?_
      refine gf_X7_23 (pc := 38) C dX7_setContract_38 h (fun a16 h => ?_)
      refine cs_X7_275 (pc := 41) C ⟨Nat.le_of_ble_eq_true rfl, Nat.le_of_ble_eq_true rfl⟩ ⟨Nat.le_of_ble_eq_true rfl, Nat.le_of_ble_eq_true rfl⟩ (Nat.le_of_ble_eq_true rfl) dX7_setContract_41 h (fun M17 h => ?_)
      refine j_aload_n (pc := 44) C 1 dX7_setContract_44 rfl ?_
      refine gf_X7_27 (pc := 45) C dX7_setContract_45 h (fun a18 h => ?_)
      refine gf_X7_151 (pc := 48) C dX7_setContract_48 h (fun a19 h => ?_)
      refine j_iload_n (pc := 51) C 2 dX7_setContract_51 rfl ?_
      refine j_iload_n (pc := 52) C 3 dX7_setContract_52 rfl ?_
      refine n_iast (pc := 53) C dX7_setContract_53 h (fun M20 h => ?_)
      refine j_aload_n (pc := 54) C 1 dX7_setContract_54 rfl ?_
      refine cs_X7_296 (pc := 55) C ⟨Nat.le_of_ble_eq_true rfl, Nat.le_of_ble_eq_true rfl⟩ ⟨Nat.le_of_ble_eq_true rfl, Nat.le_of_ble_eq_true rfl⟩ (Nat.le_of_ble_eq_true rfl) dX7_setContract_55 h (fun M21 h => ?_)
      refine j_iload_n (pc := 58) C 0 dX7_setContract_58 rfl ?_
      exact j_iretX (pc := 59) C dX7_setContract_59 (Nat.le_of_ble_eq_true rfl) (Nat.le_of_ble_eq_true rfl) h
    · refine j_iconst (pc := 15) (v := (1 : Int32)) C dX7_setContract_15 rfl ?_
      refine j_goto (pc := 16) C 20 dX7_setContract_16 (by decide) ?_
      refine cs_X7_62 (pc := 20) C hex ⟨Nat.le_of_ble_eq_true rfl, Nat.le_of_ble_eq_true rfl⟩ ⟨Nat.le_of_ble_eq_true rfl, Nat.le_of_ble_eq_true rfl⟩ ⟨Nat.le_of_ble_eq_true rfl, Nat.le_of_ble_eq_true rfl⟩ (Nat.le_of_ble_eq_true rfl) dX7_setContract_20 h (fun M22 h => ?_)
      refine j_aload_n (pc := 23) C 0 dX7_setContract_23 rfl ?_
      refine gf_X7_23 (pc := 24) C dX7_setContract_24 h (fun a23 h => ?_)
      refine gf_X7_151 (pc := 27) C dX7_setContract_27 h (fun a24 h => ?_)
      refine j_iload_n (pc := 30) C 1 dX7_setContract_30 rfl ?_
      refine j_iald (pc := 31) C dX7_setContract_31 h (fun h => ?_)
      refine j_istore_n (pc := 32) C [(3, _), (0, _), (1, _), (2, _)] dX7_setContract_32 (by decide) rfl ?_
      refine j_aload_n (pc := 33) C 1 dX7_setContract_33 rfl ?_
      refine gf_X7_27 (pc := 34) C dX7_setContract_34 h (fun a25 h => ?_)
      refine j_aload_n (pc := 37) C 1 dX7_setContract_37 rfl ?_
      refine gf_X7_23 (pc := 38) C dX7_setContract_38 h (fun a26 h => ?_)
      refine cs_X7_275 (pc := 41) C ⟨Nat.le_of_ble_eq_true rfl, Nat.le_of_ble_eq_true rfl⟩ ⟨Nat.le_of_ble_eq_true rfl, Nat.le_of_ble_eq_true rfl⟩ (Nat.le_of_ble_eq_true rfl) dX7_setContract_41 h (fun M27 h => ?_)
      refine j_aload_n (pc := 44) C 1 dX7_setContract_44 rfl ?_
      refine gf_X7_27 (pc := 45) C dX7_setContract_45 h (fun a28 h => ?_)
      refine gf_X7_151 (pc := 48) C dX7_setContract_48 h (fun a29 h => ?_)
      refine j_iload_n (pc := 51) C 2 dX7_setContract_51 rfl ?_
      refine j_iload_n (pc := 52) C 3 dX7_setContract_52 rfl ?_
      refine n_iast (pc := 53) C dX7_setContract_53 h (fun M30 h => ?_)
      refine j_aload_n (pc := 54) C 1 dX7_setContract_54 rfl ?_
      refine cs_X7_296 (pc := 55) C ⟨Nat.le_of_ble_eq_true rfl, Nat.le_of_ble_eq_true rfl⟩ ⟨Nat.le_of_ble_eq_true rfl, Nat.le_of_ble_eq_true rfl⟩ (Nat.le_of_ble_eq_true rfl) dX7_setContract_55 h (fun M31 h => ?_)
      refine j_iload_n (pc := 58) C 0 dX7_setContract_58 rfl ?_
      exact j_iretX (pc := 59) C dX7_setContract_59 (Nat.le_of_ble_eq_true rfl) (Nat.le_of_ble_eq_true rfl) h
abbrev rm0_X7_setContract : Room := { frames := 4, cells := 0, slots := 0, locals := 125 }
set_option maxHeartbeats 4000000 in
set_option maxRecDepth 100000 in
theorem c0_X7_setContract (l : Launch) (E : EV) (M : Mm) (x0 : Nat) (x1 : Int32) (x2 : Int32) (P : Int32 → Mm → Prop) (h : w_X7_setContract M x0 x1 x2 P (fun _ _ => False)) : CtI l E yX7_setContract cX7_setContract 4 .int rm0_X7_setContract 0 0 [.ref x0, .int x1, .int x2] M P := by
  refine ctI_of (by decide +kernel) (Nat.le_of_ble_eq_true rfl) ?_
  intro p e s m args below meth c C
  rw [w_X7_setContract] at h
  show J p l e rm0_X7_setContract s m args below meth c (QI below E P args s 0 0) E 4 M 0 0 0 [(0, .ref x0), (1, .int x1), (2, .int x2)] []
  refine j_aload_n (pc := 0) C 0 dX7_setContract_0 rfl ?_
  refine j_iload_n (pc := 1) C 1 dX7_setContract_1 rfl ?_
  refine cs0_X7_148 (pc := 2) C ⟨Nat.le_of_ble_eq_true rfl, Nat.le_of_ble_eq_true rfl⟩ ⟨Nat.le_of_ble_eq_true rfl, Nat.le_of_ble_eq_true rfl⟩ (Nat.le_of_ble_eq_true rfl) dX7_setContract_2 h (fun M1 h => ?_)
  refine j_iload_n (pc := 5) C 2 dX7_setContract_5 rfl ?_
  refine j_if_lt (pc := 6) C 19 dX7_setContract_6 (by decide) h (fun h => ?_) (fun h => ?_)
  · refine j_iconst (pc := 19) (v := (0 : Int32)) C dX7_setContract_19 rfl ?_
    refine cs0_X7_62 (pc := 20) C ⟨Nat.le_of_ble_eq_true rfl, Nat.le_of_ble_eq_true rfl⟩ ⟨Nat.le_of_ble_eq_true rfl, Nat.le_of_ble_eq_true rfl⟩ (Nat.le_of_ble_eq_true rfl) dX7_setContract_20 h (fun M2 h => ?_)
    refine j_aload_n (pc := 23) C 0 dX7_setContract_23 rfl ?_
    refine gf_X7_23 (pc := 24) C dX7_setContract_24 h (fun a3 h => ?_)
    refine gf_X7_151 (pc := 27) C dX7_setContract_27 h (fun a4 h => ?_)
    refine j_iload_n (pc := 30) C 1 dX7_setContract_30 rfl ?_
    refine j_iald (pc := 31) C dX7_setContract_31 h (fun h => ?_)
    refine j_istore_n (pc := 32) C [(3, _), (0, _), (1, _), (2, _)] dX7_setContract_32 (by decide) rfl ?_
    refine j_aload_n (pc := 33) C 1 dX7_setContract_33 rfl ?_
    refine gf_X7_27 (pc := 34) C dX7_setContract_34 h (fun a5 h => ?_)
    refine j_aload_n (pc := 37) C 1 dX7_setContract_37 rfl ?_
    refine gf_X7_23 (pc := 38) C dX7_setContract_38 h (fun a6 h => ?_)
    refine cs_X7_275 (pc := 41) C ⟨Nat.le_of_ble_eq_true rfl, Nat.le_of_ble_eq_true rfl⟩ ⟨Nat.le_of_ble_eq_true rfl, Nat.le_of_ble_eq_true rfl⟩ (Nat.le_of_ble_eq_true rfl) dX7_setContract_41 h (fun M7 h => ?_)
    refine j_aload_n (pc := 44) C 1 dX7_setContract_44 rfl ?_
    refine gf_X7_27 (pc := 45) C dX7_setContract_45 h (fun a8 h => ?_)
    refine gf_X7_151 (pc := 48) C dX7_setContract_48 h (fun a9 h => ?_)
    refine j_iload_n (pc := 51) C 2 dX7_setContract_51 rfl ?_
    refine j_iload_n (pc := 52) C 3 dX7_setContract_52 rfl ?_
    refine n_iast (pc := 53) C dX7_setContract_53 h (fun M10 h => ?_)
    refine j_aload_n (pc := 54) C 1 dX7_setContract_54 rfl ?_
    refine cs_X7_296 (pc := 55) C ⟨Nat.le_of_ble_eq_true rfl, Nat.le_of_ble_eq_true rfl⟩ ⟨Nat.le_of_ble_eq_true rfl, Nat.le_of_ble_eq_true rfl⟩ (Nat.le_of_ble_eq_true rfl) dX7_setContract_55 h (fun M11 h => ?_)
    refine j_iload_n (pc := 58) C 0 dX7_setContract_58 rfl ?_
    exact j_iret (pc := 59) C dX7_setContract_59 (Nat.le_of_ble_eq_true rfl) (Nat.le_of_ble_eq_true rfl) h
  · refine j_iload_n (pc := 9) C 2 dX7_setContract_9 rfl ?_
    refine j_bipush (pc := 10) (v := (40 : Int32)) C dX7_setContract_10 rfl ?_
    refine j_icmp_gt (pc := 12) C 19 dX7_setContract_12 (by decide) h (fun h => ?_) (fun h => ?_)
    · refine j_iconst (pc := 19) (v := (0 : Int32)) C dX7_setContract_19 rfl ?_
      refine cs0_X7_62 (pc := 20) C ⟨Nat.le_of_ble_eq_true rfl, Nat.le_of_ble_eq_true rfl⟩ ⟨Nat.le_of_ble_eq_true rfl, Nat.le_of_ble_eq_true rfl⟩ (Nat.le_of_ble_eq_true rfl) dX7_setContract_20 h (fun M12 h => ?_)
      refine j_aload_n (pc := 23) C 0 dX7_setContract_23 rfl ?_
      refine gf_X7_23 (pc := 24) C dX7_setContract_24 h (fun a13 h => ?_)
      refine gf_X7_151 (pc := 27) C dX7_setContract_27 h (fun a14 h => ?_)
      refine j_iload_n (pc := 30) C 1 dX7_setContract_30 rfl ?_
      refine j_iald (pc := 31) C dX7_setContract_31 h (fun h => ?_)
      refine j_istore_n (pc := 32) C [(3, _), (0, _), (1, _), (2, _)] dX7_setContract_32 (by decide) rfl ?_
      refine j_aload_n (pc := 33) C 1 dX7_setContract_33 rfl ?_
      refine gf_X7_27 (pc := 34) C dX7_setContract_34 h (fun a15 h => ?_)
      refine j_aload_n (pc := 37) C 1 dX7_setContract_37 rfl ?_
      refine gf_X7_23 (pc := 38) C dX7_setContract_38 h (fun a16 h => ?_)
      refine cs_X7_275 (pc := 41) C ⟨Nat.le_of_ble_eq_true rfl, Nat.le_of_ble_eq_true rfl⟩ ⟨Nat.le_of_ble_eq_true rfl, Nat.le_of_ble_eq_true rfl⟩ (Nat.le_of_ble_eq_true rfl) dX7_setContract_41 h (fun M17 h => ?_)
      refine j_aload_n (pc := 44) C 1 dX7_setContract_44 rfl ?_
      refine gf_X7_27 (pc := 45) C dX7_setContract_45 h (fun a18 h => ?_)
      refine gf_X7_151 (pc := 48) C dX7_setContract_48 h (fun a19 h => ?_)
      refine j_iload_n (pc := 51) C 2 dX7_setContract_51 rfl ?_
      refine j_iload_n (pc := 52) C 3 dX7_setContract_52 rfl ?_
      refine n_iast (pc := 53) C dX7_setContract_53 h (fun M20 h => ?_)
      refine j_aload_n (pc := 54) C 1 dX7_setContract_54 rfl ?_
      refine cs_X7_296 (pc := 55) C ⟨Nat.le_of_ble_eq_true rfl, Nat.le_of_ble_eq_true rfl⟩ ⟨Nat.le_of_ble_eq_true rfl, Nat.le_of_ble_eq_true rfl⟩ (Nat.le_of_ble_eq_true rfl) dX7_setContract_55 h (fun M21 h => ?_)
      refine j_iload_n (pc := 58) C 0 dX7_setContract_58 rfl ?_
      exact j_iret (pc := 59) C dX7_setContract_59 (Nat.le_of_ble_eq_true rfl) (Nat.le_of_ble_eq_true rfl) h
    · refine j_iconst (pc := 15) (v := (1 : Int32)) C dX7_setContract_15 rfl ?_
      refine j_goto (pc := 16) C 20 dX7_setContract_16 (by decide) ?_
      refine cs0_X7_62 (pc := 20) C ⟨Nat.le_of_ble_eq_true rfl, Nat.le_of_ble_eq_true rfl⟩ ⟨Nat.le_of_ble_eq_true rfl, Nat.le_of_ble_eq_true rfl⟩ (Nat.le_of_ble_eq_true rfl) dX7_setContract_20 h (fun M22 h => ?_)
      refine j_aload_n (pc := 23) C 0 dX7_setContract_23 rfl ?_
      refine gf_X7_23 (pc := 24) C dX7_setContract_24 h (fun a23 h => ?_)
      refine gf_X7_151 (pc := 27) C dX7_setContract_27 h (fun a24 h => ?_)
      refine j_iload_n (pc := 30) C 1 dX7_setContract_30 rfl ?_
      refine j_iald (pc := 31) C dX7_setContract_31 h (fun h => ?_)
      refine j_istore_n (pc := 32) C [(3, _), (0, _), (1, _), (2, _)] dX7_setContract_32 (by decide) rfl ?_
      refine j_aload_n (pc := 33) C 1 dX7_setContract_33 rfl ?_
      refine gf_X7_27 (pc := 34) C dX7_setContract_34 h (fun a25 h => ?_)
      refine j_aload_n (pc := 37) C 1 dX7_setContract_37 rfl ?_
      refine gf_X7_23 (pc := 38) C dX7_setContract_38 h (fun a26 h => ?_)
      refine cs_X7_275 (pc := 41) C ⟨Nat.le_of_ble_eq_true rfl, Nat.le_of_ble_eq_true rfl⟩ ⟨Nat.le_of_ble_eq_true rfl, Nat.le_of_ble_eq_true rfl⟩ (Nat.le_of_ble_eq_true rfl) dX7_setContract_41 h (fun M27 h => ?_)
      refine j_aload_n (pc := 44) C 1 dX7_setContract_44 rfl ?_
      refine gf_X7_27 (pc := 45) C dX7_setContract_45 h (fun a28 h => ?_)
      refine gf_X7_151 (pc := 48) C dX7_setContract_48 h (fun a29 h => ?_)
      refine j_iload_n (pc := 51) C 2 dX7_setContract_51 rfl ?_
      refine j_iload_n (pc := 52) C 3 dX7_setContract_52 rfl ?_
      refine n_iast (pc := 53) C dX7_setContract_53 h (fun M30 h => ?_)
      refine j_aload_n (pc := 54) C 1 dX7_setContract_54 rfl ?_
      refine cs_X7_296 (pc := 55) C ⟨Nat.le_of_ble_eq_true rfl, Nat.le_of_ble_eq_true rfl⟩ ⟨Nat.le_of_ble_eq_true rfl, Nat.le_of_ble_eq_true rfl⟩ (Nat.le_of_ble_eq_true rfl) dX7_setContract_55 h (fun M31 h => ?_)
      refine j_iload_n (pc := 58) C 0 dX7_setContract_58 rfl ?_
      exact j_iret (pc := 59) C dX7_setContract_59 (Nat.le_of_ble_eq_true rfl) (Nat.le_of_ble_eq_true rfl) h
end GW20
