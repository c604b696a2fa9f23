/-! written by a program (wip/whole/gen.py) out of the decode rows and the tables: walks of L -/

section GW27
variable {p : Program} {l : Launch} {e : Env} {R : Room} {s : State} {m : MethodId} {args : Array Value} {below : List Frame} {meth : Method} {c : Code} {Q : State → Prop} {cc : ByteArray} {nL : Nat} {ret : Option FieldType} {E : EV} {M : Mm} {kc ks pc : Nat} {lo : List (Nat × Value)} {st : List Value}
theorem cs_L_7 (C : Cx p l s m args meth c cc nL RL ret E) (htab : c.exceptionTable.toList = tableOf [(0, 9, 12, 13)]) {b : Nat} {y0 : Int32} {P : Int32 → Mm → Prop} {X : String → Mm → Prop} (hR : rm_X7_parse.frames + 1 ≤ R.frames ∧ 8 + (3 + 11) + rm_X7_parse.locals ≤ R.locals) (hf : kc + 3 ≤ R.cells ∧ ks + 17 ≤ R.slots) (hst : (st.map fun v => v.category).sum ≤ 8) (d : decode cc pc = .ok (.invokevirtual 7, 3)) (h : zk M b = 7 ∧ w_X7_parse M b y0 P X) (kx : ∀ F M', X F M' → ∃ tgt, KX RL [(0, 9, 12, 13)] pc F tgt ∧ ∀ q, J p l e R s m args below meth c Q E nL M' (kc + 3) (ks + 17) tgt lo [.ref q]) (kk : ∀ r M', P r M' → J p l e R s m args below meth c Q E nL M' (kc + 3) (ks + 17) (pc + 3) lo (.int r :: st)) : J p l e R s m args below meth c Q E nL M kc ks pc lo (.int y0 :: .ref b :: st) :=
  j_xW (n := 1) (As := [.int y0]) C htab co_X7 rfl wd_426 wd_427 h.1 (c_X7_parse l E M b y0 P X h.2) ⟨wd_428, wd_425, wd_101, by decide +kernel, by decide +kernel, by decide +kernel⟩ rfl rfl hR hf rfl hst d kx kk
abbrev rm_L_parse : Room := { frames := 9, cells := 3, slots := 17, locals := 228 }
def w_L_parse (M : Mm) (x0 : Nat) (x1 : Int32) (x2 : Nat) (P : Int32 → Mm → Prop) : Prop := zk M x0 = 7 ∧ w_X7_parse M x0 x1 (fun r1 M1 => zk M1 x2 = 11 ∧ vp_in (0 : Int32) (zl M1 x2) ∧ (∀ M2, M2 = sJ M1 x2 (0 : Int32).toNatClampNeg r1.toInt64 → P (0 : Int32) M2)) (fun F1 M1x => (F1 = "java/lang/IllegalArgumentException" ∧ P (1 : Int32) M1x))
theorem kx_L_parse_0 : KX RL [(0, 9, 12, 13)] 4 "java/lang/IllegalArgumentException" 12 := ⟨[], ⟨0, 9, 12, 13⟩, [], rfl, fun z hz => absurd hz List.not_mem_nil, by decide, by decide, ⟨_, wd_424, nw_434⟩, rfl⟩
set_option maxHeartbeats 4000000 in
set_option maxRecDepth 100000 in
theorem c_L_parse (l : Launch) (E : EV) (M : Mm) (x0 : Nat) (x1 : Int32) (x2 : Nat) (P : Int32 → Mm → Prop) (h : w_L_parse M x0 x1 x2 P) : CtIW l E yL_parse cL_parse 4 [(0, 9, 12, 13)] rm_L_parse 3 17 [.ref x0, .int x1, .ref x2] M P := by
  refine ctIW_of (by decide +kernel) (Nat.le_of_ble_eq_true rfl) ?_
  intro p e s m args below meth c C htab
  rw [w_L_parse] at h
  show J p l e rm_L_parse s m args below meth c (QI below E P args s 3 17) E 4 M 0 0 0 [(0, .ref x0), (1, .int x1), (2, .ref x2)] []
  refine j_aload_n (pc := 0) C 2 dL_parse_0 rfl ?_
  refine j_iconst (pc := 1) (v := (0 : Int32)) C dL_parse_1 rfl ?_
  refine j_aload_n (pc := 2) C 0 dL_parse_2 rfl ?_
  refine j_iload_n (pc := 3) C 1 dL_parse_3 rfl ?_
  refine cs_L_7 (pc := 4) C htab ⟨Nat.le_of_ble_eq_true rfl, Nat.le_of_ble_eq_true rfl⟩ ⟨Nat.le_of_ble_eq_true rfl, Nat.le_of_ble_eq_true rfl⟩ (Nat.le_of_ble_eq_true rfl) dL_parse_4 h (fun F1 M1x h => ?_) (fun r1 M1 h => ?_)
  · obtain ⟨rfl, h⟩ := h
    refine ⟨12, kx_L_parse_0, fun q => ?_⟩
    refine j_astore_n (pc := 12) C [(3, _), (0, _), (1, _), (2, _)] dL_parse_12 (by decide) rfl ?_
    refine j_iconst (pc := 13) (v := (1 : Int32)) C dL_parse_13 rfl ?_
    exact j_iret (pc := 14) C dL_parse_14 (Nat.le_of_ble_eq_true rfl) (Nat.le_of_ble_eq_true rfl) h
  · refine j_i2l (pc := 7) C dL_parse_7 ?_
    refine n_last (pc := 8) C dL_parse_8 h (fun M2 h => ?_)
    refine j_goto (pc := 9) C 15 dL_parse_9 (by decide) ?_
    refine j_iconst (pc := 15) (v := (0 : Int32)) C dL_parse_15 rfl ?_
    exact j_iret (pc := 16) C dL_parse_16 (Nat.le_of_ble_eq_true rfl) (Nat.le_of_ble_eq_true rfl) h
theorem cs_L_15 (C : Cx p l s m args meth c cc nL RL ret E) (htab : c.exceptionTable.toList = tableOf [(0, 9, 12, 13)]) {b : Nat} {y0 : Int32} {P : Int32 → Mm → Prop} {X : String → Mm → Prop} (hR : rm_X7_size.frames + 1 ≤ R.frames ∧ 8 + (2 + 11) + rm_X7_size.locals ≤ R.locals) (hf : kc + 1 ≤ R.cells ∧ ks + 6 ≤ R.slots) (hst : (st.map fun v => v.category).sum ≤ 8) (d : decode cc pc = .ok (.invokevirtual 15, 3)) (h : zk M b = 7 ∧ w_X7_size M b y0 P X) (kx : ∀ F M', X F M' → ∃ tgt, KX RL [(0, 9, 12, 13)] pc F tgt ∧ ∀ q, J p l e R s m args below meth c Q E nL M' (kc + 1) (ks + 6) tgt lo [.ref q]) (kk : ∀ r M', P r M' → J p l e R s m args below meth c Q E nL M' (kc + 1) (ks + 6) (pc + 3) lo (.int r :: st)) : J p l e R s m args below meth c Q E nL M kc ks pc lo (.int y0 :: .ref b :: st) :=
  j_xW (n := 1) (As := [.int y0]) C htab co_X7 rfl wd_712 wd_713 h.1 (c_X7_size l E M b y0 P X h.2) ⟨wd_714, wd_711, wd_101, by decide +kernel, by decide +kernel, by decide +kernel⟩ rfl rfl hR hf rfl hst d kx kk
abbrev rm_L_size : Room := { frames := 7, cells := 1, slots := 6, locals := 110 }
def w_L_size (M : Mm) (x0 : Nat) (x1 : Int32) (x2 : Nat) (P : Int32 → Mm → Prop) : Prop := zk M x0 = 7 ∧ w_X7_size M x0 x1 (fun r1 M1 => zk M1 x2 = 11 ∧ vp_in (0 : Int32) (zl M1 x2) ∧ (∀ M2, M2 = sJ M1 x2 (0 : Int32).toNatClampNeg r1.toInt64 → P (0 : Int32) M2)) (fun F1 M1x => (F1 = "java/lang/IllegalArgumentException" ∧ P (1 : Int32) M1x))
theorem kx_L_size_0 : KX RL [(0, 9, 12, 13)] 4 "java/lang/IllegalArgumentException" 12 := ⟨[], ⟨0, 9, 12, 13⟩, [], rfl, fun z hz => absurd hz List.not_mem_nil, by decide, by decide, ⟨_, wd_424, nw_434⟩, rfl⟩
set_option maxHeartbeats 4000000 in
set_option maxRecDepth 100000 in
theorem c_L_size (l : Launch) (E : EV) (M : Mm) (x0 : Nat) (x1 : Int32) (x2 : Nat) (P : Int32 → Mm → Prop) (h : w_L_size M x0 x1 x2 P) : CtIW l E yL_size cL_size 4 [(0, 9, 12, 13)] rm_L_size 1 6 [.ref x0, .int x1, .ref x2] M P := by
  refine ctIW_of (by decide +kernel) (Nat.le_of_ble_eq_true rfl) ?_
  intro p e s m args below meth c C htab
  rw [w_L_size] at h
  show J p l e rm_L_size s m args below meth c (QI below E P args s 1 6) E 4 M 0 0 0 [(0, .ref x0), (1, .int x1), (2, .ref x2)] []
  refine j_aload_n (pc := 0) C 2 dL_size_0 rfl ?_
  refine j_iconst (pc := 1) (v := (0 : Int32)) C dL_size_1 rfl ?_
  refine j_aload_n (pc := 2) C 0 dL_size_2 rfl ?_
  refine j_iload_n (pc := 3) C 1 dL_size_3 rfl ?_
  refine cs_L_15 (pc := 4) C htab ⟨Nat.le_of_ble_eq_true rfl, Nat.le_of_ble_eq_true rfl⟩ ⟨Nat.le_of_ble_eq_true rfl, Nat.le_of_ble_eq_true rfl⟩ (Nat.le_of_ble_eq_true rfl) dL_size_4 h (fun F1 M1x h => ?_) (fun r1 M1 h => ?_)
  · obtain ⟨rfl, h⟩ := h
    refine ⟨12, kx_L_size_0, fun q => ?_⟩
    refine j_astore_n (pc := 12) C [(3, _), (0, _), (1, _), (2, _)] dL_size_12 (by decide) rfl ?_
    refine j_iconst (pc := 13) (v := (1 : Int32)) C dL_size_13 rfl ?_
    exact j_iret (pc := 14) C dL_size_14 (Nat.le_of_ble_eq_true rfl) (Nat.le_of_ble_eq_true rfl) h
  · refine j_i2l (pc := 7) C dL_size_7 ?_
    refine n_last (pc := 8) C dL_size_8 h (fun M2 h => ?_)
    refine j_goto (pc := 9) C 15 dL_size_9 (by decide) ?_
    refine j_iconst (pc := 15) (v := (0 : Int32)) C dL_size_15 rfl ?_
    exact j_iret (pc := 16) C dL_size_16 (Nat.le_of_ble_eq_true rfl) (Nat.le_of_ble_eq_true rfl) h
theorem cs_L_18 (C : Cx p l s m args meth c cc nL RL ret E) (htab : c.exceptionTable.toList = tableOf [(0, 9, 12, 13)]) {b : Nat} {y0 : Int32} {P : Int32 → Mm → Prop} {X : String → Mm → Prop} (hR : rm_X7_find.frames + 1 ≤ R.frames ∧ 8 + (4 + 11) + rm_X7_find.locals ≤ R.locals) (hf : kc + 1 ≤ R.cells ∧ ks + 6 ≤ R.slots) (hst : (st.map fun v => v.category).sum ≤ 8) (d : decode cc pc = .ok (.invokevirtual 18, 3)) (h : zk M b = 7 ∧ w_X7_find M b y0 P X) (kx : ∀ F M', X F M' → ∃ tgt, KX RL [(0, 9, 12, 13)] pc F tgt ∧ ∀ q, J p l e R s m args below meth c Q E nL M' (kc + 1) (ks + 6) tgt lo [.ref q]) (kk : ∀ r M', P r M' → J p l e R s m args below meth c Q E nL M' (kc + 1) (ks + 6) (pc + 3) lo (.int r :: st)) : J p l e R s m args below meth c Q E nL M kc ks pc lo (.int y0 :: .ref b :: st) :=
  j_xW (n := 1) (As := [.int y0]) C htab co_X7 rfl wd_719 wd_720 h.1 (c_X7_find l E M b y0 P X h.2) ⟨wd_721, wd_718, wd_101, by decide +kernel, by decide +kernel, by decide +kernel⟩ rfl rfl hR hf rfl hst d kx kk
abbrev rm_L_find : Room := { frames := 8, cells := 1, slots := 6, locals := 132 }
def w_L_find (M : Mm) (x0 : Nat) (x1 : Int32) (x2 : Nat) (P : Int32 → Mm → Prop) : Prop := zk M x0 = 7 ∧ w_X7_find M x0 x1 (fun r1 M1 => zk M1 x2 = 11 ∧ vp_in (0 : Int32) (zl M1 x2) ∧ (∀ M2, M2 = sJ M1 x2 (0 : Int32).toNatClampNeg r1.toInt64 → P (0 : Int32) M2)) (fun F1 M1x => (F1 = "java/lang/IllegalArgumentException" ∧ P (1 : Int32) M1x))
theorem kx_L_find_0 : KX RL [(0, 9, 12, 13)] 4 "java/lang/IllegalArgumentException" 12 := ⟨[], ⟨0, 9, 12, 13⟩, [], rfl, fun z hz => absurd hz List.not_mem_nil, by decide, by decide, ⟨_, wd_424, nw_434⟩, rfl⟩
set_option maxHeartbeats 4000000 in
set_option maxRecDepth 100000 in
theorem c_L_find (l : Launch) (E : EV) (M : Mm) (x0 : Nat) (x1 : Int32) (x2 : Nat) (P : Int32 → Mm → Prop) (h : w_L_find M x0 x1 x2 P) : CtIW l E yL_find cL_find 4 [(0, 9, 12, 13)] rm_L_find 1 6 [.ref x0, .int x1, .ref x2] M P := by
  refine ctIW_of (by decide +kernel) (Nat.le_of_ble_eq_true rfl) ?_
  intro p e s m args below meth c C htab
  rw [w_L_find] at h
  show J p l e rm_L_find s m args below meth c (QI below E P args s 1 6) E 4 M 0 0 0 [(0, .ref x0), (1, .int x1), (2, .ref x2)] []
  refine j_aload_n (pc := 0) C 2 dL_find_0 rfl ?_
  refine j_iconst (pc := 1) (v := (0 : Int32)) C dL_find_1 rfl ?_
  refine j_aload_n (pc := 2) C 0 dL_find_2 rfl ?_
  refine j_iload_n (pc := 3) C 1 dL_find_3 rfl ?_
  refine cs_L_18 (pc := 4) C htab ⟨Nat.le_of_ble_eq_true rfl, Nat.le_of_ble_eq_true rfl⟩ ⟨Nat.le_of_ble_eq_true rfl, Nat.le_of_ble_eq_true rfl⟩ (Nat.le_of_ble_eq_true rfl) dL_find_4 h (fun F1 M1x h => ?_) (fun r1 M1 h => ?_)
  · obtain ⟨rfl, h⟩ := h
    refine ⟨12, kx_L_find_0, fun q => ?_⟩
    refine j_astore_n (pc := 12) C [(3, _), (0, _), (1, _), (2, _)] dL_find_12 (by decide) rfl ?_
    refine j_iconst (pc := 13) (v := (1 : Int32)) C dL_find_13 rfl ?_
    exact j_iret (pc := 14) C dL_find_14 (Nat.le_of_ble_eq_true rfl) (Nat.le_of_ble_eq_true rfl) h
  · refine j_i2l (pc := 7) C dL_find_7 ?_
    refine n_last (pc := 8) C dL_find_8 h (fun M2 h => ?_)
    refine j_goto (pc := 9) C 15 dL_find_9 (by decide) ?_
    refine j_iconst (pc := 15) (v := (0 : Int32)) C dL_find_15 rfl ?_
    exact j_iret (pc := 16) C dL_find_16 (Nat.le_of_ble_eq_true rfl) (Nat.le_of_ble_eq_true rfl) h
theorem cs_L_21 (C : Cx p l s m args meth c cc nL RL ret E) (htab : c.exceptionTable.toList = tableOf [(0, 9, 12, 24)]) {b : Nat} {y0 : Int32} {P : Int32 → Mm → Prop} {X : String → Mm → Prop} (hR : rm_X7_turn.frames + 1 ≤ R.frames ∧ 8 + (2 + 11) + rm_X7_turn.locals ≤ R.locals) (hf : kc + 1 ≤ R.cells ∧ ks + 6 ≤ R.slots) (hst : (st.map fun v => v.category).sum ≤ 8) (d : decode cc pc = .ok (.invokevirtual 21, 3)) (h : zk M b = 7 ∧ w_X7_turn M b y0 P X) (kx : ∀ F M', X F M' → ∃ tgt, KX RL [(0, 9, 12, 24)] pc F tgt ∧ ∀ q, J p l e R s m args below meth c Q E nL M' (kc + 1) (ks + 6) tgt lo [.ref q]) (kk : ∀ r M', P r M' → J p l e R s m args below meth c Q E nL M' (kc + 1) (ks + 6) (pc + 3) lo (.int r :: st)) : J p l e R s m args below meth c Q E nL M kc ks pc lo (.int y0 :: .ref b :: st) :=
  j_xW (n := 1) (As := [.int y0]) C htab co_X7 rfl wd_733 wd_734 h.1 (c_X7_turn l E M b y0 P X h.2) ⟨wd_735, wd_732, wd_101, by decide +kernel, by decide +kernel, by decide +kernel⟩ rfl rfl hR hf rfl hst d kx kk
abbrev rm_L_turn : Room := { frames := 9, cells := 1, slots := 6, locals := 152 }
def w_L_turn (M : Mm) (x0 : Nat) (x1 : Int32) (x2 : Nat) (P : Int32 → Mm → Prop) : Prop := zk M x0 = 7 ∧ w_X7_turn M x0 x1 (fun r1 M1 => zk M1 x2 = 11 ∧ vp_in (0 : Int32) (zl M1 x2) ∧ (∀ M2, M2 = sJ M1 x2 (0 : Int32).toNatClampNeg r1.toInt64 → P (0 : Int32) M2)) (fun F1 M1x => (F1 = "java/lang/IndexOutOfBoundsException" ∧ P (1 : Int32) M1x))
theorem kx_L_turn_0 : KX RL [(0, 9, 12, 24)] 4 "java/lang/IndexOutOfBoundsException" 12 := ⟨[], ⟨0, 9, 12, 24⟩, [], rfl, fun z hz => absurd hz List.not_mem_nil, by decide, by decide, ⟨_, wd_731, nw_745⟩, rfl⟩
set_option maxHeartbeats 4000000 in
set_option maxRecDepth 100000 in
theorem c_L_turn (l : Launch) (E : EV) (M : Mm) (x0 : Nat) (x1 : Int32) (x2 : Nat) (P : Int32 → Mm → Prop) (h : w_L_turn M x0 x1 x2 P) : CtIW l E yL_turn cL_turn 4 [(0, 9, 12, 24)] rm_L_turn 1 6 [.ref x0, .int x1, .ref x2] M P := by
  refine ctIW_of (by decide +kernel) (Nat.le_of_ble_eq_true rfl) ?_
  intro p e s m args below meth c C htab
  rw [w_L_turn] at h
  show J p l e rm_L_turn s m args below meth c (QI below E P args s 1 6) E 4 M 0 0 0 [(0, .ref x0), (1, .int x1), (2, .ref x2)] []
  refine j_aload_n (pc := 0) C 2 dL_turn_0 rfl ?_
  refine j_iconst (pc := 1) (v := (0 : Int32)) C dL_turn_1 rfl ?_
  refine j_aload_n (pc := 2) C 0 dL_turn_2 rfl ?_
  refine j_iload_n (pc := 3) C 1 dL_turn_3 rfl ?_
  refine cs_L_21 (pc := 4) C htab ⟨Nat.le_of_ble_eq_true rfl, Nat.le_of_ble_eq_true rfl⟩ ⟨Nat.le_of_ble_eq_true rfl, Nat.le_of_ble_eq_true rfl⟩ (Nat.le_of_ble_eq_true rfl) dL_turn_4 h (fun F1 M1x h => ?_) (fun r1 M1 h => ?_)
  · obtain ⟨rfl, h⟩ := h
    refine ⟨12, kx_L_turn_0, fun q => ?_⟩
    refine j_astore_n (pc := 12) C [(3, _), (0, _), (1, _), (2, _)] dL_turn_12 (by decide) rfl ?_
    refine j_iconst (pc := 13) (v := (1 : Int32)) C dL_turn_13 rfl ?_
    exact j_iret (pc := 14) C dL_turn_14 (Nat.le_of_ble_eq_true rfl) (Nat.le_of_ble_eq_true rfl) h
  · refine j_i2l (pc := 7) C dL_turn_7 ?_
    refine n_last (pc := 8) C dL_turn_8 h (fun M2 h => ?_)
    refine j_goto (pc := 9) C 15 dL_turn_9 (by decide) ?_
    refine j_iconst (pc := 15) (v := (0 : Int32)) C dL_turn_15 rfl ?_
    exact j_iret (pc := 16) C dL_turn_16 (Nat.le_of_ble_eq_true rfl) (Nat.le_of_ble_eq_true rfl) h
theorem cs_L_26 (C : Cx p l s m args meth c cc nL RL ret E) (htab : c.exceptionTable.toList = tableOf [(0, 10, 13, 24), (0, 10, 17, 13)]) {b : Nat} {y0 : Int32} {y1 : Int32} {P : Int32 → Mm → Prop} {X : String → Mm → Prop} (hR : rm_X7_player.frames + 1 ≤ R.frames ∧ 8 + (3 + 11) + rm_X7_player.locals ≤ R.locals) (hf : kc + 2 ≤ R.cells ∧ ks + 12 ≤ R.slots) (hst : (st.map fun v => v.category).sum ≤ 8) (d : decode cc pc = .ok (.invokevirtual 26, 3)) (h : zk M b = 7 ∧ w_X7_player M b y0 y1 P X) (kx : ∀ F M', X F M' → ∃ tgt, KX RL [(0, 10, 13, 24), (0, 10, 17, 13)] pc F tgt ∧ ∀ q, J p l e R s m args below meth c Q E nL M' (kc + 2) (ks + 12) tgt lo [.ref q]) (kk : ∀ r M', P r M' → J p l e R s m args below meth c Q E nL M' (kc + 2) (ks + 12) (pc + 3) lo (.int r :: st)) : J p l e R s m args below meth c Q E nL M kc ks pc lo (.int y1 :: .int y0 :: .ref b :: st) :=
  j_xW (n := 2) (As := [.int y0, .int y1]) C htab co_X7 rfl wd_762 wd_763 h.1 (c_X7_player l E M b y0 y1 P X h.2) ⟨wd_764, wd_761, wd_101, by decide +kernel, by decide +kernel, by decide +kernel⟩ rfl rfl hR hf rfl hst d kx kk
abbrev rm_L_player : Room := { frames := 9, cells := 2, slots := 12, locals := 153 }
def w_L_player (M : Mm) (x0 : Nat) (x1 : Int32) (x2 : Int32) (x3 : Nat) (P : Int32 → Mm → Prop) : Prop := zk M x0 = 7 ∧ w_X7_player M x0 x1 x2 (fun r1 M1 => zk M1 x3 = 11 ∧ vp_in (0 : Int32) (zl M1 x3) ∧ (∀ M2, M2 = sJ M1 x3 (0 : Int32).toNatClampNeg r1.toInt64 → P (0 : Int32) M2)) (fun F1 M1x => (F1 = "java/lang/IndexOutOfBoundsException" ∧ P (1 : Int32) M1x) ∨ (F1 = "java/lang/IllegalArgumentException" ∧ P (2 : Int32) M1x))
theorem kx_L_player_0 : KX RL [(0, 10, 13, 24), (0, 10, 17, 13)] 5 "java/lang/IndexOutOfBoundsException" 13 := ⟨[], ⟨0, 10, 13, 24⟩, [⟨0, 10, 17, 13⟩], rfl, fun z hz => absurd hz List.not_mem_nil, by decide, by decide, ⟨_, wd_731, nw_745⟩, rfl⟩
theorem kx_L_player_1 : KX RL [(0, 10, 13, 24), (0, 10, 17, 13)] 5 "java/lang/IllegalArgumentException" 17 := ⟨[⟨0, 10, 13, 24⟩], ⟨0, 10, 17, 13⟩, [], rfl, fun z hz => by
    simp only [List.mem_cons, List.not_mem_nil, or_false] at hz
    rcases hz with rfl
    · exact Or.inr ⟨by decide, _, wd_731, by decide +kernel⟩, by decide, by decide, ⟨_, wd_424, nw_434⟩, rfl⟩
set_option maxHeartbeats 4000000 in
set_option maxRecDepth 100000 in
theorem c_L_player (l : Launch) (E : EV) (M : Mm) (x0 : Nat) (x1 : Int32) (x2 : Int32) (x3 : Nat) (P : Int32 → Mm → Prop) (h : w_L_player M x0 x1 x2 x3 P) : CtIW l E yL_player cL_player 5 [(0, 10, 13, 24), (0, 10, 17, 13)] rm_L_player 2 12 [.ref x0, .int x1, .int x2, .ref x3] M P := by
  refine ctIW_of (by decide +kernel) (Nat.le_of_ble_eq_true rfl) ?_
  intro p e s m args below meth c C htab
  rw [w_L_player] at h
  show J p l e rm_L_player s m args below meth c (QI below E P args s 2 12) E 5 M 0 0 0 [(0, .ref x0), (1, .int x1), (2, .int x2), (3, .ref x3)] []
  refine j_aload_n (pc := 0) C 3 dL_player_0 rfl ?_
  refine j_iconst (pc := 1) (v := (0 : Int32)) C dL_player_1 rfl ?_
  refine j_aload_n (pc := 2) C 0 dL_player_2 rfl ?_
  refine j_iload_n (pc := 3) C 1 dL_player_3 rfl ?_
  refine j_iload_n (pc := 4) C 2 dL_player_4 rfl ?_
  refine cs_L_26 (pc := 5) C htab ⟨Nat.le_of_ble_eq_true rfl, Nat.le_of_ble_eq_true rfl⟩ ⟨Nat.le_of_ble_eq_true rfl, Nat.le_of_ble_eq_true rfl⟩ (Nat.le_of_ble_eq_true rfl) dL_player_5 h (fun F1 M1x h => ?_) (fun r1 M1 h => ?_)
  · rcases h with ⟨rfl, h⟩ | ⟨rfl, h⟩
    · refine ⟨13, kx_L_player_0, fun q => ?_⟩
      refine j_astore (pc := 13) C [(4, _), (0, _), (1, _), (2, _), (3, _)] dL_player_13 (by decide) rfl ?_
      refine j_iconst (pc := 15) (v := (1 : Int32)) C dL_player_15 rfl ?_
      exact j_iret (pc := 16) C dL_player_16 (Nat.le_of_ble_eq_true rfl) (Nat.le_of_ble_eq_true rfl) h
    · refine ⟨17, kx_L_player_1, fun q => ?_⟩
      refine j_astore (pc := 17) C [(4, _), (0, _), (1, _), (2, _), (3, _)] dL_player_17 (by decide) rfl ?_
      refine j_iconst (pc := 19) (v := (2 : Int32)) C dL_player_19 rfl ?_
      exact j_iret (pc := 20) C dL_player_20 (Nat.le_of_ble_eq_true rfl) (Nat.le_of_ble_eq_true rfl) h
  · refine j_i2l (pc := 8) C dL_player_8 ?_
    refine n_last (pc := 9) C dL_player_9 h (fun M2 h => ?_)
    refine j_goto (pc := 10) C 21 dL_player_10 (by decide) ?_
    refine j_iconst (pc := 21) (v := (0 : Int32)) C dL_player_21 rfl ?_
    exact j_iret (pc := 22) C dL_player_22 (Nat.le_of_ble_eq_true rfl) (Nat.le_of_ble_eq_true rfl) h
theorem cs_L_30 (C : Cx p l s m args meth c cc nL RL ret E) (htab : c.exceptionTable.toList = tableOf [(0, 17, 20, 24)]) {b : Nat} {y0 : Int32} {y1 : Int32} {P : Int32 → Mm → Prop} {X : String → Mm → Prop} (hR : rm_X7_isFree.frames + 1 ≤ R.frames ∧ 8 + (3 + 11) + rm_X7_isFree.locals ≤ R.locals) (hf : kc + 2 ≤ R.cells ∧ ks + 12 ≤ R.slots) (hst : (st.map fun v => v.category).sum ≤ 8) (d : decode cc pc = .ok (.invokevirtual 30, 3)) (h : zk M b = 7 ∧ w_X7_isFree M b y0 y1 P X) (kx : ∀ F M', X F M' → ∃ tgt, KX RL [(0, 17, 20, 24)] pc F tgt ∧ ∀ q, J p l e R s m args below meth c Q E nL M' (kc + 2) (ks + 12) tgt lo [.ref q]) (kk : ∀ r M', P r M' → J p l e R s m args below meth c Q E nL M' (kc + 2) (ks + 12) (pc + 3) lo (.int r :: st)) : J p l e R s m args below meth c Q E nL M kc ks pc lo (.int y1 :: .int y0 :: .ref b :: st) :=
  j_xW (n := 2) (As := [.int y0, .int y1]) C htab co_X7 rfl wd_798 wd_799 h.1 (c_X7_isFree l E M b y0 y1 P X h.2) ⟨wd_800, wd_797, wd_101, by decide +kernel, by decide +kernel, by decide +kernel⟩ rfl rfl hR hf rfl hst d kx kk
abbrev rm_L_isFree : Room := { frames := 9, cells := 2, slots := 12, locals := 153 }
def w_L_isFree (M : Mm) (x0 : Nat) (x1 : Int32) (x2 : Int32) (x3 : Nat) (P : Int32 → Mm → Prop) : Prop := zk M x0 = 7 ∧ w_X7_isFree M x0 x1 x2 (fun r1 M1 => (if r1 = 0 then zk M1 x3 = 11 ∧ vp_in (0 : Int32) (zl M1 x3) ∧ (∀ M2, M2 = sJ M1 x3 (0 : Int32).toNatClampNeg (0 : Int64) → P (0 : Int32) M2) else zk M1 x3 = 11 ∧ vp_in (0 : Int32) (zl M1 x3) ∧ (∀ M3, M3 = sJ M1 x3 (0 : Int32).toNatClampNeg (1 : Int64) → P (0 : Int32) M3))) (fun F1 M1x => (F1 = "java/lang/IndexOutOfBoundsException" ∧ P (1 : Int32) M1x))
theorem kx_L_isFree_0 : KX RL [(0, 17, 20, 24)] 5 "java/lang/IndexOutOfBoundsException" 20 := ⟨[], ⟨0, 17, 20, 24⟩, [], rfl, fun z hz => absurd hz List.not_mem_nil, by decide, by decide, ⟨_, wd_731, nw_745⟩, rfl⟩
set_option maxHeartbeats 4000000 in
set_option maxRecDepth 100000 in
theorem c_L_isFree (l : Launch) (E : EV) (M : Mm) (x0 : Nat) (x1 : Int32) (x2 : Int32) (x3 : Nat) (P : Int32 → Mm → Prop) (h : w_L_isFree M x0 x1 x2 x3 P) : CtIW l E yL_isFree cL_isFree 5 [(0, 17, 20, 24)] rm_L_isFree 2 12 [.ref x0, .int x1, .int x2, .ref x3] M P := by
  refine ctIW_of (by decide +kernel) (Nat.le_of_ble_eq_true rfl) ?_
  intro p e s m args below meth c C htab
  rw [w_L_isFree] at h
  show J p l e rm_L_isFree s m args below meth c (QI below E P args s 2 12) E 5 M 0 0 0 [(0, .ref x0), (1, .int x1), (2, .int x2), (3, .ref x3)] []
  refine j_aload_n (pc := 0) C 3 dL_isFree_0 rfl ?_
  refine j_iconst (pc := 1) (v := (0 : Int32)) C dL_isFree_1 rfl ?_
  refine j_aload_n (pc := 2) C 0 dL_isFree_2 rfl ?_
  refine j_iload_n (pc := 3) C 1 dL_isFree_3 rfl ?_
  refine j_iload_n (pc := 4) C 2 dL_isFree_4 rfl ?_
  refine cs_L_30 (pc := 5) C htab ⟨Nat.le_of_ble_eq_true rfl, Nat.le_of_ble_eq_true rfl⟩ ⟨Nat.le_of_ble_eq_true rfl, Nat.le_of_ble_eq_true rfl⟩ (Nat.le_of_ble_eq_true rfl) dL_isFree_5 h (fun F1 M1x h => ?_) (fun r1 M1 h => ?_)
  · obtain ⟨rfl, h⟩ := h
    refine ⟨20, kx_L_isFree_0, fun q => ?_⟩
    refine j_astore (pc := 20) C [(4, _), (0, _), (1, _), (2, _), (3, _)] dL_isFree_20 (by decide) rfl ?_
    refine j_iconst (pc := 22) (v := (1 : Int32)) C dL_isFree_22 rfl ?_
    exact j_iret (pc := 23) C dL_isFree_23 (Nat.le_of_ble_eq_true rfl) (Nat.le_of_ble_eq_true rfl) h
  · refine j_if_eq (pc := 8) C 15 dL_isFree_8 (by decide) h (fun h => ?_) (fun h => ?_)
    · refine j_lconst (pc := 15) (v := (0 : Int64)) C dL_isFree_15 rfl ?_
      refine n_last (pc := 16) C dL_isFree_16 h (fun M2 h => ?_)
      refine j_goto (pc := 17) C 24 dL_isFree_17 (by decide) ?_
      refine j_iconst (pc := 24) (v := (0 : Int32)) C dL_isFree_24 rfl ?_
      exact j_iret (pc := 25) C dL_isFree_25 (Nat.le_of_ble_eq_true rfl) (Nat.le_of_ble_eq_true rfl) h
    · refine j_lconst (pc := 11) (v := (1 : Int64)) C dL_isFree_11 rfl ?_
      refine j_goto (pc := 12) C 16 dL_isFree_12 (by decide) ?_
      refine n_last (pc := 16) C dL_isFree_16 h (fun M3 h => ?_)
      refine j_goto (pc := 17) C 24 dL_isFree_17 (by decide) ?_
      refine j_iconst (pc := 24) (v := (0 : Int32)) C dL_isFree_24 rfl ?_
      exact j_iret (pc := 25) C dL_isFree_25 (Nat.le_of_ble_eq_true rfl) (Nat.le_of_ble_eq_true rfl) h
theorem cs_L_34 (C : Cx p l s m args meth c cc nL RL ret E) (htab : c.exceptionTable.toList = tableOf [(0, 10, 13, 24), (0, 10, 17, 13)]) {b : Nat} {y0 : Int32} {y1 : Int32} {P : Int32 → Mm → Prop} {X : String → Mm → Prop} (hR : rm_X7_work.frames + 1 ≤ R.frames ∧ 8 + (3 + 11) + rm_X7_work.locals ≤ R.locals) (hf : kc + 2 ≤ R.cells ∧ ks + 12 ≤ R.slots) (hst : (st.map fun v => v.category).sum ≤ 8) (d : decode cc pc = .ok (.invokevirtual 34, 3)) (h : zk M b = 7 ∧ w_X7_work M b y0 y1 P X) (kx : ∀ F M', X F M' → ∃ tgt, KX RL [(0, 10, 13, 24), (0, 10, 17, 13)] pc F tgt ∧ ∀ q, J p l e R s m args below meth c Q E nL M' (kc + 2) (ks + 12) tgt lo [.ref q]) (kk : ∀ r M', P r M' → J p l e R s m args below meth c Q E nL M' (kc + 2) (ks + 12) (pc + 3) lo (.int r :: st)) : J p l e R s m args below meth c Q E nL M kc ks pc lo (.int y1 :: .int y0 :: .ref b :: st) :=
  j_xW (n := 2) (As := [.int y0, .int y1]) C htab co_X7 rfl wd_827 wd_828 h.1 (c_X7_work l E M b y0 y1 P X h.2) ⟨wd_829, wd_826, wd_101, by decide +kernel, by decide +kernel, by decide +kernel⟩ rfl rfl hR hf rfl hst d kx kk
abbrev rm_L_work : Room := { frames := 9, cells := 2, slots := 12, locals := 153 }
def w_L_work (M : Mm) (x0 : Nat) (x1 : Int32) (x2 : Int32) (x3 : Nat) (P : Int32 → Mm → Prop) : Prop := zk M x0 = 7 ∧ w_X7_work M x0 x1 x2 (fun r1 M1 => zk M1 x3 = 11 ∧ vp_in (0 : Int32) (zl M1 x3) ∧ (∀ M2, M2 = sJ M1 x3 (0 : Int32).toNatClampNeg r1.toInt64 → P (0 : Int32) M2)) (fun F1 M1x => (F1 = "java/lang/IndexOutOfBoundsException" ∧ P (1 : Int32) M1x) ∨ (F1 = "java/lang/IllegalArgumentException" ∧ P (2 : Int32) M1x))
theorem kx_L_work_0 : KX RL [(0, 10, 13, 24), (0, 10, 17, 13)] 5 "java/lang/IndexOutOfBoundsException" 13 := ⟨[], ⟨0, 10, 13, 24⟩, [⟨0, 10, 17, 13⟩], rfl, fun z hz => absurd hz List.not_mem_nil, by decide, by decide, ⟨_, wd_731, nw_745⟩, rfl⟩
theorem kx_L_work_1 : KX RL [(0, 10, 13, 24), (0, 10, 17, 13)] 5 "java/lang/IllegalArgumentException" 17 := ⟨[⟨0, 10, 13, 24⟩], ⟨0, 10, 17, 13⟩, [], rfl, fun z hz => by
    simp only [List.mem_cons, List.not_mem_nil, or_false] at hz
    rcases hz with rfl
    · exact Or.inr ⟨by decide, _, wd_731, by decide +kernel⟩, by decide, by decide, ⟨_, wd_424, nw_434⟩, rfl⟩
set_option maxHeartbeats 4000000 in
set_option maxRecDepth 100000 in
theorem c_L_work (l : Launch) (E : EV) (M : Mm) (x0 : Nat) (x1 : Int32) (x2 : Int32) (x3 : Nat) (P : Int32 → Mm → Prop) (h : w_L_work M x0 x1 x2 x3 P) : CtIW l E yL_work cL_work 5 [(0, 10, 13, 24), (0, 10, 17, 13)] rm_L_work 2 12 [.ref x0, .int x1, .int x2, .ref x3] M P := by
  refine ctIW_of (by decide +kernel) (Nat.le_of_ble_eq_true rfl) ?_
  intro p e s m args below meth c C htab
  rw [w_L_work] at h
  show J p l e rm_L_work s m args below meth c (QI below E P args s 2 12) E 5 M 0 0 0 [(0, .ref x0), (1, .int x1), (2, .int x2), (3, .ref x3)] []
  refine j_aload_n (pc := 0) C 3 dL_work_0 rfl ?_
  refine j_iconst (pc := 1) (v := (0 : Int32)) C dL_work_1 rfl ?_
  refine j_aload_n (pc := 2) C 0 dL_work_2 rfl ?_
  refine j_iload_n (pc := 3) C 1 dL_work_3 rfl ?_
  refine j_iload_n (pc := 4) C 2 dL_work_4 rfl ?_
  refine cs_L_34 (pc := 5) C htab ⟨Nat.le_of_ble_eq_true rfl, Nat.le_of_ble_eq_true rfl⟩ ⟨Nat.le_of_ble_eq_true rfl, Nat.le_of_ble_eq_true rfl⟩ (Nat.le_of_ble_eq_true rfl) dL_work_5 h (fun F1 M1x h => ?_) (fun r1 M1 h => ?_)
  · rcases h with ⟨rfl, h⟩ | ⟨rfl, h⟩
    · refine ⟨13, kx_L_work_0, fun q => ?_⟩
      refine j_astore (pc := 13) C [(4, _), (0, _), (1, _), (2, _), (3, _)] dL_work_13 (by decide) rfl ?_
      refine j_iconst (pc := 15) (v := (1 : Int32)) C dL_work_15 rfl ?_
      exact j_iret (pc := 16) C dL_work_16 (Nat.le_of_ble_eq_true rfl) (Nat.le_of_ble_eq_true rfl) h
    · refine ⟨17, kx_L_work_1, fun q => ?_⟩
      refine j_astore (pc := 17) C [(4, _), (0, _), (1, _), (2, _), (3, _)] dL_work_17 (by decide) rfl ?_
      refine j_iconst (pc := 19) (v := (2 : Int32)) C dL_work_19 rfl ?_
      exact j_iret (pc := 20) C dL_work_20 (Nat.le_of_ble_eq_true rfl) (Nat.le_of_ble_eq_true rfl) h
  · refine j_i2l (pc := 8) C dL_work_8 ?_
    refine n_last (pc := 9) C dL_work_9 h (fun M2 h => ?_)
    refine j_goto (pc := 10) C 21 dL_work_10 (by decide) ?_
    refine j_iconst (pc := 21) (v := (0 : Int32)) C dL_work_21 rfl ?_
    exact j_iret (pc := 22) C dL_work_22 (Nat.le_of_ble_eq_true rfl) (Nat.le_of_ble_eq_true rfl) h
theorem cs_L_37 (C : Cx p l s m args meth c cc nL RL ret E) (htab : c.exceptionTable.toList = tableOf [(0, 10, 13, 24)]) {b : Nat} {y0 : Int32} {y1 : Int32} {P : Int32 → Mm → Prop} {X : String → Mm → Prop} (hR : rm_X7_seat.frames + 1 ≤ R.frames ∧ 8 + (3 + 11) + rm_X7_seat.locals ≤ R.locals) (hf : kc + 2 ≤ R.cells ∧ ks + 12 ≤ R.slots) (hst : (st.map fun v => v.category).sum ≤ 8) (d : decode cc pc = .ok (.invokevirtual 37, 3)) (h : zk M b = 7 ∧ w_X7_seat M b y0 y1 P X) (kx : ∀ F M', X F M' → ∃ tgt, KX RL [(0, 10, 13, 24)] pc F tgt ∧ ∀ q, J p l e R s m args below meth c Q E nL M' (kc + 2) (ks + 12) tgt lo [.ref q]) (kk : ∀ r M', P r M' → J p l e R s m args below meth c Q E nL M' (kc + 2) (ks + 12) (pc + 3) lo (.int r :: st)) : J p l e R s m args below meth c Q E nL M kc ks pc lo (.int y1 :: .int y0 :: .ref b :: st) :=
  j_xW (n := 2) (As := [.int y0, .int y1]) C htab co_X7 rfl wd_849 wd_850 h.1 (c_X7_seat l E M b y0 y1 P X h.2) ⟨wd_851, wd_848, wd_101, by decide +kernel, by decide +kernel, by decide +kernel⟩ rfl rfl hR hf rfl hst d kx kk
abbrev rm_L_seat : Room := { frames := 9, cells := 2, slots := 12, locals := 154 }
def w_L_seat (M : Mm) (x0 : Nat) (x1 : Int32) (x2 : Int32) (x3 : Nat) (P : Int32 → Mm → Prop) : Prop := zk M x0 = 7 ∧ w_X7_seat M x0 x1 x2 (fun r1 M1 => zk M1 x3 = 11 ∧ vp_in (0 : Int32) (zl M1 x3) ∧ (∀ M2, M2 = sJ M1 x3 (0 : Int32).toNatClampNeg r1.toInt64 → P (0 : Int32) M2)) (fun F1 M1x => (F1 = "java/lang/IndexOutOfBoundsException" ∧ P (1 : Int32) M1x))
theorem kx_L_seat_0 : KX RL [(0, 10, 13, 24)] 5 "java/lang/IndexOutOfBoundsException" 13 := ⟨[], ⟨0, 10, 13, 24⟩, [], rfl, fun z hz => absurd hz List.not_mem_nil, by decide, by decide, ⟨_, wd_731, nw_745⟩, rfl⟩
set_option maxHeartbeats 4000000 in
set_option maxRecDepth 100000 in
theorem c_L_seat (l : Launch) (E : EV) (M : Mm) (x0 : Nat) (x1 : Int32) (x2 : Int32) (x3 : Nat) (P : Int32 → Mm → Prop) (h : w_L_seat M x0 x1 x2 x3 P) : CtIW l E yL_seat cL_seat 5 [(0, 10, 13, 24)] rm_L_seat 2 12 [.ref x0, .int x1, .int x2, .ref x3] M P := by
  refine ctIW_of (by decide +kernel) (Nat.le_of_ble_eq_true rfl) ?_
  intro p e s m args below meth c C htab
  rw [w_L_seat] at h
  show J p l e rm_L_seat s m args below meth c (QI below E P args s 2 12) E 5 M 0 0 0 [(0, .ref x0), (1, .int x1), (2, .int x2), (3, .ref x3)] []
  refine j_aload_n (pc := 0) C 3 dL_seat_0 rfl ?_
  refine j_iconst (pc := 1) (v := (0 : Int32)) C dL_seat_1 rfl ?_
  refine j_aload_n (pc := 2) C 0 dL_seat_2 rfl ?_
  refine j_iload_n (pc := 3) C 1 dL_seat_3 rfl ?_
  refine j_iload_n (pc := 4) C 2 dL_seat_4 rfl ?_
  refine cs_L_37 (pc := 5) C htab ⟨Nat.le_of_ble_eq_true rfl, Nat.le_of_ble_eq_true rfl⟩ ⟨Nat.le_of_ble_eq_true rfl, Nat.le_of_ble_eq_true rfl⟩ (Nat.le_of_ble_eq_true rfl) dL_seat_5 h (fun F1 M1x h => ?_) (fun r1 M1 h => ?_)
  · obtain ⟨rfl, h⟩ := h
    refine ⟨13, kx_L_seat_0, fun q => ?_⟩
    refine j_astore (pc := 13) C [(4, _), (0, _), (1, _), (2, _), (3, _)] dL_seat_13 (by decide) rfl ?_
    refine j_iconst (pc := 15) (v := (1 : Int32)) C dL_seat_15 rfl ?_
    exact j_iret (pc := 16) C dL_seat_16 (Nat.le_of_ble_eq_true rfl) (Nat.le_of_ble_eq_true rfl) h
  · refine j_i2l (pc := 8) C dL_seat_8 ?_
    refine n_last (pc := 9) C dL_seat_9 h (fun M2 h => ?_)
    refine j_goto (pc := 10) C 17 dL_seat_10 (by decide) ?_
    refine j_iconst (pc := 17) (v := (0 : Int32)) C dL_seat_17 rfl ?_
    exact j_iret (pc := 18) C dL_seat_18 (Nat.le_of_ble_eq_true rfl) (Nat.le_of_ble_eq_true rfl) h
theorem cs_L_40 (C : Cx p l s m args meth c cc nL RL ret E) (htab : c.exceptionTable.toList = tableOf [(0, 10, 13, 24), (0, 10, 17, 13)]) {b : Nat} {y0 : Int32} {y1 : Int32} {P : Int32 → Mm → Prop} {X : String → Mm → Prop} (hR : rm_X7_service.frames + 1 ≤ R.frames ∧ 8 + (3 + 11) + rm_X7_service.locals ≤ R.locals) (hf : kc + 2 ≤ R.cells ∧ ks + 12 ≤ R.slots) (hst : (st.map fun v => v.category).sum ≤ 8) (d : decode cc pc = .ok (.invokevirtual 40, 3)) (h : zk M b = 7 ∧ w_X7_service M b y0 y1 P X) (kx : ∀ F M', X F M' → ∃ tgt, KX RL [(0, 10, 13, 24), (0, 10, 17, 13)] pc F tgt ∧ ∀ q, J p l e R s m args below meth c Q E nL M' (kc + 2) (ks + 12) tgt lo [.ref q]) (kk : ∀ r M', P r M' → J p l e R s m args below meth c Q E nL M' (kc + 2) (ks + 12) (pc + 3) lo (.int r :: st)) : J p l e R s m args below meth c Q E nL M kc ks pc lo (.int y1 :: .int y0 :: .ref b :: st) :=
  j_xW (n := 2) (As := [.int y0, .int y1]) C htab co_X7 rfl wd_861 wd_862 h.1 (c_X7_service l E M b y0 y1 P X h.2) ⟨wd_863, wd_860, wd_101, by decide +kernel, by decide +kernel, by decide +kernel⟩ rfl rfl hR hf rfl hst d kx kk
abbrev rm_L_service : Room := { frames := 9, cells := 2, slots := 12, locals := 153 }
def w_L_service (M : Mm) (x0 : Nat) (x1 : Int32) (x2 : Int32) (x3 : Nat) (P : Int32 → Mm → Prop) : Prop := zk M x0 = 7 ∧ w_X7_service M x0 x1 x2 (fun r1 M1 => zk M1 x3 = 11 ∧ vp_in (0 : Int32) (zl M1 x3) ∧ (∀ M2, M2 = sJ M1 x3 (0 : Int32).toNatClampNeg r1.toInt64 → P (0 : Int32) M2)) (fun F1 M1x => (F1 = "java/lang/IndexOutOfBoundsException" ∧ P (1 : Int32) M1x) ∨ (F1 = "java/lang/IllegalArgumentException" ∧ P (2 : Int32) M1x))
theorem kx_L_service_0 : KX RL [(0, 10, 13, 24), (0, 10, 17, 13)] 5 "java/lang/IndexOutOfBoundsException" 13 := ⟨[], ⟨0, 10, 13, 24⟩, [⟨0, 10, 17, 13⟩], rfl, fun z hz => absurd hz List.not_mem_nil, by decide, by decide, ⟨_, wd_731, nw_745⟩, rfl⟩
theorem kx_L_service_1 : KX RL [(0, 10, 13, 24), (0, 10, 17, 13)] 5 "java/lang/IllegalArgumentException" 17 := ⟨[⟨0, 10, 13, 24⟩], ⟨0, 10, 17, 13⟩, [], rfl, fun z hz => by
    simp only [List.mem_cons, List.not_mem_nil, or_false] at hz
    rcases hz with rfl
    · exact Or.inr ⟨by decide, _, wd_731, by decide +kernel⟩, by decide, by decide, ⟨_, wd_424, nw_434⟩, rfl⟩
set_option maxHeartbeats 4000000 in
set_option maxRecDepth 100000 in
theorem c_L_service (l : Launch) (E : EV) (M : Mm) (x0 : Nat) (x1 : Int32) (x2 : Int32) (x3 : Nat) (P : Int32 → Mm → Prop) (h : w_L_service M x0 x1 x2 x3 P) : CtIW l E yL_service cL_service 5 [(0, 10, 13, 24), (0, 10, 17, 13)] rm_L_service 2 12 [.ref x0, .int x1, .int x2, .ref x3] M P := by
  refine ctIW_of (by decide +kernel) (Nat.le_of_ble_eq_true rfl) ?_
  intro p e s m args below meth c C htab
  rw [w_L_service] at h
  show J p l e rm_L_service s m args below meth c (QI below E P args s 2 12) E 5 M 0 0 0 [(0, .ref x0), (1, .int x1), (2, .int x2), (3, .ref x3)] []
  refine j_aload_n (pc := 0) C 3 dL_service_0 rfl ?_
  refine j_iconst (pc := 1) (v := (0 : Int32)) C dL_service_1 rfl ?_
  refine j_aload_n (pc := 2) C 0 dL_service_2 rfl ?_
  refine j_iload_n (pc := 3) C 1 dL_service_3 rfl ?_
  refine j_iload_n (pc := 4) C 2 dL_service_4 rfl ?_
  refine cs_L_40 (pc := 5) C htab ⟨Nat.le_of_ble_eq_true rfl, Nat.le_of_ble_eq_true rfl⟩ ⟨Nat.le_of_ble_eq_true rfl, Nat.le_of_ble_eq_true rfl⟩ (Nat.le_of_ble_eq_true rfl) dL_service_5 h (fun F1 M1x h => ?_) (fun r1 M1 h => ?_)
  · rcases h with ⟨rfl, h⟩ | ⟨rfl, h⟩
    · refine ⟨13, kx_L_service_0, fun q => ?_⟩
      refine j_astore (pc := 13) C [(4, _), (0, _), (1, _), (2, _), (3, _)] dL_service_13 (by decide) rfl ?_
      refine j_iconst (pc := 15) (v := (1 : Int32)) C dL_service_15 rfl ?_
      exact j_iret (pc := 16) C dL_service_16 (Nat.le_of_ble_eq_true rfl) (Nat.le_of_ble_eq_true rfl) h
    · refine ⟨17, kx_L_service_1, fun q => ?_⟩
      refine j_astore (pc := 17) C [(4, _), (0, _), (1, _), (2, _), (3, _)] dL_service_17 (by decide) rfl ?_
      refine j_iconst (pc := 19) (v := (2 : Int32)) C dL_service_19 rfl ?_
      exact j_iret (pc := 20) C dL_service_20 (Nat.le_of_ble_eq_true rfl) (Nat.le_of_ble_eq_true rfl) h
  · refine j_i2l (pc := 8) C dL_service_8 ?_
    refine n_last (pc := 9) C dL_service_9 h (fun M2 h => ?_)
    refine j_goto (pc := 10) C 21 dL_service_10 (by decide) ?_
    refine j_iconst (pc := 21) (v := (0 : Int32)) C dL_service_21 rfl ?_
    exact j_iret (pc := 22) C dL_service_22 (Nat.le_of_ble_eq_true rfl) (Nat.le_of_ble_eq_true rfl) h
theorem cs_L_43 (C : Cx p l s m args meth c cc nL RL ret E) (htab : c.exceptionTable.toList = tableOf [(0, 12, 15, 24)]) {b : Nat} {y0 : Int32} {y1 : Int32} {y2 : Int32} {P : Int32 → Mm → Prop} {X : String → Mm → Prop} (hR : rm_X7_cast.frames + 1 ≤ R.frames ∧ 8 + (4 + 11) + rm_X7_cast.locals ≤ R.locals) (hf : kc + 3 ≤ R.cells ∧ ks + 18 ≤ R.slots) (hst : (st.map fun v => v.category).sum ≤ 8) (d : decode cc pc = .ok (.invokevirtual 43, 3)) (h : zk M b = 7 ∧ w_X7_cast M b y0 y1 y2 P X) (kx : ∀ F M', X F M' → ∃ tgt, KX RL [(0, 12, 15, 24)] pc F tgt ∧ ∀ q, J p l e R s m args below meth c Q E nL M' (kc + 3) (ks + 18) tgt lo [.ref q]) (kk : ∀ r M', P r M' → J p l e R s m args below meth c Q E nL M' (kc + 3) (ks + 18) (pc + 3) lo (.int r :: st)) : J p l e R s m args below meth c Q E nL M kc ks pc lo (.int y2 :: .int y1 :: .int y0 :: .ref b :: st) :=
  j_xW (n := 3) (As := [.int y0, .int y1, .int y2]) C htab co_X7 rfl wd_879 wd_880 h.1 (c_X7_cast l E M b y0 y1 y2 P X h.2) ⟨wd_881, wd_878, wd_101, by decide +kernel, by decide +kernel, by decide +kernel⟩ rfl rfl hR hf rfl hst d kx kk
abbrev rm_L_cast : Room := { frames := 9, cells := 3, slots := 18, locals := 155 }
def w_L_cast (M : Mm) (x0 : Nat) (x1 : Int32) (x2 : Int32) (x3 : Int32) (x4 : Nat) (P : Int32 → Mm → Prop) : Prop := zk M x0 = 7 ∧ w_X7_cast M x0 x1 x2 x3 (fun r1 M1 => zk M1 x4 = 11 ∧ vp_in (0 : Int32) (zl M1 x4) ∧ (∀ M2, M2 = sJ M1 x4 (0 : Int32).toNatClampNeg r1.toInt64 → P (0 : Int32) M2)) (fun F1 M1x => (F1 = "java/lang/IndexOutOfBoundsException" ∧ P (1 : Int32) M1x))
theorem kx_L_cast_0 : KX RL [(0, 12, 15, 24)] 7 "java/lang/IndexOutOfBoundsException" 15 := ⟨[], ⟨0, 12, 15, 24⟩, [], rfl, fun z hz => absurd hz List.not_mem_nil, by decide, by decide, ⟨_, wd_731, nw_745⟩, rfl⟩
set_option maxHeartbeats 4000000 in
set_option maxRecDepth 100000 in
theorem c_L_cast (l : Launch) (E : EV) (M : Mm) (x0 : Nat) (x1 : Int32) (x2 : Int32) (x3 : Int32) (x4 : Nat) (P : Int32 → Mm → Prop) (h : w_L_cast M x0 x1 x2 x3 x4 P) : CtIW l E yL_cast cL_cast 6 [(0, 12, 15, 24)] rm_L_cast 3 18 [.ref x0, .int x1, .int x2, .int x3, .ref x4] M P := by
  refine ctIW_of (by decide +kernel) (Nat.le_of_ble_eq_true rfl) ?_
  intro p e s m args below meth c C htab
  rw [w_L_cast] at h
  show J p l e rm_L_cast s m args below meth c (QI below E P args s 3 18) E 6 M 0 0 0 [(0, .ref x0), (1, .int x1), (2, .int x2), (3, .int x3), (4, .ref x4)] []
  refine j_aload (pc := 0) C 4 dL_cast_0 rfl ?_
  refine j_iconst (pc := 2) (v := (0 : Int32)) C dL_cast_2 rfl ?_
  refine j_aload_n (pc := 3) C 0 dL_cast_3 rfl ?_
  refine j_iload_n (pc := 4) C 1 dL_cast_4 rfl ?_
  refine j_iload_n (pc := 5) C 2 dL_cast_5 rfl ?_
  refine j_iload_n (pc := 6) C 3 dL_cast_6 rfl ?_
  refine cs_L_43 (pc := 7) C htab ⟨Nat.le_of_ble_eq_true rfl, Nat.le_of_ble_eq_true rfl⟩ ⟨Nat.le_of_ble_eq_true rfl, Nat.le_of_ble_eq_true rfl⟩ (Nat.le_of_ble_eq_true rfl) dL_cast_7 h (fun F1 M1x h => ?_) (fun r1 M1 h => ?_)
  · obtain ⟨rfl, h⟩ := h
    refine ⟨15, kx_L_cast_0, fun q => ?_⟩
    refine j_astore (pc := 15) C [(5, _), (0, _), (1, _), (2, _), (3, _), (4, _)] dL_cast_15 (by decide) rfl ?_
    refine j_iconst (pc := 17) (v := (1 : Int32)) C dL_cast_17 rfl ?_
    exact j_iret (pc := 18) C dL_cast_18 (Nat.le_of_ble_eq_true rfl) (Nat.le_of_ble_eq_true rfl) h
  · refine j_i2l (pc := 10) C dL_cast_10 ?_
    refine n_last (pc := 11) C dL_cast_11 h (fun M2 h => ?_)
    refine j_goto (pc := 12) C 19 dL_cast_12 (by decide) ?_
    refine j_iconst (pc := 19) (v := (0 : Int32)) C dL_cast_19 rfl ?_
    exact j_iret (pc := 20) C dL_cast_20 (Nat.le_of_ble_eq_true rfl) (Nat.le_of_ble_eq_true rfl) h
theorem cs_L_47 (C : Cx p l s m args meth c cc nL RL ret E) (htab : c.exceptionTable.toList = tableOf [(0, 10, 13, 24)]) {b : Nat} {y0 : Int32} {y1 : Int32} {P : Int32 → Mm → Prop} {X : String → Mm → Prop} (hR : rm_X7_serviceAt.frames + 1 ≤ R.frames ∧ 8 + (3 + 11) + rm_X7_serviceAt.locals ≤ R.locals) (hf : kc + 2 ≤ R.cells ∧ ks + 12 ≤ R.slots) (hst : (st.map fun v => v.category).sum ≤ 8) (d : decode cc pc = .ok (.invokevirtual 47, 3)) (h : zk M b = 7 ∧ w_X7_serviceAt M b y0 y1 P X) (kx : ∀ F M', X F M' → ∃ tgt, KX RL [(0, 10, 13, 24)] pc F tgt ∧ ∀ q, J p l e R s m args below meth c Q E nL M' (kc + 2) (ks + 12) tgt lo [.ref q]) (kk : ∀ r M', P r M' → J p l e R s m args below meth c Q E nL M' (kc + 2) (ks + 12) (pc + 3) lo (.int r :: st)) : J p l e R s m args below meth c Q E nL M kc ks pc lo (.int y1 :: .int y0 :: .ref b :: st) :=
  j_xW (n := 2) (As := [.int y0, .int y1]) C htab co_X7 rfl wd_887 wd_888 h.1 (c_X7_serviceAt l E M b y0 y1 P X h.2) ⟨wd_889, wd_886, wd_101, by decide +kernel, by decide +kernel, by decide +kernel⟩ rfl rfl hR hf rfl hst d kx kk
abbrev rm_L_serviceAt : Room := { frames := 9, cells := 2, slots := 12, locals := 153 }
def w_L_serviceAt (M : Mm) (x0 : Nat) (x1 : Int32) (x2 : Int32) (x3 : Nat) (P : Int32 → Mm → Prop) : Prop := zk M x0 = 7 ∧ w_X7_serviceAt M x0 x1 x2 (fun r1 M1 => zk M1 x3 = 11 ∧ vp_in (0 : Int32) (zl M1 x3) ∧ (∀ M2, M2 = sJ M1 x3 (0 : Int32).toNatClampNeg r1.toInt64 → P (0 : Int32) M2)) (fun F1 M1x => (F1 = "java/lang/IndexOutOfBoundsException" ∧ P (1 : Int32) M1x))
theorem kx_L_serviceAt_0 : KX RL [(0, 10, 13, 24)] 5 "java/lang/IndexOutOfBoundsException" 13 := ⟨[], ⟨0, 10, 13, 24⟩, [], rfl, fun z hz => absurd hz List.not_mem_nil, by decide, by decide, ⟨_, wd_731, nw_745⟩, rfl⟩
set_option maxHeartbeats 4000000 in
set_option maxRecDepth 100000 in
theorem c_L_serviceAt (l : Launch) (E : EV) (M : Mm) (x0 : Nat) (x1 : Int32) (x2 : Int32) (x3 : Nat) (P : Int32 → Mm → Prop) (h : w_L_serviceAt M x0 x1 x2 x3 P) : CtIW l E yL_serviceAt cL_serviceAt 5 [(0, 10, 13, 24)] rm_L_serviceAt 2 12 [.ref x0, .int x1, .int x2, .ref x3] M P := by
  refine ctIW_of (by decide +kernel) (Nat.le_of_ble_eq_true rfl) ?_
  intro p e s m args below meth c C htab
  rw [w_L_serviceAt] at h
  show J p l e rm_L_serviceAt s m args below meth c (QI below E P args s 2 12) E 5 M 0 0 0 [(0, .ref x0), (1, .int x1), (2, .int x2), (3, .ref x3)] []
  refine j_aload_n (pc := 0) C 3 dL_serviceAt_0 rfl ?_
  refine j_iconst (pc := 1) (v := (0 : Int32)) C dL_serviceAt_1 rfl ?_
  refine j_aload_n (pc := 2) C 0 dL_serviceAt_2 rfl ?_
  refine j_iload_n (pc := 3) C 1 dL_serviceAt_3 rfl ?_
  refine j_iload_n (pc := 4) C 2 dL_serviceAt_4 rfl ?_
  refine cs_L_47 (pc := 5) C htab ⟨Nat.le_of_ble_eq_true rfl, Nat.le_of_ble_eq_true rfl⟩ ⟨Nat.le_of_ble_eq_true rfl, Nat.le_of_ble_eq_true rfl⟩ (Nat.le_of_ble_eq_true rfl) dL_serviceAt_5 h (fun F1 M1x h => ?_) (fun r1 M1 h => ?_)
  · obtain ⟨rfl, h⟩ := h
    refine ⟨13, kx_L_serviceAt_0, fun q => ?_⟩
    refine j_astore (pc := 13) C [(4, _), (0, _), (1, _), (2, _), (3, _)] dL_serviceAt_13 (by decide) rfl ?_
    refine j_iconst (pc := 15) (v := (1 : Int32)) C dL_serviceAt_15 rfl ?_
    exact j_iret (pc := 16) C dL_serviceAt_16 (Nat.le_of_ble_eq_true rfl) (Nat.le_of_ble_eq_true rfl) h
  · refine j_i2l (pc := 8) C dL_serviceAt_8 ?_
    refine n_last (pc := 9) C dL_serviceAt_9 h (fun M2 h => ?_)
    refine j_goto (pc := 10) C 17 dL_serviceAt_10 (by decide) ?_
    refine j_iconst (pc := 17) (v := (0 : Int32)) C dL_serviceAt_17 rfl ?_
    exact j_iret (pc := 18) C dL_serviceAt_18 (Nat.le_of_ble_eq_true rfl) (Nat.le_of_ble_eq_true rfl) h
theorem cs_L_50 (C : Cx p l s m args meth c cc nL RL ret E) (htab : c.exceptionTable.toList = tableOf [(0, 10, 13, 24)]) {b : Nat} {y0 : Int32} {y1 : Int32} {P : Int32 → Mm → Prop} {X : String → Mm → Prop} (hR : rm_X7_fewestDoublings.frames + 1 ≤ R.frames ∧ 8 + (3 + 11) + rm_X7_fewestDoublings.locals ≤ R.locals) (hf : kc + 2 ≤ R.cells ∧ ks + 12 ≤ R.slots) (hst : (st.map fun v => v.category).sum ≤ 8) (d : decode cc pc = .ok (.invokevirtual 50, 3)) (h : zk M b = 7 ∧ w_X7_fewestDoublings M b y0 y1 P X) (kx : ∀ F M', X F M' → ∃ tgt, KX RL [(0, 10, 13, 24)] pc F tgt ∧ ∀ q, J p l e R s m args below meth c Q E nL M' (kc + 2) (ks + 12) tgt lo [.ref q]) (kk : ∀ r M', P r M' → J p l e R s m args below meth c Q E nL M' (kc + 2) (ks + 12) (pc + 3) lo (.int r :: st)) : J p l e R s m args below meth c Q E nL M kc ks pc lo (.int y1 :: .int y0 :: .ref b :: st) :=
  j_xW (n := 2) (As := [.int y0, .int y1]) C htab co_X7 rfl wd_898 wd_899 h.1 (c_X7_fewestDoublings l E M b y0 y1 P X h.2) ⟨wd_900, wd_897, wd_101, by decide +kernel, by decide +kernel, by decide +kernel⟩ rfl rfl hR hf rfl hst d kx kk
abbrev rm_L_fewestDoublings : Room := { frames := 9, cells := 2, slots := 12, locals := 153 }
def w_L_fewestDoublings (M : Mm) (x0 : Nat) (x1 : Int32) (x2 : Int32) (x3 : Nat) (P : Int32 → Mm → Prop) : Prop := zk M x0 = 7 ∧ w_X7_fewestDoublings M x0 x1 x2 (fun r1 M1 => zk M1 x3 = 11 ∧ vp_in (0 : Int32) (zl M1 x3) ∧ (∀ M2, M2 = sJ M1 x3 (0 : Int32).toNatClampNeg r1.toInt64 → P (0 : Int32) M2)) (fun F1 M1x => (F1 = "java/lang/IndexOutOfBoundsException" ∧ P (1 : Int32) M1x))
theorem kx_L_fewestDoublings_0 : KX RL [(0, 10, 13, 24)] 5 "java/lang/IndexOutOfBoundsException" 13 := ⟨[], ⟨0, 10, 13, 24⟩, [], rfl, fun z hz => absurd hz List.not_mem_nil, by decide, by decide, ⟨_, wd_731, nw_745⟩, rfl⟩
set_option maxHeartbeats 4000000 in
set_option maxRecDepth 100000 in
theorem c_L_fewestDoublings (l : Launch) (E : EV) (M : Mm) (x0 : Nat) (x1 : Int32) (x2 : Int32) (x3 : Nat) (P : Int32 → Mm → Prop) (h : w_L_fewestDoublings M x0 x1 x2 x3 P) : CtIW l E yL_fewestDoublings cL_fewestDoublings 5 [(0, 10, 13, 24)] rm_L_fewestDoublings 2 12 [.ref x0, .int x1, .int x2, .ref x3] M P := by
  refine ctIW_of (by decide +kernel) (Nat.le_of_ble_eq_true rfl) ?_
  intro p e s m args below meth c C htab
  rw [w_L_fewestDoublings] at h
  show J p l e rm_L_fewestDoublings s m args below meth c (QI below E P args s 2 12) E 5 M 0 0 0 [(0, .ref x0), (1, .int x1), (2, .int x2), (3, .ref x3)] []
  refine j_aload_n (pc := 0) C 3 dL_fewestDoublings_0 rfl ?_
  refine j_iconst (pc := 1) (v := (0 : Int32)) C dL_fewestDoublings_1 rfl ?_
  refine j_aload_n (pc := 2) C 0 dL_fewestDoublings_2 rfl ?_
  refine j_iload_n (pc := 3) C 1 dL_fewestDoublings_3 rfl ?_
  refine j_iload_n (pc := 4) C 2 dL_fewestDoublings_4 rfl ?_
  refine cs_L_50 (pc := 5) C htab ⟨Nat.le_of_ble_eq_true rfl, Nat.le_of_ble_eq_true rfl⟩ ⟨Nat.le_of_ble_eq_true rfl, Nat.le_of_ble_eq_true rfl⟩ (Nat.le_of_ble_eq_true rfl) dL_fewestDoublings_5 h (fun F1 M1x h => ?_) (fun r1 M1 h => ?_)
  · obtain ⟨rfl, h⟩ := h
    refine ⟨13, kx_L_fewestDoublings_0, fun q => ?_⟩
    refine j_astore (pc := 13) C [(4, _), (0, _), (1, _), (2, _), (3, _)] dL_fewestDoublings_13 (by decide) rfl ?_
    refine j_iconst (pc := 15) (v := (1 : Int32)) C dL_fewestDoublings_15 rfl ?_
    exact j_iret (pc := 16) C dL_fewestDoublings_16 (Nat.le_of_ble_eq_true rfl) (Nat.le_of_ble_eq_true rfl) h
  · refine j_i2l (pc := 8) C dL_fewestDoublings_8 ?_
    refine n_last (pc := 9) C dL_fewestDoublings_9 h (fun M2 h => ?_)
    refine j_goto (pc := 10) C 17 dL_fewestDoublings_10 (by decide) ?_
    refine j_iconst (pc := 17) (v := (0 : Int32)) C dL_fewestDoublings_17 rfl ?_
    exact j_iret (pc := 18) C dL_fewestDoublings_18 (Nat.le_of_ble_eq_true rfl) (Nat.le_of_ble_eq_true rfl) h
theorem cs_L_53 (C : Cx p l s m args meth c cc nL RL ret E) (htab : c.exceptionTable.toList = tableOf [(0, 14, 17, 24), (0, 14, 21, 13)]) {b : Nat} {y0 : Int32} {y1 : Int32} {y2 : Int32} {y3 : Int32} {P : Int32 → Mm → Prop} {X : String → Mm → Prop} (hR : rm_X7_whyNot.frames + 1 ≤ R.frames ∧ 8 + (5 + 11) + rm_X7_whyNot.locals ≤ R.locals) (hf : kc + 4 ≤ R.cells ∧ ks + 24 ≤ R.slots) (hst : (st.map fun v => v.category).sum ≤ 8) (d : decode cc pc = .ok (.invokevirtual 53, 3)) (h : zk M b = 7 ∧ w_X7_whyNot M b y0 y1 y2 y3 P X) (kx : ∀ F M', X F M' → ∃ tgt, KX RL [(0, 14, 17, 24), (0, 14, 21, 13)] pc F tgt ∧ ∀ q, J p l e R s m args below meth c Q E nL M' (kc + 4) (ks + 24) tgt lo [.ref q]) (kk : ∀ r M', P r M' → J p l e R s m args below meth c Q E nL M' (kc + 4) (ks + 24) (pc + 3) lo (.int r :: st)) : J p l e R s m args below meth c Q E nL M kc ks pc lo (.int y3 :: .int y2 :: .int y1 :: .int y0 :: .ref b :: st) :=
  j_xW (n := 4) (As := [.int y0, .int y1, .int y2, .int y3]) C htab co_X7 rfl wd_923 wd_924 h.1 (c_X7_whyNot l E M b y0 y1 y2 y3 P X h.2) ⟨wd_925, wd_922, wd_101, by decide +kernel, by decide +kernel, by decide +kernel⟩ rfl rfl hR hf rfl hst d kx kk
abbrev rm_L_whyNot : Room := { frames := 10, cells := 4, slots := 24, locals := 180 }
def w_L_whyNot (M : Mm) (x0 : Nat) (x1 : Int32) (x2 : Int32) (x3 : Int32) (x4 : Int32) (x5 : Nat) (P : Int32 → Mm → Prop) : Prop := zk M x0 = 7 ∧ w_X7_whyNot M x0 x1 x2 x3 x4 (fun r1 M1 => zk M1 x5 = 11 ∧ vp_in (0 : Int32) (zl M1 x5) ∧ (∀ M2, M2 = sJ M1 x5 (0 : Int32).toNatClampNeg r1.toInt64 → P (0 : Int32) M2)) (fun F1 M1x => (F1 = "java/lang/IndexOutOfBoundsException" ∧ P (1 : Int32) M1x) ∨ (F1 = "java/lang/IllegalArgumentException" ∧ P (2 : Int32) M1x))
theorem kx_L_whyNot_0 : KX RL [(0, 14, 17, 24), (0, 14, 21, 13)] 9 "java/lang/IndexOutOfBoundsException" 17 := ⟨[], ⟨0, 14, 17, 24⟩, [⟨0, 14, 21, 13⟩], rfl, fun z hz => absurd hz List.not_mem_nil, by decide, by decide, ⟨_, wd_731, nw_745⟩, rfl⟩
theorem kx_L_whyNot_1 : KX RL [(0, 14, 17, 24), (0, 14, 21, 13)] 9 "java/lang/IllegalArgumentException" 21 := ⟨[⟨0, 14, 17, 24⟩], ⟨0, 14, 21, 13⟩, [], rfl, fun z hz => by
    simp only [List.mem_cons, List.not_mem_nil, or_false] at hz
    rcases hz with rfl
    · exact Or.inr ⟨by decide, _, wd_731, by decide +kernel⟩, by decide, by decide, ⟨_, wd_424, nw_434⟩, rfl⟩
set_option maxHeartbeats 4000000 in
set_option maxRecDepth 100000 in
theorem c_L_whyNot (l : Launch) (E : EV) (M : Mm) (x0 : Nat) (x1 : Int32) (x2 : Int32) (x3 : Int32) (x4 : Int32) (x5 : Nat) (P : Int32 → Mm → Prop) (h : w_L_whyNot M x0 x1 x2 x3 x4 x5 P) : CtIW l E yL_whyNot cL_whyNot 7 [(0, 14, 17, 24), (0, 14, 21, 13)] rm_L_whyNot 4 24 [.ref x0, .int x1, .int x2, .int x3, .int x4, .ref x5] M P := by
  refine ctIW_of (by decide +kernel) (Nat.le_of_ble_eq_true rfl) ?_
  intro p e s m args below meth c C htab
  rw [w_L_whyNot] at h
  show J p l e rm_L_whyNot s m args below meth c (QI below E P args s 4 24) E 7 M 0 0 0 [(0, .ref x0), (1, .int x1), (2, .int x2), (3, .int x3), (4, .int x4), (5, .ref x5)] []
  refine j_aload (pc := 0) C 5 dL_whyNot_0 rfl ?_
  refine j_iconst (pc := 2) (v := (0 : Int32)) C dL_whyNot_2 rfl ?_
  refine j_aload_n (pc := 3) C 0 dL_whyNot_3 rfl ?_
  refine j_iload_n (pc := 4) C 1 dL_whyNot_4 rfl ?_
  refine j_iload_n (pc := 5) C 2 dL_whyNot_5 rfl ?_
  refine j_iload_n (pc := 6) C 3 dL_whyNot_6 rfl ?_
  refine j_iload (pc := 7) C 4 dL_whyNot_7 rfl ?_
  refine cs_L_53 (pc := 9) C htab ⟨Nat.le_of_ble_eq_true rfl, Nat.le_of_ble_eq_true rfl⟩ ⟨Nat.le_of_ble_eq_true rfl, Nat.le_of_ble_eq_true rfl⟩ (Nat.le_of_ble_eq_true rfl) dL_whyNot_9 h (fun F1 M1x h => ?_) (fun r1 M1 h => ?_)
  · rcases h with ⟨rfl, h⟩ | ⟨rfl, h⟩
    · refine ⟨17, kx_L_whyNot_0, fun q => ?_⟩
      refine j_astore (pc := 17) C [(6, _), (0, _), (1, _), (2, _), (3, _), (4, _), (5, _)] dL_whyNot_17 (by decide) rfl ?_
      refine j_iconst (pc := 19) (v := (1 : Int32)) C dL_whyNot_19 rfl ?_
      exact j_iret (pc := 20) C dL_whyNot_20 (Nat.le_of_ble_eq_true rfl) (Nat.le_of_ble_eq_true rfl) h
    · refine ⟨21, kx_L_whyNot_1, fun q => ?_⟩
      refine j_astore (pc := 21) C [(6, _), (0, _), (1, _), (2, _), (3, _), (4, _), (5, _)] dL_whyNot_21 (by decide) rfl ?_
      refine j_iconst (pc := 23) (v := (2 : Int32)) C dL_whyNot_23 rfl ?_
      exact j_iret (pc := 24) C dL_whyNot_24 (Nat.le_of_ble_eq_true rfl) (Nat.le_of_ble_eq_true rfl) h
  · refine j_i2l (pc := 12) C dL_whyNot_12 ?_
    refine n_last (pc := 13) C dL_whyNot_13 h (fun M2 h => ?_)
    refine j_goto (pc := 14) C 25 dL_whyNot_14 (by decide) ?_
    refine j_iconst (pc := 25) (v := (0 : Int32)) C dL_whyNot_25 rfl ?_
    exact j_iret (pc := 26) C dL_whyNot_26 (Nat.le_of_ble_eq_true rfl) (Nat.le_of_ble_eq_true rfl) h
theorem cs_L_57 (C : Cx p l s m args meth c cc nL RL ret E) (htab : c.exceptionTable.toList = tableOf [(0, 14, 17, 24), (0, 14, 21, 13)]) {b : Nat} {y0 : Int32} {y1 : Int32} {y2 : Int32} {y3 : Int32} {P : Int32 → Mm → Prop} {X : String → Mm → Prop} (hR : rm_X7_earliest.frames + 1 ≤ R.frames ∧ 8 + (6 + 11) + rm_X7_earliest.locals ≤ R.locals) (hf : kc + 4 ≤ R.cells ∧ ks + 24 ≤ R.slots) (hst : (st.map fun v => v.category).sum ≤ 8) (d : decode cc pc = .ok (.invokevirtual 57, 3)) (h : zk M b = 7 ∧ w_X7_earliest M b y0 y1 y2 y3 P X) (kx : ∀ F M', X F M' → ∃ tgt, KX RL [(0, 14, 17, 24), (0, 14, 21, 13)] pc F tgt ∧ ∀ q, J p l e R s m args below meth c Q E nL M' (kc + 4) (ks + 24) tgt lo [.ref q]) (kk : ∀ r M', P r M' → J p l e R s m args below meth c Q E nL M' (kc + 4) (ks + 24) (pc + 3) lo (.int r :: st)) : J p l e R s m args below meth c Q E nL M kc ks pc lo (.int y3 :: .int y2 :: .int y1 :: .int y0 :: .ref b :: st) :=
  j_xW (n := 4) (As := [.int y0, .int y1, .int y2, .int y3]) C htab co_X7 rfl wd_959 wd_960 h.1 (c_X7_earliest l E M b y0 y1 y2 y3 P X h.2) ⟨wd_961, wd_958, wd_101, by decide +kernel, by decide +kernel, by decide +kernel⟩ rfl rfl hR hf rfl hst d kx kk
abbrev rm_L_earliest : Room := { frames := 10, cells := 4, slots := 24, locals := 181 }
def w_L_earliest (M : Mm) (x0 : Nat) (x1 : Int32) (x2 : Int32) (x3 : Int32) (x4 : Int32) (x5 : Nat) (P : Int32 → Mm → Prop) : Prop := zk M x0 = 7 ∧ w_X7_earliest M x0 x1 x2 x3 x4 (fun r1 M1 => zk M1 x5 = 11 ∧ vp_in (0 : Int32) (zl M1 x5) ∧ (∀ M2, M2 = sJ M1 x5 (0 : Int32).toNatClampNeg r1.toInt64 → P (0 : Int32) M2)) (fun F1 M1x => (F1 = "java/lang/IndexOutOfBoundsException" ∧ P (1 : Int32) M1x) ∨ (F1 = "java/lang/IllegalArgumentException" ∧ P (2 : Int32) M1x))
theorem kx_L_earliest_0 : KX RL [(0, 14, 17, 24), (0, 14, 21, 13)] 9 "java/lang/IndexOutOfBoundsException" 17 := ⟨[], ⟨0, 14, 17, 24⟩, [⟨0, 14, 21, 13⟩], rfl, fun z hz => absurd hz List.not_mem_nil, by decide, by decide, ⟨_, wd_731, nw_745⟩, rfl⟩
theorem kx_L_earliest_1 : KX RL [(0, 14, 17, 24), (0, 14, 21, 13)] 9 "java/lang/IllegalArgumentException" 21 := ⟨[⟨0, 14, 17, 24⟩], ⟨0, 14, 21, 13⟩, [], rfl, fun z hz => by
    simp only [List.mem_cons, List.not_mem_nil, or_false] at hz
    rcases hz with rfl
    · exact Or.inr ⟨by decide, _, wd_731, by decide +kernel⟩, by decide, by decide, ⟨_, wd_424, nw_434⟩, rfl⟩
set_option maxHeartbeats 4000000 in
set_option maxRecDepth 100000 in
theorem c_L_earliest (l : Launch) (E : EV) (M : Mm) (x0 : Nat) (x1 : Int32) (x2 : Int32) (x3 : Int32) (x4 : Int32) (x5 : Nat) (P : Int32 → Mm → Prop) (h : w_L_earliest M x0 x1 x2 x3 x4 x5 P) : CtIW l E yL_earliest cL_earliest 7 [(0, 14, 17, 24), (0, 14, 21, 13)] rm_L_earliest 4 24 [.ref x0, .int x1, .int x2, .int x3, .int x4, .ref x5] M P := by
  refine ctIW_of (by decide +kernel) (Nat.le_of_ble_eq_true rfl) ?_
  intro p e s m args below meth c C htab
  rw [w_L_earliest] at h
  show J p l e rm_L_earliest s m args below meth c (QI below E P args s 4 24) E 7 M 0 0 0 [(0, .ref x0), (1, .int x1), (2, .int x2), (3, .int x3), (4, .int x4), (5, .ref x5)] []
  refine j_aload (pc := 0) C 5 dL_earliest_0 rfl ?_
  refine j_iconst (pc := 2) (v := (0 : Int32)) C dL_earliest_2 rfl ?_
  refine j_aload_n (pc := 3) C 0 dL_earliest_3 rfl ?_
  refine j_iload_n (pc := 4) C 1 dL_earliest_4 rfl ?_
  refine j_iload_n (pc := 5) C 2 dL_earliest_5 rfl ?_
  refine j_iload_n (pc := 6) C 3 dL_earliest_6 rfl ?_
  refine j_iload (pc := 7) C 4 dL_earliest_7 rfl ?_
  refine cs_L_57 (pc := 9) C htab ⟨Nat.le_of_ble_eq_true rfl, Nat.le_of_ble_eq_true rfl⟩ ⟨Nat.le_of_ble_eq_true rfl, Nat.le_of_ble_eq_true rfl⟩ (Nat.le_of_ble_eq_true rfl) dL_earliest_9 h (fun F1 M1x h => ?_) (fun r1 M1 h => ?_)
  · rcases h with ⟨rfl, h⟩ | ⟨rfl, h⟩
    · refine ⟨17, kx_L_earliest_0, fun q => ?_⟩
      refine j_astore (pc := 17) C [(6, _), (0, _), (1, _), (2, _), (3, _), (4, _), (5, _)] dL_earliest_17 (by decide) rfl ?_
      refine j_iconst (pc := 19) (v := (1 : Int32)) C dL_earliest_19 rfl ?_
      exact j_iret (pc := 20) C dL_earliest_20 (Nat.le_of_ble_eq_true rfl) (Nat.le_of_ble_eq_true rfl) h
    · refine ⟨21, kx_L_earliest_1, fun q => ?_⟩
      refine j_astore (pc := 21) C [(6, _), (0, _), (1, _), (2, _), (3, _), (4, _), (5, _)] dL_earliest_21 (by decide) rfl ?_
      refine j_iconst (pc := 23) (v := (2 : Int32)) C dL_earliest_23 rfl ?_
      exact j_iret (pc := 24) C dL_earliest_24 (Nat.le_of_ble_eq_true rfl) (Nat.le_of_ble_eq_true rfl) h
  · refine j_i2l (pc := 12) C dL_earliest_12 ?_
    refine n_last (pc := 13) C dL_earliest_13 h (fun M2 h => ?_)
    refine j_goto (pc := 14) C 25 dL_earliest_14 (by decide) ?_
    refine j_iconst (pc := 25) (v := (0 : Int32)) C dL_earliest_25 rfl ?_
    exact j_iret (pc := 26) C dL_earliest_26 (Nat.le_of_ble_eq_true rfl) (Nat.le_of_ble_eq_true rfl) h
theorem cs_L_60 (C : Cx p l s m args meth c cc nL RL ret E) (htab : c.exceptionTable.toList = tableOf [(0, 10, 13, 24)]) {b : Nat} {y0 : Int32} {y1 : Int32} {P : Int32 → Mm → Prop} {X : String → Mm → Prop} (hR : rm_X7_whyNotMove.frames + 1 ≤ R.frames ∧ 8 + (3 + 11) + rm_X7_whyNotMove.locals ≤ R.locals) (hf : kc + 2 ≤ R.cells ∧ ks + 12 ≤ R.slots) (hst : (st.map fun v => v.category).sum ≤ 8) (d : decode cc pc = .ok (.invokevirtual 60, 3)) (h : zk M b = 7 ∧ w_X7_whyNotMove M b y0 y1 P X) (kx : ∀ F M', X F M' → ∃ tgt, KX RL [(0, 10, 13, 24)] pc F tgt ∧ ∀ q, J p l e R s m args below meth c Q E nL M' (kc + 2) (ks + 12) tgt lo [.ref q]) (kk : ∀ r M', P r M' → J p l e R s m args below meth c Q E nL M' (kc + 2) (ks + 12) (pc + 3) lo (.int r :: st)) : J p l e R s m args below meth c Q E nL M kc ks pc lo (.int y1 :: .int y0 :: .ref b :: st) :=
  j_xW (n := 2) (As := [.int y0, .int y1]) C htab co_X7 rfl wd_966 wd_967 h.1 (c_X7_whyNotMove l E M b y0 y1 P X h.2) ⟨wd_968, wd_965, wd_101, by decide +kernel, by decide +kernel, by decide +kernel⟩ rfl rfl hR hf rfl hst d kx kk
abbrev rm_L_whyNotMove : Room := { frames := 9, cells := 2, slots := 12, locals := 182 }
def w_L_whyNotMove (M : Mm) (x0 : Nat) (x1 : Int32) (x2 : Int32) (x3 : Nat) (P : Int32 → Mm → Prop) : Prop := zk M x0 = 7 ∧ w_X7_whyNotMove M x0 x1 x2 (fun r1 M1 => zk M1 x3 = 11 ∧ vp_in (0 : Int32) (zl M1 x3) ∧ (∀ M2, M2 = sJ M1 x3 (0 : Int32).toNatClampNeg r1.toInt64 → P (0 : Int32) M2)) (fun F1 M1x => (F1 = "java/lang/IndexOutOfBoundsException" ∧ P (1 : Int32) M1x))
theorem kx_L_whyNotMove_0 : KX RL [(0, 10, 13, 24)] 5 "java/lang/IndexOutOfBoundsException" 13 := ⟨[], ⟨0, 10, 13, 24⟩, [], rfl, fun z hz => absurd hz List.not_mem_nil, by decide, by decide, ⟨_, wd_731, nw_745⟩, rfl⟩
set_option maxHeartbeats 4000000 in
set_option maxRecDepth 100000 in
theorem c_L_whyNotMove (l : Launch) (E : EV) (M : Mm) (x0 : Nat) (x1 : Int32) (x2 : Int32) (x3 : Nat) (P : Int32 → Mm → Prop) (h : w_L_whyNotMove M x0 x1 x2 x3 P) : CtIW l E yL_whyNotMove cL_whyNotMove 5 [(0, 10, 13, 24)] rm_L_whyNotMove 2 12 [.ref x0, .int x1, .int x2, .ref x3] M P := by
  refine ctIW_of (by decide +kernel) (Nat.le_of_ble_eq_true rfl) ?_
  intro p e s m args below meth c C htab
  rw [w_L_whyNotMove] at h
  show J p l e rm_L_whyNotMove s m args below meth c (QI below E P args s 2 12) E 5 M 0 0 0 [(0, .ref x0), (1, .int x1), (2, .int x2), (3, .ref x3)] []
  refine j_aload_n (pc := 0) C 3 dL_whyNotMove_0 rfl ?_
  refine j_iconst (pc := 1) (v := (0 : Int32)) C dL_whyNotMove_1 rfl ?_
  refine j_aload_n (pc := 2) C 0 dL_whyNotMove_2 rfl ?_
  refine j_iload_n (pc := 3) C 1 dL_whyNotMove_3 rfl ?_
  refine j_iload_n (pc := 4) C 2 dL_whyNotMove_4 rfl ?_
  refine cs_L_60 (pc := 5) C htab ⟨Nat.le_of_ble_eq_true rfl, Nat.le_of_ble_eq_true rfl⟩ ⟨Nat.le_of_ble_eq_true rfl, Nat.le_of_ble_eq_true rfl⟩ (Nat.le_of_ble_eq_true rfl) dL_whyNotMove_5 h (fun F1 M1x h => ?_) (fun r1 M1 h => ?_)
  · obtain ⟨rfl, h⟩ := h
    refine ⟨13, kx_L_whyNotMove_0, fun q => ?_⟩
    refine j_astore (pc := 13) C [(4, _), (0, _), (1, _), (2, _), (3, _)] dL_whyNotMove_13 (by decide) rfl ?_
    refine j_iconst (pc := 15) (v := (1 : Int32)) C dL_whyNotMove_15 rfl ?_
    exact j_iret (pc := 16) C dL_whyNotMove_16 (Nat.le_of_ble_eq_true rfl) (Nat.le_of_ble_eq_true rfl) h
  · refine j_i2l (pc := 8) C dL_whyNotMove_8 ?_
    refine n_last (pc := 9) C dL_whyNotMove_9 h (fun M2 h => ?_)
    refine j_goto (pc := 10) C 17 dL_whyNotMove_10 (by decide) ?_
    refine j_iconst (pc := 17) (v := (0 : Int32)) C dL_whyNotMove_17 rfl ?_
    exact j_iret (pc := 18) C dL_whyNotMove_18 (Nat.le_of_ble_eq_true rfl) (Nat.le_of_ble_eq_true rfl) h
theorem cs_L_63 (C : Cx p l s m args meth c cc nL RL ret E) (htab : c.exceptionTable.toList = tableOf [(0, 9, 12, 13)]) {b : Nat} {y0 : Int32} {P : Int32 → Mm → Prop} {X : String → Mm → Prop} (hR : rm_X7_costs.frames + 1 ≤ R.frames ∧ 8 + (2 + 11) + rm_X7_costs.locals ≤ R.locals) (hf : kc + 1 ≤ R.cells ∧ ks + 6 ≤ R.slots) (hst : (st.map fun v => v.category).sum ≤ 8) (d : decode cc pc = .ok (.invokevirtual 63, 3)) (h : zk M b = 7 ∧ w_X7_costs M b y0 P X) (kx : ∀ F M', X F M' → ∃ tgt, KX RL [(0, 9, 12, 13)] pc F tgt ∧ ∀ q, J p l e R s m args below meth c Q E nL M' (kc + 1) (ks + 6) tgt lo [.ref q]) (kk : ∀ r M', P r M' → J p l e R s m args below meth c Q E nL M' (kc + 1) (ks + 6) (pc + 3) lo (.int r :: st)) : J p l e R s m args below meth c Q E nL M kc ks pc lo (.int y0 :: .ref b :: st) :=
  j_xW (n := 1) (As := [.int y0]) C htab co_X7 rfl wd_1010 wd_1011 h.1 (c_X7_costs l E M b y0 P X h.2) ⟨wd_1012, wd_1009, wd_101, by decide +kernel, by decide +kernel, by decide +kernel⟩ rfl rfl hR hf rfl hst d kx kk
abbrev rm_L_costs : Room := { frames := 8, cells := 1, slots := 6, locals := 159 }
def w_L_costs (M : Mm) (x0 : Nat) (x1 : Int32) (x2 : Nat) (P : Int32 → Mm → Prop) : Prop := zk M x0 = 7 ∧ w_X7_costs M x0 x1 (fun r1 M1 => zk M1 x2 = 11 ∧ vp_in (0 : Int32) (zl M1 x2) ∧ (∀ M2, M2 = sJ M1 x2 (0 : Int32).toNatClampNeg r1.toInt64 → P (0 : Int32) M2)) (fun F1 M1x => (F1 = "java/lang/IllegalArgumentException" ∧ P (1 : Int32) M1x))
theorem kx_L_costs_0 : KX RL [(0, 9, 12, 13)] 4 "java/lang/IllegalArgumentException" 12 := ⟨[], ⟨0, 9, 12, 13⟩, [], rfl, fun z hz => absurd hz List.not_mem_nil, by decide, by decide, ⟨_, wd_424, nw_434⟩, rfl⟩
set_option maxHeartbeats 4000000 in
set_option maxRecDepth 100000 in
theorem c_L_costs (l : Launch) (E : EV) (M : Mm) (x0 : Nat) (x1 : Int32) (x2 : Nat) (P : Int32 → Mm → Prop) (h : w_L_costs M x0 x1 x2 P) : CtIW l E yL_costs cL_costs 4 [(0, 9, 12, 13)] rm_L_costs 1 6 [.ref x0, .int x1, .ref x2] M P := by
  refine ctIW_of (by decide +kernel) (Nat.le_of_ble_eq_true rfl) ?_
  intro p e s m args below meth c C htab
  rw [w_L_costs] at h
  show J p l e rm_L_costs s m args below meth c (QI below E P args s 1 6) E 4 M 0 0 0 [(0, .ref x0), (1, .int x1), (2, .ref x2)] []
  refine j_aload_n (pc := 0) C 2 dL_costs_0 rfl ?_
  refine j_iconst (pc := 1) (v := (0 : Int32)) C dL_costs_1 rfl ?_
  refine j_aload_n (pc := 2) C 0 dL_costs_2 rfl ?_
  refine j_iload_n (pc := 3) C 1 dL_costs_3 rfl ?_
  refine cs_L_63 (pc := 4) C htab ⟨Nat.le_of_ble_eq_true rfl, Nat.le_of_ble_eq_true rfl⟩ ⟨Nat.le_of_ble_eq_true rfl, Nat.le_of_ble_eq_true rfl⟩ (Nat.le_of_ble_eq_true rfl) dL_costs_4 h (fun F1 M1x h => ?_) (fun r1 M1 h => ?_)
  · obtain ⟨rfl, h⟩ := h
    refine ⟨12, kx_L_costs_0, fun q => ?_⟩
    refine j_astore_n (pc := 12) C [(3, _), (0, _), (1, _), (2, _)] dL_costs_12 (by decide) rfl ?_
    refine j_iconst (pc := 13) (v := (1 : Int32)) C dL_costs_13 rfl ?_
    exact j_iret (pc := 14) C dL_costs_14 (Nat.le_of_ble_eq_true rfl) (Nat.le_of_ble_eq_true rfl) h
  · refine j_i2l (pc := 7) C dL_costs_7 ?_
    refine n_last (pc := 8) C dL_costs_8 h (fun M2 h => ?_)
    refine j_goto (pc := 9) C 15 dL_costs_9 (by decide) ?_
    refine j_iconst (pc := 15) (v := (0 : Int32)) C dL_costs_15 rfl ?_
    exact j_iret (pc := 16) C dL_costs_16 (Nat.le_of_ble_eq_true rfl) (Nat.le_of_ble_eq_true rfl) h
theorem cs_L_66 (C : Cx p l s m args meth c cc nL RL ret E) (htab : c.exceptionTable.toList = tableOf [(0, 14, 17, 24), (0, 14, 21, 13)]) {b : Nat} {y0 : Int32} {y1 : Int32} {y2 : Int32} {y3 : Int32} {P : Int32 → Mm → Prop} {X : String → Mm → Prop} (hR : rm_X7_costsWith.frames + 1 ≤ R.frames ∧ 8 + (5 + 11) + rm_X7_costsWith.locals ≤ R.locals) (hf : kc + 4 ≤ R.cells ∧ ks + 24 ≤ R.slots) (hst : (st.map fun v => v.category).sum ≤ 8) (d : decode cc pc = .ok (.invokevirtual 66, 3)) (h : zk M b = 7 ∧ w_X7_costsWith M b y0 y1 y2 y3 P X) (kx : ∀ F M', X F M' → ∃ tgt, KX RL [(0, 14, 17, 24), (0, 14, 21, 13)] pc F tgt ∧ ∀ q, J p l e R s m args below meth c Q E nL M' (kc + 4) (ks + 24) tgt lo [.ref q]) (kk : ∀ r M', P r M' → J p l e R s m args below meth c Q E nL M' (kc + 4) (ks + 24) (pc + 3) lo (.int r :: st)) : J p l e R s m args below meth c Q E nL M kc ks pc lo (.int y3 :: .int y2 :: .int y1 :: .int y0 :: .ref b :: st) :=
  j_xW (n := 4) (As := [.int y0, .int y1, .int y2, .int y3]) C htab co_X7 rfl wd_1032 wd_1033 h.1 (c_X7_costsWith l E M b y0 y1 y2 y3 P X h.2) ⟨wd_1034, wd_1031, wd_101, by decide +kernel, by decide +kernel, by decide +kernel⟩ rfl rfl hR hf rfl hst d kx kk
abbrev rm_L_costsWith : Room := { frames := 10, cells := 4, slots := 24, locals := 180 }
def w_L_costsWith (M : Mm) (x0 : Nat) (x1 : Int32) (x2 : Int32) (x3 : Int32) (x4 : Int32) (x5 : Nat) (P : Int32 → Mm → Prop) : Prop := zk M x0 = 7 ∧ w_X7_costsWith M x0 x1 x2 x3 x4 (fun r1 M1 => zk M1 x5 = 11 ∧ vp_in (0 : Int32) (zl M1 x5) ∧ (∀ M2, M2 = sJ M1 x5 (0 : Int32).toNatClampNeg r1.toInt64 → P (0 : Int32) M2)) (fun F1 M1x => (F1 = "java/lang/IndexOutOfBoundsException" ∧ P (1 : Int32) M1x) ∨ (F1 = "java/lang/IllegalArgumentException" ∧ P (2 : Int32) M1x))
theorem kx_L_costsWith_0 : KX RL [(0, 14, 17, 24), (0, 14, 21, 13)] 9 "java/lang/IndexOutOfBoundsException" 17 := ⟨[], ⟨0, 14, 17, 24⟩, [⟨0, 14, 21, 13⟩], rfl, fun z hz => absurd hz List.not_mem_nil, by decide, by decide, ⟨_, wd_731, nw_745⟩, rfl⟩
theorem kx_L_costsWith_1 : KX RL [(0, 14, 17, 24), (0, 14, 21, 13)] 9 "java/lang/IllegalArgumentException" 21 := ⟨[⟨0, 14, 17, 24⟩], ⟨0, 14, 21, 13⟩, [], rfl, fun z hz => by
    simp only [List.mem_cons, List.not_mem_nil, or_false] at hz
    rcases hz with rfl
    · exact Or.inr ⟨by decide, _, wd_731, by decide +kernel⟩, by decide, by decide, ⟨_, wd_424, nw_434⟩, rfl⟩
set_option maxHeartbeats 4000000 in
set_option maxRecDepth 100000 in
theorem c_L_costsWith (l : Launch) (E : EV) (M : Mm) (x0 : Nat) (x1 : Int32) (x2 : Int32) (x3 : Int32) (x4 : Int32) (x5 : Nat) (P : Int32 → Mm → Prop) (h : w_L_costsWith M x0 x1 x2 x3 x4 x5 P) : CtIW l E yL_costsWith cL_costsWith 7 [(0, 14, 17, 24), (0, 14, 21, 13)] rm_L_costsWith 4 24 [.ref x0, .int x1, .int x2, .int x3, .int x4, .ref x5] M P := by
  refine ctIW_of (by decide +kernel) (Nat.le_of_ble_eq_true rfl) ?_
  intro p e s m args below meth c C htab
  rw [w_L_costsWith] at h
  show J p l e rm_L_costsWith s m args below meth c (QI below E P args s 4 24) E 7 M 0 0 0 [(0, .ref x0), (1, .int x1), (2, .int x2), (3, .int x3), (4, .int x4), (5, .ref x5)] []
  refine j_aload (pc := 0) C 5 dL_costsWith_0 rfl ?_
  refine j_iconst (pc := 2) (v := (0 : Int32)) C dL_costsWith_2 rfl ?_
  refine j_aload_n (pc := 3) C 0 dL_costsWith_3 rfl ?_
  refine j_iload_n (pc := 4) C 1 dL_costsWith_4 rfl ?_
  refine j_iload_n (pc := 5) C 2 dL_costsWith_5 rfl ?_
  refine j_iload_n (pc := 6) C 3 dL_costsWith_6 rfl ?_
  refine j_iload (pc := 7) C 4 dL_costsWith_7 rfl ?_
  refine cs_L_66 (pc := 9) C htab ⟨Nat.le_of_ble_eq_true rfl, Nat.le_of_ble_eq_true rfl⟩ ⟨Nat.le_of_ble_eq_true rfl, Nat.le_of_ble_eq_true rfl⟩ (Nat.le_of_ble_eq_true rfl) dL_costsWith_9 h (fun F1 M1x h => ?_) (fun r1 M1 h => ?_)
  · rcases h with ⟨rfl, h⟩ | ⟨rfl, h⟩
    · refine ⟨17, kx_L_costsWith_0, fun q => ?_⟩
      refine j_astore (pc := 17) C [(6, _), (0, _), (1, _), (2, _), (3, _), (4, _), (5, _)] dL_costsWith_17 (by decide) rfl ?_
      refine j_iconst (pc := 19) (v := (1 : Int32)) C dL_costsWith_19 rfl ?_
      exact j_iret (pc := 20) C dL_costsWith_20 (Nat.le_of_ble_eq_true rfl) (Nat.le_of_ble_eq_true rfl) h
    · refine ⟨21, kx_L_costsWith_1, fun q => ?_⟩
      refine j_astore (pc := 21) C [(6, _), (0, _), (1, _), (2, _), (3, _), (4, _), (5, _)] dL_costsWith_21 (by decide) rfl ?_
      refine j_iconst (pc := 23) (v := (2 : Int32)) C dL_costsWith_23 rfl ?_
      exact j_iret (pc := 24) C dL_costsWith_24 (Nat.le_of_ble_eq_true rfl) (Nat.le_of_ble_eq_true rfl) h
  · refine j_i2l (pc := 12) C dL_costsWith_12 ?_
    refine n_last (pc := 13) C dL_costsWith_13 h (fun M2 h => ?_)
    refine j_goto (pc := 14) C 25 dL_costsWith_14 (by decide) ?_
    refine j_iconst (pc := 25) (v := (0 : Int32)) C dL_costsWith_25 rfl ?_
    exact j_iret (pc := 26) C dL_costsWith_26 (Nat.le_of_ble_eq_true rfl) (Nat.le_of_ble_eq_true rfl) h
theorem cs_L_69 (C : Cx p l s m args meth c cc nL RL ret E) (htab : c.exceptionTable.toList = tableOf [(0, 12, 15, 24), (0, 12, 19, 72)]) {b : Nat} {y0 : Int32} {y1 : Int32} {y2 : Int32} {P : Int32 → Mm → Prop} {X : String → Mm → Prop} (hR : rm_X7_rehearse.frames + 1 ≤ R.frames ∧ 8 + (4 + 11) + rm_X7_rehearse.locals ≤ R.locals) (hf : kc + 4 ≤ R.cells ∧ ks + 24 ≤ R.slots) (hst : (st.map fun v => v.category).sum ≤ 8) (d : decode cc pc = .ok (.invokevirtual 69, 3)) (h : zk M b = 7 ∧ w_X7_rehearse M b y0 y1 y2 P X) (kx : ∀ F M', X F M' → ∃ tgt, KX RL [(0, 12, 15, 24), (0, 12, 19, 72)] pc F tgt ∧ ∀ q, J p l e R s m args below meth c Q E nL M' (kc + 4) (ks + 24) tgt lo [.ref q]) (kk : ∀ r M', P r M' → J p l e R s m args below meth c Q E nL M' (kc + 4) (ks + 24) (pc + 3) lo (.int r :: st)) : J p l e R s m args below meth c Q E nL M kc ks pc lo (.int y2 :: .int y1 :: .int y0 :: .ref b :: st) :=
  j_xW (n := 3) (As := [.int y0, .int y1, .int y2]) C htab co_X7 rfl wd_1040 wd_1041 h.1 (c_X7_rehearse l E M b y0 y1 y2 P X h.2) ⟨wd_1042, wd_1039, wd_101, by decide +kernel, by decide +kernel, by decide +kernel⟩ rfl rfl hR hf rfl hst d kx kk
abbrev rm_L_rehearse : Room := { frames := 9, cells := 4, slots := 24, locals := 182 }
def w_L_rehearse (M : Mm) (x0 : Nat) (x1 : Int32) (x2 : Int32) (x3 : Int32) (x4 : Nat) (P : Int32 → Mm → Prop) : Prop := zk M x0 = 7 ∧ w_X7_rehearse M x0 x1 x2 x3 (fun r1 M1 => zk M1 x4 = 11 ∧ vp_in (0 : Int32) (zl M1 x4) ∧ (∀ M2, M2 = sJ M1 x4 (0 : Int32).toNatClampNeg r1.toInt64 → P (0 : Int32) M2)) (fun F1 M1x => (F1 = "java/lang/IndexOutOfBoundsException" ∧ P (1 : Int32) M1x) ∨ (F1 = "java/lang/IllegalStateException" ∧ P (2 : Int32) M1x))
theorem kx_L_rehearse_0 : KX RL [(0, 12, 15, 24), (0, 12, 19, 72)] 7 "java/lang/IndexOutOfBoundsException" 15 := ⟨[], ⟨0, 12, 15, 24⟩, [⟨0, 12, 19, 72⟩], rfl, fun z hz => absurd hz List.not_mem_nil, by decide, by decide, ⟨_, wd_731, nw_745⟩, rfl⟩
theorem kx_L_rehearse_1 : KX RL [(0, 12, 15, 24), (0, 12, 19, 72)] 7 "java/lang/IllegalStateException" 19 := ⟨[⟨0, 12, 15, 24⟩], ⟨0, 12, 19, 72⟩, [], rfl, fun z hz => by
    simp only [List.mem_cons, List.not_mem_nil, or_false] at hz
    rcases hz with rfl
    · exact Or.inr ⟨by decide, _, wd_731, by decide +kernel⟩, by decide, by decide, ⟨_, wd_1038, nw_1052⟩, rfl⟩
set_option maxHeartbeats 4000000 in
set_option maxRecDepth 100000 in
theorem c_L_rehearse (l : Launch) (E : EV) (M : Mm) (x0 : Nat) (x1 : Int32) (x2 : Int32) (x3 : Int32) (x4 : Nat) (P : Int32 → Mm → Prop) (h : w_L_rehearse M x0 x1 x2 x3 x4 P) : CtIW l E yL_rehearse cL_rehearse 6 [(0, 12, 15, 24), (0, 12, 19, 72)] rm_L_rehearse 4 24 [.ref x0, .int x1, .int x2, .int x3, .ref x4] M P := by
  refine ctIW_of (by decide +kernel) (Nat.le_of_ble_eq_true rfl) ?_
  intro p e s m args below meth c C htab
  rw [w_L_rehearse] at h
  show J p l e rm_L_rehearse s m args below meth c (QI below E P args s 4 24) E 6 M 0 0 0 [(0, .ref x0), (1, .int x1), (2, .int x2), (3, .int x3), (4, .ref x4)] []
  refine j_aload (pc := 0) C 4 dL_rehearse_0 rfl ?_
  refine j_iconst (pc := 2) (v := (0 : Int32)) C dL_rehearse_2 rfl ?_
  refine j_aload_n (pc := 3) C 0 dL_rehearse_3 rfl ?_
  refine j_iload_n (pc := 4) C 1 dL_rehearse_4 rfl ?_
  refine j_iload_n (pc := 5) C 2 dL_rehearse_5 rfl ?_
  refine j_iload_n (pc := 6) C 3 dL_rehearse_6 rfl ?_
  refine cs_L_69 (pc := 7) C htab ⟨Nat.le_of_ble_eq_true rfl, Nat.le_of_ble_eq_true rfl⟩ ⟨Nat.le_of_ble_eq_true rfl, Nat.le_of_ble_eq_true rfl⟩ (Nat.le_of_ble_eq_true rfl) dL_rehearse_7 h (fun F1 M1x h => ?_) (fun r1 M1 h => ?_)
  · rcases h with ⟨rfl, h⟩ | ⟨rfl, h⟩
    · refine ⟨15, kx_L_rehearse_0, fun q => ?_⟩
      refine j_astore (pc := 15) C [(5, _), (0, _), (1, _), (2, _), (3, _), (4, _)] dL_rehearse_15 (by decide) rfl ?_
      refine j_iconst (pc := 17) (v := (1 : Int32)) C dL_rehearse_17 rfl ?_
      exact j_iret (pc := 18) C dL_rehearse_18 (Nat.le_of_ble_eq_true rfl) (Nat.le_of_ble_eq_true rfl) h
    · refine ⟨19, kx_L_rehearse_1, fun q => ?_⟩
      refine j_astore (pc := 19) C [(5, _), (0, _), (1, _), (2, _), (3, _), (4, _)] dL_rehearse_19 (by decide) rfl ?_
      refine j_iconst (pc := 21) (v := (2 : Int32)) C dL_rehearse_21 rfl ?_
      exact j_iret (pc := 22) C dL_rehearse_22 (Nat.le_of_ble_eq_true rfl) (Nat.le_of_ble_eq_true rfl) h
  · refine j_i2l (pc := 10) C dL_rehearse_10 ?_
    refine n_last (pc := 11) C dL_rehearse_11 h (fun M2 h => ?_)
    refine j_goto (pc := 12) C 23 dL_rehearse_12 (by decide) ?_
    refine j_iconst (pc := 23) (v := (0 : Int32)) C dL_rehearse_23 rfl ?_
    exact j_iret (pc := 24) C dL_rehearse_24 (Nat.le_of_ble_eq_true rfl) (Nat.le_of_ble_eq_true rfl) h
theorem cs_L_74 (C : Cx p l s m args meth c cc nL RL ret E) (htab : c.exceptionTable.toList = tableOf [(0, 12, 15, 24), (0, 12, 19, 13), (0, 12, 23, 72)]) {b : Nat} {y0 : Int32} {y1 : Int32} {y2 : Int32} {P : Int32 → Mm → Prop} {X : String → Mm → Prop} (hR : rm_X7_concert.frames + 1 ≤ R.frames ∧ 8 + (4 + 11) + rm_X7_concert.locals ≤ R.locals) (hf : kc + 5 ≤ R.cells ∧ ks + 30 ≤ R.slots) (hst : (st.map fun v => v.category).sum ≤ 8) (d : decode cc pc = .ok (.invokevirtual 74, 3)) (h : zk M b = 7 ∧ w_X7_concert M b y0 y1 y2 P X) (kx : ∀ F M', X F M' → ∃ tgt, KX RL [(0, 12, 15, 24), (0, 12, 19, 13), (0, 12, 23, 72)] pc F tgt ∧ ∀ q, J p l e R s m args below meth c Q E nL M' (kc + 5) (ks + 30) tgt lo [.ref q]) (kk : ∀ r M', P r M' → J p l e R s m args below meth c Q E nL M' (kc + 5) (ks + 30) (pc + 3) lo (.int r :: st)) : J p l e R s m args below meth c Q E nL M kc ks pc lo (.int y2 :: .int y1 :: .int y0 :: .ref b :: st) :=
  j_xW (n := 3) (As := [.int y0, .int y1, .int y2]) C htab co_X7 rfl wd_1077 wd_1078 h.1 (c_X7_concert l E M b y0 y1 y2 P X h.2) ⟨wd_1079, wd_1076, wd_101, by decide +kernel, by decide +kernel, by decide +kernel⟩ rfl rfl hR hf rfl hst d kx kk
abbrev rm_L_concert : Room := { frames := 10, cells := 5, slots := 30, locals := 182 }
def w_L_concert (M : Mm) (x0 : Nat) (x1 : Int32) (x2 : Int32) (x3 : Int32) (x4 : Nat) (P : Int32 → Mm → Prop) : Prop := zk M x0 = 7 ∧ w_X7_concert M x0 x1 x2 x3 (fun r1 M1 => zk M1 x4 = 11 ∧ vp_in (0 : Int32) (zl M1 x4) ∧ (∀ M2, M2 = sJ M1 x4 (0 : Int32).toNatClampNeg r1.toInt64 → P (0 : Int32) M2)) (fun F1 M1x => (F1 = "java/lang/IndexOutOfBoundsException" ∧ P (1 : Int32) M1x) ∨ (F1 = "java/lang/IllegalArgumentException" ∧ P (2 : Int32) M1x) ∨ (F1 = "java/lang/IllegalStateException" ∧ P (3 : Int32) M1x))
theorem kx_L_concert_0 : KX RL [(0, 12, 15, 24), (0, 12, 19, 13), (0, 12, 23, 72)] 7 "java/lang/IndexOutOfBoundsException" 15 := ⟨[], ⟨0, 12, 15, 24⟩, [⟨0, 12, 19, 13⟩, ⟨0, 12, 23, 72⟩], rfl, fun z hz => absurd hz List.not_mem_nil, by decide, by decide, ⟨_, wd_731, nw_745⟩, rfl⟩
theorem kx_L_concert_1 : KX RL [(0, 12, 15, 24), (0, 12, 19, 13), (0, 12, 23, 72)] 7 "java/lang/IllegalArgumentException" 19 := ⟨[⟨0, 12, 15, 24⟩], ⟨0, 12, 19, 13⟩, [⟨0, 12, 23, 72⟩], rfl, fun z hz => by
    simp only [List.mem_cons, List.not_mem_nil, or_false] at hz
    rcases hz with rfl
    · exact Or.inr ⟨by decide, _, wd_731, by decide +kernel⟩, by decide, by decide, ⟨_, wd_424, nw_434⟩, rfl⟩
theorem kx_L_concert_2 : KX RL [(0, 12, 15, 24), (0, 12, 19, 13), (0, 12, 23, 72)] 7 "java/lang/IllegalStateException" 23 := ⟨[⟨0, 12, 15, 24⟩, ⟨0, 12, 19, 13⟩], ⟨0, 12, 23, 72⟩, [], rfl, fun z hz => by
    simp only [List.mem_cons, List.not_mem_nil, or_false] at hz
    rcases hz with rfl | rfl
    · exact Or.inr ⟨by decide, _, wd_731, by decide +kernel⟩
    · exact Or.inr ⟨by decide, _, wd_424, by decide +kernel⟩, by decide, by decide, ⟨_, wd_1038, nw_1052⟩, rfl⟩
set_option maxHeartbeats 4000000 in
set_option maxRecDepth 100000 in
theorem c_L_concert (l : Launch) (E : EV) (M : Mm) (x0 : Nat) (x1 : Int32) (x2 : Int32) (x3 : Int32) (x4 : Nat) (P : Int32 → Mm → Prop) (h : w_L_concert M x0 x1 x2 x3 x4 P) : CtIW l E yL_concert cL_concert 6 [(0, 12, 15, 24), (0, 12, 19, 13), (0, 12, 23, 72)] rm_L_concert 5 30 [.ref x0, .int x1, .int x2, .int x3, .ref x4] M P := by
  refine ctIW_of (by decide +kernel) (Nat.le_of_ble_eq_true rfl) ?_
  intro p e s m args below meth c C htab
  rw [w_L_concert] at h
  show J p l e rm_L_concert s m args below meth c (QI below E P args s 5 30) E 6 M 0 0 0 [(0, .ref x0), (1, .int x1), (2, .int x2), (3, .int x3), (4, .ref x4)] []
  refine j_aload (pc := 0) C 4 dL_concert_0 rfl ?_
  refine j_iconst (pc := 2) (v := (0 : Int32)) C dL_concert_2 rfl ?_
  refine j_aload_n (pc := 3) C 0 dL_concert_3 rfl ?_
  refine j_iload_n (pc := 4) C 1 dL_concert_4 rfl ?_
  refine j_iload_n (pc := 5) C 2 dL_concert_5 rfl ?_
  refine j_iload_n (pc := 6) C 3 dL_concert_6 rfl ?_
  refine cs_L_74 (pc := 7) C htab ⟨Nat.le_of_ble_eq_true rfl, Nat.le_of_ble_eq_true rfl⟩ ⟨Nat.le_of_ble_eq_true rfl, Nat.le_of_ble_eq_true rfl⟩ (Nat.le_of_ble_eq_true rfl) dL_concert_7 h (fun F1 M1x h => ?_) (fun r1 M1 h => ?_)
  · rcases h with ⟨rfl, h⟩ | ⟨rfl, h⟩ | ⟨rfl, h⟩
    · refine ⟨15, kx_L_concert_0, fun q => ?_⟩
      refine j_astore (pc := 15) C [(5, _), (0, _), (1, _), (2, _), (3, _), (4, _)] dL_concert_15 (by decide) rfl ?_
      refine j_iconst (pc := 17) (v := (1 : Int32)) C dL_concert_17 rfl ?_
      exact j_iret (pc := 18) C dL_concert_18 (Nat.le_of_ble_eq_true rfl) (Nat.le_of_ble_eq_true rfl) h
    · refine ⟨19, kx_L_concert_1, fun q => ?_⟩
      refine j_astore (pc := 19) C [(5, _), (0, _), (1, _), (2, _), (3, _), (4, _)] dL_concert_19 (by decide) rfl ?_
      refine j_iconst (pc := 21) (v := (2 : Int32)) C dL_concert_21 rfl ?_
      exact j_iret (pc := 22) C dL_concert_22 (Nat.le_of_ble_eq_true rfl) (Nat.le_of_ble_eq_true rfl) h
    · refine ⟨23, kx_L_concert_2, fun q => ?_⟩
      refine j_astore (pc := 23) C [(5, _), (0, _), (1, _), (2, _), (3, _), (4, _)] dL_concert_23 (by decide) rfl ?_
      refine j_iconst (pc := 25) (v := (3 : Int32)) C dL_concert_25 rfl ?_
      exact j_iret (pc := 26) C dL_concert_26 (Nat.le_of_ble_eq_true rfl) (Nat.le_of_ble_eq_true rfl) h
  · refine j_i2l (pc := 10) C dL_concert_10 ?_
    refine n_last (pc := 11) C dL_concert_11 h (fun M2 h => ?_)
    refine j_goto (pc := 12) C 27 dL_concert_12 (by decide) ?_
    refine j_iconst (pc := 27) (v := (0 : Int32)) C dL_concert_27 rfl ?_
    exact j_iret (pc := 28) C dL_concert_28 (Nat.le_of_ble_eq_true rfl) (Nat.le_of_ble_eq_true rfl) h
theorem cs_L_77 (C : Cx p l s m args meth c cc nL RL ret E) (htab : c.exceptionTable.toList = tableOf [(0, 9, 12, 24), (0, 9, 15, 72)]) {b : Nat} {y0 : Int32} {P : Int32 → Mm → Prop} {X : String → Mm → Prop} (hR : rm_X7_cancel.frames + 1 ≤ R.frames ∧ 8 + (2 + 11) + rm_X7_cancel.locals ≤ R.locals) (hf : kc + 2 ≤ R.cells ∧ ks + 12 ≤ R.slots) (hst : (st.map fun v => v.category).sum ≤ 8) (d : decode cc pc = .ok (.invokevirtual 77, 3)) (h : zk M b = 7 ∧ w_X7_cancel M b y0 P X) (kx : ∀ F M', X F M' → ∃ tgt, KX RL [(0, 9, 12, 24), (0, 9, 15, 72)] pc F tgt ∧ ∀ q, J p l e R s m args below meth c Q E nL M' (kc + 2) (ks + 12) tgt lo [.ref q]) (kk : ∀ r M', P r M' → J p l e R s m args below meth c Q E nL M' (kc + 2) (ks + 12) (pc + 3) lo (.int r :: st)) : J p l e R s m args below meth c Q E nL M kc ks pc lo (.int y0 :: .ref b :: st) :=
  j_xW (n := 1) (As := [.int y0]) C htab co_X7 rfl wd_1084 wd_1085 h.1 (c_X7_cancel l E M b y0 P X h.2) ⟨wd_1086, wd_1083, wd_101, by decide +kernel, by decide +kernel, by decide +kernel⟩ rfl rfl hR hf rfl hst d kx kk
abbrev rm_L_cancel : Room := { frames := 9, cells := 2, slots := 12, locals := 152 }
def w_L_cancel (M : Mm) (x0 : Nat) (x1 : Int32) (x2 : Nat) (P : Int32 → Mm → Prop) : Prop := zk M x0 = 7 ∧ w_X7_cancel M x0 x1 (fun r1 M1 => zk M1 x2 = 11 ∧ vp_in (0 : Int32) (zl M1 x2) ∧ (∀ M2, M2 = sJ M1 x2 (0 : Int32).toNatClampNeg r1.toInt64 → P (0 : Int32) M2)) (fun F1 M1x => (F1 = "java/lang/IndexOutOfBoundsException" ∧ P (1 : Int32) M1x) ∨ (F1 = "java/lang/IllegalStateException" ∧ P (2 : Int32) M1x))
theorem kx_L_cancel_0 : KX RL [(0, 9, 12, 24), (0, 9, 15, 72)] 4 "java/lang/IndexOutOfBoundsException" 12 := ⟨[], ⟨0, 9, 12, 24⟩, [⟨0, 9, 15, 72⟩], rfl, fun z hz => absurd hz List.not_mem_nil, by decide, by decide, ⟨_, wd_731, nw_745⟩, rfl⟩
theorem kx_L_cancel_1 : KX RL [(0, 9, 12, 24), (0, 9, 15, 72)] 4 "java/lang/IllegalStateException" 15 := ⟨[⟨0, 9, 12, 24⟩], ⟨0, 9, 15, 72⟩, [], rfl, fun z hz => by
    simp only [List.mem_cons, List.not_mem_nil, or_false] at hz
    rcases hz with rfl
    · exact Or.inr ⟨by decide, _, wd_731, by decide +kernel⟩, by decide, by decide, ⟨_, wd_1038, nw_1052⟩, rfl⟩
set_option maxHeartbeats 4000000 in
set_option maxRecDepth 100000 in
theorem c_L_cancel (l : Launch) (E : EV) (M : Mm) (x0 : Nat) (x1 : Int32) (x2 : Nat) (P : Int32 → Mm → Prop) (h : w_L_cancel M x0 x1 x2 P) : CtIW l E yL_cancel cL_cancel 4 [(0, 9, 12, 24), (0, 9, 15, 72)] rm_L_cancel 2 12 [.ref x0, .int x1, .ref x2] M P := by
  refine ctIW_of (by decide +kernel) (Nat.le_of_ble_eq_true rfl) ?_
  intro p e s m args below meth c C htab
  rw [w_L_cancel] at h
  show J p l e rm_L_cancel s m args below meth c (QI below E P args s 2 12) E 4 M 0 0 0 [(0, .ref x0), (1, .int x1), (2, .ref x2)] []
  refine j_aload_n (pc := 0) C 2 dL_cancel_0 rfl ?_
  refine j_iconst (pc := 1) (v := (0 : Int32)) C dL_cancel_1 rfl ?_
  refine j_aload_n (pc := 2) C 0 dL_cancel_2 rfl ?_
  refine j_iload_n (pc := 3) C 1 dL_cancel_3 rfl ?_
  refine cs_L_77 (pc := 4) C htab ⟨Nat.le_of_ble_eq_true rfl, Nat.le_of_ble_eq_true rfl⟩ ⟨Nat.le_of_ble_eq_true rfl, Nat.le_of_ble_eq_true rfl⟩ (Nat.le_of_ble_eq_true rfl) dL_cancel_4 h (fun F1 M1x h => ?_) (fun r1 M1 h => ?_)
  · rcases h with ⟨rfl, h⟩ | ⟨rfl, h⟩
    · refine ⟨12, kx_L_cancel_0, fun q => ?_⟩
      refine j_astore_n (pc := 12) C [(3, _), (0, _), (1, _), (2, _)] dL_cancel_12 (by decide) rfl ?_
      refine j_iconst (pc := 13) (v := (1 : Int32)) C dL_cancel_13 rfl ?_
      exact j_iret (pc := 14) C dL_cancel_14 (Nat.le_of_ble_eq_true rfl) (Nat.le_of_ble_eq_true rfl) h
    · refine ⟨15, kx_L_cancel_1, fun q => ?_⟩
      refine j_astore_n (pc := 15) C [(3, _), (0, _), (1, _), (2, _)] dL_cancel_15 (by decide) rfl ?_
      refine j_iconst (pc := 16) (v := (2 : Int32)) C dL_cancel_16 rfl ?_
      exact j_iret (pc := 17) C dL_cancel_17 (Nat.le_of_ble_eq_true rfl) (Nat.le_of_ble_eq_true rfl) h
  · refine j_i2l (pc := 7) C dL_cancel_7 ?_
    refine n_last (pc := 8) C dL_cancel_8 h (fun M2 h => ?_)
    refine j_goto (pc := 9) C 18 dL_cancel_9 (by decide) ?_
    refine j_iconst (pc := 18) (v := (0 : Int32)) C dL_cancel_18 rfl ?_
    exact j_iret (pc := 19) C dL_cancel_19 (Nat.le_of_ble_eq_true rfl) (Nat.le_of_ble_eq_true rfl) h
theorem cs_L_80 (C : Cx p l s m args meth c cc nL RL ret E) (htab : c.exceptionTable.toList = tableOf [(0, 10, 13, 24), (0, 10, 17, 72)]) {b : Nat} {y0 : Int32} {y1 : Int32} {P : Int32 → Mm → Prop} {X : String → Mm → Prop} (hR : rm_X7_move.frames + 1 ≤ R.frames ∧ 8 + (4 + 11) + rm_X7_move.locals ≤ R.locals) (hf : kc + 3 ≤ R.cells ∧ ks + 18 ≤ R.slots) (hst : (st.map fun v => v.category).sum ≤ 8) (d : decode cc pc = .ok (.invokevirtual 80, 3)) (h : zk M b = 7 ∧ w_X7_move M b y0 y1 P X) (kx : ∀ F M', X F M' → ∃ tgt, KX RL [(0, 10, 13, 24), (0, 10, 17, 72)] pc F tgt ∧ ∀ q, J p l e R s m args below meth c Q E nL M' (kc + 3) (ks + 18) tgt lo [.ref q]) (kk : ∀ r M', P r M' → J p l e R s m args below meth c Q E nL M' (kc + 3) (ks + 18) (pc + 3) lo (.int r :: st)) : J p l e R s m args below meth c Q E nL M kc ks pc lo (.int y1 :: .int y0 :: .ref b :: st) :=
  j_xW (n := 2) (As := [.int y0, .int y1]) C htab co_X7 rfl wd_1091 wd_1092 h.1 (c_X7_move l E M b y0 y1 P X h.2) ⟨wd_1093, wd_1090, wd_101, by decide +kernel, by decide +kernel, by decide +kernel⟩ rfl rfl hR hf rfl hst d kx kk
abbrev rm_L_move : Room := { frames := 9, cells := 3, slots := 18, locals := 183 }
def w_L_move (M : Mm) (x0 : Nat) (x1 : Int32) (x2 : Int32) (x3 : Nat) (P : Int32 → Mm → Prop) : Prop := zk M x0 = 7 ∧ w_X7_move M x0 x1 x2 (fun r1 M1 => zk M1 x3 = 11 ∧ vp_in (0 : Int32) (zl M1 x3) ∧ (∀ M2, M2 = sJ M1 x3 (0 : Int32).toNatClampNeg r1.toInt64 → P (0 : Int32) M2)) (fun F1 M1x => (F1 = "java/lang/IndexOutOfBoundsException" ∧ P (1 : Int32) M1x) ∨ (F1 = "java/lang/IllegalStateException" ∧ P (2 : Int32) M1x))
theorem kx_L_move_0 : KX RL [(0, 10, 13, 24), (0, 10, 17, 72)] 5 "java/lang/IndexOutOfBoundsException" 13 := ⟨[], ⟨0, 10, 13, 24⟩, [⟨0, 10, 17, 72⟩], rfl, fun z hz => absurd hz List.not_mem_nil, by decide, by decide, ⟨_, wd_731, nw_745⟩, rfl⟩
theorem kx_L_move_1 : KX RL [(0, 10, 13, 24), (0, 10, 17, 72)] 5 "java/lang/IllegalStateException" 17 := ⟨[⟨0, 10, 13, 24⟩], ⟨0, 10, 17, 72⟩, [], rfl, fun z hz => by
    simp only [List.mem_cons, List.not_mem_nil, or_false] at hz
    rcases hz with rfl
    · exact Or.inr ⟨by decide, _, wd_731, by decide +kernel⟩, by decide, by decide, ⟨_, wd_1038, nw_1052⟩, rfl⟩
set_option maxHeartbeats 4000000 in
set_option maxRecDepth 100000 in
theorem c_L_move (l : Launch) (E : EV) (M : Mm) (x0 : Nat) (x1 : Int32) (x2 : Int32) (x3 : Nat) (P : Int32 → Mm → Prop) (h : w_L_move M x0 x1 x2 x3 P) : CtIW l E yL_move cL_move 5 [(0, 10, 13, 24), (0, 10, 17, 72)] rm_L_move 3 18 [.ref x0, .int x1, .int x2, .ref x3] M P := by
  refine ctIW_of (by decide +kernel) (Nat.le_of_ble_eq_true rfl) ?_
  intro p e s m args below meth c C htab
  rw [w_L_move] at h
  show J p l e rm_L_move s m args below meth c (QI below E P args s 3 18) E 5 M 0 0 0 [(0, .ref x0), (1, .int x1), (2, .int x2), (3, .ref x3)] []
  refine j_aload_n (pc := 0) C 3 dL_move_0 rfl ?_
  refine j_iconst (pc := 1) (v := (0 : Int32)) C dL_move_1 rfl ?_
  refine j_aload_n (pc := 2) C 0 dL_move_2 rfl ?_
  refine j_iload_n (pc := 3) C 1 dL_move_3 rfl ?_
  refine j_iload_n (pc := 4) C 2 dL_move_4 rfl ?_
  refine cs_L_80 (pc := 5) C htab ⟨Nat.le_of_ble_eq_true rfl, Nat.le_of_ble_eq_true rfl⟩ ⟨Nat.le_of_ble_eq_true rfl, Nat.le_of_ble_eq_true rfl⟩ (Nat.le_of_ble_eq_true rfl) dL_move_5 h (fun F1 M1x h => ?_) (fun r1 M1 h => ?_)
  · rcases h with ⟨rfl, h⟩ | ⟨rfl, h⟩
    · refine ⟨13, kx_L_move_0, fun q => ?_⟩
      refine j_astore (pc := 13) C [(4, _), (0, _), (1, _), (2, _), (3, _)] dL_move_13 (by decide) rfl ?_
      refine j_iconst (pc := 15) (v := (1 : Int32)) C dL_move_15 rfl ?_
      exact j_iret (pc := 16) C dL_move_16 (Nat.le_of_ble_eq_true rfl) (Nat.le_of_ble_eq_true rfl) h
    · refine ⟨17, kx_L_move_1, fun q => ?_⟩
      refine j_astore (pc := 17) C [(4, _), (0, _), (1, _), (2, _), (3, _)] dL_move_17 (by decide) rfl ?_
      refine j_iconst (pc := 19) (v := (2 : Int32)) C dL_move_19 rfl ?_
      exact j_iret (pc := 20) C dL_move_20 (Nat.le_of_ble_eq_true rfl) (Nat.le_of_ble_eq_true rfl) h
  · refine j_i2l (pc := 8) C dL_move_8 ?_
    refine n_last (pc := 9) C dL_move_9 h (fun M2 h => ?_)
    refine j_goto (pc := 10) C 21 dL_move_10 (by decide) ?_
    refine j_iconst (pc := 21) (v := (0 : Int32)) C dL_move_21 rfl ?_
    exact j_iret (pc := 22) C dL_move_22 (Nat.le_of_ble_eq_true rfl) (Nat.le_of_ble_eq_true rfl) h
theorem cs_L_83 (C : Cx p l s m args meth c cc nL RL ret E) (htab : c.exceptionTable.toList = tableOf [(0, 9, 12, 24)]) {b : Nat} {y0 : Int32} {P : Int32 → Mm → Prop} {X : String → Mm → Prop} (hR : rm_X7_recast.frames + 1 ≤ R.frames ∧ 8 + (2 + 11) + rm_X7_recast.locals ≤ R.locals) (hf : kc + 1 ≤ R.cells ∧ ks + 6 ≤ R.slots) (hst : (st.map fun v => v.category).sum ≤ 8) (d : decode cc pc = .ok (.invokevirtual 83, 3)) (h : zk M b = 7 ∧ w_X7_recast M b y0 P X) (kx : ∀ F M', X F M' → ∃ tgt, KX RL [(0, 9, 12, 24)] pc F tgt ∧ ∀ q, J p l e R s m args below meth c Q E nL M' (kc + 1) (ks + 6) tgt lo [.ref q]) (kk : ∀ r M', P r M' → J p l e R s m args below meth c Q E nL M' (kc + 1) (ks + 6) (pc + 3) lo (.int r :: st)) : J p l e R s m args below meth c Q E nL M kc ks pc lo (.int y0 :: .ref b :: st) :=
  j_xW (n := 1) (As := [.int y0]) C htab co_X7 rfl wd_1098 wd_1099 h.1 (c_X7_recast l E M b y0 P X h.2) ⟨wd_1100, wd_1097, wd_101, by decide +kernel, by decide +kernel, by decide +kernel⟩ rfl rfl hR hf rfl hst d kx kk
abbrev rm_L_recast : Room := { frames := 9, cells := 1, slots := 6, locals := 152 }
def w_L_recast (M : Mm) (x0 : Nat) (x1 : Int32) (x2 : Nat) (P : Int32 → Mm → Prop) : Prop := zk M x0 = 7 ∧ w_X7_recast M x0 x1 (fun r1 M1 => zk M1 x2 = 11 ∧ vp_in (0 : Int32) (zl M1 x2) ∧ (∀ M2, M2 = sJ M1 x2 (0 : Int32).toNatClampNeg r1.toInt64 → P (0 : Int32) M2)) (fun F1 M1x => (F1 = "java/lang/IndexOutOfBoundsException" ∧ P (1 : Int32) M1x))
theorem kx_L_recast_0 : KX RL [(0, 9, 12, 24)] 4 "java/lang/IndexOutOfBoundsException" 12 := ⟨[], ⟨0, 9, 12, 24⟩, [], rfl, fun z hz => absurd hz List.not_mem_nil, by decide, by decide, ⟨_, wd_731, nw_745⟩, rfl⟩
set_option maxHeartbeats 4000000 in
set_option maxRecDepth 100000 in
theorem c_L_recast (l : Launch) (E : EV) (M : Mm) (x0 : Nat) (x1 : Int32) (x2 : Nat) (P : Int32 → Mm → Prop) (h : w_L_recast M x0 x1 x2 P) : CtIW l E yL_recast cL_recast 4 [(0, 9, 12, 24)] rm_L_recast 1 6 [.ref x0, .int x1, .ref x2] M P := by
  refine ctIW_of (by decide +kernel) (Nat.le_of_ble_eq_true rfl) ?_
  intro p e s m args below meth c C htab
  rw [w_L_recast] at h
  show J p l e rm_L_recast s m args below meth c (QI below E P args s 1 6) E 4 M 0 0 0 [(0, .ref x0), (1, .int x1), (2, .ref x2)] []
  refine j_aload_n (pc := 0) C 2 dL_recast_0 rfl ?_
  refine j_iconst (pc := 1) (v := (0 : Int32)) C dL_recast_1 rfl ?_
  refine j_aload_n (pc := 2) C 0 dL_recast_2 rfl ?_
  refine j_iload_n (pc := 3) C 1 dL_recast_3 rfl ?_
  refine cs_L_83 (pc := 4) C htab ⟨Nat.le_of_ble_eq_true rfl, Nat.le_of_ble_eq_true rfl⟩ ⟨Nat.le_of_ble_eq_true rfl, Nat.le_of_ble_eq_true rfl⟩ (Nat.le_of_ble_eq_true rfl) dL_recast_4 h (fun F1 M1x h => ?_) (fun r1 M1 h => ?_)
  · obtain ⟨rfl, h⟩ := h
    refine ⟨12, kx_L_recast_0, fun q => ?_⟩
    refine j_astore_n (pc := 12) C [(3, _), (0, _), (1, _), (2, _)] dL_recast_12 (by decide) rfl ?_
    refine j_iconst (pc := 13) (v := (1 : Int32)) C dL_recast_13 rfl ?_
    exact j_iret (pc := 14) C dL_recast_14 (Nat.le_of_ble_eq_true rfl) (Nat.le_of_ble_eq_true rfl) h
  · refine j_i2l (pc := 7) C dL_recast_7 ?_
    refine n_last (pc := 8) C dL_recast_8 h (fun M2 h => ?_)
    refine j_goto (pc := 9) C 15 dL_recast_9 (by decide) ?_
    refine j_iconst (pc := 15) (v := (0 : Int32)) C dL_recast_15 rfl ?_
    exact j_iret (pc := 16) C dL_recast_16 (Nat.le_of_ble_eq_true rfl) (Nat.le_of_ble_eq_true rfl) h
theorem cs_L_86 (C : Cx p l s m args meth c cc nL RL ret E) (htab : c.exceptionTable.toList = tableOf [(0, 10, 13, 24), (0, 10, 17, 13)]) {b : Nat} {y0 : Int32} {y1 : Int32} {P : Int32 → Mm → Prop} {X : String → Mm → Prop} (hR : rm_X7_setContract.frames + 1 ≤ R.frames ∧ 8 + (4 + 11) + rm_X7_setContract.locals ≤ R.locals) (hf : kc + 2 ≤ R.cells ∧ ks + 12 ≤ R.slots) (hst : (st.map fun v => v.category).sum ≤ 8) (d : decode cc pc = .ok (.invokevirtual 86, 3)) (h : zk M b = 7 ∧ w_X7_setContract M b y0 y1 P X) (kx : ∀ F M', X F M' → ∃ tgt, KX RL [(0, 10, 13, 24), (0, 10, 17, 13)] pc F tgt ∧ ∀ q, J p l e R s m args below meth c Q E nL M' (kc + 2) (ks + 12) tgt lo [.ref q]) (kk : ∀ r M', P r M' → J p l e R s m args below meth c Q E nL M' (kc + 2) (ks + 12) (pc + 3) lo (.int r :: st)) : J p l e R s m args below meth c Q E nL M kc ks pc lo (.int y1 :: .int y0 :: .ref b :: st) :=
  j_xW (n := 2) (As := [.int y0, .int y1]) C htab co_X7 rfl wd_1106 wd_1107 h.1 (c_X7_setContract l E M b y0 y1 P X h.2) ⟨wd_1108, wd_1105, wd_101, by decide +kernel, by decide +kernel, by decide +kernel⟩ rfl rfl hR hf rfl hst d kx kk
abbrev rm_L_setContract : Room := { frames := 9, cells := 2, slots := 12, locals := 154 }
def w_L_setContract (M : Mm) (x0 : Nat) (x1 : Int32) (x2 : Int32) (x3 : Nat) (P : Int32 → Mm → Prop) : Prop := zk M x0 = 7 ∧ w_X7_setContract M x0 x1 x2 (fun r1 M1 => zk M1 x3 = 11 ∧ vp_in (0 : Int32) (zl M1 x3) ∧ (∀ M2, M2 = sJ M1 x3 (0 : Int32).toNatClampNeg r1.toInt64 → P (0 : Int32) M2)) (fun F1 M1x => (F1 = "java/lang/IndexOutOfBoundsException" ∧ P (1 : Int32) M1x) ∨ (F1 = "java/lang/IllegalArgumentException" ∧ P (2 : Int32) M1x))
theorem kx_L_setContract_0 : KX RL [(0, 10, 13, 24), (0, 10, 17, 13)] 5 "java/lang/IndexOutOfBoundsException" 13 := ⟨[], ⟨0, 10, 13, 24⟩, [⟨0, 10, 17, 13⟩], rfl, fun z hz => absurd hz List.not_mem_nil, by decide, by decide, ⟨_, wd_731, nw_745⟩, rfl⟩
theorem kx_L_setContract_1 : KX RL [(0, 10, 13, 24), (0, 10, 17, 13)] 5 "java/lang/IllegalArgumentException" 17 := ⟨[⟨0, 10, 13, 24⟩], ⟨0, 10, 17, 13⟩, [], rfl, fun z hz => by
    simp only [List.mem_cons, List.not_mem_nil, or_false] at hz
    rcases hz with rfl
    · exact Or.inr ⟨by decide, _, wd_731, by decide +kernel⟩, by decide, by decide, ⟨_, wd_424, nw_434⟩, rfl⟩
set_option maxHeartbeats 4000000 in
set_option maxRecDepth 100000 in
theorem c_L_setContract (l : Launch) (E : EV) (M : Mm) (x0 : Nat) (x1 : Int32) (x2 : Int32) (x3 : Nat) (P : Int32 → Mm → Prop) (h : w_L_setContract M x0 x1 x2 x3 P) : CtIW l E yL_setContract cL_setContract 5 [(0, 10, 13, 24), (0, 10, 17, 13)] rm_L_setContract 2 12 [.ref x0, .int x1, .int x2, .ref x3] M P := by
  refine ctIW_of (by decide +kernel) (Nat.le_of_ble_eq_true rfl) ?_
  intro p e s m args below meth c C htab
  rw [w_L_setContract] at h
  show J p l e rm_L_setContract s m args below meth c (QI below E P args s 2 12) E 5 M 0 0 0 [(0, .ref x0), (1, .int x1), (2, .int x2), (3, .ref x3)] []
  refine j_aload_n (pc := 0) C 3 dL_setContract_0 rfl ?_
  refine j_iconst (pc := 1) (v := (0 : Int32)) C dL_setContract_1 rfl ?_
  refine j_aload_n (pc := 2) C 0 dL_setContract_2 rfl ?_
  refine j_iload_n (pc := 3) C 1 dL_setContract_3 rfl ?_
  refine j_iload_n (pc := 4) C 2 dL_setContract_4 rfl ?_
  refine cs_L_86 (pc := 5) C htab ⟨Nat.le_of_ble_eq_true rfl, Nat.le_of_ble_eq_true rfl⟩ ⟨Nat.le_of_ble_eq_true rfl, Nat.le_of_ble_eq_true rfl⟩ (Nat.le_of_ble_eq_true rfl) dL_setContract_5 h (fun F1 M1x h => ?_) (fun r1 M1 h => ?_)
  · rcases h with ⟨rfl, h⟩ | ⟨rfl, h⟩
    · refine ⟨13, kx_L_setContract_0, fun q => ?_⟩
      refine j_astore (pc := 13) C [(4, _), (0, _), (1, _), (2, _), (3, _)] dL_setContract_13 (by decide) rfl ?_
      refine j_iconst (pc := 15) (v := (1 : Int32)) C dL_setContract_15 rfl ?_
      exact j_iret (pc := 16) C dL_setContract_16 (Nat.le_of_ble_eq_true rfl) (Nat.le_of_ble_eq_true rfl) h
    · refine ⟨17, kx_L_setContract_1, fun q => ?_⟩
      refine j_astore (pc := 17) C [(4, _), (0, _), (1, _), (2, _), (3, _)] dL_setContract_17 (by decide) rfl ?_
      refine j_iconst (pc := 19) (v := (2 : Int32)) C dL_setContract_19 rfl ?_
      exact j_iret (pc := 20) C dL_setContract_20 (Nat.le_of_ble_eq_true rfl) (Nat.le_of_ble_eq_true rfl) h
  · refine j_i2l (pc := 8) C dL_setContract_8 ?_
    refine n_last (pc := 9) C dL_setContract_9 h (fun M2 h => ?_)
    refine j_goto (pc := 10) C 21 dL_setContract_10 (by decide) ?_
    refine j_iconst (pc := 21) (v := (0 : Int32)) C dL_setContract_21 rfl ?_
    exact j_iret (pc := 22) C dL_setContract_22 (Nat.le_of_ble_eq_true rfl) (Nat.le_of_ble_eq_true rfl) h
theorem cs_L_89 (C : Cx p l s m args meth c cc nL RL ret E) (htab : c.exceptionTable.toList = tableOf [(0, 16, 19, 24)]) {b : Nat} {y0 : Int32} {P : Int32 → Mm → Prop} {X : String → Mm → Prop} (hR : rm_X7_saveSnapshot.frames + 1 ≤ R.frames ∧ 8 + (3 + 11) + rm_X7_saveSnapshot.locals ≤ R.locals) (hf : kc + 1 ≤ R.cells ∧ ks + 6 ≤ R.slots) (hst : (st.map fun v => v.category).sum ≤ 8) (d : decode cc pc = .ok (.invokevirtual 89, 3)) (h : zk M b = 7 ∧ w_X7_saveSnapshot M b y0 P X) (kx : ∀ F M', X F M' → ∃ tgt, KX RL [(0, 16, 19, 24)] pc F tgt ∧ ∀ q, J p l e R s m args below meth c Q E nL M' (kc + 1) (ks + 6) tgt lo [.ref q]) (kk : ∀ r M', P r M' → J p l e R s m args below meth c Q E nL M' (kc + 1) (ks + 6) (pc + 3) lo (.int r :: st)) : J p l e R s m args below meth c Q E nL M kc ks pc lo (.int y0 :: .ref b :: st) :=
  j_xW (n := 1) (As := [.int y0]) C htab co_X7 rfl wd_1113 wd_1114 h.1 (c_X7_saveSnapshot l E M b y0 P X h.2) ⟨wd_1115, wd_1112, wd_101, by decide +kernel, by decide +kernel, by decide +kernel⟩ rfl rfl hR hf rfl hst d kx kk
abbrev rm_L_saveSnapshot : Room := { frames := 8, cells := 1, slots := 6, locals := 132 }
def w_L_saveSnapshot (M : Mm) (x0 : Nat) (x1 : Int32) (x2 : Nat) (P : Int32 → Mm → Prop) : Prop := zk M x0 = 7 ∧ w_X7_saveSnapshot M x0 x1 (fun r1 M1 => (if r1 = 0 then zk M1 x2 = 11 ∧ vp_in (0 : Int32) (zl M1 x2) ∧ (∀ M2, M2 = sJ M1 x2 (0 : Int32).toNatClampNeg (0 : Int64) → P (0 : Int32) M2) else zk M1 x2 = 11 ∧ vp_in (0 : Int32) (zl M1 x2) ∧ (∀ M3, M3 = sJ M1 x2 (0 : Int32).toNatClampNeg (1 : Int64) → P (0 : Int32) M3))) (fun F1 M1x => (F1 = "java/lang/IndexOutOfBoundsException" ∧ P (1 : Int32) M1x))
theorem kx_L_saveSnapshot_0 : KX RL [(0, 16, 19, 24)] 4 "java/lang/IndexOutOfBoundsException" 19 := ⟨[], ⟨0, 16, 19, 24⟩, [], rfl, fun z hz => absurd hz List.not_mem_nil, by decide, by decide, ⟨_, wd_731, nw_745⟩, rfl⟩
set_option maxHeartbeats 4000000 in
set_option maxRecDepth 100000 in
theorem c_L_saveSnapshot (l : Launch) (E : EV) (M : Mm) (x0 : Nat) (x1 : Int32) (x2 : Nat) (P : Int32 → Mm → Prop) (h : w_L_saveSnapshot M x0 x1 x2 P) : CtIW l E yL_saveSnapshot cL_saveSnapshot 4 [(0, 16, 19, 24)] rm_L_saveSnapshot 1 6 [.ref x0, .int x1, .ref x2] M P := by
  refine ctIW_of (by decide +kernel) (Nat.le_of_ble_eq_true rfl) ?_
  intro p e s m args below meth c C htab
  rw [w_L_saveSnapshot] at h
  show J p l e rm_L_saveSnapshot s m args below meth c (QI below E P args s 1 6) E 4 M 0 0 0 [(0, .ref x0), (1, .int x1), (2, .ref x2)] []
  refine j_aload_n (pc := 0) C 2 dL_saveSnapshot_0 rfl ?_
  refine j_iconst (pc := 1) (v := (0 : Int32)) C dL_saveSnapshot_1 rfl ?_
  refine j_aload_n (pc := 2) C 0 dL_saveSnapshot_2 rfl ?_
  refine j_iload_n (pc := 3) C 1 dL_saveSnapshot_3 rfl ?_
  refine cs_L_89 (pc := 4) C htab ⟨Nat.le_of_ble_eq_true rfl, Nat.le_of_ble_eq_true rfl⟩ ⟨Nat.le_of_ble_eq_true rfl, Nat.le_of_ble_eq_true rfl⟩ (Nat.le_of_ble_eq_true rfl) dL_saveSnapshot_4 h (fun F1 M1x h => ?_) (fun r1 M1 h => ?_)
  · obtain ⟨rfl, h⟩ := h
    refine ⟨19, kx_L_saveSnapshot_0, fun q => ?_⟩
    refine j_astore_n (pc := 19) C [(3, _), (0, _), (1, _), (2, _)] dL_saveSnapshot_19 (by decide) rfl ?_
    refine j_iconst (pc := 20) (v := (1 : Int32)) C dL_saveSnapshot_20 rfl ?_
    exact j_iret (pc := 21) C dL_saveSnapshot_21 (Nat.le_of_ble_eq_true rfl) (Nat.le_of_ble_eq_true rfl) h
  · refine j_if_eq (pc := 7) C 14 dL_saveSnapshot_7 (by decide) h (fun h => ?_) (fun h => ?_)
    · refine j_lconst (pc := 14) (v := (0 : Int64)) C dL_saveSnapshot_14 rfl ?_
      refine n_last (pc := 15) C dL_saveSnapshot_15 h (fun M2 h => ?_)
      refine j_goto (pc := 16) C 22 dL_saveSnapshot_16 (by decide) ?_
      refine j_iconst (pc := 22) (v := (0 : Int32)) C dL_saveSnapshot_22 rfl ?_
      exact j_iret (pc := 23) C dL_saveSnapshot_23 (Nat.le_of_ble_eq_true rfl) (Nat.le_of_ble_eq_true rfl) h
    · refine j_lconst (pc := 10) (v := (1 : Int64)) C dL_saveSnapshot_10 rfl ?_
      refine j_goto (pc := 11) C 15 dL_saveSnapshot_11 (by decide) ?_
      refine n_last (pc := 15) C dL_saveSnapshot_15 h (fun M3 h => ?_)
      refine j_goto (pc := 16) C 22 dL_saveSnapshot_16 (by decide) ?_
      refine j_iconst (pc := 22) (v := (0 : Int32)) C dL_saveSnapshot_22 rfl ?_
      exact j_iret (pc := 23) C dL_saveSnapshot_23 (Nat.le_of_ble_eq_true rfl) (Nat.le_of_ble_eq_true rfl) h
theorem cs_L_93 (C : Cx p l s m args meth c cc nL RL ret E) (htab : c.exceptionTable.toList = tableOf [(0, 9, 12, 24), (0, 9, 15, 72)]) {b : Nat} {y0 : Int32} {P : Int32 → Mm → Prop} {X : String → Mm → Prop} (hR : rm_X7_restoreSnapshot.frames + 1 ≤ R.frames ∧ 8 + (2 + 11) + rm_X7_restoreSnapshot.locals ≤ R.locals) (hf : kc + 2 ≤ R.cells ∧ ks + 12 ≤ R.slots) (hst : (st.map fun v => v.category).sum ≤ 8) (d : decode cc pc = .ok (.invokevirtual 93, 3)) (h : zk M b = 7 ∧ w_X7_restoreSnapshot M b y0 P X) (kx : ∀ F M', X F M' → ∃ tgt, KX RL [(0, 9, 12, 24), (0, 9, 15, 72)] pc F tgt ∧ ∀ q, J p l e R s m args below meth c Q E nL M' (kc + 2) (ks + 12) tgt lo [.ref q]) (kk : ∀ r M', P r M' → J p l e R s m args below meth c Q E nL M' (kc + 2) (ks + 12) (pc + 3) lo (.int r :: st)) : J p l e R s m args below meth c Q E nL M kc ks pc lo (.int y0 :: .ref b :: st) :=
  j_xW (n := 1) (As := [.int y0]) C htab co_X7 rfl wd_1120 wd_1121 h.1 (c_X7_restoreSnapshot l E M b y0 P X h.2) ⟨wd_1122, wd_1119, wd_101, by decide +kernel, by decide +kernel, by decide +kernel⟩ rfl rfl hR hf rfl hst d kx kk
abbrev rm_L_restoreSnapshot : Room := { frames := 8, cells := 2, slots := 12, locals := 131 }
def w_L_restoreSnapshot (M : Mm) (x0 : Nat) (x1 : Int32) (x2 : Nat) (P : Int32 → Mm → Prop) : Prop := zk M x0 = 7 ∧ w_X7_restoreSnapshot M x0 x1 (fun r1 M1 => zk M1 x2 = 11 ∧ vp_in (0 : Int32) (zl M1 x2) ∧ (∀ M2, M2 = sJ M1 x2 (0 : Int32).toNatClampNeg r1.toInt64 → P (0 : Int32) M2)) (fun F1 M1x => (F1 = "java/lang/IndexOutOfBoundsException" ∧ P (1 : Int32) M1x) ∨ (F1 = "java/lang/IllegalStateException" ∧ P (2 : Int32) M1x))
theorem kx_L_restoreSnapshot_0 : KX RL [(0, 9, 12, 24), (0, 9, 15, 72)] 4 "java/lang/IndexOutOfBoundsException" 12 := ⟨[], ⟨0, 9, 12, 24⟩, [⟨0, 9, 15, 72⟩], rfl, fun z hz => absurd hz List.not_mem_nil, by decide, by decide, ⟨_, wd_731, nw_745⟩, rfl⟩
theorem kx_L_restoreSnapshot_1 : KX RL [(0, 9, 12, 24), (0, 9, 15, 72)] 4 "java/lang/IllegalStateException" 15 := ⟨[⟨0, 9, 12, 24⟩], ⟨0, 9, 15, 72⟩, [], rfl, fun z hz => by
    simp only [List.mem_cons, List.not_mem_nil, or_false] at hz
    rcases hz with rfl
    · exact Or.inr ⟨by decide, _, wd_731, by decide +kernel⟩, by decide, by decide, ⟨_, wd_1038, nw_1052⟩, rfl⟩
set_option maxHeartbeats 4000000 in
set_option maxRecDepth 100000 in
theorem c_L_restoreSnapshot (l : Launch) (E : EV) (M : Mm) (x0 : Nat) (x1 : Int32) (x2 : Nat) (P : Int32 → Mm → Prop) (h : w_L_restoreSnapshot M x0 x1 x2 P) : CtIW l E yL_restoreSnapshot cL_restoreSnapshot 4 [(0, 9, 12, 24), (0, 9, 15, 72)] rm_L_restoreSnapshot 2 12 [.ref x0, .int x1, .ref x2] M P := by
  refine ctIW_of (by decide +kernel) (Nat.le_of_ble_eq_true rfl) ?_
  intro p e s m args below meth c C htab
  rw [w_L_restoreSnapshot] at h
  show J p l e rm_L_restoreSnapshot s m args below meth c (QI below E P args s 2 12) E 4 M 0 0 0 [(0, .ref x0), (1, .int x1), (2, .ref x2)] []
  refine j_aload_n (pc := 0) C 2 dL_restoreSnapshot_0 rfl ?_
  refine j_iconst (pc := 1) (v := (0 : Int32)) C dL_restoreSnapshot_1 rfl ?_
  refine j_aload_n (pc := 2) C 0 dL_restoreSnapshot_2 rfl ?_
  refine j_iload_n (pc := 3) C 1 dL_restoreSnapshot_3 rfl ?_
  refine cs_L_93 (pc := 4) C htab ⟨Nat.le_of_ble_eq_true rfl, Nat.le_of_ble_eq_true rfl⟩ ⟨Nat.le_of_ble_eq_true rfl, Nat.le_of_ble_eq_true rfl⟩ (Nat.le_of_ble_eq_true rfl) dL_restoreSnapshot_4 h (fun F1 M1x h => ?_) (fun r1 M1 h => ?_)
  · rcases h with ⟨rfl, h⟩ | ⟨rfl, h⟩
    · refine ⟨12, kx_L_restoreSnapshot_0, fun q => ?_⟩
      refine j_astore_n (pc := 12) C [(3, _), (0, _), (1, _), (2, _)] dL_restoreSnapshot_12 (by decide) rfl ?_
      refine j_iconst (pc := 13) (v := (1 : Int32)) C dL_restoreSnapshot_13 rfl ?_
      exact j_iret (pc := 14) C dL_restoreSnapshot_14 (Nat.le_of_ble_eq_true rfl) (Nat.le_of_ble_eq_true rfl) h
    · refine ⟨15, kx_L_restoreSnapshot_1, fun q => ?_⟩
      refine j_astore_n (pc := 15) C [(3, _), (0, _), (1, _), (2, _)] dL_restoreSnapshot_15 (by decide) rfl ?_
      refine j_iconst (pc := 16) (v := (2 : Int32)) C dL_restoreSnapshot_16 rfl ?_
      exact j_iret (pc := 17) C dL_restoreSnapshot_17 (Nat.le_of_ble_eq_true rfl) (Nat.le_of_ble_eq_true rfl) h
  · refine j_i2l (pc := 7) C dL_restoreSnapshot_7 ?_
    refine n_last (pc := 8) C dL_restoreSnapshot_8 h (fun M2 h => ?_)
    refine j_goto (pc := 9) C 18 dL_restoreSnapshot_9 (by decide) ?_
    refine j_iconst (pc := 18) (v := (0 : Int32)) C dL_restoreSnapshot_18 rfl ?_
    exact j_iret (pc := 19) C dL_restoreSnapshot_19 (Nat.le_of_ble_eq_true rfl) (Nat.le_of_ble_eq_true rfl) h
end GW27
