/-! written by a program (wip/whole/gen.py) out of the decode rows and the tables: walks of L -/

section GW28
variable {p : Program} {l : Launch} {e : Env} {R : Room} {s : State} {m : MethodId} {args : Array Value} {below : List Frame} {meth : Method} {c : Code} {Q : State → Prop} {cc : ByteArray} {nL : Nat} {ret : Option FieldType} {E : EV} {M : Mm} {kc ks pc : Nat} {lo : List (Nat × Value)} {st : List Value}
theorem cs_L_96 (C : Cx p l s m args meth c cc nL RL ret E) {b : Nat} {P : Mm → Prop} (hR : rm_X7_init.frames + 1 ≤ R.frames ∧ 8 + (2 + 11) + rm_X7_init.locals ≤ R.locals) (hf : kc + 162 ≤ R.cells ∧ ks + 12569 ≤ R.slots) (hst : (st.map fun v => v.category).sum ≤ 8) (d : decode cc pc = .ok (.invokespecial 96, 3)) (h : w_X7_init M b P) (kk : ∀ M', P M' → J p l e R s m args below meth c Q E nL M' (kc + 162) (ks + 12569) (pc + 3) lo st) : J p l e R s m args below meth c Q E nL M kc ks pc lo (.ref b :: st) :=
  j_cI_V (n := 0) (As := []) C rfl wd_126 (c_X7_init l E M b P h) ⟨wd_127, wd_125, wd_101, by decide +kernel, by decide +kernel, by decide +kernel⟩ rfl rfl hR hf rfl hst d kk
theorem cs_L_99 (C : Cx p l s m args meth c cc nL RL ret E) {b : Nat} {P : Mm → Prop} (hR : rm_X8_init.frames + 1 ≤ R.frames ∧ 8 + (1 + 11) + rm_X8_init.locals ≤ R.locals) (hf : kc + 13 ≤ R.cells ∧ ks + 10572 ≤ R.slots) (hst : (st.map fun v => v.category).sum ≤ 8) (d : decode cc pc = .ok (.invokespecial 99, 3)) (h : w_X8_init M b P) (kk : ∀ M', P M' → J p l e R s m args below meth c Q E nL M' (kc + 13) (ks + 10572) (pc + 3) lo st) : J p l e R s m args below meth c Q E nL M kc ks pc lo (.ref b :: st) :=
  j_cI_V (n := 0) (As := []) C rfl wd_1126 (c_X8_init l E M b P h) ⟨wd_1127, wd_1125, wd_106, by decide +kernel, by decide +kernel, by decide +kernel⟩ rfl rfl hR hf rfl hst d kk
theorem cs_L_100 (C : Cx p l s m args meth c cc nL RL ret E) {b : Nat} {y0 : Int32} {y1 : Int32} {y2 : Int32} {y3 : Int32} {y4 : Int32} {P : Int32 → Mm → Prop} (hR : rm_X7_append.frames + 1 ≤ R.frames ∧ 8 + (6 + 11) + rm_X7_append.locals ≤ R.locals) (hf : kc ≤ R.cells ∧ ks ≤ R.slots) (hst : (st.map fun v => v.category).sum ≤ 8) (d : decode cc pc = .ok (.invokevirtual 100, 3)) (h : zk M b = 7 ∧ w_X7_append M b y0 y1 y2 y3 y4 P) (kk : ∀ r M', P r M' → J p l e R s m args below meth c Q E nL M' kc ks (pc + 3) lo (.int r :: st)) : J p l e R s m args below meth c Q E nL M kc ks pc lo (.int y4 :: .int y3 :: .int y2 :: .int y1 :: .int y0 :: .ref b :: st) :=
  j_cV_I (n := 5) (As := [.int y0, .int y1, .int y2, .int y3, .int y4]) C co_X7 rfl wd_353 wd_354 h.1 (c_X7_append l E M b y0 y1 y2 y3 y4 P h.2) ⟨wd_355, wd_352, wd_101, by decide +kernel, by decide +kernel, by decide +kernel⟩ rfl rfl hR hf rfl hst d kk
theorem cs_L_104 (C : Cx p l s m args meth c cc nL RL ret E) {b : Nat} {y0 : Int32} {y1 : Int32} {y2 : Int32} {y3 : Int32} {y4 : Int32} {P : Int32 → Mm → Prop} (hR : rm_X8_append.frames + 1 ≤ R.frames ∧ 8 + (6 + 11) + rm_X8_append.locals ≤ R.locals) (hf : kc ≤ R.cells ∧ ks ≤ R.slots) (hst : (st.map fun v => v.category).sum ≤ 8) (d : decode cc pc = .ok (.invokevirtual 104, 3)) (h : zk M b = 8 ∧ w_X8_append M b y0 y1 y2 y3 y4 P) (kk : ∀ r M', P r M' → J p l e R s m args below meth c Q E nL M' kc ks (pc + 3) lo (.int r :: st)) : J p l e R s m args below meth c Q E nL M kc ks pc lo (.int y4 :: .int y3 :: .int y2 :: .int y1 :: .int y0 :: .ref b :: st) :=
  j_cV_I (n := 5) (As := [.int y0, .int y1, .int y2, .int y3, .int y4]) C co_X8 rfl wd_1219 wd_1220 h.1 (c_X8_append l E M b y0 y1 y2 y3 y4 P h.2) ⟨wd_1221, wd_1218, wd_106, by decide +kernel, by decide +kernel, by decide +kernel⟩ rfl rfl hR hf rfl hst d kk
theorem cs_L_105 (C : Cx p l s m args meth c cc nL RL ret E) {y0 : Nat} {y1 : Int32} {y2 : Nat} {P : Int32 → Mm → Prop} (hR : rm_L_parse.frames + 1 ≤ R.frames ∧ 8 + (4 + 11) + rm_L_parse.locals ≤ R.locals) (hf : kc + 3 ≤ R.cells ∧ ks + 17 ≤ R.slots) (hst : (st.map fun v => v.category).sum ≤ 8) (d : decode cc pc = .ok (.invokestatic 105, 3)) (h : w_L_parse M y0 y1 y2 P) (kk : ∀ r M', P r M' → J p l e R s m args below meth c Q E nL M' (kc + 3) (ks + 17) (pc + 3) lo (.int r :: st)) : J p l e R s m args below meth c Q E nL M kc ks pc lo (.ref y2 :: .int y1 :: .ref y0 :: st) :=
  j_cSW (n := 3) (As := [.ref y0, .int y1, .ref y2]) C (c_L_parse l E M y0 y1 y2 P h) wd_423 wd_421 wd_100 wd_422 ⟨by decide +kernel, by decide +kernel, by decide +kernel⟩ rfl rfl hR hf rfl hst d kk
theorem cs_L_110 (C : Cx p l s m args meth c cc nL RL ret E) {b : Nat} {y0 : Int32} {P : Int32 → Mm → Prop} (hR : rm_X8_parse.frames + 1 ≤ R.frames ∧ 8 + (3 + 11) + rm_X8_parse.locals ≤ R.locals) (hf : kc ≤ R.cells ∧ ks ≤ R.slots) (hst : (st.map fun v => v.category).sum ≤ 8) (d : decode cc pc = .ok (.invokevirtual 110, 3)) (h : zk M b = 8 ∧ w_X8_parse M b y0 P) (kk : ∀ r M', P r M' → J p l e R s m args below meth c Q E nL M' kc ks (pc + 3) lo (.int r :: st)) : J p l e R s m args below meth c Q E nL M kc ks pc lo (.int y0 :: .ref b :: st) :=
  j_cV_I (n := 1) (As := [.int y0]) C co_X8 rfl wd_1227 wd_1228 h.1 (c_X8_parse l E M b y0 P h.2) ⟨wd_1229, wd_1226, wd_106, by decide +kernel, by decide +kernel, by decide +kernel⟩ rfl rfl hR hf rfl hst d kk
theorem cs_L_111 (C : Cx p l s m args meth c cc nL RL ret E) {b : Nat} {P : Int32 → Mm → Prop} (hR : rm_X8_thrown.frames + 1 ≤ R.frames ∧ 8 + (1 + 11) + rm_X8_thrown.locals ≤ R.locals) (hf : kc ≤ R.cells ∧ ks ≤ R.slots) (hst : (st.map fun v => v.category).sum ≤ 8) (d : decode cc pc = .ok (.invokevirtual 111, 3)) (h : zk M b = 8 ∧ w_X8_thrown M b P) (kk : ∀ r M', P r M' → J p l e R s m args below meth c Q E nL M' kc ks (pc + 3) lo (.int r :: st)) : J p l e R s m args below meth c Q E nL M kc ks pc lo (.ref b :: st) :=
  j_cV_I (n := 0) (As := []) C co_X8 rfl wd_1215 wd_1216 h.1 (c_X8_thrown l E M b P h.2) ⟨wd_1217, wd_1214, wd_106, by decide +kernel, by decide +kernel, by decide +kernel⟩ rfl rfl hR hf rfl hst d kk
theorem cs_L_115 (C : Cx p l s m args meth c cc nL RL ret E) {b : Nat} {P : Int32 → Mm → Prop} (hR : rm_X7_errorPosition.frames + 1 ≤ R.frames ∧ 8 + (1 + 11) + rm_X7_errorPosition.locals ≤ R.locals) (hf : kc ≤ R.cells ∧ ks ≤ R.slots) (hst : (st.map fun v => v.category).sum ≤ 8) (d : decode cc pc = .ok (.invokevirtual 115, 3)) (h : zk M b = 7 ∧ w_X7_errorPosition M b P) (kk : ∀ r M', P r M' → J p l e R s m args below meth c Q E nL M' kc ks (pc + 3) lo (.int r :: st)) : J p l e R s m args below meth c Q E nL M kc ks pc lo (.ref b :: st) :=
  j_cV_I (n := 0) (As := []) C co_X7 rfl wd_361 wd_362 h.1 (c_X7_errorPosition l E M b P h.2) ⟨wd_363, wd_360, wd_101, by decide +kernel, by decide +kernel, by decide +kernel⟩ rfl rfl hR hf rfl hst d kk
theorem cs_L_118 (C : Cx p l s m args meth c cc nL RL ret E) {b : Nat} {P : Int32 → Mm → Prop} (hR : rm_X8_errorPosition.frames + 1 ≤ R.frames ∧ 8 + (1 + 11) + rm_X8_errorPosition.locals ≤ R.locals) (hf : kc ≤ R.cells ∧ ks ≤ R.slots) (hst : (st.map fun v => v.category).sum ≤ 8) (d : decode cc pc = .ok (.invokevirtual 118, 3)) (h : zk M b = 8 ∧ w_X8_errorPosition M b P) (kk : ∀ r M', P r M' → J p l e R s m args below meth c Q E nL M' kc ks (pc + 3) lo (.int r :: st)) : J p l e R s m args below meth c Q E nL M kc ks pc lo (.ref b :: st) :=
  j_cV_I (n := 0) (As := []) C co_X8 rfl wd_1325 wd_1326 h.1 (c_X8_errorPosition l E M b P h.2) ⟨wd_1327, wd_1324, wd_106, by decide +kernel, by decide +kernel, by decide +kernel⟩ rfl rfl hR hf rfl hst d kk
theorem cs_L_119 (C : Cx p l s m args meth c cc nL RL ret E) {y0 : Nat} {y1 : Int32} {y2 : Nat} {P : Int32 → Mm → Prop} (hR : rm_L_size.frames + 1 ≤ R.frames ∧ 8 + (4 + 11) + rm_L_size.locals ≤ R.locals) (hf : kc + 1 ≤ R.cells ∧ ks + 6 ≤ R.slots) (hst : (st.map fun v => v.category).sum ≤ 8) (d : decode cc pc = .ok (.invokestatic 119, 3)) (h : w_L_size M y0 y1 y2 P) (kk : ∀ r M', P r M' → J p l e R s m args below meth c Q E nL M' (kc + 1) (ks + 6) (pc + 3) lo (.int r :: st)) : J p l e R s m args below meth c Q E nL M kc ks pc lo (.ref y2 :: .int y1 :: .ref y0 :: st) :=
  j_cSW (n := 3) (As := [.ref y0, .int y1, .ref y2]) C (c_L_size l E M y0 y1 y2 P h) wd_710 wd_708 wd_100 wd_709 ⟨by decide +kernel, by decide +kernel, by decide +kernel⟩ rfl rfl hR hf rfl hst d kk
theorem cs_L_121 (C : Cx p l s m args meth c cc nL RL ret E) {b : Nat} {y0 : Int32} {P : Int32 → Mm → Prop} (hR : rm_X8_size.frames + 1 ≤ R.frames ∧ 8 + (2 + 11) + rm_X8_size.locals ≤ R.locals) (hf : kc ≤ R.cells ∧ ks ≤ R.slots) (hst : (st.map fun v => v.category).sum ≤ 8) (d : decode cc pc = .ok (.invokevirtual 121, 3)) (h : zk M b = 8 ∧ w_X8_size M b y0 P) (kk : ∀ r M', P r M' → J p l e R s m args below meth c Q E nL M' kc ks (pc + 3) lo (.int r :: st)) : J p l e R s m args below meth c Q E nL M kc ks pc lo (.int y0 :: .ref b :: st) :=
  j_cV_I (n := 1) (As := [.int y0]) C co_X8 rfl wd_1329 wd_1330 h.1 (c_X8_size l E M b y0 P h.2) ⟨wd_1331, wd_1328, wd_106, by decide +kernel, by decide +kernel, by decide +kernel⟩ rfl rfl hR hf rfl hst d kk
theorem cs_L_122 (C : Cx p l s m args meth c cc nL RL ret E) {y0 : Nat} {y1 : Int32} {y2 : Nat} {P : Int32 → Mm → Prop} (hR : rm_L_find.frames + 1 ≤ R.frames ∧ 8 + (4 + 11) + rm_L_find.locals ≤ R.locals) (hf : kc + 1 ≤ R.cells ∧ ks + 6 ≤ R.slots) (hst : (st.map fun v => v.category).sum ≤ 8) (d : decode cc pc = .ok (.invokestatic 122, 3)) (h : w_L_find M y0 y1 y2 P) (kk : ∀ r M', P r M' → J p l e R s m args below meth c Q E nL M' (kc + 1) (ks + 6) (pc + 3) lo (.int r :: st)) : J p l e R s m args below meth c Q E nL M kc ks pc lo (.ref y2 :: .int y1 :: .ref y0 :: st) :=
  j_cSW (n := 3) (As := [.ref y0, .int y1, .ref y2]) C (c_L_find l E M y0 y1 y2 P h) wd_717 wd_715 wd_100 wd_716 ⟨by decide +kernel, by decide +kernel, by decide +kernel⟩ rfl rfl hR hf rfl hst d kk
theorem cs_L_124 (C : Cx p l s m args meth c cc nL RL ret E) {b : Nat} {y0 : Int32} {P : Int32 → Mm → Prop} (hR : rm_X8_find.frames + 1 ≤ R.frames ∧ 8 + (3 + 11) + rm_X8_find.locals ≤ R.locals) (hf : kc ≤ R.cells ∧ ks ≤ R.slots) (hst : (st.map fun v => v.category).sum ≤ 8) (d : decode cc pc = .ok (.invokevirtual 124, 3)) (h : zk M b = 8 ∧ w_X8_find M b y0 P) (kk : ∀ r M', P r M' → J p l e R s m args below meth c Q E nL M' kc ks (pc + 3) lo (.int r :: st)) : J p l e R s m args below meth c Q E nL M kc ks pc lo (.int y0 :: .ref b :: st) :=
  j_cV_I (n := 1) (As := [.int y0]) C co_X8 rfl wd_1333 wd_1334 h.1 (c_X8_find l E M b y0 P h.2) ⟨wd_1335, wd_1332, wd_106, by decide +kernel, by decide +kernel, by decide +kernel⟩ rfl rfl hR hf rfl hst d kk
theorem cs_L_125 (C : Cx p l s m args meth c cc nL RL ret E) {y0 : Nat} {y1 : Int32} {y2 : Nat} {P : Int32 → Mm → Prop} (hR : rm_L_turn.frames + 1 ≤ R.frames ∧ 8 + (4 + 11) + rm_L_turn.locals ≤ R.locals) (hf : kc + 1 ≤ R.cells ∧ ks + 6 ≤ R.slots) (hst : (st.map fun v => v.category).sum ≤ 8) (d : decode cc pc = .ok (.invokestatic 125, 3)) (h : w_L_turn M y0 y1 y2 P) (kk : ∀ r M', P r M' → J p l e R s m args below meth c Q E nL M' (kc + 1) (ks + 6) (pc + 3) lo (.int r :: st)) : J p l e R s m args below meth c Q E nL M kc ks pc lo (.ref y2 :: .int y1 :: .ref y0 :: st) :=
  j_cSW (n := 3) (As := [.ref y0, .int y1, .ref y2]) C (c_L_turn l E M y0 y1 y2 P h) wd_730 wd_728 wd_100 wd_729 ⟨by decide +kernel, by decide +kernel, by decide +kernel⟩ rfl rfl hR hf rfl hst d kk
theorem cs_L_127 (C : Cx p l s m args meth c cc nL RL ret E) {b : Nat} {y0 : Int32} {P : Int32 → Mm → Prop} (hR : rm_X8_turn.frames + 1 ≤ R.frames ∧ 8 + (2 + 11) + rm_X8_turn.locals ≤ R.locals) (hf : kc ≤ R.cells ∧ ks ≤ R.slots) (hst : (st.map fun v => v.category).sum ≤ 8) (d : decode cc pc = .ok (.invokevirtual 127, 3)) (h : zk M b = 8 ∧ w_X8_turn M b y0 P) (kk : ∀ r M', P r M' → J p l e R s m args below meth c Q E nL M' kc ks (pc + 3) lo (.int r :: st)) : J p l e R s m args below meth c Q E nL M kc ks pc lo (.int y0 :: .ref b :: st) :=
  j_cV_I (n := 1) (As := [.int y0]) C co_X8 rfl wd_1337 wd_1338 h.1 (c_X8_turn l E M b y0 P h.2) ⟨wd_1339, wd_1336, wd_106, by decide +kernel, by decide +kernel, by decide +kernel⟩ rfl rfl hR hf rfl hst d kk
theorem cs_L_128 (C : Cx p l s m args meth c cc nL RL ret E) {y0 : Nat} {y1 : Int32} {y2 : Int32} {y3 : Nat} {P : Int32 → Mm → Prop} (hR : rm_L_player.frames + 1 ≤ R.frames ∧ 8 + (5 + 11) + rm_L_player.locals ≤ R.locals) (hf : kc + 2 ≤ R.cells ∧ ks + 12 ≤ R.slots) (hst : (st.map fun v => v.category).sum ≤ 8) (d : decode cc pc = .ok (.invokestatic 128, 3)) (h : w_L_player M y0 y1 y2 y3 P) (kk : ∀ r M', P r M' → J p l e R s m args below meth c Q E nL M' (kc + 2) (ks + 12) (pc + 3) lo (.int r :: st)) : J p l e R s m args below meth c Q E nL M kc ks pc lo (.ref y3 :: .int y2 :: .int y1 :: .ref y0 :: st) :=
  j_cSW (n := 4) (As := [.ref y0, .int y1, .int y2, .ref y3]) C (c_L_player l E M y0 y1 y2 y3 P h) wd_760 wd_758 wd_100 wd_759 ⟨by decide +kernel, by decide +kernel, by decide +kernel⟩ rfl rfl hR hf rfl hst d kk
theorem cs_L_131 (C : Cx p l s m args meth c cc nL RL ret E) {b : Nat} {y0 : Int32} {y1 : Int32} {P : Int32 → Mm → Prop} (hR : rm_X8_player.frames + 1 ≤ R.frames ∧ 8 + (3 + 11) + rm_X8_player.locals ≤ R.locals) (hf : kc ≤ R.cells ∧ ks ≤ R.slots) (hst : (st.map fun v => v.category).sum ≤ 8) (d : decode cc pc = .ok (.invokevirtual 131, 3)) (h : zk M b = 8 ∧ w_X8_player M b y0 y1 P) (kk : ∀ r M', P r M' → J p l e R s m args below meth c Q E nL M' kc ks (pc + 3) lo (.int r :: st)) : J p l e R s m args below meth c Q E nL M kc ks pc lo (.int y1 :: .int y0 :: .ref b :: st) :=
  j_cV_I (n := 2) (As := [.int y0, .int y1]) C co_X8 rfl wd_1345 wd_1346 h.1 (c_X8_player l E M b y0 y1 P h.2) ⟨wd_1347, wd_1344, wd_106, by decide +kernel, by decide +kernel, by decide +kernel⟩ rfl rfl hR hf rfl hst d kk
theorem cs_L_132 (C : Cx p l s m args meth c cc nL RL ret E) {y0 : Nat} {y1 : Int32} {y2 : Int32} {y3 : Nat} {P : Int32 → Mm → Prop} (hR : rm_L_isFree.frames + 1 ≤ R.frames ∧ 8 + (5 + 11) + rm_L_isFree.locals ≤ R.locals) (hf : kc + 2 ≤ R.cells ∧ ks + 12 ≤ R.slots) (hst : (st.map fun v => v.category).sum ≤ 8) (d : decode cc pc = .ok (.invokestatic 132, 3)) (h : w_L_isFree M y0 y1 y2 y3 P) (kk : ∀ r M', P r M' → J p l e R s m args below meth c Q E nL M' (kc + 2) (ks + 12) (pc + 3) lo (.int r :: st)) : J p l e R s m args below meth c Q E nL M kc ks pc lo (.ref y3 :: .int y2 :: .int y1 :: .ref y0 :: st) :=
  j_cSW (n := 4) (As := [.ref y0, .int y1, .int y2, .ref y3]) C (c_L_isFree l E M y0 y1 y2 y3 P h) wd_796 wd_794 wd_100 wd_795 ⟨by decide +kernel, by decide +kernel, by decide +kernel⟩ rfl rfl hR hf rfl hst d kk
theorem cs_L_134 (C : Cx p l s m args meth c cc nL RL ret E) {b : Nat} {y0 : Int32} {y1 : Int32} {P : Int32 → Mm → Prop} (hR : rm_X8_isFree.frames + 1 ≤ R.frames ∧ 8 + (3 + 11) + rm_X8_isFree.locals ≤ R.locals) (hf : kc ≤ R.cells ∧ ks ≤ R.slots) (hst : (st.map fun v => v.category).sum ≤ 8) (d : decode cc pc = .ok (.invokevirtual 134, 3)) (h : zk M b = 8 ∧ w_X8_isFree M b y0 y1 P) (kk : ∀ r M', P r M' → J p l e R s m args below meth c Q E nL M' kc ks (pc + 3) lo (.int r :: st)) : J p l e R s m args below meth c Q E nL M kc ks pc lo (.int y1 :: .int y0 :: .ref b :: st) :=
  j_cV_I (n := 2) (As := [.int y0, .int y1]) C co_X8 rfl wd_1401 wd_1402 h.1 (c_X8_isFree l E M b y0 y1 P h.2) ⟨wd_1403, wd_1400, wd_106, by decide +kernel, by decide +kernel, by decide +kernel⟩ rfl rfl hR hf rfl hst d kk
theorem cs_L_135 (C : Cx p l s m args meth c cc nL RL ret E) {y0 : Nat} {y1 : Int32} {y2 : Int32} {y3 : Nat} {P : Int32 → Mm → Prop} (hR : rm_L_work.frames + 1 ≤ R.frames ∧ 8 + (5 + 11) + rm_L_work.locals ≤ R.locals) (hf : kc + 2 ≤ R.cells ∧ ks + 12 ≤ R.slots) (hst : (st.map fun v => v.category).sum ≤ 8) (d : decode cc pc = .ok (.invokestatic 135, 3)) (h : w_L_work M y0 y1 y2 y3 P) (kk : ∀ r M', P r M' → J p l e R s m args below meth c Q E nL M' (kc + 2) (ks + 12) (pc + 3) lo (.int r :: st)) : J p l e R s m args below meth c Q E nL M kc ks pc lo (.ref y3 :: .int y2 :: .int y1 :: .ref y0 :: st) :=
  j_cSW (n := 4) (As := [.ref y0, .int y1, .int y2, .ref y3]) C (c_L_work l E M y0 y1 y2 y3 P h) wd_825 wd_823 wd_100 wd_824 ⟨by decide +kernel, by decide +kernel, by decide +kernel⟩ rfl rfl hR hf rfl hst d kk
theorem cs_L_137 (C : Cx p l s m args meth c cc nL RL ret E) {b : Nat} {y0 : Int32} {y1 : Int32} {P : Int32 → Mm → Prop} (hR : rm_X8_work.frames + 1 ≤ R.frames ∧ 8 + (3 + 11) + rm_X8_work.locals ≤ R.locals) (hf : kc ≤ R.cells ∧ ks ≤ R.slots) (hst : (st.map fun v => v.category).sum ≤ 8) (d : decode cc pc = .ok (.invokevirtual 137, 3)) (h : zk M b = 8 ∧ w_X8_work M b y0 y1 P) (kk : ∀ r M', P r M' → J p l e R s m args below meth c Q E nL M' kc ks (pc + 3) lo (.int r :: st)) : J p l e R s m args below meth c Q E nL M kc ks pc lo (.int y1 :: .int y0 :: .ref b :: st) :=
  j_cV_I (n := 2) (As := [.int y0, .int y1]) C co_X8 rfl wd_1413 wd_1414 h.1 (c_X8_work l E M b y0 y1 P h.2) ⟨wd_1415, wd_1412, wd_106, by decide +kernel, by decide +kernel, by decide +kernel⟩ rfl rfl hR hf rfl hst d kk
theorem cs_L_138 (C : Cx p l s m args meth c cc nL RL ret E) {y0 : Nat} {y1 : Int32} {y2 : Int32} {y3 : Nat} {P : Int32 → Mm → Prop} (hR : rm_L_seat.frames + 1 ≤ R.frames ∧ 8 + (5 + 11) + rm_L_seat.locals ≤ R.locals) (hf : kc + 2 ≤ R.cells ∧ ks + 12 ≤ R.slots) (hst : (st.map fun v => v.category).sum ≤ 8) (d : decode cc pc = .ok (.invokestatic 138, 3)) (h : w_L_seat M y0 y1 y2 y3 P) (kk : ∀ r M', P r M' → J p l e R s m args below meth c Q E nL M' (kc + 2) (ks + 12) (pc + 3) lo (.int r :: st)) : J p l e R s m args below meth c Q E nL M kc ks pc lo (.ref y3 :: .int y2 :: .int y1 :: .ref y0 :: st) :=
  j_cSW (n := 4) (As := [.ref y0, .int y1, .int y2, .ref y3]) C (c_L_seat l E M y0 y1 y2 y3 P h) wd_847 wd_845 wd_100 wd_846 ⟨by decide +kernel, by decide +kernel, by decide +kernel⟩ rfl rfl hR hf rfl hst d kk
theorem cs_L_140 (C : Cx p l s m args meth c cc nL RL ret E) {b : Nat} {y0 : Int32} {y1 : Int32} {P : Int32 → Mm → Prop} (hR : rm_X8_seat.frames + 1 ≤ R.frames ∧ 8 + (3 + 11) + rm_X8_seat.locals ≤ R.locals) (hf : kc ≤ R.cells ∧ ks ≤ R.slots) (hst : (st.map fun v => v.category).sum ≤ 8) (d : decode cc pc = .ok (.invokevirtual 140, 3)) (h : zk M b = 8 ∧ w_X8_seat M b y0 y1 P) (kk : ∀ r M', P r M' → J p l e R s m args below meth c Q E nL M' kc ks (pc + 3) lo (.int r :: st)) : J p l e R s m args below meth c Q E nL M kc ks pc lo (.int y1 :: .int y0 :: .ref b :: st) :=
  j_cV_I (n := 2) (As := [.int y0, .int y1]) C co_X8 rfl wd_1425 wd_1426 h.1 (c_X8_seat l E M b y0 y1 P h.2) ⟨wd_1427, wd_1424, wd_106, by decide +kernel, by decide +kernel, by decide +kernel⟩ rfl rfl hR hf rfl hst d kk
theorem cs_L_141 (C : Cx p l s m args meth c cc nL RL ret E) {y0 : Nat} {y1 : Int32} {y2 : Int32} {y3 : Nat} {P : Int32 → Mm → Prop} (hR : rm_L_service.frames + 1 ≤ R.frames ∧ 8 + (5 + 11) + rm_L_service.locals ≤ R.locals) (hf : kc + 2 ≤ R.cells ∧ ks + 12 ≤ R.slots) (hst : (st.map fun v => v.category).sum ≤ 8) (d : decode cc pc = .ok (.invokestatic 141, 3)) (h : w_L_service M y0 y1 y2 y3 P) (kk : ∀ r M', P r M' → J p l e R s m args below meth c Q E nL M' (kc + 2) (ks + 12) (pc + 3) lo (.int r :: st)) : J p l e R s m args below meth c Q E nL M kc ks pc lo (.ref y3 :: .int y2 :: .int y1 :: .ref y0 :: st) :=
  j_cSW (n := 4) (As := [.ref y0, .int y1, .int y2, .ref y3]) C (c_L_service l E M y0 y1 y2 y3 P h) wd_859 wd_857 wd_100 wd_858 ⟨by decide +kernel, by decide +kernel, by decide +kernel⟩ rfl rfl hR hf rfl hst d kk
theorem cs_L_143 (C : Cx p l s m args meth c cc nL RL ret E) {b : Nat} {y0 : Int32} {y1 : Int32} {P : Int32 → Mm → Prop} (hR : rm_X8_service.frames + 1 ≤ R.frames ∧ 8 + (3 + 11) + rm_X8_service.locals ≤ R.locals) (hf : kc ≤ R.cells ∧ ks ≤ R.slots) (hst : (st.map fun v => v.category).sum ≤ 8) (d : decode cc pc = .ok (.invokevirtual 143, 3)) (h : zk M b = 8 ∧ w_X8_service M b y0 y1 P) (kk : ∀ r M', P r M' → J p l e R s m args below meth c Q E nL M' kc ks (pc + 3) lo (.int r :: st)) : J p l e R s m args below meth c Q E nL M kc ks pc lo (.int y1 :: .int y0 :: .ref b :: st) :=
  j_cV_I (n := 2) (As := [.int y0, .int y1]) C co_X8 rfl wd_1429 wd_1430 h.1 (c_X8_service l E M b y0 y1 P h.2) ⟨wd_1431, wd_1428, wd_106, by decide +kernel, by decide +kernel, by decide +kernel⟩ rfl rfl hR hf rfl hst d kk
theorem cs_L_144 (C : Cx p l s m args meth c cc nL RL ret E) {y0 : Nat} {y1 : Int32} {y2 : Int32} {y3 : Int32} {y4 : Nat} {P : Int32 → Mm → Prop} (hR : rm_L_cast.frames + 1 ≤ R.frames ∧ 8 + (6 + 11) + rm_L_cast.locals ≤ R.locals) (hf : kc + 3 ≤ R.cells ∧ ks + 18 ≤ R.slots) (hst : (st.map fun v => v.category).sum ≤ 8) (d : decode cc pc = .ok (.invokestatic 144, 3)) (h : w_L_cast M y0 y1 y2 y3 y4 P) (kk : ∀ r M', P r M' → J p l e R s m args below meth c Q E nL M' (kc + 3) (ks + 18) (pc + 3) lo (.int r :: st)) : J p l e R s m args below meth c Q E nL M kc ks pc lo (.ref y4 :: .int y3 :: .int y2 :: .int y1 :: .ref y0 :: st) :=
  j_cSW (n := 5) (As := [.ref y0, .int y1, .int y2, .int y3, .ref y4]) C (c_L_cast l E M y0 y1 y2 y3 y4 P h) wd_877 wd_875 wd_100 wd_876 ⟨by decide +kernel, by decide +kernel, by decide +kernel⟩ rfl rfl hR hf rfl hst d kk
theorem cs_L_147 (C : Cx p l s m args meth c cc nL RL ret E) {b : Nat} {y0 : Int32} {y1 : Int32} {y2 : Int32} {P : Int32 → Mm → Prop} (hR : rm_X8_cast.frames + 1 ≤ R.frames ∧ 8 + (4 + 11) + rm_X8_cast.locals ≤ R.locals) (hf : kc ≤ R.cells ∧ ks ≤ R.slots) (hst : (st.map fun v => v.category).sum ≤ 8) (d : decode cc pc = .ok (.invokevirtual 147, 3)) (h : zk M b = 8 ∧ w_X8_cast M b y0 y1 y2 P) (kk : ∀ r M', P r M' → J p l e R s m args below meth c Q E nL M' kc ks (pc + 3) lo (.int r :: st)) : J p l e R s m args below meth c Q E nL M kc ks pc lo (.int y2 :: .int y1 :: .int y0 :: .ref b :: st) :=
  j_cV_I (n := 3) (As := [.int y0, .int y1, .int y2]) C co_X8 rfl wd_1437 wd_1438 h.1 (c_X8_cast l E M b y0 y1 y2 P h.2) ⟨wd_1439, wd_1436, wd_106, by decide +kernel, by decide +kernel, by decide +kernel⟩ rfl rfl hR hf rfl hst d kk
theorem cs_L_148 (C : Cx p l s m args meth c cc nL RL ret E) {y0 : Nat} {y1 : Int32} {y2 : Int32} {y3 : Nat} {P : Int32 → Mm → Prop} (hR : rm_L_serviceAt.frames + 1 ≤ R.frames ∧ 8 + (5 + 11) + rm_L_serviceAt.locals ≤ R.locals) (hf : kc + 2 ≤ R.cells ∧ ks + 12 ≤ R.slots) (hst : (st.map fun v => v.category).sum ≤ 8) (d : decode cc pc = .ok (.invokestatic 148, 3)) (h : w_L_serviceAt M y0 y1 y2 y3 P) (kk : ∀ r M', P r M' → J p l e R s m args below meth c Q E nL M' (kc + 2) (ks + 12) (pc + 3) lo (.int r :: st)) : J p l e R s m args below meth c Q E nL M kc ks pc lo (.ref y3 :: .int y2 :: .int y1 :: .ref y0 :: st) :=
  j_cSW (n := 4) (As := [.ref y0, .int y1, .int y2, .ref y3]) C (c_L_serviceAt l E M y0 y1 y2 y3 P h) wd_885 wd_883 wd_100 wd_884 ⟨by decide +kernel, by decide +kernel, by decide +kernel⟩ rfl rfl hR hf rfl hst d kk
theorem cs_L_150 (C : Cx p l s m args meth c cc nL RL ret E) {b : Nat} {y0 : Int32} {y1 : Int32} {P : Int32 → Mm → Prop} (hR : rm_X8_serviceAt.frames + 1 ≤ R.frames ∧ 8 + (4 + 11) + rm_X8_serviceAt.locals ≤ R.locals) (hf : kc ≤ R.cells ∧ ks ≤ R.slots) (hst : (st.map fun v => v.category).sum ≤ 8) (d : decode cc pc = .ok (.invokevirtual 150, 3)) (h : zk M b = 8 ∧ w_X8_serviceAt M b y0 y1 P) (kk : ∀ r M', P r M' → J p l e R s m args below meth c Q E nL M' kc ks (pc + 3) lo (.int r :: st)) : J p l e R s m args below meth c Q E nL M kc ks pc lo (.int y1 :: .int y0 :: .ref b :: st) :=
  j_cV_I (n := 2) (As := [.int y0, .int y1]) C co_X8 rfl wd_1441 wd_1442 h.1 (c_X8_serviceAt l E M b y0 y1 P h.2) ⟨wd_1443, wd_1440, wd_106, by decide +kernel, by decide +kernel, by decide +kernel⟩ rfl rfl hR hf rfl hst d kk
theorem cs_L_151 (C : Cx p l s m args meth c cc nL RL ret E) {y0 : Nat} {y1 : Int32} {y2 : Int32} {y3 : Nat} {P : Int32 → Mm → Prop} (hR : rm_L_fewestDoublings.frames + 1 ≤ R.frames ∧ 8 + (5 + 11) + rm_L_fewestDoublings.locals ≤ R.locals) (hf : kc + 2 ≤ R.cells ∧ ks + 12 ≤ R.slots) (hst : (st.map fun v => v.category).sum ≤ 8) (d : decode cc pc = .ok (.invokestatic 151, 3)) (h : w_L_fewestDoublings M y0 y1 y2 y3 P) (kk : ∀ r M', P r M' → J p l e R s m args below meth c Q E nL M' (kc + 2) (ks + 12) (pc + 3) lo (.int r :: st)) : J p l e R s m args below meth c Q E nL M kc ks pc lo (.ref y3 :: .int y2 :: .int y1 :: .ref y0 :: st) :=
  j_cSW (n := 4) (As := [.ref y0, .int y1, .int y2, .ref y3]) C (c_L_fewestDoublings l E M y0 y1 y2 y3 P h) wd_896 wd_894 wd_100 wd_895 ⟨by decide +kernel, by decide +kernel, by decide +kernel⟩ rfl rfl hR hf rfl hst d kk
theorem cs_L_153 (C : Cx p l s m args meth c cc nL RL ret E) {b : Nat} {y0 : Int32} {y1 : Int32} {P : Int32 → Mm → Prop} (hR : rm_X8_fewestDoublings.frames + 1 ≤ R.frames ∧ 8 + (3 + 11) + rm_X8_fewestDoublings.locals ≤ R.locals) (hf : kc ≤ R.cells ∧ ks ≤ R.slots) (hst : (st.map fun v => v.category).sum ≤ 8) (d : decode cc pc = .ok (.invokevirtual 153, 3)) (h : zk M b = 8 ∧ w_X8_fewestDoublings M b y0 y1 P) (kk : ∀ r M', P r M' → J p l e R s m args below meth c Q E nL M' kc ks (pc + 3) lo (.int r :: st)) : J p l e R s m args below meth c Q E nL M kc ks pc lo (.int y1 :: .int y0 :: .ref b :: st) :=
  j_cV_I (n := 2) (As := [.int y0, .int y1]) C co_X8 rfl wd_1449 wd_1450 h.1 (c_X8_fewestDoublings l E M b y0 y1 P h.2) ⟨wd_1451, wd_1448, wd_106, by decide +kernel, by decide +kernel, by decide +kernel⟩ rfl rfl hR hf rfl hst d kk
theorem cs_L_154 (C : Cx p l s m args meth c cc nL RL ret E) {y0 : Nat} {y1 : Int32} {y2 : Int32} {y3 : Int32} {y4 : Int32} {y5 : Nat} {P : Int32 → Mm → Prop} (hR : rm_L_whyNot.frames + 1 ≤ R.frames ∧ 8 + (7 + 11) + rm_L_whyNot.locals ≤ R.locals) (hf : kc + 4 ≤ R.cells ∧ ks + 24 ≤ R.slots) (hst : (st.map fun v => v.category).sum ≤ 8) (d : decode cc pc = .ok (.invokestatic 154, 3)) (h : w_L_whyNot M y0 y1 y2 y3 y4 y5 P) (kk : ∀ r M', P r M' → J p l e R s m args below meth c Q E nL M' (kc + 4) (ks + 24) (pc + 3) lo (.int r :: st)) : J p l e R s m args below meth c Q E nL M kc ks pc lo (.ref y5 :: .int y4 :: .int y3 :: .int y2 :: .int y1 :: .ref y0 :: st) :=
  j_cSW (n := 6) (As := [.ref y0, .int y1, .int y2, .int y3, .int y4, .ref y5]) C (c_L_whyNot l E M y0 y1 y2 y3 y4 y5 P h) wd_921 wd_919 wd_100 wd_920 ⟨by decide +kernel, by decide +kernel, by decide +kernel⟩ rfl rfl hR hf rfl hst d kk
theorem cs_L_157 (C : Cx p l s m args meth c cc nL RL ret E) {b : Nat} {y0 : Int32} {y1 : Int32} {y2 : Int32} {y3 : Int32} {P : Int32 → Mm → Prop} (hR : rm_X8_whyNot.frames + 1 ≤ R.frames ∧ 8 + (5 + 11) + rm_X8_whyNot.locals ≤ R.locals) (hf : kc ≤ R.cells ∧ ks ≤ R.slots) (hst : (st.map fun v => v.category).sum ≤ 8) (d : decode cc pc = .ok (.invokevirtual 157, 3)) (h : zk M b = 8 ∧ w_X8_whyNot M b y0 y1 y2 y3 P) (kk : ∀ r M', P r M' → J p l e R s m args below meth c Q E nL M' kc ks (pc + 3) lo (.int r :: st)) : J p l e R s m args below meth c Q E nL M kc ks pc lo (.int y3 :: .int y2 :: .int y1 :: .int y0 :: .ref b :: st) :=
  j_cV_I (n := 4) (As := [.int y0, .int y1, .int y2, .int y3]) C co_X8 rfl wd_1465 wd_1466 h.1 (c_X8_whyNot l E M b y0 y1 y2 y3 P h.2) ⟨wd_1467, wd_1464, wd_106, by decide +kernel, by decide +kernel, by decide +kernel⟩ rfl rfl hR hf rfl hst d kk
theorem cs_L_158 (C : Cx p l s m args meth c cc nL RL ret E) {y0 : Nat} {y1 : Int32} {y2 : Int32} {y3 : Int32} {y4 : Int32} {y5 : Nat} {P : Int32 → Mm → Prop} (hR : rm_L_earliest.frames + 1 ≤ R.frames ∧ 8 + (7 + 11) + rm_L_earliest.locals ≤ R.locals) (hf : kc + 4 ≤ R.cells ∧ ks + 24 ≤ R.slots) (hst : (st.map fun v => v.category).sum ≤ 8) (d : decode cc pc = .ok (.invokestatic 158, 3)) (h : w_L_earliest M y0 y1 y2 y3 y4 y5 P) (kk : ∀ r M', P r M' → J p l e R s m args below meth c Q E nL M' (kc + 4) (ks + 24) (pc + 3) lo (.int r :: st)) : J p l e R s m args below meth c Q E nL M kc ks pc lo (.ref y5 :: .int y4 :: .int y3 :: .int y2 :: .int y1 :: .ref y0 :: st) :=
  j_cSW (n := 6) (As := [.ref y0, .int y1, .int y2, .int y3, .int y4, .ref y5]) C (c_L_earliest l E M y0 y1 y2 y3 y4 y5 P h) wd_957 wd_955 wd_100 wd_956 ⟨by decide +kernel, by decide +kernel, by decide +kernel⟩ rfl rfl hR hf rfl hst d kk
theorem cs_L_160 (C : Cx p l s m args meth c cc nL RL ret E) {b : Nat} {y0 : Int32} {y1 : Int32} {y2 : Int32} {y3 : Int32} {P : Int32 → Mm → Prop} (hR : rm_X8_earliest.frames + 1 ≤ R.frames ∧ 8 + (6 + 11) + rm_X8_earliest.locals ≤ R.locals) (hf : kc ≤ R.cells ∧ ks ≤ R.slots) (hst : (st.map fun v => v.category).sum ≤ 8) (d : decode cc pc = .ok (.invokevirtual 160, 3)) (h : zk M b = 8 ∧ w_X8_earliest M b y0 y1 y2 y3 P) (kk : ∀ r M', P r M' → J p l e R s m args below meth c Q E nL M' kc ks (pc + 3) lo (.int r :: st)) : J p l e R s m args below meth c Q E nL M kc ks pc lo (.int y3 :: .int y2 :: .int y1 :: .int y0 :: .ref b :: st) :=
  j_cV_I (n := 4) (As := [.int y0, .int y1, .int y2, .int y3]) C co_X8 rfl wd_1500 wd_1501 h.1 (c_X8_earliest l E M b y0 y1 y2 y3 P h.2) ⟨wd_1502, wd_1499, wd_106, by decide +kernel, by decide +kernel, by decide +kernel⟩ rfl rfl hR hf rfl hst d kk
theorem cs_L_161 (C : Cx p l s m args meth c cc nL RL ret E) {y0 : Nat} {y1 : Int32} {y2 : Int32} {y3 : Nat} {P : Int32 → Mm → Prop} (hR : rm_L_whyNotMove.frames + 1 ≤ R.frames ∧ 8 + (5 + 11) + rm_L_whyNotMove.locals ≤ R.locals) (hf : kc + 2 ≤ R.cells ∧ ks + 12 ≤ R.slots) (hst : (st.map fun v => v.category).sum ≤ 8) (d : decode cc pc = .ok (.invokestatic 161, 3)) (h : w_L_whyNotMove M y0 y1 y2 y3 P) (kk : ∀ r M', P r M' → J p l e R s m args below meth c Q E nL M' (kc + 2) (ks + 12) (pc + 3) lo (.int r :: st)) : J p l e R s m args below meth c Q E nL M kc ks pc lo (.ref y3 :: .int y2 :: .int y1 :: .ref y0 :: st) :=
  j_cSW (n := 4) (As := [.ref y0, .int y1, .int y2, .ref y3]) C (c_L_whyNotMove l E M y0 y1 y2 y3 P h) wd_964 wd_962 wd_100 wd_963 ⟨by decide +kernel, by decide +kernel, by decide +kernel⟩ rfl rfl hR hf rfl hst d kk
theorem cs_L_163 (C : Cx p l s m args meth c cc nL RL ret E) {b : Nat} {y0 : Int32} {y1 : Int32} {P : Int32 → Mm → Prop} (hR : rm_X8_whyNotMove.frames + 1 ≤ R.frames ∧ 8 + (4 + 11) + rm_X8_whyNotMove.locals ≤ R.locals) (hf : kc ≤ R.cells ∧ ks ≤ R.slots) (hst : (st.map fun v => v.category).sum ≤ 8) (d : decode cc pc = .ok (.invokevirtual 163, 3)) (h : zk M b = 8 ∧ w_X8_whyNotMove M b y0 y1 P) (kk : ∀ r M', P r M' → J p l e R s m args below meth c Q E nL M' kc ks (pc + 3) lo (.int r :: st)) : J p l e R s m args below meth c Q E nL M kc ks pc lo (.int y1 :: .int y0 :: .ref b :: st) :=
  j_cV_I (n := 2) (As := [.int y0, .int y1]) C co_X8 rfl wd_1504 wd_1505 h.1 (c_X8_whyNotMove l E M b y0 y1 P h.2) ⟨wd_1506, wd_1503, wd_106, by decide +kernel, by decide +kernel, by decide +kernel⟩ rfl rfl hR hf rfl hst d kk
theorem cs_L_164 (C : Cx p l s m args meth c cc nL RL ret E) {y0 : Nat} {y1 : Int32} {y2 : Nat} {P : Int32 → Mm → Prop} (hR : rm_L_costs.frames + 1 ≤ R.frames ∧ 8 + (4 + 11) + rm_L_costs.locals ≤ R.locals) (hf : kc + 1 ≤ R.cells ∧ ks + 6 ≤ R.slots) (hst : (st.map fun v => v.category).sum ≤ 8) (d : decode cc pc = .ok (.invokestatic 164, 3)) (h : w_L_costs M y0 y1 y2 P) (kk : ∀ r M', P r M' → J p l e R s m args below meth c Q E nL M' (kc + 1) (ks + 6) (pc + 3) lo (.int r :: st)) : J p l e R s m args below meth c Q E nL M kc ks pc lo (.ref y2 :: .int y1 :: .ref y0 :: st) :=
  j_cSW (n := 3) (As := [.ref y0, .int y1, .ref y2]) C (c_L_costs l E M y0 y1 y2 P h) wd_1008 wd_1006 wd_100 wd_1007 ⟨by decide +kernel, by decide +kernel, by decide +kernel⟩ rfl rfl hR hf rfl hst d kk
theorem cs_L_166 (C : Cx p l s m args meth c cc nL RL ret E) {b : Nat} {y0 : Int32} {P : Int32 → Mm → Prop} (hR : rm_X8_costs.frames + 1 ≤ R.frames ∧ 8 + (2 + 11) + rm_X8_costs.locals ≤ R.locals) (hf : kc ≤ R.cells ∧ ks ≤ R.slots) (hst : (st.map fun v => v.category).sum ≤ 8) (d : decode cc pc = .ok (.invokevirtual 166, 3)) (h : zk M b = 8 ∧ w_X8_costs M b y0 P) (kk : ∀ r M', P r M' → J p l e R s m args below meth c Q E nL M' kc ks (pc + 3) lo (.int r :: st)) : J p l e R s m args below meth c Q E nL M kc ks pc lo (.int y0 :: .ref b :: st) :=
  j_cV_I (n := 1) (As := [.int y0]) C co_X8 rfl wd_1532 wd_1533 h.1 (c_X8_costs l E M b y0 P h.2) ⟨wd_1534, wd_1531, wd_106, by decide +kernel, by decide +kernel, by decide +kernel⟩ rfl rfl hR hf rfl hst d kk
theorem cs_L_167 (C : Cx p l s m args meth c cc nL RL ret E) {y0 : Nat} {y1 : Int32} {y2 : Int32} {y3 : Int32} {y4 : Int32} {y5 : Nat} {P : Int32 → Mm → Prop} (hR : rm_L_costsWith.frames + 1 ≤ R.frames ∧ 8 + (7 + 11) + rm_L_costsWith.locals ≤ R.locals) (hf : kc + 4 ≤ R.cells ∧ ks + 24 ≤ R.slots) (hst : (st.map fun v => v.category).sum ≤ 8) (d : decode cc pc = .ok (.invokestatic 167, 3)) (h : w_L_costsWith M y0 y1 y2 y3 y4 y5 P) (kk : ∀ r M', P r M' → J p l e R s m args below meth c Q E nL M' (kc + 4) (ks + 24) (pc + 3) lo (.int r :: st)) : J p l e R s m args below meth c Q E nL M kc ks pc lo (.ref y5 :: .int y4 :: .int y3 :: .int y2 :: .int y1 :: .ref y0 :: st) :=
  j_cSW (n := 6) (As := [.ref y0, .int y1, .int y2, .int y3, .int y4, .ref y5]) C (c_L_costsWith l E M y0 y1 y2 y3 y4 y5 P h) wd_1030 wd_1028 wd_100 wd_1029 ⟨by decide +kernel, by decide +kernel, by decide +kernel⟩ rfl rfl hR hf rfl hst d kk
theorem cs_L_169 (C : Cx p l s m args meth c cc nL RL ret E) {b : Nat} {y0 : Int32} {y1 : Int32} {y2 : Int32} {y3 : Int32} {P : Int32 → Mm → Prop} (hR : rm_X8_costsWith.frames + 1 ≤ R.frames ∧ 8 + (7 + 11) + rm_X8_costsWith.locals ≤ R.locals) (hf : kc ≤ R.cells ∧ ks ≤ R.slots) (hst : (st.map fun v => v.category).sum ≤ 8) (d : decode cc pc = .ok (.invokevirtual 169, 3)) (h : zk M b = 8 ∧ w_X8_costsWith M b y0 y1 y2 y3 P) (kk : ∀ r M', P r M' → J p l e R s m args below meth c Q E nL M' kc ks (pc + 3) lo (.int r :: st)) : J p l e R s m args below meth c Q E nL M kc ks pc lo (.int y3 :: .int y2 :: .int y1 :: .int y0 :: .ref b :: st) :=
  j_cV_I (n := 4) (As := [.int y0, .int y1, .int y2, .int y3]) C co_X8 rfl wd_1540 wd_1541 h.1 (c_X8_costsWith l E M b y0 y1 y2 y3 P h.2) ⟨wd_1542, wd_1539, wd_106, by decide +kernel, by decide +kernel, by decide +kernel⟩ rfl rfl hR hf rfl hst d kk
theorem cs_L_170 (C : Cx p l s m args meth c cc nL RL ret E) {b : Nat} {P : Int32 → Mm → Prop} (hR : rm_X7_isBalanced.frames + 1 ≤ R.frames ∧ 8 + (2 + 11) + rm_X7_isBalanced.locals ≤ R.locals) (hf : kc ≤ R.cells ∧ ks ≤ R.slots) (hst : (st.map fun v => v.category).sum ≤ 8) (d : decode cc pc = .ok (.invokevirtual 170, 3)) (h : zk M b = 7 ∧ w_X7_isBalanced M b P) (kk : ∀ r M', P r M' → J p l e R s m args below meth c Q E nL M' kc ks (pc + 3) lo (.int r :: st)) : J p l e R s m args below meth c Q E nL M kc ks pc lo (.ref b :: st) :=
  j_cV_I (n := 0) (As := []) C co_X7 rfl wd_365 wd_366 h.1 (c_X7_isBalanced l E M b P h.2) ⟨wd_367, wd_364, wd_101, by decide +kernel, by decide +kernel, by decide +kernel⟩ rfl rfl hR hf rfl hst d kk
theorem cs_L_174 (C : Cx p l s m args meth c cc nL RL ret E) {b : Nat} {P : Int32 → Mm → Prop} (hR : rm_X8_isBalanced.frames + 1 ≤ R.frames ∧ 8 + (3 + 11) + rm_X8_isBalanced.locals ≤ R.locals) (hf : kc ≤ R.cells ∧ ks ≤ R.slots) (hst : (st.map fun v => v.category).sum ≤ 8) (d : decode cc pc = .ok (.invokevirtual 174, 3)) (h : zk M b = 8 ∧ w_X8_isBalanced M b P) (kk : ∀ r M', P r M' → J p l e R s m args below meth c Q E nL M' kc ks (pc + 3) lo (.int r :: st)) : J p l e R s m args below meth c Q E nL M kc ks pc lo (.ref b :: st) :=
  j_cV_I (n := 0) (As := []) C co_X8 rfl wd_1544 wd_1545 h.1 (c_X8_isBalanced l E M b P h.2) ⟨wd_1546, wd_1543, wd_106, by decide +kernel, by decide +kernel, by decide +kernel⟩ rfl rfl hR hf rfl hst d kk
theorem cs_L_175 (C : Cx p l s m args meth c cc nL RL ret E) {b : Nat} {P : Int32 → Mm → Prop} (hR : rm_X7_isWithoutClash.frames + 1 ≤ R.frames ∧ 8 + (2 + 11) + rm_X7_isWithoutClash.locals ≤ R.locals) (hf : kc ≤ R.cells ∧ ks ≤ R.slots) (hst : (st.map fun v => v.category).sum ≤ 8) (d : decode cc pc = .ok (.invokevirtual 175, 3)) (h : zk M b = 7 ∧ w_X7_isWithoutClash M b P) (kk : ∀ r M', P r M' → J p l e R s m args below meth c Q E nL M' kc ks (pc + 3) lo (.int r :: st)) : J p l e R s m args below meth c Q E nL M kc ks pc lo (.ref b :: st) :=
  j_cV_I (n := 0) (As := []) C co_X7 rfl wd_384 wd_385 h.1 (c_X7_isWithoutClash l E M b P h.2) ⟨wd_386, wd_383, wd_101, by decide +kernel, by decide +kernel, by decide +kernel⟩ rfl rfl hR hf rfl hst d kk
theorem cs_L_178 (C : Cx p l s m args meth c cc nL RL ret E) {b : Nat} {P : Int32 → Mm → Prop} (hR : rm_X8_isWithoutClash.frames + 1 ≤ R.frames ∧ 8 + (4 + 11) + rm_X8_isWithoutClash.locals ≤ R.locals) (hf : kc ≤ R.cells ∧ ks ≤ R.slots) (hst : (st.map fun v => v.category).sum ≤ 8) (d : decode cc pc = .ok (.invokevirtual 178, 3)) (h : zk M b = 8 ∧ w_X8_isWithoutClash M b P) (kk : ∀ r M', P r M' → J p l e R s m args below meth c Q E nL M' kc ks (pc + 3) lo (.int r :: st)) : J p l e R s m args below meth c Q E nL M kc ks pc lo (.ref b :: st) :=
  j_cV_I (n := 0) (As := []) C co_X8 rfl wd_1548 wd_1549 h.1 (c_X8_isWithoutClash l E M b P h.2) ⟨wd_1550, wd_1547, wd_106, by decide +kernel, by decide +kernel, by decide +kernel⟩ rfl rfl hR hf rfl hst d kk
theorem cs_L_179 (C : Cx p l s m args meth c cc nL RL ret E) {b : Nat} {P : Int32 → Mm → Prop} (hR : rm_X7_busiest.frames + 1 ≤ R.frames ∧ 8 + (5 + 11) + rm_X7_busiest.locals ≤ R.locals) (hf : kc ≤ R.cells ∧ ks ≤ R.slots) (hst : (st.map fun v => v.category).sum ≤ 8) (d : decode cc pc = .ok (.invokevirtual 179, 3)) (h : zk M b = 7 ∧ w_X7_busiest M b P) (kk : ∀ r M', P r M' → J p l e R s m args below meth c Q E nL M' kc ks (pc + 3) lo (.int r :: st)) : J p l e R s m args below meth c Q E nL M kc ks pc lo (.ref b :: st) :=
  j_cV_I (n := 0) (As := []) C co_X7 rfl wd_403 wd_404 h.1 (c_X7_busiest l E M b P h.2) ⟨wd_405, wd_402, wd_101, by decide +kernel, by decide +kernel, by decide +kernel⟩ rfl rfl hR hf rfl hst d kk
theorem cs_L_182 (C : Cx p l s m args meth c cc nL RL ret E) {b : Nat} {P : Int32 → Mm → Prop} (hR : rm_X8_busiest.frames + 1 ≤ R.frames ∧ 8 + (3 + 11) + rm_X8_busiest.locals ≤ R.locals) (hf : kc ≤ R.cells ∧ ks ≤ R.slots) (hst : (st.map fun v => v.category).sum ≤ 8) (d : decode cc pc = .ok (.invokevirtual 182, 3)) (h : zk M b = 8 ∧ w_X8_busiest M b P) (kk : ∀ r M', P r M' → J p l e R s m args below meth c Q E nL M' kc ks (pc + 3) lo (.int r :: st)) : J p l e R s m args below meth c Q E nL M kc ks pc lo (.ref b :: st) :=
  j_cV_I (n := 0) (As := []) C co_X8 rfl wd_1556 wd_1557 h.1 (c_X8_busiest l E M b P h.2) ⟨wd_1558, wd_1555, wd_106, by decide +kernel, by decide +kernel, by decide +kernel⟩ rfl rfl hR hf rfl hst d kk
theorem cs_L_183 (C : Cx p l s m args meth c cc nL RL ret E) {y0 : Nat} {y1 : Int32} {y2 : Int32} {y3 : Int32} {y4 : Nat} {P : Int32 → Mm → Prop} (hR : rm_L_rehearse.frames + 1 ≤ R.frames ∧ 8 + (6 + 11) + rm_L_rehearse.locals ≤ R.locals) (hf : kc + 4 ≤ R.cells ∧ ks + 24 ≤ R.slots) (hst : (st.map fun v => v.category).sum ≤ 8) (d : decode cc pc = .ok (.invokestatic 183, 3)) (h : w_L_rehearse M y0 y1 y2 y3 y4 P) (kk : ∀ r M', P r M' → J p l e R s m args below meth c Q E nL M' (kc + 4) (ks + 24) (pc + 3) lo (.int r :: st)) : J p l e R s m args below meth c Q E nL M kc ks pc lo (.ref y4 :: .int y3 :: .int y2 :: .int y1 :: .ref y0 :: st) :=
  j_cSW (n := 5) (As := [.ref y0, .int y1, .int y2, .int y3, .ref y4]) C (c_L_rehearse l E M y0 y1 y2 y3 y4 P h) wd_1037 wd_1035 wd_100 wd_1036 ⟨by decide +kernel, by decide +kernel, by decide +kernel⟩ rfl rfl hR hf rfl hst d kk
theorem cs_L_185 (C : Cx p l s m args meth c cc nL RL ret E) {b : Nat} {y0 : Int32} {y1 : Int32} {y2 : Int32} {P : Int32 → Mm → Prop} (hR : rm_X8_rehearse.frames + 1 ≤ R.frames ∧ 8 + (4 + 11) + rm_X8_rehearse.locals ≤ R.locals) (hf : kc ≤ R.cells ∧ ks ≤ R.slots) (hst : (st.map fun v => v.category).sum ≤ 8) (d : decode cc pc = .ok (.invokevirtual 185, 3)) (h : zk M b = 8 ∧ w_X8_rehearse M b y0 y1 y2 P) (kk : ∀ r M', P r M' → J p l e R s m args below meth c Q E nL M' kc ks (pc + 3) lo (.int r :: st)) : J p l e R s m args below meth c Q E nL M kc ks pc lo (.int y2 :: .int y1 :: .int y0 :: .ref b :: st) :=
  j_cV_I (n := 3) (As := [.int y0, .int y1, .int y2]) C co_X8 rfl wd_1560 wd_1561 h.1 (c_X8_rehearse l E M b y0 y1 y2 P h.2) ⟨wd_1562, wd_1559, wd_106, by decide +kernel, by decide +kernel, by decide +kernel⟩ rfl rfl hR hf rfl hst d kk
theorem cs_L_186 (C : Cx p l s m args meth c cc nL RL ret E) {y0 : Nat} {y1 : Int32} {y2 : Int32} {y3 : Int32} {y4 : Nat} {P : Int32 → Mm → Prop} (hR : rm_L_concert.frames + 1 ≤ R.frames ∧ 8 + (6 + 11) + rm_L_concert.locals ≤ R.locals) (hf : kc + 5 ≤ R.cells ∧ ks + 30 ≤ R.slots) (hst : (st.map fun v => v.category).sum ≤ 8) (d : decode cc pc = .ok (.invokestatic 186, 3)) (h : w_L_concert M y0 y1 y2 y3 y4 P) (kk : ∀ r M', P r M' → J p l e R s m args below meth c Q E nL M' (kc + 5) (ks + 30) (pc + 3) lo (.int r :: st)) : J p l e R s m args below meth c Q E nL M kc ks pc lo (.ref y4 :: .int y3 :: .int y2 :: .int y1 :: .ref y0 :: st) :=
  j_cSW (n := 5) (As := [.ref y0, .int y1, .int y2, .int y3, .ref y4]) C (c_L_concert l E M y0 y1 y2 y3 y4 P h) wd_1075 wd_1073 wd_100 wd_1074 ⟨by decide +kernel, by decide +kernel, by decide +kernel⟩ rfl rfl hR hf rfl hst d kk
theorem cs_L_188 (C : Cx p l s m args meth c cc nL RL ret E) {b : Nat} {y0 : Int32} {y1 : Int32} {y2 : Int32} {P : Int32 → Mm → Prop} (hR : rm_X8_concert.frames + 1 ≤ R.frames ∧ 8 + (4 + 11) + rm_X8_concert.locals ≤ R.locals) (hf : kc ≤ R.cells ∧ ks ≤ R.slots) (hst : (st.map fun v => v.category).sum ≤ 8) (d : decode cc pc = .ok (.invokevirtual 188, 3)) (h : zk M b = 8 ∧ w_X8_concert M b y0 y1 y2 P) (kk : ∀ r M', P r M' → J p l e R s m args below meth c Q E nL M' kc ks (pc + 3) lo (.int r :: st)) : J p l e R s m args below meth c Q E nL M kc ks pc lo (.int y2 :: .int y1 :: .int y0 :: .ref b :: st) :=
  j_cV_I (n := 3) (As := [.int y0, .int y1, .int y2]) C co_X8 rfl wd_1571 wd_1572 h.1 (c_X8_concert l E M b y0 y1 y2 P h.2) ⟨wd_1573, wd_1570, wd_106, by decide +kernel, by decide +kernel, by decide +kernel⟩ rfl rfl hR hf rfl hst d kk
theorem cs_L_189 (C : Cx p l s m args meth c cc nL RL ret E) {y0 : Nat} {y1 : Int32} {y2 : Nat} {P : Int32 → Mm → Prop} (hR : rm_L_cancel.frames + 1 ≤ R.frames ∧ 8 + (4 + 11) + rm_L_cancel.locals ≤ R.locals) (hf : kc + 2 ≤ R.cells ∧ ks + 12 ≤ R.slots) (hst : (st.map fun v => v.category).sum ≤ 8) (d : decode cc pc = .ok (.invokestatic 189, 3)) (h : w_L_cancel M y0 y1 y2 P) (kk : ∀ r M', P r M' → J p l e R s m args below meth c Q E nL M' (kc + 2) (ks + 12) (pc + 3) lo (.int r :: st)) : J p l e R s m args below meth c Q E nL M kc ks pc lo (.ref y2 :: .int y1 :: .ref y0 :: st) :=
  j_cSW (n := 3) (As := [.ref y0, .int y1, .ref y2]) C (c_L_cancel l E M y0 y1 y2 P h) wd_1082 wd_1080 wd_100 wd_1081 ⟨by decide +kernel, by decide +kernel, by decide +kernel⟩ rfl rfl hR hf rfl hst d kk
theorem cs_L_191 (C : Cx p l s m args meth c cc nL RL ret E) {b : Nat} {y0 : Int32} {P : Int32 → Mm → Prop} (hR : rm_X8_cancel.frames + 1 ≤ R.frames ∧ 8 + (3 + 11) + rm_X8_cancel.locals ≤ R.locals) (hf : kc ≤ R.cells ∧ ks ≤ R.slots) (hst : (st.map fun v => v.category).sum ≤ 8) (d : decode cc pc = .ok (.invokevirtual 191, 3)) (h : zk M b = 8 ∧ w_X8_cancel M b y0 P) (kk : ∀ r M', P r M' → J p l e R s m args below meth c Q E nL M' kc ks (pc + 3) lo (.int r :: st)) : J p l e R s m args below meth c Q E nL M kc ks pc lo (.int y0 :: .ref b :: st) :=
  j_cV_I (n := 1) (As := [.int y0]) C co_X8 rfl wd_1575 wd_1576 h.1 (c_X8_cancel l E M b y0 P h.2) ⟨wd_1577, wd_1574, wd_106, by decide +kernel, by decide +kernel, by decide +kernel⟩ rfl rfl hR hf rfl hst d kk
theorem cs_L_192 (C : Cx p l s m args meth c cc nL RL ret E) {y0 : Nat} {y1 : Int32} {y2 : Int32} {y3 : Nat} {P : Int32 → Mm → Prop} (hR : rm_L_move.frames + 1 ≤ R.frames ∧ 8 + (5 + 11) + rm_L_move.locals ≤ R.locals) (hf : kc + 3 ≤ R.cells ∧ ks + 18 ≤ R.slots) (hst : (st.map fun v => v.category).sum ≤ 8) (d : decode cc pc = .ok (.invokestatic 192, 3)) (h : w_L_move M y0 y1 y2 y3 P) (kk : ∀ r M', P r M' → J p l e R s m args below meth c Q E nL M' (kc + 3) (ks + 18) (pc + 3) lo (.int r :: st)) : J p l e R s m args below meth c Q E nL M kc ks pc lo (.ref y3 :: .int y2 :: .int y1 :: .ref y0 :: st) :=
  j_cSW (n := 4) (As := [.ref y0, .int y1, .int y2, .ref y3]) C (c_L_move l E M y0 y1 y2 y3 P h) wd_1089 wd_1087 wd_100 wd_1088 ⟨by decide +kernel, by decide +kernel, by decide +kernel⟩ rfl rfl hR hf rfl hst d kk
theorem cs_L_194 (C : Cx p l s m args meth c cc nL RL ret E) {b : Nat} {y0 : Int32} {y1 : Int32} {P : Int32 → Mm → Prop} (hR : rm_X8_move.frames + 1 ≤ R.frames ∧ 8 + (5 + 11) + rm_X8_move.locals ≤ R.locals) (hf : kc ≤ R.cells ∧ ks ≤ R.slots) (hst : (st.map fun v => v.category).sum ≤ 8) (d : decode cc pc = .ok (.invokevirtual 194, 3)) (h : zk M b = 8 ∧ w_X8_move M b y0 y1 P) (kk : ∀ r M', P r M' → J p l e R s m args below meth c Q E nL M' kc ks (pc + 3) lo (.int r :: st)) : J p l e R s m args below meth c Q E nL M kc ks pc lo (.int y1 :: .int y0 :: .ref b :: st) :=
  j_cV_I (n := 2) (As := [.int y0, .int y1]) C co_X8 rfl wd_1579 wd_1580 h.1 (c_X8_move l E M b y0 y1 P h.2) ⟨wd_1581, wd_1578, wd_106, by decide +kernel, by decide +kernel, by decide +kernel⟩ rfl rfl hR hf rfl hst d kk
theorem cs_L_195 (C : Cx p l s m args meth c cc nL RL ret E) {y0 : Nat} {y1 : Int32} {y2 : Nat} {P : Int32 → Mm → Prop} (hR : rm_L_recast.frames + 1 ≤ R.frames ∧ 8 + (4 + 11) + rm_L_recast.locals ≤ R.locals) (hf : kc + 1 ≤ R.cells ∧ ks + 6 ≤ R.slots) (hst : (st.map fun v => v.category).sum ≤ 8) (d : decode cc pc = .ok (.invokestatic 195, 3)) (h : w_L_recast M y0 y1 y2 P) (kk : ∀ r M', P r M' → J p l e R s m args below meth c Q E nL M' (kc + 1) (ks + 6) (pc + 3) lo (.int r :: st)) : J p l e R s m args below meth c Q E nL M kc ks pc lo (.ref y2 :: .int y1 :: .ref y0 :: st) :=
  j_cSW (n := 3) (As := [.ref y0, .int y1, .ref y2]) C (c_L_recast l E M y0 y1 y2 P h) wd_1096 wd_1094 wd_100 wd_1095 ⟨by decide +kernel, by decide +kernel, by decide +kernel⟩ rfl rfl hR hf rfl hst d kk
theorem cs_L_197 (C : Cx p l s m args meth c cc nL RL ret E) {b : Nat} {y0 : Int32} {P : Int32 → Mm → Prop} (hR : rm_X8_recast.frames + 1 ≤ R.frames ∧ 8 + (6 + 11) + rm_X8_recast.locals ≤ R.locals) (hf : kc ≤ R.cells ∧ ks ≤ R.slots) (hst : (st.map fun v => v.category).sum ≤ 8) (d : decode cc pc = .ok (.invokevirtual 197, 3)) (h : zk M b = 8 ∧ w_X8_recast M b y0 P) (kk : ∀ r M', P r M' → J p l e R s m args below meth c Q E nL M' kc ks (pc + 3) lo (.int r :: st)) : J p l e R s m args below meth c Q E nL M kc ks pc lo (.int y0 :: .ref b :: st) :=
  j_cV_I (n := 1) (As := [.int y0]) C co_X8 rfl wd_1583 wd_1584 h.1 (c_X8_recast l E M b y0 P h.2) ⟨wd_1585, wd_1582, wd_106, by decide +kernel, by decide +kernel, by decide +kernel⟩ rfl rfl hR hf rfl hst d kk
theorem cs_L_198 (C : Cx p l s m args meth c cc nL RL ret E) {y0 : Nat} {y1 : Int32} {y2 : Int32} {y3 : Nat} {P : Int32 → Mm → Prop} (hR : rm_L_setContract.frames + 1 ≤ R.frames ∧ 8 + (5 + 11) + rm_L_setContract.locals ≤ R.locals) (hf : kc + 2 ≤ R.cells ∧ ks + 12 ≤ R.slots) (hst : (st.map fun v => v.category).sum ≤ 8) (d : decode cc pc = .ok (.invokestatic 198, 3)) (h : w_L_setContract M y0 y1 y2 y3 P) (kk : ∀ r M', P r M' → J p l e R s m args below meth c Q E nL M' (kc + 2) (ks + 12) (pc + 3) lo (.int r :: st)) : J p l e R s m args below meth c Q E nL M kc ks pc lo (.ref y3 :: .int y2 :: .int y1 :: .ref y0 :: st) :=
  j_cSW (n := 4) (As := [.ref y0, .int y1, .int y2, .ref y3]) C (c_L_setContract l E M y0 y1 y2 y3 P h) wd_1104 wd_1102 wd_100 wd_1103 ⟨by decide +kernel, by decide +kernel, by decide +kernel⟩ rfl rfl hR hf rfl hst d kk
theorem cs_L_200 (C : Cx p l s m args meth c cc nL RL ret E) {b : Nat} {y0 : Int32} {y1 : Int32} {P : Int32 → Mm → Prop} (hR : rm_X8_setContract.frames + 1 ≤ R.frames ∧ 8 + (4 + 11) + rm_X8_setContract.locals ≤ R.locals) (hf : kc ≤ R.cells ∧ ks ≤ R.slots) (hst : (st.map fun v => v.category).sum ≤ 8) (d : decode cc pc = .ok (.invokevirtual 200, 3)) (h : zk M b = 8 ∧ w_X8_setContract M b y0 y1 P) (kk : ∀ r M', P r M' → J p l e R s m args below meth c Q E nL M' kc ks (pc + 3) lo (.int r :: st)) : J p l e R s m args below meth c Q E nL M kc ks pc lo (.int y1 :: .int y0 :: .ref b :: st) :=
  j_cV_I (n := 2) (As := [.int y0, .int y1]) C co_X8 rfl wd_1587 wd_1588 h.1 (c_X8_setContract l E M b y0 y1 P h.2) ⟨wd_1589, wd_1586, wd_106, by decide +kernel, by decide +kernel, by decide +kernel⟩ rfl rfl hR hf rfl hst d kk
theorem cs_L_201 (C : Cx p l s m args meth c cc nL RL ret E) {b : Nat} {P : Int32 → Mm → Prop} (hR : rm_X7_undo.frames + 1 ≤ R.frames ∧ 8 + (1 + 11) + rm_X7_undo.locals ≤ R.locals) (hf : kc ≤ R.cells ∧ ks ≤ R.slots) (hst : (st.map fun v => v.category).sum ≤ 8) (d : decode cc pc = .ok (.invokevirtual 201, 3)) (h : zk M b = 7 ∧ w_X7_undo M b P) (kk : ∀ r M', P r M' → J p l e R s m args below meth c Q E nL M' kc ks (pc + 3) lo (.int r :: st)) : J p l e R s m args below meth c Q E nL M kc ks pc lo (.ref b :: st) :=
  j_cV_I (n := 0) (As := []) C co_X7 rfl wd_407 wd_408 h.1 (c_X7_undo l E M b P h.2) ⟨wd_409, wd_406, wd_101, by decide +kernel, by decide +kernel, by decide +kernel⟩ rfl rfl hR hf rfl hst d kk
theorem cs_L_204 (C : Cx p l s m args meth c cc nL RL ret E) {b : Nat} {P : Int32 → Mm → Prop} (hR : rm_X8_undo.frames + 1 ≤ R.frames ∧ 8 + (1 + 11) + rm_X8_undo.locals ≤ R.locals) (hf : kc ≤ R.cells ∧ ks ≤ R.slots) (hst : (st.map fun v => v.category).sum ≤ 8) (d : decode cc pc = .ok (.invokevirtual 204, 3)) (h : zk M b = 8 ∧ w_X8_undo M b P) (kk : ∀ r M', P r M' → J p l e R s m args below meth c Q E nL M' kc ks (pc + 3) lo (.int r :: st)) : J p l e R s m args below meth c Q E nL M kc ks pc lo (.ref b :: st) :=
  j_cV_I (n := 0) (As := []) C co_X8 rfl wd_1591 wd_1592 h.1 (c_X8_undo l E M b P h.2) ⟨wd_1593, wd_1590, wd_106, by decide +kernel, by decide +kernel, by decide +kernel⟩ rfl rfl hR hf rfl hst d kk
theorem cs_L_205 (C : Cx p l s m args meth c cc nL RL ret E) {y0 : Nat} {y1 : Int32} {y2 : Nat} {P : Int32 → Mm → Prop} (hR : rm_L_saveSnapshot.frames + 1 ≤ R.frames ∧ 8 + (4 + 11) + rm_L_saveSnapshot.locals ≤ R.locals) (hf : kc + 1 ≤ R.cells ∧ ks + 6 ≤ R.slots) (hst : (st.map fun v => v.category).sum ≤ 8) (d : decode cc pc = .ok (.invokestatic 205, 3)) (h : w_L_saveSnapshot M y0 y1 y2 P) (kk : ∀ r M', P r M' → J p l e R s m args below meth c Q E nL M' (kc + 1) (ks + 6) (pc + 3) lo (.int r :: st)) : J p l e R s m args below meth c Q E nL M kc ks pc lo (.ref y2 :: .int y1 :: .ref y0 :: st) :=
  j_cSW (n := 3) (As := [.ref y0, .int y1, .ref y2]) C (c_L_saveSnapshot l E M y0 y1 y2 P h) wd_1111 wd_1109 wd_100 wd_1110 ⟨by decide +kernel, by decide +kernel, by decide +kernel⟩ rfl rfl hR hf rfl hst d kk
theorem cs_L_207 (C : Cx p l s m args meth c cc nL RL ret E) {b : Nat} {y0 : Int32} {P : Int32 → Mm → Prop} (hR : rm_X8_saveSnapshot.frames + 1 ≤ R.frames ∧ 8 + (3 + 11) + rm_X8_saveSnapshot.locals ≤ R.locals) (hf : kc ≤ R.cells ∧ ks ≤ R.slots) (hst : (st.map fun v => v.category).sum ≤ 8) (d : decode cc pc = .ok (.invokevirtual 207, 3)) (h : zk M b = 8 ∧ w_X8_saveSnapshot M b y0 P) (kk : ∀ r M', P r M' → J p l e R s m args below meth c Q E nL M' kc ks (pc + 3) lo (.int r :: st)) : J p l e R s m args below meth c Q E nL M kc ks pc lo (.int y0 :: .ref b :: st) :=
  j_cV_I (n := 1) (As := [.int y0]) C co_X8 rfl wd_1595 wd_1596 h.1 (c_X8_saveSnapshot l E M b y0 P h.2) ⟨wd_1597, wd_1594, wd_106, by decide +kernel, by decide +kernel, by decide +kernel⟩ rfl rfl hR hf rfl hst d kk
theorem cs_L_208 (C : Cx p l s m args meth c cc nL RL ret E) {y0 : Nat} {y1 : Int32} {y2 : Nat} {P : Int32 → Mm → Prop} (hR : rm_L_restoreSnapshot.frames + 1 ≤ R.frames ∧ 8 + (4 + 11) + rm_L_restoreSnapshot.locals ≤ R.locals) (hf : kc + 2 ≤ R.cells ∧ ks + 12 ≤ R.slots) (hst : (st.map fun v => v.category).sum ≤ 8) (d : decode cc pc = .ok (.invokestatic 208, 3)) (h : w_L_restoreSnapshot M y0 y1 y2 P) (kk : ∀ r M', P r M' → J p l e R s m args below meth c Q E nL M' (kc + 2) (ks + 12) (pc + 3) lo (.int r :: st)) : J p l e R s m args below meth c Q E nL M kc ks pc lo (.ref y2 :: .int y1 :: .ref y0 :: st) :=
  j_cSW (n := 3) (As := [.ref y0, .int y1, .ref y2]) C (c_L_restoreSnapshot l E M y0 y1 y2 P h) wd_1118 wd_1116 wd_100 wd_1117 ⟨by decide +kernel, by decide +kernel, by decide +kernel⟩ rfl rfl hR hf rfl hst d kk
theorem cs_L_210 (C : Cx p l s m args meth c cc nL RL ret E) {b : Nat} {y0 : Int32} {P : Int32 → Mm → Prop} (hR : rm_X8_restoreSnapshot.frames + 1 ≤ R.frames ∧ 8 + (2 + 11) + rm_X8_restoreSnapshot.locals ≤ R.locals) (hf : kc ≤ R.cells ∧ ks ≤ R.slots) (hst : (st.map fun v => v.category).sum ≤ 8) (d : decode cc pc = .ok (.invokevirtual 210, 3)) (h : zk M b = 8 ∧ w_X8_restoreSnapshot M b y0 P) (kk : ∀ r M', P r M' → J p l e R s m args below meth c Q E nL M' kc ks (pc + 3) lo (.int r :: st)) : J p l e R s m args below meth c Q E nL M kc ks pc lo (.int y0 :: .ref b :: st) :=
  j_cV_I (n := 1) (As := [.int y0]) C co_X8 rfl wd_1603 wd_1604 h.1 (c_X8_restoreSnapshot l E M b y0 P h.2) ⟨wd_1605, wd_1602, wd_106, by decide +kernel, by decide +kernel, by decide +kernel⟩ rfl rfl hR hf rfl hst d kk
def l_L_law_23 (L : Nat) (xs : Nat → Int32) (P : Int32 → Mm → Prop) (K2086 : Mm → Prop) : Nat → Mm → Nat → Nat → Nat → Int32 → Prop
  | 0, _, _, _, _, _ => False
  | n + 1, M, x1, x2, x3, x4 => (if ((nI L) - (6 : Int32)) < x4 then K2086 M else vp_in x4 L ∧ (if ((xs x4.toNatClampNeg) &&& (31 : Int32)) = (0 : Int32) then vp_in (x4 + (1 : Int32)) L ∧ vp_in (x4 + (2 : Int32)) L ∧ vp_in (x4 + (3 : Int32)) L ∧ vp_in (x4 + (4 : Int32)) L ∧ vp_in (x4 + (5 : Int32)) L ∧ zk M x1 = 7 ∧ w_X7_append M x1 (xs (x4 + (1 : Int32)).toNatClampNeg) (xs (x4 + (2 : Int32)).toNatClampNeg) (xs (x4 + (3 : Int32)).toNatClampNeg) (xs (x4 + (4 : Int32)).toNatClampNeg) (xs (x4 + (5 : Int32)).toNatClampNeg) (fun r6 M6 => vp_in (x4 + (1 : Int32)) L ∧ vp_in (x4 + (2 : Int32)) L ∧ vp_in (x4 + (3 : Int32)) L ∧ vp_in (x4 + (4 : Int32)) L ∧ vp_in (x4 + (5 : Int32)) L ∧ zk M6 x2 = 8 ∧ w_X8_append M6 x2 (xs (x4 + (1 : Int32)).toNatClampNeg) (xs (x4 + (2 : Int32)).toNatClampNeg) (xs (x4 + (3 : Int32)).toNatClampNeg) (xs (x4 + (4 : Int32)).toNatClampNeg) (xs (x4 + (5 : Int32)).toNatClampNeg) (fun r7 M7 => (if r6 = r7 then l_L_law_23 L xs P K2086 n M7 x1 x2 x3 (x4 + (6 : Int32)) else P (0 : Int32) M7))) else (if ((xs x4.toNatClampNeg) &&& (31 : Int32)) = (1 : Int32) then vp_in (x4 + (1 : Int32)) L ∧ w_L_parse M x1 (xs (x4 + (1 : Int32)).toNatClampNeg) x3 (fun r8 M8 => vp_in (x4 + (1 : Int32)) L ∧ zk M8 x2 = 8 ∧ w_X8_parse M8 x2 (xs (x4 + (1 : Int32)).toNatClampNeg) (fun r9 M9 => zk M9 x2 = 8 ∧ w_X8_thrown M9 x2 (fun r10 M10 => (if r10 = r8 then (if r8 = 0 then zk M10 x3 = 11 ∧ vp_in (0 : Int32) (zl M10 x3) ∧ (if (lg_cmp (zJ M10 x3 (0 : Int32).toNatClampNeg) r9.toInt64) = 0 then l_L_law_23 L xs P K2086 n M10 x1 x2 x3 (x4 + (6 : Int32)) else P (0 : Int32) M10) else l_L_law_23 L xs P K2086 n M10 x1 x2 x3 (x4 + (6 : Int32))) else P (0 : Int32) M10)))) else (if ((xs x4.toNatClampNeg) &&& (31 : Int32)) = (2 : Int32) then zk M x1 = 7 ∧ w_X7_errorPosition M x1 (fun r11 M11 => zk M11 x2 = 8 ∧ w_X8_errorPosition M11 x2 (fun r12 M12 => (if r11 = r12 then l_L_law_23 L xs P K2086 n M12 x1 x2 x3 (x4 + (6 : Int32)) else P (0 : Int32) M12))) else (if ((xs x4.toNatClampNeg) &&& (31 : Int32)) = (3 : Int32) then vp_in (x4 + (1 : Int32)) L ∧ w_L_size M x1 (xs (x4 + (1 : Int32)).toNatClampNeg) x3 (fun r13 M13 => vp_in (x4 + (1 : Int32)) L ∧ zk M13 x2 = 8 ∧ w_X8_size M13 x2 (xs (x4 + (1 : Int32)).toNatClampNeg) (fun r14 M14 => zk M14 x2 = 8 ∧ w_X8_thrown M14 x2 (fun r15 M15 => (if r15 = r13 then (if r13 = 0 then zk M15 x3 = 11 ∧ vp_in (0 : Int32) (zl M15 x3) ∧ (if (lg_cmp (zJ M15 x3 (0 : Int32).toNatClampNeg) r14.toInt64) = 0 then l_L_law_23 L xs P K2086 n M15 x1 x2 x3 (x4 + (6 : Int32)) else P (0 : Int32) M15) else l_L_law_23 L xs P K2086 n M15 x1 x2 x3 (x4 + (6 : Int32))) else P (0 : Int32) M15)))) else (if ((xs x4.toNatClampNeg) &&& (31 : Int32)) = (4 : Int32) then vp_in (x4 + (1 : Int32)) L ∧ w_L_find M x1 (xs (x4 + (1 : Int32)).toNatClampNeg) x3 (fun r16 M16 => vp_in (x4 + (1 : Int32)) L ∧ zk M16 x2 = 8 ∧ w_X8_find M16 x2 (xs (x4 + (1 : Int32)).toNatClampNeg) (fun r17 M17 => zk M17 x2 = 8 ∧ w_X8_thrown M17 x2 (fun r18 M18 => (if r18 = r16 then (if r16 = 0 then zk M18 x3 = 11 ∧ vp_in (0 : Int32) (zl M18 x3) ∧ (if (lg_cmp (zJ M18 x3 (0 : Int32).toNatClampNeg) r17.toInt64) = 0 then l_L_law_23 L xs P K2086 n M18 x1 x2 x3 (x4 + (6 : Int32)) else P (0 : Int32) M18) else l_L_law_23 L xs P K2086 n M18 x1 x2 x3 (x4 + (6 : Int32))) else P (0 : Int32) M18)))) else (if ((xs x4.toNatClampNeg) &&& (31 : Int32)) = (5 : Int32) then vp_in (x4 + (1 : Int32)) L ∧ w_L_turn M x1 (xs (x4 + (1 : Int32)).toNatClampNeg) x3 (fun r19 M19 => vp_in (x4 + (1 : Int32)) L ∧ zk M19 x2 = 8 ∧ w_X8_turn M19 x2 (xs (x4 + (1 : Int32)).toNatClampNeg) (fun r20 M20 => zk M20 x2 = 8 ∧ w_X8_thrown M20 x2 (fun r21 M21 => (if r21 = r19 then (if r19 = 0 then zk M21 x3 = 11 ∧ vp_in (0 : Int32) (zl M21 x3) ∧ (if (lg_cmp (zJ M21 x3 (0 : Int32).toNatClampNeg) r20.toInt64) = 0 then l_L_law_23 L xs P K2086 n M21 x1 x2 x3 (x4 + (6 : Int32)) else P (0 : Int32) M21) else l_L_law_23 L xs P K2086 n M21 x1 x2 x3 (x4 + (6 : Int32))) else P (0 : Int32) M21)))) else (if ((xs x4.toNatClampNeg) &&& (31 : Int32)) = (6 : Int32) then vp_in (x4 + (1 : Int32)) L ∧ vp_in (x4 + (2 : Int32)) L ∧ w_L_player M x1 (xs (x4 + (1 : Int32)).toNatClampNeg) (xs (x4 + (2 : Int32)).toNatClampNeg) x3 (fun r22 M22 => vp_in (x4 + (1 : Int32)) L ∧ vp_in (x4 + (2 : Int32)) L ∧ zk M22 x2 = 8 ∧ w_X8_player M22 x2 (xs (x4 + (1 : Int32)).toNatClampNeg) (xs (x4 + (2 : Int32)).toNatClampNeg) (fun r23 M23 => zk M23 x2 = 8 ∧ w_X8_thrown M23 x2 (fun r24 M24 => (if r24 = r22 then (if r22 = 0 then zk M24 x3 = 11 ∧ vp_in (0 : Int32) (zl M24 x3) ∧ (if (lg_cmp (zJ M24 x3 (0 : Int32).toNatClampNeg) r23.toInt64) = 0 then l_L_law_23 L xs P K2086 n M24 x1 x2 x3 (x4 + (6 : Int32)) else P (0 : Int32) M24) else l_L_law_23 L xs P K2086 n M24 x1 x2 x3 (x4 + (6 : Int32))) else P (0 : Int32) M24)))) else (if ((xs x4.toNatClampNeg) &&& (31 : Int32)) = (7 : Int32) then vp_in (x4 + (1 : Int32)) L ∧ vp_in (x4 + (2 : Int32)) L ∧ w_L_isFree M x1 (xs (x4 + (1 : Int32)).toNatClampNeg) (xs (x4 + (2 : Int32)).toNatClampNeg) x3 (fun r25 M25 => vp_in (x4 + (1 : Int32)) L ∧ vp_in (x4 + (2 : Int32)) L ∧ zk M25 x2 = 8 ∧ w_X8_isFree M25 x2 (xs (x4 + (1 : Int32)).toNatClampNeg) (xs (x4 + (2 : Int32)).toNatClampNeg) (fun r26 M26 => zk M26 x2 = 8 ∧ w_X8_thrown M26 x2 (fun r27 M27 => (if r27 = r25 then (if r25 = 0 then zk M27 x3 = 11 ∧ vp_in (0 : Int32) (zl M27 x3) ∧ (if r26 = 0 then (if (lg_cmp (zJ M27 x3 (0 : Int32).toNatClampNeg) (0 : Int64)) = 0 then l_L_law_23 L xs P K2086 n M27 x1 x2 x3 (x4 + (6 : Int32)) else P (0 : Int32) M27) else (if (lg_cmp (zJ M27 x3 (0 : Int32).toNatClampNeg) (1 : Int64)) = 0 then l_L_law_23 L xs P K2086 n M27 x1 x2 x3 (x4 + (6 : Int32)) else P (0 : Int32) M27)) else l_L_law_23 L xs P K2086 n M27 x1 x2 x3 (x4 + (6 : Int32))) else P (0 : Int32) M27)))) else (if ((xs x4.toNatClampNeg) &&& (31 : Int32)) = (8 : Int32) then vp_in (x4 + (1 : Int32)) L ∧ vp_in (x4 + (2 : Int32)) L ∧ w_L_work M x1 (xs (x4 + (1 : Int32)).toNatClampNeg) (xs (x4 + (2 : Int32)).toNatClampNeg) x3 (fun r28 M28 => vp_in (x4 + (1 : Int32)) L ∧ vp_in (x4 + (2 : Int32)) L ∧ zk M28 x2 = 8 ∧ w_X8_work M28 x2 (xs (x4 + (1 : Int32)).toNatClampNeg) (xs (x4 + (2 : Int32)).toNatClampNeg) (fun r29 M29 => zk M29 x2 = 8 ∧ w_X8_thrown M29 x2 (fun r30 M30 => (if r30 = r28 then (if r28 = 0 then zk M30 x3 = 11 ∧ vp_in (0 : Int32) (zl M30 x3) ∧ (if (lg_cmp (zJ M30 x3 (0 : Int32).toNatClampNeg) r29.toInt64) = 0 then l_L_law_23 L xs P K2086 n M30 x1 x2 x3 (x4 + (6 : Int32)) else P (0 : Int32) M30) else l_L_law_23 L xs P K2086 n M30 x1 x2 x3 (x4 + (6 : Int32))) else P (0 : Int32) M30)))) else (if ((xs x4.toNatClampNeg) &&& (31 : Int32)) = (9 : Int32) then vp_in (x4 + (1 : Int32)) L ∧ vp_in (x4 + (2 : Int32)) L ∧ w_L_seat M x1 (xs (x4 + (1 : Int32)).toNatClampNeg) (xs (x4 + (2 : Int32)).toNatClampNeg) x3 (fun r31 M31 => vp_in (x4 + (1 : Int32)) L ∧ vp_in (x4 + (2 : Int32)) L ∧ zk M31 x2 = 8 ∧ w_X8_seat M31 x2 (xs (x4 + (1 : Int32)).toNatClampNeg) (xs (x4 + (2 : Int32)).toNatClampNeg) (fun r32 M32 => zk M32 x2 = 8 ∧ w_X8_thrown M32 x2 (fun r33 M33 => (if r33 = r31 then (if r31 = 0 then zk M33 x3 = 11 ∧ vp_in (0 : Int32) (zl M33 x3) ∧ (if (lg_cmp (zJ M33 x3 (0 : Int32).toNatClampNeg) r32.toInt64) = 0 then l_L_law_23 L xs P K2086 n M33 x1 x2 x3 (x4 + (6 : Int32)) else P (0 : Int32) M33) else l_L_law_23 L xs P K2086 n M33 x1 x2 x3 (x4 + (6 : Int32))) else P (0 : Int32) M33)))) else (if ((xs x4.toNatClampNeg) &&& (31 : Int32)) = (10 : Int32) then vp_in (x4 + (1 : Int32)) L ∧ vp_in (x4 + (2 : Int32)) L ∧ w_L_service M x1 (xs (x4 + (1 : Int32)).toNatClampNeg) (xs (x4 + (2 : Int32)).toNatClampNeg) x3 (fun r34 M34 => vp_in (x4 + (1 : Int32)) L ∧ vp_in (x4 + (2 : Int32)) L ∧ zk M34 x2 = 8 ∧ w_X8_service M34 x2 (xs (x4 + (1 : Int32)).toNatClampNeg) (xs (x4 + (2 : Int32)).toNatClampNeg) (fun r35 M35 => zk M35 x2 = 8 ∧ w_X8_thrown M35 x2 (fun r36 M36 => (if r36 = r34 then (if r34 = 0 then zk M36 x3 = 11 ∧ vp_in (0 : Int32) (zl M36 x3) ∧ (if (lg_cmp (zJ M36 x3 (0 : Int32).toNatClampNeg) r35.toInt64) = 0 then l_L_law_23 L xs P K2086 n M36 x1 x2 x3 (x4 + (6 : Int32)) else P (0 : Int32) M36) else l_L_law_23 L xs P K2086 n M36 x1 x2 x3 (x4 + (6 : Int32))) else P (0 : Int32) M36)))) else (if ((xs x4.toNatClampNeg) &&& (31 : Int32)) = (11 : Int32) then vp_in (x4 + (1 : Int32)) L ∧ vp_in (x4 + (2 : Int32)) L ∧ vp_in (x4 + (3 : Int32)) L ∧ w_L_cast M x1 (xs (x4 + (1 : Int32)).toNatClampNeg) (xs (x4 + (2 : Int32)).toNatClampNeg) (xs (x4 + (3 : Int32)).toNatClampNeg) x3 (fun r37 M37 => vp_in (x4 + (1 : Int32)) L ∧ vp_in (x4 + (2 : Int32)) L ∧ vp_in (x4 + (3 : Int32)) L ∧ zk M37 x2 = 8 ∧ w_X8_cast M37 x2 (xs (x4 + (1 : Int32)).toNatClampNeg) (xs (x4 + (2 : Int32)).toNatClampNeg) (xs (x4 + (3 : Int32)).toNatClampNeg) (fun r38 M38 => zk M38 x2 = 8 ∧ w_X8_thrown M38 x2 (fun r39 M39 => (if r39 = r37 then (if r37 = 0 then zk M39 x3 = 11 ∧ vp_in (0 : Int32) (zl M39 x3) ∧ (if (lg_cmp (zJ M39 x3 (0 : Int32).toNatClampNeg) r38.toInt64) = 0 then l_L_law_23 L xs P K2086 n M39 x1 x2 x3 (x4 + (6 : Int32)) else P (0 : Int32) M39) else l_L_law_23 L xs P K2086 n M39 x1 x2 x3 (x4 + (6 : Int32))) else P (0 : Int32) M39)))) else (if ((xs x4.toNatClampNeg) &&& (31 : Int32)) = (12 : Int32) then vp_in (x4 + (1 : Int32)) L ∧ vp_in (x4 + (2 : Int32)) L ∧ w_L_serviceAt M x1 (xs (x4 + (1 : Int32)).toNatClampNeg) (xs (x4 + (2 : Int32)).toNatClampNeg) x3 (fun r40 M40 => vp_in (x4 + (1 : Int32)) L ∧ vp_in (x4 + (2 : Int32)) L ∧ zk M40 x2 = 8 ∧ w_X8_serviceAt M40 x2 (xs (x4 + (1 : Int32)).toNatClampNeg) (xs (x4 + (2 : Int32)).toNatClampNeg) (fun r41 M41 => zk M41 x2 = 8 ∧ w_X8_thrown M41 x2 (fun r42 M42 => (if r42 = r40 then (if r40 = 0 then zk M42 x3 = 11 ∧ vp_in (0 : Int32) (zl M42 x3) ∧ (if (lg_cmp (zJ M42 x3 (0 : Int32).toNatClampNeg) r41.toInt64) = 0 then l_L_law_23 L xs P K2086 n M42 x1 x2 x3 (x4 + (6 : Int32)) else P (0 : Int32) M42) else l_L_law_23 L xs P K2086 n M42 x1 x2 x3 (x4 + (6 : Int32))) else P (0 : Int32) M42)))) else (if ((xs x4.toNatClampNeg) &&& (31 : Int32)) = (13 : Int32) then vp_in (x4 + (1 : Int32)) L ∧ vp_in (x4 + (2 : Int32)) L ∧ w_L_fewestDoublings M x1 (xs (x4 + (1 : Int32)).toNatClampNeg) (xs (x4 + (2 : Int32)).toNatClampNeg) x3 (fun r43 M43 => vp_in (x4 + (1 : Int32)) L ∧ vp_in (x4 + (2 : Int32)) L ∧ zk M43 x2 = 8 ∧ w_X8_fewestDoublings M43 x2 (xs (x4 + (1 : Int32)).toNatClampNeg) (xs (x4 + (2 : Int32)).toNatClampNeg) (fun r44 M44 => zk M44 x2 = 8 ∧ w_X8_thrown M44 x2 (fun r45 M45 => (if r45 = r43 then (if r43 = 0 then zk M45 x3 = 11 ∧ vp_in (0 : Int32) (zl M45 x3) ∧ (if (lg_cmp (zJ M45 x3 (0 : Int32).toNatClampNeg) r44.toInt64) = 0 then l_L_law_23 L xs P K2086 n M45 x1 x2 x3 (x4 + (6 : Int32)) else P (0 : Int32) M45) else l_L_law_23 L xs P K2086 n M45 x1 x2 x3 (x4 + (6 : Int32))) else P (0 : Int32) M45)))) else (if ((xs x4.toNatClampNeg) &&& (31 : Int32)) = (14 : Int32) then vp_in (x4 + (1 : Int32)) L ∧ vp_in (x4 + (2 : Int32)) L ∧ vp_in (x4 + (3 : Int32)) L ∧ vp_in (x4 + (4 : Int32)) L ∧ (if (xs (x4 + (4 : Int32)).toNatClampNeg) = 0 then w_L_whyNot M x1 (xs (x4 + (1 : Int32)).toNatClampNeg) (xs (x4 + (2 : Int32)).toNatClampNeg) (xs (x4 + (3 : Int32)).toNatClampNeg) (0 : Int32) x3 (fun r46 M46 => vp_in (x4 + (1 : Int32)) L ∧ vp_in (x4 + (2 : Int32)) L ∧ vp_in (x4 + (3 : Int32)) L ∧ vp_in (x4 + (4 : Int32)) L ∧ (if (xs (x4 + (4 : Int32)).toNatClampNeg) = 0 then zk M46 x2 = 8 ∧ w_X8_whyNot M46 x2 (xs (x4 + (1 : Int32)).toNatClampNeg) (xs (x4 + (2 : Int32)).toNatClampNeg) (xs (x4 + (3 : Int32)).toNatClampNeg) (0 : Int32) (fun r47 M47 => zk M47 x2 = 8 ∧ w_X8_thrown M47 x2 (fun r48 M48 => (if r48 = r46 then (if r46 = 0 then zk M48 x3 = 11 ∧ vp_in (0 : Int32) (zl M48 x3) ∧ (if (lg_cmp (zJ M48 x3 (0 : Int32).toNatClampNeg) r47.toInt64) = 0 then l_L_law_23 L xs P K2086 n M48 x1 x2 x3 (x4 + (6 : Int32)) else P (0 : Int32) M48) else l_L_law_23 L xs P K2086 n M48 x1 x2 x3 (x4 + (6 : Int32))) else P (0 : Int32) M48))) else zk M46 x2 = 8 ∧ w_X8_whyNot M46 x2 (xs (x4 + (1 : Int32)).toNatClampNeg) (xs (x4 + (2 : Int32)).toNatClampNeg) (xs (x4 + (3 : Int32)).toNatClampNeg) (1 : Int32) (fun r49 M49 => zk M49 x2 = 8 ∧ w_X8_thrown M49 x2 (fun r50 M50 => (if r50 = r46 then (if r46 = 0 then zk M50 x3 = 11 ∧ vp_in (0 : Int32) (zl M50 x3) ∧ (if (lg_cmp (zJ M50 x3 (0 : Int32).toNatClampNeg) r49.toInt64) = 0 then l_L_law_23 L xs P K2086 n M50 x1 x2 x3 (x4 + (6 : Int32)) else P (0 : Int32) M50) else l_L_law_23 L xs P K2086 n M50 x1 x2 x3 (x4 + (6 : Int32))) else P (0 : Int32) M50))))) else w_L_whyNot M x1 (xs (x4 + (1 : Int32)).toNatClampNeg) (xs (x4 + (2 : Int32)).toNatClampNeg) (xs (x4 + (3 : Int32)).toNatClampNeg) (1 : Int32) x3 (fun r51 M51 => vp_in (x4 + (1 : Int32)) L ∧ vp_in (x4 + (2 : Int32)) L ∧ vp_in (x4 + (3 : Int32)) L ∧ vp_in (x4 + (4 : Int32)) L ∧ (if (xs (x4 + (4 : Int32)).toNatClampNeg) = 0 then zk M51 x2 = 8 ∧ w_X8_whyNot M51 x2 (xs (x4 + (1 : Int32)).toNatClampNeg) (xs (x4 + (2 : Int32)).toNatClampNeg) (xs (x4 + (3 : Int32)).toNatClampNeg) (0 : Int32) (fun r52 M52 => zk M52 x2 = 8 ∧ w_X8_thrown M52 x2 (fun r53 M53 => (if r53 = r51 then (if r51 = 0 then zk M53 x3 = 11 ∧ vp_in (0 : Int32) (zl M53 x3) ∧ (if (lg_cmp (zJ M53 x3 (0 : Int32).toNatClampNeg) r52.toInt64) = 0 then l_L_law_23 L xs P K2086 n M53 x1 x2 x3 (x4 + (6 : Int32)) else P (0 : Int32) M53) else l_L_law_23 L xs P K2086 n M53 x1 x2 x3 (x4 + (6 : Int32))) else P (0 : Int32) M53))) else zk M51 x2 = 8 ∧ w_X8_whyNot M51 x2 (xs (x4 + (1 : Int32)).toNatClampNeg) (xs (x4 + (2 : Int32)).toNatClampNeg) (xs (x4 + (3 : Int32)).toNatClampNeg) (1 : Int32) (fun r54 M54 => zk M54 x2 = 8 ∧ w_X8_thrown M54 x2 (fun r55 M55 => (if r55 = r51 then (if r51 = 0 then zk M55 x3 = 11 ∧ vp_in (0 : Int32) (zl M55 x3) ∧ (if (lg_cmp (zJ M55 x3 (0 : Int32).toNatClampNeg) r54.toInt64) = 0 then l_L_law_23 L xs P K2086 n M55 x1 x2 x3 (x4 + (6 : Int32)) else P (0 : Int32) M55) else l_L_law_23 L xs P K2086 n M55 x1 x2 x3 (x4 + (6 : Int32))) else P (0 : Int32) M55)))))) else (if ((xs x4.toNatClampNeg) &&& (31 : Int32)) = (15 : Int32) then vp_in (x4 + (1 : Int32)) L ∧ vp_in (x4 + (2 : Int32)) L ∧ vp_in (x4 + (3 : Int32)) L ∧ vp_in (x4 + (4 : Int32)) L ∧ (if (xs (x4 + (4 : Int32)).toNatClampNeg) = 0 then w_L_earliest M x1 (xs (x4 + (1 : Int32)).toNatClampNeg) (xs (x4 + (2 : Int32)).toNatClampNeg) (xs (x4 + (3 : Int32)).toNatClampNeg) (0 : Int32) x3 (fun r56 M56 => vp_in (x4 + (1 : Int32)) L ∧ vp_in (x4 + (2 : Int32)) L ∧ vp_in (x4 + (3 : Int32)) L ∧ vp_in (x4 + (4 : Int32)) L ∧ (if (xs (x4 + (4 : Int32)).toNatClampNeg) = 0 then zk M56 x2 = 8 ∧ w_X8_earliest M56 x2 (xs (x4 + (1 : Int32)).toNatClampNeg) (xs (x4 + (2 : Int32)).toNatClampNeg) (xs (x4 + (3 : Int32)).toNatClampNeg) (0 : Int32) (fun r57 M57 => zk M57 x2 = 8 ∧ w_X8_thrown M57 x2 (fun r58 M58 => (if r58 = r56 then (if r56 = 0 then zk M58 x3 = 11 ∧ vp_in (0 : Int32) (zl M58 x3) ∧ (if (lg_cmp (zJ M58 x3 (0 : Int32).toNatClampNeg) r57.toInt64) = 0 then l_L_law_23 L xs P K2086 n M58 x1 x2 x3 (x4 + (6 : Int32)) else P (0 : Int32) M58) else l_L_law_23 L xs P K2086 n M58 x1 x2 x3 (x4 + (6 : Int32))) else P (0 : Int32) M58))) else zk M56 x2 = 8 ∧ w_X8_earliest M56 x2 (xs (x4 + (1 : Int32)).toNatClampNeg) (xs (x4 + (2 : Int32)).toNatClampNeg) (xs (x4 + (3 : Int32)).toNatClampNeg) (1 : Int32) (fun r59 M59 => zk M59 x2 = 8 ∧ w_X8_thrown M59 x2 (fun r60 M60 => (if r60 = r56 then (if r56 = 0 then zk M60 x3 = 11 ∧ vp_in (0 : Int32) (zl M60 x3) ∧ (if (lg_cmp (zJ M60 x3 (0 : Int32).toNatClampNeg) r59.toInt64) = 0 then l_L_law_23 L xs P K2086 n M60 x1 x2 x3 (x4 + (6 : Int32)) else P (0 : Int32) M60) else l_L_law_23 L xs P K2086 n M60 x1 x2 x3 (x4 + (6 : Int32))) else P (0 : Int32) M60))))) else w_L_earliest M x1 (xs (x4 + (1 : Int32)).toNatClampNeg) (xs (x4 + (2 : Int32)).toNatClampNeg) (xs (x4 + (3 : Int32)).toNatClampNeg) (1 : Int32) x3 (fun r61 M61 => vp_in (x4 + (1 : Int32)) L ∧ vp_in (x4 + (2 : Int32)) L ∧ vp_in (x4 + (3 : Int32)) L ∧ vp_in (x4 + (4 : Int32)) L ∧ (if (xs (x4 + (4 : Int32)).toNatClampNeg) = 0 then zk M61 x2 = 8 ∧ w_X8_earliest M61 x2 (xs (x4 + (1 : Int32)).toNatClampNeg) (xs (x4 + (2 : Int32)).toNatClampNeg) (xs (x4 + (3 : Int32)).toNatClampNeg) (0 : Int32) (fun r62 M62 => zk M62 x2 = 8 ∧ w_X8_thrown M62 x2 (fun r63 M63 => (if r63 = r61 then (if r61 = 0 then zk M63 x3 = 11 ∧ vp_in (0 : Int32) (zl M63 x3) ∧ (if (lg_cmp (zJ M63 x3 (0 : Int32).toNatClampNeg) r62.toInt64) = 0 then l_L_law_23 L xs P K2086 n M63 x1 x2 x3 (x4 + (6 : Int32)) else P (0 : Int32) M63) else l_L_law_23 L xs P K2086 n M63 x1 x2 x3 (x4 + (6 : Int32))) else P (0 : Int32) M63))) else zk M61 x2 = 8 ∧ w_X8_earliest M61 x2 (xs (x4 + (1 : Int32)).toNatClampNeg) (xs (x4 + (2 : Int32)).toNatClampNeg) (xs (x4 + (3 : Int32)).toNatClampNeg) (1 : Int32) (fun r64 M64 => zk M64 x2 = 8 ∧ w_X8_thrown M64 x2 (fun r65 M65 => (if r65 = r61 then (if r61 = 0 then zk M65 x3 = 11 ∧ vp_in (0 : Int32) (zl M65 x3) ∧ (if (lg_cmp (zJ M65 x3 (0 : Int32).toNatClampNeg) r64.toInt64) = 0 then l_L_law_23 L xs P K2086 n M65 x1 x2 x3 (x4 + (6 : Int32)) else P (0 : Int32) M65) else l_L_law_23 L xs P K2086 n M65 x1 x2 x3 (x4 + (6 : Int32))) else P (0 : Int32) M65)))))) else (if ((xs x4.toNatClampNeg) &&& (31 : Int32)) = (16 : Int32) then vp_in (x4 + (1 : Int32)) L ∧ vp_in (x4 + (2 : Int32)) L ∧ w_L_whyNotMove M x1 (xs (x4 + (1 : Int32)).toNatClampNeg) (xs (x4 + (2 : Int32)).toNatClampNeg) x3 (fun r66 M66 => vp_in (x4 + (1 : Int32)) L ∧ vp_in (x4 + (2 : Int32)) L ∧ zk M66 x2 = 8 ∧ w_X8_whyNotMove M66 x2 (xs (x4 + (1 : Int32)).toNatClampNeg) (xs (x4 + (2 : Int32)).toNatClampNeg) (fun r67 M67 => zk M67 x2 = 8 ∧ w_X8_thrown M67 x2 (fun r68 M68 => (if r68 = r66 then (if r66 = 0 then zk M68 x3 = 11 ∧ vp_in (0 : Int32) (zl M68 x3) ∧ (if (lg_cmp (zJ M68 x3 (0 : Int32).toNatClampNeg) r67.toInt64) = 0 then l_L_law_23 L xs P K2086 n M68 x1 x2 x3 (x4 + (6 : Int32)) else P (0 : Int32) M68) else l_L_law_23 L xs P K2086 n M68 x1 x2 x3 (x4 + (6 : Int32))) else P (0 : Int32) M68)))) else (if ((xs x4.toNatClampNeg) &&& (31 : Int32)) = (17 : Int32) then vp_in (x4 + (1 : Int32)) L ∧ w_L_costs M x1 (xs (x4 + (1 : Int32)).toNatClampNeg) x3 (fun r69 M69 => vp_in (x4 + (1 : Int32)) L ∧ zk M69 x2 = 8 ∧ w_X8_costs M69 x2 (xs (x4 + (1 : Int32)).toNatClampNeg) (fun r70 M70 => zk M70 x2 = 8 ∧ w_X8_thrown M70 x2 (fun r71 M71 => (if r71 = r69 then (if r69 = 0 then zk M71 x3 = 11 ∧ vp_in (0 : Int32) (zl M71 x3) ∧ (if (lg_cmp (zJ M71 x3 (0 : Int32).toNatClampNeg) r70.toInt64) = 0 then l_L_law_23 L xs P K2086 n M71 x1 x2 x3 (x4 + (6 : Int32)) else P (0 : Int32) M71) else l_L_law_23 L xs P K2086 n M71 x1 x2 x3 (x4 + (6 : Int32))) else P (0 : Int32) M71)))) else (if ((xs x4.toNatClampNeg) &&& (31 : Int32)) = (18 : Int32) then vp_in (x4 + (1 : Int32)) L ∧ vp_in (x4 + (2 : Int32)) L ∧ vp_in (x4 + (3 : Int32)) L ∧ vp_in (x4 + (4 : Int32)) L ∧ (if (xs (x4 + (4 : Int32)).toNatClampNeg) = 0 then w_L_costsWith M x1 (xs (x4 + (1 : Int32)).toNatClampNeg) (xs (x4 + (2 : Int32)).toNatClampNeg) (xs (x4 + (3 : Int32)).toNatClampNeg) (0 : Int32) x3 (fun r72 M72 => vp_in (x4 + (1 : Int32)) L ∧ vp_in (x4 + (2 : Int32)) L ∧ vp_in (x4 + (3 : Int32)) L ∧ vp_in (x4 + (4 : Int32)) L ∧ (if (xs (x4 + (4 : Int32)).toNatClampNeg) = 0 then zk M72 x2 = 8 ∧ w_X8_costsWith M72 x2 (xs (x4 + (1 : Int32)).toNatClampNeg) (xs (x4 + (2 : Int32)).toNatClampNeg) (xs (x4 + (3 : Int32)).toNatClampNeg) (0 : Int32) (fun r73 M73 => zk M73 x2 = 8 ∧ w_X8_thrown M73 x2 (fun r74 M74 => (if r74 = r72 then (if r72 = 0 then zk M74 x3 = 11 ∧ vp_in (0 : Int32) (zl M74 x3) ∧ (if (lg_cmp (zJ M74 x3 (0 : Int32).toNatClampNeg) r73.toInt64) = 0 then l_L_law_23 L xs P K2086 n M74 x1 x2 x3 (x4 + (6 : Int32)) else P (0 : Int32) M74) else l_L_law_23 L xs P K2086 n M74 x1 x2 x3 (x4 + (6 : Int32))) else P (0 : Int32) M74))) else zk M72 x2 = 8 ∧ w_X8_costsWith M72 x2 (xs (x4 + (1 : Int32)).toNatClampNeg) (xs (x4 + (2 : Int32)).toNatClampNeg) (xs (x4 + (3 : Int32)).toNatClampNeg) (1 : Int32) (fun r75 M75 => zk M75 x2 = 8 ∧ w_X8_thrown M75 x2 (fun r76 M76 => (if r76 = r72 then (if r72 = 0 then zk M76 x3 = 11 ∧ vp_in (0 : Int32) (zl M76 x3) ∧ (if (lg_cmp (zJ M76 x3 (0 : Int32).toNatClampNeg) r75.toInt64) = 0 then l_L_law_23 L xs P K2086 n M76 x1 x2 x3 (x4 + (6 : Int32)) else P (0 : Int32) M76) else l_L_law_23 L xs P K2086 n M76 x1 x2 x3 (x4 + (6 : Int32))) else P (0 : Int32) M76))))) else w_L_costsWith M x1 (xs (x4 + (1 : Int32)).toNatClampNeg) (xs (x4 + (2 : Int32)).toNatClampNeg) (xs (x4 + (3 : Int32)).toNatClampNeg) (1 : Int32) x3 (fun r77 M77 => vp_in (x4 + (1 : Int32)) L ∧ vp_in (x4 + (2 : Int32)) L ∧ vp_in (x4 + (3 : Int32)) L ∧ vp_in (x4 + (4 : Int32)) L ∧ (if (xs (x4 + (4 : Int32)).toNatClampNeg) = 0 then zk M77 x2 = 8 ∧ w_X8_costsWith M77 x2 (xs (x4 + (1 : Int32)).toNatClampNeg) (xs (x4 + (2 : Int32)).toNatClampNeg) (xs (x4 + (3 : Int32)).toNatClampNeg) (0 : Int32) (fun r78 M78 => zk M78 x2 = 8 ∧ w_X8_thrown M78 x2 (fun r79 M79 => (if r79 = r77 then (if r77 = 0 then zk M79 x3 = 11 ∧ vp_in (0 : Int32) (zl M79 x3) ∧ (if (lg_cmp (zJ M79 x3 (0 : Int32).toNatClampNeg) r78.toInt64) = 0 then l_L_law_23 L xs P K2086 n M79 x1 x2 x3 (x4 + (6 : Int32)) else P (0 : Int32) M79) else l_L_law_23 L xs P K2086 n M79 x1 x2 x3 (x4 + (6 : Int32))) else P (0 : Int32) M79))) else zk M77 x2 = 8 ∧ w_X8_costsWith M77 x2 (xs (x4 + (1 : Int32)).toNatClampNeg) (xs (x4 + (2 : Int32)).toNatClampNeg) (xs (x4 + (3 : Int32)).toNatClampNeg) (1 : Int32) (fun r80 M80 => zk M80 x2 = 8 ∧ w_X8_thrown M80 x2 (fun r81 M81 => (if r81 = r77 then (if r77 = 0 then zk M81 x3 = 11 ∧ vp_in (0 : Int32) (zl M81 x3) ∧ (if (lg_cmp (zJ M81 x3 (0 : Int32).toNatClampNeg) r80.toInt64) = 0 then l_L_law_23 L xs P K2086 n M81 x1 x2 x3 (x4 + (6 : Int32)) else P (0 : Int32) M81) else l_L_law_23 L xs P K2086 n M81 x1 x2 x3 (x4 + (6 : Int32))) else P (0 : Int32) M81)))))) else (if ((xs x4.toNatClampNeg) &&& (31 : Int32)) = (19 : Int32) then zk M x1 = 7 ∧ w_X7_isBalanced M x1 (fun r82 M82 => zk M82 x2 = 8 ∧ w_X8_isBalanced M82 x2 (fun r83 M83 => (if r82 = r83 then l_L_law_23 L xs P K2086 n M83 x1 x2 x3 (x4 + (6 : Int32)) else P (0 : Int32) M83))) else (if ((xs x4.toNatClampNeg) &&& (31 : Int32)) = (20 : Int32) then zk M x1 = 7 ∧ w_X7_isWithoutClash M x1 (fun r84 M84 => zk M84 x2 = 8 ∧ w_X8_isWithoutClash M84 x2 (fun r85 M85 => (if r84 = r85 then l_L_law_23 L xs P K2086 n M85 x1 x2 x3 (x4 + (6 : Int32)) else P (0 : Int32) M85))) else (if ((xs x4.toNatClampNeg) &&& (31 : Int32)) = (21 : Int32) then zk M x1 = 7 ∧ w_X7_busiest M x1 (fun r86 M86 => zk M86 x2 = 8 ∧ w_X8_busiest M86 x2 (fun r87 M87 => (if r86 = r87 then l_L_law_23 L xs P K2086 n M87 x1 x2 x3 (x4 + (6 : Int32)) else P (0 : Int32) M87))) else (if ((xs x4.toNatClampNeg) &&& (31 : Int32)) = (22 : Int32) then vp_in (x4 + (1 : Int32)) L ∧ vp_in (x4 + (2 : Int32)) L ∧ vp_in (x4 + (3 : Int32)) L ∧ w_L_rehearse M x1 (xs (x4 + (1 : Int32)).toNatClampNeg) (xs (x4 + (2 : Int32)).toNatClampNeg) (xs (x4 + (3 : Int32)).toNatClampNeg) x3 (fun r88 M88 => vp_in (x4 + (1 : Int32)) L ∧ vp_in (x4 + (2 : Int32)) L ∧ vp_in (x4 + (3 : Int32)) L ∧ zk M88 x2 = 8 ∧ w_X8_rehearse M88 x2 (xs (x4 + (1 : Int32)).toNatClampNeg) (xs (x4 + (2 : Int32)).toNatClampNeg) (xs (x4 + (3 : Int32)).toNatClampNeg) (fun r89 M89 => zk M89 x2 = 8 ∧ w_X8_thrown M89 x2 (fun r90 M90 => (if r90 = r88 then (if r88 = 0 then zk M90 x3 = 11 ∧ vp_in (0 : Int32) (zl M90 x3) ∧ (if (lg_cmp (zJ M90 x3 (0 : Int32).toNatClampNeg) r89.toInt64) = 0 then l_L_law_23 L xs P K2086 n M90 x1 x2 x3 (x4 + (6 : Int32)) else P (0 : Int32) M90) else l_L_law_23 L xs P K2086 n M90 x1 x2 x3 (x4 + (6 : Int32))) else P (0 : Int32) M90)))) else (if ((xs x4.toNatClampNeg) &&& (31 : Int32)) = (23 : Int32) then vp_in (x4 + (1 : Int32)) L ∧ vp_in (x4 + (2 : Int32)) L ∧ vp_in (x4 + (3 : Int32)) L ∧ w_L_concert M x1 (xs (x4 + (1 : Int32)).toNatClampNeg) (xs (x4 + (2 : Int32)).toNatClampNeg) (xs (x4 + (3 : Int32)).toNatClampNeg) x3 (fun r91 M91 => vp_in (x4 + (1 : Int32)) L ∧ vp_in (x4 + (2 : Int32)) L ∧ vp_in (x4 + (3 : Int32)) L ∧ zk M91 x2 = 8 ∧ w_X8_concert M91 x2 (xs (x4 + (1 : Int32)).toNatClampNeg) (xs (x4 + (2 : Int32)).toNatClampNeg) (xs (x4 + (3 : Int32)).toNatClampNeg) (fun r92 M92 => zk M92 x2 = 8 ∧ w_X8_thrown M92 x2 (fun r93 M93 => (if r93 = r91 then (if r91 = 0 then zk M93 x3 = 11 ∧ vp_in (0 : Int32) (zl M93 x3) ∧ (if (lg_cmp (zJ M93 x3 (0 : Int32).toNatClampNeg) r92.toInt64) = 0 then l_L_law_23 L xs P K2086 n M93 x1 x2 x3 (x4 + (6 : Int32)) else P (0 : Int32) M93) else l_L_law_23 L xs P K2086 n M93 x1 x2 x3 (x4 + (6 : Int32))) else P (0 : Int32) M93)))) else (if ((xs x4.toNatClampNeg) &&& (31 : Int32)) = (24 : Int32) then vp_in (x4 + (1 : Int32)) L ∧ w_L_cancel M x1 (xs (x4 + (1 : Int32)).toNatClampNeg) x3 (fun r94 M94 => vp_in (x4 + (1 : Int32)) L ∧ zk M94 x2 = 8 ∧ w_X8_cancel M94 x2 (xs (x4 + (1 : Int32)).toNatClampNeg) (fun r95 M95 => zk M95 x2 = 8 ∧ w_X8_thrown M95 x2 (fun r96 M96 => (if r96 = r94 then (if r94 = 0 then zk M96 x3 = 11 ∧ vp_in (0 : Int32) (zl M96 x3) ∧ (if (lg_cmp (zJ M96 x3 (0 : Int32).toNatClampNeg) r95.toInt64) = 0 then l_L_law_23 L xs P K2086 n M96 x1 x2 x3 (x4 + (6 : Int32)) else P (0 : Int32) M96) else l_L_law_23 L xs P K2086 n M96 x1 x2 x3 (x4 + (6 : Int32))) else P (0 : Int32) M96)))) else (if ((xs x4.toNatClampNeg) &&& (31 : Int32)) = (25 : Int32) then vp_in (x4 + (1 : Int32)) L ∧ vp_in (x4 + (2 : Int32)) L ∧ w_L_move M x1 (xs (x4 + (1 : Int32)).toNatClampNeg) (xs (x4 + (2 : Int32)).toNatClampNeg) x3 (fun r97 M97 => vp_in (x4 + (1 : Int32)) L ∧ vp_in (x4 + (2 : Int32)) L ∧ zk M97 x2 = 8 ∧ w_X8_move M97 x2 (xs (x4 + (1 : Int32)).toNatClampNeg) (xs (x4 + (2 : Int32)).toNatClampNeg) (fun r98 M98 => zk M98 x2 = 8 ∧ w_X8_thrown M98 x2 (fun r99 M99 => (if r99 = r97 then (if r97 = 0 then zk M99 x3 = 11 ∧ vp_in (0 : Int32) (zl M99 x3) ∧ (if (lg_cmp (zJ M99 x3 (0 : Int32).toNatClampNeg) r98.toInt64) = 0 then l_L_law_23 L xs P K2086 n M99 x1 x2 x3 (x4 + (6 : Int32)) else P (0 : Int32) M99) else l_L_law_23 L xs P K2086 n M99 x1 x2 x3 (x4 + (6 : Int32))) else P (0 : Int32) M99)))) else (if ((xs x4.toNatClampNeg) &&& (31 : Int32)) = (26 : Int32) then vp_in (x4 + (1 : Int32)) L ∧ w_L_recast M x1 (xs (x4 + (1 : Int32)).toNatClampNeg) x3 (fun r100 M100 => vp_in (x4 + (1 : Int32)) L ∧ zk M100 x2 = 8 ∧ w_X8_recast M100 x2 (xs (x4 + (1 : Int32)).toNatClampNeg) (fun r101 M101 => zk M101 x2 = 8 ∧ w_X8_thrown M101 x2 (fun r102 M102 => (if r102 = r100 then (if r100 = 0 then zk M102 x3 = 11 ∧ vp_in (0 : Int32) (zl M102 x3) ∧ (if (lg_cmp (zJ M102 x3 (0 : Int32).toNatClampNeg) r101.toInt64) = 0 then l_L_law_23 L xs P K2086 n M102 x1 x2 x3 (x4 + (6 : Int32)) else P (0 : Int32) M102) else l_L_law_23 L xs P K2086 n M102 x1 x2 x3 (x4 + (6 : Int32))) else P (0 : Int32) M102)))) else (if ((xs x4.toNatClampNeg) &&& (31 : Int32)) = (27 : Int32) then vp_in (x4 + (1 : Int32)) L ∧ vp_in (x4 + (2 : Int32)) L ∧ w_L_setContract M x1 (xs (x4 + (1 : Int32)).toNatClampNeg) (xs (x4 + (2 : Int32)).toNatClampNeg) x3 (fun r103 M103 => vp_in (x4 + (1 : Int32)) L ∧ vp_in (x4 + (2 : Int32)) L ∧ zk M103 x2 = 8 ∧ w_X8_setContract M103 x2 (xs (x4 + (1 : Int32)).toNatClampNeg) (xs (x4 + (2 : Int32)).toNatClampNeg) (fun r104 M104 => zk M104 x2 = 8 ∧ w_X8_thrown M104 x2 (fun r105 M105 => (if r105 = r103 then (if r103 = 0 then zk M105 x3 = 11 ∧ vp_in (0 : Int32) (zl M105 x3) ∧ (if (lg_cmp (zJ M105 x3 (0 : Int32).toNatClampNeg) r104.toInt64) = 0 then l_L_law_23 L xs P K2086 n M105 x1 x2 x3 (x4 + (6 : Int32)) else P (0 : Int32) M105) else l_L_law_23 L xs P K2086 n M105 x1 x2 x3 (x4 + (6 : Int32))) else P (0 : Int32) M105)))) else (if ((xs x4.toNatClampNeg) &&& (31 : Int32)) = (28 : Int32) then zk M x1 = 7 ∧ w_X7_undo M x1 (fun r106 M106 => zk M106 x2 = 8 ∧ w_X8_undo M106 x2 (fun r107 M107 => (if r106 = r107 then l_L_law_23 L xs P K2086 n M107 x1 x2 x3 (x4 + (6 : Int32)) else P (0 : Int32) M107))) else (if ((xs x4.toNatClampNeg) &&& (31 : Int32)) = (29 : Int32) then vp_in (x4 + (1 : Int32)) L ∧ w_L_saveSnapshot M x1 (xs (x4 + (1 : Int32)).toNatClampNeg) x3 (fun r108 M108 => vp_in (x4 + (1 : Int32)) L ∧ zk M108 x2 = 8 ∧ w_X8_saveSnapshot M108 x2 (xs (x4 + (1 : Int32)).toNatClampNeg) (fun r109 M109 => zk M109 x2 = 8 ∧ w_X8_thrown M109 x2 (fun r110 M110 => (if r110 = r108 then (if r108 = 0 then zk M110 x3 = 11 ∧ vp_in (0 : Int32) (zl M110 x3) ∧ (if r109 = 0 then (if (lg_cmp (zJ M110 x3 (0 : Int32).toNatClampNeg) (0 : Int64)) = 0 then l_L_law_23 L xs P K2086 n M110 x1 x2 x3 (x4 + (6 : Int32)) else P (0 : Int32) M110) else (if (lg_cmp (zJ M110 x3 (0 : Int32).toNatClampNeg) (1 : Int64)) = 0 then l_L_law_23 L xs P K2086 n M110 x1 x2 x3 (x4 + (6 : Int32)) else P (0 : Int32) M110)) else l_L_law_23 L xs P K2086 n M110 x1 x2 x3 (x4 + (6 : Int32))) else P (0 : Int32) M110)))) else (if ((xs x4.toNatClampNeg) &&& (31 : Int32)) = (30 : Int32) then vp_in (x4 + (1 : Int32)) L ∧ w_L_restoreSnapshot M x1 (xs (x4 + (1 : Int32)).toNatClampNeg) x3 (fun r111 M111 => vp_in (x4 + (1 : Int32)) L ∧ zk M111 x2 = 8 ∧ w_X8_restoreSnapshot M111 x2 (xs (x4 + (1 : Int32)).toNatClampNeg) (fun r112 M112 => zk M112 x2 = 8 ∧ w_X8_thrown M112 x2 (fun r113 M113 => (if r113 = r111 then (if r111 = 0 then zk M113 x3 = 11 ∧ vp_in (0 : Int32) (zl M113 x3) ∧ (if (lg_cmp (zJ M113 x3 (0 : Int32).toNatClampNeg) r112.toInt64) = 0 then l_L_law_23 L xs P K2086 n M113 x1 x2 x3 (x4 + (6 : Int32)) else P (0 : Int32) M113) else l_L_law_23 L xs P K2086 n M113 x1 x2 x3 (x4 + (6 : Int32))) else P (0 : Int32) M113)))) else l_L_law_23 L xs P K2086 n M x1 x2 x3 (x4 + (6 : Int32))))))))))))))))))))))))))))))))))
set_option maxHeartbeats 4000000 in
set_option maxRecDepth 100000 in
theorem jl_L_law_23 {b L : Nat} {xs : Nat → Int32} (kB sB : Nat) {P : Int32 → Mm → Prop} {K2086 : Mm → Prop} (C : Cx p l s m #[Value.ref b] meth c code 7 RL retL E) (hX : va_X b L xs s s.heap) (hbl : b < s.heap.size) (hbs : E.2.2.1 = s.heap.size) (hP : ∀ r M, P r M → r = 1) (hkc : kB ≤ room_1.cells ∧ sB ≤ room_1.slots) (k2086 : ∀ M, K2086 M → J p l e room_1 s m #[Value.ref b] below meth c (lw_Z below #[Value.ref b] s) E 7 M kB sB 2086 [] []) : ∀ n kc ks M x1 x2 x3 x4, kc + n * 5 ≤ kB → ks + n * 30 ≤ sB → l_L_law_23 L xs P K2086 n M x1 x2 x3 x4 → J p l e room_1 s m #[Value.ref b] below meth c (lw_Z below #[Value.ref b] s) E 7 M kc ks 23 [(0, .ref b), (1, .ref x1), (2, .ref x2), (3, .ref x3), (4, .int x4)] [] := by
  intro n
  induction n with
  | zero => intro kc ks M x1 x2 x3 x4 b1 b2 h; exact h.elim
  | succ n ih =>
    intro kc ks M x1 x2 x3 x4 b1 b2 h
    rw [l_L_law_23] at h
    refine j_iload (pc := 23) C 4 dL_law_23 rfl ?_
    refine j_aload_n (pc := 25) C 0 dL_law_25 rfl ?_
    refine j_slL (pc := 26) C hX hbl (by omega) dL_law_26 ?_
    refine j_bipush (pc := 27) (v := (6 : Int32)) C dL_law_27 rfl ?_
    refine j_isub (pc := 29) C dL_law_29 ?_
    refine j_icmp_gt (pc := 30) C 2086 dL_law_30 (by decide) h (fun h => ?_) (fun h => ?_)
    · exact j_widen (show kc + 0 ≤ kB by omega) (show ks + 0 ≤ sB by omega) (j_weak [] rfl (k2086 _ h))
    · refine j_aload_n (pc := 33) C 0 dL_law_33 rfl ?_
      refine j_iload (pc := 34) C 4 dL_law_34 rfl ?_
      refine j_sld (pc := 36) C hX hbl (by omega) dL_law_36 h (fun h => ?_)
      refine j_bipush (pc := 37) (v := (31 : Int32)) C dL_law_37 rfl ?_
      refine j_iand (pc := 39) C dL_law_39 ?_
      by_cases q40_0 : ((xs x4.toNatClampNeg) &&& (31 : Int32)) = (0 : Int32)
      · rw [if_pos q40_0] at h
        refine j_tsI (pc := 40) (off := 140) C 180 dL_law_40 q40_0 (by decide) (by decide) (by decide) (by decide) ?_
        refine j_aload_n (pc := 180) C 1 dL_law_180 rfl ?_
        refine j_aload_n (pc := 181) C 0 dL_law_181 rfl ?_
        refine j_iload (pc := 182) C 4 dL_law_182 rfl ?_
        refine j_iconst (pc := 184) (v := (1 : Int32)) C dL_law_184 rfl ?_
        refine j_iadd (pc := 185) C dL_law_185 ?_
        refine j_sld (pc := 186) C hX hbl (by omega) dL_law_186 h (fun h => ?_)
        refine j_aload_n (pc := 187) C 0 dL_law_187 rfl ?_
        refine j_iload (pc := 188) C 4 dL_law_188 rfl ?_
        refine j_iconst (pc := 190) (v := (2 : Int32)) C dL_law_190 rfl ?_
        refine j_iadd (pc := 191) C dL_law_191 ?_
        refine j_sld (pc := 192) C hX hbl (by omega) dL_law_192 h (fun h => ?_)
        refine j_aload_n (pc := 193) C 0 dL_law_193 rfl ?_
        refine j_iload (pc := 194) C 4 dL_law_194 rfl ?_
        refine j_iconst (pc := 196) (v := (3 : Int32)) C dL_law_196 rfl ?_
        refine j_iadd (pc := 197) C dL_law_197 ?_
        refine j_sld (pc := 198) C hX hbl (by omega) dL_law_198 h (fun h => ?_)
        refine j_aload_n (pc := 199) C 0 dL_law_199 rfl ?_
        refine j_iload (pc := 200) C 4 dL_law_200 rfl ?_
        refine j_iconst (pc := 202) (v := (4 : Int32)) C dL_law_202 rfl ?_
        refine j_iadd (pc := 203) C dL_law_203 ?_
        refine j_sld (pc := 204) C hX hbl (by omega) dL_law_204 h (fun h => ?_)
        refine j_aload_n (pc := 205) C 0 dL_law_205 rfl ?_
        refine j_iload (pc := 206) C 4 dL_law_206 rfl ?_
        refine j_iconst (pc := 208) (v := (5 : Int32)) C dL_law_208 rfl ?_
        refine j_iadd (pc := 209) C dL_law_209 ?_
        refine j_sld (pc := 210) C hX hbl (by omega) dL_law_210 h (fun h => ?_)
        refine cs_L_100 (pc := 211) C ⟨Nat.le_of_ble_eq_true rfl, Nat.le_of_ble_eq_true rfl⟩ ⟨Nat.le_trans (show kc + 0 ≤ kB by omega) hkc.1, Nat.le_trans (show ks + 0 ≤ sB by omega) hkc.2⟩ (Nat.le_of_ble_eq_true rfl) dL_law_211 h (fun r6 M6 h => ?_)
        refine j_aload_n (pc := 214) C 2 dL_law_214 rfl ?_
        refine j_aload_n (pc := 215) C 0 dL_law_215 rfl ?_
        refine j_iload (pc := 216) C 4 dL_law_216 rfl ?_
        refine j_iconst (pc := 218) (v := (1 : Int32)) C dL_law_218 rfl ?_
        refine j_iadd (pc := 219) C dL_law_219 ?_
        refine j_sld (pc := 220) C hX hbl (by omega) dL_law_220 h (fun h => ?_)
        refine j_aload_n (pc := 221) C 0 dL_law_221 rfl ?_
        refine j_iload (pc := 222) C 4 dL_law_222 rfl ?_
        refine j_iconst (pc := 224) (v := (2 : Int32)) C dL_law_224 rfl ?_
        refine j_iadd (pc := 225) C dL_law_225 ?_
        refine j_sld (pc := 226) C hX hbl (by omega) dL_law_226 h (fun h => ?_)
        refine j_aload_n (pc := 227) C 0 dL_law_227 rfl ?_
        refine j_iload (pc := 228) C 4 dL_law_228 rfl ?_
        refine j_iconst (pc := 230) (v := (3 : Int32)) C dL_law_230 rfl ?_
        refine j_iadd (pc := 231) C dL_law_231 ?_
        refine j_sld (pc := 232) C hX hbl (by omega) dL_law_232 h (fun h => ?_)
        refine j_aload_n (pc := 233) C 0 dL_law_233 rfl ?_
        refine j_iload (pc := 234) C 4 dL_law_234 rfl ?_
        refine j_iconst (pc := 236) (v := (4 : Int32)) C dL_law_236 rfl ?_
        refine j_iadd (pc := 237) C dL_law_237 ?_
        refine j_sld (pc := 238) C hX hbl (by omega) dL_law_238 h (fun h => ?_)
        refine j_aload_n (pc := 239) C 0 dL_law_239 rfl ?_
        refine j_iload (pc := 240) C 4 dL_law_240 rfl ?_
        refine j_iconst (pc := 242) (v := (5 : Int32)) C dL_law_242 rfl ?_
        refine j_iadd (pc := 243) C dL_law_243 ?_
        refine j_sld (pc := 244) C hX hbl (by omega) dL_law_244 h (fun h => ?_)
        refine cs_L_104 (pc := 245) C ⟨Nat.le_of_ble_eq_true rfl, Nat.le_of_ble_eq_true rfl⟩ ⟨Nat.le_trans (show kc + 0 ≤ kB by omega) hkc.1, Nat.le_trans (show ks + 0 ≤ sB by omega) hkc.2⟩ (Nat.le_of_ble_eq_true rfl) dL_law_245 h (fun r7 M7 h => ?_)
        refine j_icmp_eq (pc := 248) C 2080 dL_law_248 (by decide) h (fun h => ?_) (fun h => ?_)
        · refine j_iinc (pc := 2080) (v := (6 : Int32)) C 4 [(4, _), (0, _), (1, _), (2, _), (3, _)] dL_law_2080 rfl rfl (by decide) rfl ?_
          refine j_goto (pc := 2083) C 23 dL_law_2083 (by decide) ?_
          exact j_widen (show kc + 0 ≤ kc + 5 by omega) (show ks + 0 ≤ ks + 30 by omega) (j_weak [1, 2, 3, 4, 0] rfl (ih (kc + 5) (ks + 30) _ _ _ _ _ (by omega) (by omega) h))
        · refine j_iconst (pc := 251) (v := (0 : Int32)) C dL_law_251 rfl ?_
          exact j_lawret (pc := 252) C hbs dL_law_252 ⟨Nat.le_trans (show kc + 0 ≤ kB by omega) hkc.1, Nat.le_trans (show ks + 0 ≤ sB by omega) hkc.2⟩ (hP _ _ h)
      rw [if_neg q40_0] at h
      by_cases q40_1 : ((xs x4.toNatClampNeg) &&& (31 : Int32)) = (1 : Int32)
      · rw [if_pos q40_1] at h
        refine j_tsI (pc := 40) (off := 213) C 253 dL_law_40 q40_1 (by decide) (by decide) (by decide) (by decide) ?_
        refine j_aload_n (pc := 253) C 1 dL_law_253 rfl ?_
        refine j_aload_n (pc := 254) C 0 dL_law_254 rfl ?_
        refine j_iload (pc := 255) C 4 dL_law_255 rfl ?_
        refine j_iconst (pc := 257) (v := (1 : Int32)) C dL_law_257 rfl ?_
        refine j_iadd (pc := 258) C dL_law_258 ?_
        refine j_sld (pc := 259) C hX hbl (by omega) dL_law_259 h (fun h => ?_)
        refine j_aload_n (pc := 260) C 3 dL_law_260 rfl ?_
        refine cs_L_105 (pc := 261) C ⟨Nat.le_of_ble_eq_true rfl, Nat.le_of_ble_eq_true rfl⟩ ⟨Nat.le_trans (show kc + 3 ≤ kB by omega) hkc.1, Nat.le_trans (show ks + 17 ≤ sB by omega) hkc.2⟩ (Nat.le_of_ble_eq_true rfl) dL_law_261 h (fun r8 M8 h => ?_)
        refine j_istore (pc := 264) C [(5, _), (0, _), (1, _), (2, _), (3, _), (4, _)] dL_law_264 (by decide) rfl ?_
        refine j_aload_n (pc := 266) C 3 dL_law_266 rfl ?_
        refine j_aload_n (pc := 267) C 1 dL_law_267 rfl ?_
        refine j_iload (pc := 268) C 5 dL_law_268 rfl ?_
        refine j_iconst (pc := 270) (v := (1 : Int32)) C dL_law_270 rfl ?_
        refine j_iadd (pc := 271) C dL_law_271 ?_
        refine j_sld (pc := 272) C hX hbl (by omega) dL_law_272 h (fun h => ?_)
        refine cs_L_110 (pc := 273) C ⟨Nat.le_of_ble_eq_true rfl, Nat.le_of_ble_eq_true rfl⟩ ⟨Nat.le_trans (show kc + 3 ≤ kB by omega) hkc.1, Nat.le_trans (show ks + 17 ≤ sB by omega) hkc.2⟩ (Nat.le_of_ble_eq_true rfl) dL_law_273 h (fun r9 M9 h => ?_)
        refine j_istore (pc := 276) C [(6, _), (5, _), (0, _), (1, _), (2, _), (3, _), (4, _)] dL_law_276 (by decide) rfl ?_
        refine j_aload_n (pc := 278) C 4 dL_law_278 rfl ?_
        refine cs_L_111 (pc := 279) C ⟨Nat.le_of_ble_eq_true rfl, Nat.le_of_ble_eq_true rfl⟩ ⟨Nat.le_trans (show kc + 3 ≤ kB by omega) hkc.1, Nat.le_trans (show ks + 17 ≤ sB by omega) hkc.2⟩ (Nat.le_of_ble_eq_true rfl) dL_law_279 h (fun r10 M10 h => ?_)
        refine j_iload (pc := 282) C 1 dL_law_282 rfl ?_
        refine j_icmp_eq (pc := 284) C 289 dL_law_284 (by decide) h (fun h => ?_) (fun h => ?_)
        · refine j_iload (pc := 289) C 1 dL_law_289 rfl ?_
          refine j_if_ne (pc := 291) C 306 dL_law_291 (by decide) h (fun h => ?_) (fun h => ?_)
          · refine j_goto (pc := 306) C 2080 dL_law_306 (by decide) ?_
            refine j_iinc (pc := 2080) (v := (6 : Int32)) C 6 [(4, _), (6, _), (5, _), (0, _), (1, _), (2, _), (3, _)] dL_law_2080 rfl rfl (by decide) rfl ?_
            refine j_goto (pc := 2083) C 23 dL_law_2083 (by decide) ?_
            exact j_widen (show kc + 3 ≤ kc + 5 by omega) (show ks + 17 ≤ ks + 30 by omega) (j_weak [3, 4, 5, 6, 0] rfl (ih (kc + 5) (ks + 30) _ _ _ _ _ (by omega) (by omega) h))
          · refine j_aload_n (pc := 294) C 5 dL_law_294 rfl ?_
            refine j_iconst (pc := 295) (v := (0 : Int32)) C dL_law_295 rfl ?_
            refine j_lald (pc := 296) C dL_law_296 h (fun h => ?_)
            refine j_iload (pc := 297) C 0 dL_law_297 rfl ?_
            refine j_i2l (pc := 299) C dL_law_299 ?_
            refine j_lcmp (pc := 300) C dL_law_300 ?_
            refine j_if_eq (pc := 301) C 306 dL_law_301 (by decide) h (fun h => ?_) (fun h => ?_)
            · refine j_goto (pc := 306) C 2080 dL_law_306 (by decide) ?_
              refine j_iinc (pc := 2080) (v := (6 : Int32)) C 6 [(4, _), (6, _), (5, _), (0, _), (1, _), (2, _), (3, _)] dL_law_2080 rfl rfl (by decide) rfl ?_
              refine j_goto (pc := 2083) C 23 dL_law_2083 (by decide) ?_
              exact j_widen (show kc + 3 ≤ kc + 5 by omega) (show ks + 17 ≤ ks + 30 by omega) (j_weak [3, 4, 5, 6, 0] rfl (ih (kc + 5) (ks + 30) _ _ _ _ _ (by omega) (by omega) h))
            · refine j_iconst (pc := 304) (v := (0 : Int32)) C dL_law_304 rfl ?_
              exact j_lawret (pc := 305) C hbs dL_law_305 ⟨Nat.le_trans (show kc + 3 ≤ kB by omega) hkc.1, Nat.le_trans (show ks + 17 ≤ sB by omega) hkc.2⟩ (hP _ _ h)
        · refine j_iconst (pc := 287) (v := (0 : Int32)) C dL_law_287 rfl ?_
          exact j_lawret (pc := 288) C hbs dL_law_288 ⟨Nat.le_trans (show kc + 3 ≤ kB by omega) hkc.1, Nat.le_trans (show ks + 17 ≤ sB by omega) hkc.2⟩ (hP _ _ h)
      rw [if_neg q40_1] at h
      by_cases q40_2 : ((xs x4.toNatClampNeg) &&& (31 : Int32)) = (2 : Int32)
      · rw [if_pos q40_2] at h
        refine j_tsI (pc := 40) (off := 269) C 309 dL_law_40 q40_2 (by decide) (by decide) (by decide) (by decide) ?_
        refine j_aload_n (pc := 309) C 1 dL_law_309 rfl ?_
        refine cs_L_115 (pc := 310) C ⟨Nat.le_of_ble_eq_true rfl, Nat.le_of_ble_eq_true rfl⟩ ⟨Nat.le_trans (show kc + 0 ≤ kB by omega) hkc.1, Nat.le_trans (show ks + 0 ≤ sB by omega) hkc.2⟩ (Nat.le_of_ble_eq_true rfl) dL_law_310 h (fun r11 M11 h => ?_)
        refine j_aload_n (pc := 313) C 2 dL_law_313 rfl ?_
        refine cs_L_118 (pc := 314) C ⟨Nat.le_of_ble_eq_true rfl, Nat.le_of_ble_eq_true rfl⟩ ⟨Nat.le_trans (show kc + 0 ≤ kB by omega) hkc.1, Nat.le_trans (show ks + 0 ≤ sB by omega) hkc.2⟩ (Nat.le_of_ble_eq_true rfl) dL_law_314 h (fun r12 M12 h => ?_)
        refine j_icmp_eq (pc := 317) C 2080 dL_law_317 (by decide) h (fun h => ?_) (fun h => ?_)
        · refine j_iinc (pc := 2080) (v := (6 : Int32)) C 4 [(4, _), (0, _), (1, _), (2, _), (3, _)] dL_law_2080 rfl rfl (by decide) rfl ?_
          refine j_goto (pc := 2083) C 23 dL_law_2083 (by decide) ?_
          exact j_widen (show kc + 0 ≤ kc + 5 by omega) (show ks + 0 ≤ ks + 30 by omega) (j_weak [1, 2, 3, 4, 0] rfl (ih (kc + 5) (ks + 30) _ _ _ _ _ (by omega) (by omega) h))
        · refine j_iconst (pc := 320) (v := (0 : Int32)) C dL_law_320 rfl ?_
          exact j_lawret (pc := 321) C hbs dL_law_321 ⟨Nat.le_trans (show kc + 0 ≤ kB by omega) hkc.1, Nat.le_trans (show ks + 0 ≤ sB by omega) hkc.2⟩ (hP _ _ h)
      rw [if_neg q40_2] at h
      by_cases q40_3 : ((xs x4.toNatClampNeg) &&& (31 : Int32)) = (3 : Int32)
      · rw [if_pos q40_3] at h
        refine j_tsI (pc := 40) (off := 282) C 322 dL_law_40 q40_3 (by decide) (by decide) (by decide) (by decide) ?_
        refine j_aload_n (pc := 322) C 1 dL_law_322 rfl ?_
        refine j_aload_n (pc := 323) C 0 dL_law_323 rfl ?_
        refine j_iload (pc := 324) C 4 dL_law_324 rfl ?_
        refine j_iconst (pc := 326) (v := (1 : Int32)) C dL_law_326 rfl ?_
        refine j_iadd (pc := 327) C dL_law_327 ?_
        refine j_sld (pc := 328) C hX hbl (by omega) dL_law_328 h (fun h => ?_)
        refine j_aload_n (pc := 329) C 3 dL_law_329 rfl ?_
        refine cs_L_119 (pc := 330) C ⟨Nat.le_of_ble_eq_true rfl, Nat.le_of_ble_eq_true rfl⟩ ⟨Nat.le_trans (show kc + 1 ≤ kB by omega) hkc.1, Nat.le_trans (show ks + 6 ≤ sB by omega) hkc.2⟩ (Nat.le_of_ble_eq_true rfl) dL_law_330 h (fun r13 M13 h => ?_)
        refine j_istore (pc := 333) C [(5, _), (0, _), (1, _), (2, _), (3, _), (4, _)] dL_law_333 (by decide) rfl ?_
        refine j_aload_n (pc := 335) C 3 dL_law_335 rfl ?_
        refine j_aload_n (pc := 336) C 1 dL_law_336 rfl ?_
        refine j_iload (pc := 337) C 5 dL_law_337 rfl ?_
        refine j_iconst (pc := 339) (v := (1 : Int32)) C dL_law_339 rfl ?_
        refine j_iadd (pc := 340) C dL_law_340 ?_
        refine j_sld (pc := 341) C hX hbl (by omega) dL_law_341 h (fun h => ?_)
        refine cs_L_121 (pc := 342) C ⟨Nat.le_of_ble_eq_true rfl, Nat.le_of_ble_eq_true rfl⟩ ⟨Nat.le_trans (show kc + 1 ≤ kB by omega) hkc.1, Nat.le_trans (show ks + 6 ≤ sB by omega) hkc.2⟩ (Nat.le_of_ble_eq_true rfl) dL_law_342 h (fun r14 M14 h => ?_)
        refine j_istore (pc := 345) C [(6, _), (5, _), (0, _), (1, _), (2, _), (3, _), (4, _)] dL_law_345 (by decide) rfl ?_
        refine j_aload_n (pc := 347) C 4 dL_law_347 rfl ?_
        refine cs_L_111 (pc := 348) C ⟨Nat.le_of_ble_eq_true rfl, Nat.le_of_ble_eq_true rfl⟩ ⟨Nat.le_trans (show kc + 1 ≤ kB by omega) hkc.1, Nat.le_trans (show ks + 6 ≤ sB by omega) hkc.2⟩ (Nat.le_of_ble_eq_true rfl) dL_law_348 h (fun r15 M15 h => ?_)
        refine j_iload (pc := 351) C 1 dL_law_351 rfl ?_
        refine j_icmp_eq (pc := 353) C 358 dL_law_353 (by decide) h (fun h => ?_) (fun h => ?_)
        · refine j_iload (pc := 358) C 1 dL_law_358 rfl ?_
          refine j_if_ne (pc := 360) C 375 dL_law_360 (by decide) h (fun h => ?_) (fun h => ?_)
          · refine j_goto (pc := 375) C 2080 dL_law_375 (by decide) ?_
            refine j_iinc (pc := 2080) (v := (6 : Int32)) C 6 [(4, _), (6, _), (5, _), (0, _), (1, _), (2, _), (3, _)] dL_law_2080 rfl rfl (by decide) rfl ?_
            refine j_goto (pc := 2083) C 23 dL_law_2083 (by decide) ?_
            exact j_widen (show kc + 1 ≤ kc + 5 by omega) (show ks + 6 ≤ ks + 30 by omega) (j_weak [3, 4, 5, 6, 0] rfl (ih (kc + 5) (ks + 30) _ _ _ _ _ (by omega) (by omega) h))
          · refine j_aload_n (pc := 363) C 5 dL_law_363 rfl ?_
            refine j_iconst (pc := 364) (v := (0 : Int32)) C dL_law_364 rfl ?_
            refine j_lald (pc := 365) C dL_law_365 h (fun h => ?_)
            refine j_iload (pc := 366) C 0 dL_law_366 rfl ?_
            refine j_i2l (pc := 368) C dL_law_368 ?_
            refine j_lcmp (pc := 369) C dL_law_369 ?_
            refine j_if_eq (pc := 370) C 375 dL_law_370 (by decide) h (fun h => ?_) (fun h => ?_)
            · refine j_goto (pc := 375) C 2080 dL_law_375 (by decide) ?_
              refine j_iinc (pc := 2080) (v := (6 : Int32)) C 6 [(4, _), (6, _), (5, _), (0, _), (1, _), (2, _), (3, _)] dL_law_2080 rfl rfl (by decide) rfl ?_
              refine j_goto (pc := 2083) C 23 dL_law_2083 (by decide) ?_
              exact j_widen (show kc + 1 ≤ kc + 5 by omega) (show ks + 6 ≤ ks + 30 by omega) (j_weak [3, 4, 5, 6, 0] rfl (ih (kc + 5) (ks + 30) _ _ _ _ _ (by omega) (by omega) h))
            · refine j_iconst (pc := 373) (v := (0 : Int32)) C dL_law_373 rfl ?_
              exact j_lawret (pc := 374) C hbs dL_law_374 ⟨Nat.le_trans (show kc + 1 ≤ kB by omega) hkc.1, Nat.le_trans (show ks + 6 ≤ sB by omega) hkc.2⟩ (hP _ _ h)
        · refine j_iconst (pc := 356) (v := (0 : Int32)) C dL_law_356 rfl ?_
          exact j_lawret (pc := 357) C hbs dL_law_357 ⟨Nat.le_trans (show kc + 1 ≤ kB by omega) hkc.1, Nat.le_trans (show ks + 6 ≤ sB by omega) hkc.2⟩ (hP _ _ h)
      rw [if_neg q40_3] at h
      by_cases q40_4 : ((xs x4.toNatClampNeg) &&& (31 : Int32)) = (4 : Int32)
      · rw [if_pos q40_4] at h
        refine j_tsI (pc := 40) (off := 338) C 378 dL_law_40 q40_4 (by decide) (by decide) (by decide) (by decide) ?_
        refine j_aload_n (pc := 378) C 1 dL_law_378 rfl ?_
        refine j_aload_n (pc := 379) C 0 dL_law_379 rfl ?_
        refine j_iload (pc := 380) C 4 dL_law_380 rfl ?_
        refine j_iconst (pc := 382) (v := (1 : Int32)) C dL_law_382 rfl ?_
        refine j_iadd (pc := 383) C dL_law_383 ?_
        refine j_sld (pc := 384) C hX hbl (by omega) dL_law_384 h (fun h => ?_)
        refine j_aload_n (pc := 385) C 3 dL_law_385 rfl ?_
        refine cs_L_122 (pc := 386) C ⟨Nat.le_of_ble_eq_true rfl, Nat.le_of_ble_eq_true rfl⟩ ⟨Nat.le_trans (show kc + 1 ≤ kB by omega) hkc.1, Nat.le_trans (show ks + 6 ≤ sB by omega) hkc.2⟩ (Nat.le_of_ble_eq_true rfl) dL_law_386 h (fun r16 M16 h => ?_)
        refine j_istore (pc := 389) C [(5, _), (0, _), (1, _), (2, _), (3, _), (4, _)] dL_law_389 (by decide) rfl ?_
        refine j_aload_n (pc := 391) C 3 dL_law_391 rfl ?_
        refine j_aload_n (pc := 392) C 1 dL_law_392 rfl ?_
        refine j_iload (pc := 393) C 5 dL_law_393 rfl ?_
        refine j_iconst (pc := 395) (v := (1 : Int32)) C dL_law_395 rfl ?_
        refine j_iadd (pc := 396) C dL_law_396 ?_
        refine j_sld (pc := 397) C hX hbl (by omega) dL_law_397 h (fun h => ?_)
        refine cs_L_124 (pc := 398) C ⟨Nat.le_of_ble_eq_true rfl, Nat.le_of_ble_eq_true rfl⟩ ⟨Nat.le_trans (show kc + 1 ≤ kB by omega) hkc.1, Nat.le_trans (show ks + 6 ≤ sB by omega) hkc.2⟩ (Nat.le_of_ble_eq_true rfl) dL_law_398 h (fun r17 M17 h => ?_)
        refine j_istore (pc := 401) C [(6, _), (5, _), (0, _), (1, _), (2, _), (3, _), (4, _)] dL_law_401 (by decide) rfl ?_
        refine j_aload_n (pc := 403) C 4 dL_law_403 rfl ?_
        refine cs_L_111 (pc := 404) C ⟨Nat.le_of_ble_eq_true rfl, Nat.le_of_ble_eq_true rfl⟩ ⟨Nat.le_trans (show kc + 1 ≤ kB by omega) hkc.1, Nat.le_trans (show ks + 6 ≤ sB by omega) hkc.2⟩ (Nat.le_of_ble_eq_true rfl) dL_law_404 h (fun r18 M18 h => ?_)
        refine j_iload (pc := 407) C 1 dL_law_407 rfl ?_
        refine j_icmp_eq (pc := 409) C 414 dL_law_409 (by decide) h (fun h => ?_) (fun h => ?_)
        · refine j_iload (pc := 414) C 1 dL_law_414 rfl ?_
          refine j_if_ne (pc := 416) C 431 dL_law_416 (by decide) h (fun h => ?_) (fun h => ?_)
          · refine j_goto (pc := 431) C 2080 dL_law_431 (by decide) ?_
            refine j_iinc (pc := 2080) (v := (6 : Int32)) C 6 [(4, _), (6, _), (5, _), (0, _), (1, _), (2, _), (3, _)] dL_law_2080 rfl rfl (by decide) rfl ?_
            refine j_goto (pc := 2083) C 23 dL_law_2083 (by decide) ?_
            exact j_widen (show kc + 1 ≤ kc + 5 by omega) (show ks + 6 ≤ ks + 30 by omega) (j_weak [3, 4, 5, 6, 0] rfl (ih (kc + 5) (ks + 30) _ _ _ _ _ (by omega) (by omega) h))
          · refine j_aload_n (pc := 419) C 5 dL_law_419 rfl ?_
            refine j_iconst (pc := 420) (v := (0 : Int32)) C dL_law_420 rfl ?_
            refine j_lald (pc := 421) C dL_law_421 h (fun h => ?_)
            refine j_iload (pc := 422) C 0 dL_law_422 rfl ?_
            refine j_i2l (pc := 424) C dL_law_424 ?_
            refine j_lcmp (pc := 425) C dL_law_425 ?_
            refine j_if_eq (pc := 426) C 431 dL_law_426 (by decide) h (fun h => ?_) (fun h => ?_)
            · refine j_goto (pc := 431) C 2080 dL_law_431 (by decide) ?_
              refine j_iinc (pc := 2080) (v := (6 : Int32)) C 6 [(4, _), (6, _), (5, _), (0, _), (1, _), (2, _), (3, _)] dL_law_2080 rfl rfl (by decide) rfl ?_
              refine j_goto (pc := 2083) C 23 dL_law_2083 (by decide) ?_
              exact j_widen (show kc + 1 ≤ kc + 5 by omega) (show ks + 6 ≤ ks + 30 by omega) (j_weak [3, 4, 5, 6, 0] rfl (ih (kc + 5) (ks + 30) _ _ _ _ _ (by omega) (by omega) h))
            · refine j_iconst (pc := 429) (v := (0 : Int32)) C dL_law_429 rfl ?_
              exact j_lawret (pc := 430) C hbs dL_law_430 ⟨Nat.le_trans (show kc + 1 ≤ kB by omega) hkc.1, Nat.le_trans (show ks + 6 ≤ sB by omega) hkc.2⟩ (hP _ _ h)
        · refine j_iconst (pc := 412) (v := (0 : Int32)) C dL_law_412 rfl ?_
          exact j_lawret (pc := 413) C hbs dL_law_413 ⟨Nat.le_trans (show kc + 1 ≤ kB by omega) hkc.1, Nat.le_trans (show ks + 6 ≤ sB by omega) hkc.2⟩ (hP _ _ h)
      rw [if_neg q40_4] at h
      by_cases q40_5 : ((xs x4.toNatClampNeg) &&& (31 : Int32)) = (5 : Int32)
      · rw [if_pos q40_5] at h
        refine j_tsI (pc := 40) (off := 394) C 434 dL_law_40 q40_5 (by decide) (by decide) (by decide) (by decide) ?_
        refine j_aload_n (pc := 434) C 1 dL_law_434 rfl ?_
        refine j_aload_n (pc := 435) C 0 dL_law_435 rfl ?_
        refine j_iload (pc := 436) C 4 dL_law_436 rfl ?_
        refine j_iconst (pc := 438) (v := (1 : Int32)) C dL_law_438 rfl ?_
        refine j_iadd (pc := 439) C dL_law_439 ?_
        refine j_sld (pc := 440) C hX hbl (by omega) dL_law_440 h (fun h => ?_)
        refine j_aload_n (pc := 441) C 3 dL_law_441 rfl ?_
        refine cs_L_125 (pc := 442) C ⟨Nat.le_of_ble_eq_true rfl, Nat.le_of_ble_eq_true rfl⟩ ⟨Nat.le_trans (show kc + 1 ≤ kB by omega) hkc.1, Nat.le_trans (show ks + 6 ≤ sB by omega) hkc.2⟩ (Nat.le_of_ble_eq_true rfl) dL_law_442 h (fun r19 M19 h => ?_)
        refine j_istore (pc := 445) C [(5, _), (0, _), (1, _), (2, _), (3, _), (4, _)] dL_law_445 (by decide) rfl ?_
        refine j_aload_n (pc := 447) C 3 dL_law_447 rfl ?_
        refine j_aload_n (pc := 448) C 1 dL_law_448 rfl ?_
        refine j_iload (pc := 449) C 5 dL_law_449 rfl ?_
        refine j_iconst (pc := 451) (v := (1 : Int32)) C dL_law_451 rfl ?_
        refine j_iadd (pc := 452) C dL_law_452 ?_
        refine j_sld (pc := 453) C hX hbl (by omega) dL_law_453 h (fun h => ?_)
        refine cs_L_127 (pc := 454) C ⟨Nat.le_of_ble_eq_true rfl, Nat.le_of_ble_eq_true rfl⟩ ⟨Nat.le_trans (show kc + 1 ≤ kB by omega) hkc.1, Nat.le_trans (show ks + 6 ≤ sB by omega) hkc.2⟩ (Nat.le_of_ble_eq_true rfl) dL_law_454 h (fun r20 M20 h => ?_)
        refine j_istore (pc := 457) C [(6, _), (5, _), (0, _), (1, _), (2, _), (3, _), (4, _)] dL_law_457 (by decide) rfl ?_
        refine j_aload_n (pc := 459) C 4 dL_law_459 rfl ?_
        refine cs_L_111 (pc := 460) C ⟨Nat.le_of_ble_eq_true rfl, Nat.le_of_ble_eq_true rfl⟩ ⟨Nat.le_trans (show kc + 1 ≤ kB by omega) hkc.1, Nat.le_trans (show ks + 6 ≤ sB by omega) hkc.2⟩ (Nat.le_of_ble_eq_true rfl) dL_law_460 h (fun r21 M21 h => ?_)
        refine j_iload (pc := 463) C 1 dL_law_463 rfl ?_
        refine j_icmp_eq (pc := 465) C 470 dL_law_465 (by decide) h (fun h => ?_) (fun h => ?_)
        · refine j_iload (pc := 470) C 1 dL_law_470 rfl ?_
          refine j_if_ne (pc := 472) C 487 dL_law_472 (by decide) h (fun h => ?_) (fun h => ?_)
          · refine j_goto (pc := 487) C 2080 dL_law_487 (by decide) ?_
            refine j_iinc (pc := 2080) (v := (6 : Int32)) C 6 [(4, _), (6, _), (5, _), (0, _), (1, _), (2, _), (3, _)] dL_law_2080 rfl rfl (by decide) rfl ?_
            refine j_goto (pc := 2083) C 23 dL_law_2083 (by decide) ?_
            exact j_widen (show kc + 1 ≤ kc + 5 by omega) (show ks + 6 ≤ ks + 30 by omega) (j_weak [3, 4, 5, 6, 0] rfl (ih (kc + 5) (ks + 30) _ _ _ _ _ (by omega) (by omega) h))
          · refine j_aload_n (pc := 475) C 5 dL_law_475 rfl ?_
            refine j_iconst (pc := 476) (v := (0 : Int32)) C dL_law_476 rfl ?_
            refine j_lald (pc := 477) C dL_law_477 h (fun h => ?_)
            refine j_iload (pc := 478) C 0 dL_law_478 rfl ?_
            refine j_i2l (pc := 480) C dL_law_480 ?_
            refine j_lcmp (pc := 481) C dL_law_481 ?_
            refine j_if_eq (pc := 482) C 487 dL_law_482 (by decide) h (fun h => ?_) (fun h => ?_)
            · refine j_goto (pc := 487) C 2080 dL_law_487 (by decide) ?_
              refine j_iinc (pc := 2080) (v := (6 : Int32)) C 6 [(4, _), (6, _), (5, _), (0, _), (1, _), (2, _), (3, _)] dL_law_2080 rfl rfl (by decide) rfl ?_
              refine j_goto (pc := 2083) C 23 dL_law_2083 (by decide) ?_
              exact j_widen (show kc + 1 ≤ kc + 5 by omega) (show ks + 6 ≤ ks + 30 by omega) (j_weak [3, 4, 5, 6, 0] rfl (ih (kc + 5) (ks + 30) _ _ _ _ _ (by omega) (by omega) h))
            · refine j_iconst (pc := 485) (v := (0 : Int32)) C dL_law_485 rfl ?_
              exact j_lawret (pc := 486) C hbs dL_law_486 ⟨Nat.le_trans (show kc + 1 ≤ kB by omega) hkc.1, Nat.le_trans (show ks + 6 ≤ sB by omega) hkc.2⟩ (hP _ _ h)
        · refine j_iconst (pc := 468) (v := (0 : Int32)) C dL_law_468 rfl ?_
          exact j_lawret (pc := 469) C hbs dL_law_469 ⟨Nat.le_trans (show kc + 1 ≤ kB by omega) hkc.1, Nat.le_trans (show ks + 6 ≤ sB by omega) hkc.2⟩ (hP _ _ h)
      rw [if_neg q40_5] at h
      by_cases q40_6 : ((xs x4.toNatClampNeg) &&& (31 : Int32)) = (6 : Int32)
      · rw [if_pos q40_6] at h
        refine j_tsI (pc := 40) (off := 450) C 490 dL_law_40 q40_6 (by decide) (by decide) (by decide) (by decide) ?_
        refine j_aload_n (pc := 490) C 1 dL_law_490 rfl ?_
        refine j_aload_n (pc := 491) C 0 dL_law_491 rfl ?_
        refine j_iload (pc := 492) C 4 dL_law_492 rfl ?_
        refine j_iconst (pc := 494) (v := (1 : Int32)) C dL_law_494 rfl ?_
        refine j_iadd (pc := 495) C dL_law_495 ?_
        refine j_sld (pc := 496) C hX hbl (by omega) dL_law_496 h (fun h => ?_)
        refine j_aload_n (pc := 497) C 0 dL_law_497 rfl ?_
        refine j_iload (pc := 498) C 4 dL_law_498 rfl ?_
        refine j_iconst (pc := 500) (v := (2 : Int32)) C dL_law_500 rfl ?_
        refine j_iadd (pc := 501) C dL_law_501 ?_
        refine j_sld (pc := 502) C hX hbl (by omega) dL_law_502 h (fun h => ?_)
        refine j_aload_n (pc := 503) C 3 dL_law_503 rfl ?_
        refine cs_L_128 (pc := 504) C ⟨Nat.le_of_ble_eq_true rfl, Nat.le_of_ble_eq_true rfl⟩ ⟨Nat.le_trans (show kc + 2 ≤ kB by omega) hkc.1, Nat.le_trans (show ks + 12 ≤ sB by omega) hkc.2⟩ (Nat.le_of_ble_eq_true rfl) dL_law_504 h (fun r22 M22 h => ?_)
        refine j_istore (pc := 507) C [(5, _), (0, _), (1, _), (2, _), (3, _), (4, _)] dL_law_507 (by decide) rfl ?_
        refine j_aload_n (pc := 509) C 3 dL_law_509 rfl ?_
        refine j_aload_n (pc := 510) C 1 dL_law_510 rfl ?_
        refine j_iload (pc := 511) C 5 dL_law_511 rfl ?_
        refine j_iconst (pc := 513) (v := (1 : Int32)) C dL_law_513 rfl ?_
        refine j_iadd (pc := 514) C dL_law_514 ?_
        refine j_sld (pc := 515) C hX hbl (by omega) dL_law_515 h (fun h => ?_)
        refine j_aload_n (pc := 516) C 1 dL_law_516 rfl ?_
        refine j_iload (pc := 517) C 5 dL_law_517 rfl ?_
        refine j_iconst (pc := 519) (v := (2 : Int32)) C dL_law_519 rfl ?_
        refine j_iadd (pc := 520) C dL_law_520 ?_
        refine j_sld (pc := 521) C hX hbl (by omega) dL_law_521 h (fun h => ?_)
        refine cs_L_131 (pc := 522) C ⟨Nat.le_of_ble_eq_true rfl, Nat.le_of_ble_eq_true rfl⟩ ⟨Nat.le_trans (show kc + 2 ≤ kB by omega) hkc.1, Nat.le_trans (show ks + 12 ≤ sB by omega) hkc.2⟩ (Nat.le_of_ble_eq_true rfl) dL_law_522 h (fun r23 M23 h => ?_)
        refine j_istore (pc := 525) C [(6, _), (5, _), (0, _), (1, _), (2, _), (3, _), (4, _)] dL_law_525 (by decide) rfl ?_
        refine j_aload_n (pc := 527) C 4 dL_law_527 rfl ?_
        refine cs_L_111 (pc := 528) C ⟨Nat.le_of_ble_eq_true rfl, Nat.le_of_ble_eq_true rfl⟩ ⟨Nat.le_trans (show kc + 2 ≤ kB by omega) hkc.1, Nat.le_trans (show ks + 12 ≤ sB by omega) hkc.2⟩ (Nat.le_of_ble_eq_true rfl) dL_law_528 h (fun r24 M24 h => ?_)
        refine j_iload (pc := 531) C 1 dL_law_531 rfl ?_
        refine j_icmp_eq (pc := 533) C 538 dL_law_533 (by decide) h (fun h => ?_) (fun h => ?_)
        · refine j_iload (pc := 538) C 1 dL_law_538 rfl ?_
          refine j_if_ne (pc := 540) C 555 dL_law_540 (by decide) h (fun h => ?_) (fun h => ?_)
          · refine j_goto (pc := 555) C 2080 dL_law_555 (by decide) ?_
            refine j_iinc (pc := 2080) (v := (6 : Int32)) C 6 [(4, _), (6, _), (5, _), (0, _), (1, _), (2, _), (3, _)] dL_law_2080 rfl rfl (by decide) rfl ?_
            refine j_goto (pc := 2083) C 23 dL_law_2083 (by decide) ?_
            exact j_widen (show kc + 2 ≤ kc + 5 by omega) (show ks + 12 ≤ ks + 30 by omega) (j_weak [3, 4, 5, 6, 0] rfl (ih (kc + 5) (ks + 30) _ _ _ _ _ (by omega) (by omega) h))
          · refine j_aload_n (pc := 543) C 5 dL_law_543 rfl ?_
            refine j_iconst (pc := 544) (v := (0 : Int32)) C dL_law_544 rfl ?_
            refine j_lald (pc := 545) C dL_law_545 h (fun h => ?_)
            refine j_iload (pc := 546) C 0 dL_law_546 rfl ?_
            refine j_i2l (pc := 548) C dL_law_548 ?_
            refine j_lcmp (pc := 549) C dL_law_549 ?_
            refine j_if_eq (pc := 550) C 555 dL_law_550 (by decide) h (fun h => ?_) (fun h => ?_)
            · refine j_goto (pc := 555) C 2080 dL_law_555 (by decide) ?_
              refine j_iinc (pc := 2080) (v := (6 : Int32)) C 6 [(4, _), (6, _), (5, _), (0, _), (1, _), (2, _), (3, _)] dL_law_2080 rfl rfl (by decide) rfl ?_
              refine j_goto (pc := 2083) C 23 dL_law_2083 (by decide) ?_
              exact j_widen (show kc + 2 ≤ kc + 5 by omega) (show ks + 12 ≤ ks + 30 by omega) (j_weak [3, 4, 5, 6, 0] rfl (ih (kc + 5) (ks + 30) _ _ _ _ _ (by omega) (by omega) h))
            · refine j_iconst (pc := 553) (v := (0 : Int32)) C dL_law_553 rfl ?_
              exact j_lawret (pc := 554) C hbs dL_law_554 ⟨Nat.le_trans (show kc + 2 ≤ kB by omega) hkc.1, Nat.le_trans (show ks + 12 ≤ sB by omega) hkc.2⟩ (hP _ _ h)
        · refine j_iconst (pc := 536) (v := (0 : Int32)) C dL_law_536 rfl ?_
          exact j_lawret (pc := 537) C hbs dL_law_537 ⟨Nat.le_trans (show kc + 2 ≤ kB by omega) hkc.1, Nat.le_trans (show ks + 12 ≤ sB by omega) hkc.2⟩ (hP _ _ h)
      rw [if_neg q40_6] at h
      by_cases q40_7 : ((xs x4.toNatClampNeg) &&& (31 : Int32)) = (7 : Int32)
      · rw [if_pos q40_7] at h
        refine j_tsI (pc := 40) (off := 518) C 558 dL_law_40 q40_7 (by decide) (by decide) (by decide) (by decide) ?_
        refine j_aload_n (pc := 558) C 1 dL_law_558 rfl ?_
        refine j_aload_n (pc := 559) C 0 dL_law_559 rfl ?_
        refine j_iload (pc := 560) C 4 dL_law_560 rfl ?_
        refine j_iconst (pc := 562) (v := (1 : Int32)) C dL_law_562 rfl ?_
        refine j_iadd (pc := 563) C dL_law_563 ?_
        refine j_sld (pc := 564) C hX hbl (by omega) dL_law_564 h (fun h => ?_)
        refine j_aload_n (pc := 565) C 0 dL_law_565 rfl ?_
        refine j_iload (pc := 566) C 4 dL_law_566 rfl ?_
        refine j_iconst (pc := 568) (v := (2 : Int32)) C dL_law_568 rfl ?_
        refine j_iadd (pc := 569) C dL_law_569 ?_
        refine j_sld (pc := 570) C hX hbl (by omega) dL_law_570 h (fun h => ?_)
        refine j_aload_n (pc := 571) C 3 dL_law_571 rfl ?_
        refine cs_L_132 (pc := 572) C ⟨Nat.le_of_ble_eq_true rfl, Nat.le_of_ble_eq_true rfl⟩ ⟨Nat.le_trans (show kc + 2 ≤ kB by omega) hkc.1, Nat.le_trans (show ks + 12 ≤ sB by omega) hkc.2⟩ (Nat.le_of_ble_eq_true rfl) dL_law_572 h (fun r25 M25 h => ?_)
        refine j_istore (pc := 575) C [(5, _), (0, _), (1, _), (2, _), (3, _), (4, _)] dL_law_575 (by decide) rfl ?_
        refine j_aload_n (pc := 577) C 3 dL_law_577 rfl ?_
        refine j_aload_n (pc := 578) C 1 dL_law_578 rfl ?_
        refine j_iload (pc := 579) C 5 dL_law_579 rfl ?_
        refine j_iconst (pc := 581) (v := (1 : Int32)) C dL_law_581 rfl ?_
        refine j_iadd (pc := 582) C dL_law_582 ?_
        refine j_sld (pc := 583) C hX hbl (by omega) dL_law_583 h (fun h => ?_)
        refine j_aload_n (pc := 584) C 1 dL_law_584 rfl ?_
        refine j_iload (pc := 585) C 5 dL_law_585 rfl ?_
        refine j_iconst (pc := 587) (v := (2 : Int32)) C dL_law_587 rfl ?_
        refine j_iadd (pc := 588) C dL_law_588 ?_
        refine j_sld (pc := 589) C hX hbl (by omega) dL_law_589 h (fun h => ?_)
        refine cs_L_134 (pc := 590) C ⟨Nat.le_of_ble_eq_true rfl, Nat.le_of_ble_eq_true rfl⟩ ⟨Nat.le_trans (show kc + 2 ≤ kB by omega) hkc.1, Nat.le_trans (show ks + 12 ≤ sB by omega) hkc.2⟩ (Nat.le_of_ble_eq_true rfl) dL_law_590 h (fun r26 M26 h => ?_)
        refine j_istore (pc := 593) C [(6, _), (5, _), (0, _), (1, _), (2, _), (3, _), (4, _)] dL_law_593 (by decide) rfl ?_
        refine j_aload_n (pc := 595) C 4 dL_law_595 rfl ?_
        refine cs_L_111 (pc := 596) C ⟨Nat.le_of_ble_eq_true rfl, Nat.le_of_ble_eq_true rfl⟩ ⟨Nat.le_trans (show kc + 2 ≤ kB by omega) hkc.1, Nat.le_trans (show ks + 12 ≤ sB by omega) hkc.2⟩ (Nat.le_of_ble_eq_true rfl) dL_law_596 h (fun r27 M27 h => ?_)
        refine j_iload (pc := 599) C 1 dL_law_599 rfl ?_
        refine j_icmp_eq (pc := 601) C 606 dL_law_601 (by decide) h (fun h => ?_) (fun h => ?_)
        · refine j_iload (pc := 606) C 1 dL_law_606 rfl ?_
          refine j_if_ne (pc := 608) C 630 dL_law_608 (by decide) h (fun h => ?_) (fun h => ?_)
          · refine j_goto (pc := 630) C 2080 dL_law_630 (by decide) ?_
            refine j_iinc (pc := 2080) (v := (6 : Int32)) C 6 [(4, _), (6, _), (5, _), (0, _), (1, _), (2, _), (3, _)] dL_law_2080 rfl rfl (by decide) rfl ?_
            refine j_goto (pc := 2083) C 23 dL_law_2083 (by decide) ?_
            exact j_widen (show kc + 2 ≤ kc + 5 by omega) (show ks + 12 ≤ ks + 30 by omega) (j_weak [3, 4, 5, 6, 0] rfl (ih (kc + 5) (ks + 30) _ _ _ _ _ (by omega) (by omega) h))
          · refine j_aload_n (pc := 611) C 5 dL_law_611 rfl ?_
            refine j_iconst (pc := 612) (v := (0 : Int32)) C dL_law_612 rfl ?_
            refine j_lald (pc := 613) C dL_law_613 h (fun h => ?_)
            refine j_iload (pc := 614) C 0 dL_law_614 rfl ?_
            refine j_if_eq (pc := 616) C 623 dL_law_616 (by decide) h (fun h => ?_) (fun h => ?_)
            · refine j_lconst (pc := 623) (v := (0 : Int64)) C dL_law_623 rfl ?_
              refine j_lcmp (pc := 624) C dL_law_624 ?_
              refine j_if_eq (pc := 625) C 630 dL_law_625 (by decide) h (fun h => ?_) (fun h => ?_)
              · refine j_goto (pc := 630) C 2080 dL_law_630 (by decide) ?_
                refine j_iinc (pc := 2080) (v := (6 : Int32)) C 6 [(4, _), (6, _), (5, _), (0, _), (1, _), (2, _), (3, _)] dL_law_2080 rfl rfl (by decide) rfl ?_
                refine j_goto (pc := 2083) C 23 dL_law_2083 (by decide) ?_
                exact j_widen (show kc + 2 ≤ kc + 5 by omega) (show ks + 12 ≤ ks + 30 by omega) (j_weak [3, 4, 5, 6, 0] rfl (ih (kc + 5) (ks + 30) _ _ _ _ _ (by omega) (by omega) h))
              · refine j_iconst (pc := 628) (v := (0 : Int32)) C dL_law_628 rfl ?_
                exact j_lawret (pc := 629) C hbs dL_law_629 ⟨Nat.le_trans (show kc + 2 ≤ kB by omega) hkc.1, Nat.le_trans (show ks + 12 ≤ sB by omega) hkc.2⟩ (hP _ _ h)
            · refine j_lconst (pc := 619) (v := (1 : Int64)) C dL_law_619 rfl ?_
              refine j_goto (pc := 620) C 624 dL_law_620 (by decide) ?_
              refine j_lcmp (pc := 624) C dL_law_624 ?_
              refine j_if_eq (pc := 625) C 630 dL_law_625 (by decide) h (fun h => ?_) (fun h => ?_)
              · refine j_goto (pc := 630) C 2080 dL_law_630 (by decide) ?_
                refine j_iinc (pc := 2080) (v := (6 : Int32)) C 6 [(4, _), (6, _), (5, _), (0, _), (1, _), (2, _), (3, _)] dL_law_2080 rfl rfl (by decide) rfl ?_
                refine j_goto (pc := 2083) C 23 dL_law_2083 (by decide) ?_
                exact j_widen (show kc + 2 ≤ kc + 5 by omega) (show ks + 12 ≤ ks + 30 by omega) (j_weak [3, 4, 5, 6, 0] rfl (ih (kc + 5) (ks + 30) _ _ _ _ _ (by omega) (by omega) h))
              · refine j_iconst (pc := 628) (v := (0 : Int32)) C dL_law_628 rfl ?_
                exact j_lawret (pc := 629) C hbs dL_law_629 ⟨Nat.le_trans (show kc + 2 ≤ kB by omega) hkc.1, Nat.le_trans (show ks + 12 ≤ sB by omega) hkc.2⟩ (hP _ _ h)
        · refine j_iconst (pc := 604) (v := (0 : Int32)) C dL_law_604 rfl ?_
          exact j_lawret (pc := 605) C hbs dL_law_605 ⟨Nat.le_trans (show kc + 2 ≤ kB by omega) hkc.1, Nat.le_trans (show ks + 12 ≤ sB by omega) hkc.2⟩ (hP _ _ h)
      rw [if_neg q40_7] at h
      by_cases q40_8 : ((xs x4.toNatClampNeg) &&& (31 : Int32)) = (8 : Int32)
      · rw [if_pos q40_8] at h
        refine j_tsI (pc := 40) (off := 593) C 633 dL_law_40 q40_8 (by decide) (by decide) (by decide) (by decide) ?_
        refine j_aload_n (pc := 633) C 1 dL_law_633 rfl ?_
        refine j_aload_n (pc := 634) C 0 dL_law_634 rfl ?_
        refine j_iload (pc := 635) C 4 dL_law_635 rfl ?_
        refine j_iconst (pc := 637) (v := (1 : Int32)) C dL_law_637 rfl ?_
        refine j_iadd (pc := 638) C dL_law_638 ?_
        refine j_sld (pc := 639) C hX hbl (by omega) dL_law_639 h (fun h => ?_)
        refine j_aload_n (pc := 640) C 0 dL_law_640 rfl ?_
        refine j_iload (pc := 641) C 4 dL_law_641 rfl ?_
        refine j_iconst (pc := 643) (v := (2 : Int32)) C dL_law_643 rfl ?_
        refine j_iadd (pc := 644) C dL_law_644 ?_
        refine j_sld (pc := 645) C hX hbl (by omega) dL_law_645 h (fun h => ?_)
        refine j_aload_n (pc := 646) C 3 dL_law_646 rfl ?_
        refine cs_L_135 (pc := 647) C ⟨Nat.le_of_ble_eq_true rfl, Nat.le_of_ble_eq_true rfl⟩ ⟨Nat.le_trans (show kc + 2 ≤ kB by omega) hkc.1, Nat.le_trans (show ks + 12 ≤ sB by omega) hkc.2⟩ (Nat.le_of_ble_eq_true rfl) dL_law_647 h (fun r28 M28 h => ?_)
        refine j_istore (pc := 650) C [(5, _), (0, _), (1, _), (2, _), (3, _), (4, _)] dL_law_650 (by decide) rfl ?_
        refine j_aload_n (pc := 652) C 3 dL_law_652 rfl ?_
        refine j_aload_n (pc := 653) C 1 dL_law_653 rfl ?_
        refine j_iload (pc := 654) C 5 dL_law_654 rfl ?_
        refine j_iconst (pc := 656) (v := (1 : Int32)) C dL_law_656 rfl ?_
        refine j_iadd (pc := 657) C dL_law_657 ?_
        refine j_sld (pc := 658) C hX hbl (by omega) dL_law_658 h (fun h => ?_)
        refine j_aload_n (pc := 659) C 1 dL_law_659 rfl ?_
        refine j_iload (pc := 660) C 5 dL_law_660 rfl ?_
        refine j_iconst (pc := 662) (v := (2 : Int32)) C dL_law_662 rfl ?_
        refine j_iadd (pc := 663) C dL_law_663 ?_
        refine j_sld (pc := 664) C hX hbl (by omega) dL_law_664 h (fun h => ?_)
        refine cs_L_137 (pc := 665) C ⟨Nat.le_of_ble_eq_true rfl, Nat.le_of_ble_eq_true rfl⟩ ⟨Nat.le_trans (show kc + 2 ≤ kB by omega) hkc.1, Nat.le_trans (show ks + 12 ≤ sB by omega) hkc.2⟩ (Nat.le_of_ble_eq_true rfl) dL_law_665 h (fun r29 M29 h => ?_)
        refine j_istore (pc := 668) C [(6, _), (5, _), (0, _), (1, _), (2, _), (3, _), (4, _)] dL_law_668 (by decide) rfl ?_
        refine j_aload_n (pc := 670) C 4 dL_law_670 rfl ?_
        refine cs_L_111 (pc := 671) C ⟨Nat.le_of_ble_eq_true rfl, Nat.le_of_ble_eq_true rfl⟩ ⟨Nat.le_trans (show kc + 2 ≤ kB by omega) hkc.1, Nat.le_trans (show ks + 12 ≤ sB by omega) hkc.2⟩ (Nat.le_of_ble_eq_true rfl) dL_law_671 h (fun r30 M30 h => ?_)
        refine j_iload (pc := 674) C 1 dL_law_674 rfl ?_
        refine j_icmp_eq (pc := 676) C 681 dL_law_676 (by decide) h (fun h => ?_) (fun h => ?_)
        · refine j_iload (pc := 681) C 1 dL_law_681 rfl ?_
          refine j_if_ne (pc := 683) C 698 dL_law_683 (by decide) h (fun h => ?_) (fun h => ?_)
          · refine j_goto (pc := 698) C 2080 dL_law_698 (by decide) ?_
            refine j_iinc (pc := 2080) (v := (6 : Int32)) C 6 [(4, _), (6, _), (5, _), (0, _), (1, _), (2, _), (3, _)] dL_law_2080 rfl rfl (by decide) rfl ?_
            refine j_goto (pc := 2083) C 23 dL_law_2083 (by decide) ?_
            exact j_widen (show kc + 2 ≤ kc + 5 by omega) (show ks + 12 ≤ ks + 30 by omega) (j_weak [3, 4, 5, 6, 0] rfl (ih (kc + 5) (ks + 30) _ _ _ _ _ (by omega) (by omega) h))
          · refine j_aload_n (pc := 686) C 5 dL_law_686 rfl ?_
            refine j_iconst (pc := 687) (v := (0 : Int32)) C dL_law_687 rfl ?_
            refine j_lald (pc := 688) C dL_law_688 h (fun h => ?_)
            refine j_iload (pc := 689) C 0 dL_law_689 rfl ?_
            refine j_i2l (pc := 691) C dL_law_691 ?_
            refine j_lcmp (pc := 692) C dL_law_692 ?_
            refine j_if_eq (pc := 693) C 698 dL_law_693 (by decide) h (fun h => ?_) (fun h => ?_)
            · refine j_goto (pc := 698) C 2080 dL_law_698 (by decide) ?_
              refine j_iinc (pc := 2080) (v := (6 : Int32)) C 6 [(4, _), (6, _), (5, _), (0, _), (1, _), (2, _), (3, _)] dL_law_2080 rfl rfl (by decide) rfl ?_
              refine j_goto (pc := 2083) C 23 dL_law_2083 (by decide) ?_
              exact j_widen (show kc + 2 ≤ kc + 5 by omega) (show ks + 12 ≤ ks + 30 by omega) (j_weak [3, 4, 5, 6, 0] rfl (ih (kc + 5) (ks + 30) _ _ _ _ _ (by omega) (by omega) h))
            · refine j_iconst (pc := 696) (v := (0 : Int32)) C dL_law_696 rfl ?_
              exact j_lawret (pc := 697) C hbs dL_law_697 ⟨Nat.le_trans (show kc + 2 ≤ kB by omega) hkc.1, Nat.le_trans (show ks + 12 ≤ sB by omega) hkc.2⟩ (hP _ _ h)
        · refine j_iconst (pc := 679) (v := (0 : Int32)) C dL_law_679 rfl ?_
          exact j_lawret (pc := 680) C hbs dL_law_680 ⟨Nat.le_trans (show kc + 2 ≤ kB by omega) hkc.1, Nat.le_trans (show ks + 12 ≤ sB by omega) hkc.2⟩ (hP _ _ h)
      rw [if_neg q40_8] at h
      by_cases q40_9 : ((xs x4.toNatClampNeg) &&& (31 : Int32)) = (9 : Int32)
      · rw [if_pos q40_9] at h
        refine j_tsI (pc := 40) (off := 661) C 701 dL_law_40 q40_9 (by decide) (by decide) (by decide) (by decide) ?_
        refine j_aload_n (pc := 701) C 1 dL_law_701 rfl ?_
        refine j_aload_n (pc := 702) C 0 dL_law_702 rfl ?_
        refine j_iload (pc := 703) C 4 dL_law_703 rfl ?_
        refine j_iconst (pc := 705) (v := (1 : Int32)) C dL_law_705 rfl ?_
        refine j_iadd (pc := 706) C dL_law_706 ?_
        refine j_sld (pc := 707) C hX hbl (by omega) dL_law_707 h (fun h => ?_)
        refine j_aload_n (pc := 708) C 0 dL_law_708 rfl ?_
        refine j_iload (pc := 709) C 4 dL_law_709 rfl ?_
        refine j_iconst (pc := 711) (v := (2 : Int32)) C dL_law_711 rfl ?_
        refine j_iadd (pc := 712) C dL_law_712 ?_
        refine j_sld (pc := 713) C hX hbl (by omega) dL_law_713 h (fun h => ?_)
        refine j_aload_n (pc := 714) C 3 dL_law_714 rfl ?_
        refine cs_L_138 (pc := 715) C ⟨Nat.le_of_ble_eq_true rfl, Nat.le_of_ble_eq_true rfl⟩ ⟨Nat.le_trans (show kc + 2 ≤ kB by omega) hkc.1, Nat.le_trans (show ks + 12 ≤ sB by omega) hkc.2⟩ (Nat.le_of_ble_eq_true rfl) dL_law_715 h (fun r31 M31 h => ?_)
        refine j_istore (pc := 718) C [(5, _), (0, _), (1, _), (2, _), (3, _), (4, _)] dL_law_718 (by decide) rfl ?_
        refine j_aload_n (pc := 720) C 3 dL_law_720 rfl ?_
        refine j_aload_n (pc := 721) C 1 dL_law_721 rfl ?_
        refine j_iload (pc := 722) C 5 dL_law_722 rfl ?_
        refine j_iconst (pc := 724) (v := (1 : Int32)) C dL_law_724 rfl ?_
        refine j_iadd (pc := 725) C dL_law_725 ?_
        refine j_sld (pc := 726) C hX hbl (by omega) dL_law_726 h (fun h => ?_)
        refine j_aload_n (pc := 727) C 1 dL_law_727 rfl ?_
        refine j_iload (pc := 728) C 5 dL_law_728 rfl ?_
        refine j_iconst (pc := 730) (v := (2 : Int32)) C dL_law_730 rfl ?_
        refine j_iadd (pc := 731) C dL_law_731 ?_
        refine j_sld (pc := 732) C hX hbl (by omega) dL_law_732 h (fun h => ?_)
        refine cs_L_140 (pc := 733) C ⟨Nat.le_of_ble_eq_true rfl, Nat.le_of_ble_eq_true rfl⟩ ⟨Nat.le_trans (show kc + 2 ≤ kB by omega) hkc.1, Nat.le_trans (show ks + 12 ≤ sB by omega) hkc.2⟩ (Nat.le_of_ble_eq_true rfl) dL_law_733 h (fun r32 M32 h => ?_)
        refine j_istore (pc := 736) C [(6, _), (5, _), (0, _), (1, _), (2, _), (3, _), (4, _)] dL_law_736 (by decide) rfl ?_
        refine j_aload_n (pc := 738) C 4 dL_law_738 rfl ?_
        refine cs_L_111 (pc := 739) C ⟨Nat.le_of_ble_eq_true rfl, Nat.le_of_ble_eq_true rfl⟩ ⟨Nat.le_trans (show kc + 2 ≤ kB by omega) hkc.1, Nat.le_trans (show ks + 12 ≤ sB by omega) hkc.2⟩ (Nat.le_of_ble_eq_true rfl) dL_law_739 h (fun r33 M33 h => ?_)
        refine j_iload (pc := 742) C 1 dL_law_742 rfl ?_
        refine j_icmp_eq (pc := 744) C 749 dL_law_744 (by decide) h (fun h => ?_) (fun h => ?_)
        · refine j_iload (pc := 749) C 1 dL_law_749 rfl ?_
          refine j_if_ne (pc := 751) C 766 dL_law_751 (by decide) h (fun h => ?_) (fun h => ?_)
          · refine j_goto (pc := 766) C 2080 dL_law_766 (by decide) ?_
            refine j_iinc (pc := 2080) (v := (6 : Int32)) C 6 [(4, _), (6, _), (5, _), (0, _), (1, _), (2, _), (3, _)] dL_law_2080 rfl rfl (by decide) rfl ?_
            refine j_goto (pc := 2083) C 23 dL_law_2083 (by decide) ?_
            exact j_widen (show kc + 2 ≤ kc + 5 by omega) (show ks + 12 ≤ ks + 30 by omega) (j_weak [3, 4, 5, 6, 0] rfl (ih (kc + 5) (ks + 30) _ _ _ _ _ (by omega) (by omega) h))
          · refine j_aload_n (pc := 754) C 5 dL_law_754 rfl ?_
            refine j_iconst (pc := 755) (v := (0 : Int32)) C dL_law_755 rfl ?_
            refine j_lald (pc := 756) C dL_law_756 h (fun h => ?_)
            refine j_iload (pc := 757) C 0 dL_law_757 rfl ?_
            refine j_i2l (pc := 759) C dL_law_759 ?_
            refine j_lcmp (pc := 760) C dL_law_760 ?_
            refine j_if_eq (pc := 761) C 766 dL_law_761 (by decide) h (fun h => ?_) (fun h => ?_)
            · refine j_goto (pc := 766) C 2080 dL_law_766 (by decide) ?_
              refine j_iinc (pc := 2080) (v := (6 : Int32)) C 6 [(4, _), (6, _), (5, _), (0, _), (1, _), (2, _), (3, _)] dL_law_2080 rfl rfl (by decide) rfl ?_
              refine j_goto (pc := 2083) C 23 dL_law_2083 (by decide) ?_
              exact j_widen (show kc + 2 ≤ kc + 5 by omega) (show ks + 12 ≤ ks + 30 by omega) (j_weak [3, 4, 5, 6, 0] rfl (ih (kc + 5) (ks + 30) _ _ _ _ _ (by omega) (by omega) h))
            · refine j_iconst (pc := 764) (v := (0 : Int32)) C dL_law_764 rfl ?_
              exact j_lawret (pc := 765) C hbs dL_law_765 ⟨Nat.le_trans (show kc + 2 ≤ kB by omega) hkc.1, Nat.le_trans (show ks + 12 ≤ sB by omega) hkc.2⟩ (hP _ _ h)
        · refine j_iconst (pc := 747) (v := (0 : Int32)) C dL_law_747 rfl ?_
          exact j_lawret (pc := 748) C hbs dL_law_748 ⟨Nat.le_trans (show kc + 2 ≤ kB by omega) hkc.1, Nat.le_trans (show ks + 12 ≤ sB by omega) hkc.2⟩ (hP _ _ h)
      rw [if_neg q40_9] at h
      by_cases q40_10 : ((xs x4.toNatClampNeg) &&& (31 : Int32)) = (10 : Int32)
      · rw [if_pos q40_10] at h
        refine j_tsI (pc := 40) (off := 729) C 769 dL_law_40 q40_10 (by decide) (by decide) (by decide) (by decide) ?_
        refine j_aload_n (pc := 769) C 1 dL_law_769 rfl ?_
        refine j_aload_n (pc := 770) C 0 dL_law_770 rfl ?_
        refine j_iload (pc := 771) C 4 dL_law_771 rfl ?_
        refine j_iconst (pc := 773) (v := (1 : Int32)) C dL_law_773 rfl ?_
        refine j_iadd (pc := 774) C dL_law_774 ?_
        refine j_sld (pc := 775) C hX hbl (by omega) dL_law_775 h (fun h => ?_)
        refine j_aload_n (pc := 776) C 0 dL_law_776 rfl ?_
        refine j_iload (pc := 777) C 4 dL_law_777 rfl ?_
        refine j_iconst (pc := 779) (v := (2 : Int32)) C dL_law_779 rfl ?_
        refine j_iadd (pc := 780) C dL_law_780 ?_
        refine j_sld (pc := 781) C hX hbl (by omega) dL_law_781 h (fun h => ?_)
        refine j_aload_n (pc := 782) C 3 dL_law_782 rfl ?_
        refine cs_L_141 (pc := 783) C ⟨Nat.le_of_ble_eq_true rfl, Nat.le_of_ble_eq_true rfl⟩ ⟨Nat.le_trans (show kc + 2 ≤ kB by omega) hkc.1, Nat.le_trans (show ks + 12 ≤ sB by omega) hkc.2⟩ (Nat.le_of_ble_eq_true rfl) dL_law_783 h (fun r34 M34 h => ?_)
        refine j_istore (pc := 786) C [(5, _), (0, _), (1, _), (2, _), (3, _), (4, _)] dL_law_786 (by decide) rfl ?_
        refine j_aload_n (pc := 788) C 3 dL_law_788 rfl ?_
        refine j_aload_n (pc := 789) C 1 dL_law_789 rfl ?_
        refine j_iload (pc := 790) C 5 dL_law_790 rfl ?_
        refine j_iconst (pc := 792) (v := (1 : Int32)) C dL_law_792 rfl ?_
        refine j_iadd (pc := 793) C dL_law_793 ?_
        refine j_sld (pc := 794) C hX hbl (by omega) dL_law_794 h (fun h => ?_)
        refine j_aload_n (pc := 795) C 1 dL_law_795 rfl ?_
        refine j_iload (pc := 796) C 5 dL_law_796 rfl ?_
        refine j_iconst (pc := 798) (v := (2 : Int32)) C dL_law_798 rfl ?_
        refine j_iadd (pc := 799) C dL_law_799 ?_
        refine j_sld (pc := 800) C hX hbl (by omega) dL_law_800 h (fun h => ?_)
        refine cs_L_143 (pc := 801) C ⟨Nat.le_of_ble_eq_true rfl, Nat.le_of_ble_eq_true rfl⟩ ⟨Nat.le_trans (show kc + 2 ≤ kB by omega) hkc.1, Nat.le_trans (show ks + 12 ≤ sB by omega) hkc.2⟩ (Nat.le_of_ble_eq_true rfl) dL_law_801 h (fun r35 M35 h => ?_)
        refine j_istore (pc := 804) C [(6, _), (5, _), (0, _), (1, _), (2, _), (3, _), (4, _)] dL_law_804 (by decide) rfl ?_
        refine j_aload_n (pc := 806) C 4 dL_law_806 rfl ?_
        refine cs_L_111 (pc := 807) C ⟨Nat.le_of_ble_eq_true rfl, Nat.le_of_ble_eq_true rfl⟩ ⟨Nat.le_trans (show kc + 2 ≤ kB by omega) hkc.1, Nat.le_trans (show ks + 12 ≤ sB by omega) hkc.2⟩ (Nat.le_of_ble_eq_true rfl) dL_law_807 h (fun r36 M36 h => ?_)
        refine j_iload (pc := 810) C 1 dL_law_810 rfl ?_
        refine j_icmp_eq (pc := 812) C 817 dL_law_812 (by decide) h (fun h => ?_) (fun h => ?_)
        · refine j_iload (pc := 817) C 1 dL_law_817 rfl ?_
          refine j_if_ne (pc := 819) C 834 dL_law_819 (by decide) h (fun h => ?_) (fun h => ?_)
          · refine j_goto (pc := 834) C 2080 dL_law_834 (by decide) ?_
            refine j_iinc (pc := 2080) (v := (6 : Int32)) C 6 [(4, _), (6, _), (5, _), (0, _), (1, _), (2, _), (3, _)] dL_law_2080 rfl rfl (by decide) rfl ?_
            refine j_goto (pc := 2083) C 23 dL_law_2083 (by decide) ?_
            exact j_widen (show kc + 2 ≤ kc + 5 by omega) (show ks + 12 ≤ ks + 30 by omega) (j_weak [3, 4, 5, 6, 0] rfl (ih (kc + 5) (ks + 30) _ _ _ _ _ (by omega) (by omega) h))
          · refine j_aload_n (pc := 822) C 5 dL_law_822 rfl ?_
            refine j_iconst (pc := 823) (v := (0 : Int32)) C dL_law_823 rfl ?_
            refine j_lald (pc := 824) C dL_law_824 h (fun h => ?_)
            refine j_iload (pc := 825) C 0 dL_law_825 rfl ?_
            refine j_i2l (pc := 827) C dL_law_827 ?_
            refine j_lcmp (pc := 828) C dL_law_828 ?_
            refine j_if_eq (pc := 829) C 834 dL_law_829 (by decide) h (fun h => ?_) (fun h => ?_)
            · refine j_goto (pc := 834) C 2080 dL_law_834 (by decide) ?_
              refine j_iinc (pc := 2080) (v := (6 : Int32)) C 6 [(4, _), (6, _), (5, _), (0, _), (1, _), (2, _), (3, _)] dL_law_2080 rfl rfl (by decide) rfl ?_
              refine j_goto (pc := 2083) C 23 dL_law_2083 (by decide) ?_
              exact j_widen (show kc + 2 ≤ kc + 5 by omega) (show ks + 12 ≤ ks + 30 by omega) (j_weak [3, 4, 5, 6, 0] rfl (ih (kc + 5) (ks + 30) _ _ _ _ _ (by omega) (by omega) h))
            · refine j_iconst (pc := 832) (v := (0 : Int32)) C dL_law_832 rfl ?_
              exact j_lawret (pc := 833) C hbs dL_law_833 ⟨Nat.le_trans (show kc + 2 ≤ kB by omega) hkc.1, Nat.le_trans (show ks + 12 ≤ sB by omega) hkc.2⟩ (hP _ _ h)
        · refine j_iconst (pc := 815) (v := (0 : Int32)) C dL_law_815 rfl ?_
          exact j_lawret (pc := 816) C hbs dL_law_816 ⟨Nat.le_trans (show kc + 2 ≤ kB by omega) hkc.1, Nat.le_trans (show ks + 12 ≤ sB by omega) hkc.2⟩ (hP _ _ h)
      rw [if_neg q40_10] at h
      by_cases q40_11 : ((xs x4.toNatClampNeg) &&& (31 : Int32)) = (11 : Int32)
      · rw [if_pos q40_11] at h
        refine j_tsI (pc := 40) (off := 797) C 837 dL_law_40 q40_11 (by decide) (by decide) (by decide) (by decide) ?_
        refine j_aload_n (pc := 837) C 1 dL_law_837 rfl ?_
        refine j_aload_n (pc := 838) C 0 dL_law_838 rfl ?_
        refine j_iload (pc := 839) C 4 dL_law_839 rfl ?_
        refine j_iconst (pc := 841) (v := (1 : Int32)) C dL_law_841 rfl ?_
        refine j_iadd (pc := 842) C dL_law_842 ?_
        refine j_sld (pc := 843) C hX hbl (by omega) dL_law_843 h (fun h => ?_)
        refine j_aload_n (pc := 844) C 0 dL_law_844 rfl ?_
        refine j_iload (pc := 845) C 4 dL_law_845 rfl ?_
        refine j_iconst (pc := 847) (v := (2 : Int32)) C dL_law_847 rfl ?_
        refine j_iadd (pc := 848) C dL_law_848 ?_
        refine j_sld (pc := 849) C hX hbl (by omega) dL_law_849 h (fun h => ?_)
        refine j_aload_n (pc := 850) C 0 dL_law_850 rfl ?_
        refine j_iload (pc := 851) C 4 dL_law_851 rfl ?_
        refine j_iconst (pc := 853) (v := (3 : Int32)) C dL_law_853 rfl ?_
        refine j_iadd (pc := 854) C dL_law_854 ?_
        refine j_sld (pc := 855) C hX hbl (by omega) dL_law_855 h (fun h => ?_)
        refine j_aload_n (pc := 856) C 3 dL_law_856 rfl ?_
        refine cs_L_144 (pc := 857) C ⟨Nat.le_of_ble_eq_true rfl, Nat.le_of_ble_eq_true rfl⟩ ⟨Nat.le_trans (show kc + 3 ≤ kB by omega) hkc.1, Nat.le_trans (show ks + 18 ≤ sB by omega) hkc.2⟩ (Nat.le_of_ble_eq_true rfl) dL_law_857 h (fun r37 M37 h => ?_)
        refine j_istore (pc := 860) C [(5, _), (0, _), (1, _), (2, _), (3, _), (4, _)] dL_law_860 (by decide) rfl ?_
        refine j_aload_n (pc := 862) C 3 dL_law_862 rfl ?_
        refine j_aload_n (pc := 863) C 1 dL_law_863 rfl ?_
        refine j_iload (pc := 864) C 5 dL_law_864 rfl ?_
        refine j_iconst (pc := 866) (v := (1 : Int32)) C dL_law_866 rfl ?_
        refine j_iadd (pc := 867) C dL_law_867 ?_
        refine j_sld (pc := 868) C hX hbl (by omega) dL_law_868 h (fun h => ?_)
        refine j_aload_n (pc := 869) C 1 dL_law_869 rfl ?_
        refine j_iload (pc := 870) C 5 dL_law_870 rfl ?_
        refine j_iconst (pc := 872) (v := (2 : Int32)) C dL_law_872 rfl ?_
        refine j_iadd (pc := 873) C dL_law_873 ?_
        refine j_sld (pc := 874) C hX hbl (by omega) dL_law_874 h (fun h => ?_)
        refine j_aload_n (pc := 875) C 1 dL_law_875 rfl ?_
        refine j_iload (pc := 876) C 5 dL_law_876 rfl ?_
        refine j_iconst (pc := 878) (v := (3 : Int32)) C dL_law_878 rfl ?_
        refine j_iadd (pc := 879) C dL_law_879 ?_
        refine j_sld (pc := 880) C hX hbl (by omega) dL_law_880 h (fun h => ?_)
        refine cs_L_147 (pc := 881) C ⟨Nat.le_of_ble_eq_true rfl, Nat.le_of_ble_eq_true rfl⟩ ⟨Nat.le_trans (show kc + 3 ≤ kB by omega) hkc.1, Nat.le_trans (show ks + 18 ≤ sB by omega) hkc.2⟩ (Nat.le_of_ble_eq_true rfl) dL_law_881 h (fun r38 M38 h => ?_)
        refine j_istore (pc := 884) C [(6, _), (5, _), (0, _), (1, _), (2, _), (3, _), (4, _)] dL_law_884 (by decide) rfl ?_
        refine j_aload_n (pc := 886) C 4 dL_law_886 rfl ?_
        refine cs_L_111 (pc := 887) C ⟨Nat.le_of_ble_eq_true rfl, Nat.le_of_ble_eq_true rfl⟩ ⟨Nat.le_trans (show kc + 3 ≤ kB by omega) hkc.1, Nat.le_trans (show ks + 18 ≤ sB by omega) hkc.2⟩ (Nat.le_of_ble_eq_true rfl) dL_law_887 h (fun r39 M39 h => ?_)
        refine j_iload (pc := 890) C 1 dL_law_890 rfl ?_
        refine j_icmp_eq (pc := 892) C 897 dL_law_892 (by decide) h (fun h => ?_) (fun h => ?_)
        · refine j_iload (pc := 897) C 1 dL_law_897 rfl ?_
          refine j_if_ne (pc := 899) C 914 dL_law_899 (by decide) h (fun h => ?_) (fun h => ?_)
          · refine j_goto (pc := 914) C 2080 dL_law_914 (by decide) ?_
            refine j_iinc (pc := 2080) (v := (6 : Int32)) C 6 [(4, _), (6, _), (5, _), (0, _), (1, _), (2, _), (3, _)] dL_law_2080 rfl rfl (by decide) rfl ?_
            refine j_goto (pc := 2083) C 23 dL_law_2083 (by decide) ?_
            exact j_widen (show kc + 3 ≤ kc + 5 by omega) (show ks + 18 ≤ ks + 30 by omega) (j_weak [3, 4, 5, 6, 0] rfl (ih (kc + 5) (ks + 30) _ _ _ _ _ (by omega) (by omega) h))
          · refine j_aload_n (pc := 902) C 5 dL_law_902 rfl ?_
            refine j_iconst (pc := 903) (v := (0 : Int32)) C dL_law_903 rfl ?_
            refine j_lald (pc := 904) C dL_law_904 h (fun h => ?_)
            refine j_iload (pc := 905) C 0 dL_law_905 rfl ?_
            refine j_i2l (pc := 907) C dL_law_907 ?_
            refine j_lcmp (pc := 908) C dL_law_908 ?_
            refine j_if_eq (pc := 909) C 914 dL_law_909 (by decide) h (fun h => ?_) (fun h => ?_)
            · refine j_goto (pc := 914) C 2080 dL_law_914 (by decide) ?_
              refine j_iinc (pc := 2080) (v := (6 : Int32)) C 6 [(4, _), (6, _), (5, _), (0, _), (1, _), (2, _), (3, _)] dL_law_2080 rfl rfl (by decide) rfl ?_
              refine j_goto (pc := 2083) C 23 dL_law_2083 (by decide) ?_
              exact j_widen (show kc + 3 ≤ kc + 5 by omega) (show ks + 18 ≤ ks + 30 by omega) (j_weak [3, 4, 5, 6, 0] rfl (ih (kc + 5) (ks + 30) _ _ _ _ _ (by omega) (by omega) h))
            · refine j_iconst (pc := 912) (v := (0 : Int32)) C dL_law_912 rfl ?_
              exact j_lawret (pc := 913) C hbs dL_law_913 ⟨Nat.le_trans (show kc + 3 ≤ kB by omega) hkc.1, Nat.le_trans (show ks + 18 ≤ sB by omega) hkc.2⟩ (hP _ _ h)
        · refine j_iconst (pc := 895) (v := (0 : Int32)) C dL_law_895 rfl ?_
          exact j_lawret (pc := 896) C hbs dL_law_896 ⟨Nat.le_trans (show kc + 3 ≤ kB by omega) hkc.1, Nat.le_trans (show ks + 18 ≤ sB by omega) hkc.2⟩ (hP _ _ h)
      rw [if_neg q40_11] at h
      by_cases q40_12 : ((xs x4.toNatClampNeg) &&& (31 : Int32)) = (12 : Int32)
      · rw [if_pos q40_12] at h
        refine j_tsI (pc := 40) (off := 877) C 917 dL_law_40 q40_12 (by decide) (by decide) (by decide) (by decide) ?_
        refine j_aload_n (pc := 917) C 1 dL_law_917 rfl ?_
        refine j_aload_n (pc := 918) C 0 dL_law_918 rfl ?_
        refine j_iload (pc := 919) C 4 dL_law_919 rfl ?_
        refine j_iconst (pc := 921) (v := (1 : Int32)) C dL_law_921 rfl ?_
        refine j_iadd (pc := 922) C dL_law_922 ?_
        refine j_sld (pc := 923) C hX hbl (by omega) dL_law_923 h (fun h => ?_)
        refine j_aload_n (pc := 924) C 0 dL_law_924 rfl ?_
        refine j_iload (pc := 925) C 4 dL_law_925 rfl ?_
        refine j_iconst (pc := 927) (v := (2 : Int32)) C dL_law_927 rfl ?_
        refine j_iadd (pc := 928) C dL_law_928 ?_
        refine j_sld (pc := 929) C hX hbl (by omega) dL_law_929 h (fun h => ?_)
        refine j_aload_n (pc := 930) C 3 dL_law_930 rfl ?_
        refine cs_L_148 (pc := 931) C ⟨Nat.le_of_ble_eq_true rfl, Nat.le_of_ble_eq_true rfl⟩ ⟨Nat.le_trans (show kc + 2 ≤ kB by omega) hkc.1, Nat.le_trans (show ks + 12 ≤ sB by omega) hkc.2⟩ (Nat.le_of_ble_eq_true rfl) dL_law_931 h (fun r40 M40 h => ?_)
        refine j_istore (pc := 934) C [(5, _), (0, _), (1, _), (2, _), (3, _), (4, _)] dL_law_934 (by decide) rfl ?_
        refine j_aload_n (pc := 936) C 3 dL_law_936 rfl ?_
        refine j_aload_n (pc := 937) C 1 dL_law_937 rfl ?_
        refine j_iload (pc := 938) C 5 dL_law_938 rfl ?_
        refine j_iconst (pc := 940) (v := (1 : Int32)) C dL_law_940 rfl ?_
        refine j_iadd (pc := 941) C dL_law_941 ?_
        refine j_sld (pc := 942) C hX hbl (by omega) dL_law_942 h (fun h => ?_)
        refine j_aload_n (pc := 943) C 1 dL_law_943 rfl ?_
        refine j_iload (pc := 944) C 5 dL_law_944 rfl ?_
        refine j_iconst (pc := 946) (v := (2 : Int32)) C dL_law_946 rfl ?_
        refine j_iadd (pc := 947) C dL_law_947 ?_
        refine j_sld (pc := 948) C hX hbl (by omega) dL_law_948 h (fun h => ?_)
        refine cs_L_150 (pc := 949) C ⟨Nat.le_of_ble_eq_true rfl, Nat.le_of_ble_eq_true rfl⟩ ⟨Nat.le_trans (show kc + 2 ≤ kB by omega) hkc.1, Nat.le_trans (show ks + 12 ≤ sB by omega) hkc.2⟩ (Nat.le_of_ble_eq_true rfl) dL_law_949 h (fun r41 M41 h => ?_)
        refine j_istore (pc := 952) C [(6, _), (5, _), (0, _), (1, _), (2, _), (3, _), (4, _)] dL_law_952 (by decide) rfl ?_
        refine j_aload_n (pc := 954) C 4 dL_law_954 rfl ?_
        refine cs_L_111 (pc := 955) C ⟨Nat.le_of_ble_eq_true rfl, Nat.le_of_ble_eq_true rfl⟩ ⟨Nat.le_trans (show kc + 2 ≤ kB by omega) hkc.1, Nat.le_trans (show ks + 12 ≤ sB by omega) hkc.2⟩ (Nat.le_of_ble_eq_true rfl) dL_law_955 h (fun r42 M42 h => ?_)
        refine j_iload (pc := 958) C 1 dL_law_958 rfl ?_
        refine j_icmp_eq (pc := 960) C 965 dL_law_960 (by decide) h (fun h => ?_) (fun h => ?_)
        · refine j_iload (pc := 965) C 1 dL_law_965 rfl ?_
          refine j_if_ne (pc := 967) C 982 dL_law_967 (by decide) h (fun h => ?_) (fun h => ?_)
          · refine j_goto (pc := 982) C 2080 dL_law_982 (by decide) ?_
            refine j_iinc (pc := 2080) (v := (6 : Int32)) C 6 [(4, _), (6, _), (5, _), (0, _), (1, _), (2, _), (3, _)] dL_law_2080 rfl rfl (by decide) rfl ?_
            refine j_goto (pc := 2083) C 23 dL_law_2083 (by decide) ?_
            exact j_widen (show kc + 2 ≤ kc + 5 by omega) (show ks + 12 ≤ ks + 30 by omega) (j_weak [3, 4, 5, 6, 0] rfl (ih (kc + 5) (ks + 30) _ _ _ _ _ (by omega) (by omega) h))
          · refine j_aload_n (pc := 970) C 5 dL_law_970 rfl ?_
            refine j_iconst (pc := 971) (v := (0 : Int32)) C dL_law_971 rfl ?_
            refine j_lald (pc := 972) C dL_law_972 h (fun h => ?_)
            refine j_iload (pc := 973) C 0 dL_law_973 rfl ?_
            refine j_i2l (pc := 975) C dL_law_975 ?_
            refine j_lcmp (pc := 976) C dL_law_976 ?_
            refine j_if_eq (pc := 977) C 982 dL_law_977 (by decide) h (fun h => ?_) (fun h => ?_)
            · refine j_goto (pc := 982) C 2080 dL_law_982 (by decide) ?_
              refine j_iinc (pc := 2080) (v := (6 : Int32)) C 6 [(4, _), (6, _), (5, _), (0, _), (1, _), (2, _), (3, _)] dL_law_2080 rfl rfl (by decide) rfl ?_
              refine j_goto (pc := 2083) C 23 dL_law_2083 (by decide) ?_
              exact j_widen (show kc + 2 ≤ kc + 5 by omega) (show ks + 12 ≤ ks + 30 by omega) (j_weak [3, 4, 5, 6, 0] rfl (ih (kc + 5) (ks + 30) _ _ _ _ _ (by omega) (by omega) h))
            · refine j_iconst (pc := 980) (v := (0 : Int32)) C dL_law_980 rfl ?_
              exact j_lawret (pc := 981) C hbs dL_law_981 ⟨Nat.le_trans (show kc + 2 ≤ kB by omega) hkc.1, Nat.le_trans (show ks + 12 ≤ sB by omega) hkc.2⟩ (hP _ _ h)
        · refine j_iconst (pc := 963) (v := (0 : Int32)) C dL_law_963 rfl ?_
          exact j_lawret (pc := 964) C hbs dL_law_964 ⟨Nat.le_trans (show kc + 2 ≤ kB by omega) hkc.1, Nat.le_trans (show ks + 12 ≤ sB by omega) hkc.2⟩ (hP _ _ h)
      rw [if_neg q40_12] at h
      by_cases q40_13 : ((xs x4.toNatClampNeg) &&& (31 : Int32)) = (13 : Int32)
      · rw [if_pos q40_13] at h
        refine j_tsI (pc := 40) (off := 945) C 985 dL_law_40 q40_13 (by decide) (by decide) (by decide) (by decide) ?_
        refine j_aload_n (pc := 985) C 1 dL_law_985 rfl ?_
        refine j_aload_n (pc := 986) C 0 dL_law_986 rfl ?_
        refine j_iload (pc := 987) C 4 dL_law_987 rfl ?_
        refine j_iconst (pc := 989) (v := (1 : Int32)) C dL_law_989 rfl ?_
        refine j_iadd (pc := 990) C dL_law_990 ?_
        refine j_sld (pc := 991) C hX hbl (by omega) dL_law_991 h (fun h => ?_)
        refine j_aload_n (pc := 992) C 0 dL_law_992 rfl ?_
        refine j_iload (pc := 993) C 4 dL_law_993 rfl ?_
        refine j_iconst (pc := 995) (v := (2 : Int32)) C dL_law_995 rfl ?_
        refine j_iadd (pc := 996) C dL_law_996 ?_
        refine j_sld (pc := 997) C hX hbl (by omega) dL_law_997 h (fun h => ?_)
        refine j_aload_n (pc := 998) C 3 dL_law_998 rfl ?_
        refine cs_L_151 (pc := 999) C ⟨Nat.le_of_ble_eq_true rfl, Nat.le_of_ble_eq_true rfl⟩ ⟨Nat.le_trans (show kc + 2 ≤ kB by omega) hkc.1, Nat.le_trans (show ks + 12 ≤ sB by omega) hkc.2⟩ (Nat.le_of_ble_eq_true rfl) dL_law_999 h (fun r43 M43 h => ?_)
        refine j_istore (pc := 1002) C [(5, _), (0, _), (1, _), (2, _), (3, _), (4, _)] dL_law_1002 (by decide) rfl ?_
        refine j_aload_n (pc := 1004) C 3 dL_law_1004 rfl ?_
        refine j_aload_n (pc := 1005) C 1 dL_law_1005 rfl ?_
        refine j_iload (pc := 1006) C 5 dL_law_1006 rfl ?_
        refine j_iconst (pc := 1008) (v := (1 : Int32)) C dL_law_1008 rfl ?_
        refine j_iadd (pc := 1009) C dL_law_1009 ?_
        refine j_sld (pc := 1010) C hX hbl (by omega) dL_law_1010 h (fun h => ?_)
        refine j_aload_n (pc := 1011) C 1 dL_law_1011 rfl ?_
        refine j_iload (pc := 1012) C 5 dL_law_1012 rfl ?_
        refine j_iconst (pc := 1014) (v := (2 : Int32)) C dL_law_1014 rfl ?_
        refine j_iadd (pc := 1015) C dL_law_1015 ?_
        refine j_sld (pc := 1016) C hX hbl (by omega) dL_law_1016 h (fun h => ?_)
        refine cs_L_153 (pc := 1017) C ⟨Nat.le_of_ble_eq_true rfl, Nat.le_of_ble_eq_true rfl⟩ ⟨Nat.le_trans (show kc + 2 ≤ kB by omega) hkc.1, Nat.le_trans (show ks + 12 ≤ sB by omega) hkc.2⟩ (Nat.le_of_ble_eq_true rfl) dL_law_1017 h (fun r44 M44 h => ?_)
        refine j_istore (pc := 1020) C [(6, _), (5, _), (0, _), (1, _), (2, _), (3, _), (4, _)] dL_law_1020 (by decide) rfl ?_
        refine j_aload_n (pc := 1022) C 4 dL_law_1022 rfl ?_
        refine cs_L_111 (pc := 1023) C ⟨Nat.le_of_ble_eq_true rfl, Nat.le_of_ble_eq_true rfl⟩ ⟨Nat.le_trans (show kc + 2 ≤ kB by omega) hkc.1, Nat.le_trans (show ks + 12 ≤ sB by omega) hkc.2⟩ (Nat.le_of_ble_eq_true rfl) dL_law_1023 h (fun r45 M45 h => ?_)
        refine j_iload (pc := 1026) C 1 dL_law_1026 rfl ?_
        refine j_icmp_eq (pc := 1028) C 1033 dL_law_1028 (by decide) h (fun h => ?_) (fun h => ?_)
        · refine j_iload (pc := 1033) C 1 dL_law_1033 rfl ?_
          refine j_if_ne (pc := 1035) C 1050 dL_law_1035 (by decide) h (fun h => ?_) (fun h => ?_)
          · refine j_goto (pc := 1050) C 2080 dL_law_1050 (by decide) ?_
            refine j_iinc (pc := 2080) (v := (6 : Int32)) C 6 [(4, _), (6, _), (5, _), (0, _), (1, _), (2, _), (3, _)] dL_law_2080 rfl rfl (by decide) rfl ?_
            refine j_goto (pc := 2083) C 23 dL_law_2083 (by decide) ?_
            exact j_widen (show kc + 2 ≤ kc + 5 by omega) (show ks + 12 ≤ ks + 30 by omega) (j_weak [3, 4, 5, 6, 0] rfl (ih (kc + 5) (ks + 30) _ _ _ _ _ (by omega) (by omega) h))
          · refine j_aload_n (pc := 1038) C 5 dL_law_1038 rfl ?_
            refine j_iconst (pc := 1039) (v := (0 : Int32)) C dL_law_1039 rfl ?_
            refine j_lald (pc := 1040) C dL_law_1040 h (fun h => ?_)
            refine j_iload (pc := 1041) C 0 dL_law_1041 rfl ?_
            refine j_i2l (pc := 1043) C dL_law_1043 ?_
            refine j_lcmp (pc := 1044) C dL_law_1044 ?_
            refine j_if_eq (pc := 1045) C 1050 dL_law_1045 (by decide) h (fun h => ?_) (fun h => ?_)
            · refine j_goto (pc := 1050) C 2080 dL_law_1050 (by decide) ?_
              refine j_iinc (pc := 2080) (v := (6 : Int32)) C 6 [(4, _), (6, _), (5, _), (0, _), (1, _), (2, _), (3, _)] dL_law_2080 rfl rfl (by decide) rfl ?_
              refine j_goto (pc := 2083) C 23 dL_law_2083 (by decide) ?_
              exact j_widen (show kc + 2 ≤ kc + 5 by omega) (show ks + 12 ≤ ks + 30 by omega) (j_weak [3, 4, 5, 6, 0] rfl (ih (kc + 5) (ks + 30) _ _ _ _ _ (by omega) (by omega) h))
            · refine j_iconst (pc := 1048) (v := (0 : Int32)) C dL_law_1048 rfl ?_
              exact j_lawret (pc := 1049) C hbs dL_law_1049 ⟨Nat.le_trans (show kc + 2 ≤ kB by omega) hkc.1, Nat.le_trans (show ks + 12 ≤ sB by omega) hkc.2⟩ (hP _ _ h)
        · refine j_iconst (pc := 1031) (v := (0 : Int32)) C dL_law_1031 rfl ?_
          exact j_lawret (pc := 1032) C hbs dL_law_1032 ⟨Nat.le_trans (show kc + 2 ≤ kB by omega) hkc.1, Nat.le_trans (show ks + 12 ≤ sB by omega) hkc.2⟩ (hP _ _ h)
      rw [if_neg q40_13] at h
      by_cases q40_14 : ((xs x4.toNatClampNeg) &&& (31 : Int32)) = (14 : Int32)
      · rw [if_pos q40_14] at h
        refine j_tsI (pc := 40) (off := 1013) C 1053 dL_law_40 q40_14 (by decide) (by decide) (by decide) (by decide) ?_
        refine j_aload_n (pc := 1053) C 1 dL_law_1053 rfl ?_
        refine j_aload_n (pc := 1054) C 0 dL_law_1054 rfl ?_
        refine j_iload (pc := 1055) C 4 dL_law_1055 rfl ?_
        refine j_iconst (pc := 1057) (v := (1 : Int32)) C dL_law_1057 rfl ?_
        refine j_iadd (pc := 1058) C dL_law_1058 ?_
        refine j_sld (pc := 1059) C hX hbl (by omega) dL_law_1059 h (fun h => ?_)
        refine j_aload_n (pc := 1060) C 0 dL_law_1060 rfl ?_
        refine j_iload (pc := 1061) C 4 dL_law_1061 rfl ?_
        refine j_iconst (pc := 1063) (v := (2 : Int32)) C dL_law_1063 rfl ?_
        refine j_iadd (pc := 1064) C dL_law_1064 ?_
        refine j_sld (pc := 1065) C hX hbl (by omega) dL_law_1065 h (fun h => ?_)
        refine j_aload_n (pc := 1066) C 0 dL_law_1066 rfl ?_
        refine j_iload (pc := 1067) C 4 dL_law_1067 rfl ?_
        refine j_iconst (pc := 1069) (v := (3 : Int32)) C dL_law_1069 rfl ?_
        refine j_iadd (pc := 1070) C dL_law_1070 ?_
        refine j_sld (pc := 1071) C hX hbl (by omega) dL_law_1071 h (fun h => ?_)
        refine j_aload_n (pc := 1072) C 0 dL_law_1072 rfl ?_
        refine j_iload (pc := 1073) C 4 dL_law_1073 rfl ?_
        refine j_iconst (pc := 1075) (v := (4 : Int32)) C dL_law_1075 rfl ?_
        refine j_iadd (pc := 1076) C dL_law_1076 ?_
        refine j_sld (pc := 1077) C hX hbl (by omega) dL_law_1077 h (fun h => ?_)
        refine j_if_eq (pc := 1078) C 1085 dL_law_1078 (by decide) h (fun h => ?_) (fun h => ?_)
        · refine j_iconst (pc := 1085) (v := (0 : Int32)) C dL_law_1085 rfl ?_
          refine j_aload_n (pc := 1086) C 3 dL_law_1086 rfl ?_
          refine cs_L_154 (pc := 1087) C ⟨Nat.le_of_ble_eq_true rfl, Nat.le_of_ble_eq_true rfl⟩ ⟨Nat.le_trans (show kc + 4 ≤ kB by omega) hkc.1, Nat.le_trans (show ks + 24 ≤ sB by omega) hkc.2⟩ (Nat.le_of_ble_eq_true rfl) dL_law_1087 h (fun r46 M46 h => ?_)
          refine j_istore (pc := 1090) C [(5, _), (0, _), (1, _), (2, _), (3, _), (4, _)] dL_law_1090 (by decide) rfl ?_
          refine j_aload_n (pc := 1092) C 3 dL_law_1092 rfl ?_
          refine j_aload_n (pc := 1093) C 1 dL_law_1093 rfl ?_
          refine j_iload (pc := 1094) C 5 dL_law_1094 rfl ?_
          refine j_iconst (pc := 1096) (v := (1 : Int32)) C dL_law_1096 rfl ?_
          refine j_iadd (pc := 1097) C dL_law_1097 ?_
          refine j_sld (pc := 1098) C hX hbl (by omega) dL_law_1098 h (fun h => ?_)
          refine j_aload_n (pc := 1099) C 1 dL_law_1099 rfl ?_
          refine j_iload (pc := 1100) C 5 dL_law_1100 rfl ?_
          refine j_iconst (pc := 1102) (v := (2 : Int32)) C dL_law_1102 rfl ?_
          refine j_iadd (pc := 1103) C dL_law_1103 ?_
          refine j_sld (pc := 1104) C hX hbl (by omega) dL_law_1104 h (fun h => ?_)
          refine j_aload_n (pc := 1105) C 1 dL_law_1105 rfl ?_
          refine j_iload (pc := 1106) C 5 dL_law_1106 rfl ?_
          refine j_iconst (pc := 1108) (v := (3 : Int32)) C dL_law_1108 rfl ?_
          refine j_iadd (pc := 1109) C dL_law_1109 ?_
          refine j_sld (pc := 1110) C hX hbl (by omega) dL_law_1110 h (fun h => ?_)
          refine j_aload_n (pc := 1111) C 1 dL_law_1111 rfl ?_
          refine j_iload (pc := 1112) C 5 dL_law_1112 rfl ?_
          refine j_iconst (pc := 1114) (v := (4 : Int32)) C dL_law_1114 rfl ?_
          refine j_iadd (pc := 1115) C dL_law_1115 ?_
          refine j_sld (pc := 1116) C hX hbl (by omega) dL_law_1116 h (fun h => ?_)
          refine j_if_eq (pc := 1117) C 1124 dL_law_1117 (by decide) h (fun h => ?_) (fun h => ?_)
          · refine j_iconst (pc := 1124) (v := (0 : Int32)) C dL_law_1124 rfl ?_
            refine cs_L_157 (pc := 1125) C ⟨Nat.le_of_ble_eq_true rfl, Nat.le_of_ble_eq_true rfl⟩ ⟨Nat.le_trans (show kc + 4 ≤ kB by omega) hkc.1, Nat.le_trans (show ks + 24 ≤ sB by omega) hkc.2⟩ (Nat.le_of_ble_eq_true rfl) dL_law_1125 h (fun r47 M47 h => ?_)
            refine j_istore (pc := 1128) C [(6, _), (5, _), (0, _), (1, _), (2, _), (3, _), (4, _)] dL_law_1128 (by decide) rfl ?_
            refine j_aload_n (pc := 1130) C 4 dL_law_1130 rfl ?_
            refine cs_L_111 (pc := 1131) C ⟨Nat.le_of_ble_eq_true rfl, Nat.le_of_ble_eq_true rfl⟩ ⟨Nat.le_trans (show kc + 4 ≤ kB by omega) hkc.1, Nat.le_trans (show ks + 24 ≤ sB by omega) hkc.2⟩ (Nat.le_of_ble_eq_true rfl) dL_law_1131 h (fun r48 M48 h => ?_)
            refine j_iload (pc := 1134) C 1 dL_law_1134 rfl ?_
            refine j_icmp_eq (pc := 1136) C 1141 dL_law_1136 (by decide) h (fun h => ?_) (fun h => ?_)
            · refine j_iload (pc := 1141) C 1 dL_law_1141 rfl ?_
              refine j_if_ne (pc := 1143) C 1158 dL_law_1143 (by decide) h (fun h => ?_) (fun h => ?_)
              · refine j_goto (pc := 1158) C 2080 dL_law_1158 (by decide) ?_
                refine j_iinc (pc := 2080) (v := (6 : Int32)) C 6 [(4, _), (6, _), (5, _), (0, _), (1, _), (2, _), (3, _)] dL_law_2080 rfl rfl (by decide) rfl ?_
                refine j_goto (pc := 2083) C 23 dL_law_2083 (by decide) ?_
                exact j_widen (show kc + 4 ≤ kc + 5 by omega) (show ks + 24 ≤ ks + 30 by omega) (j_weak [3, 4, 5, 6, 0] rfl (ih (kc + 5) (ks + 30) _ _ _ _ _ (by omega) (by omega) h))
              · refine j_aload_n (pc := 1146) C 5 dL_law_1146 rfl ?_
                refine j_iconst (pc := 1147) (v := (0 : Int32)) C dL_law_1147 rfl ?_
                refine j_lald (pc := 1148) C dL_law_1148 h (fun h => ?_)
                refine j_iload (pc := 1149) C 0 dL_law_1149 rfl ?_
                refine j_i2l (pc := 1151) C dL_law_1151 ?_
                refine j_lcmp (pc := 1152) C dL_law_1152 ?_
                refine j_if_eq (pc := 1153) C 1158 dL_law_1153 (by decide) h (fun h => ?_) (fun h => ?_)
                · refine j_goto (pc := 1158) C 2080 dL_law_1158 (by decide) ?_
                  refine j_iinc (pc := 2080) (v := (6 : Int32)) C 6 [(4, _), (6, _), (5, _), (0, _), (1, _), (2, _), (3, _)] dL_law_2080 rfl rfl (by decide) rfl ?_
                  refine j_goto (pc := 2083) C 23 dL_law_2083 (by decide) ?_
                  exact j_widen (show kc + 4 ≤ kc + 5 by omega) (show ks + 24 ≤ ks + 30 by omega) (j_weak [3, 4, 5, 6, 0] rfl (ih (kc + 5) (ks + 30) _ _ _ _ _ (by omega) (by omega) h))
                · refine j_iconst (pc := 1156) (v := (0 : Int32)) C dL_law_1156 rfl ?_
                  exact j_lawret (pc := 1157) C hbs dL_law_1157 ⟨Nat.le_trans (show kc + 4 ≤ kB by omega) hkc.1, Nat.le_trans (show ks + 24 ≤ sB by omega) hkc.2⟩ (hP _ _ h)
            · refine j_iconst (pc := 1139) (v := (0 : Int32)) C dL_law_1139 rfl ?_
              exact j_lawret (pc := 1140) C hbs dL_law_1140 ⟨Nat.le_trans (show kc + 4 ≤ kB by omega) hkc.1, Nat.le_trans (show ks + 24 ≤ sB by omega) hkc.2⟩ (hP _ _ h)
          · refine j_iconst (pc := 1120) (v := (1 : Int32)) C dL_law_1120 rfl ?_
            refine j_goto (pc := 1121) C 1125 dL_law_1121 (by decide) ?_
            refine cs_L_157 (pc := 1125) C ⟨Nat.le_of_ble_eq_true rfl, Nat.le_of_ble_eq_true rfl⟩ ⟨Nat.le_trans (show kc + 4 ≤ kB by omega) hkc.1, Nat.le_trans (show ks + 24 ≤ sB by omega) hkc.2⟩ (Nat.le_of_ble_eq_true rfl) dL_law_1125 h (fun r49 M49 h => ?_)
            refine j_istore (pc := 1128) C [(6, _), (5, _), (0, _), (1, _), (2, _), (3, _), (4, _)] dL_law_1128 (by decide) rfl ?_
            refine j_aload_n (pc := 1130) C 4 dL_law_1130 rfl ?_
            refine cs_L_111 (pc := 1131) C ⟨Nat.le_of_ble_eq_true rfl, Nat.le_of_ble_eq_true rfl⟩ ⟨Nat.le_trans (show kc + 4 ≤ kB by omega) hkc.1, Nat.le_trans (show ks + 24 ≤ sB by omega) hkc.2⟩ (Nat.le_of_ble_eq_true rfl) dL_law_1131 h (fun r50 M50 h => ?_)
            refine j_iload (pc := 1134) C 1 dL_law_1134 rfl ?_
            refine j_icmp_eq (pc := 1136) C 1141 dL_law_1136 (by decide) h (fun h => ?_) (fun h => ?_)
            · refine j_iload (pc := 1141) C 1 dL_law_1141 rfl ?_
              refine j_if_ne (pc := 1143) C 1158 dL_law_1143 (by decide) h (fun h => ?_) (fun h => ?_)
              · refine j_goto (pc := 1158) C 2080 dL_law_1158 (by decide) ?_
                refine j_iinc (pc := 2080) (v := (6 : Int32)) C 6 [(4, _), (6, _), (5, _), (0, _), (1, _), (2, _), (3, _)] dL_law_2080 rfl rfl (by decide) rfl ?_
                refine j_goto (pc := 2083) C 23 dL_law_2083 (by decide) ?_
                exact j_widen (show kc + 4 ≤ kc + 5 by omega) (show ks + 24 ≤ ks + 30 by omega) (j_weak [3, 4, 5, 6, 0] rfl (ih (kc + 5) (ks + 30) _ _ _ _ _ (by omega) (by omega) h))
              · refine j_aload_n (pc := 1146) C 5 dL_law_1146 rfl ?_
                refine j_iconst (pc := 1147) (v := (0 : Int32)) C dL_law_1147 rfl ?_
                refine j_lald (pc := 1148) C dL_law_1148 h (fun h => ?_)
                refine j_iload (pc := 1149) C 0 dL_law_1149 rfl ?_
                refine j_i2l (pc := 1151) C dL_law_1151 ?_
                refine j_lcmp (pc := 1152) C dL_law_1152 ?_
                refine j_if_eq (pc := 1153) C 1158 dL_law_1153 (by decide) h (fun h => ?_) (fun h => ?_)
                · refine j_goto (pc := 1158) C 2080 dL_law_1158 (by decide) ?_
                  refine j_iinc (pc := 2080) (v := (6 : Int32)) C 6 [(4, _), (6, _), (5, _), (0, _), (1, _), (2, _), (3, _)] dL_law_2080 rfl rfl (by decide) rfl ?_
                  refine j_goto (pc := 2083) C 23 dL_law_2083 (by decide) ?_
                  exact j_widen (show kc + 4 ≤ kc + 5 by omega) (show ks + 24 ≤ ks + 30 by omega) (j_weak [3, 4, 5, 6, 0] rfl (ih (kc + 5) (ks + 30) _ _ _ _ _ (by omega) (by omega) h))
                · refine j_iconst (pc := 1156) (v := (0 : Int32)) C dL_law_1156 rfl ?_
                  exact j_lawret (pc := 1157) C hbs dL_law_1157 ⟨Nat.le_trans (show kc + 4 ≤ kB by omega) hkc.1, Nat.le_trans (show ks + 24 ≤ sB by omega) hkc.2⟩ (hP _ _ h)
            · refine j_iconst (pc := 1139) (v := (0 : Int32)) C dL_law_1139 rfl ?_
              exact j_lawret (pc := 1140) C hbs dL_law_1140 ⟨Nat.le_trans (show kc + 4 ≤ kB by omega) hkc.1, Nat.le_trans (show ks + 24 ≤ sB by omega) hkc.2⟩ (hP _ _ h)
        · refine j_iconst (pc := 1081) (v := (1 : Int32)) C dL_law_1081 rfl ?_
          refine j_goto (pc := 1082) C 1086 dL_law_1082 (by decide) ?_
          refine j_aload_n (pc := 1086) C 3 dL_law_1086 rfl ?_
          refine cs_L_154 (pc := 1087) C ⟨Nat.le_of_ble_eq_true rfl, Nat.le_of_ble_eq_true rfl⟩ ⟨Nat.le_trans (show kc + 4 ≤ kB by omega) hkc.1, Nat.le_trans (show ks + 24 ≤ sB by omega) hkc.2⟩ (Nat.le_of_ble_eq_true rfl) dL_law_1087 h (fun r51 M51 h => ?_)
          refine j_istore (pc := 1090) C [(5, _), (0, _), (1, _), (2, _), (3, _), (4, _)] dL_law_1090 (by decide) rfl ?_
          refine j_aload_n (pc := 1092) C 3 dL_law_1092 rfl ?_
          refine j_aload_n (pc := 1093) C 1 dL_law_1093 rfl ?_
          refine j_iload (pc := 1094) C 5 dL_law_1094 rfl ?_
          refine j_iconst (pc := 1096) (v := (1 : Int32)) C dL_law_1096 rfl ?_
          refine j_iadd (pc := 1097) C dL_law_1097 ?_
          refine j_sld (pc := 1098) C hX hbl (by omega) dL_law_1098 h (fun h => ?_)
          refine j_aload_n (pc := 1099) C 1 dL_law_1099 rfl ?_
          refine j_iload (pc := 1100) C 5 dL_law_1100 rfl ?_
          refine j_iconst (pc := 1102) (v := (2 : Int32)) C dL_law_1102 rfl ?_
          refine j_iadd (pc := 1103) C dL_law_1103 ?_
          refine j_sld (pc := 1104) C hX hbl (by omega) dL_law_1104 h (fun h => ?_)
          refine j_aload_n (pc := 1105) C 1 dL_law_1105 rfl ?_
          refine j_iload (pc := 1106) C 5 dL_law_1106 rfl ?_
          refine j_iconst (pc := 1108) (v := (3 : Int32)) C dL_law_1108 rfl ?_
          refine j_iadd (pc := 1109) C dL_law_1109 ?_
          refine j_sld (pc := 1110) C hX hbl (by omega) dL_law_1110 h (fun h => ?_)
          refine j_aload_n (pc := 1111) C 1 dL_law_1111 rfl ?_
          refine j_iload (pc := 1112) C 5 dL_law_1112 rfl ?_
          refine j_iconst (pc := 1114) (v := (4 : Int32)) C dL_law_1114 rfl ?_
          refine j_iadd (pc := 1115) C dL_law_1115 ?_
          refine j_sld (pc := 1116) C hX hbl (by omega) dL_law_1116 h (fun h => ?_)
          refine j_if_eq (pc := 1117) C 1124 dL_law_1117 (by decide) h (fun h => ?_) (fun h => ?_)
          · refine j_iconst (pc := 1124) (v := (0 : Int32)) C dL_law_1124 rfl ?_
            refine cs_L_157 (pc := 1125) C ⟨Nat.le_of_ble_eq_true rfl, Nat.le_of_ble_eq_true rfl⟩ ⟨Nat.le_trans (show kc + 4 ≤ kB by omega) hkc.1, Nat.le_trans (show ks + 24 ≤ sB by omega) hkc.2⟩ (Nat.le_of_ble_eq_true rfl) dL_law_1125 h (fun r52 M52 h => ?_)
            refine j_istore (pc := 1128) C [(6, _), (5, _), (0, _), (1, _), (2, _), (3, _), (4, _)] dL_law_1128 (by decide) rfl ?_
            refine j_aload_n (pc := 1130) C 4 dL_law_1130 rfl ?_
            refine cs_L_111 (pc := 1131) C ⟨Nat.le_of_ble_eq_true rfl, Nat.le_of_ble_eq_true rfl⟩ ⟨Nat.le_trans (show kc + 4 ≤ kB by omega) hkc.1, Nat.le_trans (show ks + 24 ≤ sB by omega) hkc.2⟩ (Nat.le_of_ble_eq_true rfl) dL_law_1131 h (fun r53 M53 h => ?_)
            refine j_iload (pc := 1134) C 1 dL_law_1134 rfl ?_
            refine j_icmp_eq (pc := 1136) C 1141 dL_law_1136 (by decide) h (fun h => ?_) (fun h => ?_)
            · refine j_iload (pc := 1141) C 1 dL_law_1141 rfl ?_
              refine j_if_ne (pc := 1143) C 1158 dL_law_1143 (by decide) h (fun h => ?_) (fun h => ?_)
              · refine j_goto (pc := 1158) C 2080 dL_law_1158 (by decide) ?_
                refine j_iinc (pc := 2080) (v := (6 : Int32)) C 6 [(4, _), (6, _), (5, _), (0, _), (1, _), (2, _), (3, _)] dL_law_2080 rfl rfl (by decide) rfl ?_
                refine j_goto (pc := 2083) C 23 dL_law_2083 (by decide) ?_
                exact j_widen (show kc + 4 ≤ kc + 5 by omega) (show ks + 24 ≤ ks + 30 by omega) (j_weak [3, 4, 5, 6, 0] rfl (ih (kc + 5) (ks + 30) _ _ _ _ _ (by omega) (by omega) h))
              · refine j_aload_n (pc := 1146) C 5 dL_law_1146 rfl ?_
                refine j_iconst (pc := 1147) (v := (0 : Int32)) C dL_law_1147 rfl ?_
                refine j_lald (pc := 1148) C dL_law_1148 h (fun h => ?_)
                refine j_iload (pc := 1149) C 0 dL_law_1149 rfl ?_
                refine j_i2l (pc := 1151) C dL_law_1151 ?_
                refine j_lcmp (pc := 1152) C dL_law_1152 ?_
                refine j_if_eq (pc := 1153) C 1158 dL_law_1153 (by decide) h (fun h => ?_) (fun h => ?_)
                · refine j_goto (pc := 1158) C 2080 dL_law_1158 (by decide) ?_
                  refine j_iinc (pc := 2080) (v := (6 : Int32)) C 6 [(4, _), (6, _), (5, _), (0, _), (1, _), (2, _), (3, _)] dL_law_2080 rfl rfl (by decide) rfl ?_
                  refine j_goto (pc := 2083) C 23 dL_law_2083 (by decide) ?_
                  exact j_widen (show kc + 4 ≤ kc + 5 by omega) (show ks + 24 ≤ ks + 30 by omega) (j_weak [3, 4, 5, 6, 0] rfl (ih (kc + 5) (ks + 30) _ _ _ _ _ (by omega) (by omega) h))
                · refine j_iconst (pc := 1156) (v := (0 : Int32)) C dL_law_1156 rfl ?_
                  exact j_lawret (pc := 1157) C hbs dL_law_1157 ⟨Nat.le_trans (show kc + 4 ≤ kB by omega) hkc.1, Nat.le_trans (show ks + 24 ≤ sB by omega) hkc.2⟩ (hP _ _ h)
            · refine j_iconst (pc := 1139) (v := (0 : Int32)) C dL_law_1139 rfl ?_
              exact j_lawret (pc := 1140) C hbs dL_law_1140 ⟨Nat.le_trans (show kc + 4 ≤ kB by omega) hkc.1, Nat.le_trans (show ks + 24 ≤ sB by omega) hkc.2⟩ (hP _ _ h)
          · refine j_iconst (pc := 1120) (v := (1 : Int32)) C dL_law_1120 rfl ?_
            refine j_goto (pc := 1121) C 1125 dL_law_1121 (by decide) ?_
            refine cs_L_157 (pc := 1125) C ⟨Nat.le_of_ble_eq_true rfl, Nat.le_of_ble_eq_true rfl⟩ ⟨Nat.le_trans (show kc + 4 ≤ kB by omega) hkc.1, Nat.le_trans (show ks + 24 ≤ sB by omega) hkc.2⟩ (Nat.le_of_ble_eq_true rfl) dL_law_1125 h (fun r54 M54 h => ?_)
            refine j_istore (pc := 1128) C [(6, _), (5, _), (0, _), (1, _), (2, _), (3, _), (4, _)] dL_law_1128 (by decide) rfl ?_
            refine j_aload_n (pc := 1130) C 4 dL_law_1130 rfl ?_
            refine cs_L_111 (pc := 1131) C ⟨Nat.le_of_ble_eq_true rfl, Nat.le_of_ble_eq_true rfl⟩ ⟨Nat.le_trans (show kc + 4 ≤ kB by omega) hkc.1, Nat.le_trans (show ks + 24 ≤ sB by omega) hkc.2⟩ (Nat.le_of_ble_eq_true rfl) dL_law_1131 h (fun r55 M55 h => ?_)
            refine j_iload (pc := 1134) C 1 dL_law_1134 rfl ?_
            refine j_icmp_eq (pc := 1136) C 1141 dL_law_1136 (by decide) h (fun h => ?_) (fun h => ?_)
            · refine j_iload (pc := 1141) C 1 dL_law_1141 rfl ?_
              refine j_if_ne (pc := 1143) C 1158 dL_law_1143 (by decide) h (fun h => ?_) (fun h => ?_)
              · refine j_goto (pc := 1158) C 2080 dL_law_1158 (by decide) ?_
                refine j_iinc (pc := 2080) (v := (6 : Int32)) C 6 [(4, _), (6, _), (5, _), (0, _), (1, _), (2, _), (3, _)] dL_law_2080 rfl rfl (by decide) rfl ?_
                refine j_goto (pc := 2083) C 23 dL_law_2083 (by decide) ?_
                exact j_widen (show kc + 4 ≤ kc + 5 by omega) (show ks + 24 ≤ ks + 30 by omega) (j_weak [3, 4, 5, 6, 0] rfl (ih (kc + 5) (ks + 30) _ _ _ _ _ (by omega) (by omega) h))
              · refine j_aload_n (pc := 1146) C 5 dL_law_1146 rfl ?_
                refine j_iconst (pc := 1147) (v := (0 : Int32)) C dL_law_1147 rfl ?_
                refine j_lald (pc := 1148) C dL_law_1148 h (fun h => ?_)
                refine j_iload (pc := 1149) C 0 dL_law_1149 rfl ?_
                refine j_i2l (pc := 1151) C dL_law_1151 ?_
                refine j_lcmp (pc := 1152) C dL_law_1152 ?_
                refine j_if_eq (pc := 1153) C 1158 dL_law_1153 (by decide) h (fun h => ?_) (fun h => ?_)
                · refine j_goto (pc := 1158) C 2080 dL_law_1158 (by decide) ?_
                  refine j_iinc (pc := 2080) (v := (6 : Int32)) C 6 [(4, _), (6, _), (5, _), (0, _), (1, _), (2, _), (3, _)] dL_law_2080 rfl rfl (by decide) rfl ?_
                  refine j_goto (pc := 2083) C 23 dL_law_2083 (by decide) ?_
                  exact j_widen (show kc + 4 ≤ kc + 5 by omega) (show ks + 24 ≤ ks + 30 by omega) (j_weak [3, 4, 5, 6, 0] rfl (ih (kc + 5) (ks + 30) _ _ _ _ _ (by omega) (by omega) h))
                · refine j_iconst (pc := 1156) (v := (0 : Int32)) C dL_law_1156 rfl ?_
                  exact j_lawret (pc := 1157) C hbs dL_law_1157 ⟨Nat.le_trans (show kc + 4 ≤ kB by omega) hkc.1, Nat.le_trans (show ks + 24 ≤ sB by omega) hkc.2⟩ (hP _ _ h)
            · refine j_iconst (pc := 1139) (v := (0 : Int32)) C dL_law_1139 rfl ?_
              exact j_lawret (pc := 1140) C hbs dL_law_1140 ⟨Nat.le_trans (show kc + 4 ≤ kB by omega) hkc.1, Nat.le_trans (show ks + 24 ≤ sB by omega) hkc.2⟩ (hP _ _ h)
      rw [if_neg q40_14] at h
      by_cases q40_15 : ((xs x4.toNatClampNeg) &&& (31 : Int32)) = (15 : Int32)
      · rw [if_pos q40_15] at h
        refine j_tsI (pc := 40) (off := 1121) C 1161 dL_law_40 q40_15 (by decide) (by decide) (by decide) (by decide) ?_
        refine j_aload_n (pc := 1161) C 1 dL_law_1161 rfl ?_
        refine j_aload_n (pc := 1162) C 0 dL_law_1162 rfl ?_
        refine j_iload (pc := 1163) C 4 dL_law_1163 rfl ?_
        refine j_iconst (pc := 1165) (v := (1 : Int32)) C dL_law_1165 rfl ?_
        refine j_iadd (pc := 1166) C dL_law_1166 ?_
        refine j_sld (pc := 1167) C hX hbl (by omega) dL_law_1167 h (fun h => ?_)
        refine j_aload_n (pc := 1168) C 0 dL_law_1168 rfl ?_
        refine j_iload (pc := 1169) C 4 dL_law_1169 rfl ?_
        refine j_iconst (pc := 1171) (v := (2 : Int32)) C dL_law_1171 rfl ?_
        refine j_iadd (pc := 1172) C dL_law_1172 ?_
        refine j_sld (pc := 1173) C hX hbl (by omega) dL_law_1173 h (fun h => ?_)
        refine j_aload_n (pc := 1174) C 0 dL_law_1174 rfl ?_
        refine j_iload (pc := 1175) C 4 dL_law_1175 rfl ?_
        refine j_iconst (pc := 1177) (v := (3 : Int32)) C dL_law_1177 rfl ?_
        refine j_iadd (pc := 1178) C dL_law_1178 ?_
        refine j_sld (pc := 1179) C hX hbl (by omega) dL_law_1179 h (fun h => ?_)
        refine j_aload_n (pc := 1180) C 0 dL_law_1180 rfl ?_
        refine j_iload (pc := 1181) C 4 dL_law_1181 rfl ?_
        refine j_iconst (pc := 1183) (v := (4 : Int32)) C dL_law_1183 rfl ?_
        refine j_iadd (pc := 1184) C dL_law_1184 ?_
        refine j_sld (pc := 1185) C hX hbl (by omega) dL_law_1185 h (fun h => ?_)
        refine j_if_eq (pc := 1186) C 1193 dL_law_1186 (by decide) h (fun h => ?_) (fun h => ?_)
        · refine j_iconst (pc := 1193) (v := (0 : Int32)) C dL_law_1193 rfl ?_
          refine j_aload_n (pc := 1194) C 3 dL_law_1194 rfl ?_
          refine cs_L_158 (pc := 1195) C ⟨Nat.le_of_ble_eq_true rfl, Nat.le_of_ble_eq_true rfl⟩ ⟨Nat.le_trans (show kc + 4 ≤ kB by omega) hkc.1, Nat.le_trans (show ks + 24 ≤ sB by omega) hkc.2⟩ (Nat.le_of_ble_eq_true rfl) dL_law_1195 h (fun r56 M56 h => ?_)
          refine j_istore (pc := 1198) C [(5, _), (0, _), (1, _), (2, _), (3, _), (4, _)] dL_law_1198 (by decide) rfl ?_
          refine j_aload_n (pc := 1200) C 3 dL_law_1200 rfl ?_
          refine j_aload_n (pc := 1201) C 1 dL_law_1201 rfl ?_
          refine j_iload (pc := 1202) C 5 dL_law_1202 rfl ?_
          refine j_iconst (pc := 1204) (v := (1 : Int32)) C dL_law_1204 rfl ?_
          refine j_iadd (pc := 1205) C dL_law_1205 ?_
          refine j_sld (pc := 1206) C hX hbl (by omega) dL_law_1206 h (fun h => ?_)
          refine j_aload_n (pc := 1207) C 1 dL_law_1207 rfl ?_
          refine j_iload (pc := 1208) C 5 dL_law_1208 rfl ?_
          refine j_iconst (pc := 1210) (v := (2 : Int32)) C dL_law_1210 rfl ?_
          refine j_iadd (pc := 1211) C dL_law_1211 ?_
          refine j_sld (pc := 1212) C hX hbl (by omega) dL_law_1212 h (fun h => ?_)
          refine j_aload_n (pc := 1213) C 1 dL_law_1213 rfl ?_
          refine j_iload (pc := 1214) C 5 dL_law_1214 rfl ?_
          refine j_iconst (pc := 1216) (v := (3 : Int32)) C dL_law_1216 rfl ?_
          refine j_iadd (pc := 1217) C dL_law_1217 ?_
          refine j_sld (pc := 1218) C hX hbl (by omega) dL_law_1218 h (fun h => ?_)
          refine j_aload_n (pc := 1219) C 1 dL_law_1219 rfl ?_
          refine j_iload (pc := 1220) C 5 dL_law_1220 rfl ?_
          refine j_iconst (pc := 1222) (v := (4 : Int32)) C dL_law_1222 rfl ?_
          refine j_iadd (pc := 1223) C dL_law_1223 ?_
          refine j_sld (pc := 1224) C hX hbl (by omega) dL_law_1224 h (fun h => ?_)
          refine j_if_eq (pc := 1225) C 1232 dL_law_1225 (by decide) h (fun h => ?_) (fun h => ?_)
          · refine j_iconst (pc := 1232) (v := (0 : Int32)) C dL_law_1232 rfl ?_
            refine cs_L_160 (pc := 1233) C ⟨Nat.le_of_ble_eq_true rfl, Nat.le_of_ble_eq_true rfl⟩ ⟨Nat.le_trans (show kc + 4 ≤ kB by omega) hkc.1, Nat.le_trans (show ks + 24 ≤ sB by omega) hkc.2⟩ (Nat.le_of_ble_eq_true rfl) dL_law_1233 h (fun r57 M57 h => ?_)
            refine j_istore (pc := 1236) C [(6, _), (5, _), (0, _), (1, _), (2, _), (3, _), (4, _)] dL_law_1236 (by decide) rfl ?_
            refine j_aload_n (pc := 1238) C 4 dL_law_1238 rfl ?_
            refine cs_L_111 (pc := 1239) C ⟨Nat.le_of_ble_eq_true rfl, Nat.le_of_ble_eq_true rfl⟩ ⟨Nat.le_trans (show kc + 4 ≤ kB by omega) hkc.1, Nat.le_trans (show ks + 24 ≤ sB by omega) hkc.2⟩ (Nat.le_of_ble_eq_true rfl) dL_law_1239 h (fun r58 M58 h => ?_)
            refine j_iload (pc := 1242) C 1 dL_law_1242 rfl ?_
            refine j_icmp_eq (pc := 1244) C 1249 dL_law_1244 (by decide) h (fun h => ?_) (fun h => ?_)
            · refine j_iload (pc := 1249) C 1 dL_law_1249 rfl ?_
              refine j_if_ne (pc := 1251) C 1266 dL_law_1251 (by decide) h (fun h => ?_) (fun h => ?_)
              · refine j_goto (pc := 1266) C 2080 dL_law_1266 (by decide) ?_
                refine j_iinc (pc := 2080) (v := (6 : Int32)) C 6 [(4, _), (6, _), (5, _), (0, _), (1, _), (2, _), (3, _)] dL_law_2080 rfl rfl (by decide) rfl ?_
                refine j_goto (pc := 2083) C 23 dL_law_2083 (by decide) ?_
                exact j_widen (show kc + 4 ≤ kc + 5 by omega) (show ks + 24 ≤ ks + 30 by omega) (j_weak [3, 4, 5, 6, 0] rfl (ih (kc + 5) (ks + 30) _ _ _ _ _ (by omega) (by omega) h))
              · refine j_aload_n (pc := 1254) C 5 dL_law_1254 rfl ?_
                refine j_iconst (pc := 1255) (v := (0 : Int32)) C dL_law_1255 rfl ?_
                refine j_lald (pc := 1256) C dL_law_1256 h (fun h => ?_)
                refine j_iload (pc := 1257) C 0 dL_law_1257 rfl ?_
                refine j_i2l (pc := 1259) C dL_law_1259 ?_
                refine j_lcmp (pc := 1260) C dL_law_1260 ?_
                refine j_if_eq (pc := 1261) C 1266 dL_law_1261 (by decide) h (fun h => ?_) (fun h => ?_)
                · refine j_goto (pc := 1266) C 2080 dL_law_1266 (by decide) ?_
                  refine j_iinc (pc := 2080) (v := (6 : Int32)) C 6 [(4, _), (6, _), (5, _), (0, _), (1, _), (2, _), (3, _)] dL_law_2080 rfl rfl (by decide) rfl ?_
                  refine j_goto (pc := 2083) C 23 dL_law_2083 (by decide) ?_
                  exact j_widen (show kc + 4 ≤ kc + 5 by omega) (show ks + 24 ≤ ks + 30 by omega) (j_weak [3, 4, 5, 6, 0] rfl (ih (kc + 5) (ks + 30) _ _ _ _ _ (by omega) (by omega) h))
                · refine j_iconst (pc := 1264) (v := (0 : Int32)) C dL_law_1264 rfl ?_
                  exact j_lawret (pc := 1265) C hbs dL_law_1265 ⟨Nat.le_trans (show kc + 4 ≤ kB by omega) hkc.1, Nat.le_trans (show ks + 24 ≤ sB by omega) hkc.2⟩ (hP _ _ h)
            · refine j_iconst (pc := 1247) (v := (0 : Int32)) C dL_law_1247 rfl ?_
              exact j_lawret (pc := 1248) C hbs dL_law_1248 ⟨Nat.le_trans (show kc + 4 ≤ kB by omega) hkc.1, Nat.le_trans (show ks + 24 ≤ sB by omega) hkc.2⟩ (hP _ _ h)
          · refine j_iconst (pc := 1228) (v := (1 : Int32)) C dL_law_1228 rfl ?_
            refine j_goto (pc := 1229) C 1233 dL_law_1229 (by decide) ?_
            refine cs_L_160 (pc := 1233) C ⟨Nat.le_of_ble_eq_true rfl, Nat.le_of_ble_eq_true rfl⟩ ⟨Nat.le_trans (show kc + 4 ≤ kB by omega) hkc.1, Nat.le_trans (show ks + 24 ≤ sB by omega) hkc.2⟩ (Nat.le_of_ble_eq_true rfl) dL_law_1233 h (fun r59 M59 h => ?_)
            refine j_istore (pc := 1236) C [(6, _), (5, _), (0, _), (1, _), (2, _), (3, _), (4, _)] dL_law_1236 (by decide) rfl ?_
            refine j_aload_n (pc := 1238) C 4 dL_law_1238 rfl ?_
            refine cs_L_111 (pc := 1239) C ⟨Nat.le_of_ble_eq_true rfl, Nat.le_of_ble_eq_true rfl⟩ ⟨Nat.le_trans (show kc + 4 ≤ kB by omega) hkc.1, Nat.le_trans (show ks + 24 ≤ sB by omega) hkc.2⟩ (Nat.le_of_ble_eq_true rfl) dL_law_1239 h (fun r60 M60 h => ?_)
            refine j_iload (pc := 1242) C 1 dL_law_1242 rfl ?_
            refine j_icmp_eq (pc := 1244) C 1249 dL_law_1244 (by decide) h (fun h => ?_) (fun h => ?_)
            · refine j_iload (pc := 1249) C 1 dL_law_1249 rfl ?_
              refine j_if_ne (pc := 1251) C 1266 dL_law_1251 (by decide) h (fun h => ?_) (fun h => ?_)
              · refine j_goto (pc := 1266) C 2080 dL_law_1266 (by decide) ?_
                refine j_iinc (pc := 2080) (v := (6 : Int32)) C 6 [(4, _), (6, _), (5, _), (0, _), (1, _), (2, _), (3, _)] dL_law_2080 rfl rfl (by decide) rfl ?_
                refine j_goto (pc := 2083) C 23 dL_law_2083 (by decide) ?_
                exact j_widen (show kc + 4 ≤ kc + 5 by omega) (show ks + 24 ≤ ks + 30 by omega) (j_weak [3, 4, 5, 6, 0] rfl (ih (kc + 5) (ks + 30) _ _ _ _ _ (by omega) (by omega) h))
              · refine j_aload_n (pc := 1254) C 5 dL_law_1254 rfl ?_
                refine j_iconst (pc := 1255) (v := (0 : Int32)) C dL_law_1255 rfl ?_
                refine j_lald (pc := 1256) C dL_law_1256 h (fun h => ?_)
                refine j_iload (pc := 1257) C 0 dL_law_1257 rfl ?_
                refine j_i2l (pc := 1259) C dL_law_1259 ?_
                refine j_lcmp (pc := 1260) C dL_law_1260 ?_
                refine j_if_eq (pc := 1261) C 1266 dL_law_1261 (by decide) h (fun h => ?_) (fun h => ?_)
                · refine j_goto (pc := 1266) C 2080 dL_law_1266 (by decide) ?_
                  refine j_iinc (pc := 2080) (v := (6 : Int32)) C 6 [(4, _), (6, _), (5, _), (0, _), (1, _), (2, _), (3, _)] dL_law_2080 rfl rfl (by decide) rfl ?_
                  refine j_goto (pc := 2083) C 23 dL_law_2083 (by decide) ?_
                  exact j_widen (show kc + 4 ≤ kc + 5 by omega) (show ks + 24 ≤ ks + 30 by omega) (j_weak [3, 4, 5, 6, 0] rfl (ih (kc + 5) (ks + 30) _ _ _ _ _ (by omega) (by omega) h))
                · refine j_iconst (pc := 1264) (v := (0 : Int32)) C dL_law_1264 rfl ?_
                  exact j_lawret (pc := 1265) C hbs dL_law_1265 ⟨Nat.le_trans (show kc + 4 ≤ kB by omega) hkc.1, Nat.le_trans (show ks + 24 ≤ sB by omega) hkc.2⟩ (hP _ _ h)
            · refine j_iconst (pc := 1247) (v := (0 : Int32)) C dL_law_1247 rfl ?_
              exact j_lawret (pc := 1248) C hbs dL_law_1248 ⟨Nat.le_trans (show kc + 4 ≤ kB by omega) hkc.1, Nat.le_trans (show ks + 24 ≤ sB by omega) hkc.2⟩ (hP _ _ h)
        · refine j_iconst (pc := 1189) (v := (1 : Int32)) C dL_law_1189 rfl ?_
          refine j_goto (pc := 1190) C 1194 dL_law_1190 (by decide) ?_
          refine j_aload_n (pc := 1194) C 3 dL_law_1194 rfl ?_
          refine cs_L_158 (pc := 1195) C ⟨Nat.le_of_ble_eq_true rfl, Nat.le_of_ble_eq_true rfl⟩ ⟨Nat.le_trans (show kc + 4 ≤ kB by omega) hkc.1, Nat.le_trans (show ks + 24 ≤ sB by omega) hkc.2⟩ (Nat.le_of_ble_eq_true rfl) dL_law_1195 h (fun r61 M61 h => ?_)
          refine j_istore (pc := 1198) C [(5, _), (0, _), (1, _), (2, _), (3, _), (4, _)] dL_law_1198 (by decide) rfl ?_
          refine j_aload_n (pc := 1200) C 3 dL_law_1200 rfl ?_
          refine j_aload_n (pc := 1201) C 1 dL_law_1201 rfl ?_
          refine j_iload (pc := 1202) C 5 dL_law_1202 rfl ?_
          refine j_iconst (pc := 1204) (v := (1 : Int32)) C dL_law_1204 rfl ?_
          refine j_iadd (pc := 1205) C dL_law_1205 ?_
          refine j_sld (pc := 1206) C hX hbl (by omega) dL_law_1206 h (fun h => ?_)
          refine j_aload_n (pc := 1207) C 1 dL_law_1207 rfl ?_
          refine j_iload (pc := 1208) C 5 dL_law_1208 rfl ?_
          refine j_iconst (pc := 1210) (v := (2 : Int32)) C dL_law_1210 rfl ?_
          refine j_iadd (pc := 1211) C dL_law_1211 ?_
          refine j_sld (pc := 1212) C hX hbl (by omega) dL_law_1212 h (fun h => ?_)
          refine j_aload_n (pc := 1213) C 1 dL_law_1213 rfl ?_
          refine j_iload (pc := 1214) C 5 dL_law_1214 rfl ?_
          refine j_iconst (pc := 1216) (v := (3 : Int32)) C dL_law_1216 rfl ?_
          refine j_iadd (pc := 1217) C dL_law_1217 ?_
          refine j_sld (pc := 1218) C hX hbl (by omega) dL_law_1218 h (fun h => ?_)
          refine j_aload_n (pc := 1219) C 1 dL_law_1219 rfl ?_
          refine j_iload (pc := 1220) C 5 dL_law_1220 rfl ?_
          refine j_iconst (pc := 1222) (v := (4 : Int32)) C dL_law_1222 rfl ?_
          refine j_iadd (pc := 1223) C dL_law_1223 ?_
          refine j_sld (pc := 1224) C hX hbl (by omega) dL_law_1224 h (fun h => ?_)
          refine j_if_eq (pc := 1225) C 1232 dL_law_1225 (by decide) h (fun h => ?_) (fun h => ?_)
          · refine j_iconst (pc := 1232) (v := (0 : Int32)) C dL_law_1232 rfl ?_
            refine cs_L_160 (pc := 1233) C ⟨Nat.le_of_ble_eq_true rfl, Nat.le_of_ble_eq_true rfl⟩ ⟨Nat.le_trans (show kc + 4 ≤ kB by omega) hkc.1, Nat.le_trans (show ks + 24 ≤ sB by omega) hkc.2⟩ (Nat.le_of_ble_eq_true rfl) dL_law_1233 h (fun r62 M62 h => ?_)
            refine j_istore (pc := 1236) C [(6, _), (5, _), (0, _), (1, _), (2, _), (3, _), (4, _)] dL_law_1236 (by decide) rfl ?_
            refine j_aload_n (pc := 1238) C 4 dL_law_1238 rfl ?_
            refine cs_L_111 (pc := 1239) C ⟨Nat.le_of_ble_eq_true rfl, Nat.le_of_ble_eq_true rfl⟩ ⟨Nat.le_trans (show kc + 4 ≤ kB by omega) hkc.1, Nat.le_trans (show ks + 24 ≤ sB by omega) hkc.2⟩ (Nat.le_of_ble_eq_true rfl) dL_law_1239 h (fun r63 M63 h => ?_)
            refine j_iload (pc := 1242) C 1 dL_law_1242 rfl ?_
            refine j_icmp_eq (pc := 1244) C 1249 dL_law_1244 (by decide) h (fun h => ?_) (fun h => ?_)
            · refine j_iload (pc := 1249) C 1 dL_law_1249 rfl ?_
              refine j_if_ne (pc := 1251) C 1266 dL_law_1251 (by decide) h (fun h => ?_) (fun h => ?_)
              · refine j_goto (pc := 1266) C 2080 dL_law_1266 (by decide) ?_
                refine j_iinc (pc := 2080) (v := (6 : Int32)) C 6 [(4, _), (6, _), (5, _), (0, _), (1, _), (2, _), (3, _)] dL_law_2080 rfl rfl (by decide) rfl ?_
                refine j_goto (pc := 2083) C 23 dL_law_2083 (by decide) ?_
                exact j_widen (show kc + 4 ≤ kc + 5 by omega) (show ks + 24 ≤ ks + 30 by omega) (j_weak [3, 4, 5, 6, 0] rfl (ih (kc + 5) (ks + 30) _ _ _ _ _ (by omega) (by omega) h))
              · refine j_aload_n (pc := 1254) C 5 dL_law_1254 rfl ?_
                refine j_iconst (pc := 1255) (v := (0 : Int32)) C dL_law_1255 rfl ?_
                refine j_lald (pc := 1256) C dL_law_1256 h (fun h => ?_)
                refine j_iload (pc := 1257) C 0 dL_law_1257 rfl ?_
                refine j_i2l (pc := 1259) C dL_law_1259 ?_
                refine j_lcmp (pc := 1260) C dL_law_1260 ?_
                refine j_if_eq (pc := 1261) C 1266 dL_law_1261 (by decide) h (fun h => ?_) (fun h => ?_)
                · refine j_goto (pc := 1266) C 2080 dL_law_1266 (by decide) ?_
                  refine j_iinc (pc := 2080) (v := (6 : Int32)) C 6 [(4, _), (6, _), (5, _), (0, _), (1, _), (2, _), (3, _)] dL_law_2080 rfl rfl (by decide) rfl ?_
                  refine j_goto (pc := 2083) C 23 dL_law_2083 (by decide) ?_
                  exact j_widen (show kc + 4 ≤ kc + 5 by omega) (show ks + 24 ≤ ks + 30 by omega) (j_weak [3, 4, 5, 6, 0] rfl (ih (kc + 5) (ks + 30) _ _ _ _ _ (by omega) (by omega) h))
                · refine j_iconst (pc := 1264) (v := (0 : Int32)) C dL_law_1264 rfl ?_
                  exact j_lawret (pc := 1265) C hbs dL_law_1265 ⟨Nat.le_trans (show kc + 4 ≤ kB by omega) hkc.1, Nat.le_trans (show ks + 24 ≤ sB by omega) hkc.2⟩ (hP _ _ h)
            · refine j_iconst (pc := 1247) (v := (0 : Int32)) C dL_law_1247 rfl ?_
              exact j_lawret (pc := 1248) C hbs dL_law_1248 ⟨Nat.le_trans (show kc + 4 ≤ kB by omega) hkc.1, Nat.le_trans (show ks + 24 ≤ sB by omega) hkc.2⟩ (hP _ _ h)
          · refine j_iconst (pc := 1228) (v := (1 : Int32)) C dL_law_1228 rfl ?_
            refine j_goto (pc := 1229) C 1233 dL_law_1229 (by decide) ?_
            refine cs_L_160 (pc := 1233) C ⟨Nat.le_of_ble_eq_true rfl, Nat.le_of_ble_eq_true rfl⟩ ⟨Nat.le_trans (show kc + 4 ≤ kB by omega) hkc.1, Nat.le_trans (show ks + 24 ≤ sB by omega) hkc.2⟩ (Nat.le_of_ble_eq_true rfl) dL_law_1233 h (fun r64 M64 h => ?_)
            refine j_istore (pc := 1236) C [(6, _), (5, _), (0, _), (1, _), (2, _), (3, _), (4, _)] dL_law_1236 (by decide) rfl ?_
            refine j_aload_n (pc := 1238) C 4 dL_law_1238 rfl ?_
            refine cs_L_111 (pc := 1239) C ⟨Nat.le_of_ble_eq_true rfl, Nat.le_of_ble_eq_true rfl⟩ ⟨Nat.le_trans (show kc + 4 ≤ kB by omega) hkc.1, Nat.le_trans (show ks + 24 ≤ sB by omega) hkc.2⟩ (Nat.le_of_ble_eq_true rfl) dL_law_1239 h (fun r65 M65 h => ?_)
            refine j_iload (pc := 1242) C 1 dL_law_1242 rfl ?_
            refine j_icmp_eq (pc := 1244) C 1249 dL_law_1244 (by decide) h (fun h => ?_) (fun h => ?_)
            · refine j_iload (pc := 1249) C 1 dL_law_1249 rfl ?_
              refine j_if_ne (pc := 1251) C 1266 dL_law_1251 (by decide) h (fun h => ?_) (fun h => ?_)
              · refine j_goto (pc := 1266) C 2080 dL_law_1266 (by decide) ?_
                refine j_iinc (pc := 2080) (v := (6 : Int32)) C 6 [(4, _), (6, _), (5, _), (0, _), (1, _), (2, _), (3, _)] dL_law_2080 rfl rfl (by decide) rfl ?_
                refine j_goto (pc := 2083) C 23 dL_law_2083 (by decide) ?_
                exact j_widen (show kc + 4 ≤ kc + 5 by omega) (show ks + 24 ≤ ks + 30 by omega) (j_weak [3, 4, 5, 6, 0] rfl (ih (kc + 5) (ks + 30) _ _ _ _ _ (by omega) (by omega) h))
              · refine j_aload_n (pc := 1254) C 5 dL_law_1254 rfl ?_
                refine j_iconst (pc := 1255) (v := (0 : Int32)) C dL_law_1255 rfl ?_
                refine j_lald (pc := 1256) C dL_law_1256 h (fun h => ?_)
                refine j_iload (pc := 1257) C 0 dL_law_1257 rfl ?_
                refine j_i2l (pc := 1259) C dL_law_1259 ?_
                refine j_lcmp (pc := 1260) C dL_law_1260 ?_
                refine j_if_eq (pc := 1261) C 1266 dL_law_1261 (by decide) h (fun h => ?_) (fun h => ?_)
                · refine j_goto (pc := 1266) C 2080 dL_law_1266 (by decide) ?_
                  refine j_iinc (pc := 2080) (v := (6 : Int32)) C 6 [(4, _), (6, _), (5, _), (0, _), (1, _), (2, _), (3, _)] dL_law_2080 rfl rfl (by decide) rfl ?_
                  refine j_goto (pc := 2083) C 23 dL_law_2083 (by decide) ?_
                  exact j_widen (show kc + 4 ≤ kc + 5 by omega) (show ks + 24 ≤ ks + 30 by omega) (j_weak [3, 4, 5, 6, 0] rfl (ih (kc + 5) (ks + 30) _ _ _ _ _ (by omega) (by omega) h))
                · refine j_iconst (pc := 1264) (v := (0 : Int32)) C dL_law_1264 rfl ?_
                  exact j_lawret (pc := 1265) C hbs dL_law_1265 ⟨Nat.le_trans (show kc + 4 ≤ kB by omega) hkc.1, Nat.le_trans (show ks + 24 ≤ sB by omega) hkc.2⟩ (hP _ _ h)
            · refine j_iconst (pc := 1247) (v := (0 : Int32)) C dL_law_1247 rfl ?_
              exact j_lawret (pc := 1248) C hbs dL_law_1248 ⟨Nat.le_trans (show kc + 4 ≤ kB by omega) hkc.1, Nat.le_trans (show ks + 24 ≤ sB by omega) hkc.2⟩ (hP _ _ h)
      rw [if_neg q40_15] at h
      by_cases q40_16 : ((xs x4.toNatClampNeg) &&& (31 : Int32)) = (16 : Int32)
      · rw [if_pos q40_16] at h
        refine j_tsI (pc := 40) (off := 1229) C 1269 dL_law_40 q40_16 (by decide) (by decide) (by decide) (by decide) ?_
        refine j_aload_n (pc := 1269) C 1 dL_law_1269 rfl ?_
        refine j_aload_n (pc := 1270) C 0 dL_law_1270 rfl ?_
        refine j_iload (pc := 1271) C 4 dL_law_1271 rfl ?_
        refine j_iconst (pc := 1273) (v := (1 : Int32)) C dL_law_1273 rfl ?_
        refine j_iadd (pc := 1274) C dL_law_1274 ?_
        refine j_sld (pc := 1275) C hX hbl (by omega) dL_law_1275 h (fun h => ?_)
        refine j_aload_n (pc := 1276) C 0 dL_law_1276 rfl ?_
        refine j_iload (pc := 1277) C 4 dL_law_1277 rfl ?_
        refine j_iconst (pc := 1279) (v := (2 : Int32)) C dL_law_1279 rfl ?_
        refine j_iadd (pc := 1280) C dL_law_1280 ?_
        refine j_sld (pc := 1281) C hX hbl (by omega) dL_law_1281 h (fun h => ?_)
        refine j_aload_n (pc := 1282) C 3 dL_law_1282 rfl ?_
        refine cs_L_161 (pc := 1283) C ⟨Nat.le_of_ble_eq_true rfl, Nat.le_of_ble_eq_true rfl⟩ ⟨Nat.le_trans (show kc + 2 ≤ kB by omega) hkc.1, Nat.le_trans (show ks + 12 ≤ sB by omega) hkc.2⟩ (Nat.le_of_ble_eq_true rfl) dL_law_1283 h (fun r66 M66 h => ?_)
        refine j_istore (pc := 1286) C [(5, _), (0, _), (1, _), (2, _), (3, _), (4, _)] dL_law_1286 (by decide) rfl ?_
        refine j_aload_n (pc := 1288) C 3 dL_law_1288 rfl ?_
        refine j_aload_n (pc := 1289) C 1 dL_law_1289 rfl ?_
        refine j_iload (pc := 1290) C 5 dL_law_1290 rfl ?_
        refine j_iconst (pc := 1292) (v := (1 : Int32)) C dL_law_1292 rfl ?_
        refine j_iadd (pc := 1293) C dL_law_1293 ?_
        refine j_sld (pc := 1294) C hX hbl (by omega) dL_law_1294 h (fun h => ?_)
        refine j_aload_n (pc := 1295) C 1 dL_law_1295 rfl ?_
        refine j_iload (pc := 1296) C 5 dL_law_1296 rfl ?_
        refine j_iconst (pc := 1298) (v := (2 : Int32)) C dL_law_1298 rfl ?_
        refine j_iadd (pc := 1299) C dL_law_1299 ?_
        refine j_sld (pc := 1300) C hX hbl (by omega) dL_law_1300 h (fun h => ?_)
        refine cs_L_163 (pc := 1301) C ⟨Nat.le_of_ble_eq_true rfl, Nat.le_of_ble_eq_true rfl⟩ ⟨Nat.le_trans (show kc + 2 ≤ kB by omega) hkc.1, Nat.le_trans (show ks + 12 ≤ sB by omega) hkc.2⟩ (Nat.le_of_ble_eq_true rfl) dL_law_1301 h (fun r67 M67 h => ?_)
        refine j_istore (pc := 1304) C [(6, _), (5, _), (0, _), (1, _), (2, _), (3, _), (4, _)] dL_law_1304 (by decide) rfl ?_
        refine j_aload_n (pc := 1306) C 4 dL_law_1306 rfl ?_
        refine cs_L_111 (pc := 1307) C ⟨Nat.le_of_ble_eq_true rfl, Nat.le_of_ble_eq_true rfl⟩ ⟨Nat.le_trans (show kc + 2 ≤ kB by omega) hkc.1, Nat.le_trans (show ks + 12 ≤ sB by omega) hkc.2⟩ (Nat.le_of_ble_eq_true rfl) dL_law_1307 h (fun r68 M68 h => ?_)
        refine j_iload (pc := 1310) C 1 dL_law_1310 rfl ?_
        refine j_icmp_eq (pc := 1312) C 1317 dL_law_1312 (by decide) h (fun h => ?_) (fun h => ?_)
        · refine j_iload (pc := 1317) C 1 dL_law_1317 rfl ?_
          refine j_if_ne (pc := 1319) C 1334 dL_law_1319 (by decide) h (fun h => ?_) (fun h => ?_)
          · refine j_goto (pc := 1334) C 2080 dL_law_1334 (by decide) ?_
            refine j_iinc (pc := 2080) (v := (6 : Int32)) C 6 [(4, _), (6, _), (5, _), (0, _), (1, _), (2, _), (3, _)] dL_law_2080 rfl rfl (by decide) rfl ?_
            refine j_goto (pc := 2083) C 23 dL_law_2083 (by decide) ?_
            exact j_widen (show kc + 2 ≤ kc + 5 by omega) (show ks + 12 ≤ ks + 30 by omega) (j_weak [3, 4, 5, 6, 0] rfl (ih (kc + 5) (ks + 30) _ _ _ _ _ (by omega) (by omega) h))
          · refine j_aload_n (pc := 1322) C 5 dL_law_1322 rfl ?_
            refine j_iconst (pc := 1323) (v := (0 : Int32)) C dL_law_1323 rfl ?_
            refine j_lald (pc := 1324) C dL_law_1324 h (fun h => ?_)
            refine j_iload (pc := 1325) C 0 dL_law_1325 rfl ?_
            refine j_i2l (pc := 1327) C dL_law_1327 ?_
            refine j_lcmp (pc := 1328) C dL_law_1328 ?_
            refine j_if_eq (pc := 1329) C 1334 dL_law_1329 (by decide) h (fun h => ?_) (fun h => ?_)
            · refine j_goto (pc := 1334) C 2080 dL_law_1334 (by decide) ?_
              refine j_iinc (pc := 2080) (v := (6 : Int32)) C 6 [(4, _), (6, _), (5, _), (0, _), (1, _), (2, _), (3, _)] dL_law_2080 rfl rfl (by decide) rfl ?_
              refine j_goto (pc := 2083) C 23 dL_law_2083 (by decide) ?_
              exact j_widen (show kc + 2 ≤ kc + 5 by omega) (show ks + 12 ≤ ks + 30 by omega) (j_weak [3, 4, 5, 6, 0] rfl (ih (kc + 5) (ks + 30) _ _ _ _ _ (by omega) (by omega) h))
            · refine j_iconst (pc := 1332) (v := (0 : Int32)) C dL_law_1332 rfl ?_
              exact j_lawret (pc := 1333) C hbs dL_law_1333 ⟨Nat.le_trans (show kc + 2 ≤ kB by omega) hkc.1, Nat.le_trans (show ks + 12 ≤ sB by omega) hkc.2⟩ (hP _ _ h)
        · refine j_iconst (pc := 1315) (v := (0 : Int32)) C dL_law_1315 rfl ?_
          exact j_lawret (pc := 1316) C hbs dL_law_1316 ⟨Nat.le_trans (show kc + 2 ≤ kB by omega) hkc.1, Nat.le_trans (show ks + 12 ≤ sB by omega) hkc.2⟩ (hP _ _ h)
      rw [if_neg q40_16] at h
      by_cases q40_17 : ((xs x4.toNatClampNeg) &&& (31 : Int32)) = (17 : Int32)
      · rw [if_pos q40_17] at h
        refine j_tsI (pc := 40) (off := 1297) C 1337 dL_law_40 q40_17 (by decide) (by decide) (by decide) (by decide) ?_
        refine j_aload_n (pc := 1337) C 1 dL_law_1337 rfl ?_
        refine j_aload_n (pc := 1338) C 0 dL_law_1338 rfl ?_
        refine j_iload (pc := 1339) C 4 dL_law_1339 rfl ?_
        refine j_iconst (pc := 1341) (v := (1 : Int32)) C dL_law_1341 rfl ?_
        refine j_iadd (pc := 1342) C dL_law_1342 ?_
        refine j_sld (pc := 1343) C hX hbl (by omega) dL_law_1343 h (fun h => ?_)
        refine j_aload_n (pc := 1344) C 3 dL_law_1344 rfl ?_
        refine cs_L_164 (pc := 1345) C ⟨Nat.le_of_ble_eq_true rfl, Nat.le_of_ble_eq_true rfl⟩ ⟨Nat.le_trans (show kc + 1 ≤ kB by omega) hkc.1, Nat.le_trans (show ks + 6 ≤ sB by omega) hkc.2⟩ (Nat.le_of_ble_eq_true rfl) dL_law_1345 h (fun r69 M69 h => ?_)
        refine j_istore (pc := 1348) C [(5, _), (0, _), (1, _), (2, _), (3, _), (4, _)] dL_law_1348 (by decide) rfl ?_
        refine j_aload_n (pc := 1350) C 3 dL_law_1350 rfl ?_
        refine j_aload_n (pc := 1351) C 1 dL_law_1351 rfl ?_
        refine j_iload (pc := 1352) C 5 dL_law_1352 rfl ?_
        refine j_iconst (pc := 1354) (v := (1 : Int32)) C dL_law_1354 rfl ?_
        refine j_iadd (pc := 1355) C dL_law_1355 ?_
        refine j_sld (pc := 1356) C hX hbl (by omega) dL_law_1356 h (fun h => ?_)
        refine cs_L_166 (pc := 1357) C ⟨Nat.le_of_ble_eq_true rfl, Nat.le_of_ble_eq_true rfl⟩ ⟨Nat.le_trans (show kc + 1 ≤ kB by omega) hkc.1, Nat.le_trans (show ks + 6 ≤ sB by omega) hkc.2⟩ (Nat.le_of_ble_eq_true rfl) dL_law_1357 h (fun r70 M70 h => ?_)
        refine j_istore (pc := 1360) C [(6, _), (5, _), (0, _), (1, _), (2, _), (3, _), (4, _)] dL_law_1360 (by decide) rfl ?_
        refine j_aload_n (pc := 1362) C 4 dL_law_1362 rfl ?_
        refine cs_L_111 (pc := 1363) C ⟨Nat.le_of_ble_eq_true rfl, Nat.le_of_ble_eq_true rfl⟩ ⟨Nat.le_trans (show kc + 1 ≤ kB by omega) hkc.1, Nat.le_trans (show ks + 6 ≤ sB by omega) hkc.2⟩ (Nat.le_of_ble_eq_true rfl) dL_law_1363 h (fun r71 M71 h => ?_)
        refine j_iload (pc := 1366) C 1 dL_law_1366 rfl ?_
        refine j_icmp_eq (pc := 1368) C 1373 dL_law_1368 (by decide) h (fun h => ?_) (fun h => ?_)
        · refine j_iload (pc := 1373) C 1 dL_law_1373 rfl ?_
          refine j_if_ne (pc := 1375) C 1390 dL_law_1375 (by decide) h (fun h => ?_) (fun h => ?_)
          · refine j_goto (pc := 1390) C 2080 dL_law_1390 (by decide) ?_
            refine j_iinc (pc := 2080) (v := (6 : Int32)) C 6 [(4, _), (6, _), (5, _), (0, _), (1, _), (2, _), (3, _)] dL_law_2080 rfl rfl (by decide) rfl ?_
            refine j_goto (pc := 2083) C 23 dL_law_2083 (by decide) ?_
            exact j_widen (show kc + 1 ≤ kc + 5 by omega) (show ks + 6 ≤ ks + 30 by omega) (j_weak [3, 4, 5, 6, 0] rfl (ih (kc + 5) (ks + 30) _ _ _ _ _ (by omega) (by omega) h))
          · refine j_aload_n (pc := 1378) C 5 dL_law_1378 rfl ?_
            refine j_iconst (pc := 1379) (v := (0 : Int32)) C dL_law_1379 rfl ?_
            refine j_lald (pc := 1380) C dL_law_1380 h (fun h => ?_)
            refine j_iload (pc := 1381) C 0 dL_law_1381 rfl ?_
            refine j_i2l (pc := 1383) C dL_law_1383 ?_
            refine j_lcmp (pc := 1384) C dL_law_1384 ?_
            refine j_if_eq (pc := 1385) C 1390 dL_law_1385 (by decide) h (fun h => ?_) (fun h => ?_)
            · refine j_goto (pc := 1390) C 2080 dL_law_1390 (by decide) ?_
              refine j_iinc (pc := 2080) (v := (6 : Int32)) C 6 [(4, _), (6, _), (5, _), (0, _), (1, _), (2, _), (3, _)] dL_law_2080 rfl rfl (by decide) rfl ?_
              refine j_goto (pc := 2083) C 23 dL_law_2083 (by decide) ?_
              exact j_widen (show kc + 1 ≤ kc + 5 by omega) (show ks + 6 ≤ ks + 30 by omega) (j_weak [3, 4, 5, 6, 0] rfl (ih (kc + 5) (ks + 30) _ _ _ _ _ (by omega) (by omega) h))
            · refine j_iconst (pc := 1388) (v := (0 : Int32)) C dL_law_1388 rfl ?_
              exact j_lawret (pc := 1389) C hbs dL_law_1389 ⟨Nat.le_trans (show kc + 1 ≤ kB by omega) hkc.1, Nat.le_trans (show ks + 6 ≤ sB by omega) hkc.2⟩ (hP _ _ h)
        · refine j_iconst (pc := 1371) (v := (0 : Int32)) C dL_law_1371 rfl ?_
          exact j_lawret (pc := 1372) C hbs dL_law_1372 ⟨Nat.le_trans (show kc + 1 ≤ kB by omega) hkc.1, Nat.le_trans (show ks + 6 ≤ sB by omega) hkc.2⟩ (hP _ _ h)
      rw [if_neg q40_17] at h
      by_cases q40_18 : ((xs x4.toNatClampNeg) &&& (31 : Int32)) = (18 : Int32)
      · rw [if_pos q40_18] at h
        refine j_tsI (pc := 40) (off := 1353) C 1393 dL_law_40 q40_18 (by decide) (by decide) (by decide) (by decide) ?_
        refine j_aload_n (pc := 1393) C 1 dL_law_1393 rfl ?_
        refine j_aload_n (pc := 1394) C 0 dL_law_1394 rfl ?_
        refine j_iload (pc := 1395) C 4 dL_law_1395 rfl ?_
        refine j_iconst (pc := 1397) (v := (1 : Int32)) C dL_law_1397 rfl ?_
        refine j_iadd (pc := 1398) C dL_law_1398 ?_
        refine j_sld (pc := 1399) C hX hbl (by omega) dL_law_1399 h (fun h => ?_)
        refine j_aload_n (pc := 1400) C 0 dL_law_1400 rfl ?_
        refine j_iload (pc := 1401) C 4 dL_law_1401 rfl ?_
        refine j_iconst (pc := 1403) (v := (2 : Int32)) C dL_law_1403 rfl ?_
        refine j_iadd (pc := 1404) C dL_law_1404 ?_
        refine j_sld (pc := 1405) C hX hbl (by omega) dL_law_1405 h (fun h => ?_)
        refine j_aload_n (pc := 1406) C 0 dL_law_1406 rfl ?_
        refine j_iload (pc := 1407) C 4 dL_law_1407 rfl ?_
        refine j_iconst (pc := 1409) (v := (3 : Int32)) C dL_law_1409 rfl ?_
        refine j_iadd (pc := 1410) C dL_law_1410 ?_
        refine j_sld (pc := 1411) C hX hbl (by omega) dL_law_1411 h (fun h => ?_)
        refine j_aload_n (pc := 1412) C 0 dL_law_1412 rfl ?_
        refine j_iload (pc := 1413) C 4 dL_law_1413 rfl ?_
        refine j_iconst (pc := 1415) (v := (4 : Int32)) C dL_law_1415 rfl ?_
        refine j_iadd (pc := 1416) C dL_law_1416 ?_
        refine j_sld (pc := 1417) C hX hbl (by omega) dL_law_1417 h (fun h => ?_)
        refine j_if_eq (pc := 1418) C 1425 dL_law_1418 (by decide) h (fun h => ?_) (fun h => ?_)
        · refine j_iconst (pc := 1425) (v := (0 : Int32)) C dL_law_1425 rfl ?_
          refine j_aload_n (pc := 1426) C 3 dL_law_1426 rfl ?_
          refine cs_L_167 (pc := 1427) C ⟨Nat.le_of_ble_eq_true rfl, Nat.le_of_ble_eq_true rfl⟩ ⟨Nat.le_trans (show kc + 4 ≤ kB by omega) hkc.1, Nat.le_trans (show ks + 24 ≤ sB by omega) hkc.2⟩ (Nat.le_of_ble_eq_true rfl) dL_law_1427 h (fun r72 M72 h => ?_)
          refine j_istore (pc := 1430) C [(5, _), (0, _), (1, _), (2, _), (3, _), (4, _)] dL_law_1430 (by decide) rfl ?_
          refine j_aload_n (pc := 1432) C 3 dL_law_1432 rfl ?_
          refine j_aload_n (pc := 1433) C 1 dL_law_1433 rfl ?_
          refine j_iload (pc := 1434) C 5 dL_law_1434 rfl ?_
          refine j_iconst (pc := 1436) (v := (1 : Int32)) C dL_law_1436 rfl ?_
          refine j_iadd (pc := 1437) C dL_law_1437 ?_
          refine j_sld (pc := 1438) C hX hbl (by omega) dL_law_1438 h (fun h => ?_)
          refine j_aload_n (pc := 1439) C 1 dL_law_1439 rfl ?_
          refine j_iload (pc := 1440) C 5 dL_law_1440 rfl ?_
          refine j_iconst (pc := 1442) (v := (2 : Int32)) C dL_law_1442 rfl ?_
          refine j_iadd (pc := 1443) C dL_law_1443 ?_
          refine j_sld (pc := 1444) C hX hbl (by omega) dL_law_1444 h (fun h => ?_)
          refine j_aload_n (pc := 1445) C 1 dL_law_1445 rfl ?_
          refine j_iload (pc := 1446) C 5 dL_law_1446 rfl ?_
          refine j_iconst (pc := 1448) (v := (3 : Int32)) C dL_law_1448 rfl ?_
          refine j_iadd (pc := 1449) C dL_law_1449 ?_
          refine j_sld (pc := 1450) C hX hbl (by omega) dL_law_1450 h (fun h => ?_)
          refine j_aload_n (pc := 1451) C 1 dL_law_1451 rfl ?_
          refine j_iload (pc := 1452) C 5 dL_law_1452 rfl ?_
          refine j_iconst (pc := 1454) (v := (4 : Int32)) C dL_law_1454 rfl ?_
          refine j_iadd (pc := 1455) C dL_law_1455 ?_
          refine j_sld (pc := 1456) C hX hbl (by omega) dL_law_1456 h (fun h => ?_)
          refine j_if_eq (pc := 1457) C 1464 dL_law_1457 (by decide) h (fun h => ?_) (fun h => ?_)
          · refine j_iconst (pc := 1464) (v := (0 : Int32)) C dL_law_1464 rfl ?_
            refine cs_L_169 (pc := 1465) C ⟨Nat.le_of_ble_eq_true rfl, Nat.le_of_ble_eq_true rfl⟩ ⟨Nat.le_trans (show kc + 4 ≤ kB by omega) hkc.1, Nat.le_trans (show ks + 24 ≤ sB by omega) hkc.2⟩ (Nat.le_of_ble_eq_true rfl) dL_law_1465 h (fun r73 M73 h => ?_)
            refine j_istore (pc := 1468) C [(6, _), (5, _), (0, _), (1, _), (2, _), (3, _), (4, _)] dL_law_1468 (by decide) rfl ?_
            refine j_aload_n (pc := 1470) C 4 dL_law_1470 rfl ?_
            refine cs_L_111 (pc := 1471) C ⟨Nat.le_of_ble_eq_true rfl, Nat.le_of_ble_eq_true rfl⟩ ⟨Nat.le_trans (show kc + 4 ≤ kB by omega) hkc.1, Nat.le_trans (show ks + 24 ≤ sB by omega) hkc.2⟩ (Nat.le_of_ble_eq_true rfl) dL_law_1471 h (fun r74 M74 h => ?_)
            refine j_iload (pc := 1474) C 1 dL_law_1474 rfl ?_
            refine j_icmp_eq (pc := 1476) C 1481 dL_law_1476 (by decide) h (fun h => ?_) (fun h => ?_)
            · refine j_iload (pc := 1481) C 1 dL_law_1481 rfl ?_
              refine j_if_ne (pc := 1483) C 1498 dL_law_1483 (by decide) h (fun h => ?_) (fun h => ?_)
              · refine j_goto (pc := 1498) C 2080 dL_law_1498 (by decide) ?_
                refine j_iinc (pc := 2080) (v := (6 : Int32)) C 6 [(4, _), (6, _), (5, _), (0, _), (1, _), (2, _), (3, _)] dL_law_2080 rfl rfl (by decide) rfl ?_
                refine j_goto (pc := 2083) C 23 dL_law_2083 (by decide) ?_
                exact j_widen (show kc + 4 ≤ kc + 5 by omega) (show ks + 24 ≤ ks + 30 by omega) (j_weak [3, 4, 5, 6, 0] rfl (ih (kc + 5) (ks + 30) _ _ _ _ _ (by omega) (by omega) h))
              · refine j_aload_n (pc := 1486) C 5 dL_law_1486 rfl ?_
                refine j_iconst (pc := 1487) (v := (0 : Int32)) C dL_law_1487 rfl ?_
                refine j_lald (pc := 1488) C dL_law_1488 h (fun h => ?_)
                refine j_iload (pc := 1489) C 0 dL_law_1489 rfl ?_
                refine j_i2l (pc := 1491) C dL_law_1491 ?_
                refine j_lcmp (pc := 1492) C dL_law_1492 ?_
                refine j_if_eq (pc := 1493) C 1498 dL_law_1493 (by decide) h (fun h => ?_) (fun h => ?_)
                · refine j_goto (pc := 1498) C 2080 dL_law_1498 (by decide) ?_
                  refine j_iinc (pc := 2080) (v := (6 : Int32)) C 6 [(4, _), (6, _), (5, _), (0, _), (1, _), (2, _), (3, _)] dL_law_2080 rfl rfl (by decide) rfl ?_
                  refine j_goto (pc := 2083) C 23 dL_law_2083 (by decide) ?_
                  exact j_widen (show kc + 4 ≤ kc + 5 by omega) (show ks + 24 ≤ ks + 30 by omega) (j_weak [3, 4, 5, 6, 0] rfl (ih (kc + 5) (ks + 30) _ _ _ _ _ (by omega) (by omega) h))
                · refine j_iconst (pc := 1496) (v := (0 : Int32)) C dL_law_1496 rfl ?_
                  exact j_lawret (pc := 1497) C hbs dL_law_1497 ⟨Nat.le_trans (show kc + 4 ≤ kB by omega) hkc.1, Nat.le_trans (show ks + 24 ≤ sB by omega) hkc.2⟩ (hP _ _ h)
            · refine j_iconst (pc := 1479) (v := (0 : Int32)) C dL_law_1479 rfl ?_
              exact j_lawret (pc := 1480) C hbs dL_law_1480 ⟨Nat.le_trans (show kc + 4 ≤ kB by omega) hkc.1, Nat.le_trans (show ks + 24 ≤ sB by omega) hkc.2⟩ (hP _ _ h)
          · refine j_iconst (pc := 1460) (v := (1 : Int32)) C dL_law_1460 rfl ?_
            refine j_goto (pc := 1461) C 1465 dL_law_1461 (by decide) ?_
            refine cs_L_169 (pc := 1465) C ⟨Nat.le_of_ble_eq_true rfl, Nat.le_of_ble_eq_true rfl⟩ ⟨Nat.le_trans (show kc + 4 ≤ kB by omega) hkc.1, Nat.le_trans (show ks + 24 ≤ sB by omega) hkc.2⟩ (Nat.le_of_ble_eq_true rfl) dL_law_1465 h (fun r75 M75 h => ?_)
            refine j_istore (pc := 1468) C [(6, _), (5, _), (0, _), (1, _), (2, _), (3, _), (4, _)] dL_law_1468 (by decide) rfl ?_
            refine j_aload_n (pc := 1470) C 4 dL_law_1470 rfl ?_
            refine cs_L_111 (pc := 1471) C ⟨Nat.le_of_ble_eq_true rfl, Nat.le_of_ble_eq_true rfl⟩ ⟨Nat.le_trans (show kc + 4 ≤ kB by omega) hkc.1, Nat.le_trans (show ks + 24 ≤ sB by omega) hkc.2⟩ (Nat.le_of_ble_eq_true rfl) dL_law_1471 h (fun r76 M76 h => ?_)
            refine j_iload (pc := 1474) C 1 dL_law_1474 rfl ?_
            refine j_icmp_eq (pc := 1476) C 1481 dL_law_1476 (by decide) h (fun h => ?_) (fun h => ?_)
            · refine j_iload (pc := 1481) C 1 dL_law_1481 rfl ?_
              refine j_if_ne (pc := 1483) C 1498 dL_law_1483 (by decide) h (fun h => ?_) (fun h => ?_)
              · refine j_goto (pc := 1498) C 2080 dL_law_1498 (by decide) ?_
                refine j_iinc (pc := 2080) (v := (6 : Int32)) C 6 [(4, _), (6, _), (5, _), (0, _), (1, _), (2, _), (3, _)] dL_law_2080 rfl rfl (by decide) rfl ?_
                refine j_goto (pc := 2083) C 23 dL_law_2083 (by decide) ?_
                exact j_widen (show kc + 4 ≤ kc + 5 by omega) (show ks + 24 ≤ ks + 30 by omega) (j_weak [3, 4, 5, 6, 0] rfl (ih (kc + 5) (ks + 30) _ _ _ _ _ (by omega) (by omega) h))
              · refine j_aload_n (pc := 1486) C 5 dL_law_1486 rfl ?_
                refine j_iconst (pc := 1487) (v := (0 : Int32)) C dL_law_1487 rfl ?_
                refine j_lald (pc := 1488) C dL_law_1488 h (fun h => ?_)
                refine j_iload (pc := 1489) C 0 dL_law_1489 rfl ?_
                refine j_i2l (pc := 1491) C dL_law_1491 ?_
                refine j_lcmp (pc := 1492) C dL_law_1492 ?_
                refine j_if_eq (pc := 1493) C 1498 dL_law_1493 (by decide) h (fun h => ?_) (fun h => ?_)
                · refine j_goto (pc := 1498) C 2080 dL_law_1498 (by decide) ?_
                  refine j_iinc (pc := 2080) (v := (6 : Int32)) C 6 [(4, _), (6, _), (5, _), (0, _), (1, _), (2, _), (3, _)] dL_law_2080 rfl rfl (by decide) rfl ?_
                  refine j_goto (pc := 2083) C 23 dL_law_2083 (by decide) ?_
                  exact j_widen (show kc + 4 ≤ kc + 5 by omega) (show ks + 24 ≤ ks + 30 by omega) (j_weak [3, 4, 5, 6, 0] rfl (ih (kc + 5) (ks + 30) _ _ _ _ _ (by omega) (by omega) h))
                · refine j_iconst (pc := 1496) (v := (0 : Int32)) C dL_law_1496 rfl ?_
                  exact j_lawret (pc := 1497) C hbs dL_law_1497 ⟨Nat.le_trans (show kc + 4 ≤ kB by omega) hkc.1, Nat.le_trans (show ks + 24 ≤ sB by omega) hkc.2⟩ (hP _ _ h)
            · refine j_iconst (pc := 1479) (v := (0 : Int32)) C dL_law_1479 rfl ?_
              exact j_lawret (pc := 1480) C hbs dL_law_1480 ⟨Nat.le_trans (show kc + 4 ≤ kB by omega) hkc.1, Nat.le_trans (show ks + 24 ≤ sB by omega) hkc.2⟩ (hP _ _ h)
        · refine j_iconst (pc := 1421) (v := (1 : Int32)) C dL_law_1421 rfl ?_
          refine j_goto (pc := 1422) C 1426 dL_law_1422 (by decide) ?_
          refine j_aload_n (pc := 1426) C 3 dL_law_1426 rfl ?_
          refine cs_L_167 (pc := 1427) C ⟨Nat.le_of_ble_eq_true rfl, Nat.le_of_ble_eq_true rfl⟩ ⟨Nat.le_trans (show kc + 4 ≤ kB by omega) hkc.1, Nat.le_trans (show ks + 24 ≤ sB by omega) hkc.2⟩ (Nat.le_of_ble_eq_true rfl) dL_law_1427 h (fun r77 M77 h => ?_)
          refine j_istore (pc := 1430) C [(5, _), (0, _), (1, _), (2, _), (3, _), (4, _)] dL_law_1430 (by decide) rfl ?_
          refine j_aload_n (pc := 1432) C 3 dL_law_1432 rfl ?_
          refine j_aload_n (pc := 1433) C 1 dL_law_1433 rfl ?_
          refine j_iload (pc := 1434) C 5 dL_law_1434 rfl ?_
          refine j_iconst (pc := 1436) (v := (1 : Int32)) C dL_law_1436 rfl ?_
          refine j_iadd (pc := 1437) C dL_law_1437 ?_
          refine j_sld (pc := 1438) C hX hbl (by omega) dL_law_1438 h (fun h => ?_)
          refine j_aload_n (pc := 1439) C 1 dL_law_1439 rfl ?_
          refine j_iload (pc := 1440) C 5 dL_law_1440 rfl ?_
          refine j_iconst (pc := 1442) (v := (2 : Int32)) C dL_law_1442 rfl ?_
          refine j_iadd (pc := 1443) C dL_law_1443 ?_
          refine j_sld (pc := 1444) C hX hbl (by omega) dL_law_1444 h (fun h => ?_)
          refine j_aload_n (pc := 1445) C 1 dL_law_1445 rfl ?_
          refine j_iload (pc := 1446) C 5 dL_law_1446 rfl ?_
          refine j_iconst (pc := 1448) (v := (3 : Int32)) C dL_law_1448 rfl ?_
          refine j_iadd (pc := 1449) C dL_law_1449 ?_
          refine j_sld (pc := 1450) C hX hbl (by omega) dL_law_1450 h (fun h => ?_)
          refine j_aload_n (pc := 1451) C 1 dL_law_1451 rfl ?_
          refine j_iload (pc := 1452) C 5 dL_law_1452 rfl ?_
          refine j_iconst (pc := 1454) (v := (4 : Int32)) C dL_law_1454 rfl ?_
          refine j_iadd (pc := 1455) C dL_law_1455 ?_
          refine j_sld (pc := 1456) C hX hbl (by omega) dL_law_1456 h (fun h => ?_)
          refine j_if_eq (pc := 1457) C 1464 dL_law_1457 (by decide) h (fun h => ?_) (fun h => ?_)
          · refine j_iconst (pc := 1464) (v := (0 : Int32)) C dL_law_1464 rfl ?_
            refine cs_L_169 (pc := 1465) C ⟨Nat.le_of_ble_eq_true rfl, Nat.le_of_ble_eq_true rfl⟩ ⟨Nat.le_trans (show kc + 4 ≤ kB by omega) hkc.1, Nat.le_trans (show ks + 24 ≤ sB by omega) hkc.2⟩ (Nat.le_of_ble_eq_true rfl) dL_law_1465 h (fun r78 M78 h => ?_)
            refine j_istore (pc := 1468) C [(6, _), (5, _), (0, _), (1, _), (2, _), (3, _), (4, _)] dL_law_1468 (by decide) rfl ?_
            refine j_aload_n (pc := 1470) C 4 dL_law_1470 rfl ?_
            refine cs_L_111 (pc := 1471) C ⟨Nat.le_of_ble_eq_true rfl, Nat.le_of_ble_eq_true rfl⟩ ⟨Nat.le_trans (show kc + 4 ≤ kB by omega) hkc.1, Nat.le_trans (show ks + 24 ≤ sB by omega) hkc.2⟩ (Nat.le_of_ble_eq_true rfl) dL_law_1471 h (fun r79 M79 h => ?_)
            refine j_iload (pc := 1474) C 1 dL_law_1474 rfl ?_
            refine j_icmp_eq (pc := 1476) C 1481 dL_law_1476 (by decide) h (fun h => ?_) (fun h => ?_)
            · refine j_iload (pc := 1481) C 1 dL_law_1481 rfl ?_
              refine j_if_ne (pc := 1483) C 1498 dL_law_1483 (by decide) h (fun h => ?_) (fun h => ?_)
              · refine j_goto (pc := 1498) C 2080 dL_law_1498 (by decide) ?_
                refine j_iinc (pc := 2080) (v := (6 : Int32)) C 6 [(4, _), (6, _), (5, _), (0, _), (1, _), (2, _), (3, _)] dL_law_2080 rfl rfl (by decide) rfl ?_
                refine j_goto (pc := 2083) C 23 dL_law_2083 (by decide) ?_
                exact j_widen (show kc + 4 ≤ kc + 5 by omega) (show ks + 24 ≤ ks + 30 by omega) (j_weak [3, 4, 5, 6, 0] rfl (ih (kc + 5) (ks + 30) _ _ _ _ _ (by omega) (by omega) h))
              · refine j_aload_n (pc := 1486) C 5 dL_law_1486 rfl ?_
                refine j_iconst (pc := 1487) (v := (0 : Int32)) C dL_law_1487 rfl ?_
                refine j_lald (pc := 1488) C dL_law_1488 h (fun h => ?_)
                refine j_iload (pc := 1489) C 0 dL_law_1489 rfl ?_
                refine j_i2l (pc := 1491) C dL_law_1491 ?_
                refine j_lcmp (pc := 1492) C dL_law_1492 ?_
                refine j_if_eq (pc := 1493) C 1498 dL_law_1493 (by decide) h (fun h => ?_) (fun h => ?_)
                · refine j_goto (pc := 1498) C 2080 dL_law_1498 (by decide) ?_
                  refine j_iinc (pc := 2080) (v := (6 : Int32)) C 6 [(4, _), (6, _), (5, _), (0, _), (1, _), (2, _), (3, _)] dL_law_2080 rfl rfl (by decide) rfl ?_
                  refine j_goto (pc := 2083) C 23 dL_law_2083 (by decide) ?_
                  exact j_widen (show kc + 4 ≤ kc + 5 by omega) (show ks + 24 ≤ ks + 30 by omega) (j_weak [3, 4, 5, 6, 0] rfl (ih (kc + 5) (ks + 30) _ _ _ _ _ (by omega) (by omega) h))
                · refine j_iconst (pc := 1496) (v := (0 : Int32)) C dL_law_1496 rfl ?_
                  exact j_lawret (pc := 1497) C hbs dL_law_1497 ⟨Nat.le_trans (show kc + 4 ≤ kB by omega) hkc.1, Nat.le_trans (show ks + 24 ≤ sB by omega) hkc.2⟩ (hP _ _ h)
            · refine j_iconst (pc := 1479) (v := (0 : Int32)) C dL_law_1479 rfl ?_
              exact j_lawret (pc := 1480) C hbs dL_law_1480 ⟨Nat.le_trans (show kc + 4 ≤ kB by omega) hkc.1, Nat.le_trans (show ks + 24 ≤ sB by omega) hkc.2⟩ (hP _ _ h)
          · refine j_iconst (pc := 1460) (v := (1 : Int32)) C dL_law_1460 rfl ?_
            refine j_goto (pc := 1461) C 1465 dL_law_1461 (by decide) ?_
            refine cs_L_169 (pc := 1465) C ⟨Nat.le_of_ble_eq_true rfl, Nat.le_of_ble_eq_true rfl⟩ ⟨Nat.le_trans (show kc + 4 ≤ kB by omega) hkc.1, Nat.le_trans (show ks + 24 ≤ sB by omega) hkc.2⟩ (Nat.le_of_ble_eq_true rfl) dL_law_1465 h (fun r80 M80 h => ?_)
            refine j_istore (pc := 1468) C [(6, _), (5, _), (0, _), (1, _), (2, _), (3, _), (4, _)] dL_law_1468 (by decide) rfl ?_
            refine j_aload_n (pc := 1470) C 4 dL_law_1470 rfl ?_
            refine cs_L_111 (pc := 1471) C ⟨Nat.le_of_ble_eq_true rfl, Nat.le_of_ble_eq_true rfl⟩ ⟨Nat.le_trans (show kc + 4 ≤ kB by omega) hkc.1, Nat.le_trans (show ks + 24 ≤ sB by omega) hkc.2⟩ (Nat.le_of_ble_eq_true rfl) dL_law_1471 h (fun r81 M81 h => ?_)
            refine j_iload (pc := 1474) C 1 dL_law_1474 rfl ?_
            refine j_icmp_eq (pc := 1476) C 1481 dL_law_1476 (by decide) h (fun h => ?_) (fun h => ?_)
            · refine j_iload (pc := 1481) C 1 dL_law_1481 rfl ?_
              refine j_if_ne (pc := 1483) C 1498 dL_law_1483 (by decide) h (fun h => ?_) (fun h => ?_)
              · refine j_goto (pc := 1498) C 2080 dL_law_1498 (by decide) ?_
                refine j_iinc (pc := 2080) (v := (6 : Int32)) C 6 [(4, _), (6, _), (5, _), (0, _), (1, _), (2, _), (3, _)] dL_law_2080 rfl rfl (by decide) rfl ?_
                refine j_goto (pc := 2083) C 23 dL_law_2083 (by decide) ?_
                exact j_widen (show kc + 4 ≤ kc + 5 by omega) (show ks + 24 ≤ ks + 30 by omega) (j_weak [3, 4, 5, 6, 0] rfl (ih (kc + 5) (ks + 30) _ _ _ _ _ (by omega) (by omega) h))
              · refine j_aload_n (pc := 1486) C 5 dL_law_1486 rfl ?_
                refine j_iconst (pc := 1487) (v := (0 : Int32)) C dL_law_1487 rfl ?_
                refine j_lald (pc := 1488) C dL_law_1488 h (fun h => ?_)
                refine j_iload (pc := 1489) C 0 dL_law_1489 rfl ?_
                refine j_i2l (pc := 1491) C dL_law_1491 ?_
                refine j_lcmp (pc := 1492) C dL_law_1492 ?_
                refine j_if_eq (pc := 1493) C 1498 dL_law_1493 (by decide) h (fun h => ?_) (fun h => ?_)
                · refine j_goto (pc := 1498) C 2080 dL_law_1498 (by decide) ?_
                  refine j_iinc (pc := 2080) (v := (6 : Int32)) C 6 [(4, _), (6, _), (5, _), (0, _), (1, _), (2, _), (3, _)] dL_law_2080 rfl rfl (by decide) rfl ?_
                  refine j_goto (pc := 2083) C 23 dL_law_2083 (by decide) ?_
                  exact j_widen (show kc + 4 ≤ kc + 5 by omega) (show ks + 24 ≤ ks + 30 by omega) (j_weak [3, 4, 5, 6, 0] rfl (ih (kc + 5) (ks + 30) _ _ _ _ _ (by omega) (by omega) h))
                · refine j_iconst (pc := 1496) (v := (0 : Int32)) C dL_law_1496 rfl ?_
                  exact j_lawret (pc := 1497) C hbs dL_law_1497 ⟨Nat.le_trans (show kc + 4 ≤ kB by omega) hkc.1, Nat.le_trans (show ks + 24 ≤ sB by omega) hkc.2⟩ (hP _ _ h)
            · refine j_iconst (pc := 1479) (v := (0 : Int32)) C dL_law_1479 rfl ?_
              exact j_lawret (pc := 1480) C hbs dL_law_1480 ⟨Nat.le_trans (show kc + 4 ≤ kB by omega) hkc.1, Nat.le_trans (show ks + 24 ≤ sB by omega) hkc.2⟩ (hP _ _ h)
      rw [if_neg q40_18] at h
      by_cases q40_19 : ((xs x4.toNatClampNeg) &&& (31 : Int32)) = (19 : Int32)
      · rw [if_pos q40_19] at h
        refine j_tsI (pc := 40) (off := 1461) C 1501 dL_law_40 q40_19 (by decide) (by decide) (by decide) (by decide) ?_
        refine j_aload_n (pc := 1501) C 1 dL_law_1501 rfl ?_
        refine cs_L_170 (pc := 1502) C ⟨Nat.le_of_ble_eq_true rfl, Nat.le_of_ble_eq_true rfl⟩ ⟨Nat.le_trans (show kc + 0 ≤ kB by omega) hkc.1, Nat.le_trans (show ks + 0 ≤ sB by omega) hkc.2⟩ (Nat.le_of_ble_eq_true rfl) dL_law_1502 h (fun r82 M82 h => ?_)
        refine j_aload_n (pc := 1505) C 2 dL_law_1505 rfl ?_
        refine cs_L_174 (pc := 1506) C ⟨Nat.le_of_ble_eq_true rfl, Nat.le_of_ble_eq_true rfl⟩ ⟨Nat.le_trans (show kc + 0 ≤ kB by omega) hkc.1, Nat.le_trans (show ks + 0 ≤ sB by omega) hkc.2⟩ (Nat.le_of_ble_eq_true rfl) dL_law_1506 h (fun r83 M83 h => ?_)
        refine j_icmp_eq (pc := 1509) C 2080 dL_law_1509 (by decide) h (fun h => ?_) (fun h => ?_)
        · refine j_iinc (pc := 2080) (v := (6 : Int32)) C 4 [(4, _), (0, _), (1, _), (2, _), (3, _)] dL_law_2080 rfl rfl (by decide) rfl ?_
          refine j_goto (pc := 2083) C 23 dL_law_2083 (by decide) ?_
          exact j_widen (show kc + 0 ≤ kc + 5 by omega) (show ks + 0 ≤ ks + 30 by omega) (j_weak [1, 2, 3, 4, 0] rfl (ih (kc + 5) (ks + 30) _ _ _ _ _ (by omega) (by omega) h))
        · refine j_iconst (pc := 1512) (v := (0 : Int32)) C dL_law_1512 rfl ?_
          exact j_lawret (pc := 1513) C hbs dL_law_1513 ⟨Nat.le_trans (show kc + 0 ≤ kB by omega) hkc.1, Nat.le_trans (show ks + 0 ≤ sB by omega) hkc.2⟩ (hP _ _ h)
      rw [if_neg q40_19] at h
      by_cases q40_20 : ((xs x4.toNatClampNeg) &&& (31 : Int32)) = (20 : Int32)
      · rw [if_pos q40_20] at h
        refine j_tsI (pc := 40) (off := 1474) C 1514 dL_law_40 q40_20 (by decide) (by decide) (by decide) (by decide) ?_
        refine j_aload_n (pc := 1514) C 1 dL_law_1514 rfl ?_
        refine cs_L_175 (pc := 1515) C ⟨Nat.le_of_ble_eq_true rfl, Nat.le_of_ble_eq_true rfl⟩ ⟨Nat.le_trans (show kc + 0 ≤ kB by omega) hkc.1, Nat.le_trans (show ks + 0 ≤ sB by omega) hkc.2⟩ (Nat.le_of_ble_eq_true rfl) dL_law_1515 h (fun r84 M84 h => ?_)
        refine j_aload_n (pc := 1518) C 2 dL_law_1518 rfl ?_
        refine cs_L_178 (pc := 1519) C ⟨Nat.le_of_ble_eq_true rfl, Nat.le_of_ble_eq_true rfl⟩ ⟨Nat.le_trans (show kc + 0 ≤ kB by omega) hkc.1, Nat.le_trans (show ks + 0 ≤ sB by omega) hkc.2⟩ (Nat.le_of_ble_eq_true rfl) dL_law_1519 h (fun r85 M85 h => ?_)
        refine j_icmp_eq (pc := 1522) C 2080 dL_law_1522 (by decide) h (fun h => ?_) (fun h => ?_)
        · refine j_iinc (pc := 2080) (v := (6 : Int32)) C 4 [(4, _), (0, _), (1, _), (2, _), (3, _)] dL_law_2080 rfl rfl (by decide) rfl ?_
          refine j_goto (pc := 2083) C 23 dL_law_2083 (by decide) ?_
          exact j_widen (show kc + 0 ≤ kc + 5 by omega) (show ks + 0 ≤ ks + 30 by omega) (j_weak [1, 2, 3, 4, 0] rfl (ih (kc + 5) (ks + 30) _ _ _ _ _ (by omega) (by omega) h))
        · refine j_iconst (pc := 1525) (v := (0 : Int32)) C dL_law_1525 rfl ?_
          exact j_lawret (pc := 1526) C hbs dL_law_1526 ⟨Nat.le_trans (show kc + 0 ≤ kB by omega) hkc.1, Nat.le_trans (show ks + 0 ≤ sB by omega) hkc.2⟩ (hP _ _ h)
      rw [if_neg q40_20] at h
      by_cases q40_21 : ((xs x4.toNatClampNeg) &&& (31 : Int32)) = (21 : Int32)
      · rw [if_pos q40_21] at h
        refine j_tsI (pc := 40) (off := 1487) C 1527 dL_law_40 q40_21 (by decide) (by decide) (by decide) (by decide) ?_
        refine j_aload_n (pc := 1527) C 1 dL_law_1527 rfl ?_
        refine cs_L_179 (pc := 1528) C ⟨Nat.le_of_ble_eq_true rfl, Nat.le_of_ble_eq_true rfl⟩ ⟨Nat.le_trans (show kc + 0 ≤ kB by omega) hkc.1, Nat.le_trans (show ks + 0 ≤ sB by omega) hkc.2⟩ (Nat.le_of_ble_eq_true rfl) dL_law_1528 h (fun r86 M86 h => ?_)
        refine j_aload_n (pc := 1531) C 2 dL_law_1531 rfl ?_
        refine cs_L_182 (pc := 1532) C ⟨Nat.le_of_ble_eq_true rfl, Nat.le_of_ble_eq_true rfl⟩ ⟨Nat.le_trans (show kc + 0 ≤ kB by omega) hkc.1, Nat.le_trans (show ks + 0 ≤ sB by omega) hkc.2⟩ (Nat.le_of_ble_eq_true rfl) dL_law_1532 h (fun r87 M87 h => ?_)
        refine j_icmp_eq (pc := 1535) C 2080 dL_law_1535 (by decide) h (fun h => ?_) (fun h => ?_)
        · refine j_iinc (pc := 2080) (v := (6 : Int32)) C 4 [(4, _), (0, _), (1, _), (2, _), (3, _)] dL_law_2080 rfl rfl (by decide) rfl ?_
          refine j_goto (pc := 2083) C 23 dL_law_2083 (by decide) ?_
          exact j_widen (show kc + 0 ≤ kc + 5 by omega) (show ks + 0 ≤ ks + 30 by omega) (j_weak [1, 2, 3, 4, 0] rfl (ih (kc + 5) (ks + 30) _ _ _ _ _ (by omega) (by omega) h))
        · refine j_iconst (pc := 1538) (v := (0 : Int32)) C dL_law_1538 rfl ?_
          exact j_lawret (pc := 1539) C hbs dL_law_1539 ⟨Nat.le_trans (show kc + 0 ≤ kB by omega) hkc.1, Nat.le_trans (show ks + 0 ≤ sB by omega) hkc.2⟩ (hP _ _ h)
      rw [if_neg q40_21] at h
      by_cases q40_22 : ((xs x4.toNatClampNeg) &&& (31 : Int32)) = (22 : Int32)
      · rw [if_pos q40_22] at h
        refine j_tsI (pc := 40) (off := 1500) C 1540 dL_law_40 q40_22 (by decide) (by decide) (by decide) (by decide) ?_
        refine j_aload_n (pc := 1540) C 1 dL_law_1540 rfl ?_
        refine j_aload_n (pc := 1541) C 0 dL_law_1541 rfl ?_
        refine j_iload (pc := 1542) C 4 dL_law_1542 rfl ?_
        refine j_iconst (pc := 1544) (v := (1 : Int32)) C dL_law_1544 rfl ?_
        refine j_iadd (pc := 1545) C dL_law_1545 ?_
        refine j_sld (pc := 1546) C hX hbl (by omega) dL_law_1546 h (fun h => ?_)
        refine j_aload_n (pc := 1547) C 0 dL_law_1547 rfl ?_
        refine j_iload (pc := 1548) C 4 dL_law_1548 rfl ?_
        refine j_iconst (pc := 1550) (v := (2 : Int32)) C dL_law_1550 rfl ?_
        refine j_iadd (pc := 1551) C dL_law_1551 ?_
        refine j_sld (pc := 1552) C hX hbl (by omega) dL_law_1552 h (fun h => ?_)
        refine j_aload_n (pc := 1553) C 0 dL_law_1553 rfl ?_
        refine j_iload (pc := 1554) C 4 dL_law_1554 rfl ?_
        refine j_iconst (pc := 1556) (v := (3 : Int32)) C dL_law_1556 rfl ?_
        refine j_iadd (pc := 1557) C dL_law_1557 ?_
        refine j_sld (pc := 1558) C hX hbl (by omega) dL_law_1558 h (fun h => ?_)
        refine j_aload_n (pc := 1559) C 3 dL_law_1559 rfl ?_
        refine cs_L_183 (pc := 1560) C ⟨Nat.le_of_ble_eq_true rfl, Nat.le_of_ble_eq_true rfl⟩ ⟨Nat.le_trans (show kc + 4 ≤ kB by omega) hkc.1, Nat.le_trans (show ks + 24 ≤ sB by omega) hkc.2⟩ (Nat.le_of_ble_eq_true rfl) dL_law_1560 h (fun r88 M88 h => ?_)
        refine j_istore (pc := 1563) C [(5, _), (0, _), (1, _), (2, _), (3, _), (4, _)] dL_law_1563 (by decide) rfl ?_
        refine j_aload_n (pc := 1565) C 3 dL_law_1565 rfl ?_
        refine j_aload_n (pc := 1566) C 1 dL_law_1566 rfl ?_
        refine j_iload (pc := 1567) C 5 dL_law_1567 rfl ?_
        refine j_iconst (pc := 1569) (v := (1 : Int32)) C dL_law_1569 rfl ?_
        refine j_iadd (pc := 1570) C dL_law_1570 ?_
        refine j_sld (pc := 1571) C hX hbl (by omega) dL_law_1571 h (fun h => ?_)
        refine j_aload_n (pc := 1572) C 1 dL_law_1572 rfl ?_
        refine j_iload (pc := 1573) C 5 dL_law_1573 rfl ?_
        refine j_iconst (pc := 1575) (v := (2 : Int32)) C dL_law_1575 rfl ?_
        refine j_iadd (pc := 1576) C dL_law_1576 ?_
        refine j_sld (pc := 1577) C hX hbl (by omega) dL_law_1577 h (fun h => ?_)
        refine j_aload_n (pc := 1578) C 1 dL_law_1578 rfl ?_
        refine j_iload (pc := 1579) C 5 dL_law_1579 rfl ?_
        refine j_iconst (pc := 1581) (v := (3 : Int32)) C dL_law_1581 rfl ?_
        refine j_iadd (pc := 1582) C dL_law_1582 ?_
        refine j_sld (pc := 1583) C hX hbl (by omega) dL_law_1583 h (fun h => ?_)
        refine cs_L_185 (pc := 1584) C ⟨Nat.le_of_ble_eq_true rfl, Nat.le_of_ble_eq_true rfl⟩ ⟨Nat.le_trans (show kc + 4 ≤ kB by omega) hkc.1, Nat.le_trans (show ks + 24 ≤ sB by omega) hkc.2⟩ (Nat.le_of_ble_eq_true rfl) dL_law_1584 h (fun r89 M89 h => ?_)
        refine j_istore (pc := 1587) C [(6, _), (5, _), (0, _), (1, _), (2, _), (3, _), (4, _)] dL_law_1587 (by decide) rfl ?_
        refine j_aload_n (pc := 1589) C 4 dL_law_1589 rfl ?_
        refine cs_L_111 (pc := 1590) C ⟨Nat.le_of_ble_eq_true rfl, Nat.le_of_ble_eq_true rfl⟩ ⟨Nat.le_trans (show kc + 4 ≤ kB by omega) hkc.1, Nat.le_trans (show ks + 24 ≤ sB by omega) hkc.2⟩ (Nat.le_of_ble_eq_true rfl) dL_law_1590 h (fun r90 M90 h => ?_)
        refine j_iload (pc := 1593) C 1 dL_law_1593 rfl ?_
        refine j_icmp_eq (pc := 1595) C 1600 dL_law_1595 (by decide) h (fun h => ?_) (fun h => ?_)
        · refine j_iload (pc := 1600) C 1 dL_law_1600 rfl ?_
          refine j_if_ne (pc := 1602) C 1617 dL_law_1602 (by decide) h (fun h => ?_) (fun h => ?_)
          · refine j_goto (pc := 1617) C 2080 dL_law_1617 (by decide) ?_
            refine j_iinc (pc := 2080) (v := (6 : Int32)) C 6 [(4, _), (6, _), (5, _), (0, _), (1, _), (2, _), (3, _)] dL_law_2080 rfl rfl (by decide) rfl ?_
            refine j_goto (pc := 2083) C 23 dL_law_2083 (by decide) ?_
            exact j_widen (show kc + 4 ≤ kc + 5 by omega) (show ks + 24 ≤ ks + 30 by omega) (j_weak [3, 4, 5, 6, 0] rfl (ih (kc + 5) (ks + 30) _ _ _ _ _ (by omega) (by omega) h))
          · refine j_aload_n (pc := 1605) C 5 dL_law_1605 rfl ?_
            refine j_iconst (pc := 1606) (v := (0 : Int32)) C dL_law_1606 rfl ?_
            refine j_lald (pc := 1607) C dL_law_1607 h (fun h => ?_)
            refine j_iload (pc := 1608) C 0 dL_law_1608 rfl ?_
            refine j_i2l (pc := 1610) C dL_law_1610 ?_
            refine j_lcmp (pc := 1611) C dL_law_1611 ?_
            refine j_if_eq (pc := 1612) C 1617 dL_law_1612 (by decide) h (fun h => ?_) (fun h => ?_)
            · refine j_goto (pc := 1617) C 2080 dL_law_1617 (by decide) ?_
              refine j_iinc (pc := 2080) (v := (6 : Int32)) C 6 [(4, _), (6, _), (5, _), (0, _), (1, _), (2, _), (3, _)] dL_law_2080 rfl rfl (by decide) rfl ?_
              refine j_goto (pc := 2083) C 23 dL_law_2083 (by decide) ?_
              exact j_widen (show kc + 4 ≤ kc + 5 by omega) (show ks + 24 ≤ ks + 30 by omega) (j_weak [3, 4, 5, 6, 0] rfl (ih (kc + 5) (ks + 30) _ _ _ _ _ (by omega) (by omega) h))
            · refine j_iconst (pc := 1615) (v := (0 : Int32)) C dL_law_1615 rfl ?_
              exact j_lawret (pc := 1616) C hbs dL_law_1616 ⟨Nat.le_trans (show kc + 4 ≤ kB by omega) hkc.1, Nat.le_trans (show ks + 24 ≤ sB by omega) hkc.2⟩ (hP _ _ h)
        · refine j_iconst (pc := 1598) (v := (0 : Int32)) C dL_law_1598 rfl ?_
          exact j_lawret (pc := 1599) C hbs dL_law_1599 ⟨Nat.le_trans (show kc + 4 ≤ kB by omega) hkc.1, Nat.le_trans (show ks + 24 ≤ sB by omega) hkc.2⟩ (hP _ _ h)
      rw [if_neg q40_22] at h
      by_cases q40_23 : ((xs x4.toNatClampNeg) &&& (31 : Int32)) = (23 : Int32)
      · rw [if_pos q40_23] at h
        refine j_tsI (pc := 40) (off := 1580) C 1620 dL_law_40 q40_23 (by decide) (by decide) (by decide) (by decide) ?_
        refine j_aload_n (pc := 1620) C 1 dL_law_1620 rfl ?_
        refine j_aload_n (pc := 1621) C 0 dL_law_1621 rfl ?_
        refine j_iload (pc := 1622) C 4 dL_law_1622 rfl ?_
        refine j_iconst (pc := 1624) (v := (1 : Int32)) C dL_law_1624 rfl ?_
        refine j_iadd (pc := 1625) C dL_law_1625 ?_
        refine j_sld (pc := 1626) C hX hbl (by omega) dL_law_1626 h (fun h => ?_)
        refine j_aload_n (pc := 1627) C 0 dL_law_1627 rfl ?_
        refine j_iload (pc := 1628) C 4 dL_law_1628 rfl ?_
        refine j_iconst (pc := 1630) (v := (2 : Int32)) C dL_law_1630 rfl ?_
        refine j_iadd (pc := 1631) C dL_law_1631 ?_
        refine j_sld (pc := 1632) C hX hbl (by omega) dL_law_1632 h (fun h => ?_)
        refine j_aload_n (pc := 1633) C 0 dL_law_1633 rfl ?_
        refine j_iload (pc := 1634) C 4 dL_law_1634 rfl ?_
        refine j_iconst (pc := 1636) (v := (3 : Int32)) C dL_law_1636 rfl ?_
        refine j_iadd (pc := 1637) C dL_law_1637 ?_
        refine j_sld (pc := 1638) C hX hbl (by omega) dL_law_1638 h (fun h => ?_)
        refine j_aload_n (pc := 1639) C 3 dL_law_1639 rfl ?_
        refine cs_L_186 (pc := 1640) C ⟨Nat.le_of_ble_eq_true rfl, Nat.le_of_ble_eq_true rfl⟩ ⟨Nat.le_trans (show kc + 5 ≤ kB by omega) hkc.1, Nat.le_trans (show ks + 30 ≤ sB by omega) hkc.2⟩ (Nat.le_of_ble_eq_true rfl) dL_law_1640 h (fun r91 M91 h => ?_)
        refine j_istore (pc := 1643) C [(5, _), (0, _), (1, _), (2, _), (3, _), (4, _)] dL_law_1643 (by decide) rfl ?_
        refine j_aload_n (pc := 1645) C 3 dL_law_1645 rfl ?_
        refine j_aload_n (pc := 1646) C 1 dL_law_1646 rfl ?_
        refine j_iload (pc := 1647) C 5 dL_law_1647 rfl ?_
        refine j_iconst (pc := 1649) (v := (1 : Int32)) C dL_law_1649 rfl ?_
        refine j_iadd (pc := 1650) C dL_law_1650 ?_
        refine j_sld (pc := 1651) C hX hbl (by omega) dL_law_1651 h (fun h => ?_)
        refine j_aload_n (pc := 1652) C 1 dL_law_1652 rfl ?_
        refine j_iload (pc := 1653) C 5 dL_law_1653 rfl ?_
        refine j_iconst (pc := 1655) (v := (2 : Int32)) C dL_law_1655 rfl ?_
        refine j_iadd (pc := 1656) C dL_law_1656 ?_
        refine j_sld (pc := 1657) C hX hbl (by omega) dL_law_1657 h (fun h => ?_)
        refine j_aload_n (pc := 1658) C 1 dL_law_1658 rfl ?_
        refine j_iload (pc := 1659) C 5 dL_law_1659 rfl ?_
        refine j_iconst (pc := 1661) (v := (3 : Int32)) C dL_law_1661 rfl ?_
        refine j_iadd (pc := 1662) C dL_law_1662 ?_
        refine j_sld (pc := 1663) C hX hbl (by omega) dL_law_1663 h (fun h => ?_)
        refine cs_L_188 (pc := 1664) C ⟨Nat.le_of_ble_eq_true rfl, Nat.le_of_ble_eq_true rfl⟩ ⟨Nat.le_trans (show kc + 5 ≤ kB by omega) hkc.1, Nat.le_trans (show ks + 30 ≤ sB by omega) hkc.2⟩ (Nat.le_of_ble_eq_true rfl) dL_law_1664 h (fun r92 M92 h => ?_)
        refine j_istore (pc := 1667) C [(6, _), (5, _), (0, _), (1, _), (2, _), (3, _), (4, _)] dL_law_1667 (by decide) rfl ?_
        refine j_aload_n (pc := 1669) C 4 dL_law_1669 rfl ?_
        refine cs_L_111 (pc := 1670) C ⟨Nat.le_of_ble_eq_true rfl, Nat.le_of_ble_eq_true rfl⟩ ⟨Nat.le_trans (show kc + 5 ≤ kB by omega) hkc.1, Nat.le_trans (show ks + 30 ≤ sB by omega) hkc.2⟩ (Nat.le_of_ble_eq_true rfl) dL_law_1670 h (fun r93 M93 h => ?_)
        refine j_iload (pc := 1673) C 1 dL_law_1673 rfl ?_
        refine j_icmp_eq (pc := 1675) C 1680 dL_law_1675 (by decide) h (fun h => ?_) (fun h => ?_)
        · refine j_iload (pc := 1680) C 1 dL_law_1680 rfl ?_
          refine j_if_ne (pc := 1682) C 1697 dL_law_1682 (by decide) h (fun h => ?_) (fun h => ?_)
          · refine j_goto (pc := 1697) C 2080 dL_law_1697 (by decide) ?_
            refine j_iinc (pc := 2080) (v := (6 : Int32)) C 6 [(4, _), (6, _), (5, _), (0, _), (1, _), (2, _), (3, _)] dL_law_2080 rfl rfl (by decide) rfl ?_
            refine j_goto (pc := 2083) C 23 dL_law_2083 (by decide) ?_
            exact j_widen (show kc + 5 ≤ kc + 5 by omega) (show ks + 30 ≤ ks + 30 by omega) (j_weak [3, 4, 5, 6, 0] rfl (ih (kc + 5) (ks + 30) _ _ _ _ _ (by omega) (by omega) h))
          · refine j_aload_n (pc := 1685) C 5 dL_law_1685 rfl ?_
            refine j_iconst (pc := 1686) (v := (0 : Int32)) C dL_law_1686 rfl ?_
            refine j_lald (pc := 1687) C dL_law_1687 h (fun h => ?_)
            refine j_iload (pc := 1688) C 0 dL_law_1688 rfl ?_
            refine j_i2l (pc := 1690) C dL_law_1690 ?_
            refine j_lcmp (pc := 1691) C dL_law_1691 ?_
            refine j_if_eq (pc := 1692) C 1697 dL_law_1692 (by decide) h (fun h => ?_) (fun h => ?_)
            · refine j_goto (pc := 1697) C 2080 dL_law_1697 (by decide) ?_
              refine j_iinc (pc := 2080) (v := (6 : Int32)) C 6 [(4, _), (6, _), (5, _), (0, _), (1, _), (2, _), (3, _)] dL_law_2080 rfl rfl (by decide) rfl ?_
              refine j_goto (pc := 2083) C 23 dL_law_2083 (by decide) ?_
              exact j_widen (show kc + 5 ≤ kc + 5 by omega) (show ks + 30 ≤ ks + 30 by omega) (j_weak [3, 4, 5, 6, 0] rfl (ih (kc + 5) (ks + 30) _ _ _ _ _ (by omega) (by omega) h))
            · refine j_iconst (pc := 1695) (v := (0 : Int32)) C dL_law_1695 rfl ?_
              exact j_lawret (pc := 1696) C hbs dL_law_1696 ⟨Nat.le_trans (show kc + 5 ≤ kB by omega) hkc.1, Nat.le_trans (show ks + 30 ≤ sB by omega) hkc.2⟩ (hP _ _ h)
        · refine j_iconst (pc := 1678) (v := (0 : Int32)) C dL_law_1678 rfl ?_
          exact j_lawret (pc := 1679) C hbs dL_law_1679 ⟨Nat.le_trans (show kc + 5 ≤ kB by omega) hkc.1, Nat.le_trans (show ks + 30 ≤ sB by omega) hkc.2⟩ (hP _ _ h)
      rw [if_neg q40_23] at h
      by_cases q40_24 : ((xs x4.toNatClampNeg) &&& (31 : Int32)) = (24 : Int32)
      · rw [if_pos q40_24] at h
        refine j_tsI (pc := 40) (off := 1660) C 1700 dL_law_40 q40_24 (by decide) (by decide) (by decide) (by decide) ?_
        refine j_aload_n (pc := 1700) C 1 dL_law_1700 rfl ?_
        refine j_aload_n (pc := 1701) C 0 dL_law_1701 rfl ?_
        refine j_iload (pc := 1702) C 4 dL_law_1702 rfl ?_
        refine j_iconst (pc := 1704) (v := (1 : Int32)) C dL_law_1704 rfl ?_
        refine j_iadd (pc := 1705) C dL_law_1705 ?_
        refine j_sld (pc := 1706) C hX hbl (by omega) dL_law_1706 h (fun h => ?_)
        refine j_aload_n (pc := 1707) C 3 dL_law_1707 rfl ?_
        refine cs_L_189 (pc := 1708) C ⟨Nat.le_of_ble_eq_true rfl, Nat.le_of_ble_eq_true rfl⟩ ⟨Nat.le_trans (show kc + 2 ≤ kB by omega) hkc.1, Nat.le_trans (show ks + 12 ≤ sB by omega) hkc.2⟩ (Nat.le_of_ble_eq_true rfl) dL_law_1708 h (fun r94 M94 h => ?_)
        refine j_istore (pc := 1711) C [(5, _), (0, _), (1, _), (2, _), (3, _), (4, _)] dL_law_1711 (by decide) rfl ?_
        refine j_aload_n (pc := 1713) C 3 dL_law_1713 rfl ?_
        refine j_aload_n (pc := 1714) C 1 dL_law_1714 rfl ?_
        refine j_iload (pc := 1715) C 5 dL_law_1715 rfl ?_
        refine j_iconst (pc := 1717) (v := (1 : Int32)) C dL_law_1717 rfl ?_
        refine j_iadd (pc := 1718) C dL_law_1718 ?_
        refine j_sld (pc := 1719) C hX hbl (by omega) dL_law_1719 h (fun h => ?_)
        refine cs_L_191 (pc := 1720) C ⟨Nat.le_of_ble_eq_true rfl, Nat.le_of_ble_eq_true rfl⟩ ⟨Nat.le_trans (show kc + 2 ≤ kB by omega) hkc.1, Nat.le_trans (show ks + 12 ≤ sB by omega) hkc.2⟩ (Nat.le_of_ble_eq_true rfl) dL_law_1720 h (fun r95 M95 h => ?_)
        refine j_istore (pc := 1723) C [(6, _), (5, _), (0, _), (1, _), (2, _), (3, _), (4, _)] dL_law_1723 (by decide) rfl ?_
        refine j_aload_n (pc := 1725) C 4 dL_law_1725 rfl ?_
        refine cs_L_111 (pc := 1726) C ⟨Nat.le_of_ble_eq_true rfl, Nat.le_of_ble_eq_true rfl⟩ ⟨Nat.le_trans (show kc + 2 ≤ kB by omega) hkc.1, Nat.le_trans (show ks + 12 ≤ sB by omega) hkc.2⟩ (Nat.le_of_ble_eq_true rfl) dL_law_1726 h (fun r96 M96 h => ?_)
        refine j_iload (pc := 1729) C 1 dL_law_1729 rfl ?_
        refine j_icmp_eq (pc := 1731) C 1736 dL_law_1731 (by decide) h (fun h => ?_) (fun h => ?_)
        · refine j_iload (pc := 1736) C 1 dL_law_1736 rfl ?_
          refine j_if_ne (pc := 1738) C 1753 dL_law_1738 (by decide) h (fun h => ?_) (fun h => ?_)
          · refine j_goto (pc := 1753) C 2080 dL_law_1753 (by decide) ?_
            refine j_iinc (pc := 2080) (v := (6 : Int32)) C 6 [(4, _), (6, _), (5, _), (0, _), (1, _), (2, _), (3, _)] dL_law_2080 rfl rfl (by decide) rfl ?_
            refine j_goto (pc := 2083) C 23 dL_law_2083 (by decide) ?_
            exact j_widen (show kc + 2 ≤ kc + 5 by omega) (show ks + 12 ≤ ks + 30 by omega) (j_weak [3, 4, 5, 6, 0] rfl (ih (kc + 5) (ks + 30) _ _ _ _ _ (by omega) (by omega) h))
          · refine j_aload_n (pc := 1741) C 5 dL_law_1741 rfl ?_
            refine j_iconst (pc := 1742) (v := (0 : Int32)) C dL_law_1742 rfl ?_
            refine j_lald (pc := 1743) C dL_law_1743 h (fun h => ?_)
            refine j_iload (pc := 1744) C 0 dL_law_1744 rfl ?_
            refine j_i2l (pc := 1746) C dL_law_1746 ?_
            refine j_lcmp (pc := 1747) C dL_law_1747 ?_
            refine j_if_eq (pc := 1748) C 1753 dL_law_1748 (by decide) h (fun h => ?_) (fun h => ?_)
            · refine j_goto (pc := 1753) C 2080 dL_law_1753 (by decide) ?_
              refine j_iinc (pc := 2080) (v := (6 : Int32)) C 6 [(4, _), (6, _), (5, _), (0, _), (1, _), (2, _), (3, _)] dL_law_2080 rfl rfl (by decide) rfl ?_
              refine j_goto (pc := 2083) C 23 dL_law_2083 (by decide) ?_
              exact j_widen (show kc + 2 ≤ kc + 5 by omega) (show ks + 12 ≤ ks + 30 by omega) (j_weak [3, 4, 5, 6, 0] rfl (ih (kc + 5) (ks + 30) _ _ _ _ _ (by omega) (by omega) h))
            · refine j_iconst (pc := 1751) (v := (0 : Int32)) C dL_law_1751 rfl ?_
              exact j_lawret (pc := 1752) C hbs dL_law_1752 ⟨Nat.le_trans (show kc + 2 ≤ kB by omega) hkc.1, Nat.le_trans (show ks + 12 ≤ sB by omega) hkc.2⟩ (hP _ _ h)
        · refine j_iconst (pc := 1734) (v := (0 : Int32)) C dL_law_1734 rfl ?_
          exact j_lawret (pc := 1735) C hbs dL_law_1735 ⟨Nat.le_trans (show kc + 2 ≤ kB by omega) hkc.1, Nat.le_trans (show ks + 12 ≤ sB by omega) hkc.2⟩ (hP _ _ h)
      rw [if_neg q40_24] at h
      by_cases q40_25 : ((xs x4.toNatClampNeg) &&& (31 : Int32)) = (25 : Int32)
      · rw [if_pos q40_25] at h
        refine j_tsI (pc := 40) (off := 1716) C 1756 dL_law_40 q40_25 (by decide) (by decide) (by decide) (by decide) ?_
        refine j_aload_n (pc := 1756) C 1 dL_law_1756 rfl ?_
        refine j_aload_n (pc := 1757) C 0 dL_law_1757 rfl ?_
        refine j_iload (pc := 1758) C 4 dL_law_1758 rfl ?_
        refine j_iconst (pc := 1760) (v := (1 : Int32)) C dL_law_1760 rfl ?_
        refine j_iadd (pc := 1761) C dL_law_1761 ?_
        refine j_sld (pc := 1762) C hX hbl (by omega) dL_law_1762 h (fun h => ?_)
        refine j_aload_n (pc := 1763) C 0 dL_law_1763 rfl ?_
        refine j_iload (pc := 1764) C 4 dL_law_1764 rfl ?_
        refine j_iconst (pc := 1766) (v := (2 : Int32)) C dL_law_1766 rfl ?_
        refine j_iadd (pc := 1767) C dL_law_1767 ?_
        refine j_sld (pc := 1768) C hX hbl (by omega) dL_law_1768 h (fun h => ?_)
        refine j_aload_n (pc := 1769) C 3 dL_law_1769 rfl ?_
        refine cs_L_192 (pc := 1770) C ⟨Nat.le_of_ble_eq_true rfl, Nat.le_of_ble_eq_true rfl⟩ ⟨Nat.le_trans (show kc + 3 ≤ kB by omega) hkc.1, Nat.le_trans (show ks + 18 ≤ sB by omega) hkc.2⟩ (Nat.le_of_ble_eq_true rfl) dL_law_1770 h (fun r97 M97 h => ?_)
        refine j_istore (pc := 1773) C [(5, _), (0, _), (1, _), (2, _), (3, _), (4, _)] dL_law_1773 (by decide) rfl ?_
        refine j_aload_n (pc := 1775) C 3 dL_law_1775 rfl ?_
        refine j_aload_n (pc := 1776) C 1 dL_law_1776 rfl ?_
        refine j_iload (pc := 1777) C 5 dL_law_1777 rfl ?_
        refine j_iconst (pc := 1779) (v := (1 : Int32)) C dL_law_1779 rfl ?_
        refine j_iadd (pc := 1780) C dL_law_1780 ?_
        refine j_sld (pc := 1781) C hX hbl (by omega) dL_law_1781 h (fun h => ?_)
        refine j_aload_n (pc := 1782) C 1 dL_law_1782 rfl ?_
        refine j_iload (pc := 1783) C 5 dL_law_1783 rfl ?_
        refine j_iconst (pc := 1785) (v := (2 : Int32)) C dL_law_1785 rfl ?_
        refine j_iadd (pc := 1786) C dL_law_1786 ?_
        refine j_sld (pc := 1787) C hX hbl (by omega) dL_law_1787 h (fun h => ?_)
        refine cs_L_194 (pc := 1788) C ⟨Nat.le_of_ble_eq_true rfl, Nat.le_of_ble_eq_true rfl⟩ ⟨Nat.le_trans (show kc + 3 ≤ kB by omega) hkc.1, Nat.le_trans (show ks + 18 ≤ sB by omega) hkc.2⟩ (Nat.le_of_ble_eq_true rfl) dL_law_1788 h (fun r98 M98 h => ?_)
        refine j_istore (pc := 1791) C [(6, _), (5, _), (0, _), (1, _), (2, _), (3, _), (4, _)] dL_law_1791 (by decide) rfl ?_
        refine j_aload_n (pc := 1793) C 4 dL_law_1793 rfl ?_
        refine cs_L_111 (pc := 1794) C ⟨Nat.le_of_ble_eq_true rfl, Nat.le_of_ble_eq_true rfl⟩ ⟨Nat.le_trans (show kc + 3 ≤ kB by omega) hkc.1, Nat.le_trans (show ks + 18 ≤ sB by omega) hkc.2⟩ (Nat.le_of_ble_eq_true rfl) dL_law_1794 h (fun r99 M99 h => ?_)
        refine j_iload (pc := 1797) C 1 dL_law_1797 rfl ?_
        refine j_icmp_eq (pc := 1799) C 1804 dL_law_1799 (by decide) h (fun h => ?_) (fun h => ?_)
        · refine j_iload (pc := 1804) C 1 dL_law_1804 rfl ?_
          refine j_if_ne (pc := 1806) C 1821 dL_law_1806 (by decide) h (fun h => ?_) (fun h => ?_)
          · refine j_goto (pc := 1821) C 2080 dL_law_1821 (by decide) ?_
            refine j_iinc (pc := 2080) (v := (6 : Int32)) C 6 [(4, _), (6, _), (5, _), (0, _), (1, _), (2, _), (3, _)] dL_law_2080 rfl rfl (by decide) rfl ?_
            refine j_goto (pc := 2083) C 23 dL_law_2083 (by decide) ?_
            exact j_widen (show kc + 3 ≤ kc + 5 by omega) (show ks + 18 ≤ ks + 30 by omega) (j_weak [3, 4, 5, 6, 0] rfl (ih (kc + 5) (ks + 30) _ _ _ _ _ (by omega) (by omega) h))
          · refine j_aload_n (pc := 1809) C 5 dL_law_1809 rfl ?_
            refine j_iconst (pc := 1810) (v := (0 : Int32)) C dL_law_1810 rfl ?_
            refine j_lald (pc := 1811) C dL_law_1811 h (fun h => ?_)
            refine j_iload (pc := 1812) C 0 dL_law_1812 rfl ?_
            refine j_i2l (pc := 1814) C dL_law_1814 ?_
            refine j_lcmp (pc := 1815) C dL_law_1815 ?_
            refine j_if_eq (pc := 1816) C 1821 dL_law_1816 (by decide) h (fun h => ?_) (fun h => ?_)
            · refine j_goto (pc := 1821) C 2080 dL_law_1821 (by decide) ?_
              refine j_iinc (pc := 2080) (v := (6 : Int32)) C 6 [(4, _), (6, _), (5, _), (0, _), (1, _), (2, _), (3, _)] dL_law_2080 rfl rfl (by decide) rfl ?_
              refine j_goto (pc := 2083) C 23 dL_law_2083 (by decide) ?_
              exact j_widen (show kc + 3 ≤ kc + 5 by omega) (show ks + 18 ≤ ks + 30 by omega) (j_weak [3, 4, 5, 6, 0] rfl (ih (kc + 5) (ks + 30) _ _ _ _ _ (by omega) (by omega) h))
            · refine j_iconst (pc := 1819) (v := (0 : Int32)) C dL_law_1819 rfl ?_
              exact j_lawret (pc := 1820) C hbs dL_law_1820 ⟨Nat.le_trans (show kc + 3 ≤ kB by omega) hkc.1, Nat.le_trans (show ks + 18 ≤ sB by omega) hkc.2⟩ (hP _ _ h)
        · refine j_iconst (pc := 1802) (v := (0 : Int32)) C dL_law_1802 rfl ?_
          exact j_lawret (pc := 1803) C hbs dL_law_1803 ⟨Nat.le_trans (show kc + 3 ≤ kB by omega) hkc.1, Nat.le_trans (show ks + 18 ≤ sB by omega) hkc.2⟩ (hP _ _ h)
      rw [if_neg q40_25] at h
      by_cases q40_26 : ((xs x4.toNatClampNeg) &&& (31 : Int32)) = (26 : Int32)
      · rw [if_pos q40_26] at h
        refine j_tsI (pc := 40) (off := 1784) C 1824 dL_law_40 q40_26 (by decide) (by decide) (by decide) (by decide) ?_
        refine j_aload_n (pc := 1824) C 1 dL_law_1824 rfl ?_
        refine j_aload_n (pc := 1825) C 0 dL_law_1825 rfl ?_
        refine j_iload (pc := 1826) C 4 dL_law_1826 rfl ?_
        refine j_iconst (pc := 1828) (v := (1 : Int32)) C dL_law_1828 rfl ?_
        refine j_iadd (pc := 1829) C dL_law_1829 ?_
        refine j_sld (pc := 1830) C hX hbl (by omega) dL_law_1830 h (fun h => ?_)
        refine j_aload_n (pc := 1831) C 3 dL_law_1831 rfl ?_
        refine cs_L_195 (pc := 1832) C ⟨Nat.le_of_ble_eq_true rfl, Nat.le_of_ble_eq_true rfl⟩ ⟨Nat.le_trans (show kc + 1 ≤ kB by omega) hkc.1, Nat.le_trans (show ks + 6 ≤ sB by omega) hkc.2⟩ (Nat.le_of_ble_eq_true rfl) dL_law_1832 h (fun r100 M100 h => ?_)
        refine j_istore (pc := 1835) C [(5, _), (0, _), (1, _), (2, _), (3, _), (4, _)] dL_law_1835 (by decide) rfl ?_
        refine j_aload_n (pc := 1837) C 3 dL_law_1837 rfl ?_
        refine j_aload_n (pc := 1838) C 1 dL_law_1838 rfl ?_
        refine j_iload (pc := 1839) C 5 dL_law_1839 rfl ?_
        refine j_iconst (pc := 1841) (v := (1 : Int32)) C dL_law_1841 rfl ?_
        refine j_iadd (pc := 1842) C dL_law_1842 ?_
        refine j_sld (pc := 1843) C hX hbl (by omega) dL_law_1843 h (fun h => ?_)
        refine cs_L_197 (pc := 1844) C ⟨Nat.le_of_ble_eq_true rfl, Nat.le_of_ble_eq_true rfl⟩ ⟨Nat.le_trans (show kc + 1 ≤ kB by omega) hkc.1, Nat.le_trans (show ks + 6 ≤ sB by omega) hkc.2⟩ (Nat.le_of_ble_eq_true rfl) dL_law_1844 h (fun r101 M101 h => ?_)
        refine j_istore (pc := 1847) C [(6, _), (5, _), (0, _), (1, _), (2, _), (3, _), (4, _)] dL_law_1847 (by decide) rfl ?_
        refine j_aload_n (pc := 1849) C 4 dL_law_1849 rfl ?_
        refine cs_L_111 (pc := 1850) C ⟨Nat.le_of_ble_eq_true rfl, Nat.le_of_ble_eq_true rfl⟩ ⟨Nat.le_trans (show kc + 1 ≤ kB by omega) hkc.1, Nat.le_trans (show ks + 6 ≤ sB by omega) hkc.2⟩ (Nat.le_of_ble_eq_true rfl) dL_law_1850 h (fun r102 M102 h => ?_)
        refine j_iload (pc := 1853) C 1 dL_law_1853 rfl ?_
        refine j_icmp_eq (pc := 1855) C 1860 dL_law_1855 (by decide) h (fun h => ?_) (fun h => ?_)
        · refine j_iload (pc := 1860) C 1 dL_law_1860 rfl ?_
          refine j_if_ne (pc := 1862) C 1877 dL_law_1862 (by decide) h (fun h => ?_) (fun h => ?_)
          · refine j_goto (pc := 1877) C 2080 dL_law_1877 (by decide) ?_
            refine j_iinc (pc := 2080) (v := (6 : Int32)) C 6 [(4, _), (6, _), (5, _), (0, _), (1, _), (2, _), (3, _)] dL_law_2080 rfl rfl (by decide) rfl ?_
            refine j_goto (pc := 2083) C 23 dL_law_2083 (by decide) ?_
            exact j_widen (show kc + 1 ≤ kc + 5 by omega) (show ks + 6 ≤ ks + 30 by omega) (j_weak [3, 4, 5, 6, 0] rfl (ih (kc + 5) (ks + 30) _ _ _ _ _ (by omega) (by omega) h))
          · refine j_aload_n (pc := 1865) C 5 dL_law_1865 rfl ?_
            refine j_iconst (pc := 1866) (v := (0 : Int32)) C dL_law_1866 rfl ?_
            refine j_lald (pc := 1867) C dL_law_1867 h (fun h => ?_)
            refine j_iload (pc := 1868) C 0 dL_law_1868 rfl ?_
            refine j_i2l (pc := 1870) C dL_law_1870 ?_
            refine j_lcmp (pc := 1871) C dL_law_1871 ?_
            refine j_if_eq (pc := 1872) C 1877 dL_law_1872 (by decide) h (fun h => ?_) (fun h => ?_)
            · refine j_goto (pc := 1877) C 2080 dL_law_1877 (by decide) ?_
              refine j_iinc (pc := 2080) (v := (6 : Int32)) C 6 [(4, _), (6, _), (5, _), (0, _), (1, _), (2, _), (3, _)] dL_law_2080 rfl rfl (by decide) rfl ?_
              refine j_goto (pc := 2083) C 23 dL_law_2083 (by decide) ?_
              exact j_widen (show kc + 1 ≤ kc + 5 by omega) (show ks + 6 ≤ ks + 30 by omega) (j_weak [3, 4, 5, 6, 0] rfl (ih (kc + 5) (ks + 30) _ _ _ _ _ (by omega) (by omega) h))
            · refine j_iconst (pc := 1875) (v := (0 : Int32)) C dL_law_1875 rfl ?_
              exact j_lawret (pc := 1876) C hbs dL_law_1876 ⟨Nat.le_trans (show kc + 1 ≤ kB by omega) hkc.1, Nat.le_trans (show ks + 6 ≤ sB by omega) hkc.2⟩ (hP _ _ h)
        · refine j_iconst (pc := 1858) (v := (0 : Int32)) C dL_law_1858 rfl ?_
          exact j_lawret (pc := 1859) C hbs dL_law_1859 ⟨Nat.le_trans (show kc + 1 ≤ kB by omega) hkc.1, Nat.le_trans (show ks + 6 ≤ sB by omega) hkc.2⟩ (hP _ _ h)
      rw [if_neg q40_26] at h
      by_cases q40_27 : ((xs x4.toNatClampNeg) &&& (31 : Int32)) = (27 : Int32)
      · rw [if_pos q40_27] at h
        refine j_tsI (pc := 40) (off := 1840) C 1880 dL_law_40 q40_27 (by decide) (by decide) (by decide) (by decide) ?_
        refine j_aload_n (pc := 1880) C 1 dL_law_1880 rfl ?_
        refine j_aload_n (pc := 1881) C 0 dL_law_1881 rfl ?_
        refine j_iload (pc := 1882) C 4 dL_law_1882 rfl ?_
        refine j_iconst (pc := 1884) (v := (1 : Int32)) C dL_law_1884 rfl ?_
        refine j_iadd (pc := 1885) C dL_law_1885 ?_
        refine j_sld (pc := 1886) C hX hbl (by omega) dL_law_1886 h (fun h => ?_)
        refine j_aload_n (pc := 1887) C 0 dL_law_1887 rfl ?_
        refine j_iload (pc := 1888) C 4 dL_law_1888 rfl ?_
        refine j_iconst (pc := 1890) (v := (2 : Int32)) C dL_law_1890 rfl ?_
        refine j_iadd (pc := 1891) C dL_law_1891 ?_
        refine j_sld (pc := 1892) C hX hbl (by omega) dL_law_1892 h (fun h => ?_)
        refine j_aload_n (pc := 1893) C 3 dL_law_1893 rfl ?_
        refine cs_L_198 (pc := 1894) C ⟨Nat.le_of_ble_eq_true rfl, Nat.le_of_ble_eq_true rfl⟩ ⟨Nat.le_trans (show kc + 2 ≤ kB by omega) hkc.1, Nat.le_trans (show ks + 12 ≤ sB by omega) hkc.2⟩ (Nat.le_of_ble_eq_true rfl) dL_law_1894 h (fun r103 M103 h => ?_)
        refine j_istore (pc := 1897) C [(5, _), (0, _), (1, _), (2, _), (3, _), (4, _)] dL_law_1897 (by decide) rfl ?_
        refine j_aload_n (pc := 1899) C 3 dL_law_1899 rfl ?_
        refine j_aload_n (pc := 1900) C 1 dL_law_1900 rfl ?_
        refine j_iload (pc := 1901) C 5 dL_law_1901 rfl ?_
        refine j_iconst (pc := 1903) (v := (1 : Int32)) C dL_law_1903 rfl ?_
        refine j_iadd (pc := 1904) C dL_law_1904 ?_
        refine j_sld (pc := 1905) C hX hbl (by omega) dL_law_1905 h (fun h => ?_)
        refine j_aload_n (pc := 1906) C 1 dL_law_1906 rfl ?_
        refine j_iload (pc := 1907) C 5 dL_law_1907 rfl ?_
        refine j_iconst (pc := 1909) (v := (2 : Int32)) C dL_law_1909 rfl ?_
        refine j_iadd (pc := 1910) C dL_law_1910 ?_
        refine j_sld (pc := 1911) C hX hbl (by omega) dL_law_1911 h (fun h => ?_)
        refine cs_L_200 (pc := 1912) C ⟨Nat.le_of_ble_eq_true rfl, Nat.le_of_ble_eq_true rfl⟩ ⟨Nat.le_trans (show kc + 2 ≤ kB by omega) hkc.1, Nat.le_trans (show ks + 12 ≤ sB by omega) hkc.2⟩ (Nat.le_of_ble_eq_true rfl) dL_law_1912 h (fun r104 M104 h => ?_)
        refine j_istore (pc := 1915) C [(6, _), (5, _), (0, _), (1, _), (2, _), (3, _), (4, _)] dL_law_1915 (by decide) rfl ?_
        refine j_aload_n (pc := 1917) C 4 dL_law_1917 rfl ?_
        refine cs_L_111 (pc := 1918) C ⟨Nat.le_of_ble_eq_true rfl, Nat.le_of_ble_eq_true rfl⟩ ⟨Nat.le_trans (show kc + 2 ≤ kB by omega) hkc.1, Nat.le_trans (show ks + 12 ≤ sB by omega) hkc.2⟩ (Nat.le_of_ble_eq_true rfl) dL_law_1918 h (fun r105 M105 h => ?_)
        refine j_iload (pc := 1921) C 1 dL_law_1921 rfl ?_
        refine j_icmp_eq (pc := 1923) C 1928 dL_law_1923 (by decide) h (fun h => ?_) (fun h => ?_)
        · refine j_iload (pc := 1928) C 1 dL_law_1928 rfl ?_
          refine j_if_ne (pc := 1930) C 1945 dL_law_1930 (by decide) h (fun h => ?_) (fun h => ?_)
          · refine j_goto (pc := 1945) C 2080 dL_law_1945 (by decide) ?_
            refine j_iinc (pc := 2080) (v := (6 : Int32)) C 6 [(4, _), (6, _), (5, _), (0, _), (1, _), (2, _), (3, _)] dL_law_2080 rfl rfl (by decide) rfl ?_
            refine j_goto (pc := 2083) C 23 dL_law_2083 (by decide) ?_
            exact j_widen (show kc + 2 ≤ kc + 5 by omega) (show ks + 12 ≤ ks + 30 by omega) (j_weak [3, 4, 5, 6, 0] rfl (ih (kc + 5) (ks + 30) _ _ _ _ _ (by omega) (by omega) h))
          · refine j_aload_n (pc := 1933) C 5 dL_law_1933 rfl ?_
            refine j_iconst (pc := 1934) (v := (0 : Int32)) C dL_law_1934 rfl ?_
            refine j_lald (pc := 1935) C dL_law_1935 h (fun h => ?_)
            refine j_iload (pc := 1936) C 0 dL_law_1936 rfl ?_
            refine j_i2l (pc := 1938) C dL_law_1938 ?_
            refine j_lcmp (pc := 1939) C dL_law_1939 ?_
            refine j_if_eq (pc := 1940) C 1945 dL_law_1940 (by decide) h (fun h => ?_) (fun h => ?_)
            · refine j_goto (pc := 1945) C 2080 dL_law_1945 (by decide) ?_
              refine j_iinc (pc := 2080) (v := (6 : Int32)) C 6 [(4, _), (6, _), (5, _), (0, _), (1, _), (2, _), (3, _)] dL_law_2080 rfl rfl (by decide) rfl ?_
              refine j_goto (pc := 2083) C 23 dL_law_2083 (by decide) ?_
              exact j_widen (show kc + 2 ≤ kc + 5 by omega) (show ks + 12 ≤ ks + 30 by omega) (j_weak [3, 4, 5, 6, 0] rfl (ih (kc + 5) (ks + 30) _ _ _ _ _ (by omega) (by omega) h))
            · refine j_iconst (pc := 1943) (v := (0 : Int32)) C dL_law_1943 rfl ?_
              exact j_lawret (pc := 1944) C hbs dL_law_1944 ⟨Nat.le_trans (show kc + 2 ≤ kB by omega) hkc.1, Nat.le_trans (show ks + 12 ≤ sB by omega) hkc.2⟩ (hP _ _ h)
        · refine j_iconst (pc := 1926) (v := (0 : Int32)) C dL_law_1926 rfl ?_
          exact j_lawret (pc := 1927) C hbs dL_law_1927 ⟨Nat.le_trans (show kc + 2 ≤ kB by omega) hkc.1, Nat.le_trans (show ks + 12 ≤ sB by omega) hkc.2⟩ (hP _ _ h)
      rw [if_neg q40_27] at h
      by_cases q40_28 : ((xs x4.toNatClampNeg) &&& (31 : Int32)) = (28 : Int32)
      · rw [if_pos q40_28] at h
        refine j_tsI (pc := 40) (off := 1908) C 1948 dL_law_40 q40_28 (by decide) (by decide) (by decide) (by decide) ?_
        refine j_aload_n (pc := 1948) C 1 dL_law_1948 rfl ?_
        refine cs_L_201 (pc := 1949) C ⟨Nat.le_of_ble_eq_true rfl, Nat.le_of_ble_eq_true rfl⟩ ⟨Nat.le_trans (show kc + 0 ≤ kB by omega) hkc.1, Nat.le_trans (show ks + 0 ≤ sB by omega) hkc.2⟩ (Nat.le_of_ble_eq_true rfl) dL_law_1949 h (fun r106 M106 h => ?_)
        refine j_aload_n (pc := 1952) C 2 dL_law_1952 rfl ?_
        refine cs_L_204 (pc := 1953) C ⟨Nat.le_of_ble_eq_true rfl, Nat.le_of_ble_eq_true rfl⟩ ⟨Nat.le_trans (show kc + 0 ≤ kB by omega) hkc.1, Nat.le_trans (show ks + 0 ≤ sB by omega) hkc.2⟩ (Nat.le_of_ble_eq_true rfl) dL_law_1953 h (fun r107 M107 h => ?_)
        refine j_icmp_eq (pc := 1956) C 2080 dL_law_1956 (by decide) h (fun h => ?_) (fun h => ?_)
        · refine j_iinc (pc := 2080) (v := (6 : Int32)) C 4 [(4, _), (0, _), (1, _), (2, _), (3, _)] dL_law_2080 rfl rfl (by decide) rfl ?_
          refine j_goto (pc := 2083) C 23 dL_law_2083 (by decide) ?_
          exact j_widen (show kc + 0 ≤ kc + 5 by omega) (show ks + 0 ≤ ks + 30 by omega) (j_weak [1, 2, 3, 4, 0] rfl (ih (kc + 5) (ks + 30) _ _ _ _ _ (by omega) (by omega) h))
        · refine j_iconst (pc := 1959) (v := (0 : Int32)) C dL_law_1959 rfl ?_
          exact j_lawret (pc := 1960) C hbs dL_law_1960 ⟨Nat.le_trans (show kc + 0 ≤ kB by omega) hkc.1, Nat.le_trans (show ks + 0 ≤ sB by omega) hkc.2⟩ (hP _ _ h)
      rw [if_neg q40_28] at h
      by_cases q40_29 : ((xs x4.toNatClampNeg) &&& (31 : Int32)) = (29 : Int32)
      · rw [if_pos q40_29] at h
        refine j_tsI (pc := 40) (off := 1921) C 1961 dL_law_40 q40_29 (by decide) (by decide) (by decide) (by decide) ?_
        refine j_aload_n (pc := 1961) C 1 dL_law_1961 rfl ?_
        refine j_aload_n (pc := 1962) C 0 dL_law_1962 rfl ?_
        refine j_iload (pc := 1963) C 4 dL_law_1963 rfl ?_
        refine j_iconst (pc := 1965) (v := (1 : Int32)) C dL_law_1965 rfl ?_
        refine j_iadd (pc := 1966) C dL_law_1966 ?_
        refine j_sld (pc := 1967) C hX hbl (by omega) dL_law_1967 h (fun h => ?_)
        refine j_aload_n (pc := 1968) C 3 dL_law_1968 rfl ?_
        refine cs_L_205 (pc := 1969) C ⟨Nat.le_of_ble_eq_true rfl, Nat.le_of_ble_eq_true rfl⟩ ⟨Nat.le_trans (show kc + 1 ≤ kB by omega) hkc.1, Nat.le_trans (show ks + 6 ≤ sB by omega) hkc.2⟩ (Nat.le_of_ble_eq_true rfl) dL_law_1969 h (fun r108 M108 h => ?_)
        refine j_istore (pc := 1972) C [(5, _), (0, _), (1, _), (2, _), (3, _), (4, _)] dL_law_1972 (by decide) rfl ?_
        refine j_aload_n (pc := 1974) C 3 dL_law_1974 rfl ?_
        refine j_aload_n (pc := 1975) C 1 dL_law_1975 rfl ?_
        refine j_iload (pc := 1976) C 5 dL_law_1976 rfl ?_
        refine j_iconst (pc := 1978) (v := (1 : Int32)) C dL_law_1978 rfl ?_
        refine j_iadd (pc := 1979) C dL_law_1979 ?_
        refine j_sld (pc := 1980) C hX hbl (by omega) dL_law_1980 h (fun h => ?_)
        refine cs_L_207 (pc := 1981) C ⟨Nat.le_of_ble_eq_true rfl, Nat.le_of_ble_eq_true rfl⟩ ⟨Nat.le_trans (show kc + 1 ≤ kB by omega) hkc.1, Nat.le_trans (show ks + 6 ≤ sB by omega) hkc.2⟩ (Nat.le_of_ble_eq_true rfl) dL_law_1981 h (fun r109 M109 h => ?_)
        refine j_istore (pc := 1984) C [(6, _), (5, _), (0, _), (1, _), (2, _), (3, _), (4, _)] dL_law_1984 (by decide) rfl ?_
        refine j_aload_n (pc := 1986) C 4 dL_law_1986 rfl ?_
        refine cs_L_111 (pc := 1987) C ⟨Nat.le_of_ble_eq_true rfl, Nat.le_of_ble_eq_true rfl⟩ ⟨Nat.le_trans (show kc + 1 ≤ kB by omega) hkc.1, Nat.le_trans (show ks + 6 ≤ sB by omega) hkc.2⟩ (Nat.le_of_ble_eq_true rfl) dL_law_1987 h (fun r110 M110 h => ?_)
        refine j_iload (pc := 1990) C 1 dL_law_1990 rfl ?_
        refine j_icmp_eq (pc := 1992) C 1997 dL_law_1992 (by decide) h (fun h => ?_) (fun h => ?_)
        · refine j_iload (pc := 1997) C 1 dL_law_1997 rfl ?_
          refine j_if_ne (pc := 1999) C 2021 dL_law_1999 (by decide) h (fun h => ?_) (fun h => ?_)
          · refine j_goto (pc := 2021) C 2080 dL_law_2021 (by decide) ?_
            refine j_iinc (pc := 2080) (v := (6 : Int32)) C 6 [(4, _), (6, _), (5, _), (0, _), (1, _), (2, _), (3, _)] dL_law_2080 rfl rfl (by decide) rfl ?_
            refine j_goto (pc := 2083) C 23 dL_law_2083 (by decide) ?_
            exact j_widen (show kc + 1 ≤ kc + 5 by omega) (show ks + 6 ≤ ks + 30 by omega) (j_weak [3, 4, 5, 6, 0] rfl (ih (kc + 5) (ks + 30) _ _ _ _ _ (by omega) (by omega) h))
          · refine j_aload_n (pc := 2002) C 5 dL_law_2002 rfl ?_
            refine j_iconst (pc := 2003) (v := (0 : Int32)) C dL_law_2003 rfl ?_
            refine j_lald (pc := 2004) C dL_law_2004 h (fun h => ?_)
            refine j_iload (pc := 2005) C 0 dL_law_2005 rfl ?_
            refine j_if_eq (pc := 2007) C 2014 dL_law_2007 (by decide) h (fun h => ?_) (fun h => ?_)
            · refine j_lconst (pc := 2014) (v := (0 : Int64)) C dL_law_2014 rfl ?_
              refine j_lcmp (pc := 2015) C dL_law_2015 ?_
              refine j_if_eq (pc := 2016) C 2021 dL_law_2016 (by decide) h (fun h => ?_) (fun h => ?_)
              · refine j_goto (pc := 2021) C 2080 dL_law_2021 (by decide) ?_
                refine j_iinc (pc := 2080) (v := (6 : Int32)) C 6 [(4, _), (6, _), (5, _), (0, _), (1, _), (2, _), (3, _)] dL_law_2080 rfl rfl (by decide) rfl ?_
                refine j_goto (pc := 2083) C 23 dL_law_2083 (by decide) ?_
                exact j_widen (show kc + 1 ≤ kc + 5 by omega) (show ks + 6 ≤ ks + 30 by omega) (j_weak [3, 4, 5, 6, 0] rfl (ih (kc + 5) (ks + 30) _ _ _ _ _ (by omega) (by omega) h))
              · refine j_iconst (pc := 2019) (v := (0 : Int32)) C dL_law_2019 rfl ?_
                exact j_lawret (pc := 2020) C hbs dL_law_2020 ⟨Nat.le_trans (show kc + 1 ≤ kB by omega) hkc.1, Nat.le_trans (show ks + 6 ≤ sB by omega) hkc.2⟩ (hP _ _ h)
            · refine j_lconst (pc := 2010) (v := (1 : Int64)) C dL_law_2010 rfl ?_
              refine j_goto (pc := 2011) C 2015 dL_law_2011 (by decide) ?_
              refine j_lcmp (pc := 2015) C dL_law_2015 ?_
              refine j_if_eq (pc := 2016) C 2021 dL_law_2016 (by decide) h (fun h => ?_) (fun h => ?_)
              · refine j_goto (pc := 2021) C 2080 dL_law_2021 (by decide) ?_
                refine j_iinc (pc := 2080) (v := (6 : Int32)) C 6 [(4, _), (6, _), (5, _), (0, _), (1, _), (2, _), (3, _)] dL_law_2080 rfl rfl (by decide) rfl ?_
                refine j_goto (pc := 2083) C 23 dL_law_2083 (by decide) ?_
                exact j_widen (show kc + 1 ≤ kc + 5 by omega) (show ks + 6 ≤ ks + 30 by omega) (j_weak [3, 4, 5, 6, 0] rfl (ih (kc + 5) (ks + 30) _ _ _ _ _ (by omega) (by omega) h))
              · refine j_iconst (pc := 2019) (v := (0 : Int32)) C dL_law_2019 rfl ?_
                exact j_lawret (pc := 2020) C hbs dL_law_2020 ⟨Nat.le_trans (show kc + 1 ≤ kB by omega) hkc.1, Nat.le_trans (show ks + 6 ≤ sB by omega) hkc.2⟩ (hP _ _ h)
        · refine j_iconst (pc := 1995) (v := (0 : Int32)) C dL_law_1995 rfl ?_
          exact j_lawret (pc := 1996) C hbs dL_law_1996 ⟨Nat.le_trans (show kc + 1 ≤ kB by omega) hkc.1, Nat.le_trans (show ks + 6 ≤ sB by omega) hkc.2⟩ (hP _ _ h)
      rw [if_neg q40_29] at h
      by_cases q40_30 : ((xs x4.toNatClampNeg) &&& (31 : Int32)) = (30 : Int32)
      · rw [if_pos q40_30] at h
        refine j_tsI (pc := 40) (off := 1984) C 2024 dL_law_40 q40_30 (by decide) (by decide) (by decide) (by decide) ?_
        refine j_aload_n (pc := 2024) C 1 dL_law_2024 rfl ?_
        refine j_aload_n (pc := 2025) C 0 dL_law_2025 rfl ?_
        refine j_iload (pc := 2026) C 4 dL_law_2026 rfl ?_
        refine j_iconst (pc := 2028) (v := (1 : Int32)) C dL_law_2028 rfl ?_
        refine j_iadd (pc := 2029) C dL_law_2029 ?_
        refine j_sld (pc := 2030) C hX hbl (by omega) dL_law_2030 h (fun h => ?_)
        refine j_aload_n (pc := 2031) C 3 dL_law_2031 rfl ?_
        refine cs_L_208 (pc := 2032) C ⟨Nat.le_of_ble_eq_true rfl, Nat.le_of_ble_eq_true rfl⟩ ⟨Nat.le_trans (show kc + 2 ≤ kB by omega) hkc.1, Nat.le_trans (show ks + 12 ≤ sB by omega) hkc.2⟩ (Nat.le_of_ble_eq_true rfl) dL_law_2032 h (fun r111 M111 h => ?_)
        refine j_istore (pc := 2035) C [(5, _), (0, _), (1, _), (2, _), (3, _), (4, _)] dL_law_2035 (by decide) rfl ?_
        refine j_aload_n (pc := 2037) C 3 dL_law_2037 rfl ?_
        refine j_aload_n (pc := 2038) C 1 dL_law_2038 rfl ?_
        refine j_iload (pc := 2039) C 5 dL_law_2039 rfl ?_
        refine j_iconst (pc := 2041) (v := (1 : Int32)) C dL_law_2041 rfl ?_
        refine j_iadd (pc := 2042) C dL_law_2042 ?_
        refine j_sld (pc := 2043) C hX hbl (by omega) dL_law_2043 h (fun h => ?_)
        refine cs_L_210 (pc := 2044) C ⟨Nat.le_of_ble_eq_true rfl, Nat.le_of_ble_eq_true rfl⟩ ⟨Nat.le_trans (show kc + 2 ≤ kB by omega) hkc.1, Nat.le_trans (show ks + 12 ≤ sB by omega) hkc.2⟩ (Nat.le_of_ble_eq_true rfl) dL_law_2044 h (fun r112 M112 h => ?_)
        refine j_istore (pc := 2047) C [(6, _), (5, _), (0, _), (1, _), (2, _), (3, _), (4, _)] dL_law_2047 (by decide) rfl ?_
        refine j_aload_n (pc := 2049) C 4 dL_law_2049 rfl ?_
        refine cs_L_111 (pc := 2050) C ⟨Nat.le_of_ble_eq_true rfl, Nat.le_of_ble_eq_true rfl⟩ ⟨Nat.le_trans (show kc + 2 ≤ kB by omega) hkc.1, Nat.le_trans (show ks + 12 ≤ sB by omega) hkc.2⟩ (Nat.le_of_ble_eq_true rfl) dL_law_2050 h (fun r113 M113 h => ?_)
        refine j_iload (pc := 2053) C 1 dL_law_2053 rfl ?_
        refine j_icmp_eq (pc := 2055) C 2060 dL_law_2055 (by decide) h (fun h => ?_) (fun h => ?_)
        · refine j_iload (pc := 2060) C 1 dL_law_2060 rfl ?_
          refine j_if_ne (pc := 2062) C 2077 dL_law_2062 (by decide) h (fun h => ?_) (fun h => ?_)
          · refine j_goto (pc := 2077) C 2080 dL_law_2077 (by decide) ?_
            refine j_iinc (pc := 2080) (v := (6 : Int32)) C 6 [(4, _), (6, _), (5, _), (0, _), (1, _), (2, _), (3, _)] dL_law_2080 rfl rfl (by decide) rfl ?_
            refine j_goto (pc := 2083) C 23 dL_law_2083 (by decide) ?_
            exact j_widen (show kc + 2 ≤ kc + 5 by omega) (show ks + 12 ≤ ks + 30 by omega) (j_weak [3, 4, 5, 6, 0] rfl (ih (kc + 5) (ks + 30) _ _ _ _ _ (by omega) (by omega) h))
          · refine j_aload_n (pc := 2065) C 5 dL_law_2065 rfl ?_
            refine j_iconst (pc := 2066) (v := (0 : Int32)) C dL_law_2066 rfl ?_
            refine j_lald (pc := 2067) C dL_law_2067 h (fun h => ?_)
            refine j_iload (pc := 2068) C 0 dL_law_2068 rfl ?_
            refine j_i2l (pc := 2070) C dL_law_2070 ?_
            refine j_lcmp (pc := 2071) C dL_law_2071 ?_
            refine j_if_eq (pc := 2072) C 2077 dL_law_2072 (by decide) h (fun h => ?_) (fun h => ?_)
            · refine j_goto (pc := 2077) C 2080 dL_law_2077 (by decide) ?_
              refine j_iinc (pc := 2080) (v := (6 : Int32)) C 6 [(4, _), (6, _), (5, _), (0, _), (1, _), (2, _), (3, _)] dL_law_2080 rfl rfl (by decide) rfl ?_
              refine j_goto (pc := 2083) C 23 dL_law_2083 (by decide) ?_
              exact j_widen (show kc + 2 ≤ kc + 5 by omega) (show ks + 12 ≤ ks + 30 by omega) (j_weak [3, 4, 5, 6, 0] rfl (ih (kc + 5) (ks + 30) _ _ _ _ _ (by omega) (by omega) h))
            · refine j_iconst (pc := 2075) (v := (0 : Int32)) C dL_law_2075 rfl ?_
              exact j_lawret (pc := 2076) C hbs dL_law_2076 ⟨Nat.le_trans (show kc + 2 ≤ kB by omega) hkc.1, Nat.le_trans (show ks + 12 ≤ sB by omega) hkc.2⟩ (hP _ _ h)
        · refine j_iconst (pc := 2058) (v := (0 : Int32)) C dL_law_2058 rfl ?_
          exact j_lawret (pc := 2059) C hbs dL_law_2059 ⟨Nat.le_trans (show kc + 2 ≤ kB by omega) hkc.1, Nat.le_trans (show ks + 12 ≤ sB by omega) hkc.2⟩ (hP _ _ h)
      rw [if_neg q40_30] at h
      refine j_tsO (pc := 40) C 2080 dL_law_40 (fun k h1 h2 => ?_) (by decide) ?_
      · rcases (show k = 0 ∨ k = 1 ∨ k = 2 ∨ k = 3 ∨ k = 4 ∨ k = 5 ∨ k = 6 ∨ k = 7 ∨ k = 8 ∨ k = 9 ∨ k = 10 ∨ k = 11 ∨ k = 12 ∨ k = 13 ∨ k = 14 ∨ k = 15 ∨ k = 16 ∨ k = 17 ∨ k = 18 ∨ k = 19 ∨ k = 20 ∨ k = 21 ∨ k = 22 ∨ k = 23 ∨ k = 24 ∨ k = 25 ∨ k = 26 ∨ k = 27 ∨ k = 28 ∨ k = 29 ∨ k = 30 by omega) with rfl | rfl | rfl | rfl | rfl | rfl | rfl | rfl | rfl | rfl | rfl | rfl | rfl | rfl | rfl | rfl | rfl | rfl | rfl | rfl | rfl | rfl | rfl | rfl | rfl | rfl | rfl | rfl | rfl | rfl | rfl
        · exact ts_no q40_0 (by decide)
        · exact ts_no q40_1 (by decide)
        · exact ts_no q40_2 (by decide)
        · exact ts_no q40_3 (by decide)
        · exact ts_no q40_4 (by decide)
        · exact ts_no q40_5 (by decide)
        · exact ts_no q40_6 (by decide)
        · exact ts_no q40_7 (by decide)
        · exact ts_no q40_8 (by decide)
        · exact ts_no q40_9 (by decide)
        · exact ts_no q40_10 (by decide)
        · exact ts_no q40_11 (by decide)
        · exact ts_no q40_12 (by decide)
        · exact ts_no q40_13 (by decide)
        · exact ts_no q40_14 (by decide)
        · exact ts_no q40_15 (by decide)
        · exact ts_no q40_16 (by decide)
        · exact ts_no q40_17 (by decide)
        · exact ts_no q40_18 (by decide)
        · exact ts_no q40_19 (by decide)
        · exact ts_no q40_20 (by decide)
        · exact ts_no q40_21 (by decide)
        · exact ts_no q40_22 (by decide)
        · exact ts_no q40_23 (by decide)
        · exact ts_no q40_24 (by decide)
        · exact ts_no q40_25 (by decide)
        · exact ts_no q40_26 (by decide)
        · exact ts_no q40_27 (by decide)
        · exact ts_no q40_28 (by decide)
        · exact ts_no q40_29 (by decide)
        · exact ts_no q40_30 (by decide)
      refine j_iinc (pc := 2080) (v := (6 : Int32)) C 4 [(4, _), (0, _), (1, _), (2, _), (3, _)] dL_law_2080 rfl rfl (by decide) rfl ?_
      refine j_goto (pc := 2083) C 23 dL_law_2083 (by decide) ?_
      exact j_widen (show kc + 0 ≤ kc + 5 by omega) (show ks + 0 ≤ ks + 30 by omega) (j_weak [1, 2, 3, 4, 0] rfl (ih (kc + 5) (ks + 30) _ _ _ _ _ (by omega) (by omega) h))
def w_L_law (M : Mm) (L : Nat) (xs : Nat → Int32) (P : Int32 → Mm → Prop) : Prop := (∀ a1 M1, a1 = zn M → M1 = sN M 7 0 → w_X7_init M1 a1 (fun M2 => (∀ a3 M3, a3 = zn M2 → M3 = sN M2 8 0 → w_X8_init M3 a3 (fun M4 => ¬ (1 : Int32) < 0 ∧ (1 : Int32).toNatClampNeg ≤ 1 ∧ (∀ a5 M5, a5 = zn M4 → M5 = sN M4 11 (1 : Int32).toNatClampNeg → (∃ n23, n23 ≤ 514 ∧ l_L_law_23 L xs P (fun M114 => P (1 : Int32) M114) n23 M5 a1 a3 a5 (0 : Int32)))))))
set_option maxHeartbeats 40000000 in
set_option maxRecDepth 100000 in
theorem j_law {p : Program} {l : Launch} {e : Env} {s : State} {m : MethodId} {below : List Frame} {meth : Method} {c : Code} {E : EV} {b L : Nat} {xs : Nat → Int32} {P : Int32 → Mm → Prop} (C : Cx p l s m #[Value.ref b] meth c code 7 RL retL E) (hX : va_X b L xs s s.heap) (hbl : b < s.heap.size) (hbs : E.2.2.1 = s.heap.size) (hP : ∀ r M, P r M → r = 1) (M : Mm) (h : w_L_law M L xs P) : J p l e room_1 s m #[Value.ref b] below meth c (lw_Z below #[Value.ref b] s) E 7 M 0 0 0 [(0, .ref b)] [] := by
  rw [w_L_law] at h
  refine n_new (pc := 0) C co_X7 df_X7 wd_123 wd_124 wd_101 dL_law_0 (Nat.le_of_ble_eq_true rfl) (Nat.le_of_ble_eq_true rfl) h (fun a1 M1 h => ?_)
  refine j_dup (pc := 3) C dL_law_3 rfl ?_
  refine cs_L_96 (pc := 4) C ⟨Nat.le_of_ble_eq_true rfl, Nat.le_of_ble_eq_true rfl⟩ ⟨Nat.le_of_ble_eq_true rfl, Nat.le_of_ble_eq_true rfl⟩ (Nat.le_of_ble_eq_true rfl) dL_law_4 h (fun M2 h => ?_)
  refine j_astore_n (pc := 7) C [(1, _), (0, _)] dL_law_7 (by decide) rfl ?_
  refine n_new (pc := 8) C co_X8 df_X8 wd_1123 wd_1124 wd_106 dL_law_8 (Nat.le_of_ble_eq_true rfl) (Nat.le_of_ble_eq_true rfl) h (fun a3 M3 h => ?_)
  refine j_dup (pc := 11) C dL_law_11 rfl ?_
  refine cs_L_99 (pc := 12) C ⟨Nat.le_of_ble_eq_true rfl, Nat.le_of_ble_eq_true rfl⟩ ⟨Nat.le_of_ble_eq_true rfl, Nat.le_of_ble_eq_true rfl⟩ (Nat.le_of_ble_eq_true rfl) dL_law_12 h (fun M4 h => ?_)
  refine j_astore_n (pc := 15) C [(2, _), (1, _), (0, _)] dL_law_15 (by decide) rfl ?_
  refine j_iconst (pc := 16) (v := (1 : Int32)) C dL_law_16 rfl ?_
  refine n_newl (pc := 17) C 1 wd_213 dL_law_17 (Nat.le_of_ble_eq_true rfl) (Nat.le_of_ble_eq_true rfl) (Nat.le_of_ble_eq_true rfl) h (fun a5 M5 h => ?_)
  refine j_astore_n (pc := 19) C [(3, _), (2, _), (1, _), (0, _)] dL_law_19 (by decide) rfl ?_
  refine j_iconst (pc := 20) (v := (0 : Int32)) C dL_law_20 rfl ?_
  refine j_istore (pc := 21) C [(4, _), (3, _), (2, _), (1, _), (0, _)] dL_law_21 (by decide) rfl ?_
  obtain ⟨n23, hn23, h⟩ := h
  refine j_weak [4, 3, 2, 1, 0] rfl (jl_L_law_23 2748 38602 C hX hbl hbs hP ⟨Nat.le_of_ble_eq_true rfl, Nat.le_of_ble_eq_true rfl⟩ (fun M114 h => ?_) n23 178 23182 _ _ _ _ _ (by omega) (by omega) h)
  · refine j_iconst (pc := 2086) (v := (1 : Int32)) C dL_law_2086 rfl ?_
    exact j_lawret (pc := 2087) C hbs dL_law_2087 ⟨Nat.le_of_ble_eq_true rfl, Nat.le_of_ble_eq_true rfl⟩ (hP _ _ h)
end GW28
