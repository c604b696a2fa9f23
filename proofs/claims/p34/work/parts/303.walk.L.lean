/-! written by a program (wip/p34/gen.py) out of the decode rows and the tables: walks of the law -/

section GL3
variable {p : Program} {l : Launch} {e : Env} {R : Room} {s : State} {m : MethodId} {args : Array Value} {below : List Frame} {meth : Method} {c : Code} {Q : State → Prop} {cc : ByteArray} {nL : Nat} {ret : Option FieldType} {E : EV} {M : Mm} {kc ks pc : Nat} {lo : List (Nat × Value)} {st : List Value}
theorem c2_L_217 (C : Cx p l s m args meth c cc nL RL ret E) {b : Nat} {y0 : Int32} {y1 : Int32} {y2 : Int32} {y3 : Int32} {y4 : Int32} {P : Int32 → Mm → Prop} {b1 s1 : Nat} (hR : 10 + 1 ≤ R.frames ∧ 8 + (7 + 11) + 270 ≤ R.locals) (hf : kc + b1 ≤ R.cells ∧ ks + s1 ≤ R.slots) (hst : (st.map fun v => v.category).sum ≤ 8) (d : decode cc pc = .ok (.invokevirtual 217, 3)) (h : zk M b = 8 ∧ w_X8_why M b y0 y1 y2 y3 y4 P b1 s1) (kk : ∀ r M', P r M' → J p l e R s m args below meth c Q E nL M' (kc + b1) (ks + s1) (pc + 3) lo (.int r :: st)) : J p l e R s m args below meth c Q E nL M kc ks pc lo (.int y4 :: .int y3 :: .int y2 :: .int y1 :: .int y0 :: .ref b :: st) :=
  j_cV_I (n := 5) (As := [.int y0, .int y1, .int y2, .int y3, .int y4]) C co_X8 rfl wd_1049 wd_1050 h.1 (c_X8_why l E M b y0 y1 y2 y3 y4 P b1 s1 h.2) ⟨wd_1051, wd_1048, wd_49, by decide +kernel, by decide +kernel, by decide +kernel⟩ rfl rfl hR hf rfl hst d kk
theorem c2_L_221 (C : Cx p l s m args meth c cc nL RL ret E) {b : Nat} {y0 : Int32} {y1 : Int32} {y2 : Int32} {y3 : Int32} {P : Int32 → Mm → Prop} (hR : rm0_X7_whyNot.frames + 1 ≤ R.frames ∧ 8 + (5 + 11) + rm0_X7_whyNot.locals ≤ R.locals) (hf : kc ≤ R.cells ∧ ks ≤ R.slots) (hst : (st.map fun v => v.category).sum ≤ 8) (d : decode cc pc = .ok (.invokevirtual 221, 3)) (h : zk M b = 7 ∧ w_X7_whyNot M b y0 y1 y2 y3 P (fun _ _ => False)) (kk : ∀ r M', P r M' → J p l e R s m args below meth c Q E nL M' kc ks (pc + 3) lo (.int r :: st)) : J p l e R s m args below meth c Q E nL M kc ks pc lo (.int y3 :: .int y2 :: .int y1 :: .int y0 :: .ref b :: st) :=
  j_cV_I (n := 4) (As := [.int y0, .int y1, .int y2, .int y3]) C co_X7 rfl wd_1368 wd_1369 h.1 (c0_X7_whyNot l E M b y0 y1 y2 y3 P h.2) ⟨wd_1370, wd_1367, wd_40, by decide +kernel, by decide +kernel, by decide +kernel⟩ rfl rfl hR hf rfl hst d kk
theorem c2_L_225 (C : Cx p l s m args meth c cc nL RL ret E) {b : Nat} {y0 : Int32} {y1 : Int32} {y2 : Int32} {y3 : Int32} {P : Int32 → Mm → Prop} (hR : rm0_X7_earliest.frames + 1 ≤ R.frames ∧ 8 + (6 + 11) + rm0_X7_earliest.locals ≤ R.locals) (hf : kc ≤ R.cells ∧ ks ≤ R.slots) (hst : (st.map fun v => v.category).sum ≤ 8) (d : decode cc pc = .ok (.invokevirtual 225, 3)) (h : zk M b = 7 ∧ w_X7_earliest M b y0 y1 y2 y3 P (fun _ _ => False)) (kk : ∀ r M', P r M' → J p l e R s m args below meth c Q E nL M' kc ks (pc + 3) lo (.int r :: st)) : J p l e R s m args below meth c Q E nL M kc ks pc lo (.int y3 :: .int y2 :: .int y1 :: .int y0 :: .ref b :: st) :=
  j_cV_I (n := 4) (As := [.int y0, .int y1, .int y2, .int y3]) C co_X7 rfl wd_1372 wd_1373 h.1 (c0_X7_earliest l E M b y0 y1 y2 y3 P h.2) ⟨wd_1374, wd_1371, wd_40, by decide +kernel, by decide +kernel, by decide +kernel⟩ rfl rfl hR hf rfl hst d kk
theorem c2_L_228 (C : Cx p l s m args meth c cc nL RL ret E) {b : Nat} {y0 : Int32} {y1 : Int32} {y2 : Int32} {y3 : Int32} {P : Int32 → Mm → Prop} {b1 s1 : Nat} (hR : 10 + 1 ≤ R.frames ∧ 8 + (7 + 11) + 270 ≤ R.locals) (hf : kc + b1 ≤ R.cells ∧ ks + s1 ≤ R.slots) (hst : (st.map fun v => v.category).sum ≤ 8) (d : decode cc pc = .ok (.invokevirtual 228, 3)) (h : zk M b = 8 ∧ w_X8_comes M b y0 y1 y2 y3 P b1 s1) (kk : ∀ r M', P r M' → J p l e R s m args below meth c Q E nL M' (kc + b1) (ks + s1) (pc + 3) lo (.int r :: st)) : J p l e R s m args below meth c Q E nL M kc ks pc lo (.int y3 :: .int y2 :: .int y1 :: .int y0 :: .ref b :: st) :=
  j_cV_I (n := 4) (As := [.int y0, .int y1, .int y2, .int y3]) C co_X8 rfl wd_1084 wd_1085 h.1 (c_X8_comes l E M b y0 y1 y2 y3 P b1 s1 h.2) ⟨wd_1086, wd_1083, wd_49, by decide +kernel, by decide +kernel, by decide +kernel⟩ rfl rfl hR hf rfl hst d kk
theorem c2_L_231 (C : Cx p l s m args meth c cc nL RL ret E) {b : Nat} {y0 : Int32} {P : Mm → Prop} (hR : rm_X8_takesOff.frames + 1 ≤ R.frames ∧ 8 + (3 + 11) + rm_X8_takesOff.locals ≤ R.locals) (hf : kc ≤ R.cells ∧ ks ≤ R.slots) (hst : (st.map fun v => v.category).sum ≤ 8) (d : decode cc pc = .ok (.invokevirtual 231, 3)) (h : zk M b = 8 ∧ w_X8_takesOff M b y0 P) (kk : ∀ M', P M' → J p l e R s m args below meth c Q E nL M' kc ks (pc + 3) lo st) : J p l e R s m args below meth c Q E nL M kc ks pc lo (.int y0 :: .ref b :: st) :=
  j_cV_V (n := 1) (As := [.int y0]) C co_X8 rfl wd_981 wd_982 h.1 (c_X8_takesOff l E M b y0 P h.2) ⟨wd_983, wd_980, wd_49, by decide +kernel, by decide +kernel, by decide +kernel⟩ rfl rfl hR hf rfl hst d kk
theorem c2_L_235 (C : Cx p l s m args meth c cc nL RL ret E) {b : Nat} {y0 : Int32} {y1 : Int32} {y2 : Int32} {P : Option Nat → Mm → Prop} {b1 s1 : Nat} (hR : 9 + 1 ≤ R.frames ∧ 8 + (4 + 11) + 247 ≤ R.locals) (hf : kc + b1 ≤ R.cells ∧ ks + s1 ≤ R.slots) (hst : (st.map fun v => v.category).sum ≤ 8) (d : decode cc pc = .ok (.invokevirtual 235, 3)) (h : zk M b = 8 ∧ w_X8_cast M b y0 y1 y2 P b1 s1) (kk : ∀ r M', P r M' → J p l e R s m args below meth c Q E nL M' (kc + b1) (ks + s1) (pc + 3) lo (va_rf r :: st)) : J p l e R s m args below meth c Q E nL M kc ks pc lo (.int y2 :: .int y1 :: .int y0 :: .ref b :: st) :=
  j_cV_N (n := 3) (As := [.int y0, .int y1, .int y2]) C co_X8 rfl wd_1056 wd_1057 h.1 (c_X8_cast l E M b y0 y1 y2 P b1 s1 h.2) ⟨wd_1058, wd_1375, wd_49, by decide +kernel, by decide +kernel, by decide +kernel⟩ rfl rfl hR hf rfl hst d kk
theorem c2_L_238 (C : Cx p l s m args meth c cc nL RL ret E) {b : Nat} {y0 : Int32} {y1 : Int32} {y2 : Int32} {y3 : Int32} {P : Int32 → Mm → Prop} (hR : rm0_X7_costsWith.frames + 1 ≤ R.frames ∧ 8 + (5 + 11) + rm0_X7_costsWith.locals ≤ R.locals) (hf : kc ≤ R.cells ∧ ks ≤ R.slots) (hst : (st.map fun v => v.category).sum ≤ 8) (d : decode cc pc = .ok (.invokevirtual 238, 3)) (h : zk M b = 7 ∧ w_X7_costsWith M b y0 y1 y2 y3 P (fun _ _ => False)) (kk : ∀ r M', P r M' → J p l e R s m args below meth c Q E nL M' kc ks (pc + 3) lo (.int r :: st)) : J p l e R s m args below meth c Q E nL M kc ks pc lo (.int y3 :: .int y2 :: .int y1 :: .int y0 :: .ref b :: st) :=
  j_cV_I (n := 4) (As := [.int y0, .int y1, .int y2, .int y3]) C co_X7 rfl wd_1377 wd_1378 h.1 (c0_X7_costsWith l E M b y0 y1 y2 y3 P h.2) ⟨wd_1379, wd_1376, wd_40, by decide +kernel, by decide +kernel, by decide +kernel⟩ rfl rfl hR hf rfl hst d kk
theorem c2_L_241 (C : Cx p l s m args meth c cc nL RL ret E) {b : Nat} {y0 : Int32} {y1 : Int32} {P : Int32 → Mm → Prop} (hR : rm0_X7_fewestDoublings.frames + 1 ≤ R.frames ∧ 8 + (3 + 11) + rm0_X7_fewestDoublings.locals ≤ R.locals) (hf : kc ≤ R.cells ∧ ks ≤ R.slots) (hst : (st.map fun v => v.category).sum ≤ 8) (d : decode cc pc = .ok (.invokevirtual 241, 3)) (h : zk M b = 7 ∧ w_X7_fewestDoublings M b y0 y1 P (fun _ _ => False)) (kk : ∀ r M', P r M' → J p l e R s m args below meth c Q E nL M' kc ks (pc + 3) lo (.int r :: st)) : J p l e R s m args below meth c Q E nL M kc ks pc lo (.int y1 :: .int y0 :: .ref b :: st) :=
  j_cV_I (n := 2) (As := [.int y0, .int y1]) C co_X7 rfl wd_1381 wd_1382 h.1 (c0_X7_fewestDoublings l E M b y0 y1 P h.2) ⟨wd_1383, wd_1380, wd_40, by decide +kernel, by decide +kernel, by decide +kernel⟩ rfl rfl hR hf rfl hst d kk
abbrev rm_L_asks (B S : Nat) : Room := { frames := 11, cells := B, slots := S, locals := 296 }
def l_L_asks_112 (B S : Nat) (P : Int32 → Mm → Prop) (K144 : Mm → Nat → Nat → Nat → Nat → Nat → Int32 → Int32 → Int32 → Int32 → Int32 → Int32 → Prop) : Nat → Mm → Nat → Nat → Nat → Nat → Nat → Int32 → Int32 → Int32 → Int32 → Int32 → Int32 → Prop
  | 0, _, _, _, _, _, _, _, _, _, _, _, _ => False
  | n + 1, M, b, s, x0, x1, x2, x3, x4, x5, x6, x7, x8 => zk M x1 = 8 ∧ (if ((3 : Int32) * (zI M x1 0)) ≤ x8 then K144 M b s x0 x1 x2 x3 x4 x5 x6 x7 x8 else ∃ b11 s11, b + b11 ≤ B ∧ s + s11 ≤ S ∧ zk M x1 = 8 ∧ w_X8_why M x1 x3 x8 x6 x5 (-1 : Int32) (fun r11 M11 => (if r11 ≤ 0 then K144 M11 (b + b11) (s + s11) x0 x1 x2 x3 x4 x5 x6 x7 x8 else l_L_asks_112 B S P K144 n M11 (b + b11) (s + s11) x0 x1 x2 x3 x4 x5 x6 x7 (x8 + (1 : Int32)))) b11 s11)
set_option maxHeartbeats 4000000 in
set_option maxRecDepth 100000 in
theorem jl_L_asks_112 {s0 : State} {B S : Nat} {P : Int32 → Mm → Prop} {K144 : Mm → Nat → Nat → Nat → Nat → Nat → Int32 → Int32 → Int32 → Int32 → Int32 → Int32 → Prop} (C : Cx p l s0 m args meth c cL_asks 12 RL (some .boolean) E) (k144 : ∀ M b s x0 x1 x2 x3 x4 x5 x6 x7 x8, b ≤ B → s ≤ S → K144 M b s x0 x1 x2 x3 x4 x5 x6 x7 x8 → J p l e (rm_L_asks B S) s0 m args below meth c (QI below E P args s0 B S) E 12 M b s 144 [(0, .ref x0), (1, .ref x1), (2, .ref x2), (3, .int x3), (4, .int x4), (5, .int x5), (6, .int x6), (7, .int x7), (8, .int x8)] []) : ∀ n M b s x0 x1 x2 x3 x4 x5 x6 x7 x8, b ≤ B → s ≤ S → l_L_asks_112 B S P K144 n M b s x0 x1 x2 x3 x4 x5 x6 x7 x8 → J p l e (rm_L_asks B S) s0 m args below meth c (QI below E P args s0 B S) E 12 M b s 112 [(0, .ref x0), (1, .ref x1), (2, .ref x2), (3, .int x3), (4, .int x4), (5, .int x5), (6, .int x6), (7, .int x7), (8, .int x8)] [] := by
  intro n
  induction n with
  | zero => intro M b s x0 x1 x2 x3 x4 x5 x6 x7 x8 hb hs h; exact h.elim
  | succ n ih =>
    intro M b s x0 x1 x2 x3 x4 x5 x6 x7 x8 hb hs h
    rw [l_L_asks_112] at h
    refine j_iload (pc := 112) C 8 dL_asks_112 rfl ?_
    refine j_iconst (pc := 114) (v := (3 : Int32)) C dL_asks_114 rfl ?_
    refine j_aload_n (pc := 115) C 1 dL_asks_115 rfl ?_
    refine gf_L_43 (pc := 116) C dL_asks_116 h (fun h => ?_)
    refine j_imul (pc := 119) C dL_asks_119 ?_
    refine j_icmp_ge (pc := 120) C 144 dL_asks_120 (by decide) h (fun h => ?_) (fun h => ?_)
    · exact j_weak [0, 1, 2, 3, 4, 5, 6, 7, 8] rfl (k144 _ _ _ _ _ _ _ _ _ _ _ _ hb hs h)
    · refine j_aload_n (pc := 123) C 1 dL_asks_123 rfl ?_
      refine j_iload_n (pc := 124) C 3 dL_asks_124 rfl ?_
      refine j_iload (pc := 125) C 8 dL_asks_125 rfl ?_
      refine j_iload (pc := 127) C 6 dL_asks_127 rfl ?_
      refine j_iload (pc := 129) C 5 dL_asks_129 rfl ?_
      refine j_iconst (pc := 131) (v := (-1 : Int32)) C dL_asks_131 rfl ?_
      obtain ⟨b11, s11, hb, hs, h⟩ := h
      refine c2_L_217 (pc := 132) C ⟨(Nat.le_of_ble_eq_true rfl), (Nat.le_of_ble_eq_true rfl)⟩ ⟨hb, hs⟩ (Nat.le_of_ble_eq_true rfl) dL_asks_132 h (fun r11 M11 h => ?_)
      refine j_if_le (pc := 135) C 144 dL_asks_135 (by decide) h (fun h => ?_) (fun h => ?_)
      · exact j_weak [0, 1, 2, 3, 4, 5, 6, 7, 8] rfl (k144 _ _ _ _ _ _ _ _ _ _ _ _ hb hs h)
      · refine j_iinc (pc := 138) (v := (1 : Int32)) C 8 [(8, _), (0, _), (1, _), (2, _), (3, _), (4, _), (5, _), (6, _), (7, _)] dL_asks_138 rfl rfl (by decide) rfl ?_
        refine j_goto (pc := 141) C 112 dL_asks_141 (by decide) ?_
        exact j_weak [1, 2, 3, 4, 5, 6, 7, 8, 0] rfl (ih _ _ _ _ _ _ _ _ _ _ _ _ hb hs h)
def w_L_asks (M : Mm) (x0 : Nat) (x1 : Nat) (x2 : Nat) (P : Int32 → Mm → Prop) (B S : Nat) : Prop := zk M x1 = 8 ∧ w_L_draw M x2 (zI M x1 1) (fun r2 M2 => zk M2 x1 = 8 ∧ w_L_draw M2 x2 ((3 : Int32) * (zI M2 x1 0)) (fun r4 M4 => w_L_draw M4 x2 (2 : Int32) (fun r5 M5 => (if r5 = 0 then zk M5 x1 = 8 ∧ w_L_draw M5 x2 (zI M5 x1 3) (fun r54 M54 => w_L_draw M54 x2 (2 : Int32) (fun r55 M55 => (if r55 = 0 then zk M55 x1 = 8 ∧ w_L_draw M55 x2 (zI M55 x1 3) (fun r100 M100 => ∃ b101 s101, 0 + b101 ≤ B ∧ 0 + s101 ≤ S ∧ zk M100 x1 = 8 ∧ w_X8_why M100 x1 r2 r4 (((1 : Int32) <<< (r54 &&& 31)) ||| ((1 : Int32) <<< (r100 &&& 31))) (1 : Int32) (-1 : Int32) (fun r101 M101 => zk M101 x0 = 7 ∧ w_X7_whyNot M101 x0 r2 r4 (((1 : Int32) <<< (r54 &&& 31)) ||| ((1 : Int32) <<< (r100 &&& 31))) (1 : Int32) (fun r102 M102 => (if r102 = r101 then (∃ n112, l_L_asks_112 B S P (fun M103 b103 s103 x0_103 x1_103 x2_103 x3_103 x4_103 x5_103 x6_103 x7_103 x8_103 => zk M103 x0_103 = 7 ∧ w_X7_earliest M103 x0_103 x3_103 x4_103 x6_103 x5_103 (fun r104 M104 => zk M104 x1_103 = 8 ∧ (if ((3 : Int32) * (zI M104 x1_103 0)) ≤ x8_103 then (if r104 = (-1 : Int32) then (if x7_103 = 0 then ∃ b114 s114, b103 + b114 ≤ B ∧ s103 + s114 ≤ S ∧ zk M104 x1_103 = 8 ∧ w_X8_comes M104 x1_103 x3_103 x4_103 x6_103 x5_103 (fun r114 M114 => zk M114 x1_103 = 8 ∧ w_X8_costs M114 x1_103 (3 : Int32) (fun r115 M115 => zk M115 x1_103 = 8 ∧ w_X8_takesOff M115 x1_103 r114 (fun M116 => zk M116 x1_103 = 8 ∧ w_L_draw M116 x2_103 (zI M116 x1_103 3) (fun r118 M118 => ∃ b119 s119, (b103 + b114) + b119 ≤ B ∧ (s103 + s114) + s119 ≤ S ∧ zk M118 x1_103 = 8 ∧ w_X8_cast M118 x1_103 r118 x4_103 (-1 : Int32) (fun r119 M119 => (∀ a119, r119 = some a119 → zk M119 x0_103 = 7 ∧ w_X7_costsWith M119 x0_103 x3_103 x4_103 x6_103 x5_103 (fun r120 M120 => (if r120 = r115 then zk M120 x0_103 = 7 ∧ w_X7_fewestDoublings M120 x0_103 r118 x4_103 (fun r121 M121 => zk M121 x1_103 = 8 ∧ w_X8_doublings M121 x1_103 r118 a119 (fun r122 M122 => (if r121 = r122 then ((1 : Int32) = 0 ∨ (1 : Int32) = 1) ∧ P (1 : Int32) M122 else ((0 : Int32) = 0 ∨ (0 : Int32) = 1) ∧ P (0 : Int32) M122))) (fun _ _ => False) else ((0 : Int32) = 0 ∨ (0 : Int32) = 1) ∧ P (0 : Int32) M120)) (fun _ _ => False)) ∧ (r119 = none → zk M119 x0_103 = 7 ∧ w_X7_costsWith M119 x0_103 x3_103 x4_103 x6_103 x5_103 (fun r123 M123 => (if r123 = r115 then zk M123 x0_103 = 7 ∧ w_X7_fewestDoublings M123 x0_103 r118 x4_103 (fun r124 M124 => (if r124 = (-1 : Int32) then ((1 : Int32) = 0 ∨ (1 : Int32) = 1) ∧ P (1 : Int32) M124 else ((0 : Int32) = 0 ∨ (0 : Int32) = 1) ∧ P (0 : Int32) M124)) (fun _ _ => False) else ((0 : Int32) = 0 ∨ (0 : Int32) = 1) ∧ P (0 : Int32) M123)) (fun _ _ => False))) b119 s119)))) b114 s114 else zk M104 x1_103 = 8 ∧ w_L_draw M104 x2_103 (zI M104 x1_103 3) (fun r107 M107 => ∃ b108 s108, b103 + b108 ≤ B ∧ s103 + s108 ≤ S ∧ zk M107 x1_103 = 8 ∧ w_X8_cast M107 x1_103 r107 x4_103 (-1 : Int32) (fun r108 M108 => (∀ a108, r108 = some a108 → zk M108 x0_103 = 7 ∧ w_X7_costsWith M108 x0_103 x3_103 x4_103 x6_103 x5_103 (fun r109 M109 => (if r109 = (-1 : Int32) then zk M109 x0_103 = 7 ∧ w_X7_fewestDoublings M109 x0_103 r107 x4_103 (fun r110 M110 => zk M110 x1_103 = 8 ∧ w_X8_doublings M110 x1_103 r107 a108 (fun r111 M111 => (if r110 = r111 then ((1 : Int32) = 0 ∨ (1 : Int32) = 1) ∧ P (1 : Int32) M111 else ((0 : Int32) = 0 ∨ (0 : Int32) = 1) ∧ P (0 : Int32) M111))) (fun _ _ => False) else ((0 : Int32) = 0 ∨ (0 : Int32) = 1) ∧ P (0 : Int32) M109)) (fun _ _ => False)) ∧ (r108 = none → zk M108 x0_103 = 7 ∧ w_X7_costsWith M108 x0_103 x3_103 x4_103 x6_103 x5_103 (fun r112 M112 => (if r112 = (-1 : Int32) then zk M112 x0_103 = 7 ∧ w_X7_fewestDoublings M112 x0_103 r107 x4_103 (fun r113 M113 => (if r113 = (-1 : Int32) then ((1 : Int32) = 0 ∨ (1 : Int32) = 1) ∧ P (1 : Int32) M113 else ((0 : Int32) = 0 ∨ (0 : Int32) = 1) ∧ P (0 : Int32) M113)) (fun _ _ => False) else ((0 : Int32) = 0 ∨ (0 : Int32) = 1) ∧ P (0 : Int32) M112)) (fun _ _ => False))) b108 s108)) else ((0 : Int32) = 0 ∨ (0 : Int32) = 1) ∧ P (0 : Int32) M104) else (if r104 = x8_103 then (if x7_103 = 0 then ∃ b133 s133, b103 + b133 ≤ B ∧ s103 + s133 ≤ S ∧ zk M104 x1_103 = 8 ∧ w_X8_comes M104 x1_103 x3_103 x4_103 x6_103 x5_103 (fun r133 M133 => zk M133 x1_103 = 8 ∧ w_X8_costs M133 x1_103 (3 : Int32) (fun r134 M134 => zk M134 x1_103 = 8 ∧ w_X8_takesOff M134 x1_103 r133 (fun M135 => zk M135 x1_103 = 8 ∧ w_L_draw M135 x2_103 (zI M135 x1_103 3) (fun r137 M137 => ∃ b138 s138, (b103 + b133) + b138 ≤ B ∧ (s103 + s133) + s138 ≤ S ∧ zk M137 x1_103 = 8 ∧ w_X8_cast M137 x1_103 r137 x4_103 (-1 : Int32) (fun r138 M138 => (∀ a138, r138 = some a138 → zk M138 x0_103 = 7 ∧ w_X7_costsWith M138 x0_103 x3_103 x4_103 x6_103 x5_103 (fun r139 M139 => (if r139 = r134 then zk M139 x0_103 = 7 ∧ w_X7_fewestDoublings M139 x0_103 r137 x4_103 (fun r140 M140 => zk M140 x1_103 = 8 ∧ w_X8_doublings M140 x1_103 r137 a138 (fun r141 M141 => (if r140 = r141 then ((1 : Int32) = 0 ∨ (1 : Int32) = 1) ∧ P (1 : Int32) M141 else ((0 : Int32) = 0 ∨ (0 : Int32) = 1) ∧ P (0 : Int32) M141))) (fun _ _ => False) else ((0 : Int32) = 0 ∨ (0 : Int32) = 1) ∧ P (0 : Int32) M139)) (fun _ _ => False)) ∧ (r138 = none → zk M138 x0_103 = 7 ∧ w_X7_costsWith M138 x0_103 x3_103 x4_103 x6_103 x5_103 (fun r142 M142 => (if r142 = r134 then zk M142 x0_103 = 7 ∧ w_X7_fewestDoublings M142 x0_103 r137 x4_103 (fun r143 M143 => (if r143 = (-1 : Int32) then ((1 : Int32) = 0 ∨ (1 : Int32) = 1) ∧ P (1 : Int32) M143 else ((0 : Int32) = 0 ∨ (0 : Int32) = 1) ∧ P (0 : Int32) M143)) (fun _ _ => False) else ((0 : Int32) = 0 ∨ (0 : Int32) = 1) ∧ P (0 : Int32) M142)) (fun _ _ => False))) b138 s138)))) b133 s133 else zk M104 x1_103 = 8 ∧ w_L_draw M104 x2_103 (zI M104 x1_103 3) (fun r126 M126 => ∃ b127 s127, b103 + b127 ≤ B ∧ s103 + s127 ≤ S ∧ zk M126 x1_103 = 8 ∧ w_X8_cast M126 x1_103 r126 x4_103 (-1 : Int32) (fun r127 M127 => (∀ a127, r127 = some a127 → zk M127 x0_103 = 7 ∧ w_X7_costsWith M127 x0_103 x3_103 x4_103 x6_103 x5_103 (fun r128 M128 => (if r128 = (-1 : Int32) then zk M128 x0_103 = 7 ∧ w_X7_fewestDoublings M128 x0_103 r126 x4_103 (fun r129 M129 => zk M129 x1_103 = 8 ∧ w_X8_doublings M129 x1_103 r126 a127 (fun r130 M130 => (if r129 = r130 then ((1 : Int32) = 0 ∨ (1 : Int32) = 1) ∧ P (1 : Int32) M130 else ((0 : Int32) = 0 ∨ (0 : Int32) = 1) ∧ P (0 : Int32) M130))) (fun _ _ => False) else ((0 : Int32) = 0 ∨ (0 : Int32) = 1) ∧ P (0 : Int32) M128)) (fun _ _ => False)) ∧ (r127 = none → zk M127 x0_103 = 7 ∧ w_X7_costsWith M127 x0_103 x3_103 x4_103 x6_103 x5_103 (fun r131 M131 => (if r131 = (-1 : Int32) then zk M131 x0_103 = 7 ∧ w_X7_fewestDoublings M131 x0_103 r126 x4_103 (fun r132 M132 => (if r132 = (-1 : Int32) then ((1 : Int32) = 0 ∨ (1 : Int32) = 1) ∧ P (1 : Int32) M132 else ((0 : Int32) = 0 ∨ (0 : Int32) = 1) ∧ P (0 : Int32) M132)) (fun _ _ => False) else ((0 : Int32) = 0 ∨ (0 : Int32) = 1) ∧ P (0 : Int32) M131)) (fun _ _ => False))) b127 s127)) else ((0 : Int32) = 0 ∨ (0 : Int32) = 1) ∧ P (0 : Int32) M104))) (fun _ _ => False)) n112 M102 (0 + b101) (0 + s101) x0 x1 x2 r2 r4 (1 : Int32) (((1 : Int32) <<< (r54 &&& 31)) ||| ((1 : Int32) <<< (r100 &&& 31))) r101 r4) else ((0 : Int32) = 0 ∨ (0 : Int32) = 1) ∧ P (0 : Int32) M102)) (fun _ _ => False)) b101 s101) else ∃ b56 s56, 0 + b56 ≤ B ∧ 0 + s56 ≤ S ∧ zk M55 x1 = 8 ∧ w_X8_why M55 x1 r2 r4 (((1 : Int32) <<< (r54 &&& 31)) ||| (0 : Int32)) (1 : Int32) (-1 : Int32) (fun r56 M56 => zk M56 x0 = 7 ∧ w_X7_whyNot M56 x0 r2 r4 (((1 : Int32) <<< (r54 &&& 31)) ||| (0 : Int32)) (1 : Int32) (fun r57 M57 => (if r57 = r56 then (∃ n112, l_L_asks_112 B S P (fun M58 b58 s58 x0_58 x1_58 x2_58 x3_58 x4_58 x5_58 x6_58 x7_58 x8_58 => zk M58 x0_58 = 7 ∧ w_X7_earliest M58 x0_58 x3_58 x4_58 x6_58 x5_58 (fun r59 M59 => zk M59 x1_58 = 8 ∧ (if ((3 : Int32) * (zI M59 x1_58 0)) ≤ x8_58 then (if r59 = (-1 : Int32) then (if x7_58 = 0 then ∃ b69 s69, b58 + b69 ≤ B ∧ s58 + s69 ≤ S ∧ zk M59 x1_58 = 8 ∧ w_X8_comes M59 x1_58 x3_58 x4_58 x6_58 x5_58 (fun r69 M69 => zk M69 x1_58 = 8 ∧ w_X8_costs M69 x1_58 (3 : Int32) (fun r70 M70 => zk M70 x1_58 = 8 ∧ w_X8_takesOff M70 x1_58 r69 (fun M71 => zk M71 x1_58 = 8 ∧ w_L_draw M71 x2_58 (zI M71 x1_58 3) (fun r73 M73 => ∃ b74 s74, (b58 + b69) + b74 ≤ B ∧ (s58 + s69) + s74 ≤ S ∧ zk M73 x1_58 = 8 ∧ w_X8_cast M73 x1_58 r73 x4_58 (-1 : Int32) (fun r74 M74 => (∀ a74, r74 = some a74 → zk M74 x0_58 = 7 ∧ w_X7_costsWith M74 x0_58 x3_58 x4_58 x6_58 x5_58 (fun r75 M75 => (if r75 = r70 then zk M75 x0_58 = 7 ∧ w_X7_fewestDoublings M75 x0_58 r73 x4_58 (fun r76 M76 => zk M76 x1_58 = 8 ∧ w_X8_doublings M76 x1_58 r73 a74 (fun r77 M77 => (if r76 = r77 then ((1 : Int32) = 0 ∨ (1 : Int32) = 1) ∧ P (1 : Int32) M77 else ((0 : Int32) = 0 ∨ (0 : Int32) = 1) ∧ P (0 : Int32) M77))) (fun _ _ => False) else ((0 : Int32) = 0 ∨ (0 : Int32) = 1) ∧ P (0 : Int32) M75)) (fun _ _ => False)) ∧ (r74 = none → zk M74 x0_58 = 7 ∧ w_X7_costsWith M74 x0_58 x3_58 x4_58 x6_58 x5_58 (fun r78 M78 => (if r78 = r70 then zk M78 x0_58 = 7 ∧ w_X7_fewestDoublings M78 x0_58 r73 x4_58 (fun r79 M79 => (if r79 = (-1 : Int32) then ((1 : Int32) = 0 ∨ (1 : Int32) = 1) ∧ P (1 : Int32) M79 else ((0 : Int32) = 0 ∨ (0 : Int32) = 1) ∧ P (0 : Int32) M79)) (fun _ _ => False) else ((0 : Int32) = 0 ∨ (0 : Int32) = 1) ∧ P (0 : Int32) M78)) (fun _ _ => False))) b74 s74)))) b69 s69 else zk M59 x1_58 = 8 ∧ w_L_draw M59 x2_58 (zI M59 x1_58 3) (fun r62 M62 => ∃ b63 s63, b58 + b63 ≤ B ∧ s58 + s63 ≤ S ∧ zk M62 x1_58 = 8 ∧ w_X8_cast M62 x1_58 r62 x4_58 (-1 : Int32) (fun r63 M63 => (∀ a63, r63 = some a63 → zk M63 x0_58 = 7 ∧ w_X7_costsWith M63 x0_58 x3_58 x4_58 x6_58 x5_58 (fun r64 M64 => (if r64 = (-1 : Int32) then zk M64 x0_58 = 7 ∧ w_X7_fewestDoublings M64 x0_58 r62 x4_58 (fun r65 M65 => zk M65 x1_58 = 8 ∧ w_X8_doublings M65 x1_58 r62 a63 (fun r66 M66 => (if r65 = r66 then ((1 : Int32) = 0 ∨ (1 : Int32) = 1) ∧ P (1 : Int32) M66 else ((0 : Int32) = 0 ∨ (0 : Int32) = 1) ∧ P (0 : Int32) M66))) (fun _ _ => False) else ((0 : Int32) = 0 ∨ (0 : Int32) = 1) ∧ P (0 : Int32) M64)) (fun _ _ => False)) ∧ (r63 = none → zk M63 x0_58 = 7 ∧ w_X7_costsWith M63 x0_58 x3_58 x4_58 x6_58 x5_58 (fun r67 M67 => (if r67 = (-1 : Int32) then zk M67 x0_58 = 7 ∧ w_X7_fewestDoublings M67 x0_58 r62 x4_58 (fun r68 M68 => (if r68 = (-1 : Int32) then ((1 : Int32) = 0 ∨ (1 : Int32) = 1) ∧ P (1 : Int32) M68 else ((0 : Int32) = 0 ∨ (0 : Int32) = 1) ∧ P (0 : Int32) M68)) (fun _ _ => False) else ((0 : Int32) = 0 ∨ (0 : Int32) = 1) ∧ P (0 : Int32) M67)) (fun _ _ => False))) b63 s63)) else ((0 : Int32) = 0 ∨ (0 : Int32) = 1) ∧ P (0 : Int32) M59) else (if r59 = x8_58 then (if x7_58 = 0 then ∃ b88 s88, b58 + b88 ≤ B ∧ s58 + s88 ≤ S ∧ zk M59 x1_58 = 8 ∧ w_X8_comes M59 x1_58 x3_58 x4_58 x6_58 x5_58 (fun r88 M88 => zk M88 x1_58 = 8 ∧ w_X8_costs M88 x1_58 (3 : Int32) (fun r89 M89 => zk M89 x1_58 = 8 ∧ w_X8_takesOff M89 x1_58 r88 (fun M90 => zk M90 x1_58 = 8 ∧ w_L_draw M90 x2_58 (zI M90 x1_58 3) (fun r92 M92 => ∃ b93 s93, (b58 + b88) + b93 ≤ B ∧ (s58 + s88) + s93 ≤ S ∧ zk M92 x1_58 = 8 ∧ w_X8_cast M92 x1_58 r92 x4_58 (-1 : Int32) (fun r93 M93 => (∀ a93, r93 = some a93 → zk M93 x0_58 = 7 ∧ w_X7_costsWith M93 x0_58 x3_58 x4_58 x6_58 x5_58 (fun r94 M94 => (if r94 = r89 then zk M94 x0_58 = 7 ∧ w_X7_fewestDoublings M94 x0_58 r92 x4_58 (fun r95 M95 => zk M95 x1_58 = 8 ∧ w_X8_doublings M95 x1_58 r92 a93 (fun r96 M96 => (if r95 = r96 then ((1 : Int32) = 0 ∨ (1 : Int32) = 1) ∧ P (1 : Int32) M96 else ((0 : Int32) = 0 ∨ (0 : Int32) = 1) ∧ P (0 : Int32) M96))) (fun _ _ => False) else ((0 : Int32) = 0 ∨ (0 : Int32) = 1) ∧ P (0 : Int32) M94)) (fun _ _ => False)) ∧ (r93 = none → zk M93 x0_58 = 7 ∧ w_X7_costsWith M93 x0_58 x3_58 x4_58 x6_58 x5_58 (fun r97 M97 => (if r97 = r89 then zk M97 x0_58 = 7 ∧ w_X7_fewestDoublings M97 x0_58 r92 x4_58 (fun r98 M98 => (if r98 = (-1 : Int32) then ((1 : Int32) = 0 ∨ (1 : Int32) = 1) ∧ P (1 : Int32) M98 else ((0 : Int32) = 0 ∨ (0 : Int32) = 1) ∧ P (0 : Int32) M98)) (fun _ _ => False) else ((0 : Int32) = 0 ∨ (0 : Int32) = 1) ∧ P (0 : Int32) M97)) (fun _ _ => False))) b93 s93)))) b88 s88 else zk M59 x1_58 = 8 ∧ w_L_draw M59 x2_58 (zI M59 x1_58 3) (fun r81 M81 => ∃ b82 s82, b58 + b82 ≤ B ∧ s58 + s82 ≤ S ∧ zk M81 x1_58 = 8 ∧ w_X8_cast M81 x1_58 r81 x4_58 (-1 : Int32) (fun r82 M82 => (∀ a82, r82 = some a82 → zk M82 x0_58 = 7 ∧ w_X7_costsWith M82 x0_58 x3_58 x4_58 x6_58 x5_58 (fun r83 M83 => (if r83 = (-1 : Int32) then zk M83 x0_58 = 7 ∧ w_X7_fewestDoublings M83 x0_58 r81 x4_58 (fun r84 M84 => zk M84 x1_58 = 8 ∧ w_X8_doublings M84 x1_58 r81 a82 (fun r85 M85 => (if r84 = r85 then ((1 : Int32) = 0 ∨ (1 : Int32) = 1) ∧ P (1 : Int32) M85 else ((0 : Int32) = 0 ∨ (0 : Int32) = 1) ∧ P (0 : Int32) M85))) (fun _ _ => False) else ((0 : Int32) = 0 ∨ (0 : Int32) = 1) ∧ P (0 : Int32) M83)) (fun _ _ => False)) ∧ (r82 = none → zk M82 x0_58 = 7 ∧ w_X7_costsWith M82 x0_58 x3_58 x4_58 x6_58 x5_58 (fun r86 M86 => (if r86 = (-1 : Int32) then zk M86 x0_58 = 7 ∧ w_X7_fewestDoublings M86 x0_58 r81 x4_58 (fun r87 M87 => (if r87 = (-1 : Int32) then ((1 : Int32) = 0 ∨ (1 : Int32) = 1) ∧ P (1 : Int32) M87 else ((0 : Int32) = 0 ∨ (0 : Int32) = 1) ∧ P (0 : Int32) M87)) (fun _ _ => False) else ((0 : Int32) = 0 ∨ (0 : Int32) = 1) ∧ P (0 : Int32) M86)) (fun _ _ => False))) b82 s82)) else ((0 : Int32) = 0 ∨ (0 : Int32) = 1) ∧ P (0 : Int32) M59))) (fun _ _ => False)) n112 M57 (0 + b56) (0 + s56) x0 x1 x2 r2 r4 (1 : Int32) (((1 : Int32) <<< (r54 &&& 31)) ||| (0 : Int32)) r56 r4) else ((0 : Int32) = 0 ∨ (0 : Int32) = 1) ∧ P (0 : Int32) M57)) (fun _ _ => False)) b56 s56))) else zk M5 x1 = 8 ∧ w_L_draw M5 x2 (zI M5 x1 3) (fun r7 M7 => ∃ b8 s8, 0 + b8 ≤ B ∧ 0 + s8 ≤ S ∧ zk M7 x1 = 8 ∧ w_X8_why M7 x1 r2 r4 (((1 : Int32) <<< (r7 &&& 31)) ||| (0 : Int32)) (0 : Int32) (-1 : Int32) (fun r8 M8 => zk M8 x0 = 7 ∧ w_X7_whyNot M8 x0 r2 r4 (((1 : Int32) <<< (r7 &&& 31)) ||| (0 : Int32)) (0 : Int32) (fun r9 M9 => (if r9 = r8 then (∃ n112, l_L_asks_112 B S P (fun M12 b12 s12 x0_12 x1_12 x2_12 x3_12 x4_12 x5_12 x6_12 x7_12 x8_12 => zk M12 x0_12 = 7 ∧ w_X7_earliest M12 x0_12 x3_12 x4_12 x6_12 x5_12 (fun r13 M13 => zk M13 x1_12 = 8 ∧ (if ((3 : Int32) * (zI M13 x1_12 0)) ≤ x8_12 then (if r13 = (-1 : Int32) then (if x7_12 = 0 then ∃ b23 s23, b12 + b23 ≤ B ∧ s12 + s23 ≤ S ∧ zk M13 x1_12 = 8 ∧ w_X8_comes M13 x1_12 x3_12 x4_12 x6_12 x5_12 (fun r23 M23 => zk M23 x1_12 = 8 ∧ w_X8_costs M23 x1_12 (3 : Int32) (fun r24 M24 => zk M24 x1_12 = 8 ∧ w_X8_takesOff M24 x1_12 r23 (fun M25 => zk M25 x1_12 = 8 ∧ w_L_draw M25 x2_12 (zI M25 x1_12 3) (fun r27 M27 => ∃ b28 s28, (b12 + b23) + b28 ≤ B ∧ (s12 + s23) + s28 ≤ S ∧ zk M27 x1_12 = 8 ∧ w_X8_cast M27 x1_12 r27 x4_12 (-1 : Int32) (fun r28 M28 => (∀ a28, r28 = some a28 → zk M28 x0_12 = 7 ∧ w_X7_costsWith M28 x0_12 x3_12 x4_12 x6_12 x5_12 (fun r29 M29 => (if r29 = r24 then zk M29 x0_12 = 7 ∧ w_X7_fewestDoublings M29 x0_12 r27 x4_12 (fun r30 M30 => zk M30 x1_12 = 8 ∧ w_X8_doublings M30 x1_12 r27 a28 (fun r31 M31 => (if r30 = r31 then ((1 : Int32) = 0 ∨ (1 : Int32) = 1) ∧ P (1 : Int32) M31 else ((0 : Int32) = 0 ∨ (0 : Int32) = 1) ∧ P (0 : Int32) M31))) (fun _ _ => False) else ((0 : Int32) = 0 ∨ (0 : Int32) = 1) ∧ P (0 : Int32) M29)) (fun _ _ => False)) ∧ (r28 = none → zk M28 x0_12 = 7 ∧ w_X7_costsWith M28 x0_12 x3_12 x4_12 x6_12 x5_12 (fun r32 M32 => (if r32 = r24 then zk M32 x0_12 = 7 ∧ w_X7_fewestDoublings M32 x0_12 r27 x4_12 (fun r33 M33 => (if r33 = (-1 : Int32) then ((1 : Int32) = 0 ∨ (1 : Int32) = 1) ∧ P (1 : Int32) M33 else ((0 : Int32) = 0 ∨ (0 : Int32) = 1) ∧ P (0 : Int32) M33)) (fun _ _ => False) else ((0 : Int32) = 0 ∨ (0 : Int32) = 1) ∧ P (0 : Int32) M32)) (fun _ _ => False))) b28 s28)))) b23 s23 else zk M13 x1_12 = 8 ∧ w_L_draw M13 x2_12 (zI M13 x1_12 3) (fun r16 M16 => ∃ b17 s17, b12 + b17 ≤ B ∧ s12 + s17 ≤ S ∧ zk M16 x1_12 = 8 ∧ w_X8_cast M16 x1_12 r16 x4_12 (-1 : Int32) (fun r17 M17 => (∀ a17, r17 = some a17 → zk M17 x0_12 = 7 ∧ w_X7_costsWith M17 x0_12 x3_12 x4_12 x6_12 x5_12 (fun r18 M18 => (if r18 = (-1 : Int32) then zk M18 x0_12 = 7 ∧ w_X7_fewestDoublings M18 x0_12 r16 x4_12 (fun r19 M19 => zk M19 x1_12 = 8 ∧ w_X8_doublings M19 x1_12 r16 a17 (fun r20 M20 => (if r19 = r20 then ((1 : Int32) = 0 ∨ (1 : Int32) = 1) ∧ P (1 : Int32) M20 else ((0 : Int32) = 0 ∨ (0 : Int32) = 1) ∧ P (0 : Int32) M20))) (fun _ _ => False) else ((0 : Int32) = 0 ∨ (0 : Int32) = 1) ∧ P (0 : Int32) M18)) (fun _ _ => False)) ∧ (r17 = none → zk M17 x0_12 = 7 ∧ w_X7_costsWith M17 x0_12 x3_12 x4_12 x6_12 x5_12 (fun r21 M21 => (if r21 = (-1 : Int32) then zk M21 x0_12 = 7 ∧ w_X7_fewestDoublings M21 x0_12 r16 x4_12 (fun r22 M22 => (if r22 = (-1 : Int32) then ((1 : Int32) = 0 ∨ (1 : Int32) = 1) ∧ P (1 : Int32) M22 else ((0 : Int32) = 0 ∨ (0 : Int32) = 1) ∧ P (0 : Int32) M22)) (fun _ _ => False) else ((0 : Int32) = 0 ∨ (0 : Int32) = 1) ∧ P (0 : Int32) M21)) (fun _ _ => False))) b17 s17)) else ((0 : Int32) = 0 ∨ (0 : Int32) = 1) ∧ P (0 : Int32) M13) else (if r13 = x8_12 then (if x7_12 = 0 then ∃ b42 s42, b12 + b42 ≤ B ∧ s12 + s42 ≤ S ∧ zk M13 x1_12 = 8 ∧ w_X8_comes M13 x1_12 x3_12 x4_12 x6_12 x5_12 (fun r42 M42 => zk M42 x1_12 = 8 ∧ w_X8_costs M42 x1_12 (3 : Int32) (fun r43 M43 => zk M43 x1_12 = 8 ∧ w_X8_takesOff M43 x1_12 r42 (fun M44 => zk M44 x1_12 = 8 ∧ w_L_draw M44 x2_12 (zI M44 x1_12 3) (fun r46 M46 => ∃ b47 s47, (b12 + b42) + b47 ≤ B ∧ (s12 + s42) + s47 ≤ S ∧ zk M46 x1_12 = 8 ∧ w_X8_cast M46 x1_12 r46 x4_12 (-1 : Int32) (fun r47 M47 => (∀ a47, r47 = some a47 → zk M47 x0_12 = 7 ∧ w_X7_costsWith M47 x0_12 x3_12 x4_12 x6_12 x5_12 (fun r48 M48 => (if r48 = r43 then zk M48 x0_12 = 7 ∧ w_X7_fewestDoublings M48 x0_12 r46 x4_12 (fun r49 M49 => zk M49 x1_12 = 8 ∧ w_X8_doublings M49 x1_12 r46 a47 (fun r50 M50 => (if r49 = r50 then ((1 : Int32) = 0 ∨ (1 : Int32) = 1) ∧ P (1 : Int32) M50 else ((0 : Int32) = 0 ∨ (0 : Int32) = 1) ∧ P (0 : Int32) M50))) (fun _ _ => False) else ((0 : Int32) = 0 ∨ (0 : Int32) = 1) ∧ P (0 : Int32) M48)) (fun _ _ => False)) ∧ (r47 = none → zk M47 x0_12 = 7 ∧ w_X7_costsWith M47 x0_12 x3_12 x4_12 x6_12 x5_12 (fun r51 M51 => (if r51 = r43 then zk M51 x0_12 = 7 ∧ w_X7_fewestDoublings M51 x0_12 r46 x4_12 (fun r52 M52 => (if r52 = (-1 : Int32) then ((1 : Int32) = 0 ∨ (1 : Int32) = 1) ∧ P (1 : Int32) M52 else ((0 : Int32) = 0 ∨ (0 : Int32) = 1) ∧ P (0 : Int32) M52)) (fun _ _ => False) else ((0 : Int32) = 0 ∨ (0 : Int32) = 1) ∧ P (0 : Int32) M51)) (fun _ _ => False))) b47 s47)))) b42 s42 else zk M13 x1_12 = 8 ∧ w_L_draw M13 x2_12 (zI M13 x1_12 3) (fun r35 M35 => ∃ b36 s36, b12 + b36 ≤ B ∧ s12 + s36 ≤ S ∧ zk M35 x1_12 = 8 ∧ w_X8_cast M35 x1_12 r35 x4_12 (-1 : Int32) (fun r36 M36 => (∀ a36, r36 = some a36 → zk M36 x0_12 = 7 ∧ w_X7_costsWith M36 x0_12 x3_12 x4_12 x6_12 x5_12 (fun r37 M37 => (if r37 = (-1 : Int32) then zk M37 x0_12 = 7 ∧ w_X7_fewestDoublings M37 x0_12 r35 x4_12 (fun r38 M38 => zk M38 x1_12 = 8 ∧ w_X8_doublings M38 x1_12 r35 a36 (fun r39 M39 => (if r38 = r39 then ((1 : Int32) = 0 ∨ (1 : Int32) = 1) ∧ P (1 : Int32) M39 else ((0 : Int32) = 0 ∨ (0 : Int32) = 1) ∧ P (0 : Int32) M39))) (fun _ _ => False) else ((0 : Int32) = 0 ∨ (0 : Int32) = 1) ∧ P (0 : Int32) M37)) (fun _ _ => False)) ∧ (r36 = none → zk M36 x0_12 = 7 ∧ w_X7_costsWith M36 x0_12 x3_12 x4_12 x6_12 x5_12 (fun r40 M40 => (if r40 = (-1 : Int32) then zk M40 x0_12 = 7 ∧ w_X7_fewestDoublings M40 x0_12 r35 x4_12 (fun r41 M41 => (if r41 = (-1 : Int32) then ((1 : Int32) = 0 ∨ (1 : Int32) = 1) ∧ P (1 : Int32) M41 else ((0 : Int32) = 0 ∨ (0 : Int32) = 1) ∧ P (0 : Int32) M41)) (fun _ _ => False) else ((0 : Int32) = 0 ∨ (0 : Int32) = 1) ∧ P (0 : Int32) M40)) (fun _ _ => False))) b36 s36)) else ((0 : Int32) = 0 ∨ (0 : Int32) = 1) ∧ P (0 : Int32) M13))) (fun _ _ => False)) n112 M9 (0 + b8) (0 + s8) x0 x1 x2 r2 r4 (0 : Int32) (((1 : Int32) <<< (r7 &&& 31)) ||| (0 : Int32)) r8 r4) else ((0 : Int32) = 0 ∨ (0 : Int32) = 1) ∧ P (0 : Int32) M9)) (fun _ _ => False)) b8 s8)))))
set_option maxHeartbeats 4000000 in
set_option maxRecDepth 100000 in
theorem c_L_asks (l : Launch) (E : EV) (M : Mm) (x0 : Nat) (x1 : Nat) (x2 : Nat) (P : Int32 → Mm → Prop) (B S : Nat) (h : w_L_asks M x0 x1 x2 P B S) : CtI l E yL_asks cL_asks 12 .boolean (rm_L_asks B S) B S [.ref x0, .ref x1, .ref x2] M P := by
  refine ctI_of (by decide +kernel) (Nat.le_of_ble_eq_true rfl) ?_
  intro p e s m args below meth c C
  rw [w_L_asks] at h
  have hb : 0 ≤ B := Nat.zero_le _
  have hs : 0 ≤ S := Nat.zero_le _
  show J p l e (rm_L_asks B S) s m args below meth c (QI below E P args s B S) E 12 M 0 0 0 [(0, .ref x0), (1, .ref x1), (2, .ref x2)] []
  refine j_aload_n (pc := 0) C 2 dL_asks_0 rfl ?_
  refine j_aload_n (pc := 1) C 1 dL_asks_1 rfl ?_
  refine gf_L_60 (pc := 2) C dL_asks_2 h (fun h => ?_)
  refine c2_L_39 (pc := 5) C ⟨(Nat.le_of_ble_eq_true rfl), (Nat.le_of_ble_eq_true rfl)⟩ ⟨hb, hs⟩ (Nat.le_of_ble_eq_true rfl) dL_asks_5 h (fun r2 M2 h => ?_)
  refine j_istore_n (pc := 8) C [(3, _), (0, _), (1, _), (2, _)] dL_asks_8 (by decide) rfl ?_
  refine j_aload_n (pc := 9) C 3 dL_asks_9 rfl ?_
  refine j_iconst (pc := 10) (v := (3 : Int32)) C dL_asks_10 rfl ?_
  refine j_aload_n (pc := 11) C 2 dL_asks_11 rfl ?_
  refine gf_L_43 (pc := 12) C dL_asks_12 h (fun h => ?_)
  refine j_imul (pc := 15) C dL_asks_15 ?_
  refine c2_L_39 (pc := 16) C ⟨(Nat.le_of_ble_eq_true rfl), (Nat.le_of_ble_eq_true rfl)⟩ ⟨hb, hs⟩ (Nat.le_of_ble_eq_true rfl) dL_asks_16 h (fun r4 M4 h => ?_)
  refine j_istore (pc := 19) C [(4, _), (3, _), (0, _), (1, _), (2, _)] dL_asks_19 (by decide) rfl ?_
  refine j_aload_n (pc := 21) C 4 dL_asks_21 rfl ?_
  refine j_iconst (pc := 22) (v := (2 : Int32)) C dL_asks_22 rfl ?_
  refine c2_L_39 (pc := 23) C ⟨(Nat.le_of_ble_eq_true rfl), (Nat.le_of_ble_eq_true rfl)⟩ ⟨hb, hs⟩ (Nat.le_of_ble_eq_true rfl) dL_asks_23 h (fun r5 M5 h => ?_)
  refine j_if_ne (pc := 26) C 33 dL_asks_26 (by decide) h (fun h => ?_) (fun h => ?_)
  · refine j_iconst (pc := 33) (v := (0 : Int32)) C dL_asks_33 rfl ?_
    refine j_istore (pc := 34) C [(5, _), (4, _), (3, _), (0, _), (1, _), (2, _)] dL_asks_34 (by decide) rfl ?_
    refine j_iconst (pc := 36) (v := (1 : Int32)) C dL_asks_36 rfl ?_
    refine j_aload_n (pc := 37) C 5 dL_asks_37 rfl ?_
    refine j_aload_n (pc := 38) C 4 dL_asks_38 rfl ?_
    refine gf_L_100 (pc := 39) C dL_asks_39 h (fun h => ?_)
    refine c2_L_39 (pc := 42) C ⟨(Nat.le_of_ble_eq_true rfl), (Nat.le_of_ble_eq_true rfl)⟩ ⟨hb, hs⟩ (Nat.le_of_ble_eq_true rfl) dL_asks_42 h (fun r7 M7 h => ?_)
    refine j_ishl (pc := 45) C dL_asks_45 ?_
    refine j_iload (pc := 46) C 0 dL_asks_46 rfl ?_
    refine j_if_eq (pc := 48) (A := True) (B := False) C 72 dL_asks_48 (by decide) (by first | rw [if_pos (by decide)] ; trivial | rw [if_neg (by decide)] ; trivial) (fun _ => ?_) (fun z => z.elim)
    refine j_iconst (pc := 72) (v := (0 : Int32)) C dL_asks_72 rfl ?_
    refine j_ior (pc := 73) C dL_asks_73 ?_
    refine j_istore (pc := 74) C [(6, _), (5, _), (4, _), (3, _), (0, _), (1, _), (2, _)] dL_asks_74 (by decide) rfl ?_
    refine j_aload_n (pc := 76) C 5 dL_asks_76 rfl ?_
    refine j_iload_n (pc := 77) C 3 dL_asks_77 rfl ?_
    refine j_iload (pc := 78) C 2 dL_asks_78 rfl ?_
    refine j_iload (pc := 80) C 0 dL_asks_80 rfl ?_
    refine j_iload (pc := 82) C 1 dL_asks_82 rfl ?_
    refine j_iconst (pc := 84) (v := (-1 : Int32)) C dL_asks_84 rfl ?_
    obtain ⟨b8, s8, hb, hs, h⟩ := h
    refine c2_L_217 (pc := 85) C ⟨(Nat.le_of_ble_eq_true rfl), (Nat.le_of_ble_eq_true rfl)⟩ ⟨hb, hs⟩ (Nat.le_of_ble_eq_true rfl) dL_asks_85 h (fun r8 M8 h => ?_)
    refine j_istore (pc := 88) C [(7, _), (6, _), (5, _), (4, _), (3, _), (0, _), (1, _), (2, _)] dL_asks_88 (by decide) rfl ?_
    refine j_aload_n (pc := 90) C 5 dL_asks_90 rfl ?_
    refine j_iload_n (pc := 91) C 4 dL_asks_91 rfl ?_
    refine j_iload (pc := 92) C 3 dL_asks_92 rfl ?_
    refine j_iload (pc := 94) C 1 dL_asks_94 rfl ?_
    refine j_iload (pc := 96) C 2 dL_asks_96 rfl ?_
    refine c2_L_221 (pc := 98) C ⟨(Nat.le_of_ble_eq_true rfl), (Nat.le_of_ble_eq_true rfl)⟩ ⟨hb, hs⟩ (Nat.le_of_ble_eq_true rfl) dL_asks_98 h (fun r9 M9 h => ?_)
    refine j_iload (pc := 101) C 0 dL_asks_101 rfl ?_
    refine j_icmp_eq (pc := 103) C 108 dL_asks_103 (by decide) h (fun h => ?_) (fun h => ?_)
    · refine j_iload (pc := 108) C 3 dL_asks_108 rfl ?_
      refine j_istore (pc := 110) C [(8, _), (7, _), (6, _), (5, _), (4, _), (3, _), (0, _), (1, _), (2, _)] dL_asks_110 (by decide) rfl ?_
      obtain ⟨n112, h⟩ := h
      refine j_weak [6, 7, 8, 5, 4, 3, 2, 1, 0] rfl (jl_L_asks_112 C (fun M12 b12 s12 x0_12 x1_12 x2_12 x3_12 x4_12 x5_12 x6_12 x7_12 x8_12 hb hs h => ?_) n112 _ _ _ _ _ _ _ _ _ _ _ _ hb hs h)
      · refine j_aload_n (pc := 144) C 0 dL_asks_144 rfl ?_
        refine j_iload_n (pc := 145) C 3 dL_asks_145 rfl ?_
        refine j_iload (pc := 146) C 4 dL_asks_146 rfl ?_
        refine j_iload (pc := 148) C 6 dL_asks_148 rfl ?_
        refine j_iload (pc := 150) C 5 dL_asks_150 rfl ?_
        refine c2_L_225 (pc := 152) C ⟨(Nat.le_of_ble_eq_true rfl), (Nat.le_of_ble_eq_true rfl)⟩ ⟨hb, hs⟩ (Nat.le_of_ble_eq_true rfl) dL_asks_152 h (fun r13 M13 h => ?_)
        refine j_iload (pc := 155) C 8 dL_asks_155 rfl ?_
        refine j_iconst (pc := 157) (v := (3 : Int32)) C dL_asks_157 rfl ?_
        refine j_aload_n (pc := 158) C 1 dL_asks_158 rfl ?_
        refine gf_L_43 (pc := 159) C dL_asks_159 h (fun h => ?_)
        refine j_imul (pc := 162) C dL_asks_162 ?_
        refine j_icmp_ge (pc := 163) C 171 dL_asks_163 (by decide) h (fun h => ?_) (fun h => ?_)
        · refine j_iconst (pc := 171) (v := (-1 : Int32)) C dL_asks_171 rfl ?_
          refine j_icmp_eq (pc := 172) C 177 dL_asks_172 (by decide) h (fun h => ?_) (fun h => ?_)
          · refine j_iconst (pc := 177) (v := (-1 : Int32)) C dL_asks_177 rfl ?_
            refine j_istore (pc := 178) C [(9, _), (0, _), (1, _), (2, _), (3, _), (4, _), (5, _), (6, _), (7, _), (8, _)] dL_asks_178 (by decide) rfl ?_
            refine j_iload (pc := 180) C 8 dL_asks_180 rfl ?_
            refine j_if_ne (pc := 182) C 211 dL_asks_182 (by decide) h (fun h => ?_) (fun h => ?_)
            · refine j_aload_n (pc := 211) C 3 dL_asks_211 rfl ?_
              refine j_aload_n (pc := 212) C 2 dL_asks_212 rfl ?_
              refine gf_L_100 (pc := 213) C dL_asks_213 h (fun h => ?_)
              refine c2_L_39 (pc := 216) C ⟨(Nat.le_of_ble_eq_true rfl), (Nat.le_of_ble_eq_true rfl)⟩ ⟨hb, hs⟩ (Nat.le_of_ble_eq_true rfl) dL_asks_216 h (fun r16 M16 h => ?_)
              refine j_istore (pc := 219) C [(10, _), (9, _), (0, _), (1, _), (2, _), (3, _), (4, _), (5, _), (6, _), (7, _), (8, _)] dL_asks_219 (by decide) rfl ?_
              refine j_aload_n (pc := 221) C 3 dL_asks_221 rfl ?_
              refine j_iload (pc := 222) C 0 dL_asks_222 rfl ?_
              refine j_iload (pc := 224) C 6 dL_asks_224 rfl ?_
              refine j_iconst (pc := 226) (v := (-1 : Int32)) C dL_asks_226 rfl ?_
              obtain ⟨b17, s17, hb, hs, h⟩ := h
              refine c2_L_235 (pc := 227) C ⟨(Nat.le_of_ble_eq_true rfl), (Nat.le_of_ble_eq_true rfl)⟩ ⟨hb, hs⟩ (Nat.le_of_ble_eq_true rfl) dL_asks_227 h (fun r17 M17 h => ?_)
              obtain ⟨h1_17, h0_17⟩ := h
              rcases r17 with _ | a17
              · have h := h0_17 rfl
                refine j_astoreN (pc := 230) C [(11, _), (10, _), (9, _), (0, _), (1, _), (2, _), (3, _), (4, _), (5, _), (6, _), (7, _), (8, _)] dL_asks_230 (by decide) rfl ?_
                refine j_aload_n (pc := 232) C 3 dL_asks_232 rfl ?_
                refine j_iload_n (pc := 233) C 6 dL_asks_233 rfl ?_
                refine j_iload (pc := 234) C 7 dL_asks_234 rfl ?_
                refine j_iload (pc := 236) C 9 dL_asks_236 rfl ?_
                refine j_iload (pc := 238) C 8 dL_asks_238 rfl ?_
                refine c2_L_238 (pc := 240) C ⟨(Nat.le_of_ble_eq_true rfl), (Nat.le_of_ble_eq_true rfl)⟩ ⟨hb, hs⟩ (Nat.le_of_ble_eq_true rfl) dL_asks_240 h (fun r21 M21 h => ?_)
                refine j_iload (pc := 243) C 2 dL_asks_243 rfl ?_
                refine j_icmp_ne (pc := 245) C 280 dL_asks_245 (by decide) h (fun h => ?_) (fun h => ?_)
                · refine j_iconst (pc := 280) (v := (0 : Int32)) C dL_asks_280 rfl ?_
                  exact j_zret (pc := 281) C dL_asks_281 hb hs h
                · refine j_aload_n (pc := 248) C 3 dL_asks_248 rfl ?_
                  refine j_iload (pc := 249) C 1 dL_asks_249 rfl ?_
                  refine j_iload (pc := 251) C 7 dL_asks_251 rfl ?_
                  refine c2_L_241 (pc := 253) C ⟨(Nat.le_of_ble_eq_true rfl), (Nat.le_of_ble_eq_true rfl)⟩ ⟨hb, hs⟩ (Nat.le_of_ble_eq_true rfl) dL_asks_253 h (fun r22 M22 h => ?_)
                  refine j_aloadN (pc := 256) C 0 dL_asks_256 rfl ?_
                  refine j_ifnnN (pc := 258) C dL_asks_258 ?_
                  refine j_iconst (pc := 261) (v := (-1 : Int32)) C dL_asks_261 rfl ?_
                  refine j_goto (pc := 262) C 273 dL_asks_262 (by decide) ?_
                  refine j_icmp_ne (pc := 273) C 280 dL_asks_273 (by decide) h (fun h => ?_) (fun h => ?_)
                  · refine j_iconst (pc := 280) (v := (0 : Int32)) C dL_asks_280 rfl ?_
                    exact j_zret (pc := 281) C dL_asks_281 hb hs h
                  · refine j_iconst (pc := 276) (v := (1 : Int32)) C dL_asks_276 rfl ?_
                    refine j_goto (pc := 277) C 281 dL_asks_277 (by decide) ?_
                    exact j_zret (pc := 281) C dL_asks_281 hb hs h
              · have h := h1_17 a17 rfl
                refine j_astore (pc := 230) C [(11, _), (10, _), (9, _), (0, _), (1, _), (2, _), (3, _), (4, _), (5, _), (6, _), (7, _), (8, _)] dL_asks_230 (by decide) rfl ?_
                refine j_aload_n (pc := 232) C 3 dL_asks_232 rfl ?_
                refine j_iload_n (pc := 233) C 6 dL_asks_233 rfl ?_
                refine j_iload (pc := 234) C 7 dL_asks_234 rfl ?_
                refine j_iload (pc := 236) C 9 dL_asks_236 rfl ?_
                refine j_iload (pc := 238) C 8 dL_asks_238 rfl ?_
                refine c2_L_238 (pc := 240) C ⟨(Nat.le_of_ble_eq_true rfl), (Nat.le_of_ble_eq_true rfl)⟩ ⟨hb, hs⟩ (Nat.le_of_ble_eq_true rfl) dL_asks_240 h (fun r18 M18 h => ?_)
                refine j_iload (pc := 243) C 2 dL_asks_243 rfl ?_
                refine j_icmp_ne (pc := 245) C 280 dL_asks_245 (by decide) h (fun h => ?_) (fun h => ?_)
                · refine j_iconst (pc := 280) (v := (0 : Int32)) C dL_asks_280 rfl ?_
                  exact j_zret (pc := 281) C dL_asks_281 hb hs h
                · refine j_aload_n (pc := 248) C 3 dL_asks_248 rfl ?_
                  refine j_iload (pc := 249) C 1 dL_asks_249 rfl ?_
                  refine j_iload (pc := 251) C 7 dL_asks_251 rfl ?_
                  refine c2_L_241 (pc := 253) C ⟨(Nat.le_of_ble_eq_true rfl), (Nat.le_of_ble_eq_true rfl)⟩ ⟨hb, hs⟩ (Nat.le_of_ble_eq_true rfl) dL_asks_253 h (fun r19 M19 h => ?_)
                  refine j_aload (pc := 256) C 0 dL_asks_256 rfl ?_
                  refine j_ifnnA (pc := 258) C 265 dL_asks_258 (by decide) ?_
                  refine j_aload_n (pc := 265) C 4 dL_asks_265 rfl ?_
                  refine j_iload (pc := 266) C 1 dL_asks_266 rfl ?_
                  refine j_aload (pc := 268) C 0 dL_asks_268 rfl ?_
                  refine c2_L_166 (pc := 270) C ⟨(Nat.le_of_ble_eq_true rfl), (Nat.le_of_ble_eq_true rfl)⟩ ⟨hb, hs⟩ (Nat.le_of_ble_eq_true rfl) dL_asks_270 h (fun r20 M20 h => ?_)
                  refine j_icmp_ne (pc := 273) C 280 dL_asks_273 (by decide) h (fun h => ?_) (fun h => ?_)
                  · refine j_iconst (pc := 280) (v := (0 : Int32)) C dL_asks_280 rfl ?_
                    exact j_zret (pc := 281) C dL_asks_281 hb hs h
                  · refine j_iconst (pc := 276) (v := (1 : Int32)) C dL_asks_276 rfl ?_
                    refine j_goto (pc := 277) C 281 dL_asks_277 (by decide) ?_
                    exact j_zret (pc := 281) C dL_asks_281 hb hs h
            · refine j_aload_n (pc := 185) C 2 dL_asks_185 rfl ?_
              refine j_iload_n (pc := 186) C 4 dL_asks_186 rfl ?_
              refine j_iload (pc := 187) C 5 dL_asks_187 rfl ?_
              refine j_iload (pc := 189) C 7 dL_asks_189 rfl ?_
              refine j_iload (pc := 191) C 6 dL_asks_191 rfl ?_
              obtain ⟨b23, s23, hb, hs, h⟩ := h
              refine c2_L_228 (pc := 193) C ⟨(Nat.le_of_ble_eq_true rfl), (Nat.le_of_ble_eq_true rfl)⟩ ⟨hb, hs⟩ (Nat.le_of_ble_eq_true rfl) dL_asks_193 h (fun r23 M23 h => ?_)
              refine j_istore (pc := 196) C [(10, _), (9, _), (0, _), (1, _), (2, _), (3, _), (4, _), (5, _), (6, _), (7, _), (8, _)] dL_asks_196 (by decide) rfl ?_
              refine j_aload_n (pc := 198) C 3 dL_asks_198 rfl ?_
              refine j_iconst (pc := 199) (v := (3 : Int32)) C dL_asks_199 rfl ?_
              refine c2_L_203 (pc := 200) C ⟨(Nat.le_of_ble_eq_true rfl), (Nat.le_of_ble_eq_true rfl)⟩ ⟨hb, hs⟩ (Nat.le_of_ble_eq_true rfl) dL_asks_200 h (fun r24 M24 h => ?_)
              refine j_istore (pc := 203) C [(9, _), (10, _), (0, _), (1, _), (2, _), (3, _), (4, _), (5, _), (6, _), (7, _), (8, _)] dL_asks_203 (by decide) rfl ?_
              refine j_aload_n (pc := 205) C 3 dL_asks_205 rfl ?_
              refine j_iload (pc := 206) C 1 dL_asks_206 rfl ?_
              refine c2_L_231 (pc := 208) C ⟨(Nat.le_of_ble_eq_true rfl), (Nat.le_of_ble_eq_true rfl)⟩ ⟨hb, hs⟩ (Nat.le_of_ble_eq_true rfl) dL_asks_208 h (fun M25 h => ?_)
              refine j_aload_n (pc := 211) C 4 dL_asks_211 rfl ?_
              refine j_aload_n (pc := 212) C 3 dL_asks_212 rfl ?_
              refine gf_L_100 (pc := 213) C dL_asks_213 h (fun h => ?_)
              refine c2_L_39 (pc := 216) C ⟨(Nat.le_of_ble_eq_true rfl), (Nat.le_of_ble_eq_true rfl)⟩ ⟨hb, hs⟩ (Nat.le_of_ble_eq_true rfl) dL_asks_216 h (fun r27 M27 h => ?_)
              refine j_istore (pc := 219) C [(10, _), (9, _), (0, _), (1, _), (2, _), (3, _), (4, _), (5, _), (6, _), (7, _), (8, _)] dL_asks_219 (by decide) rfl ?_
              refine j_aload_n (pc := 221) C 3 dL_asks_221 rfl ?_
              refine j_iload (pc := 222) C 0 dL_asks_222 rfl ?_
              refine j_iload (pc := 224) C 6 dL_asks_224 rfl ?_
              refine j_iconst (pc := 226) (v := (-1 : Int32)) C dL_asks_226 rfl ?_
              obtain ⟨b28, s28, hb, hs, h⟩ := h
              refine c2_L_235 (pc := 227) C ⟨(Nat.le_of_ble_eq_true rfl), (Nat.le_of_ble_eq_true rfl)⟩ ⟨hb, hs⟩ (Nat.le_of_ble_eq_true rfl) dL_asks_227 h (fun r28 M28 h => ?_)
              obtain ⟨h1_28, h0_28⟩ := h
              rcases r28 with _ | a28
              · have h := h0_28 rfl
                refine j_astoreN (pc := 230) C [(11, _), (10, _), (9, _), (0, _), (1, _), (2, _), (3, _), (4, _), (5, _), (6, _), (7, _), (8, _)] dL_asks_230 (by decide) rfl ?_
                refine j_aload_n (pc := 232) C 3 dL_asks_232 rfl ?_
                refine j_iload_n (pc := 233) C 6 dL_asks_233 rfl ?_
                refine j_iload (pc := 234) C 7 dL_asks_234 rfl ?_
                refine j_iload (pc := 236) C 9 dL_asks_236 rfl ?_
                refine j_iload (pc := 238) C 8 dL_asks_238 rfl ?_
                refine c2_L_238 (pc := 240) C ⟨(Nat.le_of_ble_eq_true rfl), (Nat.le_of_ble_eq_true rfl)⟩ ⟨hb, hs⟩ (Nat.le_of_ble_eq_true rfl) dL_asks_240 h (fun r32 M32 h => ?_)
                refine j_iload (pc := 243) C 2 dL_asks_243 rfl ?_
                refine j_icmp_ne (pc := 245) C 280 dL_asks_245 (by decide) h (fun h => ?_) (fun h => ?_)
                · refine j_iconst (pc := 280) (v := (0 : Int32)) C dL_asks_280 rfl ?_
                  exact j_zret (pc := 281) C dL_asks_281 hb hs h
                · refine j_aload_n (pc := 248) C 3 dL_asks_248 rfl ?_
                  refine j_iload (pc := 249) C 1 dL_asks_249 rfl ?_
                  refine j_iload (pc := 251) C 7 dL_asks_251 rfl ?_
                  refine c2_L_241 (pc := 253) C ⟨(Nat.le_of_ble_eq_true rfl), (Nat.le_of_ble_eq_true rfl)⟩ ⟨hb, hs⟩ (Nat.le_of_ble_eq_true rfl) dL_asks_253 h (fun r33 M33 h => ?_)
                  refine j_aloadN (pc := 256) C 0 dL_asks_256 rfl ?_
                  refine j_ifnnN (pc := 258) C dL_asks_258 ?_
                  refine j_iconst (pc := 261) (v := (-1 : Int32)) C dL_asks_261 rfl ?_
                  refine j_goto (pc := 262) C 273 dL_asks_262 (by decide) ?_
                  refine j_icmp_ne (pc := 273) C 280 dL_asks_273 (by decide) h (fun h => ?_) (fun h => ?_)
                  · refine j_iconst (pc := 280) (v := (0 : Int32)) C dL_asks_280 rfl ?_
                    exact j_zret (pc := 281) C dL_asks_281 hb hs h
                  · refine j_iconst (pc := 276) (v := (1 : Int32)) C dL_asks_276 rfl ?_
                    refine j_goto (pc := 277) C 281 dL_asks_277 (by decide) ?_
                    exact j_zret (pc := 281) C dL_asks_281 hb hs h
              · have h := h1_28 a28 rfl
                refine j_astore (pc := 230) C [(11, _), (10, _), (9, _), (0, _), (1, _), (2, _), (3, _), (4, _), (5, _), (6, _), (7, _), (8, _)] dL_asks_230 (by decide) rfl ?_
                refine j_aload_n (pc := 232) C 3 dL_asks_232 rfl ?_
                refine j_iload_n (pc := 233) C 6 dL_asks_233 rfl ?_
                refine j_iload (pc := 234) C 7 dL_asks_234 rfl ?_
                refine j_iload (pc := 236) C 9 dL_asks_236 rfl ?_
                refine j_iload (pc := 238) C 8 dL_asks_238 rfl ?_
                refine c2_L_238 (pc := 240) C ⟨(Nat.le_of_ble_eq_true rfl), (Nat.le_of_ble_eq_true rfl)⟩ ⟨hb, hs⟩ (Nat.le_of_ble_eq_true rfl) dL_asks_240 h (fun r29 M29 h => ?_)
                refine j_iload (pc := 243) C 2 dL_asks_243 rfl ?_
                refine j_icmp_ne (pc := 245) C 280 dL_asks_245 (by decide) h (fun h => ?_) (fun h => ?_)
                · refine j_iconst (pc := 280) (v := (0 : Int32)) C dL_asks_280 rfl ?_
                  exact j_zret (pc := 281) C dL_asks_281 hb hs h
                · refine j_aload_n (pc := 248) C 3 dL_asks_248 rfl ?_
                  refine j_iload (pc := 249) C 1 dL_asks_249 rfl ?_
                  refine j_iload (pc := 251) C 7 dL_asks_251 rfl ?_
                  refine c2_L_241 (pc := 253) C ⟨(Nat.le_of_ble_eq_true rfl), (Nat.le_of_ble_eq_true rfl)⟩ ⟨hb, hs⟩ (Nat.le_of_ble_eq_true rfl) dL_asks_253 h (fun r30 M30 h => ?_)
                  refine j_aload (pc := 256) C 0 dL_asks_256 rfl ?_
                  refine j_ifnnA (pc := 258) C 265 dL_asks_258 (by decide) ?_
                  refine j_aload_n (pc := 265) C 4 dL_asks_265 rfl ?_
                  refine j_iload (pc := 266) C 1 dL_asks_266 rfl ?_
                  refine j_aload (pc := 268) C 0 dL_asks_268 rfl ?_
                  refine c2_L_166 (pc := 270) C ⟨(Nat.le_of_ble_eq_true rfl), (Nat.le_of_ble_eq_true rfl)⟩ ⟨hb, hs⟩ (Nat.le_of_ble_eq_true rfl) dL_asks_270 h (fun r31 M31 h => ?_)
                  refine j_icmp_ne (pc := 273) C 280 dL_asks_273 (by decide) h (fun h => ?_) (fun h => ?_)
                  · refine j_iconst (pc := 280) (v := (0 : Int32)) C dL_asks_280 rfl ?_
                    exact j_zret (pc := 281) C dL_asks_281 hb hs h
                  · refine j_iconst (pc := 276) (v := (1 : Int32)) C dL_asks_276 rfl ?_
                    refine j_goto (pc := 277) C 281 dL_asks_277 (by decide) ?_
                    exact j_zret (pc := 281) C dL_asks_281 hb hs h
          · refine j_iconst (pc := 175) (v := (0 : Int32)) C dL_asks_175 rfl ?_
            exact j_zret (pc := 176) C dL_asks_176 hb hs h
        · refine j_iload (pc := 166) C 8 dL_asks_166 rfl ?_
          refine j_goto (pc := 168) C 172 dL_asks_168 (by decide) ?_
          refine j_icmp_eq (pc := 172) C 177 dL_asks_172 (by decide) h (fun h => ?_) (fun h => ?_)
          · refine j_iconst (pc := 177) (v := (-1 : Int32)) C dL_asks_177 rfl ?_
            refine j_istore (pc := 178) C [(9, _), (0, _), (1, _), (2, _), (3, _), (4, _), (5, _), (6, _), (7, _), (8, _)] dL_asks_178 (by decide) rfl ?_
            refine j_iload (pc := 180) C 8 dL_asks_180 rfl ?_
            refine j_if_ne (pc := 182) C 211 dL_asks_182 (by decide) h (fun h => ?_) (fun h => ?_)
            · refine j_aload_n (pc := 211) C 3 dL_asks_211 rfl ?_
              refine j_aload_n (pc := 212) C 2 dL_asks_212 rfl ?_
              refine gf_L_100 (pc := 213) C dL_asks_213 h (fun h => ?_)
              refine c2_L_39 (pc := 216) C ⟨(Nat.le_of_ble_eq_true rfl), (Nat.le_of_ble_eq_true rfl)⟩ ⟨hb, hs⟩ (Nat.le_of_ble_eq_true rfl) dL_asks_216 h (fun r35 M35 h => ?_)
              refine j_istore (pc := 219) C [(10, _), (9, _), (0, _), (1, _), (2, _), (3, _), (4, _), (5, _), (6, _), (7, _), (8, _)] dL_asks_219 (by decide) rfl ?_
              refine j_aload_n (pc := 221) C 3 dL_asks_221 rfl ?_
              refine j_iload (pc := 222) C 0 dL_asks_222 rfl ?_
              refine j_iload (pc := 224) C 6 dL_asks_224 rfl ?_
              refine j_iconst (pc := 226) (v := (-1 : Int32)) C dL_asks_226 rfl ?_
              obtain ⟨b36, s36, hb, hs, h⟩ := h
              refine c2_L_235 (pc := 227) C ⟨(Nat.le_of_ble_eq_true rfl), (Nat.le_of_ble_eq_true rfl)⟩ ⟨hb, hs⟩ (Nat.le_of_ble_eq_true rfl) dL_asks_227 h (fun r36 M36 h => ?_)
              obtain ⟨h1_36, h0_36⟩ := h
              rcases r36 with _ | a36
              · have h := h0_36 rfl
                refine j_astoreN (pc := 230) C [(11, _), (10, _), (9, _), (0, _), (1, _), (2, _), (3, _), (4, _), (5, _), (6, _), (7, _), (8, _)] dL_asks_230 (by decide) rfl ?_
                refine j_aload_n (pc := 232) C 3 dL_asks_232 rfl ?_
                refine j_iload_n (pc := 233) C 6 dL_asks_233 rfl ?_
                refine j_iload (pc := 234) C 7 dL_asks_234 rfl ?_
                refine j_iload (pc := 236) C 9 dL_asks_236 rfl ?_
                refine j_iload (pc := 238) C 8 dL_asks_238 rfl ?_
                refine c2_L_238 (pc := 240) C ⟨(Nat.le_of_ble_eq_true rfl), (Nat.le_of_ble_eq_true rfl)⟩ ⟨hb, hs⟩ (Nat.le_of_ble_eq_true rfl) dL_asks_240 h (fun r40 M40 h => ?_)
                refine j_iload (pc := 243) C 2 dL_asks_243 rfl ?_
                refine j_icmp_ne (pc := 245) C 280 dL_asks_245 (by decide) h (fun h => ?_) (fun h => ?_)
                · refine j_iconst (pc := 280) (v := (0 : Int32)) C dL_asks_280 rfl ?_
                  exact j_zret (pc := 281) C dL_asks_281 hb hs h
                · refine j_aload_n (pc := 248) C 3 dL_asks_248 rfl ?_
                  refine j_iload (pc := 249) C 1 dL_asks_249 rfl ?_
                  refine j_iload (pc := 251) C 7 dL_asks_251 rfl ?_
                  refine c2_L_241 (pc := 253) C ⟨(Nat.le_of_ble_eq_true rfl), (Nat.le_of_ble_eq_true rfl)⟩ ⟨hb, hs⟩ (Nat.le_of_ble_eq_true rfl) dL_asks_253 h (fun r41 M41 h => ?_)
                  refine j_aloadN (pc := 256) C 0 dL_asks_256 rfl ?_
                  refine j_ifnnN (pc := 258) C dL_asks_258 ?_
                  refine j_iconst (pc := 261) (v := (-1 : Int32)) C dL_asks_261 rfl ?_
                  refine j_goto (pc := 262) C 273 dL_asks_262 (by decide) ?_
                  refine j_icmp_ne (pc := 273) C 280 dL_asks_273 (by decide) h (fun h => ?_) (fun h => ?_)
                  · refine j_iconst (pc := 280) (v := (0 : Int32)) C dL_asks_280 rfl ?_
                    exact j_zret (pc := 281) C dL_asks_281 hb hs h
                  · refine j_iconst (pc := 276) (v := (1 : Int32)) C dL_asks_276 rfl ?_
                    refine j_goto (pc := 277) C 281 dL_asks_277 (by decide) ?_
                    exact j_zret (pc := 281) C dL_asks_281 hb hs h
              · have h := h1_36 a36 rfl
                refine j_astore (pc := 230) C [(11, _), (10, _), (9, _), (0, _), (1, _), (2, _), (3, _), (4, _), (5, _), (6, _), (7, _), (8, _)] dL_asks_230 (by decide) rfl ?_
                refine j_aload_n (pc := 232) C 3 dL_asks_232 rfl ?_
                refine j_iload_n (pc := 233) C 6 dL_asks_233 rfl ?_
                refine j_iload (pc := 234) C 7 dL_asks_234 rfl ?_
                refine j_iload (pc := 236) C 9 dL_asks_236 rfl ?_
                refine j_iload (pc := 238) C 8 dL_asks_238 rfl ?_
                refine c2_L_238 (pc := 240) C ⟨(Nat.le_of_ble_eq_true rfl), (Nat.le_of_ble_eq_true rfl)⟩ ⟨hb, hs⟩ (Nat.le_of_ble_eq_true rfl) dL_asks_240 h (fun r37 M37 h => ?_)
                refine j_iload (pc := 243) C 2 dL_asks_243 rfl ?_
                refine j_icmp_ne (pc := 245) C 280 dL_asks_245 (by decide) h (fun h => ?_) (fun h => ?_)
                · refine j_iconst (pc := 280) (v := (0 : Int32)) C dL_asks_280 rfl ?_
                  exact j_zret (pc := 281) C dL_asks_281 hb hs h
                · refine j_aload_n (pc := 248) C 3 dL_asks_248 rfl ?_
                  refine j_iload (pc := 249) C 1 dL_asks_249 rfl ?_
                  refine j_iload (pc := 251) C 7 dL_asks_251 rfl ?_
                  refine c2_L_241 (pc := 253) C ⟨(Nat.le_of_ble_eq_true rfl), (Nat.le_of_ble_eq_true rfl)⟩ ⟨hb, hs⟩ (Nat.le_of_ble_eq_true rfl) dL_asks_253 h (fun r38 M38 h => ?_)
                  refine j_aload (pc := 256) C 0 dL_asks_256 rfl ?_
                  refine j_ifnnA (pc := 258) C 265 dL_asks_258 (by decide) ?_
                  refine j_aload_n (pc := 265) C 4 dL_asks_265 rfl ?_
                  refine j_iload (pc := 266) C 1 dL_asks_266 rfl ?_
                  refine j_aload (pc := 268) C 0 dL_asks_268 rfl ?_
                  refine c2_L_166 (pc := 270) C ⟨(Nat.le_of_ble_eq_true rfl), (Nat.le_of_ble_eq_true rfl)⟩ ⟨hb, hs⟩ (Nat.le_of_ble_eq_true rfl) dL_asks_270 h (fun r39 M39 h => ?_)
                  refine j_icmp_ne (pc := 273) C 280 dL_asks_273 (by decide) h (fun h => ?_) (fun h => ?_)
                  · refine j_iconst (pc := 280) (v := (0 : Int32)) C dL_asks_280 rfl ?_
                    exact j_zret (pc := 281) C dL_asks_281 hb hs h
                  · refine j_iconst (pc := 276) (v := (1 : Int32)) C dL_asks_276 rfl ?_
                    refine j_goto (pc := 277) C 281 dL_asks_277 (by decide) ?_
                    exact j_zret (pc := 281) C dL_asks_281 hb hs h
            · refine j_aload_n (pc := 185) C 2 dL_asks_185 rfl ?_
              refine j_iload_n (pc := 186) C 4 dL_asks_186 rfl ?_
              refine j_iload (pc := 187) C 5 dL_asks_187 rfl ?_
              refine j_iload (pc := 189) C 7 dL_asks_189 rfl ?_
              refine j_iload (pc := 191) C 6 dL_asks_191 rfl ?_
              obtain ⟨b42, s42, hb, hs, h⟩ := h
              refine c2_L_228 (pc := 193) C ⟨(Nat.le_of_ble_eq_true rfl), (Nat.le_of_ble_eq_true rfl)⟩ ⟨hb, hs⟩ (Nat.le_of_ble_eq_true rfl) dL_asks_193 h (fun r42 M42 h => ?_)
              refine j_istore (pc := 196) C [(10, _), (9, _), (0, _), (1, _), (2, _), (3, _), (4, _), (5, _), (6, _), (7, _), (8, _)] dL_asks_196 (by decide) rfl ?_
              refine j_aload_n (pc := 198) C 3 dL_asks_198 rfl ?_
              refine j_iconst (pc := 199) (v := (3 : Int32)) C dL_asks_199 rfl ?_
              refine c2_L_203 (pc := 200) C ⟨(Nat.le_of_ble_eq_true rfl), (Nat.le_of_ble_eq_true rfl)⟩ ⟨hb, hs⟩ (Nat.le_of_ble_eq_true rfl) dL_asks_200 h (fun r43 M43 h => ?_)
              refine j_istore (pc := 203) C [(9, _), (10, _), (0, _), (1, _), (2, _), (3, _), (4, _), (5, _), (6, _), (7, _), (8, _)] dL_asks_203 (by decide) rfl ?_
              refine j_aload_n (pc := 205) C 3 dL_asks_205 rfl ?_
              refine j_iload (pc := 206) C 1 dL_asks_206 rfl ?_
              refine c2_L_231 (pc := 208) C ⟨(Nat.le_of_ble_eq_true rfl), (Nat.le_of_ble_eq_true rfl)⟩ ⟨hb, hs⟩ (Nat.le_of_ble_eq_true rfl) dL_asks_208 h (fun M44 h => ?_)
              refine j_aload_n (pc := 211) C 4 dL_asks_211 rfl ?_
              refine j_aload_n (pc := 212) C 3 dL_asks_212 rfl ?_
              refine gf_L_100 (pc := 213) C dL_asks_213 h (fun h => ?_)
              refine c2_L_39 (pc := 216) C ⟨(Nat.le_of_ble_eq_true rfl), (Nat.le_of_ble_eq_true rfl)⟩ ⟨hb, hs⟩ (Nat.le_of_ble_eq_true rfl) dL_asks_216 h (fun r46 M46 h => ?_)
              refine j_istore (pc := 219) C [(10, _), (9, _), (0, _), (1, _), (2, _), (3, _), (4, _), (5, _), (6, _), (7, _), (8, _)] dL_asks_219 (by decide) rfl ?_
              refine j_aload_n (pc := 221) C 3 dL_asks_221 rfl ?_
              refine j_iload (pc := 222) C 0 dL_asks_222 rfl ?_
              refine j_iload (pc := 224) C 6 dL_asks_224 rfl ?_
              refine j_iconst (pc := 226) (v := (-1 : Int32)) C dL_asks_226 rfl ?_
              obtain ⟨b47, s47, hb, hs, h⟩ := h
              refine c2_L_235 (pc := 227) C ⟨(Nat.le_of_ble_eq_true rfl), (Nat.le_of_ble_eq_true rfl)⟩ ⟨hb, hs⟩ (Nat.le_of_ble_eq_true rfl) dL_asks_227 h (fun r47 M47 h => ?_)
              obtain ⟨h1_47, h0_47⟩ := h
              rcases r47 with _ | a47
              · have h := h0_47 rfl
                refine j_astoreN (pc := 230) C [(11, _), (10, _), (9, _), (0, _), (1, _), (2, _), (3, _), (4, _), (5, _), (6, _), (7, _), (8, _)] dL_asks_230 (by decide) rfl ?_
                refine j_aload_n (pc := 232) C 3 dL_asks_232 rfl ?_
                refine j_iload_n (pc := 233) C 6 dL_asks_233 rfl ?_
                refine j_iload (pc := 234) C 7 dL_asks_234 rfl ?_
                refine j_iload (pc := 236) C 9 dL_asks_236 rfl ?_
                refine j_iload (pc := 238) C 8 dL_asks_238 rfl ?_
                refine c2_L_238 (pc := 240) C ⟨(Nat.le_of_ble_eq_true rfl), (Nat.le_of_ble_eq_true rfl)⟩ ⟨hb, hs⟩ (Nat.le_of_ble_eq_true rfl) dL_asks_240 h (fun r51 M51 h => ?_)
                refine j_iload (pc := 243) C 2 dL_asks_243 rfl ?_
                refine j_icmp_ne (pc := 245) C 280 dL_asks_245 (by decide) h (fun h => ?_) (fun h => ?_)
                · refine j_iconst (pc := 280) (v := (0 : Int32)) C dL_asks_280 rfl ?_
                  exact j_zret (pc := 281) C dL_asks_281 hb hs h
                · refine j_aload_n (pc := 248) C 3 dL_asks_248 rfl ?_
                  refine j_iload (pc := 249) C 1 dL_asks_249 rfl ?_
                  refine j_iload (pc := 251) C 7 dL_asks_251 rfl ?_
                  refine c2_L_241 (pc := 253) C ⟨(Nat.le_of_ble_eq_true rfl), (Nat.le_of_ble_eq_true rfl)⟩ ⟨hb, hs⟩ (Nat.le_of_ble_eq_true rfl) dL_asks_253 h (fun r52 M52 h => ?_)
                  refine j_aloadN (pc := 256) C 0 dL_asks_256 rfl ?_
                  refine j_ifnnN (pc := 258) C dL_asks_258 ?_
                  refine j_iconst (pc := 261) (v := (-1 : Int32)) C dL_asks_261 rfl ?_
                  refine j_goto (pc := 262) C 273 dL_asks_262 (by decide) ?_
                  refine j_icmp_ne (pc := 273) C 280 dL_asks_273 (by decide) h (fun h => ?_) (fun h => ?_)
                  · refine j_iconst (pc := 280) (v := (0 : Int32)) C dL_asks_280 rfl ?_
                    exact j_zret (pc := 281) C dL_asks_281 hb hs h
                  · refine j_iconst (pc := 276) (v := (1 : Int32)) C dL_asks_276 rfl ?_
                    refine j_goto (pc := 277) C 281 dL_asks_277 (by decide) ?_
                    exact j_zret (pc := 281) C dL_asks_281 hb hs h
              · have h := h1_47 a47 rfl
                refine j_astore (pc := 230) C [(11, _), (10, _), (9, _), (0, _), (1, _), (2, _), (3, _), (4, _), (5, _), (6, _), (7, _), (8, _)] dL_asks_230 (by decide) rfl ?_
                refine j_aload_n (pc := 232) C 3 dL_asks_232 rfl ?_
                refine j_iload_n (pc := 233) C 6 dL_asks_233 rfl ?_
                refine j_iload (pc := 234) C 7 dL_asks_234 rfl ?_
                refine j_iload (pc := 236) C 9 dL_asks_236 rfl ?_
                refine j_iload (pc := 238) C 8 dL_asks_238 rfl ?_
                refine c2_L_238 (pc := 240) C ⟨(Nat.le_of_ble_eq_true rfl), (Nat.le_of_ble_eq_true rfl)⟩ ⟨hb, hs⟩ (Nat.le_of_ble_eq_true rfl) dL_asks_240 h (fun r48 M48 h => ?_)
                refine j_iload (pc := 243) C 2 dL_asks_243 rfl ?_
                refine j_icmp_ne (pc := 245) C 280 dL_asks_245 (by decide) h (fun h => ?_) (fun h => ?_)
                · refine j_iconst (pc := 280) (v := (0 : Int32)) C dL_asks_280 rfl ?_
                  exact j_zret (pc := 281) C dL_asks_281 hb hs h
                · refine j_aload_n (pc := 248) C 3 dL_asks_248 rfl ?_
                  refine j_iload (pc := 249) C 1 dL_asks_249 rfl ?_
                  refine j_iload (pc := 251) C 7 dL_asks_251 rfl ?_
                  refine c2_L_241 (pc := 253) C ⟨(Nat.le_of_ble_eq_true rfl), (Nat.le_of_ble_eq_true rfl)⟩ ⟨hb, hs⟩ (Nat.le_of_ble_eq_true rfl) dL_asks_253 h (fun r49 M49 h => ?_)
                  refine j_aload (pc := 256) C 0 dL_asks_256 rfl ?_
                  refine j_ifnnA (pc := 258) C 265 dL_asks_258 (by decide) ?_
                  refine j_aload_n (pc := 265) C 4 dL_asks_265 rfl ?_
                  refine j_iload (pc := 266) C 1 dL_asks_266 rfl ?_
                  refine j_aload (pc := 268) C 0 dL_asks_268 rfl ?_
                  refine c2_L_166 (pc := 270) C ⟨(Nat.le_of_ble_eq_true rfl), (Nat.le_of_ble_eq_true rfl)⟩ ⟨hb, hs⟩ (Nat.le_of_ble_eq_true rfl) dL_asks_270 h (fun r50 M50 h => ?_)
                  refine j_icmp_ne (pc := 273) C 280 dL_asks_273 (by decide) h (fun h => ?_) (fun h => ?_)
                  · refine j_iconst (pc := 280) (v := (0 : Int32)) C dL_asks_280 rfl ?_
                    exact j_zret (pc := 281) C dL_asks_281 hb hs h
                  · refine j_iconst (pc := 276) (v := (1 : Int32)) C dL_asks_276 rfl ?_
                    refine j_goto (pc := 277) C 281 dL_asks_277 (by decide) ?_
                    exact j_zret (pc := 281) C dL_asks_281 hb hs h
          · refine j_iconst (pc := 175) (v := (0 : Int32)) C dL_asks_175 rfl ?_
            exact j_zret (pc := 176) C dL_asks_176 hb hs h
    · refine j_iconst (pc := 106) (v := (0 : Int32)) C dL_asks_106 rfl ?_
      exact j_zret (pc := 107) C dL_asks_107 hb hs h
  · refine j_iconst (pc := 29) (v := (1 : Int32)) C dL_asks_29 rfl ?_
    refine j_goto (pc := 30) C 34 dL_asks_30 (by decide) ?_
    refine j_istore (pc := 34) C [(5, _), (4, _), (3, _), (0, _), (1, _), (2, _)] dL_asks_34 (by decide) rfl ?_
    refine j_iconst (pc := 36) (v := (1 : Int32)) C dL_asks_36 rfl ?_
    refine j_aload_n (pc := 37) C 5 dL_asks_37 rfl ?_
    refine j_aload_n (pc := 38) C 4 dL_asks_38 rfl ?_
    refine gf_L_100 (pc := 39) C dL_asks_39 h (fun h => ?_)
    refine c2_L_39 (pc := 42) C ⟨(Nat.le_of_ble_eq_true rfl), (Nat.le_of_ble_eq_true rfl)⟩ ⟨hb, hs⟩ (Nat.le_of_ble_eq_true rfl) dL_asks_42 h (fun r54 M54 h => ?_)
    refine j_ishl (pc := 45) C dL_asks_45 ?_
    refine j_iload (pc := 46) C 0 dL_asks_46 rfl ?_
    refine j_if_eq (pc := 48) (A := False) (B := True) C 72 dL_asks_48 (by decide) (by first | rw [if_pos (by decide)] ; trivial | rw [if_neg (by decide)] ; trivial) (fun z => z.elim) (fun _ => ?_)
    refine j_aload_n (pc := 51) C 5 dL_asks_51 rfl ?_
    refine j_iconst (pc := 52) (v := (2 : Int32)) C dL_asks_52 rfl ?_
    refine c2_L_39 (pc := 53) C ⟨(Nat.le_of_ble_eq_true rfl), (Nat.le_of_ble_eq_true rfl)⟩ ⟨hb, hs⟩ (Nat.le_of_ble_eq_true rfl) dL_asks_53 h (fun r55 M55 h => ?_)
    refine j_if_ne (pc := 56) C 72 dL_asks_56 (by decide) h (fun h => ?_) (fun h => ?_)
    · refine j_iconst (pc := 72) (v := (0 : Int32)) C dL_asks_72 rfl ?_
      refine j_ior (pc := 73) C dL_asks_73 ?_
      refine j_istore (pc := 74) C [(6, _), (5, _), (4, _), (3, _), (0, _), (1, _), (2, _)] dL_asks_74 (by decide) rfl ?_
      refine j_aload_n (pc := 76) C 5 dL_asks_76 rfl ?_
      refine j_iload_n (pc := 77) C 3 dL_asks_77 rfl ?_
      refine j_iload (pc := 78) C 2 dL_asks_78 rfl ?_
      refine j_iload (pc := 80) C 0 dL_asks_80 rfl ?_
      refine j_iload (pc := 82) C 1 dL_asks_82 rfl ?_
      refine j_iconst (pc := 84) (v := (-1 : Int32)) C dL_asks_84 rfl ?_
      obtain ⟨b56, s56, hb, hs, h⟩ := h
      refine c2_L_217 (pc := 85) C ⟨(Nat.le_of_ble_eq_true rfl), (Nat.le_of_ble_eq_true rfl)⟩ ⟨hb, hs⟩ (Nat.le_of_ble_eq_true rfl) dL_asks_85 h (fun r56 M56 h => ?_)
      refine j_istore (pc := 88) C [(7, _), (6, _), (5, _), (4, _), (3, _), (0, _), (1, _), (2, _)] dL_asks_88 (by decide) rfl ?_
      refine j_aload_n (pc := 90) C 5 dL_asks_90 rfl ?_
      refine j_iload_n (pc := 91) C 4 dL_asks_91 rfl ?_
      refine j_iload (pc := 92) C 3 dL_asks_92 rfl ?_
      refine j_iload (pc := 94) C 1 dL_asks_94 rfl ?_
      refine j_iload (pc := 96) C 2 dL_asks_96 rfl ?_
      refine c2_L_221 (pc := 98) C ⟨(Nat.le_of_ble_eq_true rfl), (Nat.le_of_ble_eq_true rfl)⟩ ⟨hb, hs⟩ (Nat.le_of_ble_eq_true rfl) dL_asks_98 h (fun r57 M57 h => ?_)
      refine j_iload (pc := 101) C 0 dL_asks_101 rfl ?_
      refine j_icmp_eq (pc := 103) C 108 dL_asks_103 (by decide) h (fun h => ?_) (fun h => ?_)
      · refine j_iload (pc := 108) C 3 dL_asks_108 rfl ?_
        refine j_istore (pc := 110) C [(8, _), (7, _), (6, _), (5, _), (4, _), (3, _), (0, _), (1, _), (2, _)] dL_asks_110 (by decide) rfl ?_
        obtain ⟨n112, h⟩ := h
        refine j_weak [6, 7, 8, 5, 4, 3, 2, 1, 0] rfl (jl_L_asks_112 C (fun M58 b58 s58 x0_58 x1_58 x2_58 x3_58 x4_58 x5_58 x6_58 x7_58 x8_58 hb hs h => ?_) n112 _ _ _ _ _ _ _ _ _ _ _ _ hb hs h)
        · refine j_aload_n (pc := 144) C 0 dL_asks_144 rfl ?_
          refine j_iload_n (pc := 145) C 3 dL_asks_145 rfl ?_
          refine j_iload (pc := 146) C 4 dL_asks_146 rfl ?_
          refine j_iload (pc := 148) C 6 dL_asks_148 rfl ?_
          refine j_iload (pc := 150) C 5 dL_asks_150 rfl ?_
          refine c2_L_225 (pc := 152) C ⟨(Nat.le_of_ble_eq_true rfl), (Nat.le_of_ble_eq_true rfl)⟩ ⟨hb, hs⟩ (Nat.le_of_ble_eq_true rfl) dL_asks_152 h (fun r59 M59 h => ?_)
          refine j_iload (pc := 155) C 8 dL_asks_155 rfl ?_
          refine j_iconst (pc := 157) (v := (3 : Int32)) C dL_asks_157 rfl ?_
          refine j_aload_n (pc := 158) C 1 dL_asks_158 rfl ?_
          refine gf_L_43 (pc := 159) C dL_asks_159 h (fun h => ?_)
          refine j_imul (pc := 162) C dL_asks_162 ?_
          refine j_icmp_ge (pc := 163) C 171 dL_asks_163 (by decide) h (fun h => ?_) (fun h => ?_)
          · refine j_iconst (pc := 171) (v := (-1 : Int32)) C dL_asks_171 rfl ?_
            refine j_icmp_eq (pc := 172) C 177 dL_asks_172 (by decide) h (fun h => ?_) (fun h => ?_)
            · refine j_iconst (pc := 177) (v := (-1 : Int32)) C dL_asks_177 rfl ?_
              refine j_istore (pc := 178) C [(9, _), (0, _), (1, _), (2, _), (3, _), (4, _), (5, _), (6, _), (7, _), (8, _)] dL_asks_178 (by decide) rfl ?_
              refine j_iload (pc := 180) C 8 dL_asks_180 rfl ?_
              refine j_if_ne (pc := 182) C 211 dL_asks_182 (by decide) h (fun h => ?_) (fun h => ?_)
              · refine j_aload_n (pc := 211) C 3 dL_asks_211 rfl ?_
                refine j_aload_n (pc := 212) C 2 dL_asks_212 rfl ?_
                refine gf_L_100 (pc := 213) C dL_asks_213 h (fun h => ?_)
                refine c2_L_39 (pc := 216) C ⟨(Nat.le_of_ble_eq_true rfl), (Nat.le_of_ble_eq_true rfl)⟩ ⟨hb, hs⟩ (Nat.le_of_ble_eq_true rfl) dL_asks_216 h (fun r62 M62 h => ?_)
                refine j_istore (pc := 219) C [(10, _), (9, _), (0, _), (1, _), (2, _), (3, _), (4, _), (5, _), (6, _), (7, _), (8, _)] dL_asks_219 (by decide) rfl ?_
                refine j_aload_n (pc := 221) C 3 dL_asks_221 rfl ?_
                refine j_iload (pc := 222) C 0 dL_asks_222 rfl ?_
                refine j_iload (pc := 224) C 6 dL_asks_224 rfl ?_
                refine j_iconst (pc := 226) (v := (-1 : Int32)) C dL_asks_226 rfl ?_
                obtain ⟨b63, s63, hb, hs, h⟩ := h
                refine c2_L_235 (pc := 227) C ⟨(Nat.le_of_ble_eq_true rfl), (Nat.le_of_ble_eq_true rfl)⟩ ⟨hb, hs⟩ (Nat.le_of_ble_eq_true rfl) dL_asks_227 h (fun r63 M63 h => ?_)
                obtain ⟨h1_63, h0_63⟩ := h
                rcases r63 with _ | a63
                · have h := h0_63 rfl
                  refine j_astoreN (pc := 230) C [(11, _), (10, _), (9, _), (0, _), (1, _), (2, _), (3, _), (4, _), (5, _), (6, _), (7, _), (8, _)] dL_asks_230 (by decide) rfl ?_
                  refine j_aload_n (pc := 232) C 3 dL_asks_232 rfl ?_
                  refine j_iload_n (pc := 233) C 6 dL_asks_233 rfl ?_
                  refine j_iload (pc := 234) C 7 dL_asks_234 rfl ?_
                  refine j_iload (pc := 236) C 9 dL_asks_236 rfl ?_
                  refine j_iload (pc := 238) C 8 dL_asks_238 rfl ?_
                  refine c2_L_238 (pc := 240) C ⟨(Nat.le_of_ble_eq_true rfl), (Nat.le_of_ble_eq_true rfl)⟩ ⟨hb, hs⟩ (Nat.le_of_ble_eq_true rfl) dL_asks_240 h (fun r67 M67 h => ?_)
                  refine j_iload (pc := 243) C 2 dL_asks_243 rfl ?_
                  refine j_icmp_ne (pc := 245) C 280 dL_asks_245 (by decide) h (fun h => ?_) (fun h => ?_)
                  · refine j_iconst (pc := 280) (v := (0 : Int32)) C dL_asks_280 rfl ?_
                    exact j_zret (pc := 281) C dL_asks_281 hb hs h
                  · refine j_aload_n (pc := 248) C 3 dL_asks_248 rfl ?_
                    refine j_iload (pc := 249) C 1 dL_asks_249 rfl ?_
                    refine j_iload (pc := 251) C 7 dL_asks_251 rfl ?_
                    refine c2_L_241 (pc := 253) C ⟨(Nat.le_of_ble_eq_true rfl), (Nat.le_of_ble_eq_true rfl)⟩ ⟨hb, hs⟩ (Nat.le_of_ble_eq_true rfl) dL_asks_253 h (fun r68 M68 h => ?_)
                    refine j_aloadN (pc := 256) C 0 dL_asks_256 rfl ?_
                    refine j_ifnnN (pc := 258) C dL_asks_258 ?_
                    refine j_iconst (pc := 261) (v := (-1 : Int32)) C dL_asks_261 rfl ?_
                    refine j_goto (pc := 262) C 273 dL_asks_262 (by decide) ?_
                    refine j_icmp_ne (pc := 273) C 280 dL_asks_273 (by decide) h (fun h => ?_) (fun h => ?_)
                    · refine j_iconst (pc := 280) (v := (0 : Int32)) C dL_asks_280 rfl ?_
                      exact j_zret (pc := 281) C dL_asks_281 hb hs h
                    · refine j_iconst (pc := 276) (v := (1 : Int32)) C dL_asks_276 rfl ?_
                      refine j_goto (pc := 277) C 281 dL_asks_277 (by decide) ?_
                      exact j_zret (pc := 281) C dL_asks_281 hb hs h
                · have h := h1_63 a63 rfl
                  refine j_astore (pc := 230) C [(11, _), (10, _), (9, _), (0, _), (1, _), (2, _), (3, _), (4, _), (5, _), (6, _), (7, _), (8, _)] dL_asks_230 (by decide) rfl ?_
                  refine j_aload_n (pc := 232) C 3 dL_asks_232 rfl ?_
                  refine j_iload_n (pc := 233) C 6 dL_asks_233 rfl ?_
                  refine j_iload (pc := 234) C 7 dL_asks_234 rfl ?_
                  refine j_iload (pc := 236) C 9 dL_asks_236 rfl ?_
                  refine j_iload (pc := 238) C 8 dL_asks_238 rfl ?_
                  refine c2_L_238 (pc := 240) C ⟨(Nat.le_of_ble_eq_true rfl), (Nat.le_of_ble_eq_true rfl)⟩ ⟨hb, hs⟩ (Nat.le_of_ble_eq_true rfl) dL_asks_240 h (fun r64 M64 h => ?_)
                  refine j_iload (pc := 243) C 2 dL_asks_243 rfl ?_
                  refine j_icmp_ne (pc := 245) C 280 dL_asks_245 (by decide) h (fun h => ?_) (fun h => ?_)
                  · refine j_iconst (pc := 280) (v := (0 : Int32)) C dL_asks_280 rfl ?_
                    exact j_zret (pc := 281) C dL_asks_281 hb hs h
                  · refine j_aload_n (pc := 248) C 3 dL_asks_248 rfl ?_
                    refine j_iload (pc := 249) C 1 dL_asks_249 rfl ?_
                    refine j_iload (pc := 251) C 7 dL_asks_251 rfl ?_
                    refine c2_L_241 (pc := 253) C ⟨(Nat.le_of_ble_eq_true rfl), (Nat.le_of_ble_eq_true rfl)⟩ ⟨hb, hs⟩ (Nat.le_of_ble_eq_true rfl) dL_asks_253 h (fun r65 M65 h => ?_)
                    refine j_aload (pc := 256) C 0 dL_asks_256 rfl ?_
                    refine j_ifnnA (pc := 258) C 265 dL_asks_258 (by decide) ?_
                    refine j_aload_n (pc := 265) C 4 dL_asks_265 rfl ?_
                    refine j_iload (pc := 266) C 1 dL_asks_266 rfl ?_
                    refine j_aload (pc := 268) C 0 dL_asks_268 rfl ?_
                    refine c2_L_166 (pc := 270) C ⟨(Nat.le_of_ble_eq_true rfl), (Nat.le_of_ble_eq_true rfl)⟩ ⟨hb, hs⟩ (Nat.le_of_ble_eq_true rfl) dL_asks_270 h (fun r66 M66 h => ?_)
                    refine j_icmp_ne (pc := 273) C 280 dL_asks_273 (by decide) h (fun h => ?_) (fun h => ?_)
                    · refine j_iconst (pc := 280) (v := (0 : Int32)) C dL_asks_280 rfl ?_
                      exact j_zret (pc := 281) C dL_asks_281 hb hs h
                    · refine j_iconst (pc := 276) (v := (1 : Int32)) C dL_asks_276 rfl ?_
                      refine j_goto (pc := 277) C 281 dL_asks_277 (by decide) ?_
                      exact j_zret (pc := 281) C dL_asks_281 hb hs h
              · refine j_aload_n (pc := 185) C 2 dL_asks_185 rfl ?_
                refine j_iload_n (pc := 186) C 4 dL_asks_186 rfl ?_
                refine j_iload (pc := 187) C 5 dL_asks_187 rfl ?_
                refine j_iload (pc := 189) C 7 dL_asks_189 rfl ?_
                refine j_iload (pc := 191) C 6 dL_asks_191 rfl ?_
                obtain ⟨b69, s69, hb, hs, h⟩ := h
                refine c2_L_228 (pc := 193) C ⟨(Nat.le_of_ble_eq_true rfl), (Nat.le_of_ble_eq_true rfl)⟩ ⟨hb, hs⟩ (Nat.le_of_ble_eq_true rfl) dL_asks_193 h (fun r69 M69 h => ?_)
                refine j_istore (pc := 196) C [(10, _), (9, _), (0, _), (1, _), (2, _), (3, _), (4, _), (5, _), (6, _), (7, _), (8, _)] dL_asks_196 (by decide) rfl ?_
                refine j_aload_n (pc := 198) C 3 dL_asks_198 rfl ?_
                refine j_iconst (pc := 199) (v := (3 : Int32)) C dL_asks_199 rfl ?_
                refine c2_L_203 (pc := 200) C ⟨(Nat.le_of_ble_eq_true rfl), (Nat.le_of_ble_eq_true rfl)⟩ ⟨hb, hs⟩ (Nat.le_of_ble_eq_true rfl) dL_asks_200 h (fun r70 M70 h => ?_)
                refine j_istore (pc := 203) C [(9, _), (10, _), (0, _), (1, _), (2, _), (3, _), (4, _), (5, _), (6, _), (7, _), (8, _)] dL_asks_203 (by decide) rfl ?_
                refine j_aload_n (pc := 205) C 3 dL_asks_205 rfl ?_
                refine j_iload (pc := 206) C 1 dL_asks_206 rfl ?_
                refine c2_L_231 (pc := 208) C ⟨(Nat.le_of_ble_eq_true rfl), (Nat.le_of_ble_eq_true rfl)⟩ ⟨hb, hs⟩ (Nat.le_of_ble_eq_true rfl) dL_asks_208 h (fun M71 h => ?_)
                refine j_aload_n (pc := 211) C 4 dL_asks_211 rfl ?_
                refine j_aload_n (pc := 212) C 3 dL_asks_212 rfl ?_
                refine gf_L_100 (pc := 213) C dL_asks_213 h (fun h => ?_)
                refine c2_L_39 (pc := 216) C ⟨(Nat.le_of_ble_eq_true rfl), (Nat.le_of_ble_eq_true rfl)⟩ ⟨hb, hs⟩ (Nat.le_of_ble_eq_true rfl) dL_asks_216 h (fun r73 M73 h => ?_)
                refine j_istore (pc := 219) C [(10, _), (9, _), (0, _), (1, _), (2, _), (3, _), (4, _), (5, _), (6, _), (7, _), (8, _)] dL_asks_219 (by decide) rfl ?_
                refine j_aload_n (pc := 221) C 3 dL_asks_221 rfl ?_
                refine j_iload (pc := 222) C 0 dL_asks_222 rfl ?_
                refine j_iload (pc := 224) C 6 dL_asks_224 rfl ?_
                refine j_iconst (pc := 226) (v := (-1 : Int32)) C dL_asks_226 rfl ?_
                obtain ⟨b74, s74, hb, hs, h⟩ := h
                refine c2_L_235 (pc := 227) C ⟨(Nat.le_of_ble_eq_true rfl), (Nat.le_of_ble_eq_true rfl)⟩ ⟨hb, hs⟩ (Nat.le_of_ble_eq_true rfl) dL_asks_227 h (fun r74 M74 h => ?_)
                obtain ⟨h1_74, h0_74⟩ := h
                rcases r74 with _ | a74
                · have h := h0_74 rfl
                  refine j_astoreN (pc := 230) C [(11, _), (10, _), (9, _), (0, _), (1, _), (2, _), (3, _), (4, _), (5, _), (6, _), (7, _), (8, _)] dL_asks_230 (by decide) rfl ?_
                  refine j_aload_n (pc := 232) C 3 dL_asks_232 rfl ?_
                  refine j_iload_n (pc := 233) C 6 dL_asks_233 rfl ?_
                  refine j_iload (pc := 234) C 7 dL_asks_234 rfl ?_
                  refine j_iload (pc := 236) C 9 dL_asks_236 rfl ?_
                  refine j_iload (pc := 238) C 8 dL_asks_238 rfl ?_
                  refine c2_L_238 (pc := 240) C ⟨(Nat.le_of_ble_eq_true rfl), (Nat.le_of_ble_eq_true rfl)⟩ ⟨hb, hs⟩ (Nat.le_of_ble_eq_true rfl) dL_asks_240 h (fun r78 M78 h => ?_)
                  refine j_iload (pc := 243) C 2 dL_asks_243 rfl ?_
                  refine j_icmp_ne (pc := 245) C 280 dL_asks_245 (by decide) h (fun h => ?_) (fun h => ?_)
                  · refine j_iconst (pc := 280) (v := (0 : Int32)) C dL_asks_280 rfl ?_
                    exact j_zret (pc := 281) C dL_asks_281 hb hs h
                  · refine j_aload_n (pc := 248) C 3 dL_asks_248 rfl ?_
                    refine j_iload (pc := 249) C 1 dL_asks_249 rfl ?_
                    refine j_iload (pc := 251) C 7 dL_asks_251 rfl ?_
                    refine c2_L_241 (pc := 253) C ⟨(Nat.le_of_ble_eq_true rfl), (Nat.le_of_ble_eq_true rfl)⟩ ⟨hb, hs⟩ (Nat.le_of_ble_eq_true rfl) dL_asks_253 h (fun r79 M79 h => ?_)
                    refine j_aloadN (pc := 256) C 0 dL_asks_256 rfl ?_
                    refine j_ifnnN (pc := 258) C dL_asks_258 ?_
                    refine j_iconst (pc := 261) (v := (-1 : Int32)) C dL_asks_261 rfl ?_
                    refine j_goto (pc := 262) C 273 dL_asks_262 (by decide) ?_
                    refine j_icmp_ne (pc := 273) C 280 dL_asks_273 (by decide) h (fun h => ?_) (fun h => ?_)
                    · refine j_iconst (pc := 280) (v := (0 : Int32)) C dL_asks_280 rfl ?_
                      exact j_zret (pc := 281) C dL_asks_281 hb hs h
                    · refine j_iconst (pc := 276) (v := (1 : Int32)) C dL_asks_276 rfl ?_
                      refine j_goto (pc := 277) C 281 dL_asks_277 (by decide) ?_
                      exact j_zret (pc := 281) C dL_asks_281 hb hs h
                · have h := h1_74 a74 rfl
                  refine j_astore (pc := 230) C [(11, _), (10, _), (9, _), (0, _), (1, _), (2, _), (3, _), (4, _), (5, _), (6, _), (7, _), (8, _)] dL_asks_230 (by decide) rfl ?_
                  refine j_aload_n (pc := 232) C 3 dL_asks_232 rfl ?_
                  refine j_iload_n (pc := 233) C 6 dL_asks_233 rfl ?_
                  refine j_iload (pc := 234) C 7 dL_asks_234 rfl ?_
                  refine j_iload (pc := 236) C 9 dL_asks_236 rfl ?_
                  refine j_iload (pc := 238) C 8 dL_asks_238 rfl ?_
                  refine c2_L_238 (pc := 240) C ⟨(Nat.le_of_ble_eq_true rfl), (Nat.le_of_ble_eq_true rfl)⟩ ⟨hb, hs⟩ (Nat.le_of_ble_eq_true rfl) dL_asks_240 h (fun r75 M75 h => ?_)
                  refine j_iload (pc := 243) C 2 dL_asks_243 rfl ?_
                  refine j_icmp_ne (pc := 245) C 280 dL_asks_245 (by decide) h (fun h => ?_) (fun h => ?_)
                  · refine j_iconst (pc := 280) (v := (0 : Int32)) C dL_asks_280 rfl ?_
                    exact j_zret (pc := 281) C dL_asks_281 hb hs h
                  · refine j_aload_n (pc := 248) C 3 dL_asks_248 rfl ?_
                    refine j_iload (pc := 249) C 1 dL_asks_249 rfl ?_
                    refine j_iload (pc := 251) C 7 dL_asks_251 rfl ?_
                    refine c2_L_241 (pc := 253) C ⟨(Nat.le_of_ble_eq_true rfl), (Nat.le_of_ble_eq_true rfl)⟩ ⟨hb, hs⟩ (Nat.le_of_ble_eq_true rfl) dL_asks_253 h (fun r76 M76 h => ?_)
                    refine j_aload (pc := 256) C 0 dL_asks_256 rfl ?_
                    refine j_ifnnA (pc := 258) C 265 dL_asks_258 (by decide) ?_
                    refine j_aload_n (pc := 265) C 4 dL_asks_265 rfl ?_
                    refine j_iload (pc := 266) C 1 dL_asks_266 rfl ?_
                    refine j_aload (pc := 268) C 0 dL_asks_268 rfl ?_
                    refine c2_L_166 (pc := 270) C ⟨(Nat.le_of_ble_eq_true rfl), (Nat.le_of_ble_eq_true rfl)⟩ ⟨hb, hs⟩ (Nat.le_of_ble_eq_true rfl) dL_asks_270 h (fun r77 M77 h => ?_)
                    refine j_icmp_ne (pc := 273) C 280 dL_asks_273 (by decide) h (fun h => ?_) (fun h => ?_)
                    · refine j_iconst (pc := 280) (v := (0 : Int32)) C dL_asks_280 rfl ?_
                      exact j_zret (pc := 281) C dL_asks_281 hb hs h
                    · refine j_iconst (pc := 276) (v := (1 : Int32)) C dL_asks_276 rfl ?_
                      refine j_goto (pc := 277) C 281 dL_asks_277 (by decide) ?_
                      exact j_zret (pc := 281) C dL_asks_281 hb hs h
            · refine j_iconst (pc := 175) (v := (0 : Int32)) C dL_asks_175 rfl ?_
              exact j_zret (pc := 176) C dL_asks_176 hb hs h
          · refine j_iload (pc := 166) C 8 dL_asks_166 rfl ?_
            refine j_goto (pc := 168) C 172 dL_asks_168 (by decide) ?_
            refine j_icmp_eq (pc := 172) C 177 dL_asks_172 (by decide) h (fun h => ?_) (fun h => ?_)
            · refine j_iconst (pc := 177) (v := (-1 : Int32)) C dL_asks_177 rfl ?_
              refine j_istore (pc := 178) C [(9, _), (0, _), (1, _), (2, _), (3, _), (4, _), (5, _), (6, _), (7, _), (8, _)] dL_asks_178 (by decide) rfl ?_
              refine j_iload (pc := 180) C 8 dL_asks_180 rfl ?_
              refine j_if_ne (pc := 182) C 211 dL_asks_182 (by decide) h (fun h => ?_) (fun h => ?_)
              · refine j_aload_n (pc := 211) C 3 dL_asks_211 rfl ?_
                refine j_aload_n (pc := 212) C 2 dL_asks_212 rfl ?_
                refine gf_L_100 (pc := 213) C dL_asks_213 h (fun h => ?_)
                refine c2_L_39 (pc := 216) C ⟨(Nat.le_of_ble_eq_true rfl), (Nat.le_of_ble_eq_true rfl)⟩ ⟨hb, hs⟩ (Nat.le_of_ble_eq_true rfl) dL_asks_216 h (fun r81 M81 h => ?_)
                refine j_istore (pc := 219) C [(10, _), (9, _), (0, _), (1, _), (2, _), (3, _), (4, _), (5, _), (6, _), (7, _), (8, _)] dL_asks_219 (by decide) rfl ?_
                refine j_aload_n (pc := 221) C 3 dL_asks_221 rfl ?_
                refine j_iload (pc := 222) C 0 dL_asks_222 rfl ?_
                refine j_iload (pc := 224) C 6 dL_asks_224 rfl ?_
                refine j_iconst (pc := 226) (v := (-1 : Int32)) C dL_asks_226 rfl ?_
                obtain ⟨b82, s82, hb, hs, h⟩ := h
                refine c2_L_235 (pc := 227) C ⟨(Nat.le_of_ble_eq_true rfl), (Nat.le_of_ble_eq_true rfl)⟩ ⟨hb, hs⟩ (Nat.le_of_ble_eq_true rfl) dL_asks_227 h (fun r82 M82 h => ?_)
                obtain ⟨h1_82, h0_82⟩ := h
                rcases r82 with _ | a82
                · have h := h0_82 rfl
                  refine j_astoreN (pc := 230) C [(11, _), (10, _), (9, _), (0, _), (1, _), (2, _), (3, _), (4, _), (5, _), (6, _), (7, _), (8, _)] dL_asks_230 (by decide) rfl ?_
                  refine j_aload_n (pc := 232) C 3 dL_asks_232 rfl ?_
                  refine j_iload_n (pc := 233) C 6 dL_asks_233 rfl ?_
                  refine j_iload (pc := 234) C 7 dL_asks_234 rfl ?_
                  refine j_iload (pc := 236) C 9 dL_asks_236 rfl ?_
                  refine j_iload (pc := 238) C 8 dL_asks_238 rfl ?_
                  refine c2_L_238 (pc := 240) C ⟨(Nat.le_of_ble_eq_true rfl), (Nat.le_of_ble_eq_true rfl)⟩ ⟨hb, hs⟩ (Nat.le_of_ble_eq_true rfl) dL_asks_240 h (fun r86 M86 h => ?_)
                  refine j_iload (pc := 243) C 2 dL_asks_243 rfl ?_
                  refine j_icmp_ne (pc := 245) C 280 dL_asks_245 (by decide) h (fun h => ?_) (fun h => ?_)
                  · refine j_iconst (pc := 280) (v := (0 : Int32)) C dL_asks_280 rfl ?_
                    exact j_zret (pc := 281) C dL_asks_281 hb hs h
                  · refine j_aload_n (pc := 248) C 3 dL_asks_248 rfl ?_
                    refine j_iload (pc := 249) C 1 dL_asks_249 rfl ?_
                    refine j_iload (pc := 251) C 7 dL_asks_251 rfl ?_
                    refine c2_L_241 (pc := 253) C ⟨(Nat.le_of_ble_eq_true rfl), (Nat.le_of_ble_eq_true rfl)⟩ ⟨hb, hs⟩ (Nat.le_of_ble_eq_true rfl) dL_asks_253 h (fun r87 M87 h => ?_)
                    refine j_aloadN (pc := 256) C 0 dL_asks_256 rfl ?_
                    refine j_ifnnN (pc := 258) C dL_asks_258 ?_
                    refine j_iconst (pc := 261) (v := (-1 : Int32)) C dL_asks_261 rfl ?_
                    refine j_goto (pc := 262) C 273 dL_asks_262 (by decide) ?_
                    refine j_icmp_ne (pc := 273) C 280 dL_asks_273 (by decide) h (fun h => ?_) (fun h => ?_)
                    · refine j_iconst (pc := 280) (v := (0 : Int32)) C dL_asks_280 rfl ?_
                      exact j_zret (pc := 281) C dL_asks_281 hb hs h
                    · refine j_iconst (pc := 276) (v := (1 : Int32)) C dL_asks_276 rfl ?_
                      refine j_goto (pc := 277) C 281 dL_asks_277 (by decide) ?_
                      exact j_zret (pc := 281) C dL_asks_281 hb hs h
                · have h := h1_82 a82 rfl
                  refine j_astore (pc := 230) C [(11, _), (10, _), (9, _), (0, _), (1, _), (2, _), (3, _), (4, _), (5, _), (6, _), (7, _), (8, _)] dL_asks_230 (by decide) rfl ?_
                  refine j_aload_n (pc := 232) C 3 dL_asks_232 rfl ?_
                  refine j_iload_n (pc := 233) C 6 dL_asks_233 rfl ?_
                  refine j_iload (pc := 234) C 7 dL_asks_234 rfl ?_
                  refine j_iload (pc := 236) C 9 dL_asks_236 rfl ?_
                  refine j_iload (pc := 238) C 8 dL_asks_238 rfl ?_
                  refine c2_L_238 (pc := 240) C ⟨(Nat.le_of_ble_eq_true rfl), (Nat.le_of_ble_eq_true rfl)⟩ ⟨hb, hs⟩ (Nat.le_of_ble_eq_true rfl) dL_asks_240 h (fun r83 M83 h => ?_)
                  refine j_iload (pc := 243) C 2 dL_asks_243 rfl ?_
                  refine j_icmp_ne (pc := 245) C 280 dL_asks_245 (by decide) h (fun h => ?_) (fun h => ?_)
                  · refine j_iconst (pc := 280) (v := (0 : Int32)) C dL_asks_280 rfl ?_
                    exact j_zret (pc := 281) C dL_asks_281 hb hs h
                  · refine j_aload_n (pc := 248) C 3 dL_asks_248 rfl ?_
                    refine j_iload (pc := 249) C 1 dL_asks_249 rfl ?_
                    refine j_iload (pc := 251) C 7 dL_asks_251 rfl ?_
                    refine c2_L_241 (pc := 253) C ⟨(Nat.le_of_ble_eq_true rfl), (Nat.le_of_ble_eq_true rfl)⟩ ⟨hb, hs⟩ (Nat.le_of_ble_eq_true rfl) dL_asks_253 h (fun r84 M84 h => ?_)
                    refine j_aload (pc := 256) C 0 dL_asks_256 rfl ?_
                    refine j_ifnnA (pc := 258) C 265 dL_asks_258 (by decide) ?_
                    refine j_aload_n (pc := 265) C 4 dL_asks_265 rfl ?_
                    refine j_iload (pc := 266) C 1 dL_asks_266 rfl ?_
                    refine j_aload (pc := 268) C 0 dL_asks_268 rfl ?_
                    refine c2_L_166 (pc := 270) C ⟨(Nat.le_of_ble_eq_true rfl), (Nat.le_of_ble_eq_true rfl)⟩ ⟨hb, hs⟩ (Nat.le_of_ble_eq_true rfl) dL_asks_270 h (fun r85 M85 h => ?_)
                    refine j_icmp_ne (pc := 273) C 280 dL_asks_273 (by decide) h (fun h => ?_) (fun h => ?_)
                    · refine j_iconst (pc := 280) (v := (0 : Int32)) C dL_asks_280 rfl ?_
                      exact j_zret (pc := 281) C dL_asks_281 hb hs h
                    · refine j_iconst (pc := 276) (v := (1 : Int32)) C dL_asks_276 rfl ?_
                      refine j_goto (pc := 277) C 281 dL_asks_277 (by decide) ?_
                      exact j_zret (pc := 281) C dL_asks_281 hb hs h
              · refine j_aload_n (pc := 185) C 2 dL_asks_185 rfl ?_
                refine j_iload_n (pc := 186) C 4 dL_asks_186 rfl ?_
                refine j_iload (pc := 187) C 5 dL_asks_187 rfl ?_
                refine j_iload (pc := 189) C 7 dL_asks_189 rfl ?_
                refine j_iload (pc := 191) C 6 dL_asks_191 rfl ?_
                obtain ⟨b88, s88, hb, hs, h⟩ := h
                refine c2_L_228 (pc := 193) C ⟨(Nat.le_of_ble_eq_true rfl), (Nat.le_of_ble_eq_true rfl)⟩ ⟨hb, hs⟩ (Nat.le_of_ble_eq_true rfl) dL_asks_193 h (fun r88 M88 h => ?_)
                refine j_istore (pc := 196) C [(10, _), (9, _), (0, _), (1, _), (2, _), (3, _), (4, _), (5, _), (6, _), (7, _), (8, _)] dL_asks_196 (by decide) rfl ?_
                refine j_aload_n (pc := 198) C 3 dL_asks_198 rfl ?_
                refine j_iconst (pc := 199) (v := (3 : Int32)) C dL_asks_199 rfl ?_
                refine c2_L_203 (pc := 200) C ⟨(Nat.le_of_ble_eq_true rfl), (Nat.le_of_ble_eq_true rfl)⟩ ⟨hb, hs⟩ (Nat.le_of_ble_eq_true rfl) dL_asks_200 h (fun r89 M89 h => ?_)
                refine j_istore (pc := 203) C [(9, _), (10, _), (0, _), (1, _), (2, _), (3, _), (4, _), (5, _), (6, _), (7, _), (8, _)] dL_asks_203 (by decide) rfl ?_
                refine j_aload_n (pc := 205) C 3 dL_asks_205 rfl ?_
                refine j_iload (pc := 206) C 1 dL_asks_206 rfl ?_
                refine c2_L_231 (pc := 208) C ⟨(Nat.le_of_ble_eq_true rfl), (Nat.le_of_ble_eq_true rfl)⟩ ⟨hb, hs⟩ (Nat.le_of_ble_eq_true rfl) dL_asks_208 h (fun M90 h => ?_)
                refine j_aload_n (pc := 211) C 4 dL_asks_211 rfl ?_
                refine j_aload_n (pc := 212) C 3 dL_asks_212 rfl ?_
                refine gf_L_100 (pc := 213) C dL_asks_213 h (fun h => ?_)
                refine c2_L_39 (pc := 216) C ⟨(Nat.le_of_ble_eq_true rfl), (Nat.le_of_ble_eq_true rfl)⟩ ⟨hb, hs⟩ (Nat.le_of_ble_eq_true rfl) dL_asks_216 h (fun r92 M92 h => ?_)
                refine j_istore (pc := 219) C [(10, _), (9, _), (0, _), (1, _), (2, _), (3, _), (4, _), (5, _), (6, _), (7, _), (8, _)] dL_asks_219 (by decide) rfl ?_
                refine j_aload_n (pc := 221) C 3 dL_asks_221 rfl ?_
                refine j_iload (pc := 222) C 0 dL_asks_222 rfl ?_
                refine j_iload (pc := 224) C 6 dL_asks_224 rfl ?_
                refine j_iconst (pc := 226) (v := (-1 : Int32)) C dL_asks_226 rfl ?_
                obtain ⟨b93, s93, hb, hs, h⟩ := h
                refine c2_L_235 (pc := 227) C ⟨(Nat.le_of_ble_eq_true rfl), (Nat.le_of_ble_eq_true rfl)⟩ ⟨hb, hs⟩ (Nat.le_of_ble_eq_true rfl) dL_asks_227 h (fun r93 M93 h => ?_)
                obtain ⟨h1_93, h0_93⟩ := h
                rcases r93 with _ | a93
                · have h := h0_93 rfl
                  refine j_astoreN (pc := 230) C [(11, _), (10, _), (9, _), (0, _), (1, _), (2, _), (3, _), (4, _), (5, _), (6, _), (7, _), (8, _)] dL_asks_230 (by decide) rfl ?_
                  refine j_aload_n (pc := 232) C 3 dL_asks_232 rfl ?_
                  refine j_iload_n (pc := 233) C 6 dL_asks_233 rfl ?_
                  refine j_iload (pc := 234) C 7 dL_asks_234 rfl ?_
                  refine j_iload (pc := 236) C 9 dL_asks_236 rfl ?_
                  refine j_iload (pc := 238) C 8 dL_asks_238 rfl ?_
                  refine c2_L_238 (pc := 240) C ⟨(Nat.le_of_ble_eq_true rfl), (Nat.le_of_ble_eq_true rfl)⟩ ⟨hb, hs⟩ (Nat.le_of_ble_eq_true rfl) dL_asks_240 h (fun r97 M97 h => ?_)
                  refine j_iload (pc := 243) C 2 dL_asks_243 rfl ?_
                  refine j_icmp_ne (pc := 245) C 280 dL_asks_245 (by decide) h (fun h => ?_) (fun h => ?_)
                  · refine j_iconst (pc := 280) (v := (0 : Int32)) C dL_asks_280 rfl ?_
                    exact j_zret (pc := 281) C dL_asks_281 hb hs h
                  · refine j_aload_n (pc := 248) C 3 dL_asks_248 rfl ?_
                    refine j_iload (pc := 249) C 1 dL_asks_249 rfl ?_
                    refine j_iload (pc := 251) C 7 dL_asks_251 rfl ?_
                    refine c2_L_241 (pc := 253) C ⟨(Nat.le_of_ble_eq_true rfl), (Nat.le_of_ble_eq_true rfl)⟩ ⟨hb, hs⟩ (Nat.le_of_ble_eq_true rfl) dL_asks_253 h (fun r98 M98 h => ?_)
                    refine j_aloadN (pc := 256) C 0 dL_asks_256 rfl ?_
                    refine j_ifnnN (pc := 258) C dL_asks_258 ?_
                    refine j_iconst (pc := 261) (v := (-1 : Int32)) C dL_asks_261 rfl ?_
                    refine j_goto (pc := 262) C 273 dL_asks_262 (by decide) ?_
                    refine j_icmp_ne (pc := 273) C 280 dL_asks_273 (by decide) h (fun h => ?_) (fun h => ?_)
                    · refine j_iconst (pc := 280) (v := (0 : Int32)) C dL_asks_280 rfl ?_
                      exact j_zret (pc := 281) C dL_asks_281 hb hs h
                    · refine j_iconst (pc := 276) (v := (1 : Int32)) C dL_asks_276 rfl ?_
                      refine j_goto (pc := 277) C 281 dL_asks_277 (by decide) ?_
                      exact j_zret (pc := 281) C dL_asks_281 hb hs h
                · have h := h1_93 a93 rfl
                  refine j_astore (pc := 230) C [(11, _), (10, _), (9, _), (0, _), (1, _), (2, _), (3, _), (4, _), (5, _), (6, _), (7, _), (8, _)] dL_asks_230 (by decide) rfl ?_
                  refine j_aload_n (pc := 232) C 3 dL_asks_232 rfl ?_
                  refine j_iload_n (pc := 233) C 6 dL_asks_233 rfl ?_
                  refine j_iload (pc := 234) C 7 dL_asks_234 rfl ?_
                  refine j_iload (pc := 236) C 9 dL_asks_236 rfl ?_
                  refine j_iload (pc := 238) C 8 dL_asks_238 rfl ?_
                  refine c2_L_238 (pc := 240) C ⟨(Nat.le_of_ble_eq_true rfl), (Nat.le_of_ble_eq_true rfl)⟩ ⟨hb, hs⟩ (Nat.le_of_ble_eq_true rfl) dL_asks_240 h (fun r94 M94 h => ?_)
                  refine j_iload (pc := 243) C 2 dL_asks_243 rfl ?_
                  refine j_icmp_ne (pc := 245) C 280 dL_asks_245 (by decide) h (fun h => ?_) (fun h => ?_)
                  · refine j_iconst (pc := 280) (v := (0 : Int32)) C dL_asks_280 rfl ?_
                    exact j_zret (pc := 281) C dL_asks_281 hb hs h
                  · refine j_aload_n (pc := 248) C 3 dL_asks_248 rfl ?_
                    refine j_iload (pc := 249) C 1 dL_asks_249 rfl ?_
                    refine j_iload (pc := 251) C 7 dL_asks_251 rfl ?_
                    refine c2_L_241 (pc := 253) C ⟨(Nat.le_of_ble_eq_true rfl), (Nat.le_of_ble_eq_true rfl)⟩ ⟨hb, hs⟩ (Nat.le_of_ble_eq_true rfl) dL_asks_253 h (fun r95 M95 h => ?_)
                    refine j_aload (pc := 256) C 0 dL_asks_256 rfl ?_
                    refine j_ifnnA (pc := 258) C 265 dL_asks_258 (by decide) ?_
                    refine j_aload_n (pc := 265) C 4 dL_asks_265 rfl ?_
                    refine j_iload (pc := 266) C 1 dL_asks_266 rfl ?_
                    refine j_aload (pc := 268) C 0 dL_asks_268 rfl ?_
                    refine c2_L_166 (pc := 270) C ⟨(Nat.le_of_ble_eq_true rfl), (Nat.le_of_ble_eq_true rfl)⟩ ⟨hb, hs⟩ (Nat.le_of_ble_eq_true rfl) dL_asks_270 h (fun r96 M96 h => ?_)
                    refine j_icmp_ne (pc := 273) C 280 dL_asks_273 (by decide) h (fun h => ?_) (fun h => ?_)
                    · refine j_iconst (pc := 280) (v := (0 : Int32)) C dL_asks_280 rfl ?_
                      exact j_zret (pc := 281) C dL_asks_281 hb hs h
                    · refine j_iconst (pc := 276) (v := (1 : Int32)) C dL_asks_276 rfl ?_
                      refine j_goto (pc := 277) C 281 dL_asks_277 (by decide) ?_
                      exact j_zret (pc := 281) C dL_asks_281 hb hs h
            · refine j_iconst (pc := 175) (v := (0 : Int32)) C dL_asks_175 rfl ?_
              exact j_zret (pc := 176) C dL_asks_176 hb hs h
      · refine j_iconst (pc := 106) (v := (0 : Int32)) C dL_asks_106 rfl ?_
        exact j_zret (pc := 107) C dL_asks_107 hb hs h
    · refine j_iconst (pc := 59) (v := (1 : Int32)) C dL_asks_59 rfl ?_
      refine j_aload_n (pc := 60) C 5 dL_asks_60 rfl ?_
      refine j_aload_n (pc := 61) C 4 dL_asks_61 rfl ?_
      refine gf_L_100 (pc := 62) C dL_asks_62 h (fun h => ?_)
      refine c2_L_39 (pc := 65) C ⟨(Nat.le_of_ble_eq_true rfl), (Nat.le_of_ble_eq_true rfl)⟩ ⟨hb, hs⟩ (Nat.le_of_ble_eq_true rfl) dL_asks_65 h (fun r100 M100 h => ?_)
      refine j_ishl (pc := 68) C dL_asks_68 ?_
      refine j_goto (pc := 69) C 73 dL_asks_69 (by decide) ?_
      refine j_ior (pc := 73) C dL_asks_73 ?_
      refine j_istore (pc := 74) C [(6, _), (5, _), (4, _), (3, _), (0, _), (1, _), (2, _)] dL_asks_74 (by decide) rfl ?_
      refine j_aload_n (pc := 76) C 5 dL_asks_76 rfl ?_
      refine j_iload_n (pc := 77) C 3 dL_asks_77 rfl ?_
      refine j_iload (pc := 78) C 2 dL_asks_78 rfl ?_
      refine j_iload (pc := 80) C 0 dL_asks_80 rfl ?_
      refine j_iload (pc := 82) C 1 dL_asks_82 rfl ?_
      refine j_iconst (pc := 84) (v := (-1 : Int32)) C dL_asks_84 rfl ?_
      obtain ⟨b101, s101, hb, hs, h⟩ := h
      refine c2_L_217 (pc := 85) C ⟨(Nat.le_of_ble_eq_true rfl), (Nat.le_of_ble_eq_true rfl)⟩ ⟨hb, hs⟩ (Nat.le_of_ble_eq_true rfl) dL_asks_85 h (fun r101 M101 h => ?_)
      refine j_istore (pc := 88) C [(7, _), (6, _), (5, _), (4, _), (3, _), (0, _), (1, _), (2, _)] dL_asks_88 (by decide) rfl ?_
      refine j_aload_n (pc := 90) C 5 dL_asks_90 rfl ?_
      refine j_iload_n (pc := 91) C 4 dL_asks_91 rfl ?_
      refine j_iload (pc := 92) C 3 dL_asks_92 rfl ?_
      refine j_iload (pc := 94) C 1 dL_asks_94 rfl ?_
      refine j_iload (pc := 96) C 2 dL_asks_96 rfl ?_
      refine c2_L_221 (pc := 98) C ⟨(Nat.le_of_ble_eq_true rfl), (Nat.le_of_ble_eq_true rfl)⟩ ⟨hb, hs⟩ (Nat.le_of_ble_eq_true rfl) dL_asks_98 h (fun r102 M102 h => ?_)
      refine j_iload (pc := 101) C 0 dL_asks_101 rfl ?_
      refine j_icmp_eq (pc := 103) C 108 dL_asks_103 (by decide) h (fun h => ?_) (fun h => ?_)
      · refine j_iload (pc := 108) C 3 dL_asks_108 rfl ?_
        refine j_istore (pc := 110) C [(8, _), (7, _), (6, _), (5, _), (4, _), (3, _), (0, _), (1, _), (2, _)] dL_asks_110 (by decide) rfl ?_
        obtain ⟨n112, h⟩ := h
        refine j_weak [6, 7, 8, 5, 4, 3, 2, 1, 0] rfl (jl_L_asks_112 C (fun M103 b103 s103 x0_103 x1_103 x2_103 x3_103 x4_103 x5_103 x6_103 x7_103 x8_103 hb hs h => ?_) n112 _ _ _ _ _ _ _ _ _ _ _ _ hb hs h)
        · refine j_aload_n (pc := 144) C 0 dL_asks_144 rfl ?_
          refine j_iload_n (pc := 145) C 3 dL_asks_145 rfl ?_
          refine j_iload (pc := 146) C 4 dL_asks_146 rfl ?_
          refine j_iload (pc := 148) C 6 dL_asks_148 rfl ?_
          refine j_iload (pc := 150) C 5 dL_asks_150 rfl ?_
          refine c2_L_225 (pc := 152) C ⟨(Nat.le_of_ble_eq_true rfl), (Nat.le_of_ble_eq_true rfl)⟩ ⟨hb, hs⟩ (Nat.le_of_ble_eq_true rfl) dL_asks_152 h (fun r104 M104 h => ?_)
          refine j_iload (pc := 155) C 8 dL_asks_155 rfl ?_
          refine j_iconst (pc := 157) (v := (3 : Int32)) C dL_asks_157 rfl ?_
          refine j_aload_n (pc := 158) C 1 dL_asks_158 rfl ?_
          refine gf_L_43 (pc := 159) C dL_asks_159 h (fun h => ?_)
          refine j_imul (pc := 162) C dL_asks_162 ?_
          refine j_icmp_ge (pc := 163) C 171 dL_asks_163 (by decide) h (fun h => ?_) (fun h => ?_)
          · refine j_iconst (pc := 171) (v := (-1 : Int32)) C dL_asks_171 rfl ?_
            refine j_icmp_eq (pc := 172) C 177 dL_asks_172 (by decide) h (fun h => ?_) (fun h => ?_)
            · refine j_iconst (pc := 177) (v := (-1 : Int32)) C dL_asks_177 rfl ?_
              refine j_istore (pc := 178) C [(9, _), (0, _), (1, _), (2, _), (3, _), (4, _), (5, _), (6, _), (7, _), (8, _)] dL_asks_178 (by decide) rfl ?_
              refine j_iload (pc := 180) C 8 dL_asks_180 rfl ?_
              refine j_if_ne (pc := 182) C 211 dL_asks_182 (by decide) h (fun h => ?_) (fun h => ?_)
              · refine j_aload_n (pc := 211) C 3 dL_asks_211 rfl ?_
                refine j_aload_n (pc := 212) C 2 dL_asks_212 rfl ?_
                refine gf_L_100 (pc := 213) C dL_asks_213 h (fun h => ?_)
                refine c2_L_39 (pc := 216) C ⟨(Nat.le_of_ble_eq_true rfl), (Nat.le_of_ble_eq_true rfl)⟩ ⟨hb, hs⟩ (Nat.le_of_ble_eq_true rfl) dL_asks_216 h (fun r107 M107 h => ?_)
                refine j_istore (pc := 219) C [(10, _), (9, _), (0, _), (1, _), (2, _), (3, _), (4, _), (5, _), (6, _), (7, _), (8, _)] dL_asks_219 (by decide) rfl ?_
                refine j_aload_n (pc := 221) C 3 dL_asks_221 rfl ?_
                refine j_iload (pc := 222) C 0 dL_asks_222 rfl ?_
                refine j_iload (pc := 224) C 6 dL_asks_224 rfl ?_
                refine j_iconst (pc := 226) (v := (-1 : Int32)) C dL_asks_226 rfl ?_
                obtain ⟨b108, s108, hb, hs, h⟩ := h
                refine c2_L_235 (pc := 227) C ⟨(Nat.le_of_ble_eq_true rfl), (Nat.le_of_ble_eq_true rfl)⟩ ⟨hb, hs⟩ (Nat.le_of_ble_eq_true rfl) dL_asks_227 h (fun r108 M108 h => ?_)
                obtain ⟨h1_108, h0_108⟩ := h
                rcases r108 with _ | a108
                · have h := h0_108 rfl
                  refine j_astoreN (pc := 230) C [(11, _), (10, _), (9, _), (0, _), (1, _), (2, _), (3, _), (4, _), (5, _), (6, _), (7, _), (8, _)] dL_asks_230 (by decide) rfl ?_
                  refine j_aload_n (pc := 232) C 3 dL_asks_232 rfl ?_
                  refine j_iload_n (pc := 233) C 6 dL_asks_233 rfl ?_
                  refine j_iload (pc := 234) C 7 dL_asks_234 rfl ?_
                  refine j_iload (pc := 236) C 9 dL_asks_236 rfl ?_
                  refine j_iload (pc := 238) C 8 dL_asks_238 rfl ?_
                  refine c2_L_238 (pc := 240) C ⟨(Nat.le_of_ble_eq_true rfl), (Nat.le_of_ble_eq_true rfl)⟩ ⟨hb, hs⟩ (Nat.le_of_ble_eq_true rfl) dL_asks_240 h (fun r112 M112 h => ?_)
                  refine j_iload (pc := 243) C 2 dL_asks_243 rfl ?_
                  refine j_icmp_ne (pc := 245) C 280 dL_asks_245 (by decide) h (fun h => ?_) (fun h => ?_)
                  · refine j_iconst (pc := 280) (v := (0 : Int32)) C dL_asks_280 rfl ?_
                    exact j_zret (pc := 281) C dL_asks_281 hb hs h
                  · refine j_aload_n (pc := 248) C 3 dL_asks_248 rfl ?_
                    refine j_iload (pc := 249) C 1 dL_asks_249 rfl ?_
                    refine j_iload (pc := 251) C 7 dL_asks_251 rfl ?_
                    refine c2_L_241 (pc := 253) C ⟨(Nat.le_of_ble_eq_true rfl), (Nat.le_of_ble_eq_true rfl)⟩ ⟨hb, hs⟩ (Nat.le_of_ble_eq_true rfl) dL_asks_253 h (fun r113 M113 h => ?_)
                    refine j_aloadN (pc := 256) C 0 dL_asks_256 rfl ?_
                    refine j_ifnnN (pc := 258) C dL_asks_258 ?_
                    refine j_iconst (pc := 261) (v := (-1 : Int32)) C dL_asks_261 rfl ?_
                    refine j_goto (pc := 262) C 273 dL_asks_262 (by decide) ?_
                    refine j_icmp_ne (pc := 273) C 280 dL_asks_273 (by decide) h (fun h => ?_) (fun h => ?_)
                    · refine j_iconst (pc := 280) (v := (0 : Int32)) C dL_asks_280 rfl ?_
                      exact j_zret (pc := 281) C dL_asks_281 hb hs h
                    · refine j_iconst (pc := 276) (v := (1 : Int32)) C dL_asks_276 rfl ?_
                      refine j_goto (pc := 277) C 281 dL_asks_277 (by decide) ?_
                      exact j_zret (pc := 281) C dL_asks_281 hb hs h
                · have h := h1_108 a108 rfl
                  refine j_astore (pc := 230) C [(11, _), (10, _), (9, _), (0, _), (1, _), (2, _), (3, _), (4, _), (5, _), (6, _), (7, _), (8, _)] dL_asks_230 (by decide) rfl ?_
                  refine j_aload_n (pc := 232) C 3 dL_asks_232 rfl ?_
                  refine j_iload_n (pc := 233) C 6 dL_asks_233 rfl ?_
                  refine j_iload (pc := 234) C 7 dL_asks_234 rfl ?_
                  refine j_iload (pc := 236) C 9 dL_asks_236 rfl ?_
                  refine j_iload (pc := 238) C 8 dL_asks_238 rfl ?_
                  refine c2_L_238 (pc := 240) C ⟨(Nat.le_of_ble_eq_true rfl), (Nat.le_of_ble_eq_true rfl)⟩ ⟨hb, hs⟩ (Nat.le_of_ble_eq_true rfl) dL_asks_240 h (fun r109 M109 h => ?_)
                  refine j_iload (pc := 243) C 2 dL_asks_243 rfl ?_
                  refine j_icmp_ne (pc := 245) C 280 dL_asks_245 (by decide) h (fun h => ?_) (fun h => ?_)
                  · refine j_iconst (pc := 280) (v := (0 : Int32)) C dL_asks_280 rfl ?_
                    exact j_zret (pc := 281) C dL_asks_281 hb hs h
                  · refine j_aload_n (pc := 248) C 3 dL_asks_248 rfl ?_
                    refine j_iload (pc := 249) C 1 dL_asks_249 rfl ?_
                    refine j_iload (pc := 251) C 7 dL_asks_251 rfl ?_
                    refine c2_L_241 (pc := 253) C ⟨(Nat.le_of_ble_eq_true rfl), (Nat.le_of_ble_eq_true rfl)⟩ ⟨hb, hs⟩ (Nat.le_of_ble_eq_true rfl) dL_asks_253 h (fun r110 M110 h => ?_)
                    refine j_aload (pc := 256) C 0 dL_asks_256 rfl ?_
                    refine j_ifnnA (pc := 258) C 265 dL_asks_258 (by decide) ?_
                    refine j_aload_n (pc := 265) C 4 dL_asks_265 rfl ?_
                    refine j_iload (pc := 266) C 1 dL_asks_266 rfl ?_
                    refine j_aload (pc := 268) C 0 dL_asks_268 rfl ?_
                    refine c2_L_166 (pc := 270) C ⟨(Nat.le_of_ble_eq_true rfl), (Nat.le_of_ble_eq_true rfl)⟩ ⟨hb, hs⟩ (Nat.le_of_ble_eq_true rfl) dL_asks_270 h (fun r111 M111 h => ?_)
                    refine j_icmp_ne (pc := 273) C 280 dL_asks_273 (by decide) h (fun h => ?_) (fun h => ?_)
                    · refine j_iconst (pc := 280) (v := (0 : Int32)) C dL_asks_280 rfl ?_
                      exact j_zret (pc := 281) C dL_asks_281 hb hs h
                    · refine j_iconst (pc := 276) (v := (1 : Int32)) C dL_asks_276 rfl ?_
                      refine j_goto (pc := 277) C 281 dL_asks_277 (by decide) ?_
                      exact j_zret (pc := 281) C dL_asks_281 hb hs h
              · refine j_aload_n (pc := 185) C 2 dL_asks_185 rfl ?_
                refine j_iload_n (pc := 186) C 4 dL_asks_186 rfl ?_
                refine j_iload (pc := 187) C 5 dL_asks_187 rfl ?_
                refine j_iload (pc := 189) C 7 dL_asks_189 rfl ?_
                refine j_iload (pc := 191) C 6 dL_asks_191 rfl ?_
                obtain ⟨b114, s114, hb, hs, h⟩ := h
                refine c2_L_228 (pc := 193) C ⟨(Nat.le_of_ble_eq_true rfl), (Nat.le_of_ble_eq_true rfl)⟩ ⟨hb, hs⟩ (Nat.le_of_ble_eq_true rfl) dL_asks_193 h (fun r114 M114 h => ?_)
                refine j_istore (pc := 196) C [(10, _), (9, _), (0, _), (1, _), (2, _), (3, _), (4, _), (5, _), (6, _), (7, _), (8, _)] dL_asks_196 (by decide) rfl ?_
                refine j_aload_n (pc := 198) C 3 dL_asks_198 rfl ?_
                refine j_iconst (pc := 199) (v := (3 : Int32)) C dL_asks_199 rfl ?_
                refine c2_L_203 (pc := 200) C ⟨(Nat.le_of_ble_eq_true rfl), (Nat.le_of_ble_eq_true rfl)⟩ ⟨hb, hs⟩ (Nat.le_of_ble_eq_true rfl) dL_asks_200 h (fun r115 M115 h => ?_)
                refine j_istore (pc := 203) C [(9, _), (10, _), (0, _), (1, _), (2, _), (3, _), (4, _), (5, _), (6, _), (7, _), (8, _)] dL_asks_203 (by decide) rfl ?_
                refine j_aload_n (pc := 205) C 3 dL_asks_205 rfl ?_
                refine j_iload (pc := 206) C 1 dL_asks_206 rfl ?_
                refine c2_L_231 (pc := 208) C ⟨(Nat.le_of_ble_eq_true rfl), (Nat.le_of_ble_eq_true rfl)⟩ ⟨hb, hs⟩ (Nat.le_of_ble_eq_true rfl) dL_asks_208 h (fun M116 h => ?_)
                refine j_aload_n (pc := 211) C 4 dL_asks_211 rfl ?_
                refine j_aload_n (pc := 212) C 3 dL_asks_212 rfl ?_
                refine gf_L_100 (pc := 213) C dL_asks_213 h (fun h => ?_)
                refine c2_L_39 (pc := 216) C ⟨(Nat.le_of_ble_eq_true rfl), (Nat.le_of_ble_eq_true rfl)⟩ ⟨hb, hs⟩ (Nat.le_of_ble_eq_true rfl) dL_asks_216 h (fun r118 M118 h => ?_)
                refine j_istore (pc := 219) C [(10, _), (9, _), (0, _), (1, _), (2, _), (3, _), (4, _), (5, _), (6, _), (7, _), (8, _)] dL_asks_219 (by decide) rfl ?_
                refine j_aload_n (pc := 221) C 3 dL_asks_221 rfl ?_
                refine j_iload (pc := 222) C 0 dL_asks_222 rfl ?_
                refine j_iload (pc := 224) C 6 dL_asks_224 rfl ?_
                refine j_iconst (pc := 226) (v := (-1 : Int32)) C dL_asks_226 rfl ?_
                obtain ⟨b119, s119, hb, hs, h⟩ := h
                refine c2_L_235 (pc := 227) C ⟨(Nat.le_of_ble_eq_true rfl), (Nat.le_of_ble_eq_true rfl)⟩ ⟨hb, hs⟩ (Nat.le_of_ble_eq_true rfl) dL_asks_227 h (fun r119 M119 h => ?_)
                obtain ⟨h1_119, h0_119⟩ := h
                rcases r119 with _ | a119
                · have h := h0_119 rfl
                  refine j_astoreN (pc := 230) C [(11, _), (10, _), (9, _), (0, _), (1, _), (2, _), (3, _), (4, _), (5, _), (6, _), (7, _), (8, _)] dL_asks_230 (by decide) rfl ?_
                  refine j_aload_n (pc := 232) C 3 dL_asks_232 rfl ?_
                  refine j_iload_n (pc := 233) C 6 dL_asks_233 rfl ?_
                  refine j_iload (pc := 234) C 7 dL_asks_234 rfl ?_
                  refine j_iload (pc := 236) C 9 dL_asks_236 rfl ?_
                  refine j_iload (pc := 238) C 8 dL_asks_238 rfl ?_
                  refine c2_L_238 (pc := 240) C ⟨(Nat.le_of_ble_eq_true rfl), (Nat.le_of_ble_eq_true rfl)⟩ ⟨hb, hs⟩ (Nat.le_of_ble_eq_true rfl) dL_asks_240 h (fun r123 M123 h => ?_)
                  refine j_iload (pc := 243) C 2 dL_asks_243 rfl ?_
                  refine j_icmp_ne (pc := 245) C 280 dL_asks_245 (by decide) h (fun h => ?_) (fun h => ?_)
                  · refine j_iconst (pc := 280) (v := (0 : Int32)) C dL_asks_280 rfl ?_
                    exact j_zret (pc := 281) C dL_asks_281 hb hs h
                  · refine j_aload_n (pc := 248) C 3 dL_asks_248 rfl ?_
                    refine j_iload (pc := 249) C 1 dL_asks_249 rfl ?_
                    refine j_iload (pc := 251) C 7 dL_asks_251 rfl ?_
                    refine c2_L_241 (pc := 253) C ⟨(Nat.le_of_ble_eq_true rfl), (Nat.le_of_ble_eq_true rfl)⟩ ⟨hb, hs⟩ (Nat.le_of_ble_eq_true rfl) dL_asks_253 h (fun r124 M124 h => ?_)
                    refine j_aloadN (pc := 256) C 0 dL_asks_256 rfl ?_
                    refine j_ifnnN (pc := 258) C dL_asks_258 ?_
                    refine j_iconst (pc := 261) (v := (-1 : Int32)) C dL_asks_261 rfl ?_
                    refine j_goto (pc := 262) C 273 dL_asks_262 (by decide) ?_
                    refine j_icmp_ne (pc := 273) C 280 dL_asks_273 (by decide) h (fun h => ?_) (fun h => ?_)
                    · refine j_iconst (pc := 280) (v := (0 : Int32)) C dL_asks_280 rfl ?_
                      exact j_zret (pc := 281) C dL_asks_281 hb hs h
                    · refine j_iconst (pc := 276) (v := (1 : Int32)) C dL_asks_276 rfl ?_
                      refine j_goto (pc := 277) C 281 dL_asks_277 (by decide) ?_
                      exact j_zret (pc := 281) C dL_asks_281 hb hs h
                · have h := h1_119 a119 rfl
                  refine j_astore (pc := 230) C [(11, _), (10, _), (9, _), (0, _), (1, _), (2, _), (3, _), (4, _), (5, _), (6, _), (7, _), (8, _)] dL_asks_230 (by decide) rfl ?_
                  refine j_aload_n (pc := 232) C 3 dL_asks_232 rfl ?_
                  refine j_iload_n (pc := 233) C 6 dL_asks_233 rfl ?_
                  refine j_iload (pc := 234) C 7 dL_asks_234 rfl ?_
                  refine j_iload (pc := 236) C 9 dL_asks_236 rfl ?_
                  refine j_iload (pc := 238) C 8 dL_asks_238 rfl ?_
                  refine c2_L_238 (pc := 240) C ⟨(Nat.le_of_ble_eq_true rfl), (Nat.le_of_ble_eq_true rfl)⟩ ⟨hb, hs⟩ (Nat.le_of_ble_eq_true rfl) dL_asks_240 h (fun r120 M120 h => ?_)
                  refine j_iload (pc := 243) C 2 dL_asks_243 rfl ?_
                  refine j_icmp_ne (pc := 245) C 280 dL_asks_245 (by decide) h (fun h => ?_) (fun h => ?_)
                  · refine j_iconst (pc := 280) (v := (0 : Int32)) C dL_asks_280 rfl ?_
                    exact j_zret (pc := 281) C dL_asks_281 hb hs h
                  · refine j_aload_n (pc := 248) C 3 dL_asks_248 rfl ?_
                    refine j_iload (pc := 249) C 1 dL_asks_249 rfl ?_
                    refine j_iload (pc := 251) C 7 dL_asks_251 rfl ?_
                    refine c2_L_241 (pc := 253) C ⟨(Nat.le_of_ble_eq_true rfl), (Nat.le_of_ble_eq_true rfl)⟩ ⟨hb, hs⟩ (Nat.le_of_ble_eq_true rfl) dL_asks_253 h (fun r121 M121 h => ?_)
                    refine j_aload (pc := 256) C 0 dL_asks_256 rfl ?_
                    refine j_ifnnA (pc := 258) C 265 dL_asks_258 (by decide) ?_
                    refine j_aload_n (pc := 265) C 4 dL_asks_265 rfl ?_
                    refine j_iload (pc := 266) C 1 dL_asks_266 rfl ?_
                    refine j_aload (pc := 268) C 0 dL_asks_268 rfl ?_
                    refine c2_L_166 (pc := 270) C ⟨(Nat.le_of_ble_eq_true rfl), (Nat.le_of_ble_eq_true rfl)⟩ ⟨hb, hs⟩ (Nat.le_of_ble_eq_true rfl) dL_asks_270 h (fun r122 M122 h => ?_)
                    refine j_icmp_ne (pc := 273) C 280 dL_asks_273 (by decide) h (fun h => ?_) (fun h => ?_)
                    · refine j_iconst (pc := 280) (v := (0 : Int32)) C dL_asks_280 rfl ?_
                      exact j_zret (pc := 281) C dL_asks_281 hb hs h
                    · refine j_iconst (pc := 276) (v := (1 : Int32)) C dL_asks_276 rfl ?_
                      refine j_goto (pc := 277) C 281 dL_asks_277 (by decide) ?_
                      exact j_zret (pc := 281) C dL_asks_281 hb hs h
            · refine j_iconst (pc := 175) (v := (0 : Int32)) C dL_asks_175 rfl ?_
              exact j_zret (pc := 176) C dL_asks_176 hb hs h
          · refine j_iload (pc := 166) C 8 dL_asks_166 rfl ?_
            refine j_goto (pc := 168) C 172 dL_asks_168 (by decide) ?_
            refine j_icmp_eq (pc := 172) C 177 dL_asks_172 (by decide) h (fun h => ?_) (fun h => ?_)
            · refine j_iconst (pc := 177) (v := (-1 : Int32)) C dL_asks_177 rfl ?_
              refine j_istore (pc := 178) C [(9, _), (0, _), (1, _), (2, _), (3, _), (4, _), (5, _), (6, _), (7, _), (8, _)] dL_asks_178 (by decide) rfl ?_
              refine j_iload (pc := 180) C 8 dL_asks_180 rfl ?_
              refine j_if_ne (pc := 182) C 211 dL_asks_182 (by decide) h (fun h => ?_) (fun h => ?_)
              · refine j_aload_n (pc := 211) C 3 dL_asks_211 rfl ?_
                refine j_aload_n (pc := 212) C 2 dL_asks_212 rfl ?_
                refine gf_L_100 (pc := 213) C dL_asks_213 h (fun h => ?_)
                refine c2_L_39 (pc := 216) C ⟨(Nat.le_of_ble_eq_true rfl), (Nat.le_of_ble_eq_true rfl)⟩ ⟨hb, hs⟩ (Nat.le_of_ble_eq_true rfl) dL_asks_216 h (fun r126 M126 h => ?_)
                refine j_istore (pc := 219) C [(10, _), (9, _), (0, _), (1, _), (2, _), (3, _), (4, _), (5, _), (6, _), (7, _), (8, _)] dL_asks_219 (by decide) rfl ?_
                refine j_aload_n (pc := 221) C 3 dL_asks_221 rfl ?_
                refine j_iload (pc := 222) C 0 dL_asks_222 rfl ?_
                refine j_iload (pc := 224) C 6 dL_asks_224 rfl ?_
                refine j_iconst (pc := 226) (v := (-1 : Int32)) C dL_asks_226 rfl ?_
                obtain ⟨b127, s127, hb, hs, h⟩ := h
                refine c2_L_235 (pc := 227) C ⟨(Nat.le_of_ble_eq_true rfl), (Nat.le_of_ble_eq_true rfl)⟩ ⟨hb, hs⟩ (Nat.le_of_ble_eq_true rfl) dL_asks_227 h (fun r127 M127 h => ?_)
                obtain ⟨h1_127, h0_127⟩ := h
                rcases r127 with _ | a127
                · have h := h0_127 rfl
                  refine j_astoreN (pc := 230) C [(11, _), (10, _), (9, _), (0, _), (1, _), (2, _), (3, _), (4, _), (5, _), (6, _), (7, _), (8, _)] dL_asks_230 (by decide) rfl ?_
                  refine j_aload_n (pc := 232) C 3 dL_asks_232 rfl ?_
                  refine j_iload_n (pc := 233) C 6 dL_asks_233 rfl ?_
                  refine j_iload (pc := 234) C 7 dL_asks_234 rfl ?_
                  refine j_iload (pc := 236) C 9 dL_asks_236 rfl ?_
                  refine j_iload (pc := 238) C 8 dL_asks_238 rfl ?_
                  refine c2_L_238 (pc := 240) C ⟨(Nat.le_of_ble_eq_true rfl), (Nat.le_of_ble_eq_true rfl)⟩ ⟨hb, hs⟩ (Nat.le_of_ble_eq_true rfl) dL_asks_240 h (fun r131 M131 h => ?_)
                  refine j_iload (pc := 243) C 2 dL_asks_243 rfl ?_
                  refine j_icmp_ne (pc := 245) C 280 dL_asks_245 (by decide) h (fun h => ?_) (fun h => ?_)
                  · refine j_iconst (pc := 280) (v := (0 : Int32)) C dL_asks_280 rfl ?_
                    exact j_zret (pc := 281) C dL_asks_281 hb hs h
                  · refine j_aload_n (pc := 248) C 3 dL_asks_248 rfl ?_
                    refine j_iload (pc := 249) C 1 dL_asks_249 rfl ?_
                    refine j_iload (pc := 251) C 7 dL_asks_251 rfl ?_
                    refine c2_L_241 (pc := 253) C ⟨(Nat.le_of_ble_eq_true rfl), (Nat.le_of_ble_eq_true rfl)⟩ ⟨hb, hs⟩ (Nat.le_of_ble_eq_true rfl) dL_asks_253 h (fun r132 M132 h => ?_)
                    refine j_aloadN (pc := 256) C 0 dL_asks_256 rfl ?_
                    refine j_ifnnN (pc := 258) C dL_asks_258 ?_
                    refine j_iconst (pc := 261) (v := (-1 : Int32)) C dL_asks_261 rfl ?_
                    refine j_goto (pc := 262) C 273 dL_asks_262 (by decide) ?_
                    refine j_icmp_ne (pc := 273) C 280 dL_asks_273 (by decide) h (fun h => ?_) (fun h => ?_)
                    · refine j_iconst (pc := 280) (v := (0 : Int32)) C dL_asks_280 rfl ?_
                      exact j_zret (pc := 281) C dL_asks_281 hb hs h
                    · refine j_iconst (pc := 276) (v := (1 : Int32)) C dL_asks_276 rfl ?_
                      refine j_goto (pc := 277) C 281 dL_asks_277 (by decide) ?_
                      exact j_zret (pc := 281) C dL_asks_281 hb hs h
                · have h := h1_127 a127 rfl
                  refine j_astore (pc := 230) C [(11, _), (10, _), (9, _), (0, _), (1, _), (2, _), (3, _), (4, _), (5, _), (6, _), (7, _), (8, _)] dL_asks_230 (by decide) rfl ?_
                  refine j_aload_n (pc := 232) C 3 dL_asks_232 rfl ?_
                  refine j_iload_n (pc := 233) C 6 dL_asks_233 rfl ?_
                  refine j_iload (pc := 234) C 7 dL_asks_234 rfl ?_
                  refine j_iload (pc := 236) C 9 dL_asks_236 rfl ?_
                  refine j_iload (pc := 238) C 8 dL_asks_238 rfl ?_
                  refine c2_L_238 (pc := 240) C ⟨(Nat.le_of_ble_eq_true rfl), (Nat.le_of_ble_eq_true rfl)⟩ ⟨hb, hs⟩ (Nat.le_of_ble_eq_true rfl) dL_asks_240 h (fun r128 M128 h => ?_)
                  refine j_iload (pc := 243) C 2 dL_asks_243 rfl ?_
                  refine j_icmp_ne (pc := 245) C 280 dL_asks_245 (by decide) h (fun h => ?_) (fun h => ?_)
                  · refine j_iconst (pc := 280) (v := (0 : Int32)) C dL_asks_280 rfl ?_
                    exact j_zret (pc := 281) C dL_asks_281 hb hs h
                  · refine j_aload_n (pc := 248) C 3 dL_asks_248 rfl ?_
                    refine j_iload (pc := 249) C 1 dL_asks_249 rfl ?_
                    refine j_iload (pc := 251) C 7 dL_asks_251 rfl ?_
                    refine c2_L_241 (pc := 253) C ⟨(Nat.le_of_ble_eq_true rfl), (Nat.le_of_ble_eq_true rfl)⟩ ⟨hb, hs⟩ (Nat.le_of_ble_eq_true rfl) dL_asks_253 h (fun r129 M129 h => ?_)
                    refine j_aload (pc := 256) C 0 dL_asks_256 rfl ?_
                    refine j_ifnnA (pc := 258) C 265 dL_asks_258 (by decide) ?_
                    refine j_aload_n (pc := 265) C 4 dL_asks_265 rfl ?_
                    refine j_iload (pc := 266) C 1 dL_asks_266 rfl ?_
                    refine j_aload (pc := 268) C 0 dL_asks_268 rfl ?_
                    refine c2_L_166 (pc := 270) C ⟨(Nat.le_of_ble_eq_true rfl), (Nat.le_of_ble_eq_true rfl)⟩ ⟨hb, hs⟩ (Nat.le_of_ble_eq_true rfl) dL_asks_270 h (fun r130 M130 h => ?_)
                    refine j_icmp_ne (pc := 273) C 280 dL_asks_273 (by decide) h (fun h => ?_) (fun h => ?_)
                    · refine j_iconst (pc := 280) (v := (0 : Int32)) C dL_asks_280 rfl ?_
                      exact j_zret (pc := 281) C dL_asks_281 hb hs h
                    · refine j_iconst (pc := 276) (v := (1 : Int32)) C dL_asks_276 rfl ?_
                      refine j_goto (pc := 277) C 281 dL_asks_277 (by decide) ?_
                      exact j_zret (pc := 281) C dL_asks_281 hb hs h
              · refine j_aload_n (pc := 185) C 2 dL_asks_185 rfl ?_
                refine j_iload_n (pc := 186) C 4 dL_asks_186 rfl ?_
                refine j_iload (pc := 187) C 5 dL_asks_187 rfl ?_
                refine j_iload (pc := 189) C 7 dL_asks_189 rfl ?_
                refine j_iload (pc := 191) C 6 dL_asks_191 rfl ?_
                obtain ⟨b133, s133, hb, hs, h⟩ := h
                refine c2_L_228 (pc := 193) C ⟨(Nat.le_of_ble_eq_true rfl), (Nat.le_of_ble_eq_true rfl)⟩ ⟨hb, hs⟩ (Nat.le_of_ble_eq_true rfl) dL_asks_193 h (fun r133 M133 h => ?_)
                refine j_istore (pc := 196) C [(10, _), (9, _), (0, _), (1, _), (2, _), (3, _), (4, _), (5, _), (6, _), (7, _), (8, _)] dL_asks_196 (by decide) rfl ?_
                refine j_aload_n (pc := 198) C 3 dL_asks_198 rfl ?_
                refine j_iconst (pc := 199) (v := (3 : Int32)) C dL_asks_199 rfl ?_
                refine c2_L_203 (pc := 200) C ⟨(Nat.le_of_ble_eq_true rfl), (Nat.le_of_ble_eq_true rfl)⟩ ⟨hb, hs⟩ (Nat.le_of_ble_eq_true rfl) dL_asks_200 h (fun r134 M134 h => ?_)
                refine j_istore (pc := 203) C [(9, _), (10, _), (0, _), (1, _), (2, _), (3, _), (4, _), (5, _), (6, _), (7, _), (8, _)] dL_asks_203 (by decide) rfl ?_
                refine j_aload_n (pc := 205) C 3 dL_asks_205 rfl ?_
                refine j_iload (pc := 206) C 1 dL_asks_206 rfl ?_
                refine c2_L_231 (pc := 208) C ⟨(Nat.le_of_ble_eq_true rfl), (Nat.le_of_ble_eq_true rfl)⟩ ⟨hb, hs⟩ (Nat.le_of_ble_eq_true rfl) dL_asks_208 h (fun M135 h => ?_)
                refine j_aload_n (pc := 211) C 4 dL_asks_211 rfl ?_
                refine j_aload_n (pc := 212) C 3 dL_asks_212 rfl ?_
                refine gf_L_100 (pc := 213) C dL_asks_213 h (fun h => ?_)
                refine c2_L_39 (pc := 216) C ⟨(Nat.le_of_ble_eq_true rfl), (Nat.le_of_ble_eq_true rfl)⟩ ⟨hb, hs⟩ (Nat.le_of_ble_eq_true rfl) dL_asks_216 h (fun r137 M137 h => ?_)
                refine j_istore (pc := 219) C [(10, _), (9, _), (0, _), (1, _), (2, _), (3, _), (4, _), (5, _), (6, _), (7, _), (8, _)] dL_asks_219 (by decide) rfl ?_
                refine j_aload_n (pc := 221) C 3 dL_asks_221 rfl ?_
                refine j_iload (pc := 222) C 0 dL_asks_222 rfl ?_
                refine j_iload (pc := 224) C 6 dL_asks_224 rfl ?_
                refine j_iconst (pc := 226) (v := (-1 : Int32)) C dL_asks_226 rfl ?_
                obtain ⟨b138, s138, hb, hs, h⟩ := h
                refine c2_L_235 (pc := 227) C ⟨(Nat.le_of_ble_eq_true rfl), (Nat.le_of_ble_eq_true rfl)⟩ ⟨hb, hs⟩ (Nat.le_of_ble_eq_true rfl) dL_asks_227 h (fun r138 M138 h => ?_)
                obtain ⟨h1_138, h0_138⟩ := h
                rcases r138 with _ | a138
                · have h := h0_138 rfl
                  refine j_astoreN (pc := 230) C [(11, _), (10, _), (9, _), (0, _), (1, _), (2, _), (3, _), (4, _), (5, _), (6, _), (7, _), (8, _)] dL_asks_230 (by decide) rfl ?_
                  refine j_aload_n (pc := 232) C 3 dL_asks_232 rfl ?_
                  refine j_iload_n (pc := 233) C 6 dL_asks_233 rfl ?_
                  refine j_iload (pc := 234) C 7 dL_asks_234 rfl ?_
                  refine j_iload (pc := 236) C 9 dL_asks_236 rfl ?_
                  refine j_iload (pc := 238) C 8 dL_asks_238 rfl ?_
                  refine c2_L_238 (pc := 240) C ⟨(Nat.le_of_ble_eq_true rfl), (Nat.le_of_ble_eq_true rfl)⟩ ⟨hb, hs⟩ (Nat.le_of_ble_eq_true rfl) dL_asks_240 h (fun r142 M142 h => ?_)
                  refine j_iload (pc := 243) C 2 dL_asks_243 rfl ?_
                  refine j_icmp_ne (pc := 245) C 280 dL_asks_245 (by decide) h (fun h => ?_) (fun h => ?_)
                  · refine j_iconst (pc := 280) (v := (0 : Int32)) C dL_asks_280 rfl ?_
                    exact j_zret (pc := 281) C dL_asks_281 hb hs h
                  · refine j_aload_n (pc := 248) C 3 dL_asks_248 rfl ?_
                    refine j_iload (pc := 249) C 1 dL_asks_249 rfl ?_
                    refine j_iload (pc := 251) C 7 dL_asks_251 rfl ?_
                    refine c2_L_241 (pc := 253) C ⟨(Nat.le_of_ble_eq_true rfl), (Nat.le_of_ble_eq_true rfl)⟩ ⟨hb, hs⟩ (Nat.le_of_ble_eq_true rfl) dL_asks_253 h (fun r143 M143 h => ?_)
                    refine j_aloadN (pc := 256) C 0 dL_asks_256 rfl ?_
                    refine j_ifnnN (pc := 258) C dL_asks_258 ?_
                    refine j_iconst (pc := 261) (v := (-1 : Int32)) C dL_asks_261 rfl ?_
                    refine j_goto (pc := 262) C 273 dL_asks_262 (by decide) ?_
                    refine j_icmp_ne (pc := 273) C 280 dL_asks_273 (by decide) h (fun h => ?_) (fun h => ?_)
                    · refine j_iconst (pc := 280) (v := (0 : Int32)) C dL_asks_280 rfl ?_
                      exact j_zret (pc := 281) C dL_asks_281 hb hs h
                    · refine j_iconst (pc := 276) (v := (1 : Int32)) C dL_asks_276 rfl ?_
                      refine j_goto (pc := 277) C 281 dL_asks_277 (by decide) ?_
                      exact j_zret (pc := 281) C dL_asks_281 hb hs h
                · have h := h1_138 a138 rfl
                  refine j_astore (pc := 230) C [(11, _), (10, _), (9, _), (0, _), (1, _), (2, _), (3, _), (4, _), (5, _), (6, _), (7, _), (8, _)] dL_asks_230 (by decide) rfl ?_
                  refine j_aload_n (pc := 232) C 3 dL_asks_232 rfl ?_
                  refine j_iload_n (pc := 233) C 6 dL_asks_233 rfl ?_
                  refine j_iload (pc := 234) C 7 dL_asks_234 rfl ?_
                  refine j_iload (pc := 236) C 9 dL_asks_236 rfl ?_
                  refine j_iload (pc := 238) C 8 dL_asks_238 rfl ?_
                  refine c2_L_238 (pc := 240) C ⟨(Nat.le_of_ble_eq_true rfl), (Nat.le_of_ble_eq_true rfl)⟩ ⟨hb, hs⟩ (Nat.le_of_ble_eq_true rfl) dL_asks_240 h (fun r139 M139 h => ?_)
                  refine j_iload (pc := 243) C 2 dL_asks_243 rfl ?_
                  refine j_icmp_ne (pc := 245) C 280 dL_asks_245 (by decide) h (fun h => ?_) (fun h => ?_)
                  · refine j_iconst (pc := 280) (v := (0 : Int32)) C dL_asks_280 rfl ?_
                    exact j_zret (pc := 281) C dL_asks_281 hb hs h
                  · refine j_aload_n (pc := 248) C 3 dL_asks_248 rfl ?_
                    refine j_iload (pc := 249) C 1 dL_asks_249 rfl ?_
                    refine j_iload (pc := 251) C 7 dL_asks_251 rfl ?_
                    refine c2_L_241 (pc := 253) C ⟨(Nat.le_of_ble_eq_true rfl), (Nat.le_of_ble_eq_true rfl)⟩ ⟨hb, hs⟩ (Nat.le_of_ble_eq_true rfl) dL_asks_253 h (fun r140 M140 h => ?_)
                    refine j_aload (pc := 256) C 0 dL_asks_256 rfl ?_
                    refine j_ifnnA (pc := 258) C 265 dL_asks_258 (by decide) ?_
                    refine j_aload_n (pc := 265) C 4 dL_asks_265 rfl ?_
                    refine j_iload (pc := 266) C 1 dL_asks_266 rfl ?_
                    refine j_aload (pc := 268) C 0 dL_asks_268 rfl ?_
                    refine c2_L_166 (pc := 270) C ⟨(Nat.le_of_ble_eq_true rfl), (Nat.le_of_ble_eq_true rfl)⟩ ⟨hb, hs⟩ (Nat.le_of_ble_eq_true rfl) dL_asks_270 h (fun r141 M141 h => ?_)
                    refine j_icmp_ne (pc := 273) C 280 dL_asks_273 (by decide) h (fun h => ?_) (fun h => ?_)
                    · refine j_iconst (pc := 280) (v := (0 : Int32)) C dL_asks_280 rfl ?_
                      exact j_zret (pc := 281) C dL_asks_281 hb hs h
                    · refine j_iconst (pc := 276) (v := (1 : Int32)) C dL_asks_276 rfl ?_
                      refine j_goto (pc := 277) C 281 dL_asks_277 (by decide) ?_
                      exact j_zret (pc := 281) C dL_asks_281 hb hs h
            · refine j_iconst (pc := 175) (v := (0 : Int32)) C dL_asks_175 rfl ?_
              exact j_zret (pc := 176) C dL_asks_176 hb hs h
      · refine j_iconst (pc := 106) (v := (0 : Int32)) C dL_asks_106 rfl ?_
        exact j_zret (pc := 107) C dL_asks_107 hb hs h
end GL3
