/-! written by a program (wip/p34/gen.py) out of the decode rows and the tables: walks of the law -/

section GL4
variable {p : Program} {l : Launch} {e : Env} {R : Room} {s : State} {m : MethodId} {args : Array Value} {below : List Frame} {meth : Method} {c : Code} {Q : State → Prop} {cc : ByteArray} {nL : Nat} {ret : Option FieldType} {E : EV} {M : Mm} {kc ks pc : Nat} {lo : List (Nat × Value)} {st : List Value}
theorem c2_L_244 (C : Cx p l s m args meth c cc nL RL ret E) {b : Nat} {y0 : Int32} {y1 : Int32} {P : Int32 → Mm → Prop} (hR : rm0_X7_setContract.frames + 1 ≤ R.frames ∧ 8 + (4 + 11) + rm0_X7_setContract.locals ≤ R.locals) (hf : kc ≤ R.cells ∧ ks ≤ R.slots) (hst : (st.map fun v => v.category).sum ≤ 8) (d : decode cc pc = .ok (.invokevirtual 244, 3)) (h : zk M b = 7 ∧ w_X7_setContract M b y0 y1 P (fun _ _ => False)) (kk : ∀ r M', P r M' → J p l e R s m args below meth c Q E nL M' kc ks (pc + 3) lo (.int r :: st)) : J p l e R s m args below meth c Q E nL M kc ks pc lo (.int y1 :: .int y0 :: .ref b :: st) :=
  j_cV_I (n := 2) (As := [.int y0, .int y1]) C co_X7 rfl wd_939 wd_940 h.1 (c0_X7_setContract l E M b y0 y1 P h.2) ⟨wd_941, wd_938, wd_40, by decide +kernel, by decide +kernel, by decide +kernel⟩ rfl rfl hR hf rfl hst d kk
theorem c2_L_247 (C : Cx p l s m args meth c cc nL RL ret E) {b : Nat} {P : Int32 → Mm → Prop} (hR : rm_X8_isRehearsed.frames + 1 ≤ R.frames ∧ 8 + (3 + 11) + rm_X8_isRehearsed.locals ≤ R.locals) (hf : kc ≤ R.cells ∧ ks ≤ R.slots) (hst : (st.map fun v => v.category).sum ≤ 8) (d : decode cc pc = .ok (.invokevirtual 247, 3)) (h : zk M b = 8 ∧ w_X8_isRehearsed M b P) (kk : ∀ r M', P r M' → J p l e R s m args below meth c Q E nL M' kc ks (pc + 3) lo (.int r :: st)) : J p l e R s m args below meth c Q E nL M kc ks pc lo (.ref b :: st) :=
  j_cV_I (n := 0) (As := []) C co_X8 rfl wd_985 wd_986 h.1 (c_X8_isRehearsed l E M b P h.2) ⟨wd_987, wd_984, wd_49, by decide +kernel, by decide +kernel, by decide +kernel⟩ rfl rfl hR hf rfl hst d kk
theorem c2_L_250 (C : Cx p l s m args meth c cc nL RL ret E) {b : Nat} {y0 : Int32} {P : Int32 → Mm → Prop} (hR : rm0_X7_cancel.frames + 1 ≤ R.frames ∧ 8 + (2 + 11) + rm0_X7_cancel.locals ≤ R.locals) (hf : kc ≤ R.cells ∧ ks ≤ R.slots) (hst : (st.map fun v => v.category).sum ≤ 8) (d : decode cc pc = .ok (.invokevirtual 250, 3)) (h : zk M b = 7 ∧ w_X7_cancel M b y0 P (fun _ _ => False)) (kk : ∀ r M', P r M' → J p l e R s m args below meth c Q E nL M' kc ks (pc + 3) lo (.int r :: st)) : J p l e R s m args below meth c Q E nL M kc ks pc lo (.int y0 :: .ref b :: st) :=
  j_cV_I (n := 1) (As := [.int y0]) C co_X7 rfl wd_993 wd_994 h.1 (c0_X7_cancel l E M b y0 P h.2) ⟨wd_995, wd_992, wd_40, by decide +kernel, by decide +kernel, by decide +kernel⟩ rfl rfl hR hf rfl hst d kk
theorem c2_L_253 (C : Cx p l s m args meth c cc nL RL ret E) {y0 : Nat} {y1 : Nat} {y2 : Nat} {P : Int32 → Mm → Prop} (hR : rm_L_back.frames + 1 ≤ R.frames ∧ 8 + (4 + 11) + rm_L_back.locals ≤ R.locals) (hf : kc ≤ R.cells ∧ ks ≤ R.slots) (hst : (st.map fun v => v.category).sum ≤ 8) (d : decode cc pc = .ok (.invokestatic 253, 3)) (h : w_L_back M y0 y1 y2 P) (kk : ∀ r M', P r M' → J p l e R s m args below meth c Q E nL M' kc ks (pc + 3) lo (.int r :: st)) : J p l e R s m args below meth c Q E nL M kc ks pc lo (.ref y2 :: .ref y1 :: .ref y0 :: st) :=
  j_cS_I (n := 3) (As := [.ref y0, .ref y1, .ref y2]) C wd_1042 (c_L_back l E M y0 y1 y2 P h) ⟨wd_1043, wd_1041, wd_39, by decide +kernel, by decide +kernel, by decide +kernel⟩ rfl rfl hR hf rfl hst d kk
theorem c2_L_257 (C : Cx p l s m args meth c cc nL RL ret E) {b : Nat} {y0 : Int32} {y1 : Int32} {P : Int32 → Mm → Prop} (hR : rm0_X7_whyNotMove.frames + 1 ≤ R.frames ∧ 8 + (3 + 11) + rm0_X7_whyNotMove.locals ≤ R.locals) (hf : kc ≤ R.cells ∧ ks ≤ R.slots) (hst : (st.map fun v => v.category).sum ≤ 8) (d : decode cc pc = .ok (.invokevirtual 257, 3)) (h : zk M b = 7 ∧ w_X7_whyNotMove M b y0 y1 P (fun _ _ => False)) (kk : ∀ r M', P r M' → J p l e R s m args below meth c Q E nL M' kc ks (pc + 3) lo (.int r :: st)) : J p l e R s m args below meth c Q E nL M kc ks pc lo (.int y1 :: .int y0 :: .ref b :: st) :=
  j_cV_I (n := 2) (As := [.int y0, .int y1]) C co_X7 rfl wd_1088 wd_1089 h.1 (c0_X7_whyNotMove l E M b y0 y1 P h.2) ⟨wd_1090, wd_1087, wd_40, by decide +kernel, by decide +kernel, by decide +kernel⟩ rfl rfl hR hf rfl hst d kk
theorem c2_L_260 (C : Cx p l s m args meth c cc nL RL ret E) {b : Nat} {y0 : Int32} {y1 : Int32} {P : Int32 → Mm → Prop} (hR : rm0_X7_move.frames + 1 ≤ R.frames ∧ 8 + (4 + 11) + rm0_X7_move.locals ≤ R.locals) (hf : kc ≤ R.cells ∧ ks ≤ R.slots) (hst : (st.map fun v => v.category).sum ≤ 8) (d : decode cc pc = .ok (.invokevirtual 260, 3)) (h : zk M b = 7 ∧ w_X7_move M b y0 y1 P (fun _ _ => False)) (kk : ∀ r M', P r M' → J p l e R s m args below meth c Q E nL M' kc ks (pc + 3) lo (.int r :: st)) : J p l e R s m args below meth c Q E nL M kc ks pc lo (.int y1 :: .int y0 :: .ref b :: st) :=
  j_cV_I (n := 2) (As := [.int y0, .int y1]) C co_X7 rfl wd_1191 wd_1192 h.1 (c0_X7_move l E M b y0 y1 P h.2) ⟨wd_1193, wd_1190, wd_40, by decide +kernel, by decide +kernel, by decide +kernel⟩ rfl rfl hR hf rfl hst d kk
theorem c2_L_263 (C : Cx p l s m args meth c cc nL RL ret E) {b : Nat} {y0 : Int32} {P : Int32 → Mm → Prop} (hR : rm0_X7_recast.frames + 1 ≤ R.frames ∧ 8 + (2 + 11) + rm0_X7_recast.locals ≤ R.locals) (hf : kc ≤ R.cells ∧ ks ≤ R.slots) (hst : (st.map fun v => v.category).sum ≤ 8) (d : decode cc pc = .ok (.invokevirtual 263, 3)) (h : zk M b = 7 ∧ w_X7_recast M b y0 P (fun _ _ => False)) (kk : ∀ r M', P r M' → J p l e R s m args below meth c Q E nL M' kc ks (pc + 3) lo (.int r :: st)) : J p l e R s m args below meth c Q E nL M kc ks pc lo (.int y0 :: .ref b :: st) :=
  j_cV_I (n := 1) (As := [.int y0]) C co_X7 rfl wd_1200 wd_1201 h.1 (c0_X7_recast l E M b y0 P h.2) ⟨wd_1202, wd_1199, wd_40, by decide +kernel, by decide +kernel, by decide +kernel⟩ rfl rfl hR hf rfl hst d kk
theorem c2_L_266 (C : Cx p l s m args meth c cc nL RL ret E) {b : Nat} {y0 : Int32} {y1 : Int32} {y2 : Int32} {P : Int32 → Mm → Prop} (hR : rm0_X7_concert.frames + 1 ≤ R.frames ∧ 8 + (4 + 11) + rm0_X7_concert.locals ≤ R.locals) (hf : kc ≤ R.cells ∧ ks ≤ R.slots) (hst : (st.map fun v => v.category).sum ≤ 8) (d : decode cc pc = .ok (.invokevirtual 266, 3)) (h : zk M b = 7 ∧ w_X7_concert M b y0 y1 y2 P (fun _ _ => False)) (kk : ∀ r M', P r M' → J p l e R s m args below meth c Q E nL M' kc ks (pc + 3) lo (.int r :: st)) : J p l e R s m args below meth c Q E nL M kc ks pc lo (.int y2 :: .int y1 :: .int y0 :: .ref b :: st) :=
  j_cV_I (n := 3) (As := [.int y0, .int y1, .int y2]) C co_X7 rfl wd_1219 wd_1220 h.1 (c0_X7_concert l E M b y0 y1 y2 P h.2) ⟨wd_1221, wd_1218, wd_40, by decide +kernel, by decide +kernel, by decide +kernel⟩ rfl rfl hR hf rfl hst d kk
theorem c2_L_269 (C : Cx p l s m args meth c cc nL RL ret E) {b : Nat} {y0 : Int32} {y1 : Int32} {y2 : Int32} {P : Int32 → Mm → Prop} (hR : rm0_X7_rehearse.frames + 1 ≤ R.frames ∧ 8 + (4 + 11) + rm0_X7_rehearse.locals ≤ R.locals) (hf : kc ≤ R.cells ∧ ks ≤ R.slots) (hst : (st.map fun v => v.category).sum ≤ 8) (d : decode cc pc = .ok (.invokevirtual 269, 3)) (h : zk M b = 7 ∧ w_X7_rehearse M b y0 y1 y2 P (fun _ _ => False)) (kk : ∀ r M', P r M' → J p l e R s m args below meth c Q E nL M' kc ks (pc + 3) lo (.int r :: st)) : J p l e R s m args below meth c Q E nL M kc ks pc lo (.int y2 :: .int y1 :: .int y0 :: .ref b :: st) :=
  j_cV_I (n := 3) (As := [.int y0, .int y1, .int y2]) C co_X7 rfl wd_1237 wd_1238 h.1 (c0_X7_rehearse l E M b y0 y1 y2 P h.2) ⟨wd_1239, wd_1236, wd_40, by decide +kernel, by decide +kernel, by decide +kernel⟩ rfl rfl hR hf rfl hst d kk
abbrev rm_L_changes (B S : Nat) : Room := { frames := 11, cells := B, slots := S, locals := 296 }
def l_L_changes_450 (B S : Nat) (P : Int32 → Mm → Prop) (K499 : Mm → Nat → Nat → Nat → Int32 → Int32 → Int32 → Prop) : Nat → Mm → Nat → Nat → Nat → Nat → Int32 → Int32 → Int32 → Int32 → Prop
  | 0, _, _, _, _, _, _, _, _, _ => False
  | n + 1, M, b, s, x0, x1, x4, x6, x7, x8 => zk M x1 = 8 ∧ (if (zI M x1 3) ≤ x8 then K499 M b s x0 x4 x6 x7 else (zk M x1 = 8 ∧ ∃ a92, zR M x1 15 = some a92 ∧ (zk M a92 = 15 ∧ vp_in x6 (zl M a92) ∧ ∃ a93, zR M a92 x6.toNatClampNeg = some a93 ∧ zk M a93 = 14 ∧ vp_in x8 (zl M a93) ∧ (∀ a94, zR M a93 x8.toNatClampNeg = some a94 → (zk M x1 = 8 ∧ ∃ a95, zR M x1 15 = some a95 ∧ (zk M a95 = 15 ∧ vp_in x6 (zl M a95) ∧ ∃ a96, zR M a95 x6.toNatClampNeg = some a96 ∧ (zk M a96 = 14 ∧ vp_in x8 (zl M a96) ∧ ∃ a97, zR M a96 x8.toNatClampNeg = some a97 ∧ zk M x1 = 8 ∧ w_X8_doublings M x1 x8 a97 (fun r98 M98 => l_L_changes_450 B S P K499 n M98 b s x0 x1 x4 x6 (x7 + r98) (x8 + (1 : Int32))))))) ∧ (zR M a93 x8.toNatClampNeg = none → l_L_changes_450 B S P K499 n M b s x0 x1 x4 x6 x7 (x8 + (1 : Int32))))))
set_option maxHeartbeats 4000000 in
set_option maxRecDepth 100000 in
theorem jl_L_changes_450 {s0 : State} {B S : Nat} {P : Int32 → Mm → Prop} {K499 : Mm → Nat → Nat → Nat → Int32 → Int32 → Int32 → Prop} (C : Cx p l s0 m args meth c cL_changes 10 RL (some .boolean) E) (k499 : ∀ M b s x0 x4 x6 x7, b ≤ B → s ≤ S → K499 M b s x0 x4 x6 x7 → J p l e (rm_L_changes B S) s0 m args below meth c (QI below E P args s0 B S) E 10 M b s 499 [(0, .ref x0), (4, .int x4), (6, .int x6), (7, .int x7)] []) : ∀ n M b s x0 x1 x4 x6 x7 x8, b ≤ B → s ≤ S → l_L_changes_450 B S P K499 n M b s x0 x1 x4 x6 x7 x8 → J p l e (rm_L_changes B S) s0 m args below meth c (QI below E P args s0 B S) E 10 M b s 450 [(0, .ref x0), (1, .ref x1), (4, .int x4), (6, .int x6), (7, .int x7), (8, .int x8)] [] := by
  intro n
  induction n with
  | zero => intro M b s x0 x1 x4 x6 x7 x8 hb hs h; exact h.elim
  | succ n ih =>
    intro M b s x0 x1 x4 x6 x7 x8 hb hs h
    rw [l_L_changes_450] at h
    refine j_iload (pc := 450) C 5 dL_changes_450 rfl ?_
    refine j_aload_n (pc := 452) C 1 dL_changes_452 rfl ?_
    refine gf_L_100 (pc := 453) C dL_changes_453 h (fun h => ?_)
    refine j_icmp_ge (pc := 456) C 499 dL_changes_456 (by decide) h (fun h => ?_) (fun h => ?_)
    · exact j_weak [0, 2, 3, 4] rfl (k499 _ _ _ _ _ _ _ hb hs h)
    · refine j_aload_n (pc := 459) C 1 dL_changes_459 rfl ?_
      refine gf_L_158 (pc := 460) C dL_changes_460 h (fun a92 h => ?_)
      refine j_iload (pc := 463) C 3 dL_changes_463 rfl ?_
      refine j_aals (pc := 465) C (by decide) dL_changes_465 h (fun a93 h => ?_)
      refine j_iload (pc := 466) C 5 dL_changes_466 rfl ?_
      refine j_aaln (pc := 468) C (by decide) dL_changes_468 h (fun a94 h => ?_) (fun h => ?_)
      · refine j_ifnullA (pc := 469) C dL_changes_469 ?_
        refine j_iload (pc := 472) C 4 dL_changes_472 rfl ?_
        refine j_aload_n (pc := 474) C 1 dL_changes_474 rfl ?_
        refine j_iload (pc := 475) C 5 dL_changes_475 rfl ?_
        refine j_aload_n (pc := 477) C 1 dL_changes_477 rfl ?_
        refine gf_L_158 (pc := 478) C dL_changes_478 h (fun a95 h => ?_)
        refine j_iload (pc := 481) C 3 dL_changes_481 rfl ?_
        refine j_aals (pc := 483) C (by decide) dL_changes_483 h (fun a96 h => ?_)
        refine j_iload (pc := 484) C 5 dL_changes_484 rfl ?_
        refine j_aals (pc := 486) C (by decide) dL_changes_486 h (fun a97 h => ?_)
        refine c2_L_166 (pc := 487) C ⟨(Nat.le_of_ble_eq_true rfl), (Nat.le_of_ble_eq_true rfl)⟩ ⟨hb, hs⟩ (Nat.le_of_ble_eq_true rfl) dL_changes_487 h (fun r98 M98 h => ?_)
        refine j_iadd (pc := 490) C dL_changes_490 ?_
        refine j_istore (pc := 491) C [(7, _), (0, _), (1, _), (4, _), (6, _), (8, _)] dL_changes_491 (by decide) rfl ?_
        refine j_iinc (pc := 493) (v := (1 : Int32)) C 5 [(8, _), (7, _), (0, _), (1, _), (4, _), (6, _)] dL_changes_493 rfl rfl (by decide) rfl ?_
        refine j_goto (pc := 496) C 450 dL_changes_496 (by decide) ?_
        exact j_weak [2, 3, 4, 5, 1, 0] rfl (ih _ _ _ _ _ _ _ _ _ hb hs h)
      · refine j_ifnullN (pc := 469) C 493 dL_changes_469 (by decide) ?_
        refine j_iinc (pc := 493) (v := (1 : Int32)) C 5 [(8, _), (0, _), (1, _), (4, _), (6, _), (7, _)] dL_changes_493 rfl rfl (by decide) rfl ?_
        refine j_goto (pc := 496) C 450 dL_changes_496 (by decide) ?_
        exact j_weak [1, 2, 3, 4, 5, 0] rfl (ih _ _ _ _ _ _ _ _ _ hb hs h)
def w_L_changes (M : Mm) (x0 : Nat) (x1 : Nat) (x2 : Nat) (P : Int32 → Mm → Prop) (B S : Nat) : Prop := zk M x1 = 8 ∧ w_L_draw M x2 ((3 : Int32) * (zI M x1 0)) (fun r2 M2 => zk M2 x1 = 8 ∧ (if (zI M2 x1 6) = 0 then w_L_draw M2 x2 (9 : Int32) (fun r123 M123 => (if r123 = (0 : Int32) then zk M123 x1 = 8 ∧ w_L_draw M123 x2 (zI M123 x1 2) (fun r125 M125 => (zk M125 x1 = 8 ∧ ∃ a126, zR M125 x1 9 = some a126 ∧ zk M125 a126 = 10 ∧ vp_in r125 (zl M125 a126) ∧ (zk M125 x1 = 8 ∧ ∃ a127, zR M125 x1 9 = some a127 ∧ w_L_draw M125 x2 (8 : Int32) (fun r128 M128 => zk M128 a127 = 10 ∧ vp_in r125 (zl M128 a127) ∧ (∀ M129, M129 = sI M128 a127 r125.toNatClampNeg r128 → (zk M129 x1 = 8 ∧ ∃ a130, zR M129 x1 9 = some a130 ∧ zk M129 a130 = 10 ∧ vp_in r125 (zl M129 a130) ∧ zk M129 x0 = 7 ∧ w_X7_setContract M129 x0 r125 (zI M129 a130 r125.toNatClampNeg) (fun r131 M131 => (if r131 = (zI M125 a126 r125.toNatClampNeg) then ((1 : Int32) = 0 ∨ (1 : Int32) = 1) ∧ P (1 : Int32) M131 else ((0 : Int32) = 0 ∨ (0 : Int32) = 1) ∧ P (0 : Int32) M131)) (fun _ _ => False))))))) else (if r123 = (1 : Int32) then zk M123 x1 = 8 ∧ (if (zI M123 x1 6) = 0 then ((1 : Int32) = 0 ∨ (1 : Int32) = 1) ∧ P (1 : Int32) M123 else (zk M123 x1 = 8 ∧ ∃ a133, zR M123 x1 14 = some a133 ∧ (zk M123 a133 = 14 ∧ vp_in (0 : Int32) (zl M123 a133) ∧ ∃ a134, zR M123 a133 (0 : Int32).toNatClampNeg = some a134 ∧ (zk M123 x1 = 8 ∧ ∃ a135, zR M123 x1 15 = some a135 ∧ (zk M123 a135 = 15 ∧ vp_in (0 : Int32) (zl M123 a135) ∧ ∃ a136, zR M123 a135 (0 : Int32).toNatClampNeg = some a136 ∧ zk M123 x1 = 8 ∧ w_X8_takesOff M123 x1 (0 : Int32) (fun M137 => zk M137 x1 = 8 ∧ w_X8_isRehearsed M137 x1 (fun r138 M138 => (if r138 = 0 then w_L_back M138 x1 a134 a136 (fun r139 M139 => (if r139 = (0 : Int32) then zk M139 x0 = 7 ∧ w_X7_size M139 x0 (5 : Int32) (fun r140 M140 => zk M140 x1 = 8 ∧ (if r140 = (zI M140 x1 6) then ((1 : Int32) = 0 ∨ (1 : Int32) = 1) ∧ P (1 : Int32) M140 else ((0 : Int32) = 0 ∨ (0 : Int32) = 1) ∧ P (0 : Int32) M140)) (fun _ _ => False) else ((0 : Int32) = 0 ∨ (0 : Int32) = 1) ∧ P (0 : Int32) M139)) else zk M138 x0 = 7 ∧ w_X7_cancel M138 x0 (0 : Int32) (fun r142 M142 => zk M142 x1 = 8 ∧ (if r142 = (zI M142 x1 6) then ((1 : Int32) = 0 ∨ (1 : Int32) = 1) ∧ P (1 : Int32) M142 else ((0 : Int32) = 0 ∨ (0 : Int32) = 1) ∧ P (0 : Int32) M142)) (fun _ _ => False))))))))) else (if r123 = (2 : Int32) then zk M123 x1 = 8 ∧ (if (zI M123 x1 6) = 0 then ((1 : Int32) = 0 ∨ (1 : Int32) = 1) ∧ P (1 : Int32) M123 else (zk M123 x1 = 8 ∧ ∃ a145, zR M123 x1 14 = some a145 ∧ (zk M123 a145 = 14 ∧ vp_in (0 : Int32) (zl M123 a145) ∧ ∃ a146, zR M123 a145 (0 : Int32).toNatClampNeg = some a146 ∧ (zk M123 x1 = 8 ∧ ∃ a147, zR M123 x1 15 = some a147 ∧ (zk M123 a147 = 15 ∧ vp_in (0 : Int32) (zl M123 a147) ∧ ∃ a148, zR M123 a147 (0 : Int32).toNatClampNeg = some a148 ∧ zk M123 a146 = 10 ∧ vp_in (1 : Int32) (zl M123 a146) ∧ zk M123 a146 = 10 ∧ vp_in (3 : Int32) (zl M123 a146) ∧ zk M123 a146 = 10 ∧ vp_in (2 : Int32) (zl M123 a146) ∧ (if (zI M123 a146 (2 : Int32).toNatClampNeg) = (1 : Int32) then ∃ b176 s176, 0 + b176 ≤ B ∧ 0 + s176 ≤ S ∧ zk M123 x1 = 8 ∧ w_X8_why M123 x1 (zI M123 a146 (1 : Int32).toNatClampNeg) r2 (zI M123 a146 (3 : Int32).toNatClampNeg) (1 : Int32) (0 : Int32) (fun r176 M176 => zk M176 x1 = 8 ∧ w_X8_takesOff M176 x1 (0 : Int32) (fun M177 => (if r176 = 0 then zk M177 a146 = 10 ∧ vp_in (1 : Int32) (zl M177 a146) ∧ zk M177 a146 = 10 ∧ vp_in (3 : Int32) (zl M177 a146) ∧ zk M177 a146 = 10 ∧ vp_in (2 : Int32) (zl M177 a146) ∧ (if (zI M177 a146 (2 : Int32).toNatClampNeg) = (1 : Int32) then ∃ b193 s193, (0 + b176) + b193 ≤ B ∧ (0 + s176) + s193 ≤ S ∧ zk M177 x1 = 8 ∧ w_X8_comes M177 x1 (zI M177 a146 (1 : Int32).toNatClampNeg) r2 (zI M177 a146 (3 : Int32).toNatClampNeg) (1 : Int32) (fun r193 M193 => zk M193 x1 = 8 ∧ w_X8_isRehearsed M193 x1 (fun r194 M194 => (if r194 = 0 then zk M194 x1 = 8 ∧ w_X8_takesOff M194 x1 r193 (fun M200 => w_L_back M200 x1 a146 a148 (fun r201 M201 => (if r201 = (0 : Int32) then zk M201 x0 = 7 ∧ w_X7_whyNotMove M201 x0 (0 : Int32) r2 (fun r202 M202 => (if r202 = (6 : Int32) then ((1 : Int32) = 0 ∨ (1 : Int32) = 1) ∧ P (1 : Int32) M202 else ((0 : Int32) = 0 ∨ (0 : Int32) = 1) ∧ P (0 : Int32) M202)) (fun _ _ => False) else ((0 : Int32) = 0 ∨ (0 : Int32) = 1) ∧ P (0 : Int32) M201))) else (if r176 ≤ 0 then zk M194 x0 = 7 ∧ w_X7_whyNotMove M194 x0 (0 : Int32) r2 (fun r195 M195 => (if r195 = r176 then (if 0 < r176 then ((1 : Int32) = 0 ∨ (1 : Int32) = 1) ∧ P (1 : Int32) M195 else zk M195 x0 = 7 ∧ w_X7_move M195 x0 (0 : Int32) r2 (fun r196 M196 => (if r196 = r193 then ((1 : Int32) = 0 ∨ (1 : Int32) = 1) ∧ P (1 : Int32) M196 else ((0 : Int32) = 0 ∨ (0 : Int32) = 1) ∧ P (0 : Int32) M196)) (fun _ _ => False)) else ((0 : Int32) = 0 ∨ (0 : Int32) = 1) ∧ P (0 : Int32) M195)) (fun _ _ => False) else w_L_back M194 x1 a146 a148 (fun r197 M197 => (if r197 = (0 : Int32) then zk M197 x0 = 7 ∧ w_X7_whyNotMove M197 x0 (0 : Int32) r2 (fun r198 M198 => (if r198 = r176 then (if 0 < r176 then ((1 : Int32) = 0 ∨ (1 : Int32) = 1) ∧ P (1 : Int32) M198 else zk M198 x0 = 7 ∧ w_X7_move M198 x0 (0 : Int32) r2 (fun r199 M199 => (if r199 = r193 then ((1 : Int32) = 0 ∨ (1 : Int32) = 1) ∧ P (1 : Int32) M199 else ((0 : Int32) = 0 ∨ (0 : Int32) = 1) ∧ P (0 : Int32) M199)) (fun _ _ => False)) else ((0 : Int32) = 0 ∨ (0 : Int32) = 1) ∧ P (0 : Int32) M198)) (fun _ _ => False) else ((0 : Int32) = 0 ∨ (0 : Int32) = 1) ∧ P (0 : Int32) M197)))))) b193 s193 else ∃ b183 s183, (0 + b176) + b183 ≤ B ∧ (0 + s176) + s183 ≤ S ∧ zk M177 x1 = 8 ∧ w_X8_comes M177 x1 (zI M177 a146 (1 : Int32).toNatClampNeg) r2 (zI M177 a146 (3 : Int32).toNatClampNeg) (0 : Int32) (fun r183 M183 => zk M183 x1 = 8 ∧ w_X8_isRehearsed M183 x1 (fun r184 M184 => (if r184 = 0 then zk M184 x1 = 8 ∧ w_X8_takesOff M184 x1 r183 (fun M190 => w_L_back M190 x1 a146 a148 (fun r191 M191 => (if r191 = (0 : Int32) then zk M191 x0 = 7 ∧ w_X7_whyNotMove M191 x0 (0 : Int32) r2 (fun r192 M192 => (if r192 = (6 : Int32) then ((1 : Int32) = 0 ∨ (1 : Int32) = 1) ∧ P (1 : Int32) M192 else ((0 : Int32) = 0 ∨ (0 : Int32) = 1) ∧ P (0 : Int32) M192)) (fun _ _ => False) else ((0 : Int32) = 0 ∨ (0 : Int32) = 1) ∧ P (0 : Int32) M191))) else (if r176 ≤ 0 then zk M184 x0 = 7 ∧ w_X7_whyNotMove M184 x0 (0 : Int32) r2 (fun r185 M185 => (if r185 = r176 then (if 0 < r176 then ((1 : Int32) = 0 ∨ (1 : Int32) = 1) ∧ P (1 : Int32) M185 else zk M185 x0 = 7 ∧ w_X7_move M185 x0 (0 : Int32) r2 (fun r186 M186 => (if r186 = r183 then ((1 : Int32) = 0 ∨ (1 : Int32) = 1) ∧ P (1 : Int32) M186 else ((0 : Int32) = 0 ∨ (0 : Int32) = 1) ∧ P (0 : Int32) M186)) (fun _ _ => False)) else ((0 : Int32) = 0 ∨ (0 : Int32) = 1) ∧ P (0 : Int32) M185)) (fun _ _ => False) else w_L_back M184 x1 a146 a148 (fun r187 M187 => (if r187 = (0 : Int32) then zk M187 x0 = 7 ∧ w_X7_whyNotMove M187 x0 (0 : Int32) r2 (fun r188 M188 => (if r188 = r176 then (if 0 < r176 then ((1 : Int32) = 0 ∨ (1 : Int32) = 1) ∧ P (1 : Int32) M188 else zk M188 x0 = 7 ∧ w_X7_move M188 x0 (0 : Int32) r2 (fun r189 M189 => (if r189 = r183 then ((1 : Int32) = 0 ∨ (1 : Int32) = 1) ∧ P (1 : Int32) M189 else ((0 : Int32) = 0 ∨ (0 : Int32) = 1) ∧ P (0 : Int32) M189)) (fun _ _ => False)) else ((0 : Int32) = 0 ∨ (0 : Int32) = 1) ∧ P (0 : Int32) M188)) (fun _ _ => False) else ((0 : Int32) = 0 ∨ (0 : Int32) = 1) ∧ P (0 : Int32) M187)))))) b183 s183) else (if r176 ≤ 0 then zk M177 x0 = 7 ∧ w_X7_whyNotMove M177 x0 (0 : Int32) r2 (fun r178 M178 => (if r178 = r176 then (if 0 < r176 then ((1 : Int32) = 0 ∨ (1 : Int32) = 1) ∧ P (1 : Int32) M178 else zk M178 x0 = 7 ∧ w_X7_move M178 x0 (0 : Int32) r2 (fun r179 M179 => (if r179 = (-1 : Int32) then ((1 : Int32) = 0 ∨ (1 : Int32) = 1) ∧ P (1 : Int32) M179 else ((0 : Int32) = 0 ∨ (0 : Int32) = 1) ∧ P (0 : Int32) M179)) (fun _ _ => False)) else ((0 : Int32) = 0 ∨ (0 : Int32) = 1) ∧ P (0 : Int32) M178)) (fun _ _ => False) else w_L_back M177 x1 a146 a148 (fun r180 M180 => (if r180 = (0 : Int32) then zk M180 x0 = 7 ∧ w_X7_whyNotMove M180 x0 (0 : Int32) r2 (fun r181 M181 => (if r181 = r176 then (if 0 < r176 then ((1 : Int32) = 0 ∨ (1 : Int32) = 1) ∧ P (1 : Int32) M181 else zk M181 x0 = 7 ∧ w_X7_move M181 x0 (0 : Int32) r2 (fun r182 M182 => (if r182 = (-1 : Int32) then ((1 : Int32) = 0 ∨ (1 : Int32) = 1) ∧ P (1 : Int32) M182 else ((0 : Int32) = 0 ∨ (0 : Int32) = 1) ∧ P (0 : Int32) M182)) (fun _ _ => False)) else ((0 : Int32) = 0 ∨ (0 : Int32) = 1) ∧ P (0 : Int32) M181)) (fun _ _ => False) else ((0 : Int32) = 0 ∨ (0 : Int32) = 1) ∧ P (0 : Int32) M180)))))) b176 s176 else ∃ b149 s149, 0 + b149 ≤ B ∧ 0 + s149 ≤ S ∧ zk M123 x1 = 8 ∧ w_X8_why M123 x1 (zI M123 a146 (1 : Int32).toNatClampNeg) r2 (zI M123 a146 (3 : Int32).toNatClampNeg) (0 : Int32) (0 : Int32) (fun r149 M149 => zk M149 x1 = 8 ∧ w_X8_takesOff M149 x1 (0 : Int32) (fun M150 => (if r149 = 0 then zk M150 a146 = 10 ∧ vp_in (1 : Int32) (zl M150 a146) ∧ zk M150 a146 = 10 ∧ vp_in (3 : Int32) (zl M150 a146) ∧ zk M150 a146 = 10 ∧ vp_in (2 : Int32) (zl M150 a146) ∧ (if (zI M150 a146 (2 : Int32).toNatClampNeg) = (1 : Int32) then ∃ b166 s166, (0 + b149) + b166 ≤ B ∧ (0 + s149) + s166 ≤ S ∧ zk M150 x1 = 8 ∧ w_X8_comes M150 x1 (zI M150 a146 (1 : Int32).toNatClampNeg) r2 (zI M150 a146 (3 : Int32).toNatClampNeg) (1 : Int32) (fun r166 M166 => zk M166 x1 = 8 ∧ w_X8_isRehearsed M166 x1 (fun r167 M167 => (if r167 = 0 then zk M167 x1 = 8 ∧ w_X8_takesOff M167 x1 r166 (fun M173 => w_L_back M173 x1 a146 a148 (fun r174 M174 => (if r174 = (0 : Int32) then zk M174 x0 = 7 ∧ w_X7_whyNotMove M174 x0 (0 : Int32) r2 (fun r175 M175 => (if r175 = (6 : Int32) then ((1 : Int32) = 0 ∨ (1 : Int32) = 1) ∧ P (1 : Int32) M175 else ((0 : Int32) = 0 ∨ (0 : Int32) = 1) ∧ P (0 : Int32) M175)) (fun _ _ => False) else ((0 : Int32) = 0 ∨ (0 : Int32) = 1) ∧ P (0 : Int32) M174))) else (if r149 ≤ 0 then zk M167 x0 = 7 ∧ w_X7_whyNotMove M167 x0 (0 : Int32) r2 (fun r168 M168 => (if r168 = r149 then (if 0 < r149 then ((1 : Int32) = 0 ∨ (1 : Int32) = 1) ∧ P (1 : Int32) M168 else zk M168 x0 = 7 ∧ w_X7_move M168 x0 (0 : Int32) r2 (fun r169 M169 => (if r169 = r166 then ((1 : Int32) = 0 ∨ (1 : Int32) = 1) ∧ P (1 : Int32) M169 else ((0 : Int32) = 0 ∨ (0 : Int32) = 1) ∧ P (0 : Int32) M169)) (fun _ _ => False)) else ((0 : Int32) = 0 ∨ (0 : Int32) = 1) ∧ P (0 : Int32) M168)) (fun _ _ => False) else w_L_back M167 x1 a146 a148 (fun r170 M170 => (if r170 = (0 : Int32) then zk M170 x0 = 7 ∧ w_X7_whyNotMove M170 x0 (0 : Int32) r2 (fun r171 M171 => (if r171 = r149 then (if 0 < r149 then ((1 : Int32) = 0 ∨ (1 : Int32) = 1) ∧ P (1 : Int32) M171 else zk M171 x0 = 7 ∧ w_X7_move M171 x0 (0 : Int32) r2 (fun r172 M172 => (if r172 = r166 then ((1 : Int32) = 0 ∨ (1 : Int32) = 1) ∧ P (1 : Int32) M172 else ((0 : Int32) = 0 ∨ (0 : Int32) = 1) ∧ P (0 : Int32) M172)) (fun _ _ => False)) else ((0 : Int32) = 0 ∨ (0 : Int32) = 1) ∧ P (0 : Int32) M171)) (fun _ _ => False) else ((0 : Int32) = 0 ∨ (0 : Int32) = 1) ∧ P (0 : Int32) M170)))))) b166 s166 else ∃ b156 s156, (0 + b149) + b156 ≤ B ∧ (0 + s149) + s156 ≤ S ∧ zk M150 x1 = 8 ∧ w_X8_comes M150 x1 (zI M150 a146 (1 : Int32).toNatClampNeg) r2 (zI M150 a146 (3 : Int32).toNatClampNeg) (0 : Int32) (fun r156 M156 => zk M156 x1 = 8 ∧ w_X8_isRehearsed M156 x1 (fun r157 M157 => (if r157 = 0 then zk M157 x1 = 8 ∧ w_X8_takesOff M157 x1 r156 (fun M163 => w_L_back M163 x1 a146 a148 (fun r164 M164 => (if r164 = (0 : Int32) then zk M164 x0 = 7 ∧ w_X7_whyNotMove M164 x0 (0 : Int32) r2 (fun r165 M165 => (if r165 = (6 : Int32) then ((1 : Int32) = 0 ∨ (1 : Int32) = 1) ∧ P (1 : Int32) M165 else ((0 : Int32) = 0 ∨ (0 : Int32) = 1) ∧ P (0 : Int32) M165)) (fun _ _ => False) else ((0 : Int32) = 0 ∨ (0 : Int32) = 1) ∧ P (0 : Int32) M164))) else (if r149 ≤ 0 then zk M157 x0 = 7 ∧ w_X7_whyNotMove M157 x0 (0 : Int32) r2 (fun r158 M158 => (if r158 = r149 then (if 0 < r149 then ((1 : Int32) = 0 ∨ (1 : Int32) = 1) ∧ P (1 : Int32) M158 else zk M158 x0 = 7 ∧ w_X7_move M158 x0 (0 : Int32) r2 (fun r159 M159 => (if r159 = r156 then ((1 : Int32) = 0 ∨ (1 : Int32) = 1) ∧ P (1 : Int32) M159 else ((0 : Int32) = 0 ∨ (0 : Int32) = 1) ∧ P (0 : Int32) M159)) (fun _ _ => False)) else ((0 : Int32) = 0 ∨ (0 : Int32) = 1) ∧ P (0 : Int32) M158)) (fun _ _ => False) else w_L_back M157 x1 a146 a148 (fun r160 M160 => (if r160 = (0 : Int32) then zk M160 x0 = 7 ∧ w_X7_whyNotMove M160 x0 (0 : Int32) r2 (fun r161 M161 => (if r161 = r149 then (if 0 < r149 then ((1 : Int32) = 0 ∨ (1 : Int32) = 1) ∧ P (1 : Int32) M161 else zk M161 x0 = 7 ∧ w_X7_move M161 x0 (0 : Int32) r2 (fun r162 M162 => (if r162 = r156 then ((1 : Int32) = 0 ∨ (1 : Int32) = 1) ∧ P (1 : Int32) M162 else ((0 : Int32) = 0 ∨ (0 : Int32) = 1) ∧ P (0 : Int32) M162)) (fun _ _ => False)) else ((0 : Int32) = 0 ∨ (0 : Int32) = 1) ∧ P (0 : Int32) M161)) (fun _ _ => False) else ((0 : Int32) = 0 ∨ (0 : Int32) = 1) ∧ P (0 : Int32) M160)))))) b156 s156) else (if r149 ≤ 0 then zk M150 x0 = 7 ∧ w_X7_whyNotMove M150 x0 (0 : Int32) r2 (fun r151 M151 => (if r151 = r149 then (if 0 < r149 then ((1 : Int32) = 0 ∨ (1 : Int32) = 1) ∧ P (1 : Int32) M151 else zk M151 x0 = 7 ∧ w_X7_move M151 x0 (0 : Int32) r2 (fun r152 M152 => (if r152 = (-1 : Int32) then ((1 : Int32) = 0 ∨ (1 : Int32) = 1) ∧ P (1 : Int32) M152 else ((0 : Int32) = 0 ∨ (0 : Int32) = 1) ∧ P (0 : Int32) M152)) (fun _ _ => False)) else ((0 : Int32) = 0 ∨ (0 : Int32) = 1) ∧ P (0 : Int32) M151)) (fun _ _ => False) else w_L_back M150 x1 a146 a148 (fun r153 M153 => (if r153 = (0 : Int32) then zk M153 x0 = 7 ∧ w_X7_whyNotMove M153 x0 (0 : Int32) r2 (fun r154 M154 => (if r154 = r149 then (if 0 < r149 then ((1 : Int32) = 0 ∨ (1 : Int32) = 1) ∧ P (1 : Int32) M154 else zk M154 x0 = 7 ∧ w_X7_move M154 x0 (0 : Int32) r2 (fun r155 M155 => (if r155 = (-1 : Int32) then ((1 : Int32) = 0 ∨ (1 : Int32) = 1) ∧ P (1 : Int32) M155 else ((0 : Int32) = 0 ∨ (0 : Int32) = 1) ∧ P (0 : Int32) M155)) (fun _ _ => False)) else ((0 : Int32) = 0 ∨ (0 : Int32) = 1) ∧ P (0 : Int32) M154)) (fun _ _ => False) else ((0 : Int32) = 0 ∨ (0 : Int32) = 1) ∧ P (0 : Int32) M153)))))) b149 s149)))))) else (if r123 = (3 : Int32) then zk M123 x1 = 8 ∧ (if (zI M123 x1 6) = 0 then ((1 : Int32) = 0 ∨ (1 : Int32) = 1) ∧ P (1 : Int32) M123 else (zk M123 x1 = 8 ∧ ∃ a204, zR M123 x1 14 = some a204 ∧ (zk M123 a204 = 14 ∧ vp_in (0 : Int32) (zl M123 a204) ∧ ∃ a205, zR M123 a204 (0 : Int32).toNatClampNeg = some a205 ∧ zk M123 x1 = 8 ∧ w_X8_takesOff M123 x1 (0 : Int32) (fun M206 => zk M206 a205 = 10 ∧ vp_in (1 : Int32) (zl M206 a205) ∧ zk M206 a205 = 10 ∧ vp_in (0 : Int32) (zl M206 a205) ∧ zk M206 a205 = 10 ∧ vp_in (3 : Int32) (zl M206 a205) ∧ zk M206 a205 = 10 ∧ vp_in (2 : Int32) (zl M206 a205) ∧ (if (zI M206 a205 (2 : Int32).toNatClampNeg) = (1 : Int32) then ∃ b210 s210, 0 + b210 ≤ B ∧ 0 + s210 ≤ S ∧ zk M206 x1 = 8 ∧ w_X8_comes M206 x1 (zI M206 a205 (1 : Int32).toNatClampNeg) (zI M206 a205 (0 : Int32).toNatClampNeg) (zI M206 a205 (3 : Int32).toNatClampNeg) (1 : Int32) (fun r210 M210 => (∃ n450, l_L_changes_450 B S P (fun M211 b211 s211 x0_211 x4_211 x6_211 x7_211 => (if x6_211 = x4_211 then zk M211 x0_211 = 7 ∧ w_X7_recast M211 x0_211 x4_211 (fun r212 M212 => (if r212 = x7_211 then ((1 : Int32) = 0 ∨ (1 : Int32) = 1) ∧ P (1 : Int32) M212 else ((0 : Int32) = 0 ∨ (0 : Int32) = 1) ∧ P (0 : Int32) M212)) (fun _ _ => False) else ((0 : Int32) = 0 ∨ (0 : Int32) = 1) ∧ P (0 : Int32) M211)) n450 M210 (0 + b210) (0 + s210) x0 x1 (0 : Int32) r210 (0 : Int32) (0 : Int32))) b210 s210 else ∃ b207 s207, 0 + b207 ≤ B ∧ 0 + s207 ≤ S ∧ zk M206 x1 = 8 ∧ w_X8_comes M206 x1 (zI M206 a205 (1 : Int32).toNatClampNeg) (zI M206 a205 (0 : Int32).toNatClampNeg) (zI M206 a205 (3 : Int32).toNatClampNeg) (0 : Int32) (fun r207 M207 => (∃ n450, l_L_changes_450 B S P (fun M208 b208 s208 x0_208 x4_208 x6_208 x7_208 => (if x6_208 = x4_208 then zk M208 x0_208 = 7 ∧ w_X7_recast M208 x0_208 x4_208 (fun r209 M209 => (if r209 = x7_208 then ((1 : Int32) = 0 ∨ (1 : Int32) = 1) ∧ P (1 : Int32) M209 else ((0 : Int32) = 0 ∨ (0 : Int32) = 1) ∧ P (0 : Int32) M209)) (fun _ _ => False) else ((0 : Int32) = 0 ∨ (0 : Int32) = 1) ∧ P (0 : Int32) M208)) n450 M207 (0 + b207) (0 + s207) x0 x1 (0 : Int32) r207 (0 : Int32) (0 : Int32))) b207 s207))))) else zk M123 x1 = 8 ∧ w_L_draw M123 x2 (zI M123 x1 1) (fun r214 M214 => w_L_draw M214 x2 (2 : Int32) (fun r215 M215 => (if r215 = 0 then zk M215 x1 = 8 ∧ w_L_draw M215 x2 (zI M215 x1 3) (fun r222 M222 => w_L_draw M222 x2 (3 : Int32) (fun r223 M223 => (if r223 = 0 then zk M223 x1 = 8 ∧ w_L_draw M223 x2 (zI M223 x1 3) (fun r228 M228 => ∃ b229 s229, 0 + b229 ≤ B ∧ 0 + s229 ≤ S ∧ zk M228 x1 = 8 ∧ w_X8_why M228 x1 r214 r2 (((1 : Int32) <<< (r222 &&& 31)) ||| ((1 : Int32) <<< (r228 &&& 31))) (1 : Int32) (-1 : Int32) (fun r229 M229 => (if r229 ≤ 0 then ∃ b230 s230, (0 + b229) + b230 ≤ B ∧ (0 + s229) + s230 ≤ S ∧ zk M229 x1 = 8 ∧ w_X8_comes M229 x1 r214 r2 (((1 : Int32) <<< (r222 &&& 31)) ||| ((1 : Int32) <<< (r228 &&& 31))) (1 : Int32) (fun r230 M230 => zk M230 x0 = 7 ∧ w_X7_concert M230 x0 r214 r2 (((1 : Int32) <<< (r222 &&& 31)) ||| ((1 : Int32) <<< (r228 &&& 31))) (fun r231 M231 => (if r231 = r230 then ((1 : Int32) = 0 ∨ (1 : Int32) = 1) ∧ P (1 : Int32) M231 else ((0 : Int32) = 0 ∨ (0 : Int32) = 1) ∧ P (0 : Int32) M231)) (fun _ _ => False)) b230 s230 else ((1 : Int32) = 0 ∨ (1 : Int32) = 1) ∧ P (1 : Int32) M229)) b229 s229) else ∃ b224 s224, 0 + b224 ≤ B ∧ 0 + s224 ≤ S ∧ zk M223 x1 = 8 ∧ w_X8_why M223 x1 r214 r2 (((1 : Int32) <<< (r222 &&& 31)) ||| (0 : Int32)) (1 : Int32) (-1 : Int32) (fun r224 M224 => (if r224 ≤ 0 then ∃ b225 s225, (0 + b224) + b225 ≤ B ∧ (0 + s224) + s225 ≤ S ∧ zk M224 x1 = 8 ∧ w_X8_comes M224 x1 r214 r2 (((1 : Int32) <<< (r222 &&& 31)) ||| (0 : Int32)) (1 : Int32) (fun r225 M225 => zk M225 x0 = 7 ∧ w_X7_concert M225 x0 r214 r2 (((1 : Int32) <<< (r222 &&& 31)) ||| (0 : Int32)) (fun r226 M226 => (if r226 = r225 then ((1 : Int32) = 0 ∨ (1 : Int32) = 1) ∧ P (1 : Int32) M226 else ((0 : Int32) = 0 ∨ (0 : Int32) = 1) ∧ P (0 : Int32) M226)) (fun _ _ => False)) b225 s225 else ((1 : Int32) = 0 ∨ (1 : Int32) = 1) ∧ P (1 : Int32) M224)) b224 s224))) else zk M215 x1 = 8 ∧ w_L_draw M215 x2 (zI M215 x1 3) (fun r217 M217 => ∃ b218 s218, 0 + b218 ≤ B ∧ 0 + s218 ≤ S ∧ zk M217 x1 = 8 ∧ w_X8_why M217 x1 r214 r2 (((1 : Int32) <<< (r217 &&& 31)) ||| (0 : Int32)) (0 : Int32) (-1 : Int32) (fun r218 M218 => (if r218 ≤ 0 then ∃ b219 s219, (0 + b218) + b219 ≤ B ∧ (0 + s218) + s219 ≤ S ∧ zk M218 x1 = 8 ∧ w_X8_comes M218 x1 r214 r2 (((1 : Int32) <<< (r217 &&& 31)) ||| (0 : Int32)) (0 : Int32) (fun r219 M219 => zk M219 x0 = 7 ∧ w_X7_rehearse M219 x0 r214 r2 r217 (fun r220 M220 => (if r220 = r219 then ((1 : Int32) = 0 ∨ (1 : Int32) = 1) ∧ P (1 : Int32) M220 else ((0 : Int32) = 0 ∨ (0 : Int32) = 1) ∧ P (0 : Int32) M220)) (fun _ _ => False)) b219 s219 else ((1 : Int32) = 0 ∨ (1 : Int32) = 1) ∧ P (1 : Int32) M218)) b218 s218))))))))) else zk M2 x1 = 8 ∧ w_L_draw M2 x2 (zI M2 x1 6) (fun r5 M5 => w_L_draw M5 x2 (9 : Int32) (fun r6 M6 => (if r6 = (0 : Int32) then zk M6 x1 = 8 ∧ w_L_draw M6 x2 (zI M6 x1 2) (fun r8 M8 => (zk M8 x1 = 8 ∧ ∃ a9, zR M8 x1 9 = some a9 ∧ zk M8 a9 = 10 ∧ vp_in r8 (zl M8 a9) ∧ (zk M8 x1 = 8 ∧ ∃ a10, zR M8 x1 9 = some a10 ∧ w_L_draw M8 x2 (8 : Int32) (fun r11 M11 => zk M11 a10 = 10 ∧ vp_in r8 (zl M11 a10) ∧ (∀ M12, M12 = sI M11 a10 r8.toNatClampNeg r11 → (zk M12 x1 = 8 ∧ ∃ a13, zR M12 x1 9 = some a13 ∧ zk M12 a13 = 10 ∧ vp_in r8 (zl M12 a13) ∧ zk M12 x0 = 7 ∧ w_X7_setContract M12 x0 r8 (zI M12 a13 r8.toNatClampNeg) (fun r14 M14 => (if r14 = (zI M8 a9 r8.toNatClampNeg) then ((1 : Int32) = 0 ∨ (1 : Int32) = 1) ∧ P (1 : Int32) M14 else ((0 : Int32) = 0 ∨ (0 : Int32) = 1) ∧ P (0 : Int32) M14)) (fun _ _ => False))))))) else (if r6 = (1 : Int32) then zk M6 x1 = 8 ∧ (if (zI M6 x1 6) = 0 then ((1 : Int32) = 0 ∨ (1 : Int32) = 1) ∧ P (1 : Int32) M6 else (zk M6 x1 = 8 ∧ ∃ a16, zR M6 x1 14 = some a16 ∧ (zk M6 a16 = 14 ∧ vp_in r5 (zl M6 a16) ∧ ∃ a17, zR M6 a16 r5.toNatClampNeg = some a17 ∧ (zk M6 x1 = 8 ∧ ∃ a18, zR M6 x1 15 = some a18 ∧ (zk M6 a18 = 15 ∧ vp_in r5 (zl M6 a18) ∧ ∃ a19, zR M6 a18 r5.toNatClampNeg = some a19 ∧ zk M6 x1 = 8 ∧ w_X8_takesOff M6 x1 r5 (fun M20 => zk M20 x1 = 8 ∧ w_X8_isRehearsed M20 x1 (fun r21 M21 => (if r21 = 0 then w_L_back M21 x1 a17 a19 (fun r22 M22 => (if r22 = r5 then zk M22 x0 = 7 ∧ w_X7_size M22 x0 (5 : Int32) (fun r23 M23 => zk M23 x1 = 8 ∧ (if r23 = (zI M23 x1 6) then ((1 : Int32) = 0 ∨ (1 : Int32) = 1) ∧ P (1 : Int32) M23 else ((0 : Int32) = 0 ∨ (0 : Int32) = 1) ∧ P (0 : Int32) M23)) (fun _ _ => False) else ((0 : Int32) = 0 ∨ (0 : Int32) = 1) ∧ P (0 : Int32) M22)) else zk M21 x0 = 7 ∧ w_X7_cancel M21 x0 r5 (fun r25 M25 => zk M25 x1 = 8 ∧ (if r25 = (zI M25 x1 6) then ((1 : Int32) = 0 ∨ (1 : Int32) = 1) ∧ P (1 : Int32) M25 else ((0 : Int32) = 0 ∨ (0 : Int32) = 1) ∧ P (0 : Int32) M25)) (fun _ _ => False))))))))) else (if r6 = (2 : Int32) then zk M6 x1 = 8 ∧ (if (zI M6 x1 6) = 0 then ((1 : Int32) = 0 ∨ (1 : Int32) = 1) ∧ P (1 : Int32) M6 else (zk M6 x1 = 8 ∧ ∃ a28, zR M6 x1 14 = some a28 ∧ (zk M6 a28 = 14 ∧ vp_in r5 (zl M6 a28) ∧ ∃ a29, zR M6 a28 r5.toNatClampNeg = some a29 ∧ (zk M6 x1 = 8 ∧ ∃ a30, zR M6 x1 15 = some a30 ∧ (zk M6 a30 = 15 ∧ vp_in r5 (zl M6 a30) ∧ ∃ a31, zR M6 a30 r5.toNatClampNeg = some a31 ∧ zk M6 a29 = 10 ∧ vp_in (1 : Int32) (zl M6 a29) ∧ zk M6 a29 = 10 ∧ vp_in (3 : Int32) (zl M6 a29) ∧ zk M6 a29 = 10 ∧ vp_in (2 : Int32) (zl M6 a29) ∧ (if (zI M6 a29 (2 : Int32).toNatClampNeg) = (1 : Int32) then ∃ b59 s59, 0 + b59 ≤ B ∧ 0 + s59 ≤ S ∧ zk M6 x1 = 8 ∧ w_X8_why M6 x1 (zI M6 a29 (1 : Int32).toNatClampNeg) r2 (zI M6 a29 (3 : Int32).toNatClampNeg) (1 : Int32) r5 (fun r59 M59 => zk M59 x1 = 8 ∧ w_X8_takesOff M59 x1 r5 (fun M60 => (if r59 = 0 then zk M60 a29 = 10 ∧ vp_in (1 : Int32) (zl M60 a29) ∧ zk M60 a29 = 10 ∧ vp_in (3 : Int32) (zl M60 a29) ∧ zk M60 a29 = 10 ∧ vp_in (2 : Int32) (zl M60 a29) ∧ (if (zI M60 a29 (2 : Int32).toNatClampNeg) = (1 : Int32) then ∃ b76 s76, (0 + b59) + b76 ≤ B ∧ (0 + s59) + s76 ≤ S ∧ zk M60 x1 = 8 ∧ w_X8_comes M60 x1 (zI M60 a29 (1 : Int32).toNatClampNeg) r2 (zI M60 a29 (3 : Int32).toNatClampNeg) (1 : Int32) (fun r76 M76 => zk M76 x1 = 8 ∧ w_X8_isRehearsed M76 x1 (fun r77 M77 => (if r77 = 0 then zk M77 x1 = 8 ∧ w_X8_takesOff M77 x1 r76 (fun M83 => w_L_back M83 x1 a29 a31 (fun r84 M84 => (if r84 = r5 then zk M84 x0 = 7 ∧ w_X7_whyNotMove M84 x0 r5 r2 (fun r85 M85 => (if r85 = (6 : Int32) then ((1 : Int32) = 0 ∨ (1 : Int32) = 1) ∧ P (1 : Int32) M85 else ((0 : Int32) = 0 ∨ (0 : Int32) = 1) ∧ P (0 : Int32) M85)) (fun _ _ => False) else ((0 : Int32) = 0 ∨ (0 : Int32) = 1) ∧ P (0 : Int32) M84))) else (if r59 ≤ 0 then zk M77 x0 = 7 ∧ w_X7_whyNotMove M77 x0 r5 r2 (fun r78 M78 => (if r78 = r59 then (if 0 < r59 then ((1 : Int32) = 0 ∨ (1 : Int32) = 1) ∧ P (1 : Int32) M78 else zk M78 x0 = 7 ∧ w_X7_move M78 x0 r5 r2 (fun r79 M79 => (if r79 = r76 then ((1 : Int32) = 0 ∨ (1 : Int32) = 1) ∧ P (1 : Int32) M79 else ((0 : Int32) = 0 ∨ (0 : Int32) = 1) ∧ P (0 : Int32) M79)) (fun _ _ => False)) else ((0 : Int32) = 0 ∨ (0 : Int32) = 1) ∧ P (0 : Int32) M78)) (fun _ _ => False) else w_L_back M77 x1 a29 a31 (fun r80 M80 => (if r80 = r5 then zk M80 x0 = 7 ∧ w_X7_whyNotMove M80 x0 r5 r2 (fun r81 M81 => (if r81 = r59 then (if 0 < r59 then ((1 : Int32) = 0 ∨ (1 : Int32) = 1) ∧ P (1 : Int32) M81 else zk M81 x0 = 7 ∧ w_X7_move M81 x0 r5 r2 (fun r82 M82 => (if r82 = r76 then ((1 : Int32) = 0 ∨ (1 : Int32) = 1) ∧ P (1 : Int32) M82 else ((0 : Int32) = 0 ∨ (0 : Int32) = 1) ∧ P (0 : Int32) M82)) (fun _ _ => False)) else ((0 : Int32) = 0 ∨ (0 : Int32) = 1) ∧ P (0 : Int32) M81)) (fun _ _ => False) else ((0 : Int32) = 0 ∨ (0 : Int32) = 1) ∧ P (0 : Int32) M80)))))) b76 s76 else ∃ b66 s66, (0 + b59) + b66 ≤ B ∧ (0 + s59) + s66 ≤ S ∧ zk M60 x1 = 8 ∧ w_X8_comes M60 x1 (zI M60 a29 (1 : Int32).toNatClampNeg) r2 (zI M60 a29 (3 : Int32).toNatClampNeg) (0 : Int32) (fun r66 M66 => zk M66 x1 = 8 ∧ w_X8_isRehearsed M66 x1 (fun r67 M67 => (if r67 = 0 then zk M67 x1 = 8 ∧ w_X8_takesOff M67 x1 r66 (fun M73 => w_L_back M73 x1 a29 a31 (fun r74 M74 => (if r74 = r5 then zk M74 x0 = 7 ∧ w_X7_whyNotMove M74 x0 r5 r2 (fun r75 M75 => (if r75 = (6 : Int32) then ((1 : Int32) = 0 ∨ (1 : Int32) = 1) ∧ P (1 : Int32) M75 else ((0 : Int32) = 0 ∨ (0 : Int32) = 1) ∧ P (0 : Int32) M75)) (fun _ _ => False) else ((0 : Int32) = 0 ∨ (0 : Int32) = 1) ∧ P (0 : Int32) M74))) else (if r59 ≤ 0 then zk M67 x0 = 7 ∧ w_X7_whyNotMove M67 x0 r5 r2 (fun r68 M68 => (if r68 = r59 then (if 0 < r59 then ((1 : Int32) = 0 ∨ (1 : Int32) = 1) ∧ P (1 : Int32) M68 else zk M68 x0 = 7 ∧ w_X7_move M68 x0 r5 r2 (fun r69 M69 => (if r69 = r66 then ((1 : Int32) = 0 ∨ (1 : Int32) = 1) ∧ P (1 : Int32) M69 else ((0 : Int32) = 0 ∨ (0 : Int32) = 1) ∧ P (0 : Int32) M69)) (fun _ _ => False)) else ((0 : Int32) = 0 ∨ (0 : Int32) = 1) ∧ P (0 : Int32) M68)) (fun _ _ => False) else w_L_back M67 x1 a29 a31 (fun r70 M70 => (if r70 = r5 then zk M70 x0 = 7 ∧ w_X7_whyNotMove M70 x0 r5 r2 (fun r71 M71 => (if r71 = r59 then (if 0 < r59 then ((1 : Int32) = 0 ∨ (1 : Int32) = 1) ∧ P (1 : Int32) M71 else zk M71 x0 = 7 ∧ w_X7_move M71 x0 r5 r2 (fun r72 M72 => (if r72 = r66 then ((1 : Int32) = 0 ∨ (1 : Int32) = 1) ∧ P (1 : Int32) M72 else ((0 : Int32) = 0 ∨ (0 : Int32) = 1) ∧ P (0 : Int32) M72)) (fun _ _ => False)) else ((0 : Int32) = 0 ∨ (0 : Int32) = 1) ∧ P (0 : Int32) M71)) (fun _ _ => False) else ((0 : Int32) = 0 ∨ (0 : Int32) = 1) ∧ P (0 : Int32) M70)))))) b66 s66) else (if r59 ≤ 0 then zk M60 x0 = 7 ∧ w_X7_whyNotMove M60 x0 r5 r2 (fun r61 M61 => (if r61 = r59 then (if 0 < r59 then ((1 : Int32) = 0 ∨ (1 : Int32) = 1) ∧ P (1 : Int32) M61 else zk M61 x0 = 7 ∧ w_X7_move M61 x0 r5 r2 (fun r62 M62 => (if r62 = (-1 : Int32) then ((1 : Int32) = 0 ∨ (1 : Int32) = 1) ∧ P (1 : Int32) M62 else ((0 : Int32) = 0 ∨ (0 : Int32) = 1) ∧ P (0 : Int32) M62)) (fun _ _ => False)) else ((0 : Int32) = 0 ∨ (0 : Int32) = 1) ∧ P (0 : Int32) M61)) (fun _ _ => False) else w_L_back M60 x1 a29 a31 (fun r63 M63 => (if r63 = r5 then zk M63 x0 = 7 ∧ w_X7_whyNotMove M63 x0 r5 r2 (fun r64 M64 => (if r64 = r59 then (if 0 < r59 then ((1 : Int32) = 0 ∨ (1 : Int32) = 1) ∧ P (1 : Int32) M64 else zk M64 x0 = 7 ∧ w_X7_move M64 x0 r5 r2 (fun r65 M65 => (if r65 = (-1 : Int32) then ((1 : Int32) = 0 ∨ (1 : Int32) = 1) ∧ P (1 : Int32) M65 else ((0 : Int32) = 0 ∨ (0 : Int32) = 1) ∧ P (0 : Int32) M65)) (fun _ _ => False)) else ((0 : Int32) = 0 ∨ (0 : Int32) = 1) ∧ P (0 : Int32) M64)) (fun _ _ => False) else ((0 : Int32) = 0 ∨ (0 : Int32) = 1) ∧ P (0 : Int32) M63)))))) b59 s59 else ∃ b32 s32, 0 + b32 ≤ B ∧ 0 + s32 ≤ S ∧ zk M6 x1 = 8 ∧ w_X8_why M6 x1 (zI M6 a29 (1 : Int32).toNatClampNeg) r2 (zI M6 a29 (3 : Int32).toNatClampNeg) (0 : Int32) r5 (fun r32 M32 => zk M32 x1 = 8 ∧ w_X8_takesOff M32 x1 r5 (fun M33 => (if r32 = 0 then zk M33 a29 = 10 ∧ vp_in (1 : Int32) (zl M33 a29) ∧ zk M33 a29 = 10 ∧ vp_in (3 : Int32) (zl M33 a29) ∧ zk M33 a29 = 10 ∧ vp_in (2 : Int32) (zl M33 a29) ∧ (if (zI M33 a29 (2 : Int32).toNatClampNeg) = (1 : Int32) then ∃ b49 s49, (0 + b32) + b49 ≤ B ∧ (0 + s32) + s49 ≤ S ∧ zk M33 x1 = 8 ∧ w_X8_comes M33 x1 (zI M33 a29 (1 : Int32).toNatClampNeg) r2 (zI M33 a29 (3 : Int32).toNatClampNeg) (1 : Int32) (fun r49 M49 => zk M49 x1 = 8 ∧ w_X8_isRehearsed M49 x1 (fun r50 M50 => (if r50 = 0 then zk M50 x1 = 8 ∧ w_X8_takesOff M50 x1 r49 (fun M56 => w_L_back M56 x1 a29 a31 (fun r57 M57 => (if r57 = r5 then zk M57 x0 = 7 ∧ w_X7_whyNotMove M57 x0 r5 r2 (fun r58 M58 => (if r58 = (6 : Int32) then ((1 : Int32) = 0 ∨ (1 : Int32) = 1) ∧ P (1 : Int32) M58 else ((0 : Int32) = 0 ∨ (0 : Int32) = 1) ∧ P (0 : Int32) M58)) (fun _ _ => False) else ((0 : Int32) = 0 ∨ (0 : Int32) = 1) ∧ P (0 : Int32) M57))) else (if r32 ≤ 0 then zk M50 x0 = 7 ∧ w_X7_whyNotMove M50 x0 r5 r2 (fun r51 M51 => (if r51 = r32 then (if 0 < r32 then ((1 : Int32) = 0 ∨ (1 : Int32) = 1) ∧ P (1 : Int32) M51 else zk M51 x0 = 7 ∧ w_X7_move M51 x0 r5 r2 (fun r52 M52 => (if r52 = r49 then ((1 : Int32) = 0 ∨ (1 : Int32) = 1) ∧ P (1 : Int32) M52 else ((0 : Int32) = 0 ∨ (0 : Int32) = 1) ∧ P (0 : Int32) M52)) (fun _ _ => False)) else ((0 : Int32) = 0 ∨ (0 : Int32) = 1) ∧ P (0 : Int32) M51)) (fun _ _ => False) else w_L_back M50 x1 a29 a31 (fun r53 M53 => (if r53 = r5 then zk M53 x0 = 7 ∧ w_X7_whyNotMove M53 x0 r5 r2 (fun r54 M54 => (if r54 = r32 then (if 0 < r32 then ((1 : Int32) = 0 ∨ (1 : Int32) = 1) ∧ P (1 : Int32) M54 else zk M54 x0 = 7 ∧ w_X7_move M54 x0 r5 r2 (fun r55 M55 => (if r55 = r49 then ((1 : Int32) = 0 ∨ (1 : Int32) = 1) ∧ P (1 : Int32) M55 else ((0 : Int32) = 0 ∨ (0 : Int32) = 1) ∧ P (0 : Int32) M55)) (fun _ _ => False)) else ((0 : Int32) = 0 ∨ (0 : Int32) = 1) ∧ P (0 : Int32) M54)) (fun _ _ => False) else ((0 : Int32) = 0 ∨ (0 : Int32) = 1) ∧ P (0 : Int32) M53)))))) b49 s49 else ∃ b39 s39, (0 + b32) + b39 ≤ B ∧ (0 + s32) + s39 ≤ S ∧ zk M33 x1 = 8 ∧ w_X8_comes M33 x1 (zI M33 a29 (1 : Int32).toNatClampNeg) r2 (zI M33 a29 (3 : Int32).toNatClampNeg) (0 : Int32) (fun r39 M39 => zk M39 x1 = 8 ∧ w_X8_isRehearsed M39 x1 (fun r40 M40 => (if r40 = 0 then zk M40 x1 = 8 ∧ w_X8_takesOff M40 x1 r39 (fun M46 => w_L_back M46 x1 a29 a31 (fun r47 M47 => (if r47 = r5 then zk M47 x0 = 7 ∧ w_X7_whyNotMove M47 x0 r5 r2 (fun r48 M48 => (if r48 = (6 : Int32) then ((1 : Int32) = 0 ∨ (1 : Int32) = 1) ∧ P (1 : Int32) M48 else ((0 : Int32) = 0 ∨ (0 : Int32) = 1) ∧ P (0 : Int32) M48)) (fun _ _ => False) else ((0 : Int32) = 0 ∨ (0 : Int32) = 1) ∧ P (0 : Int32) M47))) else (if r32 ≤ 0 then zk M40 x0 = 7 ∧ w_X7_whyNotMove M40 x0 r5 r2 (fun r41 M41 => (if r41 = r32 then (if 0 < r32 then ((1 : Int32) = 0 ∨ (1 : Int32) = 1) ∧ P (1 : Int32) M41 else zk M41 x0 = 7 ∧ w_X7_move M41 x0 r5 r2 (fun r42 M42 => (if r42 = r39 then ((1 : Int32) = 0 ∨ (1 : Int32) = 1) ∧ P (1 : Int32) M42 else ((0 : Int32) = 0 ∨ (0 : Int32) = 1) ∧ P (0 : Int32) M42)) (fun _ _ => False)) else ((0 : Int32) = 0 ∨ (0 : Int32) = 1) ∧ P (0 : Int32) M41)) (fun _ _ => False) else w_L_back M40 x1 a29 a31 (fun r43 M43 => (if r43 = r5 then zk M43 x0 = 7 ∧ w_X7_whyNotMove M43 x0 r5 r2 (fun r44 M44 => (if r44 = r32 then (if 0 < r32 then ((1 : Int32) = 0 ∨ (1 : Int32) = 1) ∧ P (1 : Int32) M44 else zk M44 x0 = 7 ∧ w_X7_move M44 x0 r5 r2 (fun r45 M45 => (if r45 = r39 then ((1 : Int32) = 0 ∨ (1 : Int32) = 1) ∧ P (1 : Int32) M45 else ((0 : Int32) = 0 ∨ (0 : Int32) = 1) ∧ P (0 : Int32) M45)) (fun _ _ => False)) else ((0 : Int32) = 0 ∨ (0 : Int32) = 1) ∧ P (0 : Int32) M44)) (fun _ _ => False) else ((0 : Int32) = 0 ∨ (0 : Int32) = 1) ∧ P (0 : Int32) M43)))))) b39 s39) else (if r32 ≤ 0 then zk M33 x0 = 7 ∧ w_X7_whyNotMove M33 x0 r5 r2 (fun r34 M34 => (if r34 = r32 then (if 0 < r32 then ((1 : Int32) = 0 ∨ (1 : Int32) = 1) ∧ P (1 : Int32) M34 else zk M34 x0 = 7 ∧ w_X7_move M34 x0 r5 r2 (fun r35 M35 => (if r35 = (-1 : Int32) then ((1 : Int32) = 0 ∨ (1 : Int32) = 1) ∧ P (1 : Int32) M35 else ((0 : Int32) = 0 ∨ (0 : Int32) = 1) ∧ P (0 : Int32) M35)) (fun _ _ => False)) else ((0 : Int32) = 0 ∨ (0 : Int32) = 1) ∧ P (0 : Int32) M34)) (fun _ _ => False) else w_L_back M33 x1 a29 a31 (fun r36 M36 => (if r36 = r5 then zk M36 x0 = 7 ∧ w_X7_whyNotMove M36 x0 r5 r2 (fun r37 M37 => (if r37 = r32 then (if 0 < r32 then ((1 : Int32) = 0 ∨ (1 : Int32) = 1) ∧ P (1 : Int32) M37 else zk M37 x0 = 7 ∧ w_X7_move M37 x0 r5 r2 (fun r38 M38 => (if r38 = (-1 : Int32) then ((1 : Int32) = 0 ∨ (1 : Int32) = 1) ∧ P (1 : Int32) M38 else ((0 : Int32) = 0 ∨ (0 : Int32) = 1) ∧ P (0 : Int32) M38)) (fun _ _ => False)) else ((0 : Int32) = 0 ∨ (0 : Int32) = 1) ∧ P (0 : Int32) M37)) (fun _ _ => False) else ((0 : Int32) = 0 ∨ (0 : Int32) = 1) ∧ P (0 : Int32) M36)))))) b32 s32)))))) else (if r6 = (3 : Int32) then zk M6 x1 = 8 ∧ (if (zI M6 x1 6) = 0 then ((1 : Int32) = 0 ∨ (1 : Int32) = 1) ∧ P (1 : Int32) M6 else (zk M6 x1 = 8 ∧ ∃ a87, zR M6 x1 14 = some a87 ∧ (zk M6 a87 = 14 ∧ vp_in r5 (zl M6 a87) ∧ ∃ a88, zR M6 a87 r5.toNatClampNeg = some a88 ∧ zk M6 x1 = 8 ∧ w_X8_takesOff M6 x1 r5 (fun M89 => zk M89 a88 = 10 ∧ vp_in (1 : Int32) (zl M89 a88) ∧ zk M89 a88 = 10 ∧ vp_in (0 : Int32) (zl M89 a88) ∧ zk M89 a88 = 10 ∧ vp_in (3 : Int32) (zl M89 a88) ∧ zk M89 a88 = 10 ∧ vp_in (2 : Int32) (zl M89 a88) ∧ (if (zI M89 a88 (2 : Int32).toNatClampNeg) = (1 : Int32) then ∃ b101 s101, 0 + b101 ≤ B ∧ 0 + s101 ≤ S ∧ zk M89 x1 = 8 ∧ w_X8_comes M89 x1 (zI M89 a88 (1 : Int32).toNatClampNeg) (zI M89 a88 (0 : Int32).toNatClampNeg) (zI M89 a88 (3 : Int32).toNatClampNeg) (1 : Int32) (fun r101 M101 => (∃ n450, l_L_changes_450 B S P (fun M102 b102 s102 x0_102 x4_102 x6_102 x7_102 => (if x6_102 = x4_102 then zk M102 x0_102 = 7 ∧ w_X7_recast M102 x0_102 x4_102 (fun r103 M103 => (if r103 = x7_102 then ((1 : Int32) = 0 ∨ (1 : Int32) = 1) ∧ P (1 : Int32) M103 else ((0 : Int32) = 0 ∨ (0 : Int32) = 1) ∧ P (0 : Int32) M103)) (fun _ _ => False) else ((0 : Int32) = 0 ∨ (0 : Int32) = 1) ∧ P (0 : Int32) M102)) n450 M101 (0 + b101) (0 + s101) x0 x1 r5 r101 (0 : Int32) (0 : Int32))) b101 s101 else ∃ b90 s90, 0 + b90 ≤ B ∧ 0 + s90 ≤ S ∧ zk M89 x1 = 8 ∧ w_X8_comes M89 x1 (zI M89 a88 (1 : Int32).toNatClampNeg) (zI M89 a88 (0 : Int32).toNatClampNeg) (zI M89 a88 (3 : Int32).toNatClampNeg) (0 : Int32) (fun r90 M90 => (∃ n450, l_L_changes_450 B S P (fun M99 b99 s99 x0_99 x4_99 x6_99 x7_99 => (if x6_99 = x4_99 then zk M99 x0_99 = 7 ∧ w_X7_recast M99 x0_99 x4_99 (fun r100 M100 => (if r100 = x7_99 then ((1 : Int32) = 0 ∨ (1 : Int32) = 1) ∧ P (1 : Int32) M100 else ((0 : Int32) = 0 ∨ (0 : Int32) = 1) ∧ P (0 : Int32) M100)) (fun _ _ => False) else ((0 : Int32) = 0 ∨ (0 : Int32) = 1) ∧ P (0 : Int32) M99)) n450 M90 (0 + b90) (0 + s90) x0 x1 r5 r90 (0 : Int32) (0 : Int32))) b90 s90))))) else zk M6 x1 = 8 ∧ w_L_draw M6 x2 (zI M6 x1 1) (fun r105 M105 => w_L_draw M105 x2 (2 : Int32) (fun r106 M106 => (if r106 = 0 then zk M106 x1 = 8 ∧ w_L_draw M106 x2 (zI M106 x1 3) (fun r113 M113 => w_L_draw M113 x2 (3 : Int32) (fun r114 M114 => (if r114 = 0 then zk M114 x1 = 8 ∧ w_L_draw M114 x2 (zI M114 x1 3) (fun r119 M119 => ∃ b120 s120, 0 + b120 ≤ B ∧ 0 + s120 ≤ S ∧ zk M119 x1 = 8 ∧ w_X8_why M119 x1 r105 r2 (((1 : Int32) <<< (r113 &&& 31)) ||| ((1 : Int32) <<< (r119 &&& 31))) (1 : Int32) (-1 : Int32) (fun r120 M120 => (if r120 ≤ 0 then ∃ b121 s121, (0 + b120) + b121 ≤ B ∧ (0 + s120) + s121 ≤ S ∧ zk M120 x1 = 8 ∧ w_X8_comes M120 x1 r105 r2 (((1 : Int32) <<< (r113 &&& 31)) ||| ((1 : Int32) <<< (r119 &&& 31))) (1 : Int32) (fun r121 M121 => zk M121 x0 = 7 ∧ w_X7_concert M121 x0 r105 r2 (((1 : Int32) <<< (r113 &&& 31)) ||| ((1 : Int32) <<< (r119 &&& 31))) (fun r122 M122 => (if r122 = r121 then ((1 : Int32) = 0 ∨ (1 : Int32) = 1) ∧ P (1 : Int32) M122 else ((0 : Int32) = 0 ∨ (0 : Int32) = 1) ∧ P (0 : Int32) M122)) (fun _ _ => False)) b121 s121 else ((1 : Int32) = 0 ∨ (1 : Int32) = 1) ∧ P (1 : Int32) M120)) b120 s120) else ∃ b115 s115, 0 + b115 ≤ B ∧ 0 + s115 ≤ S ∧ zk M114 x1 = 8 ∧ w_X8_why M114 x1 r105 r2 (((1 : Int32) <<< (r113 &&& 31)) ||| (0 : Int32)) (1 : Int32) (-1 : Int32) (fun r115 M115 => (if r115 ≤ 0 then ∃ b116 s116, (0 + b115) + b116 ≤ B ∧ (0 + s115) + s116 ≤ S ∧ zk M115 x1 = 8 ∧ w_X8_comes M115 x1 r105 r2 (((1 : Int32) <<< (r113 &&& 31)) ||| (0 : Int32)) (1 : Int32) (fun r116 M116 => zk M116 x0 = 7 ∧ w_X7_concert M116 x0 r105 r2 (((1 : Int32) <<< (r113 &&& 31)) ||| (0 : Int32)) (fun r117 M117 => (if r117 = r116 then ((1 : Int32) = 0 ∨ (1 : Int32) = 1) ∧ P (1 : Int32) M117 else ((0 : Int32) = 0 ∨ (0 : Int32) = 1) ∧ P (0 : Int32) M117)) (fun _ _ => False)) b116 s116 else ((1 : Int32) = 0 ∨ (1 : Int32) = 1) ∧ P (1 : Int32) M115)) b115 s115))) else zk M106 x1 = 8 ∧ w_L_draw M106 x2 (zI M106 x1 3) (fun r108 M108 => ∃ b109 s109, 0 + b109 ≤ B ∧ 0 + s109 ≤ S ∧ zk M108 x1 = 8 ∧ w_X8_why M108 x1 r105 r2 (((1 : Int32) <<< (r108 &&& 31)) ||| (0 : Int32)) (0 : Int32) (-1 : Int32) (fun r109 M109 => (if r109 ≤ 0 then ∃ b110 s110, (0 + b109) + b110 ≤ B ∧ (0 + s109) + s110 ≤ S ∧ zk M109 x1 = 8 ∧ w_X8_comes M109 x1 r105 r2 (((1 : Int32) <<< (r108 &&& 31)) ||| (0 : Int32)) (0 : Int32) (fun r110 M110 => zk M110 x0 = 7 ∧ w_X7_rehearse M110 x0 r105 r2 r108 (fun r111 M111 => (if r111 = r110 then ((1 : Int32) = 0 ∨ (1 : Int32) = 1) ∧ P (1 : Int32) M111 else ((0 : Int32) = 0 ∨ (0 : Int32) = 1) ∧ P (0 : Int32) M111)) (fun _ _ => False)) b110 s110 else ((1 : Int32) = 0 ∨ (1 : Int32) = 1) ∧ P (1 : Int32) M109)) b109 s109))))))))))))
set_option maxHeartbeats 4000000 in
set_option maxRecDepth 100000 in
theorem c_L_changes (l : Launch) (E : EV) (M : Mm) (x0 : Nat) (x1 : Nat) (x2 : Nat) (P : Int32 → Mm → Prop) (B S : Nat) (h : w_L_changes M x0 x1 x2 P B S) : CtI l E yL_changes cL_changes 10 .boolean (rm_L_changes B S) B S [.ref x0, .ref x1, .ref x2] M P := by
  refine ctI_of (by decide +kernel) (Nat.le_of_ble_eq_true rfl) ?_
  intro p e s m args below meth c C
  rw [w_L_changes] at h
  have hb : 0 ≤ B := Nat.zero_le _
  have hs : 0 ≤ S := Nat.zero_le _
  show J p l e (rm_L_changes B S) s m args below meth c (QI below E P args s B S) E 10 M 0 0 0 [(0, .ref x0), (1, .ref x1), (2, .ref x2)] []
  refine j_aload_n (pc := 0) C 2 dL_changes_0 rfl ?_
  refine j_iconst (pc := 1) (v := (3 : Int32)) C dL_changes_1 rfl ?_
  refine j_aload_n (pc := 2) C 1 dL_changes_2 rfl ?_
  refine gf_L_43 (pc := 3) C dL_changes_3 h (fun h => ?_)
  refine j_imul (pc := 6) C dL_changes_6 ?_
  refine c2_L_39 (pc := 7) C ⟨(Nat.le_of_ble_eq_true rfl), (Nat.le_of_ble_eq_true rfl)⟩ ⟨hb, hs⟩ (Nat.le_of_ble_eq_true rfl) dL_changes_7 h (fun r2 M2 h => ?_)
  refine j_istore_n (pc := 10) C [(3, _), (0, _), (1, _), (2, _)] dL_changes_10 (by decide) rfl ?_
  refine j_aload_n (pc := 11) C 2 dL_changes_11 rfl ?_
  refine gf_L_155 (pc := 12) C dL_changes_12 h (fun h => ?_)
  refine j_if_ne (pc := 15) C 22 dL_changes_15 (by decide) h (fun h => ?_) (fun h => ?_)
  · refine j_aload_n (pc := 22) C 3 dL_changes_22 rfl ?_
    refine j_aload_n (pc := 23) C 2 dL_changes_23 rfl ?_
    refine gf_L_155 (pc := 24) C dL_changes_24 h (fun h => ?_)
    refine c2_L_39 (pc := 27) C ⟨(Nat.le_of_ble_eq_true rfl), (Nat.le_of_ble_eq_true rfl)⟩ ⟨hb, hs⟩ (Nat.le_of_ble_eq_true rfl) dL_changes_27 h (fun r5 M5 h => ?_)
    refine j_istore (pc := 30) C [(4, _), (3, _), (0, _), (1, _), (2, _)] dL_changes_30 (by decide) rfl ?_
    refine j_aload_n (pc := 32) C 4 dL_changes_32 rfl ?_
    refine j_bipush (pc := 33) (v := (9 : Int32)) C dL_changes_33 rfl ?_
    refine c2_L_39 (pc := 35) C ⟨(Nat.le_of_ble_eq_true rfl), (Nat.le_of_ble_eq_true rfl)⟩ ⟨hb, hs⟩ (Nat.le_of_ble_eq_true rfl) dL_changes_35 h (fun r6 M6 h => ?_)
    by_cases q38_0 : r6 = (0 : Int32)
    · rw [if_pos q38_0] at h
      refine j_tsI (pc := 38) (off := 30) C 68 dL_changes_38 q38_0 (by decide) (by decide) (by decide) (by decide) ?_
      refine j_aload_n (pc := 68) C 4 dL_changes_68 rfl ?_
      refine j_aload_n (pc := 69) C 3 dL_changes_69 rfl ?_
      refine gf_L_73 (pc := 70) C dL_changes_70 h (fun h => ?_)
      refine c2_L_39 (pc := 73) C ⟨(Nat.le_of_ble_eq_true rfl), (Nat.le_of_ble_eq_true rfl)⟩ ⟨hb, hs⟩ (Nat.le_of_ble_eq_true rfl) dL_changes_73 h (fun r8 M8 h => ?_)
      refine j_istore (pc := 76) C [(5, _), (4, _), (3, _), (0, _), (1, _), (2, _)] dL_changes_76 (by decide) rfl ?_
      refine j_aload_n (pc := 78) C 4 dL_changes_78 rfl ?_
      refine gf_L_76 (pc := 79) C dL_changes_79 h (fun a9 h => ?_)
      refine j_iload (pc := 82) C 0 dL_changes_82 rfl ?_
      refine j_iald (pc := 84) C dL_changes_84 h (fun h => ?_)
      refine j_istore (pc := 85) C [(6, _), (5, _), (4, _), (3, _), (0, _), (1, _), (2, _)] dL_changes_85 (by decide) rfl ?_
      refine j_aload_n (pc := 87) C 5 dL_changes_87 rfl ?_
      refine gf_L_76 (pc := 88) C dL_changes_88 h (fun a10 h => ?_)
      refine j_iload (pc := 91) C 1 dL_changes_91 rfl ?_
      refine j_aload_n (pc := 93) C 6 dL_changes_93 rfl ?_
      refine j_bipush (pc := 94) (v := (8 : Int32)) C dL_changes_94 rfl ?_
      refine c2_L_39 (pc := 96) C ⟨(Nat.le_of_ble_eq_true rfl), (Nat.le_of_ble_eq_true rfl)⟩ ⟨hb, hs⟩ (Nat.le_of_ble_eq_true rfl) dL_changes_96 h (fun r11 M11 h => ?_)
      refine n_iast (pc := 99) C dL_changes_99 h (fun M12 h => ?_)
      refine j_aload_n (pc := 100) C 4 dL_changes_100 rfl ?_
      refine j_iload (pc := 101) C 1 dL_changes_101 rfl ?_
      refine j_aload_n (pc := 103) C 5 dL_changes_103 rfl ?_
      refine gf_L_76 (pc := 104) C dL_changes_104 h (fun a13 h => ?_)
      refine j_iload (pc := 107) C 1 dL_changes_107 rfl ?_
      refine j_iald (pc := 109) C dL_changes_109 h (fun h => ?_)
      refine c2_L_244 (pc := 110) C ⟨(Nat.le_of_ble_eq_true rfl), (Nat.le_of_ble_eq_true rfl)⟩ ⟨hb, hs⟩ (Nat.le_of_ble_eq_true rfl) dL_changes_110 h (fun r14 M14 h => ?_)
      refine j_iload (pc := 113) C 0 dL_changes_113 rfl ?_
      refine j_icmp_ne (pc := 115) C 122 dL_changes_115 (by decide) h (fun h => ?_) (fun h => ?_)
      · refine j_iconst (pc := 122) (v := (0 : Int32)) C dL_changes_122 rfl ?_
        exact j_zret (pc := 123) C dL_changes_123 hb hs h
      · refine j_iconst (pc := 118) (v := (1 : Int32)) C dL_changes_118 rfl ?_
        refine j_goto (pc := 119) C 123 dL_changes_119 (by decide) ?_
        exact j_zret (pc := 123) C dL_changes_123 hb hs h
    rw [if_neg q38_0] at h
    by_cases q38_1 : r6 = (1 : Int32)
    · rw [if_pos q38_1] at h
      refine j_tsI (pc := 38) (off := 86) C 124 dL_changes_38 q38_1 (by decide) (by decide) (by decide) (by decide) ?_
      refine j_aload_n (pc := 124) C 3 dL_changes_124 rfl ?_
      refine gf_L_155 (pc := 125) C dL_changes_125 h (fun h => ?_)
      refine j_if_ne (pc := 128) C 133 dL_changes_128 (by decide) h (fun h => ?_) (fun h => ?_)
      · refine j_aload_n (pc := 133) C 3 dL_changes_133 rfl ?_
        refine gf_L_173 (pc := 134) C dL_changes_134 h (fun a16 h => ?_)
        refine j_iload (pc := 137) C 0 dL_changes_137 rfl ?_
        refine j_aals (pc := 139) C (by decide) dL_changes_139 h (fun a17 h => ?_)
        refine j_astore (pc := 140) C [(5, _), (4, _), (3, _), (0, _), (1, _), (2, _)] dL_changes_140 (by decide) rfl ?_
        refine j_aload_n (pc := 142) C 4 dL_changes_142 rfl ?_
        refine gf_L_158 (pc := 143) C dL_changes_143 h (fun a18 h => ?_)
        refine j_iload (pc := 146) C 1 dL_changes_146 rfl ?_
        refine j_aals (pc := 148) C (by decide) dL_changes_148 h (fun a19 h => ?_)
        refine j_astore (pc := 149) C [(6, _), (5, _), (4, _), (3, _), (0, _), (1, _), (2, _)] dL_changes_149 (by decide) rfl ?_
        refine j_aload_n (pc := 151) C 5 dL_changes_151 rfl ?_
        refine j_iload (pc := 152) C 2 dL_changes_152 rfl ?_
        refine c2_L_231 (pc := 154) C ⟨(Nat.le_of_ble_eq_true rfl), (Nat.le_of_ble_eq_true rfl)⟩ ⟨hb, hs⟩ (Nat.le_of_ble_eq_true rfl) dL_changes_154 h (fun M20 h => ?_)
        refine j_aload_n (pc := 157) C 5 dL_changes_157 rfl ?_
        refine c2_L_247 (pc := 158) C ⟨(Nat.le_of_ble_eq_true rfl), (Nat.le_of_ble_eq_true rfl)⟩ ⟨hb, hs⟩ (Nat.le_of_ble_eq_true rfl) dL_changes_158 h (fun r21 M21 h => ?_)
        refine j_if_eq (pc := 161) C 183 dL_changes_161 (by decide) h (fun h => ?_) (fun h => ?_)
        · refine j_aload_n (pc := 183) C 5 dL_changes_183 rfl ?_
          refine j_aload (pc := 184) C 1 dL_changes_184 rfl ?_
          refine j_aload (pc := 186) C 0 dL_changes_186 rfl ?_
          refine c2_L_253 (pc := 188) C ⟨(Nat.le_of_ble_eq_true rfl), (Nat.le_of_ble_eq_true rfl)⟩ ⟨hb, hs⟩ (Nat.le_of_ble_eq_true rfl) dL_changes_188 h (fun r22 M22 h => ?_)
          refine j_istore (pc := 191) C [(7, _), (6, _), (5, _), (4, _), (3, _), (0, _), (1, _), (2, _)] dL_changes_191 (by decide) rfl ?_
          refine j_iload (pc := 193) C 0 dL_changes_193 rfl ?_
          refine j_iload (pc := 195) C 3 dL_changes_195 rfl ?_
          refine j_icmp_ne (pc := 197) C 216 dL_changes_197 (by decide) h (fun h => ?_) (fun h => ?_)
          · refine j_iconst (pc := 216) (v := (0 : Int32)) C dL_changes_216 rfl ?_
            exact j_zret (pc := 217) C dL_changes_217 hb hs h
          · refine j_aload_n (pc := 200) C 5 dL_changes_200 rfl ?_
            refine j_iconst (pc := 201) (v := (5 : Int32)) C dL_changes_201 rfl ?_
            refine c2_L_152 (pc := 202) C ⟨(Nat.le_of_ble_eq_true rfl), (Nat.le_of_ble_eq_true rfl)⟩ ⟨hb, hs⟩ (Nat.le_of_ble_eq_true rfl) dL_changes_202 h (fun r23 M23 h => ?_)
            refine j_aload_n (pc := 205) C 6 dL_changes_205 rfl ?_
            refine gf_L_155 (pc := 206) C dL_changes_206 h (fun h => ?_)
            refine j_icmp_ne (pc := 209) C 216 dL_changes_209 (by decide) h (fun h => ?_) (fun h => ?_)
            · refine j_iconst (pc := 216) (v := (0 : Int32)) C dL_changes_216 rfl ?_
              exact j_zret (pc := 217) C dL_changes_217 hb hs h
            · refine j_iconst (pc := 212) (v := (1 : Int32)) C dL_changes_212 rfl ?_
              refine j_goto (pc := 213) C 217 dL_changes_213 (by decide) ?_
              exact j_zret (pc := 217) C dL_changes_217 hb hs h
        · refine j_aload_n (pc := 164) C 4 dL_changes_164 rfl ?_
          refine j_iload (pc := 165) C 2 dL_changes_165 rfl ?_
          refine c2_L_250 (pc := 167) C ⟨(Nat.le_of_ble_eq_true rfl), (Nat.le_of_ble_eq_true rfl)⟩ ⟨hb, hs⟩ (Nat.le_of_ble_eq_true rfl) dL_changes_167 h (fun r25 M25 h => ?_)
          refine j_aload_n (pc := 170) C 5 dL_changes_170 rfl ?_
          refine gf_L_155 (pc := 171) C dL_changes_171 h (fun h => ?_)
          refine j_icmp_ne (pc := 174) C 181 dL_changes_174 (by decide) h (fun h => ?_) (fun h => ?_)
          · refine j_iconst (pc := 181) (v := (0 : Int32)) C dL_changes_181 rfl ?_
            exact j_zret (pc := 182) C dL_changes_182 hb hs h
          · refine j_iconst (pc := 177) (v := (1 : Int32)) C dL_changes_177 rfl ?_
            refine j_goto (pc := 178) C 182 dL_changes_178 (by decide) ?_
            exact j_zret (pc := 182) C dL_changes_182 hb hs h
      · refine j_iconst (pc := 131) (v := (1 : Int32)) C dL_changes_131 rfl ?_
        exact j_zret (pc := 132) C dL_changes_132 hb hs h
    rw [if_neg q38_1] at h
    by_cases q38_2 : r6 = (2 : Int32)
    · rw [if_pos q38_2] at h
      refine j_tsI (pc := 38) (off := 180) C 218 dL_changes_38 q38_2 (by decide) (by decide) (by decide) (by decide) ?_
      refine j_aload_n (pc := 218) C 3 dL_changes_218 rfl ?_
      refine gf_L_155 (pc := 219) C dL_changes_219 h (fun h => ?_)
      refine j_if_ne (pc := 222) C 227 dL_changes_222 (by decide) h (fun h => ?_) (fun h => ?_)
      · refine j_aload_n (pc := 227) C 3 dL_changes_227 rfl ?_
        refine gf_L_173 (pc := 228) C dL_changes_228 h (fun a28 h => ?_)
        refine j_iload (pc := 231) C 0 dL_changes_231 rfl ?_
        refine j_aals (pc := 233) C (by decide) dL_changes_233 h (fun a29 h => ?_)
        refine j_astore (pc := 234) C [(5, _), (4, _), (3, _), (0, _), (1, _), (2, _)] dL_changes_234 (by decide) rfl ?_
        refine j_aload_n (pc := 236) C 4 dL_changes_236 rfl ?_
        refine gf_L_158 (pc := 237) C dL_changes_237 h (fun a30 h => ?_)
        refine j_iload (pc := 240) C 1 dL_changes_240 rfl ?_
        refine j_aals (pc := 242) C (by decide) dL_changes_242 h (fun a31 h => ?_)
        refine j_astore (pc := 243) C [(6, _), (5, _), (4, _), (3, _), (0, _), (1, _), (2, _)] dL_changes_243 (by decide) rfl ?_
        refine j_aload_n (pc := 245) C 5 dL_changes_245 rfl ?_
        refine j_aload (pc := 246) C 1 dL_changes_246 rfl ?_
        refine j_iconst (pc := 248) (v := (1 : Int32)) C dL_changes_248 rfl ?_
        refine j_iald (pc := 249) C dL_changes_249 h (fun h => ?_)
        refine j_iload_n (pc := 250) C 3 dL_changes_250 rfl ?_
        refine j_aload (pc := 251) C 1 dL_changes_251 rfl ?_
        refine j_iconst (pc := 253) (v := (3 : Int32)) C dL_changes_253 rfl ?_
        refine j_iald (pc := 254) C dL_changes_254 h (fun h => ?_)
        refine j_aload (pc := 255) C 1 dL_changes_255 rfl ?_
        refine j_iconst (pc := 257) (v := (2 : Int32)) C dL_changes_257 rfl ?_
        refine j_iald (pc := 258) C dL_changes_258 h (fun h => ?_)
        refine j_iconst (pc := 259) (v := (1 : Int32)) C dL_changes_259 rfl ?_
        refine j_icmp_ne (pc := 260) C 267 dL_changes_260 (by decide) h (fun h => ?_) (fun h => ?_)
        · refine j_iconst (pc := 267) (v := (0 : Int32)) C dL_changes_267 rfl ?_
          refine j_iload (pc := 268) C 2 dL_changes_268 rfl ?_
          obtain ⟨b32, s32, hb, hs, h⟩ := h
          refine c2_L_217 (pc := 270) C ⟨(Nat.le_of_ble_eq_true rfl), (Nat.le_of_ble_eq_true rfl)⟩ ⟨hb, hs⟩ (Nat.le_of_ble_eq_true rfl) dL_changes_270 h (fun r32 M32 h => ?_)
          refine j_istore (pc := 273) C [(7, _), (6, _), (5, _), (4, _), (3, _), (0, _), (1, _), (2, _)] dL_changes_273 (by decide) rfl ?_
          refine j_aload_n (pc := 275) C 6 dL_changes_275 rfl ?_
          refine j_iload (pc := 276) C 3 dL_changes_276 rfl ?_
          refine c2_L_231 (pc := 278) C ⟨(Nat.le_of_ble_eq_true rfl), (Nat.le_of_ble_eq_true rfl)⟩ ⟨hb, hs⟩ (Nat.le_of_ble_eq_true rfl) dL_changes_278 h (fun M33 h => ?_)
          refine j_iconst (pc := 281) (v := (-1 : Int32)) C dL_changes_281 rfl ?_
          refine j_istore (pc := 282) C [(8, _), (7, _), (6, _), (5, _), (4, _), (3, _), (0, _), (1, _), (2, _)] dL_changes_282 (by decide) rfl ?_
          refine j_iload (pc := 284) C 1 dL_changes_284 rfl ?_
          refine j_if_ne (pc := 286) C 334 dL_changes_286 (by decide) h (fun h => ?_) (fun h => ?_)
          · refine j_iload (pc := 334) C 1 dL_changes_334 rfl ?_
            refine j_if_le (pc := 336) C 354 dL_changes_336 (by decide) h (fun h => ?_) (fun h => ?_)
            · refine j_aload_n (pc := 354) C 6 dL_changes_354 rfl ?_
              refine j_iload (pc := 355) C 4 dL_changes_355 rfl ?_
              refine j_iload_n (pc := 357) C 5 dL_changes_357 rfl ?_
              refine c2_L_257 (pc := 358) C ⟨(Nat.le_of_ble_eq_true rfl), (Nat.le_of_ble_eq_true rfl)⟩ ⟨hb, hs⟩ (Nat.le_of_ble_eq_true rfl) dL_changes_358 h (fun r34 M34 h => ?_)
              refine j_iload (pc := 361) C 1 dL_changes_361 rfl ?_
              refine j_icmp_ne (pc := 363) C 387 dL_changes_363 (by decide) h (fun h => ?_) (fun h => ?_)
              · refine j_iconst (pc := 387) (v := (0 : Int32)) C dL_changes_387 rfl ?_
                exact j_zret (pc := 388) C dL_changes_388 hb hs h
              · refine j_iload (pc := 366) C 1 dL_changes_366 rfl ?_
                refine j_if_gt (pc := 368) C 383 dL_changes_368 (by decide) h (fun h => ?_) (fun h => ?_)
                · refine j_iconst (pc := 383) (v := (1 : Int32)) C dL_changes_383 rfl ?_
                  refine j_goto (pc := 384) C 388 dL_changes_384 (by decide) ?_
                  exact j_zret (pc := 388) C dL_changes_388 hb hs h
                · refine j_aload_n (pc := 371) C 6 dL_changes_371 rfl ?_
                  refine j_iload (pc := 372) C 4 dL_changes_372 rfl ?_
                  refine j_iload_n (pc := 374) C 5 dL_changes_374 rfl ?_
                  refine c2_L_260 (pc := 375) C ⟨(Nat.le_of_ble_eq_true rfl), (Nat.le_of_ble_eq_true rfl)⟩ ⟨hb, hs⟩ (Nat.le_of_ble_eq_true rfl) dL_changes_375 h (fun r35 M35 h => ?_)
                  refine j_iload (pc := 378) C 0 dL_changes_378 rfl ?_
                  refine j_icmp_ne (pc := 380) C 387 dL_changes_380 (by decide) h (fun h => ?_) (fun h => ?_)
                  · refine j_iconst (pc := 387) (v := (0 : Int32)) C dL_changes_387 rfl ?_
                    exact j_zret (pc := 388) C dL_changes_388 hb hs h
                  · refine j_iconst (pc := 383) (v := (1 : Int32)) C dL_changes_383 rfl ?_
                    refine j_goto (pc := 384) C 388 dL_changes_384 (by decide) ?_
                    exact j_zret (pc := 388) C dL_changes_388 hb hs h
            · refine j_aload_n (pc := 339) C 7 dL_changes_339 rfl ?_
              refine j_aload (pc := 340) C 3 dL_changes_340 rfl ?_
              refine j_aload (pc := 342) C 2 dL_changes_342 rfl ?_
              refine c2_L_253 (pc := 344) C ⟨(Nat.le_of_ble_eq_true rfl), (Nat.le_of_ble_eq_true rfl)⟩ ⟨hb, hs⟩ (Nat.le_of_ble_eq_true rfl) dL_changes_344 h (fun r36 M36 h => ?_)
              refine j_iload (pc := 347) C 4 dL_changes_347 rfl ?_
              refine j_icmp_eq (pc := 349) C 354 dL_changes_349 (by decide) h (fun h => ?_) (fun h => ?_)
              · refine j_aload_n (pc := 354) C 6 dL_changes_354 rfl ?_
                refine j_iload (pc := 355) C 4 dL_changes_355 rfl ?_
                refine j_iload_n (pc := 357) C 5 dL_changes_357 rfl ?_
                refine c2_L_257 (pc := 358) C ⟨(Nat.le_of_ble_eq_true rfl), (Nat.le_of_ble_eq_true rfl)⟩ ⟨hb, hs⟩ (Nat.le_of_ble_eq_true rfl) dL_changes_358 h (fun r37 M37 h => ?_)
                refine j_iload (pc := 361) C 1 dL_changes_361 rfl ?_
                refine j_icmp_ne (pc := 363) C 387 dL_changes_363 (by decide) h (fun h => ?_) (fun h => ?_)
                · refine j_iconst (pc := 387) (v := (0 : Int32)) C dL_changes_387 rfl ?_
                  exact j_zret (pc := 388) C dL_changes_388 hb hs h
                · refine j_iload (pc := 366) C 1 dL_changes_366 rfl ?_
                  refine j_if_gt (pc := 368) C 383 dL_changes_368 (by decide) h (fun h => ?_) (fun h => ?_)
                  · refine j_iconst (pc := 383) (v := (1 : Int32)) C dL_changes_383 rfl ?_
                    refine j_goto (pc := 384) C 388 dL_changes_384 (by decide) ?_
                    exact j_zret (pc := 388) C dL_changes_388 hb hs h
                  · refine j_aload_n (pc := 371) C 6 dL_changes_371 rfl ?_
                    refine j_iload (pc := 372) C 4 dL_changes_372 rfl ?_
                    refine j_iload_n (pc := 374) C 5 dL_changes_374 rfl ?_
                    refine c2_L_260 (pc := 375) C ⟨(Nat.le_of_ble_eq_true rfl), (Nat.le_of_ble_eq_true rfl)⟩ ⟨hb, hs⟩ (Nat.le_of_ble_eq_true rfl) dL_changes_375 h (fun r38 M38 h => ?_)
                    refine j_iload (pc := 378) C 0 dL_changes_378 rfl ?_
                    refine j_icmp_ne (pc := 380) C 387 dL_changes_380 (by decide) h (fun h => ?_) (fun h => ?_)
                    · refine j_iconst (pc := 387) (v := (0 : Int32)) C dL_changes_387 rfl ?_
                      exact j_zret (pc := 388) C dL_changes_388 hb hs h
                    · refine j_iconst (pc := 383) (v := (1 : Int32)) C dL_changes_383 rfl ?_
                      refine j_goto (pc := 384) C 388 dL_changes_384 (by decide) ?_
                      exact j_zret (pc := 388) C dL_changes_388 hb hs h
              · refine j_iconst (pc := 352) (v := (0 : Int32)) C dL_changes_352 rfl ?_
                exact j_zret (pc := 353) C dL_changes_353 hb hs h
          · refine j_aload_n (pc := 289) C 7 dL_changes_289 rfl ?_
            refine j_aload (pc := 290) C 3 dL_changes_290 rfl ?_
            refine j_iconst (pc := 292) (v := (1 : Int32)) C dL_changes_292 rfl ?_
            refine j_iald (pc := 293) C dL_changes_293 h (fun h => ?_)
            refine j_iload_n (pc := 294) C 5 dL_changes_294 rfl ?_
            refine j_aload (pc := 295) C 3 dL_changes_295 rfl ?_
            refine j_iconst (pc := 297) (v := (3 : Int32)) C dL_changes_297 rfl ?_
            refine j_iald (pc := 298) C dL_changes_298 h (fun h => ?_)
            refine j_aload (pc := 299) C 3 dL_changes_299 rfl ?_
            refine j_iconst (pc := 301) (v := (2 : Int32)) C dL_changes_301 rfl ?_
            refine j_iald (pc := 302) C dL_changes_302 h (fun h => ?_)
            refine j_iconst (pc := 303) (v := (1 : Int32)) C dL_changes_303 rfl ?_
            refine j_icmp_ne (pc := 304) C 311 dL_changes_304 (by decide) h (fun h => ?_) (fun h => ?_)
            · refine j_iconst (pc := 311) (v := (0 : Int32)) C dL_changes_311 rfl ?_
              obtain ⟨b39, s39, hb, hs, h⟩ := h
              refine c2_L_228 (pc := 312) C ⟨(Nat.le_of_ble_eq_true rfl), (Nat.le_of_ble_eq_true rfl)⟩ ⟨hb, hs⟩ (Nat.le_of_ble_eq_true rfl) dL_changes_312 h (fun r39 M39 h => ?_)
              refine j_istore (pc := 315) C [(8, _), (7, _), (6, _), (5, _), (4, _), (3, _), (0, _), (1, _), (2, _)] dL_changes_315 (by decide) rfl ?_
              refine j_aload_n (pc := 317) C 7 dL_changes_317 rfl ?_
              refine c2_L_247 (pc := 318) C ⟨(Nat.le_of_ble_eq_true rfl), (Nat.le_of_ble_eq_true rfl)⟩ ⟨hb, hs⟩ (Nat.le_of_ble_eq_true rfl) dL_changes_318 h (fun r40 M40 h => ?_)
              refine j_if_ne (pc := 321) C 334 dL_changes_321 (by decide) h (fun h => ?_) (fun h => ?_)
              · refine j_iload (pc := 334) C 1 dL_changes_334 rfl ?_
                refine j_if_le (pc := 336) C 354 dL_changes_336 (by decide) h (fun h => ?_) (fun h => ?_)
                · refine j_aload_n (pc := 354) C 6 dL_changes_354 rfl ?_
                  refine j_iload (pc := 355) C 4 dL_changes_355 rfl ?_
                  refine j_iload_n (pc := 357) C 5 dL_changes_357 rfl ?_
                  refine c2_L_257 (pc := 358) C ⟨(Nat.le_of_ble_eq_true rfl), (Nat.le_of_ble_eq_true rfl)⟩ ⟨hb, hs⟩ (Nat.le_of_ble_eq_true rfl) dL_changes_358 h (fun r41 M41 h => ?_)
                  refine j_iload (pc := 361) C 1 dL_changes_361 rfl ?_
                  refine j_icmp_ne (pc := 363) C 387 dL_changes_363 (by decide) h (fun h => ?_) (fun h => ?_)
                  · refine j_iconst (pc := 387) (v := (0 : Int32)) C dL_changes_387 rfl ?_
                    exact j_zret (pc := 388) C dL_changes_388 hb hs h
                  · refine j_iload (pc := 366) C 1 dL_changes_366 rfl ?_
                    refine j_if_gt (pc := 368) C 383 dL_changes_368 (by decide) h (fun h => ?_) (fun h => ?_)
                    · refine j_iconst (pc := 383) (v := (1 : Int32)) C dL_changes_383 rfl ?_
                      refine j_goto (pc := 384) C 388 dL_changes_384 (by decide) ?_
                      exact j_zret (pc := 388) C dL_changes_388 hb hs h
                    · refine j_aload_n (pc := 371) C 6 dL_changes_371 rfl ?_
                      refine j_iload (pc := 372) C 4 dL_changes_372 rfl ?_
                      refine j_iload_n (pc := 374) C 5 dL_changes_374 rfl ?_
                      refine c2_L_260 (pc := 375) C ⟨(Nat.le_of_ble_eq_true rfl), (Nat.le_of_ble_eq_true rfl)⟩ ⟨hb, hs⟩ (Nat.le_of_ble_eq_true rfl) dL_changes_375 h (fun r42 M42 h => ?_)
                      refine j_iload (pc := 378) C 0 dL_changes_378 rfl ?_
                      refine j_icmp_ne (pc := 380) C 387 dL_changes_380 (by decide) h (fun h => ?_) (fun h => ?_)
                      · refine j_iconst (pc := 387) (v := (0 : Int32)) C dL_changes_387 rfl ?_
                        exact j_zret (pc := 388) C dL_changes_388 hb hs h
                      · refine j_iconst (pc := 383) (v := (1 : Int32)) C dL_changes_383 rfl ?_
                        refine j_goto (pc := 384) C 388 dL_changes_384 (by decide) ?_
                        exact j_zret (pc := 388) C dL_changes_388 hb hs h
                · refine j_aload_n (pc := 339) C 7 dL_changes_339 rfl ?_
                  refine j_aload (pc := 340) C 3 dL_changes_340 rfl ?_
                  refine j_aload (pc := 342) C 2 dL_changes_342 rfl ?_
                  refine c2_L_253 (pc := 344) C ⟨(Nat.le_of_ble_eq_true rfl), (Nat.le_of_ble_eq_true rfl)⟩ ⟨hb, hs⟩ (Nat.le_of_ble_eq_true rfl) dL_changes_344 h (fun r43 M43 h => ?_)
                  refine j_iload (pc := 347) C 4 dL_changes_347 rfl ?_
                  refine j_icmp_eq (pc := 349) C 354 dL_changes_349 (by decide) h (fun h => ?_) (fun h => ?_)
                  · refine j_aload_n (pc := 354) C 6 dL_changes_354 rfl ?_
                    refine j_iload (pc := 355) C 4 dL_changes_355 rfl ?_
                    refine j_iload_n (pc := 357) C 5 dL_changes_357 rfl ?_
                    refine c2_L_257 (pc := 358) C ⟨(Nat.le_of_ble_eq_true rfl), (Nat.le_of_ble_eq_true rfl)⟩ ⟨hb, hs⟩ (Nat.le_of_ble_eq_true rfl) dL_changes_358 h (fun r44 M44 h => ?_)
                    refine j_iload (pc := 361) C 1 dL_changes_361 rfl ?_
                    refine j_icmp_ne (pc := 363) C 387 dL_changes_363 (by decide) h (fun h => ?_) (fun h => ?_)
                    · refine j_iconst (pc := 387) (v := (0 : Int32)) C dL_changes_387 rfl ?_
                      exact j_zret (pc := 388) C dL_changes_388 hb hs h
                    · refine j_iload (pc := 366) C 1 dL_changes_366 rfl ?_
                      refine j_if_gt (pc := 368) C 383 dL_changes_368 (by decide) h (fun h => ?_) (fun h => ?_)
                      · refine j_iconst (pc := 383) (v := (1 : Int32)) C dL_changes_383 rfl ?_
                        refine j_goto (pc := 384) C 388 dL_changes_384 (by decide) ?_
                        exact j_zret (pc := 388) C dL_changes_388 hb hs h
                      · refine j_aload_n (pc := 371) C 6 dL_changes_371 rfl ?_
                        refine j_iload (pc := 372) C 4 dL_changes_372 rfl ?_
                        refine j_iload_n (pc := 374) C 5 dL_changes_374 rfl ?_
                        refine c2_L_260 (pc := 375) C ⟨(Nat.le_of_ble_eq_true rfl), (Nat.le_of_ble_eq_true rfl)⟩ ⟨hb, hs⟩ (Nat.le_of_ble_eq_true rfl) dL_changes_375 h (fun r45 M45 h => ?_)
                        refine j_iload (pc := 378) C 0 dL_changes_378 rfl ?_
                        refine j_icmp_ne (pc := 380) C 387 dL_changes_380 (by decide) h (fun h => ?_) (fun h => ?_)
                        · refine j_iconst (pc := 387) (v := (0 : Int32)) C dL_changes_387 rfl ?_
                          exact j_zret (pc := 388) C dL_changes_388 hb hs h
                        · refine j_iconst (pc := 383) (v := (1 : Int32)) C dL_changes_383 rfl ?_
                          refine j_goto (pc := 384) C 388 dL_changes_384 (by decide) ?_
                          exact j_zret (pc := 388) C dL_changes_388 hb hs h
                  · refine j_iconst (pc := 352) (v := (0 : Int32)) C dL_changes_352 rfl ?_
                    exact j_zret (pc := 353) C dL_changes_353 hb hs h
              · refine j_bipush (pc := 324) (v := (6 : Int32)) C dL_changes_324 rfl ?_
                refine j_istore (pc := 326) C [(7, _), (8, _), (6, _), (5, _), (4, _), (3, _), (0, _), (1, _), (2, _)] dL_changes_326 (by decide) rfl ?_
                refine j_aload_n (pc := 328) C 7 dL_changes_328 rfl ?_
                refine j_iload (pc := 329) C 1 dL_changes_329 rfl ?_
                refine c2_L_231 (pc := 331) C ⟨(Nat.le_of_ble_eq_true rfl), (Nat.le_of_ble_eq_true rfl)⟩ ⟨hb, hs⟩ (Nat.le_of_ble_eq_true rfl) dL_changes_331 h (fun M46 h => ?_)
                refine j_iload (pc := 334) C 0 dL_changes_334 rfl ?_
                refine j_if_le (pc := 336) (A := False) (B := True) C 354 dL_changes_336 (by decide) (by first | rw [if_pos (by decide)] ; trivial | rw [if_neg (by decide)] ; trivial) (fun z => z.elim) (fun _ => ?_)
                refine j_aload_n (pc := 339) C 7 dL_changes_339 rfl ?_
                refine j_aload (pc := 340) C 3 dL_changes_340 rfl ?_
                refine j_aload (pc := 342) C 2 dL_changes_342 rfl ?_
                refine c2_L_253 (pc := 344) C ⟨(Nat.le_of_ble_eq_true rfl), (Nat.le_of_ble_eq_true rfl)⟩ ⟨hb, hs⟩ (Nat.le_of_ble_eq_true rfl) dL_changes_344 h (fun r47 M47 h => ?_)
                refine j_iload (pc := 347) C 4 dL_changes_347 rfl ?_
                refine j_icmp_eq (pc := 349) C 354 dL_changes_349 (by decide) h (fun h => ?_) (fun h => ?_)
                · refine j_aload_n (pc := 354) C 6 dL_changes_354 rfl ?_
                  refine j_iload (pc := 355) C 4 dL_changes_355 rfl ?_
                  refine j_iload_n (pc := 357) C 5 dL_changes_357 rfl ?_
                  refine c2_L_257 (pc := 358) C ⟨(Nat.le_of_ble_eq_true rfl), (Nat.le_of_ble_eq_true rfl)⟩ ⟨hb, hs⟩ (Nat.le_of_ble_eq_true rfl) dL_changes_358 h (fun r48 M48 h => ?_)
                  refine j_iload (pc := 361) C 0 dL_changes_361 rfl ?_
                  refine j_icmp_ne (pc := 363) C 387 dL_changes_363 (by decide) h (fun h => ?_) (fun h => ?_)
                  · refine j_iconst (pc := 387) (v := (0 : Int32)) C dL_changes_387 rfl ?_
                    exact j_zret (pc := 388) C dL_changes_388 hb hs h
                  · refine j_iload (pc := 366) C 0 dL_changes_366 rfl ?_
                    refine j_if_gt (pc := 368) (A := True) (B := False) C 383 dL_changes_368 (by decide) (by first | rw [if_pos (by decide)] ; trivial | rw [if_neg (by decide)] ; trivial) (fun _ => ?_) (fun z => z.elim)
                    refine j_iconst (pc := 383) (v := (1 : Int32)) C dL_changes_383 rfl ?_
                    refine j_goto (pc := 384) C 388 dL_changes_384 (by decide) ?_
                    exact j_zret (pc := 388) C dL_changes_388 hb hs h
                · refine j_iconst (pc := 352) (v := (0 : Int32)) C dL_changes_352 rfl ?_
                  exact j_zret (pc := 353) C dL_changes_353 hb hs h
            · refine j_iconst (pc := 307) (v := (1 : Int32)) C dL_changes_307 rfl ?_
              refine j_goto (pc := 308) C 312 dL_changes_308 (by decide) ?_
              obtain ⟨b49, s49, hb, hs, h⟩ := h
              refine c2_L_228 (pc := 312) C ⟨(Nat.le_of_ble_eq_true rfl), (Nat.le_of_ble_eq_true rfl)⟩ ⟨hb, hs⟩ (Nat.le_of_ble_eq_true rfl) dL_changes_312 h (fun r49 M49 h => ?_)
              refine j_istore (pc := 315) C [(8, _), (7, _), (6, _), (5, _), (4, _), (3, _), (0, _), (1, _), (2, _)] dL_changes_315 (by decide) rfl ?_
              refine j_aload_n (pc := 317) C 7 dL_changes_317 rfl ?_
              refine c2_L_247 (pc := 318) C ⟨(Nat.le_of_ble_eq_true rfl), (Nat.le_of_ble_eq_true rfl)⟩ ⟨hb, hs⟩ (Nat.le_of_ble_eq_true rfl) dL_changes_318 h (fun r50 M50 h => ?_)
              refine j_if_ne (pc := 321) C 334 dL_changes_321 (by decide) h (fun h => ?_) (fun h => ?_)
              · refine j_iload (pc := 334) C 1 dL_changes_334 rfl ?_
                refine j_if_le (pc := 336) C 354 dL_changes_336 (by decide) h (fun h => ?_) (fun h => ?_)
                · refine j_aload_n (pc := 354) C 6 dL_changes_354 rfl ?_
                  refine j_iload (pc := 355) C 4 dL_changes_355 rfl ?_
                  refine j_iload_n (pc := 357) C 5 dL_changes_357 rfl ?_
                  refine c2_L_257 (pc := 358) C ⟨(Nat.le_of_ble_eq_true rfl), (Nat.le_of_ble_eq_true rfl)⟩ ⟨hb, hs⟩ (Nat.le_of_ble_eq_true rfl) dL_changes_358 h (fun r51 M51 h => ?_)
                  refine j_iload (pc := 361) C 1 dL_changes_361 rfl ?_
                  refine j_icmp_ne (pc := 363) C 387 dL_changes_363 (by decide) h (fun h => ?_) (fun h => ?_)
                  · refine j_iconst (pc := 387) (v := (0 : Int32)) C dL_changes_387 rfl ?_
                    exact j_zret (pc := 388) C dL_changes_388 hb hs h
                  · refine j_iload (pc := 366) C 1 dL_changes_366 rfl ?_
                    refine j_if_gt (pc := 368) C 383 dL_changes_368 (by decide) h (fun h => ?_) (fun h => ?_)
                    · refine j_iconst (pc := 383) (v := (1 : Int32)) C dL_changes_383 rfl ?_
                      refine j_goto (pc := 384) C 388 dL_changes_384 (by decide) ?_
                      exact j_zret (pc := 388) C dL_changes_388 hb hs h
                    · refine j_aload_n (pc := 371) C 6 dL_changes_371 rfl ?_
                      refine j_iload (pc := 372) C 4 dL_changes_372 rfl ?_
                      refine j_iload_n (pc := 374) C 5 dL_changes_374 rfl ?_
                      refine c2_L_260 (pc := 375) C ⟨(Nat.le_of_ble_eq_true rfl), (Nat.le_of_ble_eq_true rfl)⟩ ⟨hb, hs⟩ (Nat.le_of_ble_eq_true rfl) dL_changes_375 h (fun r52 M52 h => ?_)
                      refine j_iload (pc := 378) C 0 dL_changes_378 rfl ?_
                      refine j_icmp_ne (pc := 380) C 387 dL_changes_380 (by decide) h (fun h => ?_) (fun h => ?_)
                      · refine j_iconst (pc := 387) (v := (0 : Int32)) C dL_changes_387 rfl ?_
                        exact j_zret (pc := 388) C dL_changes_388 hb hs h
                      · refine j_iconst (pc := 383) (v := (1 : Int32)) C dL_changes_383 rfl ?_
                        refine j_goto (pc := 384) C 388 dL_changes_384 (by decide) ?_
                        exact j_zret (pc := 388) C dL_changes_388 hb hs h
                · refine j_aload_n (pc := 339) C 7 dL_changes_339 rfl ?_
                  refine j_aload (pc := 340) C 3 dL_changes_340 rfl ?_
                  refine j_aload (pc := 342) C 2 dL_changes_342 rfl ?_
                  refine c2_L_253 (pc := 344) C ⟨(Nat.le_of_ble_eq_true rfl), (Nat.le_of_ble_eq_true rfl)⟩ ⟨hb, hs⟩ (Nat.le_of_ble_eq_true rfl) dL_changes_344 h (fun r53 M53 h => ?_)
                  refine j_iload (pc := 347) C 4 dL_changes_347 rfl ?_
                  refine j_icmp_eq (pc := 349) C 354 dL_changes_349 (by decide) h (fun h => ?_) (fun h => ?_)
                  · refine j_aload_n (pc := 354) C 6 dL_changes_354 rfl ?_
                    refine j_iload (pc := 355) C 4 dL_changes_355 rfl ?_
                    refine j_iload_n (pc := 357) C 5 dL_changes_357 rfl ?_
                    refine c2_L_257 (pc := 358) C ⟨(Nat.le_of_ble_eq_true rfl), (Nat.le_of_ble_eq_true rfl)⟩ ⟨hb, hs⟩ (Nat.le_of_ble_eq_true rfl) dL_changes_358 h (fun r54 M54 h => ?_)
                    refine j_iload (pc := 361) C 1 dL_changes_361 rfl ?_
                    refine j_icmp_ne (pc := 363) C 387 dL_changes_363 (by decide) h (fun h => ?_) (fun h => ?_)
                    · refine j_iconst (pc := 387) (v := (0 : Int32)) C dL_changes_387 rfl ?_
                      exact j_zret (pc := 388) C dL_changes_388 hb hs h
                    · refine j_iload (pc := 366) C 1 dL_changes_366 rfl ?_
                      refine j_if_gt (pc := 368) C 383 dL_changes_368 (by decide) h (fun h => ?_) (fun h => ?_)
                      · refine j_iconst (pc := 383) (v := (1 : Int32)) C dL_changes_383 rfl ?_
                        refine j_goto (pc := 384) C 388 dL_changes_384 (by decide) ?_
                        exact j_zret (pc := 388) C dL_changes_388 hb hs h
                      · refine j_aload_n (pc := 371) C 6 dL_changes_371 rfl ?_
                        refine j_iload (pc := 372) C 4 dL_changes_372 rfl ?_
                        refine j_iload_n (pc := 374) C 5 dL_changes_374 rfl ?_
                        refine c2_L_260 (pc := 375) C ⟨(Nat.le_of_ble_eq_true rfl), (Nat.le_of_ble_eq_true rfl)⟩ ⟨hb, hs⟩ (Nat.le_of_ble_eq_true rfl) dL_changes_375 h (fun r55 M55 h => ?_)
                        refine j_iload (pc := 378) C 0 dL_changes_378 rfl ?_
                        refine j_icmp_ne (pc := 380) C 387 dL_changes_380 (by decide) h (fun h => ?_) (fun h => ?_)
                        · refine j_iconst (pc := 387) (v := (0 : Int32)) C dL_changes_387 rfl ?_
                          exact j_zret (pc := 388) C dL_changes_388 hb hs h
                        · refine j_iconst (pc := 383) (v := (1 : Int32)) C dL_changes_383 rfl ?_
                          refine j_goto (pc := 384) C 388 dL_changes_384 (by decide) ?_
                          exact j_zret (pc := 388) C dL_changes_388 hb hs h
                  · refine j_iconst (pc := 352) (v := (0 : Int32)) C dL_changes_352 rfl ?_
                    exact j_zret (pc := 353) C dL_changes_353 hb hs h
              · refine j_bipush (pc := 324) (v := (6 : Int32)) C dL_changes_324 rfl ?_
                refine j_istore (pc := 326) C [(7, _), (8, _), (6, _), (5, _), (4, _), (3, _), (0, _), (1, _), (2, _)] dL_changes_326 (by decide) rfl ?_
                refine j_aload_n (pc := 328) C 7 dL_changes_328 rfl ?_
                refine j_iload (pc := 329) C 1 dL_changes_329 rfl ?_
                refine c2_L_231 (pc := 331) C ⟨(Nat.le_of_ble_eq_true rfl), (Nat.le_of_ble_eq_true rfl)⟩ ⟨hb, hs⟩ (Nat.le_of_ble_eq_true rfl) dL_changes_331 h (fun M56 h => ?_)
                refine j_iload (pc := 334) C 0 dL_changes_334 rfl ?_
                refine j_if_le (pc := 336) (A := False) (B := True) C 354 dL_changes_336 (by decide) (by first | rw [if_pos (by decide)] ; trivial | rw [if_neg (by decide)] ; trivial) (fun z => z.elim) (fun _ => ?_)
                refine j_aload_n (pc := 339) C 7 dL_changes_339 rfl ?_
                refine j_aload (pc := 340) C 3 dL_changes_340 rfl ?_
                refine j_aload (pc := 342) C 2 dL_changes_342 rfl ?_
                refine c2_L_253 (pc := 344) C ⟨(Nat.le_of_ble_eq_true rfl), (Nat.le_of_ble_eq_true rfl)⟩ ⟨hb, hs⟩ (Nat.le_of_ble_eq_true rfl) dL_changes_344 h (fun r57 M57 h => ?_)
                refine j_iload (pc := 347) C 4 dL_changes_347 rfl ?_
                refine j_icmp_eq (pc := 349) C 354 dL_changes_349 (by decide) h (fun h => ?_) (fun h => ?_)
                · refine j_aload_n (pc := 354) C 6 dL_changes_354 rfl ?_
                  refine j_iload (pc := 355) C 4 dL_changes_355 rfl ?_
                  refine j_iload_n (pc := 357) C 5 dL_changes_357 rfl ?_
                  refine c2_L_257 (pc := 358) C ⟨(Nat.le_of_ble_eq_true rfl), (Nat.le_of_ble_eq_true rfl)⟩ ⟨hb, hs⟩ (Nat.le_of_ble_eq_true rfl) dL_changes_358 h (fun r58 M58 h => ?_)
                  refine j_iload (pc := 361) C 0 dL_changes_361 rfl ?_
                  refine j_icmp_ne (pc := 363) C 387 dL_changes_363 (by decide) h (fun h => ?_) (fun h => ?_)
                  · refine j_iconst (pc := 387) (v := (0 : Int32)) C dL_changes_387 rfl ?_
                    exact j_zret (pc := 388) C dL_changes_388 hb hs h
                  · refine j_iload (pc := 366) C 0 dL_changes_366 rfl ?_
                    refine j_if_gt (pc := 368) (A := True) (B := False) C 383 dL_changes_368 (by decide) (by first | rw [if_pos (by decide)] ; trivial | rw [if_neg (by decide)] ; trivial) (fun _ => ?_) (fun z => z.elim)
                    refine j_iconst (pc := 383) (v := (1 : Int32)) C dL_changes_383 rfl ?_
                    refine j_goto (pc := 384) C 388 dL_changes_384 (by decide) ?_
                    exact j_zret (pc := 388) C dL_changes_388 hb hs h
                · refine j_iconst (pc := 352) (v := (0 : Int32)) C dL_changes_352 rfl ?_
                  exact j_zret (pc := 353) C dL_changes_353 hb hs h
        · refine j_iconst (pc := 263) (v := (1 : Int32)) C dL_changes_263 rfl ?_
          refine j_goto (pc := 264) C 268 dL_changes_264 (by decide) ?_
          refine j_iload (pc := 268) C 2 dL_changes_268 rfl ?_
          obtain ⟨b59, s59, hb, hs, h⟩ := h
          refine c2_L_217 (pc := 270) C ⟨(Nat.le_of_ble_eq_true rfl), (Nat.le_of_ble_eq_true rfl)⟩ ⟨hb, hs⟩ (Nat.le_of_ble_eq_true rfl) dL_changes_270 h (fun r59 M59 h => ?_)
          refine j_istore (pc := 273) C [(7, _), (6, _), (5, _), (4, _), (3, _), (0, _), (1, _), (2, _)] dL_changes_273 (by decide) rfl ?_
          refine j_aload_n (pc := 275) C 6 dL_changes_275 rfl ?_
          refine j_iload (pc := 276) C 3 dL_changes_276 rfl ?_
          refine c2_L_231 (pc := 278) C ⟨(Nat.le_of_ble_eq_true rfl), (Nat.le_of_ble_eq_true rfl)⟩ ⟨hb, hs⟩ (Nat.le_of_ble_eq_true rfl) dL_changes_278 h (fun M60 h => ?_)
          refine j_iconst (pc := 281) (v := (-1 : Int32)) C dL_changes_281 rfl ?_
          refine j_istore (pc := 282) C [(8, _), (7, _), (6, _), (5, _), (4, _), (3, _), (0, _), (1, _), (2, _)] dL_changes_282 (by decide) rfl ?_
          refine j_iload (pc := 284) C 1 dL_changes_284 rfl ?_
          refine j_if_ne (pc := 286) C 334 dL_changes_286 (by decide) h (fun h => ?_) (fun h => ?_)
          · refine j_iload (pc := 334) C 1 dL_changes_334 rfl ?_
            refine j_if_le (pc := 336) C 354 dL_changes_336 (by decide) h (fun h => ?_) (fun h => ?_)
            · refine j_aload_n (pc := 354) C 6 dL_changes_354 rfl ?_
              refine j_iload (pc := 355) C 4 dL_changes_355 rfl ?_
              refine j_iload_n (pc := 357) C 5 dL_changes_357 rfl ?_
              refine c2_L_257 (pc := 358) C ⟨(Nat.le_of_ble_eq_true rfl), (Nat.le_of_ble_eq_true rfl)⟩ ⟨hb, hs⟩ (Nat.le_of_ble_eq_true rfl) dL_changes_358 h (fun r61 M61 h => ?_)
              refine j_iload (pc := 361) C 1 dL_changes_361 rfl ?_
              refine j_icmp_ne (pc := 363) C 387 dL_changes_363 (by decide) h (fun h => ?_) (fun h => ?_)
              · refine j_iconst (pc := 387) (v := (0 : Int32)) C dL_changes_387 rfl ?_
                exact j_zret (pc := 388) C dL_changes_388 hb hs h
              · refine j_iload (pc := 366) C 1 dL_changes_366 rfl ?_
                refine j_if_gt (pc := 368) C 383 dL_changes_368 (by decide) h (fun h => ?_) (fun h => ?_)
                · refine j_iconst (pc := 383) (v := (1 : Int32)) C dL_changes_383 rfl ?_
                  refine j_goto (pc := 384) C 388 dL_changes_384 (by decide) ?_
                  exact j_zret (pc := 388) C dL_changes_388 hb hs h
                · refine j_aload_n (pc := 371) C 6 dL_changes_371 rfl ?_
                  refine j_iload (pc := 372) C 4 dL_changes_372 rfl ?_
                  refine j_iload_n (pc := 374) C 5 dL_changes_374 rfl ?_
                  refine c2_L_260 (pc := 375) C ⟨(Nat.le_of_ble_eq_true rfl), (Nat.le_of_ble_eq_true rfl)⟩ ⟨hb, hs⟩ (Nat.le_of_ble_eq_true rfl) dL_changes_375 h (fun r62 M62 h => ?_)
                  refine j_iload (pc := 378) C 0 dL_changes_378 rfl ?_
                  refine j_icmp_ne (pc := 380) C 387 dL_changes_380 (by decide) h (fun h => ?_) (fun h => ?_)
                  · refine j_iconst (pc := 387) (v := (0 : Int32)) C dL_changes_387 rfl ?_
                    exact j_zret (pc := 388) C dL_changes_388 hb hs h
                  · refine j_iconst (pc := 383) (v := (1 : Int32)) C dL_changes_383 rfl ?_
                    refine j_goto (pc := 384) C 388 dL_changes_384 (by decide) ?_
                    exact j_zret (pc := 388) C dL_changes_388 hb hs h
            · refine j_aload_n (pc := 339) C 7 dL_changes_339 rfl ?_
              refine j_aload (pc := 340) C 3 dL_changes_340 rfl ?_
              refine j_aload (pc := 342) C 2 dL_changes_342 rfl ?_
              refine c2_L_253 (pc := 344) C ⟨(Nat.le_of_ble_eq_true rfl), (Nat.le_of_ble_eq_true rfl)⟩ ⟨hb, hs⟩ (Nat.le_of_ble_eq_true rfl) dL_changes_344 h (fun r63 M63 h => ?_)
              refine j_iload (pc := 347) C 4 dL_changes_347 rfl ?_
              refine j_icmp_eq (pc := 349) C 354 dL_changes_349 (by decide) h (fun h => ?_) (fun h => ?_)
              · refine j_aload_n (pc := 354) C 6 dL_changes_354 rfl ?_
                refine j_iload (pc := 355) C 4 dL_changes_355 rfl ?_
                refine j_iload_n (pc := 357) C 5 dL_changes_357 rfl ?_
                refine c2_L_257 (pc := 358) C ⟨(Nat.le_of_ble_eq_true rfl), (Nat.le_of_ble_eq_true rfl)⟩ ⟨hb, hs⟩ (Nat.le_of_ble_eq_true rfl) dL_changes_358 h (fun r64 M64 h => ?_)
                refine j_iload (pc := 361) C 1 dL_changes_361 rfl ?_
                refine j_icmp_ne (pc := 363) C 387 dL_changes_363 (by decide) h (fun h => ?_) (fun h => ?_)
                · refine j_iconst (pc := 387) (v := (0 : Int32)) C dL_changes_387 rfl ?_
                  exact j_zret (pc := 388) C dL_changes_388 hb hs h
                · refine j_iload (pc := 366) C 1 dL_changes_366 rfl ?_
                  refine j_if_gt (pc := 368) C 383 dL_changes_368 (by decide) h (fun h => ?_) (fun h => ?_)
                  · refine j_iconst (pc := 383) (v := (1 : Int32)) C dL_changes_383 rfl ?_
                    refine j_goto (pc := 384) C 388 dL_changes_384 (by decide) ?_
                    exact j_zret (pc := 388) C dL_changes_388 hb hs h
                  · refine j_aload_n (pc := 371) C 6 dL_changes_371 rfl ?_
                    refine j_iload (pc := 372) C 4 dL_changes_372 rfl ?_
                    refine j_iload_n (pc := 374) C 5 dL_changes_374 rfl ?_
                    refine c2_L_260 (pc := 375) C ⟨(Nat.le_of_ble_eq_true rfl), (Nat.le_of_ble_eq_true rfl)⟩ ⟨hb, hs⟩ (Nat.le_of_ble_eq_true rfl) dL_changes_375 h (fun r65 M65 h => ?_)
                    refine j_iload (pc := 378) C 0 dL_changes_378 rfl ?_
                    refine j_icmp_ne (pc := 380) C 387 dL_changes_380 (by decide) h (fun h => ?_) (fun h => ?_)
                    · refine j_iconst (pc := 387) (v := (0 : Int32)) C dL_changes_387 rfl ?_
                      exact j_zret (pc := 388) C dL_changes_388 hb hs h
                    · refine j_iconst (pc := 383) (v := (1 : Int32)) C dL_changes_383 rfl ?_
                      refine j_goto (pc := 384) C 388 dL_changes_384 (by decide) ?_
                      exact j_zret (pc := 388) C dL_changes_388 hb hs h
              · refine j_iconst (pc := 352) (v := (0 : Int32)) C dL_changes_352 rfl ?_
                exact j_zret (pc := 353) C dL_changes_353 hb hs h
          · refine j_aload_n (pc := 289) C 7 dL_changes_289 rfl ?_
            refine j_aload (pc := 290) C 3 dL_changes_290 rfl ?_
            refine j_iconst (pc := 292) (v := (1 : Int32)) C dL_changes_292 rfl ?_
            refine j_iald (pc := 293) C dL_changes_293 h (fun h => ?_)
            refine j_iload_n (pc := 294) C 5 dL_changes_294 rfl ?_
            refine j_aload (pc := 295) C 3 dL_changes_295 rfl ?_
            refine j_iconst (pc := 297) (v := (3 : Int32)) C dL_changes_297 rfl ?_
            refine j_iald (pc := 298) C dL_changes_298 h (fun h => ?_)
            refine j_aload (pc := 299) C 3 dL_changes_299 rfl ?_
            refine j_iconst (pc := 301) (v := (2 : Int32)) C dL_changes_301 rfl ?_
            refine j_iald (pc := 302) C dL_changes_302 h (fun h => ?_)
            refine j_iconst (pc := 303) (v := (1 : Int32)) C dL_changes_303 rfl ?_
            refine j_icmp_ne (pc := 304) C 311 dL_changes_304 (by decide) h (fun h => ?_) (fun h => ?_)
            · refine j_iconst (pc := 311) (v := (0 : Int32)) C dL_changes_311 rfl ?_
              obtain ⟨b66, s66, hb, hs, h⟩ := h
              refine c2_L_228 (pc := 312) C ⟨(Nat.le_of_ble_eq_true rfl), (Nat.le_of_ble_eq_true rfl)⟩ ⟨hb, hs⟩ (Nat.le_of_ble_eq_true rfl) dL_changes_312 h (fun r66 M66 h => ?_)
              refine j_istore (pc := 315) C [(8, _), (7, _), (6, _), (5, _), (4, _), (3, _), (0, _), (1, _), (2, _)] dL_changes_315 (by decide) rfl ?_
              refine j_aload_n (pc := 317) C 7 dL_changes_317 rfl ?_
              refine c2_L_247 (pc := 318) C ⟨(Nat.le_of_ble_eq_true rfl), (Nat.le_of_ble_eq_true rfl)⟩ ⟨hb, hs⟩ (Nat.le_of_ble_eq_true rfl) dL_changes_318 h (fun r67 M67 h => ?_)
              refine j_if_ne (pc := 321) C 334 dL_changes_321 (by decide) h (fun h => ?_) (fun h => ?_)
              · refine j_iload (pc := 334) C 1 dL_changes_334 rfl ?_
                refine j_if_le (pc := 336) C 354 dL_changes_336 (by decide) h (fun h => ?_) (fun h => ?_)
                · refine j_aload_n (pc := 354) C 6 dL_changes_354 rfl ?_
                  refine j_iload (pc := 355) C 4 dL_changes_355 rfl ?_
                  refine j_iload_n (pc := 357) C 5 dL_changes_357 rfl ?_
                  refine c2_L_257 (pc := 358) C ⟨(Nat.le_of_ble_eq_true rfl), (Nat.le_of_ble_eq_true rfl)⟩ ⟨hb, hs⟩ (Nat.le_of_ble_eq_true rfl) dL_changes_358 h (fun r68 M68 h => ?_)
                  refine j_iload (pc := 361) C 1 dL_changes_361 rfl ?_
                  refine j_icmp_ne (pc := 363) C 387 dL_changes_363 (by decide) h (fun h => ?_) (fun h => ?_)
                  · refine j_iconst (pc := 387) (v := (0 : Int32)) C dL_changes_387 rfl ?_
                    exact j_zret (pc := 388) C dL_changes_388 hb hs h
                  · refine j_iload (pc := 366) C 1 dL_changes_366 rfl ?_
                    refine j_if_gt (pc := 368) C 383 dL_changes_368 (by decide) h (fun h => ?_) (fun h => ?_)
                    · refine j_iconst (pc := 383) (v := (1 : Int32)) C dL_changes_383 rfl ?_
                      refine j_goto (pc := 384) C 388 dL_changes_384 (by decide) ?_
                      exact j_zret (pc := 388) C dL_changes_388 hb hs h
                    · refine j_aload_n (pc := 371) C 6 dL_changes_371 rfl ?_
                      refine j_iload (pc := 372) C 4 dL_changes_372 rfl ?_
                      refine j_iload_n (pc := 374) C 5 dL_changes_374 rfl ?_
                      refine c2_L_260 (pc := 375) C ⟨(Nat.le_of_ble_eq_true rfl), (Nat.le_of_ble_eq_true rfl)⟩ ⟨hb, hs⟩ (Nat.le_of_ble_eq_true rfl) dL_changes_375 h (fun r69 M69 h => ?_)
                      refine j_iload (pc := 378) C 0 dL_changes_378 rfl ?_
                      refine j_icmp_ne (pc := 380) C 387 dL_changes_380 (by decide) h (fun h => ?_) (fun h => ?_)
                      · refine j_iconst (pc := 387) (v := (0 : Int32)) C dL_changes_387 rfl ?_
                        exact j_zret (pc := 388) C dL_changes_388 hb hs h
                      · refine j_iconst (pc := 383) (v := (1 : Int32)) C dL_changes_383 rfl ?_
                        refine j_goto (pc := 384) C 388 dL_changes_384 (by decide) ?_
                        exact j_zret (pc := 388) C dL_changes_388 hb hs h
                · refine j_aload_n (pc := 339) C 7 dL_changes_339 rfl ?_
                  refine j_aload (pc := 340) C 3 dL_changes_340 rfl ?_
                  refine j_aload (pc := 342) C 2 dL_changes_342 rfl ?_
                  refine c2_L_253 (pc := 344) C ⟨(Nat.le_of_ble_eq_true rfl), (Nat.le_of_ble_eq_true rfl)⟩ ⟨hb, hs⟩ (Nat.le_of_ble_eq_true rfl) dL_changes_344 h (fun r70 M70 h => ?_)
                  refine j_iload (pc := 347) C 4 dL_changes_347 rfl ?_
                  refine j_icmp_eq (pc := 349) C 354 dL_changes_349 (by decide) h (fun h => ?_) (fun h => ?_)
                  · refine j_aload_n (pc := 354) C 6 dL_changes_354 rfl ?_
                    refine j_iload (pc := 355) C 4 dL_changes_355 rfl ?_
                    refine j_iload_n (pc := 357) C 5 dL_changes_357 rfl ?_
                    refine c2_L_257 (pc := 358) C ⟨(Nat.le_of_ble_eq_true rfl), (Nat.le_of_ble_eq_true rfl)⟩ ⟨hb, hs⟩ (Nat.le_of_ble_eq_true rfl) dL_changes_358 h (fun r71 M71 h => ?_)
                    refine j_iload (pc := 361) C 1 dL_changes_361 rfl ?_
                    refine j_icmp_ne (pc := 363) C 387 dL_changes_363 (by decide) h (fun h => ?_) (fun h => ?_)
                    · refine j_iconst (pc := 387) (v := (0 : Int32)) C dL_changes_387 rfl ?_
                      exact j_zret (pc := 388) C dL_changes_388 hb hs h
                    · refine j_iload (pc := 366) C 1 dL_changes_366 rfl ?_
                      refine j_if_gt (pc := 368) C 383 dL_changes_368 (by decide) h (fun h => ?_) (fun h => ?_)
                      · refine j_iconst (pc := 383) (v := (1 : Int32)) C dL_changes_383 rfl ?_
                        refine j_goto (pc := 384) C 388 dL_changes_384 (by decide) ?_
                        exact j_zret (pc := 388) C dL_changes_388 hb hs h
                      · refine j_aload_n (pc := 371) C 6 dL_changes_371 rfl ?_
                        refine j_iload (pc := 372) C 4 dL_changes_372 rfl ?_
                        refine j_iload_n (pc := 374) C 5 dL_changes_374 rfl ?_
                        refine c2_L_260 (pc := 375) C ⟨(Nat.le_of_ble_eq_true rfl), (Nat.le_of_ble_eq_true rfl)⟩ ⟨hb, hs⟩ (Nat.le_of_ble_eq_true rfl) dL_changes_375 h (fun r72 M72 h => ?_)
                        refine j_iload (pc := 378) C 0 dL_changes_378 rfl ?_
                        refine j_icmp_ne (pc := 380) C 387 dL_changes_380 (by decide) h (fun h => ?_) (fun h => ?_)
                        · refine j_iconst (pc := 387) (v := (0 : Int32)) C dL_changes_387 rfl ?_
                          exact j_zret (pc := 388) C dL_changes_388 hb hs h
                        · refine j_iconst (pc := 383) (v := (1 : Int32)) C dL_changes_383 rfl ?_
                          refine j_goto (pc := 384) C 388 dL_changes_384 (by decide) ?_
                          exact j_zret (pc := 388) C dL_changes_388 hb hs h
                  · refine j_iconst (pc := 352) (v := (0 : Int32)) C dL_changes_352 rfl ?_
                    exact j_zret (pc := 353) C dL_changes_353 hb hs h
              · refine j_bipush (pc := 324) (v := (6 : Int32)) C dL_changes_324 rfl ?_
                refine j_istore (pc := 326) C [(7, _), (8, _), (6, _), (5, _), (4, _), (3, _), (0, _), (1, _), (2, _)] dL_changes_326 (by decide) rfl ?_
                refine j_aload_n (pc := 328) C 7 dL_changes_328 rfl ?_
                refine j_iload (pc := 329) C 1 dL_changes_329 rfl ?_
                refine c2_L_231 (pc := 331) C ⟨(Nat.le_of_ble_eq_true rfl), (Nat.le_of_ble_eq_true rfl)⟩ ⟨hb, hs⟩ (Nat.le_of_ble_eq_true rfl) dL_changes_331 h (fun M73 h => ?_)
                refine j_iload (pc := 334) C 0 dL_changes_334 rfl ?_
                refine j_if_le (pc := 336) (A := False) (B := True) C 354 dL_changes_336 (by decide) (by first | rw [if_pos (by decide)] ; trivial | rw [if_neg (by decide)] ; trivial) (fun z => z.elim) (fun _ => ?_)
                refine j_aload_n (pc := 339) C 7 dL_changes_339 rfl ?_
                refine j_aload (pc := 340) C 3 dL_changes_340 rfl ?_
                refine j_aload (pc := 342) C 2 dL_changes_342 rfl ?_
                refine c2_L_253 (pc := 344) C ⟨(Nat.le_of_ble_eq_true rfl), (Nat.le_of_ble_eq_true rfl)⟩ ⟨hb, hs⟩ (Nat.le_of_ble_eq_true rfl) dL_changes_344 h (fun r74 M74 h => ?_)
                refine j_iload (pc := 347) C 4 dL_changes_347 rfl ?_
                refine j_icmp_eq (pc := 349) C 354 dL_changes_349 (by decide) h (fun h => ?_) (fun h => ?_)
                · refine j_aload_n (pc := 354) C 6 dL_changes_354 rfl ?_
                  refine j_iload (pc := 355) C 4 dL_changes_355 rfl ?_
                  refine j_iload_n (pc := 357) C 5 dL_changes_357 rfl ?_
                  refine c2_L_257 (pc := 358) C ⟨(Nat.le_of_ble_eq_true rfl), (Nat.le_of_ble_eq_true rfl)⟩ ⟨hb, hs⟩ (Nat.le_of_ble_eq_true rfl) dL_changes_358 h (fun r75 M75 h => ?_)
                  refine j_iload (pc := 361) C 0 dL_changes_361 rfl ?_
                  refine j_icmp_ne (pc := 363) C 387 dL_changes_363 (by decide) h (fun h => ?_) (fun h => ?_)
                  · refine j_iconst (pc := 387) (v := (0 : Int32)) C dL_changes_387 rfl ?_
                    exact j_zret (pc := 388) C dL_changes_388 hb hs h
                  · refine j_iload (pc := 366) C 0 dL_changes_366 rfl ?_
                    refine j_if_gt (pc := 368) (A := True) (B := False) C 383 dL_changes_368 (by decide) (by first | rw [if_pos (by decide)] ; trivial | rw [if_neg (by decide)] ; trivial) (fun _ => ?_) (fun z => z.elim)
                    refine j_iconst (pc := 383) (v := (1 : Int32)) C dL_changes_383 rfl ?_
                    refine j_goto (pc := 384) C 388 dL_changes_384 (by decide) ?_
                    exact j_zret (pc := 388) C dL_changes_388 hb hs h
                · refine j_iconst (pc := 352) (v := (0 : Int32)) C dL_changes_352 rfl ?_
                  exact j_zret (pc := 353) C dL_changes_353 hb hs h
            · refine j_iconst (pc := 307) (v := (1 : Int32)) C dL_changes_307 rfl ?_
              refine j_goto (pc := 308) C 312 dL_changes_308 (by decide) ?_
              obtain ⟨b76, s76, hb, hs, h⟩ := h
              refine c2_L_228 (pc := 312) C ⟨(Nat.le_of_ble_eq_true rfl), (Nat.le_of_ble_eq_true rfl)⟩ ⟨hb, hs⟩ (Nat.le_of_ble_eq_true rfl) dL_changes_312 h (fun r76 M76 h => ?_)
              refine j_istore (pc := 315) C [(8, _), (7, _), (6, _), (5, _), (4, _), (3, _), (0, _), (1, _), (2, _)] dL_changes_315 (by decide) rfl ?_
              refine j_aload_n (pc := 317) C 7 dL_changes_317 rfl ?_
              refine c2_L_247 (pc := 318) C ⟨(Nat.le_of_ble_eq_true rfl), (Nat.le_of_ble_eq_true rfl)⟩ ⟨hb, hs⟩ (Nat.le_of_ble_eq_true rfl) dL_changes_318 h (fun r77 M77 h => ?_)
              refine j_if_ne (pc := 321) C 334 dL_changes_321 (by decide) h (fun h => ?_) (fun h => ?_)
              · refine j_iload (pc := 334) C 1 dL_changes_334 rfl ?_
                refine j_if_le (pc := 336) C 354 dL_changes_336 (by decide) h (fun h => ?_) (fun h => ?_)
                · refine j_aload_n (pc := 354) C 6 dL_changes_354 rfl ?_
                  refine j_iload (pc := 355) C 4 dL_changes_355 rfl ?_
                  refine j_iload_n (pc := 357) C 5 dL_changes_357 rfl ?_
                  refine c2_L_257 (pc := 358) C ⟨(Nat.le_of_ble_eq_true rfl), (Nat.le_of_ble_eq_true rfl)⟩ ⟨hb, hs⟩ (Nat.le_of_ble_eq_true rfl) dL_changes_358 h (fun r78 M78 h => ?_)
                  refine j_iload (pc := 361) C 1 dL_changes_361 rfl ?_
                  refine j_icmp_ne (pc := 363) C 387 dL_changes_363 (by decide) h (fun h => ?_) (fun h => ?_)
                  · refine j_iconst (pc := 387) (v := (0 : Int32)) C dL_changes_387 rfl ?_
                    exact j_zret (pc := 388) C dL_changes_388 hb hs h
                  · refine j_iload (pc := 366) C 1 dL_changes_366 rfl ?_
                    refine j_if_gt (pc := 368) C 383 dL_changes_368 (by decide) h (fun h => ?_) (fun h => ?_)
                    · refine j_iconst (pc := 383) (v := (1 : Int32)) C dL_changes_383 rfl ?_
                      refine j_goto (pc := 384) C 388 dL_changes_384 (by decide) ?_
                      exact j_zret (pc := 388) C dL_changes_388 hb hs h
                    · refine j_aload_n (pc := 371) C 6 dL_changes_371 rfl ?_
                      refine j_iload (pc := 372) C 4 dL_changes_372 rfl ?_
                      refine j_iload_n (pc := 374) C 5 dL_changes_374 rfl ?_
                      refine c2_L_260 (pc := 375) C ⟨(Nat.le_of_ble_eq_true rfl), (Nat.le_of_ble_eq_true rfl)⟩ ⟨hb, hs⟩ (Nat.le_of_ble_eq_true rfl) dL_changes_375 h (fun r79 M79 h => ?_)
                      refine j_iload (pc := 378) C 0 dL_changes_378 rfl ?_
                      refine j_icmp_ne (pc := 380) C 387 dL_changes_380 (by decide) h (fun h => ?_) (fun h => ?_)
                      · refine j_iconst (pc := 387) (v := (0 : Int32)) C dL_changes_387 rfl ?_
                        exact j_zret (pc := 388) C dL_changes_388 hb hs h
                      · refine j_iconst (pc := 383) (v := (1 : Int32)) C dL_changes_383 rfl ?_
                        refine j_goto (pc := 384) C 388 dL_changes_384 (by decide) ?_
                        exact j_zret (pc := 388) C dL_changes_388 hb hs h
                · refine j_aload_n (pc := 339) C 7 dL_changes_339 rfl ?_
                  refine j_aload (pc := 340) C 3 dL_changes_340 rfl ?_
                  refine j_aload (pc := 342) C 2 dL_changes_342 rfl ?_
                  refine c2_L_253 (pc := 344) C ⟨(Nat.le_of_ble_eq_true rfl), (Nat.le_of_ble_eq_true rfl)⟩ ⟨hb, hs⟩ (Nat.le_of_ble_eq_true rfl) dL_changes_344 h (fun r80 M80 h => ?_)
                  refine j_iload (pc := 347) C 4 dL_changes_347 rfl ?_
                  refine j_icmp_eq (pc := 349) C 354 dL_changes_349 (by decide) h (fun h => ?_) (fun h => ?_)
                  · refine j_aload_n (pc := 354) C 6 dL_changes_354 rfl ?_
                    refine j_iload (pc := 355) C 4 dL_changes_355 rfl ?_
                    refine j_iload_n (pc := 357) C 5 dL_changes_357 rfl ?_
                    refine c2_L_257 (pc := 358) C ⟨(Nat.le_of_ble_eq_true rfl), (Nat.le_of_ble_eq_true rfl)⟩ ⟨hb, hs⟩ (Nat.le_of_ble_eq_true rfl) dL_changes_358 h (fun r81 M81 h => ?_)
                    refine j_iload (pc := 361) C 1 dL_changes_361 rfl ?_
                    refine j_icmp_ne (pc := 363) C 387 dL_changes_363 (by decide) h (fun h => ?_) (fun h => ?_)
                    · refine j_iconst (pc := 387) (v := (0 : Int32)) C dL_changes_387 rfl ?_
                      exact j_zret (pc := 388) C dL_changes_388 hb hs h
                    · refine j_iload (pc := 366) C 1 dL_changes_366 rfl ?_
                      refine j_if_gt (pc := 368) C 383 dL_changes_368 (by decide) h (fun h => ?_) (fun h => ?_)
                      · refine j_iconst (pc := 383) (v := (1 : Int32)) C dL_changes_383 rfl ?_
                        refine j_goto (pc := 384) C 388 dL_changes_384 (by decide) ?_
                        exact j_zret (pc := 388) C dL_changes_388 hb hs h
                      · refine j_aload_n (pc := 371) C 6 dL_changes_371 rfl ?_
                        refine j_iload (pc := 372) C 4 dL_changes_372 rfl ?_
                        refine j_iload_n (pc := 374) C 5 dL_changes_374 rfl ?_
                        refine c2_L_260 (pc := 375) C ⟨(Nat.le_of_ble_eq_true rfl), (Nat.le_of_ble_eq_true rfl)⟩ ⟨hb, hs⟩ (Nat.le_of_ble_eq_true rfl) dL_changes_375 h (fun r82 M82 h => ?_)
                        refine j_iload (pc := 378) C 0 dL_changes_378 rfl ?_
                        refine j_icmp_ne (pc := 380) C 387 dL_changes_380 (by decide) h (fun h => ?_) (fun h => ?_)
                        · refine j_iconst (pc := 387) (v := (0 : Int32)) C dL_changes_387 rfl ?_
                          exact j_zret (pc := 388) C dL_changes_388 hb hs h
                        · refine j_iconst (pc := 383) (v := (1 : Int32)) C dL_changes_383 rfl ?_
                          refine j_goto (pc := 384) C 388 dL_changes_384 (by decide) ?_
                          exact j_zret (pc := 388) C dL_changes_388 hb hs h
                  · refine j_iconst (pc := 352) (v := (0 : Int32)) C dL_changes_352 rfl ?_
                    exact j_zret (pc := 353) C dL_changes_353 hb hs h
              · refine j_bipush (pc := 324) (v := (6 : Int32)) C dL_changes_324 rfl ?_
                refine j_istore (pc := 326) C [(7, _), (8, _), (6, _), (5, _), (4, _), (3, _), (0, _), (1, _), (2, _)] dL_changes_326 (by decide) rfl ?_
                refine j_aload_n (pc := 328) C 7 dL_changes_328 rfl ?_
                refine j_iload (pc := 329) C 1 dL_changes_329 rfl ?_
                refine c2_L_231 (pc := 331) C ⟨(Nat.le_of_ble_eq_true rfl), (Nat.le_of_ble_eq_true rfl)⟩ ⟨hb, hs⟩ (Nat.le_of_ble_eq_true rfl) dL_changes_331 h (fun M83 h => ?_)
                refine j_iload (pc := 334) C 0 dL_changes_334 rfl ?_
                refine j_if_le (pc := 336) (A := False) (B := True) C 354 dL_changes_336 (by decide) (by first | rw [if_pos (by decide)] ; trivial | rw [if_neg (by decide)] ; trivial) (fun z => z.elim) (fun _ => ?_)
                refine j_aload_n (pc := 339) C 7 dL_changes_339 rfl ?_
                refine j_aload (pc := 340) C 3 dL_changes_340 rfl ?_
                refine j_aload (pc := 342) C 2 dL_changes_342 rfl ?_
                refine c2_L_253 (pc := 344) C ⟨(Nat.le_of_ble_eq_true rfl), (Nat.le_of_ble_eq_true rfl)⟩ ⟨hb, hs⟩ (Nat.le_of_ble_eq_true rfl) dL_changes_344 h (fun r84 M84 h => ?_)
                refine j_iload (pc := 347) C 4 dL_changes_347 rfl ?_
                refine j_icmp_eq (pc := 349) C 354 dL_changes_349 (by decide) h (fun h => ?_) (fun h => ?_)
                · refine j_aload_n (pc := 354) C 6 dL_changes_354 rfl ?_
                  refine j_iload (pc := 355) C 4 dL_changes_355 rfl ?_
                  refine j_iload_n (pc := 357) C 5 dL_changes_357 rfl ?_
                  refine c2_L_257 (pc := 358) C ⟨(Nat.le_of_ble_eq_true rfl), (Nat.le_of_ble_eq_true rfl)⟩ ⟨hb, hs⟩ (Nat.le_of_ble_eq_true rfl) dL_changes_358 h (fun r85 M85 h => ?_)
                  refine j_iload (pc := 361) C 0 dL_changes_361 rfl ?_
                  refine j_icmp_ne (pc := 363) C 387 dL_changes_363 (by decide) h (fun h => ?_) (fun h => ?_)
                  · refine j_iconst (pc := 387) (v := (0 : Int32)) C dL_changes_387 rfl ?_
                    exact j_zret (pc := 388) C dL_changes_388 hb hs h
                  · refine j_iload (pc := 366) C 0 dL_changes_366 rfl ?_
                    refine j_if_gt (pc := 368) (A := True) (B := False) C 383 dL_changes_368 (by decide) (by first | rw [if_pos (by decide)] ; trivial | rw [if_neg (by decide)] ; trivial) (fun _ => ?_) (fun z => z.elim)
                    refine j_iconst (pc := 383) (v := (1 : Int32)) C dL_changes_383 rfl ?_
                    refine j_goto (pc := 384) C 388 dL_changes_384 (by decide) ?_
                    exact j_zret (pc := 388) C dL_changes_388 hb hs h
                · refine j_iconst (pc := 352) (v := (0 : Int32)) C dL_changes_352 rfl ?_
                  exact j_zret (pc := 353) C dL_changes_353 hb hs h
      · refine j_iconst (pc := 225) (v := (1 : Int32)) C dL_changes_225 rfl ?_
        exact j_zret (pc := 226) C dL_changes_226 hb hs h
    rw [if_neg q38_2] at h
    by_cases q38_3 : r6 = (3 : Int32)
    · rw [if_pos q38_3] at h
      refine j_tsI (pc := 38) (off := 351) C 389 dL_changes_38 q38_3 (by decide) (by decide) (by decide) (by decide) ?_
      refine j_aload_n (pc := 389) C 3 dL_changes_389 rfl ?_
      refine gf_L_155 (pc := 390) C dL_changes_390 h (fun h => ?_)
      refine j_if_ne (pc := 393) C 398 dL_changes_393 (by decide) h (fun h => ?_) (fun h => ?_)
      · refine j_aload_n (pc := 398) C 3 dL_changes_398 rfl ?_
        refine gf_L_173 (pc := 399) C dL_changes_399 h (fun a87 h => ?_)
        refine j_iload (pc := 402) C 0 dL_changes_402 rfl ?_
        refine j_aals (pc := 404) C (by decide) dL_changes_404 h (fun a88 h => ?_)
        refine j_astore (pc := 405) C [(5, _), (4, _), (3, _), (0, _), (1, _), (2, _)] dL_changes_405 (by decide) rfl ?_
        refine j_aload_n (pc := 407) C 4 dL_changes_407 rfl ?_
        refine j_iload (pc := 408) C 1 dL_changes_408 rfl ?_
        refine c2_L_231 (pc := 410) C ⟨(Nat.le_of_ble_eq_true rfl), (Nat.le_of_ble_eq_true rfl)⟩ ⟨hb, hs⟩ (Nat.le_of_ble_eq_true rfl) dL_changes_410 h (fun M89 h => ?_)
        refine j_aload_n (pc := 413) C 4 dL_changes_413 rfl ?_
        refine j_aload (pc := 414) C 0 dL_changes_414 rfl ?_
        refine j_iconst (pc := 416) (v := (1 : Int32)) C dL_changes_416 rfl ?_
        refine j_iald (pc := 417) C dL_changes_417 h (fun h => ?_)
        refine j_aload (pc := 418) C 0 dL_changes_418 rfl ?_
        refine j_iconst (pc := 420) (v := (0 : Int32)) C dL_changes_420 rfl ?_
        refine j_iald (pc := 421) C dL_changes_421 h (fun h => ?_)
        refine j_aload (pc := 422) C 0 dL_changes_422 rfl ?_
        refine j_iconst (pc := 424) (v := (3 : Int32)) C dL_changes_424 rfl ?_
        refine j_iald (pc := 425) C dL_changes_425 h (fun h => ?_)
        refine j_aload (pc := 426) C 0 dL_changes_426 rfl ?_
        refine j_iconst (pc := 428) (v := (2 : Int32)) C dL_changes_428 rfl ?_
        refine j_iald (pc := 429) C dL_changes_429 h (fun h => ?_)
        refine j_iconst (pc := 430) (v := (1 : Int32)) C dL_changes_430 rfl ?_
        refine j_icmp_ne (pc := 431) C 438 dL_changes_431 (by decide) h (fun h => ?_) (fun h => ?_)
        · refine j_iconst (pc := 438) (v := (0 : Int32)) C dL_changes_438 rfl ?_
          obtain ⟨b90, s90, hb, hs, h⟩ := h
          refine c2_L_228 (pc := 439) C ⟨(Nat.le_of_ble_eq_true rfl), (Nat.le_of_ble_eq_true rfl)⟩ ⟨hb, hs⟩ (Nat.le_of_ble_eq_true rfl) dL_changes_439 h (fun r90 M90 h => ?_)
          refine j_istore (pc := 442) C [(6, _), (5, _), (4, _), (3, _), (0, _), (1, _), (2, _)] dL_changes_442 (by decide) rfl ?_
          refine j_iconst (pc := 444) (v := (0 : Int32)) C dL_changes_444 rfl ?_
          refine j_istore (pc := 445) C [(7, _), (6, _), (5, _), (4, _), (3, _), (0, _), (1, _), (2, _)] dL_changes_445 (by decide) rfl ?_
          refine j_iconst (pc := 447) (v := (0 : Int32)) C dL_changes_447 rfl ?_
          refine j_istore (pc := 448) C [(8, _), (7, _), (6, _), (5, _), (4, _), (3, _), (0, _), (1, _), (2, _)] dL_changes_448 (by decide) rfl ?_
          obtain ⟨n450, h⟩ := h
          refine j_weak [6, 7, 4, 2, 1, 0] rfl (jl_L_changes_450 C (fun M99 b99 s99 x0_99 x4_99 x6_99 x7_99 hb hs h => ?_) n450 _ _ _ _ _ _ _ _ _ hb hs h)
          · refine j_iload (pc := 499) C 2 dL_changes_499 rfl ?_
            refine j_iload (pc := 501) C 1 dL_changes_501 rfl ?_
            refine j_icmp_ne (pc := 503) C 521 dL_changes_503 (by decide) h (fun h => ?_) (fun h => ?_)
            · refine j_iconst (pc := 521) (v := (0 : Int32)) C dL_changes_521 rfl ?_
              exact j_zret (pc := 522) C dL_changes_522 hb hs h
            · refine j_aload_n (pc := 506) C 0 dL_changes_506 rfl ?_
              refine j_iload (pc := 507) C 1 dL_changes_507 rfl ?_
              refine c2_L_263 (pc := 509) C ⟨(Nat.le_of_ble_eq_true rfl), (Nat.le_of_ble_eq_true rfl)⟩ ⟨hb, hs⟩ (Nat.le_of_ble_eq_true rfl) dL_changes_509 h (fun r100 M100 h => ?_)
              refine j_iload (pc := 512) C 3 dL_changes_512 rfl ?_
              refine j_icmp_ne (pc := 514) C 521 dL_changes_514 (by decide) h (fun h => ?_) (fun h => ?_)
              · refine j_iconst (pc := 521) (v := (0 : Int32)) C dL_changes_521 rfl ?_
                exact j_zret (pc := 522) C dL_changes_522 hb hs h
              · refine j_iconst (pc := 517) (v := (1 : Int32)) C dL_changes_517 rfl ?_
                refine j_goto (pc := 518) C 522 dL_changes_518 (by decide) ?_
                exact j_zret (pc := 522) C dL_changes_522 hb hs h
        · refine j_iconst (pc := 434) (v := (1 : Int32)) C dL_changes_434 rfl ?_
          refine j_goto (pc := 435) C 439 dL_changes_435 (by decide) ?_
          obtain ⟨b101, s101, hb, hs, h⟩ := h
          refine c2_L_228 (pc := 439) C ⟨(Nat.le_of_ble_eq_true rfl), (Nat.le_of_ble_eq_true rfl)⟩ ⟨hb, hs⟩ (Nat.le_of_ble_eq_true rfl) dL_changes_439 h (fun r101 M101 h => ?_)
          refine j_istore (pc := 442) C [(6, _), (5, _), (4, _), (3, _), (0, _), (1, _), (2, _)] dL_changes_442 (by decide) rfl ?_
          refine j_iconst (pc := 444) (v := (0 : Int32)) C dL_changes_444 rfl ?_
          refine j_istore (pc := 445) C [(7, _), (6, _), (5, _), (4, _), (3, _), (0, _), (1, _), (2, _)] dL_changes_445 (by decide) rfl ?_
          refine j_iconst (pc := 447) (v := (0 : Int32)) C dL_changes_447 rfl ?_
          refine j_istore (pc := 448) C [(8, _), (7, _), (6, _), (5, _), (4, _), (3, _), (0, _), (1, _), (2, _)] dL_changes_448 (by decide) rfl ?_
          obtain ⟨n450, h⟩ := h
          refine j_weak [6, 7, 4, 2, 1, 0] rfl (jl_L_changes_450 C (fun M102 b102 s102 x0_102 x4_102 x6_102 x7_102 hb hs h => ?_) n450 _ _ _ _ _ _ _ _ _ hb hs h)
          · refine j_iload (pc := 499) C 2 dL_changes_499 rfl ?_
            refine j_iload (pc := 501) C 1 dL_changes_501 rfl ?_
            refine j_icmp_ne (pc := 503) C 521 dL_changes_503 (by decide) h (fun h => ?_) (fun h => ?_)
            · refine j_iconst (pc := 521) (v := (0 : Int32)) C dL_changes_521 rfl ?_
              exact j_zret (pc := 522) C dL_changes_522 hb hs h
            · refine j_aload_n (pc := 506) C 0 dL_changes_506 rfl ?_
              refine j_iload (pc := 507) C 1 dL_changes_507 rfl ?_
              refine c2_L_263 (pc := 509) C ⟨(Nat.le_of_ble_eq_true rfl), (Nat.le_of_ble_eq_true rfl)⟩ ⟨hb, hs⟩ (Nat.le_of_ble_eq_true rfl) dL_changes_509 h (fun r103 M103 h => ?_)
              refine j_iload (pc := 512) C 3 dL_changes_512 rfl ?_
              refine j_icmp_ne (pc := 514) C 521 dL_changes_514 (by decide) h (fun h => ?_) (fun h => ?_)
              · refine j_iconst (pc := 521) (v := (0 : Int32)) C dL_changes_521 rfl ?_
                exact j_zret (pc := 522) C dL_changes_522 hb hs h
              · refine j_iconst (pc := 517) (v := (1 : Int32)) C dL_changes_517 rfl ?_
                refine j_goto (pc := 518) C 522 dL_changes_518 (by decide) ?_
                exact j_zret (pc := 522) C dL_changes_522 hb hs h
      · refine j_iconst (pc := 396) (v := (1 : Int32)) C dL_changes_396 rfl ?_
        exact j_zret (pc := 397) C dL_changes_397 hb hs h
    rw [if_neg q38_3] at h
    refine j_tsO (pc := 38) C 523 dL_changes_38 (fun k h1 h2 => ?_) (by decide) ?_
    · rcases (show k = 0 ∨ k = 1 ∨ k = 2 ∨ k = 3 by omega) with rfl | rfl | rfl | rfl
      · exact ts_no q38_0 (by decide)
      · exact ts_no q38_1 (by decide)
      · exact ts_no q38_2 (by decide)
      · exact ts_no q38_3 (by decide)
    refine j_aload_n (pc := 523) C 4 dL_changes_523 rfl ?_
    refine j_aload_n (pc := 524) C 3 dL_changes_524 rfl ?_
    refine gf_L_60 (pc := 525) C dL_changes_525 h (fun h => ?_)
    refine c2_L_39 (pc := 528) C ⟨(Nat.le_of_ble_eq_true rfl), (Nat.le_of_ble_eq_true rfl)⟩ ⟨hb, hs⟩ (Nat.le_of_ble_eq_true rfl) dL_changes_528 h (fun r105 M105 h => ?_)
    refine j_istore (pc := 531) C [(5, _), (4, _), (3, _), (0, _), (1, _), (2, _)] dL_changes_531 (by decide) rfl ?_
    refine j_aload_n (pc := 533) C 5 dL_changes_533 rfl ?_
    refine j_iconst (pc := 534) (v := (2 : Int32)) C dL_changes_534 rfl ?_
    refine c2_L_39 (pc := 535) C ⟨(Nat.le_of_ble_eq_true rfl), (Nat.le_of_ble_eq_true rfl)⟩ ⟨hb, hs⟩ (Nat.le_of_ble_eq_true rfl) dL_changes_535 h (fun r106 M106 h => ?_)
    refine j_if_ne (pc := 538) C 545 dL_changes_538 (by decide) h (fun h => ?_) (fun h => ?_)
    · refine j_iconst (pc := 545) (v := (0 : Int32)) C dL_changes_545 rfl ?_
      refine j_istore (pc := 546) C [(6, _), (5, _), (4, _), (3, _), (0, _), (1, _), (2, _)] dL_changes_546 (by decide) rfl ?_
      refine j_aload_n (pc := 548) C 6 dL_changes_548 rfl ?_
      refine j_aload_n (pc := 549) C 5 dL_changes_549 rfl ?_
      refine gf_L_100 (pc := 550) C dL_changes_550 h (fun h => ?_)
      refine c2_L_39 (pc := 553) C ⟨(Nat.le_of_ble_eq_true rfl), (Nat.le_of_ble_eq_true rfl)⟩ ⟨hb, hs⟩ (Nat.le_of_ble_eq_true rfl) dL_changes_553 h (fun r108 M108 h => ?_)
      refine j_istore (pc := 556) C [(7, _), (6, _), (5, _), (4, _), (3, _), (0, _), (1, _), (2, _)] dL_changes_556 (by decide) rfl ?_
      refine j_iconst (pc := 558) (v := (1 : Int32)) C dL_changes_558 rfl ?_
      refine j_iload (pc := 559) C 0 dL_changes_559 rfl ?_
      refine j_ishl (pc := 561) C dL_changes_561 ?_
      refine j_iload (pc := 562) C 1 dL_changes_562 rfl ?_
      refine j_if_eq (pc := 564) (A := True) (B := False) C 588 dL_changes_564 (by decide) (by first | rw [if_pos (by decide)] ; trivial | rw [if_neg (by decide)] ; trivial) (fun _ => ?_) (fun z => z.elim)
      refine j_iconst (pc := 588) (v := (0 : Int32)) C dL_changes_588 rfl ?_
      refine j_ior (pc := 589) C dL_changes_589 ?_
      refine j_istore (pc := 590) C [(8, _), (7, _), (6, _), (5, _), (4, _), (3, _), (0, _), (1, _), (2, _)] dL_changes_590 (by decide) rfl ?_
      refine j_aload_n (pc := 592) C 7 dL_changes_592 rfl ?_
      refine j_iload (pc := 593) C 3 dL_changes_593 rfl ?_
      refine j_iload_n (pc := 595) C 5 dL_changes_595 rfl ?_
      refine j_iload (pc := 596) C 0 dL_changes_596 rfl ?_
      refine j_iload (pc := 598) C 2 dL_changes_598 rfl ?_
      refine j_iconst (pc := 600) (v := (-1 : Int32)) C dL_changes_600 rfl ?_
      obtain ⟨b109, s109, hb, hs, h⟩ := h
      refine c2_L_217 (pc := 601) C ⟨(Nat.le_of_ble_eq_true rfl), (Nat.le_of_ble_eq_true rfl)⟩ ⟨hb, hs⟩ (Nat.le_of_ble_eq_true rfl) dL_changes_601 h (fun r109 M109 h => ?_)
      refine j_if_le (pc := 604) C 609 dL_changes_604 (by decide) h (fun h => ?_) (fun h => ?_)
      · refine j_aload_n (pc := 609) C 7 dL_changes_609 rfl ?_
        refine j_iload (pc := 610) C 3 dL_changes_610 rfl ?_
        refine j_iload_n (pc := 612) C 5 dL_changes_612 rfl ?_
        refine j_iload (pc := 613) C 0 dL_changes_613 rfl ?_
        refine j_iload (pc := 615) C 2 dL_changes_615 rfl ?_
        obtain ⟨b110, s110, hb, hs, h⟩ := h
        refine c2_L_228 (pc := 617) C ⟨(Nat.le_of_ble_eq_true rfl), (Nat.le_of_ble_eq_true rfl)⟩ ⟨hb, hs⟩ (Nat.le_of_ble_eq_true rfl) dL_changes_617 h (fun r110 M110 h => ?_)
        refine j_istore (pc := 620) C [(9, _), (8, _), (7, _), (6, _), (5, _), (4, _), (3, _), (0, _), (1, _), (2, _)] dL_changes_620 (by decide) rfl ?_
        refine j_iload (pc := 622) C 3 dL_changes_622 rfl ?_
        refine j_if_eq (pc := 624) (A := True) (B := False) C 639 dL_changes_624 (by decide) (by first | rw [if_pos (by decide)] ; trivial | rw [if_neg (by decide)] ; trivial) (fun _ => ?_) (fun z => z.elim)
        refine j_aload_n (pc := 639) C 7 dL_changes_639 rfl ?_
        refine j_iload (pc := 640) C 4 dL_changes_640 rfl ?_
        refine j_iload_n (pc := 642) C 6 dL_changes_642 rfl ?_
        refine j_iload (pc := 643) C 2 dL_changes_643 rfl ?_
        refine c2_L_269 (pc := 645) C ⟨(Nat.le_of_ble_eq_true rfl), (Nat.le_of_ble_eq_true rfl)⟩ ⟨hb, hs⟩ (Nat.le_of_ble_eq_true rfl) dL_changes_645 h (fun r111 M111 h => ?_)
        refine j_iload (pc := 648) C 0 dL_changes_648 rfl ?_
        refine j_icmp_ne (pc := 650) C 657 dL_changes_650 (by decide) h (fun h => ?_) (fun h => ?_)
        · refine j_iconst (pc := 657) (v := (0 : Int32)) C dL_changes_657 rfl ?_
          exact j_zret (pc := 658) C dL_changes_658 hb hs h
        · refine j_iconst (pc := 653) (v := (1 : Int32)) C dL_changes_653 rfl ?_
          refine j_goto (pc := 654) C 658 dL_changes_654 (by decide) ?_
          exact j_zret (pc := 658) C dL_changes_658 hb hs h
      · refine j_iconst (pc := 607) (v := (1 : Int32)) C dL_changes_607 rfl ?_
        exact j_zret (pc := 608) C dL_changes_608 hb hs h
    · refine j_iconst (pc := 541) (v := (1 : Int32)) C dL_changes_541 rfl ?_
      refine j_goto (pc := 542) C 546 dL_changes_542 (by decide) ?_
      refine j_istore (pc := 546) C [(6, _), (5, _), (4, _), (3, _), (0, _), (1, _), (2, _)] dL_changes_546 (by decide) rfl ?_
      refine j_aload_n (pc := 548) C 6 dL_changes_548 rfl ?_
      refine j_aload_n (pc := 549) C 5 dL_changes_549 rfl ?_
      refine gf_L_100 (pc := 550) C dL_changes_550 h (fun h => ?_)
      refine c2_L_39 (pc := 553) C ⟨(Nat.le_of_ble_eq_true rfl), (Nat.le_of_ble_eq_true rfl)⟩ ⟨hb, hs⟩ (Nat.le_of_ble_eq_true rfl) dL_changes_553 h (fun r113 M113 h => ?_)
      refine j_istore (pc := 556) C [(7, _), (6, _), (5, _), (4, _), (3, _), (0, _), (1, _), (2, _)] dL_changes_556 (by decide) rfl ?_
      refine j_iconst (pc := 558) (v := (1 : Int32)) C dL_changes_558 rfl ?_
      refine j_iload (pc := 559) C 0 dL_changes_559 rfl ?_
      refine j_ishl (pc := 561) C dL_changes_561 ?_
      refine j_iload (pc := 562) C 1 dL_changes_562 rfl ?_
      refine j_if_eq (pc := 564) (A := False) (B := True) C 588 dL_changes_564 (by decide) (by first | rw [if_pos (by decide)] ; trivial | rw [if_neg (by decide)] ; trivial) (fun z => z.elim) (fun _ => ?_)
      refine j_aload_n (pc := 567) C 7 dL_changes_567 rfl ?_
      refine j_iconst (pc := 568) (v := (3 : Int32)) C dL_changes_568 rfl ?_
      refine c2_L_39 (pc := 569) C ⟨(Nat.le_of_ble_eq_true rfl), (Nat.le_of_ble_eq_true rfl)⟩ ⟨hb, hs⟩ (Nat.le_of_ble_eq_true rfl) dL_changes_569 h (fun r114 M114 h => ?_)
      refine j_if_ne (pc := 572) C 588 dL_changes_572 (by decide) h (fun h => ?_) (fun h => ?_)
      · refine j_iconst (pc := 588) (v := (0 : Int32)) C dL_changes_588 rfl ?_
        refine j_ior (pc := 589) C dL_changes_589 ?_
        refine j_istore (pc := 590) C [(8, _), (7, _), (6, _), (5, _), (4, _), (3, _), (0, _), (1, _), (2, _)] dL_changes_590 (by decide) rfl ?_
        refine j_aload_n (pc := 592) C 7 dL_changes_592 rfl ?_
        refine j_iload (pc := 593) C 3 dL_changes_593 rfl ?_
        refine j_iload_n (pc := 595) C 5 dL_changes_595 rfl ?_
        refine j_iload (pc := 596) C 0 dL_changes_596 rfl ?_
        refine j_iload (pc := 598) C 2 dL_changes_598 rfl ?_
        refine j_iconst (pc := 600) (v := (-1 : Int32)) C dL_changes_600 rfl ?_
        obtain ⟨b115, s115, hb, hs, h⟩ := h
        refine c2_L_217 (pc := 601) C ⟨(Nat.le_of_ble_eq_true rfl), (Nat.le_of_ble_eq_true rfl)⟩ ⟨hb, hs⟩ (Nat.le_of_ble_eq_true rfl) dL_changes_601 h (fun r115 M115 h => ?_)
        refine j_if_le (pc := 604) C 609 dL_changes_604 (by decide) h (fun h => ?_) (fun h => ?_)
        · refine j_aload_n (pc := 609) C 7 dL_changes_609 rfl ?_
          refine j_iload (pc := 610) C 3 dL_changes_610 rfl ?_
          refine j_iload_n (pc := 612) C 5 dL_changes_612 rfl ?_
          refine j_iload (pc := 613) C 0 dL_changes_613 rfl ?_
          refine j_iload (pc := 615) C 2 dL_changes_615 rfl ?_
          obtain ⟨b116, s116, hb, hs, h⟩ := h
          refine c2_L_228 (pc := 617) C ⟨(Nat.le_of_ble_eq_true rfl), (Nat.le_of_ble_eq_true rfl)⟩ ⟨hb, hs⟩ (Nat.le_of_ble_eq_true rfl) dL_changes_617 h (fun r116 M116 h => ?_)
          refine j_istore (pc := 620) C [(9, _), (8, _), (7, _), (6, _), (5, _), (4, _), (3, _), (0, _), (1, _), (2, _)] dL_changes_620 (by decide) rfl ?_
          refine j_iload (pc := 622) C 3 dL_changes_622 rfl ?_
          refine j_if_eq (pc := 624) (A := False) (B := True) C 639 dL_changes_624 (by decide) (by first | rw [if_pos (by decide)] ; trivial | rw [if_neg (by decide)] ; trivial) (fun z => z.elim) (fun _ => ?_)
          refine j_aload_n (pc := 627) C 7 dL_changes_627 rfl ?_
          refine j_iload (pc := 628) C 4 dL_changes_628 rfl ?_
          refine j_iload_n (pc := 630) C 6 dL_changes_630 rfl ?_
          refine j_iload (pc := 631) C 1 dL_changes_631 rfl ?_
          refine c2_L_266 (pc := 633) C ⟨(Nat.le_of_ble_eq_true rfl), (Nat.le_of_ble_eq_true rfl)⟩ ⟨hb, hs⟩ (Nat.le_of_ble_eq_true rfl) dL_changes_633 h (fun r117 M117 h => ?_)
          refine j_goto (pc := 636) C 648 dL_changes_636 (by decide) ?_
          refine j_iload (pc := 648) C 0 dL_changes_648 rfl ?_
          refine j_icmp_ne (pc := 650) C 657 dL_changes_650 (by decide) h (fun h => ?_) (fun h => ?_)
          · refine j_iconst (pc := 657) (v := (0 : Int32)) C dL_changes_657 rfl ?_
            exact j_zret (pc := 658) C dL_changes_658 hb hs h
          · refine j_iconst (pc := 653) (v := (1 : Int32)) C dL_changes_653 rfl ?_
            refine j_goto (pc := 654) C 658 dL_changes_654 (by decide) ?_
            exact j_zret (pc := 658) C dL_changes_658 hb hs h
        · refine j_iconst (pc := 607) (v := (1 : Int32)) C dL_changes_607 rfl ?_
          exact j_zret (pc := 608) C dL_changes_608 hb hs h
      · refine j_iconst (pc := 575) (v := (1 : Int32)) C dL_changes_575 rfl ?_
        refine j_aload_n (pc := 576) C 7 dL_changes_576 rfl ?_
        refine j_aload_n (pc := 577) C 6 dL_changes_577 rfl ?_
        refine gf_L_100 (pc := 578) C dL_changes_578 h (fun h => ?_)
        refine c2_L_39 (pc := 581) C ⟨(Nat.le_of_ble_eq_true rfl), (Nat.le_of_ble_eq_true rfl)⟩ ⟨hb, hs⟩ (Nat.le_of_ble_eq_true rfl) dL_changes_581 h (fun r119 M119 h => ?_)
        refine j_ishl (pc := 584) C dL_changes_584 ?_
        refine j_goto (pc := 585) C 589 dL_changes_585 (by decide) ?_
        refine j_ior (pc := 589) C dL_changes_589 ?_
        refine j_istore (pc := 590) C [(8, _), (7, _), (6, _), (5, _), (4, _), (3, _), (0, _), (1, _), (2, _)] dL_changes_590 (by decide) rfl ?_
        refine j_aload_n (pc := 592) C 7 dL_changes_592 rfl ?_
        refine j_iload (pc := 593) C 3 dL_changes_593 rfl ?_
        refine j_iload_n (pc := 595) C 5 dL_changes_595 rfl ?_
        refine j_iload (pc := 596) C 0 dL_changes_596 rfl ?_
        refine j_iload (pc := 598) C 2 dL_changes_598 rfl ?_
        refine j_iconst (pc := 600) (v := (-1 : Int32)) C dL_changes_600 rfl ?_
        obtain ⟨b120, s120, hb, hs, h⟩ := h
        refine c2_L_217 (pc := 601) C ⟨(Nat.le_of_ble_eq_true rfl), (Nat.le_of_ble_eq_true rfl)⟩ ⟨hb, hs⟩ (Nat.le_of_ble_eq_true rfl) dL_changes_601 h (fun r120 M120 h => ?_)
        refine j_if_le (pc := 604) C 609 dL_changes_604 (by decide) h (fun h => ?_) (fun h => ?_)
        · refine j_aload_n (pc := 609) C 7 dL_changes_609 rfl ?_
          refine j_iload (pc := 610) C 3 dL_changes_610 rfl ?_
          refine j_iload_n (pc := 612) C 5 dL_changes_612 rfl ?_
          refine j_iload (pc := 613) C 0 dL_changes_613 rfl ?_
          refine j_iload (pc := 615) C 2 dL_changes_615 rfl ?_
          obtain ⟨b121, s121, hb, hs, h⟩ := h
          refine c2_L_228 (pc := 617) C ⟨(Nat.le_of_ble_eq_true rfl), (Nat.le_of_ble_eq_true rfl)⟩ ⟨hb, hs⟩ (Nat.le_of_ble_eq_true rfl) dL_changes_617 h (fun r121 M121 h => ?_)
          refine j_istore (pc := 620) C [(9, _), (8, _), (7, _), (6, _), (5, _), (4, _), (3, _), (0, _), (1, _), (2, _)] dL_changes_620 (by decide) rfl ?_
          refine j_iload (pc := 622) C 3 dL_changes_622 rfl ?_
          refine j_if_eq (pc := 624) (A := False) (B := True) C 639 dL_changes_624 (by decide) (by first | rw [if_pos (by decide)] ; trivial | rw [if_neg (by decide)] ; trivial) (fun z => z.elim) (fun _ => ?_)
          refine j_aload_n (pc := 627) C 7 dL_changes_627 rfl ?_
          refine j_iload (pc := 628) C 4 dL_changes_628 rfl ?_
          refine j_iload_n (pc := 630) C 6 dL_changes_630 rfl ?_
          refine j_iload (pc := 631) C 1 dL_changes_631 rfl ?_
          refine c2_L_266 (pc := 633) C ⟨(Nat.le_of_ble_eq_true rfl), (Nat.le_of_ble_eq_true rfl)⟩ ⟨hb, hs⟩ (Nat.le_of_ble_eq_true rfl) dL_changes_633 h (fun r122 M122 h => ?_)
          refine j_goto (pc := 636) C 648 dL_changes_636 (by decide) ?_
          refine j_iload (pc := 648) C 0 dL_changes_648 rfl ?_
          refine j_icmp_ne (pc := 650) C 657 dL_changes_650 (by decide) h (fun h => ?_) (fun h => ?_)
          · refine j_iconst (pc := 657) (v := (0 : Int32)) C dL_changes_657 rfl ?_
            exact j_zret (pc := 658) C dL_changes_658 hb hs h
          · refine j_iconst (pc := 653) (v := (1 : Int32)) C dL_changes_653 rfl ?_
            refine j_goto (pc := 654) C 658 dL_changes_654 (by decide) ?_
            exact j_zret (pc := 658) C dL_changes_658 hb hs h
        · refine j_iconst (pc := 607) (v := (1 : Int32)) C dL_changes_607 rfl ?_
          exact j_zret (pc := 608) C dL_changes_608 hb hs h
  · refine j_iconst (pc := 18) (v := (0 : Int32)) C dL_changes_18 rfl ?_
    refine j_goto (pc := 19) C 30 dL_changes_19 (by decide) ?_
    refine j_istore (pc := 30) C [(4, _), (3, _), (0, _), (1, _), (2, _)] dL_changes_30 (by decide) rfl ?_
    refine j_aload_n (pc := 32) C 4 dL_changes_32 rfl ?_
    refine j_bipush (pc := 33) (v := (9 : Int32)) C dL_changes_33 rfl ?_
    refine c2_L_39 (pc := 35) C ⟨(Nat.le_of_ble_eq_true rfl), (Nat.le_of_ble_eq_true rfl)⟩ ⟨hb, hs⟩ (Nat.le_of_ble_eq_true rfl) dL_changes_35 h (fun r123 M123 h => ?_)
    by_cases q38_0 : r123 = (0 : Int32)
    · rw [if_pos q38_0] at h
      refine j_tsI (pc := 38) (off := 30) C 68 dL_changes_38 q38_0 (by decide) (by decide) (by decide) (by decide) ?_
      refine j_aload_n (pc := 68) C 4 dL_changes_68 rfl ?_
      refine j_aload_n (pc := 69) C 3 dL_changes_69 rfl ?_
      refine gf_L_73 (pc := 70) C dL_changes_70 h (fun h => ?_)
      refine c2_L_39 (pc := 73) C ⟨(Nat.le_of_ble_eq_true rfl), (Nat.le_of_ble_eq_true rfl)⟩ ⟨hb, hs⟩ (Nat.le_of_ble_eq_true rfl) dL_changes_73 h (fun r125 M125 h => ?_)
      refine j_istore (pc := 76) C [(5, _), (4, _), (3, _), (0, _), (1, _), (2, _)] dL_changes_76 (by decide) rfl ?_
      refine j_aload_n (pc := 78) C 4 dL_changes_78 rfl ?_
      refine gf_L_76 (pc := 79) C dL_changes_79 h (fun a126 h => ?_)
      refine j_iload (pc := 82) C 0 dL_changes_82 rfl ?_
      refine j_iald (pc := 84) C dL_changes_84 h (fun h => ?_)
      refine j_istore (pc := 85) C [(6, _), (5, _), (4, _), (3, _), (0, _), (1, _), (2, _)] dL_changes_85 (by decide) rfl ?_
      refine j_aload_n (pc := 87) C 5 dL_changes_87 rfl ?_
      refine gf_L_76 (pc := 88) C dL_changes_88 h (fun a127 h => ?_)
      refine j_iload (pc := 91) C 1 dL_changes_91 rfl ?_
      refine j_aload_n (pc := 93) C 6 dL_changes_93 rfl ?_
      refine j_bipush (pc := 94) (v := (8 : Int32)) C dL_changes_94 rfl ?_
      refine c2_L_39 (pc := 96) C ⟨(Nat.le_of_ble_eq_true rfl), (Nat.le_of_ble_eq_true rfl)⟩ ⟨hb, hs⟩ (Nat.le_of_ble_eq_true rfl) dL_changes_96 h (fun r128 M128 h => ?_)
      refine n_iast (pc := 99) C dL_changes_99 h (fun M129 h => ?_)
      refine j_aload_n (pc := 100) C 4 dL_changes_100 rfl ?_
      refine j_iload (pc := 101) C 1 dL_changes_101 rfl ?_
      refine j_aload_n (pc := 103) C 5 dL_changes_103 rfl ?_
      refine gf_L_76 (pc := 104) C dL_changes_104 h (fun a130 h => ?_)
      refine j_iload (pc := 107) C 1 dL_changes_107 rfl ?_
      refine j_iald (pc := 109) C dL_changes_109 h (fun h => ?_)
      refine c2_L_244 (pc := 110) C ⟨(Nat.le_of_ble_eq_true rfl), (Nat.le_of_ble_eq_true rfl)⟩ ⟨hb, hs⟩ (Nat.le_of_ble_eq_true rfl) dL_changes_110 h (fun r131 M131 h => ?_)
      refine j_iload (pc := 113) C 0 dL_changes_113 rfl ?_
      refine j_icmp_ne (pc := 115) C 122 dL_changes_115 (by decide) h (fun h => ?_) (fun h => ?_)
      · refine j_iconst (pc := 122) (v := (0 : Int32)) C dL_changes_122 rfl ?_
        exact j_zret (pc := 123) C dL_changes_123 hb hs h
      · refine j_iconst (pc := 118) (v := (1 : Int32)) C dL_changes_118 rfl ?_
        refine j_goto (pc := 119) C 123 dL_changes_119 (by decide) ?_
        exact j_zret (pc := 123) C dL_changes_123 hb hs h
    rw [if_neg q38_0] at h
    by_cases q38_1 : r123 = (1 : Int32)
    · rw [if_pos q38_1] at h
      refine j_tsI (pc := 38) (off := 86) C 124 dL_changes_38 q38_1 (by decide) (by decide) (by decide) (by decide) ?_
      refine j_aload_n (pc := 124) C 3 dL_changes_124 rfl ?_
      refine gf_L_155 (pc := 125) C dL_changes_125 h (fun h => ?_)
      refine j_if_ne (pc := 128) C 133 dL_changes_128 (by decide) h (fun h => ?_) (fun h => ?_)
      · refine j_aload_n (pc := 133) C 3 dL_changes_133 rfl ?_
        refine gf_L_173 (pc := 134) C dL_changes_134 h (fun a133 h => ?_)
        refine j_iload (pc := 137) C 0 dL_changes_137 rfl ?_
        refine j_aals (pc := 139) C (by decide) dL_changes_139 h (fun a134 h => ?_)
        refine j_astore (pc := 140) C [(5, _), (4, _), (3, _), (0, _), (1, _), (2, _)] dL_changes_140 (by decide) rfl ?_
        refine j_aload_n (pc := 142) C 4 dL_changes_142 rfl ?_
        refine gf_L_158 (pc := 143) C dL_changes_143 h (fun a135 h => ?_)
        refine j_iload (pc := 146) C 1 dL_changes_146 rfl ?_
        refine j_aals (pc := 148) C (by decide) dL_changes_148 h (fun a136 h => ?_)
        refine j_astore (pc := 149) C [(6, _), (5, _), (4, _), (3, _), (0, _), (1, _), (2, _)] dL_changes_149 (by decide) rfl ?_
        refine j_aload_n (pc := 151) C 5 dL_changes_151 rfl ?_
        refine j_iload (pc := 152) C 2 dL_changes_152 rfl ?_
        refine c2_L_231 (pc := 154) C ⟨(Nat.le_of_ble_eq_true rfl), (Nat.le_of_ble_eq_true rfl)⟩ ⟨hb, hs⟩ (Nat.le_of_ble_eq_true rfl) dL_changes_154 h (fun M137 h => ?_)
        refine j_aload_n (pc := 157) C 5 dL_changes_157 rfl ?_
        refine c2_L_247 (pc := 158) C ⟨(Nat.le_of_ble_eq_true rfl), (Nat.le_of_ble_eq_true rfl)⟩ ⟨hb, hs⟩ (Nat.le_of_ble_eq_true rfl) dL_changes_158 h (fun r138 M138 h => ?_)
        refine j_if_eq (pc := 161) C 183 dL_changes_161 (by decide) h (fun h => ?_) (fun h => ?_)
        · refine j_aload_n (pc := 183) C 5 dL_changes_183 rfl ?_
          refine j_aload (pc := 184) C 1 dL_changes_184 rfl ?_
          refine j_aload (pc := 186) C 0 dL_changes_186 rfl ?_
          refine c2_L_253 (pc := 188) C ⟨(Nat.le_of_ble_eq_true rfl), (Nat.le_of_ble_eq_true rfl)⟩ ⟨hb, hs⟩ (Nat.le_of_ble_eq_true rfl) dL_changes_188 h (fun r139 M139 h => ?_)
          refine j_istore (pc := 191) C [(7, _), (6, _), (5, _), (4, _), (3, _), (0, _), (1, _), (2, _)] dL_changes_191 (by decide) rfl ?_
          refine j_iload (pc := 193) C 0 dL_changes_193 rfl ?_
          refine j_iload (pc := 195) C 3 dL_changes_195 rfl ?_
          refine j_icmp_ne (pc := 197) C 216 dL_changes_197 (by decide) h (fun h => ?_) (fun h => ?_)
          · refine j_iconst (pc := 216) (v := (0 : Int32)) C dL_changes_216 rfl ?_
            exact j_zret (pc := 217) C dL_changes_217 hb hs h
          · refine j_aload_n (pc := 200) C 5 dL_changes_200 rfl ?_
            refine j_iconst (pc := 201) (v := (5 : Int32)) C dL_changes_201 rfl ?_
            refine c2_L_152 (pc := 202) C ⟨(Nat.le_of_ble_eq_true rfl), (Nat.le_of_ble_eq_true rfl)⟩ ⟨hb, hs⟩ (Nat.le_of_ble_eq_true rfl) dL_changes_202 h (fun r140 M140 h => ?_)
            refine j_aload_n (pc := 205) C 6 dL_changes_205 rfl ?_
            refine gf_L_155 (pc := 206) C dL_changes_206 h (fun h => ?_)
            refine j_icmp_ne (pc := 209) C 216 dL_changes_209 (by decide) h (fun h => ?_) (fun h => ?_)
            · refine j_iconst (pc := 216) (v := (0 : Int32)) C dL_changes_216 rfl ?_
              exact j_zret (pc := 217) C dL_changes_217 hb hs h
            · refine j_iconst (pc := 212) (v := (1 : Int32)) C dL_changes_212 rfl ?_
              refine j_goto (pc := 213) C 217 dL_changes_213 (by decide) ?_
              exact j_zret (pc := 217) C dL_changes_217 hb hs h
        · refine j_aload_n (pc := 164) C 4 dL_changes_164 rfl ?_
          refine j_iload (pc := 165) C 2 dL_changes_165 rfl ?_
          refine c2_L_250 (pc := 167) C ⟨(Nat.le_of_ble_eq_true rfl), (Nat.le_of_ble_eq_true rfl)⟩ ⟨hb, hs⟩ (Nat.le_of_ble_eq_true rfl) dL_changes_167 h (fun r142 M142 h => ?_)
          refine j_aload_n (pc := 170) C 5 dL_changes_170 rfl ?_
          refine gf_L_155 (pc := 171) C dL_changes_171 h (fun h => ?_)
          refine j_icmp_ne (pc := 174) C 181 dL_changes_174 (by decide) h (fun h => ?_) (fun h => ?_)
          · refine j_iconst (pc := 181) (v := (0 : Int32)) C dL_changes_181 rfl ?_
            exact j_zret (pc := 182) C dL_changes_182 hb hs h
          · refine j_iconst (pc := 177) (v := (1 : Int32)) C dL_changes_177 rfl ?_
            refine j_goto (pc := 178) C 182 dL_changes_178 (by decide) ?_
            exact j_zret (pc := 182) C dL_changes_182 hb hs h
      · refine j_iconst (pc := 131) (v := (1 : Int32)) C dL_changes_131 rfl ?_
        exact j_zret (pc := 132) C dL_changes_132 hb hs h
    rw [if_neg q38_1] at h
    by_cases q38_2 : r123 = (2 : Int32)
    · rw [if_pos q38_2] at h
      refine j_tsI (pc := 38) (off := 180) C 218 dL_changes_38 q38_2 (by decide) (by decide) (by decide) (by decide) ?_
      refine j_aload_n (pc := 218) C 3 dL_changes_218 rfl ?_
      refine gf_L_155 (pc := 219) C dL_changes_219 h (fun h => ?_)
      refine j_if_ne (pc := 222) C 227 dL_changes_222 (by decide) h (fun h => ?_) (fun h => ?_)
      · refine j_aload_n (pc := 227) C 3 dL_changes_227 rfl ?_
        refine gf_L_173 (pc := 228) C dL_changes_228 h (fun a145 h => ?_)
        refine j_iload (pc := 231) C 0 dL_changes_231 rfl ?_
        refine j_aals (pc := 233) C (by decide) dL_changes_233 h (fun a146 h => ?_)
        refine j_astore (pc := 234) C [(5, _), (4, _), (3, _), (0, _), (1, _), (2, _)] dL_changes_234 (by decide) rfl ?_
        refine j_aload_n (pc := 236) C 4 dL_changes_236 rfl ?_
        refine gf_L_158 (pc := 237) C dL_changes_237 h (fun a147 h => ?_)
        refine j_iload (pc := 240) C 1 dL_changes_240 rfl ?_
        refine j_aals (pc := 242) C (by decide) dL_changes_242 h (fun a148 h => ?_)
        refine j_astore (pc := 243) C [(6, _), (5, _), (4, _), (3, _), (0, _), (1, _), (2, _)] dL_changes_243 (by decide) rfl ?_
        refine j_aload_n (pc := 245) C 5 dL_changes_245 rfl ?_
        refine j_aload (pc := 246) C 1 dL_changes_246 rfl ?_
        refine j_iconst (pc := 248) (v := (1 : Int32)) C dL_changes_248 rfl ?_
        refine j_iald (pc := 249) C dL_changes_249 h (fun h => ?_)
        refine j_iload_n (pc := 250) C 3 dL_changes_250 rfl ?_
        refine j_aload (pc := 251) C 1 dL_changes_251 rfl ?_
        refine j_iconst (pc := 253) (v := (3 : Int32)) C dL_changes_253 rfl ?_
        refine j_iald (pc := 254) C dL_changes_254 h (fun h => ?_)
        refine j_aload (pc := 255) C 1 dL_changes_255 rfl ?_
        refine j_iconst (pc := 257) (v := (2 : Int32)) C dL_changes_257 rfl ?_
        refine j_iald (pc := 258) C dL_changes_258 h (fun h => ?_)
        refine j_iconst (pc := 259) (v := (1 : Int32)) C dL_changes_259 rfl ?_
        refine j_icmp_ne (pc := 260) C 267 dL_changes_260 (by decide) h (fun h => ?_) (fun h => ?_)
        · refine j_iconst (pc := 267) (v := (0 : Int32)) C dL_changes_267 rfl ?_
          refine j_iload (pc := 268) C 2 dL_changes_268 rfl ?_
          obtain ⟨b149, s149, hb, hs, h⟩ := h
          refine c2_L_217 (pc := 270) C ⟨(Nat.le_of_ble_eq_true rfl), (Nat.le_of_ble_eq_true rfl)⟩ ⟨hb, hs⟩ (Nat.le_of_ble_eq_true rfl) dL_changes_270 h (fun r149 M149 h => ?_)
          refine j_istore (pc := 273) C [(7, _), (6, _), (5, _), (4, _), (3, _), (0, _), (1, _), (2, _)] dL_changes_273 (by decide) rfl ?_
          refine j_aload_n (pc := 275) C 6 dL_changes_275 rfl ?_
          refine j_iload (pc := 276) C 3 dL_changes_276 rfl ?_
          refine c2_L_231 (pc := 278) C ⟨(Nat.le_of_ble_eq_true rfl), (Nat.le_of_ble_eq_true rfl)⟩ ⟨hb, hs⟩ (Nat.le_of_ble_eq_true rfl) dL_changes_278 h (fun M150 h => ?_)
          refine j_iconst (pc := 281) (v := (-1 : Int32)) C dL_changes_281 rfl ?_
          refine j_istore (pc := 282) C [(8, _), (7, _), (6, _), (5, _), (4, _), (3, _), (0, _), (1, _), (2, _)] dL_changes_282 (by decide) rfl ?_
          refine j_iload (pc := 284) C 1 dL_changes_284 rfl ?_
          refine j_if_ne (pc := 286) C 334 dL_changes_286 (by decide) h (fun h => ?_) (fun h => ?_)
          · refine j_iload (pc := 334) C 1 dL_changes_334 rfl ?_
            refine j_if_le (pc := 336) C 354 dL_changes_336 (by decide) h (fun h => ?_) (fun h => ?_)
            · refine j_aload_n (pc := 354) C 6 dL_changes_354 rfl ?_
              refine j_iload (pc := 355) C 4 dL_changes_355 rfl ?_
              refine j_iload_n (pc := 357) C 5 dL_changes_357 rfl ?_
              refine c2_L_257 (pc := 358) C ⟨(Nat.le_of_ble_eq_true rfl), (Nat.le_of_ble_eq_true rfl)⟩ ⟨hb, hs⟩ (Nat.le_of_ble_eq_true rfl) dL_changes_358 h (fun r151 M151 h => ?_)
              refine j_iload (pc := 361) C 1 dL_changes_361 rfl ?_
              refine j_icmp_ne (pc := 363) C 387 dL_changes_363 (by decide) h (fun h => ?_) (fun h => ?_)
              · refine j_iconst (pc := 387) (v := (0 : Int32)) C dL_changes_387 rfl ?_
                exact j_zret (pc := 388) C dL_changes_388 hb hs h
              · refine j_iload (pc := 366) C 1 dL_changes_366 rfl ?_
                refine j_if_gt (pc := 368) C 383 dL_changes_368 (by decide) h (fun h => ?_) (fun h => ?_)
                · refine j_iconst (pc := 383) (v := (1 : Int32)) C dL_changes_383 rfl ?_
                  refine j_goto (pc := 384) C 388 dL_changes_384 (by decide) ?_
                  exact j_zret (pc := 388) C dL_changes_388 hb hs h
                · refine j_aload_n (pc := 371) C 6 dL_changes_371 rfl ?_
                  refine j_iload (pc := 372) C 4 dL_changes_372 rfl ?_
                  refine j_iload_n (pc := 374) C 5 dL_changes_374 rfl ?_
                  refine c2_L_260 (pc := 375) C ⟨(Nat.le_of_ble_eq_true rfl), (Nat.le_of_ble_eq_true rfl)⟩ ⟨hb, hs⟩ (Nat.le_of_ble_eq_true rfl) dL_changes_375 h (fun r152 M152 h => ?_)
                  refine j_iload (pc := 378) C 0 dL_changes_378 rfl ?_
                  refine j_icmp_ne (pc := 380) C 387 dL_changes_380 (by decide) h (fun h => ?_) (fun h => ?_)
                  · refine j_iconst (pc := 387) (v := (0 : Int32)) C dL_changes_387 rfl ?_
                    exact j_zret (pc := 388) C dL_changes_388 hb hs h
                  · refine j_iconst (pc := 383) (v := (1 : Int32)) C dL_changes_383 rfl ?_
                    refine j_goto (pc := 384) C 388 dL_changes_384 (by decide) ?_
                    exact j_zret (pc := 388) C dL_changes_388 hb hs h
            · refine j_aload_n (pc := 339) C 7 dL_changes_339 rfl ?_
              refine j_aload (pc := 340) C 3 dL_changes_340 rfl ?_
              refine j_aload (pc := 342) C 2 dL_changes_342 rfl ?_
              refine c2_L_253 (pc := 344) C ⟨(Nat.le_of_ble_eq_true rfl), (Nat.le_of_ble_eq_true rfl)⟩ ⟨hb, hs⟩ (Nat.le_of_ble_eq_true rfl) dL_changes_344 h (fun r153 M153 h => ?_)
              refine j_iload (pc := 347) C 4 dL_changes_347 rfl ?_
              refine j_icmp_eq (pc := 349) C 354 dL_changes_349 (by decide) h (fun h => ?_) (fun h => ?_)
              · refine j_aload_n (pc := 354) C 6 dL_changes_354 rfl ?_
                refine j_iload (pc := 355) C 4 dL_changes_355 rfl ?_
                refine j_iload_n (pc := 357) C 5 dL_changes_357 rfl ?_
                refine c2_L_257 (pc := 358) C ⟨(Nat.le_of_ble_eq_true rfl), (Nat.le_of_ble_eq_true rfl)⟩ ⟨hb, hs⟩ (Nat.le_of_ble_eq_true rfl) dL_changes_358 h (fun r154 M154 h => ?_)
                refine j_iload (pc := 361) C 1 dL_changes_361 rfl ?_
                refine j_icmp_ne (pc := 363) C 387 dL_changes_363 (by decide) h (fun h => ?_) (fun h => ?_)
                · refine j_iconst (pc := 387) (v := (0 : Int32)) C dL_changes_387 rfl ?_
                  exact j_zret (pc := 388) C dL_changes_388 hb hs h
                · refine j_iload (pc := 366) C 1 dL_changes_366 rfl ?_
                  refine j_if_gt (pc := 368) C 383 dL_changes_368 (by decide) h (fun h => ?_) (fun h => ?_)
                  · refine j_iconst (pc := 383) (v := (1 : Int32)) C dL_changes_383 rfl ?_
                    refine j_goto (pc := 384) C 388 dL_changes_384 (by decide) ?_
                    exact j_zret (pc := 388) C dL_changes_388 hb hs h
                  · refine j_aload_n (pc := 371) C 6 dL_changes_371 rfl ?_
                    refine j_iload (pc := 372) C 4 dL_changes_372 rfl ?_
                    refine j_iload_n (pc := 374) C 5 dL_changes_374 rfl ?_
                    refine c2_L_260 (pc := 375) C ⟨(Nat.le_of_ble_eq_true rfl), (Nat.le_of_ble_eq_true rfl)⟩ ⟨hb, hs⟩ (Nat.le_of_ble_eq_true rfl) dL_changes_375 h (fun r155 M155 h => ?_)
                    refine j_iload (pc := 378) C 0 dL_changes_378 rfl ?_
                    refine j_icmp_ne (pc := 380) C 387 dL_changes_380 (by decide) h (fun h => ?_) (fun h => ?_)
                    · refine j_iconst (pc := 387) (v := (0 : Int32)) C dL_changes_387 rfl ?_
                      exact j_zret (pc := 388) C dL_changes_388 hb hs h
                    · refine j_iconst (pc := 383) (v := (1 : Int32)) C dL_changes_383 rfl ?_
                      refine j_goto (pc := 384) C 388 dL_changes_384 (by decide) ?_
                      exact j_zret (pc := 388) C dL_changes_388 hb hs h
              · refine j_iconst (pc := 352) (v := (0 : Int32)) C dL_changes_352 rfl ?_
                exact j_zret (pc := 353) C dL_changes_353 hb hs h
          · refine j_aload_n (pc := 289) C 7 dL_changes_289 rfl ?_
            refine j_aload (pc := 290) C 3 dL_changes_290 rfl ?_
            refine j_iconst (pc := 292) (v := (1 : Int32)) C dL_changes_292 rfl ?_
            refine j_iald (pc := 293) C dL_changes_293 h (fun h => ?_)
            refine j_iload_n (pc := 294) C 5 dL_changes_294 rfl ?_
            refine j_aload (pc := 295) C 3 dL_changes_295 rfl ?_
            refine j_iconst (pc := 297) (v := (3 : Int32)) C dL_changes_297 rfl ?_
            refine j_iald (pc := 298) C dL_changes_298 h (fun h => ?_)
            refine j_aload (pc := 299) C 3 dL_changes_299 rfl ?_
            refine j_iconst (pc := 301) (v := (2 : Int32)) C dL_changes_301 rfl ?_
            refine j_iald (pc := 302) C dL_changes_302 h (fun h => ?_)
            refine j_iconst (pc := 303) (v := (1 : Int32)) C dL_changes_303 rfl ?_
            refine j_icmp_ne (pc := 304) C 311 dL_changes_304 (by decide) h (fun h => ?_) (fun h => ?_)
            · refine j_iconst (pc := 311) (v := (0 : Int32)) C dL_changes_311 rfl ?_
              obtain ⟨b156, s156, hb, hs, h⟩ := h
              refine c2_L_228 (pc := 312) C ⟨(Nat.le_of_ble_eq_true rfl), (Nat.le_of_ble_eq_true rfl)⟩ ⟨hb, hs⟩ (Nat.le_of_ble_eq_true rfl) dL_changes_312 h (fun r156 M156 h => ?_)
              refine j_istore (pc := 315) C [(8, _), (7, _), (6, _), (5, _), (4, _), (3, _), (0, _), (1, _), (2, _)] dL_changes_315 (by decide) rfl ?_
              refine j_aload_n (pc := 317) C 7 dL_changes_317 rfl ?_
              refine c2_L_247 (pc := 318) C ⟨(Nat.le_of_ble_eq_true rfl), (Nat.le_of_ble_eq_true rfl)⟩ ⟨hb, hs⟩ (Nat.le_of_ble_eq_true rfl) dL_changes_318 h (fun r157 M157 h => ?_)
              refine j_if_ne (pc := 321) C 334 dL_changes_321 (by decide) h (fun h => ?_) (fun h => ?_)
              · refine j_iload (pc := 334) C 1 dL_changes_334 rfl ?_
                refine j_if_le (pc := 336) C 354 dL_changes_336 (by decide) h (fun h => ?_) (fun h => ?_)
                · refine j_aload_n (pc := 354) C 6 dL_changes_354 rfl ?_
                  refine j_iload (pc := 355) C 4 dL_changes_355 rfl ?_
                  refine j_iload_n (pc := 357) C 5 dL_changes_357 rfl ?_
                  refine c2_L_257 (pc := 358) C ⟨(Nat.le_of_ble_eq_true rfl), (Nat.le_of_ble_eq_true rfl)⟩ ⟨hb, hs⟩ (Nat.le_of_ble_eq_true rfl) dL_changes_358 h (fun r158 M158 h => ?_)
                  refine j_iload (pc := 361) C 1 dL_changes_361 rfl ?_
                  refine j_icmp_ne (pc := 363) C 387 dL_changes_363 (by decide) h (fun h => ?_) (fun h => ?_)
                  · refine j_iconst (pc := 387) (v := (0 : Int32)) C dL_changes_387 rfl ?_
                    exact j_zret (pc := 388) C dL_changes_388 hb hs h
                  · refine j_iload (pc := 366) C 1 dL_changes_366 rfl ?_
                    refine j_if_gt (pc := 368) C 383 dL_changes_368 (by decide) h (fun h => ?_) (fun h => ?_)
                    · refine j_iconst (pc := 383) (v := (1 : Int32)) C dL_changes_383 rfl ?_
                      refine j_goto (pc := 384) C 388 dL_changes_384 (by decide) ?_
                      exact j_zret (pc := 388) C dL_changes_388 hb hs h
                    · refine j_aload_n (pc := 371) C 6 dL_changes_371 rfl ?_
                      refine j_iload (pc := 372) C 4 dL_changes_372 rfl ?_
                      refine j_iload_n (pc := 374) C 5 dL_changes_374 rfl ?_
                      refine c2_L_260 (pc := 375) C ⟨(Nat.le_of_ble_eq_true rfl), (Nat.le_of_ble_eq_true rfl)⟩ ⟨hb, hs⟩ (Nat.le_of_ble_eq_true rfl) dL_changes_375 h (fun r159 M159 h => ?_)
                      refine j_iload (pc := 378) C 0 dL_changes_378 rfl ?_
                      refine j_icmp_ne (pc := 380) C 387 dL_changes_380 (by decide) h (fun h => ?_) (fun h => ?_)
                      · refine j_iconst (pc := 387) (v := (0 : Int32)) C dL_changes_387 rfl ?_
                        exact j_zret (pc := 388) C dL_changes_388 hb hs h
                      · refine j_iconst (pc := 383) (v := (1 : Int32)) C dL_changes_383 rfl ?_
                        refine j_goto (pc := 384) C 388 dL_changes_384 (by decide) ?_
                        exact j_zret (pc := 388) C dL_changes_388 hb hs h
                · refine j_aload_n (pc := 339) C 7 dL_changes_339 rfl ?_
                  refine j_aload (pc := 340) C 3 dL_changes_340 rfl ?_
                  refine j_aload (pc := 342) C 2 dL_changes_342 rfl ?_
                  refine c2_L_253 (pc := 344) C ⟨(Nat.le_of_ble_eq_true rfl), (Nat.le_of_ble_eq_true rfl)⟩ ⟨hb, hs⟩ (Nat.le_of_ble_eq_true rfl) dL_changes_344 h (fun r160 M160 h => ?_)
                  refine j_iload (pc := 347) C 4 dL_changes_347 rfl ?_
                  refine j_icmp_eq (pc := 349) C 354 dL_changes_349 (by decide) h (fun h => ?_) (fun h => ?_)
                  · refine j_aload_n (pc := 354) C 6 dL_changes_354 rfl ?_
                    refine j_iload (pc := 355) C 4 dL_changes_355 rfl ?_
                    refine j_iload_n (pc := 357) C 5 dL_changes_357 rfl ?_
                    refine c2_L_257 (pc := 358) C ⟨(Nat.le_of_ble_eq_true rfl), (Nat.le_of_ble_eq_true rfl)⟩ ⟨hb, hs⟩ (Nat.le_of_ble_eq_true rfl) dL_changes_358 h (fun r161 M161 h => ?_)
                    refine j_iload (pc := 361) C 1 dL_changes_361 rfl ?_
                    refine j_icmp_ne (pc := 363) C 387 dL_changes_363 (by decide) h (fun h => ?_) (fun h => ?_)
                    · refine j_iconst (pc := 387) (v := (0 : Int32)) C dL_changes_387 rfl ?_
                      exact j_zret (pc := 388) C dL_changes_388 hb hs h
                    · refine j_iload (pc := 366) C 1 dL_changes_366 rfl ?_
                      refine j_if_gt (pc := 368) C 383 dL_changes_368 (by decide) h (fun h => ?_) (fun h => ?_)
                      · refine j_iconst (pc := 383) (v := (1 : Int32)) C dL_changes_383 rfl ?_
                        refine j_goto (pc := 384) C 388 dL_changes_384 (by decide) ?_
                        exact j_zret (pc := 388) C dL_changes_388 hb hs h
                      · refine j_aload_n (pc := 371) C 6 dL_changes_371 rfl ?_
                        refine j_iload (pc := 372) C 4 dL_changes_372 rfl ?_
                        refine j_iload_n (pc := 374) C 5 dL_changes_374 rfl ?_
                        refine c2_L_260 (pc := 375) C ⟨(Nat.le_of_ble_eq_true rfl), (Nat.le_of_ble_eq_true rfl)⟩ ⟨hb, hs⟩ (Nat.le_of_ble_eq_true rfl) dL_changes_375 h (fun r162 M162 h => ?_)
                        refine j_iload (pc := 378) C 0 dL_changes_378 rfl ?_
                        refine j_icmp_ne (pc := 380) C 387 dL_changes_380 (by decide) h (fun h => ?_) (fun h => ?_)
                        · refine j_iconst (pc := 387) (v := (0 : Int32)) C dL_changes_387 rfl ?_
                          exact j_zret (pc := 388) C dL_changes_388 hb hs h
                        · refine j_iconst (pc := 383) (v := (1 : Int32)) C dL_changes_383 rfl ?_
                          refine j_goto (pc := 384) C 388 dL_changes_384 (by decide) ?_
                          exact j_zret (pc := 388) C dL_changes_388 hb hs h
                  · refine j_iconst (pc := 352) (v := (0 : Int32)) C dL_changes_352 rfl ?_
                    exact j_zret (pc := 353) C dL_changes_353 hb hs h
              · refine j_bipush (pc := 324) (v := (6 : Int32)) C dL_changes_324 rfl ?_
                refine j_istore (pc := 326) C [(7, _), (8, _), (6, _), (5, _), (4, _), (3, _), (0, _), (1, _), (2, _)] dL_changes_326 (by decide) rfl ?_
                refine j_aload_n (pc := 328) C 7 dL_changes_328 rfl ?_
                refine j_iload (pc := 329) C 1 dL_changes_329 rfl ?_
                refine c2_L_231 (pc := 331) C ⟨(Nat.le_of_ble_eq_true rfl), (Nat.le_of_ble_eq_true rfl)⟩ ⟨hb, hs⟩ (Nat.le_of_ble_eq_true rfl) dL_changes_331 h (fun M163 h => ?_)
                refine j_iload (pc := 334) C 0 dL_changes_334 rfl ?_
                refine j_if_le (pc := 336) (A := False) (B := True) C 354 dL_changes_336 (by decide) (by first | rw [if_pos (by decide)] ; trivial | rw [if_neg (by decide)] ; trivial) (fun z => z.elim) (fun _ => ?_)
                refine j_aload_n (pc := 339) C 7 dL_changes_339 rfl ?_
                refine j_aload (pc := 340) C 3 dL_changes_340 rfl ?_
                refine j_aload (pc := 342) C 2 dL_changes_342 rfl ?_
                refine c2_L_253 (pc := 344) C ⟨(Nat.le_of_ble_eq_true rfl), (Nat.le_of_ble_eq_true rfl)⟩ ⟨hb, hs⟩ (Nat.le_of_ble_eq_true rfl) dL_changes_344 h (fun r164 M164 h => ?_)
                refine j_iload (pc := 347) C 4 dL_changes_347 rfl ?_
                refine j_icmp_eq (pc := 349) C 354 dL_changes_349 (by decide) h (fun h => ?_) (fun h => ?_)
                · refine j_aload_n (pc := 354) C 6 dL_changes_354 rfl ?_
                  refine j_iload (pc := 355) C 4 dL_changes_355 rfl ?_
                  refine j_iload_n (pc := 357) C 5 dL_changes_357 rfl ?_
                  refine c2_L_257 (pc := 358) C ⟨(Nat.le_of_ble_eq_true rfl), (Nat.le_of_ble_eq_true rfl)⟩ ⟨hb, hs⟩ (Nat.le_of_ble_eq_true rfl) dL_changes_358 h (fun r165 M165 h => ?_)
                  refine j_iload (pc := 361) C 0 dL_changes_361 rfl ?_
                  refine j_icmp_ne (pc := 363) C 387 dL_changes_363 (by decide) h (fun h => ?_) (fun h => ?_)
                  · refine j_iconst (pc := 387) (v := (0 : Int32)) C dL_changes_387 rfl ?_
                    exact j_zret (pc := 388) C dL_changes_388 hb hs h
                  · refine j_iload (pc := 366) C 0 dL_changes_366 rfl ?_
                    refine j_if_gt (pc := 368) (A := True) (B := False) C 383 dL_changes_368 (by decide) (by first | rw [if_pos (by decide)] ; trivial | rw [if_neg (by decide)] ; trivial) (fun _ => ?_) (fun z => z.elim)
                    refine j_iconst (pc := 383) (v := (1 : Int32)) C dL_changes_383 rfl ?_
                    refine j_goto (pc := 384) C 388 dL_changes_384 (by decide) ?_
                    exact j_zret (pc := 388) C dL_changes_388 hb hs h
                · refine j_iconst (pc := 352) (v := (0 : Int32)) C dL_changes_352 rfl ?_
                  exact j_zret (pc := 353) C dL_changes_353 hb hs h
            · refine j_iconst (pc := 307) (v := (1 : Int32)) C dL_changes_307 rfl ?_
              refine j_goto (pc := 308) C 312 dL_changes_308 (by decide) ?_
              obtain ⟨b166, s166, hb, hs, h⟩ := h
              refine c2_L_228 (pc := 312) C ⟨(Nat.le_of_ble_eq_true rfl), (Nat.le_of_ble_eq_true rfl)⟩ ⟨hb, hs⟩ (Nat.le_of_ble_eq_true rfl) dL_changes_312 h (fun r166 M166 h => ?_)
              refine j_istore (pc := 315) C [(8, _), (7, _), (6, _), (5, _), (4, _), (3, _), (0, _), (1, _), (2, _)] dL_changes_315 (by decide) rfl ?_
              refine j_aload_n (pc := 317) C 7 dL_changes_317 rfl ?_
              refine c2_L_247 (pc := 318) C ⟨(Nat.le_of_ble_eq_true rfl), (Nat.le_of_ble_eq_true rfl)⟩ ⟨hb, hs⟩ (Nat.le_of_ble_eq_true rfl) dL_changes_318 h (fun r167 M167 h => ?_)
              refine j_if_ne (pc := 321) C 334 dL_changes_321 (by decide) h (fun h => ?_) (fun h => ?_)
              · refine j_iload (pc := 334) C 1 dL_changes_334 rfl ?_
                refine j_if_le (pc := 336) C 354 dL_changes_336 (by decide) h (fun h => ?_) (fun h => ?_)
                · refine j_aload_n (pc := 354) C 6 dL_changes_354 rfl ?_
                  refine j_iload (pc := 355) C 4 dL_changes_355 rfl ?_
                  refine j_iload_n (pc := 357) C 5 dL_changes_357 rfl ?_
                  refine c2_L_257 (pc := 358) C ⟨(Nat.le_of_ble_eq_true rfl), (Nat.le_of_ble_eq_true rfl)⟩ ⟨hb, hs⟩ (Nat.le_of_ble_eq_true rfl) dL_changes_358 h (fun r168 M168 h => ?_)
                  refine j_iload (pc := 361) C 1 dL_changes_361 rfl ?_
                  refine j_icmp_ne (pc := 363) C 387 dL_changes_363 (by decide) h (fun h => ?_) (fun h => ?_)
                  · refine j_iconst (pc := 387) (v := (0 : Int32)) C dL_changes_387 rfl ?_
                    exact j_zret (pc := 388) C dL_changes_388 hb hs h
                  · refine j_iload (pc := 366) C 1 dL_changes_366 rfl ?_
                    refine j_if_gt (pc := 368) C 383 dL_changes_368 (by decide) h (fun h => ?_) (fun h => ?_)
                    · refine j_iconst (pc := 383) (v := (1 : Int32)) C dL_changes_383 rfl ?_
                      refine j_goto (pc := 384) C 388 dL_changes_384 (by decide) ?_
                      exact j_zret (pc := 388) C dL_changes_388 hb hs h
                    · refine j_aload_n (pc := 371) C 6 dL_changes_371 rfl ?_
                      refine j_iload (pc := 372) C 4 dL_changes_372 rfl ?_
                      refine j_iload_n (pc := 374) C 5 dL_changes_374 rfl ?_
                      refine c2_L_260 (pc := 375) C ⟨(Nat.le_of_ble_eq_true rfl), (Nat.le_of_ble_eq_true rfl)⟩ ⟨hb, hs⟩ (Nat.le_of_ble_eq_true rfl) dL_changes_375 h (fun r169 M169 h => ?_)
                      refine j_iload (pc := 378) C 0 dL_changes_378 rfl ?_
                      refine j_icmp_ne (pc := 380) C 387 dL_changes_380 (by decide) h (fun h => ?_) (fun h => ?_)
                      · refine j_iconst (pc := 387) (v := (0 : Int32)) C dL_changes_387 rfl ?_
                        exact j_zret (pc := 388) C dL_changes_388 hb hs h
                      · refine j_iconst (pc := 383) (v := (1 : Int32)) C dL_changes_383 rfl ?_
                        refine j_goto (pc := 384) C 388 dL_changes_384 (by decide) ?_
                        exact j_zret (pc := 388) C dL_changes_388 hb hs h
                · refine j_aload_n (pc := 339) C 7 dL_changes_339 rfl ?_
                  refine j_aload (pc := 340) C 3 dL_changes_340 rfl ?_
                  refine j_aload (pc := 342) C 2 dL_changes_342 rfl ?_
                  refine c2_L_253 (pc := 344) C ⟨(Nat.le_of_ble_eq_true rfl), (Nat.le_of_ble_eq_true rfl)⟩ ⟨hb, hs⟩ (Nat.le_of_ble_eq_true rfl) dL_changes_344 h (fun r170 M170 h => ?_)
                  refine j_iload (pc := 347) C 4 dL_changes_347 rfl ?_
                  refine j_icmp_eq (pc := 349) C 354 dL_changes_349 (by decide) h (fun h => ?_) (fun h => ?_)
                  · refine j_aload_n (pc := 354) C 6 dL_changes_354 rfl ?_
                    refine j_iload (pc := 355) C 4 dL_changes_355 rfl ?_
                    refine j_iload_n (pc := 357) C 5 dL_changes_357 rfl ?_
                    refine c2_L_257 (pc := 358) C ⟨(Nat.le_of_ble_eq_true rfl), (Nat.le_of_ble_eq_true rfl)⟩ ⟨hb, hs⟩ (Nat.le_of_ble_eq_true rfl) dL_changes_358 h (fun r171 M171 h => ?_)
                    refine j_iload (pc := 361) C 1 dL_changes_361 rfl ?_
                    refine j_icmp_ne (pc := 363) C 387 dL_changes_363 (by decide) h (fun h => ?_) (fun h => ?_)
                    · refine j_iconst (pc := 387) (v := (0 : Int32)) C dL_changes_387 rfl ?_
                      exact j_zret (pc := 388) C dL_changes_388 hb hs h
                    · refine j_iload (pc := 366) C 1 dL_changes_366 rfl ?_
                      refine j_if_gt (pc := 368) C 383 dL_changes_368 (by decide) h (fun h => ?_) (fun h => ?_)
                      · refine j_iconst (pc := 383) (v := (1 : Int32)) C dL_changes_383 rfl ?_
                        refine j_goto (pc := 384) C 388 dL_changes_384 (by decide) ?_
                        exact j_zret (pc := 388) C dL_changes_388 hb hs h
                      · refine j_aload_n (pc := 371) C 6 dL_changes_371 rfl ?_
                        refine j_iload (pc := 372) C 4 dL_changes_372 rfl ?_
                        refine j_iload_n (pc := 374) C 5 dL_changes_374 rfl ?_
                        refine c2_L_260 (pc := 375) C ⟨(Nat.le_of_ble_eq_true rfl), (Nat.le_of_ble_eq_true rfl)⟩ ⟨hb, hs⟩ (Nat.le_of_ble_eq_true rfl) dL_changes_375 h (fun r172 M172 h => ?_)
                        refine j_iload (pc := 378) C 0 dL_changes_378 rfl ?_
                        refine j_icmp_ne (pc := 380) C 387 dL_changes_380 (by decide) h (fun h => ?_) (fun h => ?_)
                        · refine j_iconst (pc := 387) (v := (0 : Int32)) C dL_changes_387 rfl ?_
                          exact j_zret (pc := 388) C dL_changes_388 hb hs h
                        · refine j_iconst (pc := 383) (v := (1 : Int32)) C dL_changes_383 rfl ?_
                          refine j_goto (pc := 384) C 388 dL_changes_384 (by decide) ?_
                          exact j_zret (pc := 388) C dL_changes_388 hb hs h
                  · refine j_iconst (pc := 352) (v := (0 : Int32)) C dL_changes_352 rfl ?_
                    exact j_zret (pc := 353) C dL_changes_353 hb hs h
              · refine j_bipush (pc := 324) (v := (6 : Int32)) C dL_changes_324 rfl ?_
                refine j_istore (pc := 326) C [(7, _), (8, _), (6, _), (5, _), (4, _), (3, _), (0, _), (1, _), (2, _)] dL_changes_326 (by decide) rfl ?_
                refine j_aload_n (pc := 328) C 7 dL_changes_328 rfl ?_
                refine j_iload (pc := 329) C 1 dL_changes_329 rfl ?_
                refine c2_L_231 (pc := 331) C ⟨(Nat.le_of_ble_eq_true rfl), (Nat.le_of_ble_eq_true rfl)⟩ ⟨hb, hs⟩ (Nat.le_of_ble_eq_true rfl) dL_changes_331 h (fun M173 h => ?_)
                refine j_iload (pc := 334) C 0 dL_changes_334 rfl ?_
                refine j_if_le (pc := 336) (A := False) (B := True) C 354 dL_changes_336 (by decide) (by first | rw [if_pos (by decide)] ; trivial | rw [if_neg (by decide)] ; trivial) (fun z => z.elim) (fun _ => ?_)
                refine j_aload_n (pc := 339) C 7 dL_changes_339 rfl ?_
                refine j_aload (pc := 340) C 3 dL_changes_340 rfl ?_
                refine j_aload (pc := 342) C 2 dL_changes_342 rfl ?_
                refine c2_L_253 (pc := 344) C ⟨(Nat.le_of_ble_eq_true rfl), (Nat.le_of_ble_eq_true rfl)⟩ ⟨hb, hs⟩ (Nat.le_of_ble_eq_true rfl) dL_changes_344 h (fun r174 M174 h => ?_)
                refine j_iload (pc := 347) C 4 dL_changes_347 rfl ?_
                refine j_icmp_eq (pc := 349) C 354 dL_changes_349 (by decide) h (fun h => ?_) (fun h => ?_)
                · refine j_aload_n (pc := 354) C 6 dL_changes_354 rfl ?_
                  refine j_iload (pc := 355) C 4 dL_changes_355 rfl ?_
                  refine j_iload_n (pc := 357) C 5 dL_changes_357 rfl ?_
                  refine c2_L_257 (pc := 358) C ⟨(Nat.le_of_ble_eq_true rfl), (Nat.le_of_ble_eq_true rfl)⟩ ⟨hb, hs⟩ (Nat.le_of_ble_eq_true rfl) dL_changes_358 h (fun r175 M175 h => ?_)
                  refine j_iload (pc := 361) C 0 dL_changes_361 rfl ?_
                  refine j_icmp_ne (pc := 363) C 387 dL_changes_363 (by decide) h (fun h => ?_) (fun h => ?_)
                  · refine j_iconst (pc := 387) (v := (0 : Int32)) C dL_changes_387 rfl ?_
                    exact j_zret (pc := 388) C dL_changes_388 hb hs h
                  · refine j_iload (pc := 366) C 0 dL_changes_366 rfl ?_
                    refine j_if_gt (pc := 368) (A := True) (B := False) C 383 dL_changes_368 (by decide) (by first | rw [if_pos (by decide)] ; trivial | rw [if_neg (by decide)] ; trivial) (fun _ => ?_) (fun z => z.elim)
                    refine j_iconst (pc := 383) (v := (1 : Int32)) C dL_changes_383 rfl ?_
                    refine j_goto (pc := 384) C 388 dL_changes_384 (by decide) ?_
                    exact j_zret (pc := 388) C dL_changes_388 hb hs h
                · refine j_iconst (pc := 352) (v := (0 : Int32)) C dL_changes_352 rfl ?_
                  exact j_zret (pc := 353) C dL_changes_353 hb hs h
        · refine j_iconst (pc := 263) (v := (1 : Int32)) C dL_changes_263 rfl ?_
          refine j_goto (pc := 264) C 268 dL_changes_264 (by decide) ?_
          refine j_iload (pc := 268) C 2 dL_changes_268 rfl ?_
          obtain ⟨b176, s176, hb, hs, h⟩ := h
          refine c2_L_217 (pc := 270) C ⟨(Nat.le_of_ble_eq_true rfl), (Nat.le_of_ble_eq_true rfl)⟩ ⟨hb, hs⟩ (Nat.le_of_ble_eq_true rfl) dL_changes_270 h (fun r176 M176 h => ?_)
          refine j_istore (pc := 273) C [(7, _), (6, _), (5, _), (4, _), (3, _), (0, _), (1, _), (2, _)] dL_changes_273 (by decide) rfl ?_
          refine j_aload_n (pc := 275) C 6 dL_changes_275 rfl ?_
          refine j_iload (pc := 276) C 3 dL_changes_276 rfl ?_
          refine c2_L_231 (pc := 278) C ⟨(Nat.le_of_ble_eq_true rfl), (Nat.le_of_ble_eq_true rfl)⟩ ⟨hb, hs⟩ (Nat.le_of_ble_eq_true rfl) dL_changes_278 h (fun M177 h => ?_)
          refine j_iconst (pc := 281) (v := (-1 : Int32)) C dL_changes_281 rfl ?_
          refine j_istore (pc := 282) C [(8, _), (7, _), (6, _), (5, _), (4, _), (3, _), (0, _), (1, _), (2, _)] dL_changes_282 (by decide) rfl ?_
          refine j_iload (pc := 284) C 1 dL_changes_284 rfl ?_
          refine j_if_ne (pc := 286) C 334 dL_changes_286 (by decide) h (fun h => ?_) (fun h => ?_)
          · refine j_iload (pc := 334) C 1 dL_changes_334 rfl ?_
            refine j_if_le (pc := 336) C 354 dL_changes_336 (by decide) h (fun h => ?_) (fun h => ?_)
            · refine j_aload_n (pc := 354) C 6 dL_changes_354 rfl ?_
              refine j_iload (pc := 355) C 4 dL_changes_355 rfl ?_
              refine j_iload_n (pc := 357) C 5 dL_changes_357 rfl ?_
              refine c2_L_257 (pc := 358) C ⟨(Nat.le_of_ble_eq_true rfl), (Nat.le_of_ble_eq_true rfl)⟩ ⟨hb, hs⟩ (Nat.le_of_ble_eq_true rfl) dL_changes_358 h (fun r178 M178 h => ?_)
              refine j_iload (pc := 361) C 1 dL_changes_361 rfl ?_
              refine j_icmp_ne (pc := 363) C 387 dL_changes_363 (by decide) h (fun h => ?_) (fun h => ?_)
              · refine j_iconst (pc := 387) (v := (0 : Int32)) C dL_changes_387 rfl ?_
                exact j_zret (pc := 388) C dL_changes_388 hb hs h
              · refine j_iload (pc := 366) C 1 dL_changes_366 rfl ?_
                refine j_if_gt (pc := 368) C 383 dL_changes_368 (by decide) h (fun h => ?_) (fun h => ?_)
                · refine j_iconst (pc := 383) (v := (1 : Int32)) C dL_changes_383 rfl ?_
                  refine j_goto (pc := 384) C 388 dL_changes_384 (by decide) ?_
                  exact j_zret (pc := 388) C dL_changes_388 hb hs h
                · refine j_aload_n (pc := 371) C 6 dL_changes_371 rfl ?_
                  refine j_iload (pc := 372) C 4 dL_changes_372 rfl ?_
                  refine j_iload_n (pc := 374) C 5 dL_changes_374 rfl ?_
                  refine c2_L_260 (pc := 375) C ⟨(Nat.le_of_ble_eq_true rfl), (Nat.le_of_ble_eq_true rfl)⟩ ⟨hb, hs⟩ (Nat.le_of_ble_eq_true rfl) dL_changes_375 h (fun r179 M179 h => ?_)
                  refine j_iload (pc := 378) C 0 dL_changes_378 rfl ?_
                  refine j_icmp_ne (pc := 380) C 387 dL_changes_380 (by decide) h (fun h => ?_) (fun h => ?_)
                  · refine j_iconst (pc := 387) (v := (0 : Int32)) C dL_changes_387 rfl ?_
                    exact j_zret (pc := 388) C dL_changes_388 hb hs h
                  · refine j_iconst (pc := 383) (v := (1 : Int32)) C dL_changes_383 rfl ?_
                    refine j_goto (pc := 384) C 388 dL_changes_384 (by decide) ?_
                    exact j_zret (pc := 388) C dL_changes_388 hb hs h
            · refine j_aload_n (pc := 339) C 7 dL_changes_339 rfl ?_
              refine j_aload (pc := 340) C 3 dL_changes_340 rfl ?_
              refine j_aload (pc := 342) C 2 dL_changes_342 rfl ?_
              refine c2_L_253 (pc := 344) C ⟨(Nat.le_of_ble_eq_true rfl), (Nat.le_of_ble_eq_true rfl)⟩ ⟨hb, hs⟩ (Nat.le_of_ble_eq_true rfl) dL_changes_344 h (fun r180 M180 h => ?_)
              refine j_iload (pc := 347) C 4 dL_changes_347 rfl ?_
              refine j_icmp_eq (pc := 349) C 354 dL_changes_349 (by decide) h (fun h => ?_) (fun h => ?_)
              · refine j_aload_n (pc := 354) C 6 dL_changes_354 rfl ?_
                refine j_iload (pc := 355) C 4 dL_changes_355 rfl ?_
                refine j_iload_n (pc := 357) C 5 dL_changes_357 rfl ?_
                refine c2_L_257 (pc := 358) C ⟨(Nat.le_of_ble_eq_true rfl), (Nat.le_of_ble_eq_true rfl)⟩ ⟨hb, hs⟩ (Nat.le_of_ble_eq_true rfl) dL_changes_358 h (fun r181 M181 h => ?_)
                refine j_iload (pc := 361) C 1 dL_changes_361 rfl ?_
                refine j_icmp_ne (pc := 363) C 387 dL_changes_363 (by decide) h (fun h => ?_) (fun h => ?_)
                · refine j_iconst (pc := 387) (v := (0 : Int32)) C dL_changes_387 rfl ?_
                  exact j_zret (pc := 388) C dL_changes_388 hb hs h
                · refine j_iload (pc := 366) C 1 dL_changes_366 rfl ?_
                  refine j_if_gt (pc := 368) C 383 dL_changes_368 (by decide) h (fun h => ?_) (fun h => ?_)
                  · refine j_iconst (pc := 383) (v := (1 : Int32)) C dL_changes_383 rfl ?_
                    refine j_goto (pc := 384) C 388 dL_changes_384 (by decide) ?_
                    exact j_zret (pc := 388) C dL_changes_388 hb hs h
                  · refine j_aload_n (pc := 371) C 6 dL_changes_371 rfl ?_
                    refine j_iload (pc := 372) C 4 dL_changes_372 rfl ?_
                    refine j_iload_n (pc := 374) C 5 dL_changes_374 rfl ?_
                    refine c2_L_260 (pc := 375) C ⟨(Nat.le_of_ble_eq_true rfl), (Nat.le_of_ble_eq_true rfl)⟩ ⟨hb, hs⟩ (Nat.le_of_ble_eq_true rfl) dL_changes_375 h (fun r182 M182 h => ?_)
                    refine j_iload (pc := 378) C 0 dL_changes_378 rfl ?_
                    refine j_icmp_ne (pc := 380) C 387 dL_changes_380 (by decide) h (fun h => ?_) (fun h => ?_)
                    · refine j_iconst (pc := 387) (v := (0 : Int32)) C dL_changes_387 rfl ?_
                      exact j_zret (pc := 388) C dL_changes_388 hb hs h
                    · refine j_iconst (pc := 383) (v := (1 : Int32)) C dL_changes_383 rfl ?_
                      refine j_goto (pc := 384) C 388 dL_changes_384 (by decide) ?_
                      exact j_zret (pc := 388) C dL_changes_388 hb hs h
              · refine j_iconst (pc := 352) (v := (0 : Int32)) C dL_changes_352 rfl ?_
                exact j_zret (pc := 353) C dL_changes_353 hb hs h
          · refine j_aload_n (pc := 289) C 7 dL_changes_289 rfl ?_
            refine j_aload (pc := 290) C 3 dL_changes_290 rfl ?_
            refine j_iconst (pc := 292) (v := (1 : Int32)) C dL_changes_292 rfl ?_
            refine j_iald (pc := 293) C dL_changes_293 h (fun h => ?_)
            refine j_iload_n (pc := 294) C 5 dL_changes_294 rfl ?_
            refine j_aload (pc := 295) C 3 dL_changes_295 rfl ?_
            refine j_iconst (pc := 297) (v := (3 : Int32)) C dL_changes_297 rfl ?_
            refine j_iald (pc := 298) C dL_changes_298 h (fun h => ?_)
            refine j_aload (pc := 299) C 3 dL_changes_299 rfl ?_
            refine j_iconst (pc := 301) (v := (2 : Int32)) C dL_changes_301 rfl ?_
            refine j_iald (pc := 302) C dL_changes_302 h (fun h => ?_)
            refine j_iconst (pc := 303) (v := (1 : Int32)) C dL_changes_303 rfl ?_
            refine j_icmp_ne (pc := 304) C 311 dL_changes_304 (by decide) h (fun h => ?_) (fun h => ?_)
            · refine j_iconst (pc := 311) (v := (0 : Int32)) C dL_changes_311 rfl ?_
              obtain ⟨b183, s183, hb, hs, h⟩ := h
              refine c2_L_228 (pc := 312) C ⟨(Nat.le_of_ble_eq_true rfl), (Nat.le_of_ble_eq_true rfl)⟩ ⟨hb, hs⟩ (Nat.le_of_ble_eq_true rfl) dL_changes_312 h (fun r183 M183 h => ?_)
              refine j_istore (pc := 315) C [(8, _), (7, _), (6, _), (5, _), (4, _), (3, _), (0, _), (1, _), (2, _)] dL_changes_315 (by decide) rfl ?_
              refine j_aload_n (pc := 317) C 7 dL_changes_317 rfl ?_
              refine c2_L_247 (pc := 318) C ⟨(Nat.le_of_ble_eq_true rfl), (Nat.le_of_ble_eq_true rfl)⟩ ⟨hb, hs⟩ (Nat.le_of_ble_eq_true rfl) dL_changes_318 h (fun r184 M184 h => ?_)
              refine j_if_ne (pc := 321) C 334 dL_changes_321 (by decide) h (fun h => ?_) (fun h => ?_)
              · refine j_iload (pc := 334) C 1 dL_changes_334 rfl ?_
                refine j_if_le (pc := 336) C 354 dL_changes_336 (by decide) h (fun h => ?_) (fun h => ?_)
                · refine j_aload_n (pc := 354) C 6 dL_changes_354 rfl ?_
                  refine j_iload (pc := 355) C 4 dL_changes_355 rfl ?_
                  refine j_iload_n (pc := 357) C 5 dL_changes_357 rfl ?_
                  refine c2_L_257 (pc := 358) C ⟨(Nat.le_of_ble_eq_true rfl), (Nat.le_of_ble_eq_true rfl)⟩ ⟨hb, hs⟩ (Nat.le_of_ble_eq_true rfl) dL_changes_358 h (fun r185 M185 h => ?_)
                  refine j_iload (pc := 361) C 1 dL_changes_361 rfl ?_
                  refine j_icmp_ne (pc := 363) C 387 dL_changes_363 (by decide) h (fun h => ?_) (fun h => ?_)
                  · refine j_iconst (pc := 387) (v := (0 : Int32)) C dL_changes_387 rfl ?_
                    exact j_zret (pc := 388) C dL_changes_388 hb hs h
                  · refine j_iload (pc := 366) C 1 dL_changes_366 rfl ?_
                    refine j_if_gt (pc := 368) C 383 dL_changes_368 (by decide) h (fun h => ?_) (fun h => ?_)
                    · refine j_iconst (pc := 383) (v := (1 : Int32)) C dL_changes_383 rfl ?_
                      refine j_goto (pc := 384) C 388 dL_changes_384 (by decide) ?_
                      exact j_zret (pc := 388) C dL_changes_388 hb hs h
                    · refine j_aload_n (pc := 371) C 6 dL_changes_371 rfl ?_
                      refine j_iload (pc := 372) C 4 dL_changes_372 rfl ?_
                      refine j_iload_n (pc := 374) C 5 dL_changes_374 rfl ?_
                      refine c2_L_260 (pc := 375) C ⟨(Nat.le_of_ble_eq_true rfl), (Nat.le_of_ble_eq_true rfl)⟩ ⟨hb, hs⟩ (Nat.le_of_ble_eq_true rfl) dL_changes_375 h (fun r186 M186 h => ?_)
                      refine j_iload (pc := 378) C 0 dL_changes_378 rfl ?_
                      refine j_icmp_ne (pc := 380) C 387 dL_changes_380 (by decide) h (fun h => ?_) (fun h => ?_)
                      · refine j_iconst (pc := 387) (v := (0 : Int32)) C dL_changes_387 rfl ?_
                        exact j_zret (pc := 388) C dL_changes_388 hb hs h
                      · refine j_iconst (pc := 383) (v := (1 : Int32)) C dL_changes_383 rfl ?_
                        refine j_goto (pc := 384) C 388 dL_changes_384 (by decide) ?_
                        exact j_zret (pc := 388) C dL_changes_388 hb hs h
                · refine j_aload_n (pc := 339) C 7 dL_changes_339 rfl ?_
                  refine j_aload (pc := 340) C 3 dL_changes_340 rfl ?_
                  refine j_aload (pc := 342) C 2 dL_changes_342 rfl ?_
                  refine c2_L_253 (pc := 344) C ⟨(Nat.le_of_ble_eq_true rfl), (Nat.le_of_ble_eq_true rfl)⟩ ⟨hb, hs⟩ (Nat.le_of_ble_eq_true rfl) dL_changes_344 h (fun r187 M187 h => ?_)
                  refine j_iload (pc := 347) C 4 dL_changes_347 rfl ?_
                  refine j_icmp_eq (pc := 349) C 354 dL_changes_349 (by decide) h (fun h => ?_) (fun h => ?_)
                  · refine j_aload_n (pc := 354) C 6 dL_changes_354 rfl ?_
                    refine j_iload (pc := 355) C 4 dL_changes_355 rfl ?_
                    refine j_iload_n (pc := 357) C 5 dL_changes_357 rfl ?_
                    refine c2_L_257 (pc := 358) C ⟨(Nat.le_of_ble_eq_true rfl), (Nat.le_of_ble_eq_true rfl)⟩ ⟨hb, hs⟩ (Nat.le_of_ble_eq_true rfl) dL_changes_358 h (fun r188 M188 h => ?_)
                    refine j_iload (pc := 361) C 1 dL_changes_361 rfl ?_
                    refine j_icmp_ne (pc := 363) C 387 dL_changes_363 (by decide) h (fun h => ?_) (fun h => ?_)
                    · refine j_iconst (pc := 387) (v := (0 : Int32)) C dL_changes_387 rfl ?_
                      exact j_zret (pc := 388) C dL_changes_388 hb hs h
                    · refine j_iload (pc := 366) C 1 dL_changes_366 rfl ?_
                      refine j_if_gt (pc := 368) C 383 dL_changes_368 (by decide) h (fun h => ?_) (fun h => ?_)
                      · refine j_iconst (pc := 383) (v := (1 : Int32)) C dL_changes_383 rfl ?_
                        refine j_goto (pc := 384) C 388 dL_changes_384 (by decide) ?_
                        exact j_zret (pc := 388) C dL_changes_388 hb hs h
                      · refine j_aload_n (pc := 371) C 6 dL_changes_371 rfl ?_
                        refine j_iload (pc := 372) C 4 dL_changes_372 rfl ?_
                        refine j_iload_n (pc := 374) C 5 dL_changes_374 rfl ?_
                        refine c2_L_260 (pc := 375) C ⟨(Nat.le_of_ble_eq_true rfl), (Nat.le_of_ble_eq_true rfl)⟩ ⟨hb, hs⟩ (Nat.le_of_ble_eq_true rfl) dL_changes_375 h (fun r189 M189 h => ?_)
                        refine j_iload (pc := 378) C 0 dL_changes_378 rfl ?_
                        refine j_icmp_ne (pc := 380) C 387 dL_changes_380 (by decide) h (fun h => ?_) (fun h => ?_)
                        · refine j_iconst (pc := 387) (v := (0 : Int32)) C dL_changes_387 rfl ?_
                          exact j_zret (pc := 388) C dL_changes_388 hb hs h
                        · refine j_iconst (pc := 383) (v := (1 : Int32)) C dL_changes_383 rfl ?_
                          refine j_goto (pc := 384) C 388 dL_changes_384 (by decide) ?_
                          exact j_zret (pc := 388) C dL_changes_388 hb hs h
                  · refine j_iconst (pc := 352) (v := (0 : Int32)) C dL_changes_352 rfl ?_
                    exact j_zret (pc := 353) C dL_changes_353 hb hs h
              · refine j_bipush (pc := 324) (v := (6 : Int32)) C dL_changes_324 rfl ?_
                refine j_istore (pc := 326) C [(7, _), (8, _), (6, _), (5, _), (4, _), (3, _), (0, _), (1, _), (2, _)] dL_changes_326 (by decide) rfl ?_
                refine j_aload_n (pc := 328) C 7 dL_changes_328 rfl ?_
                refine j_iload (pc := 329) C 1 dL_changes_329 rfl ?_
                refine c2_L_231 (pc := 331) C ⟨(Nat.le_of_ble_eq_true rfl), (Nat.le_of_ble_eq_true rfl)⟩ ⟨hb, hs⟩ (Nat.le_of_ble_eq_true rfl) dL_changes_331 h (fun M190 h => ?_)
                refine j_iload (pc := 334) C 0 dL_changes_334 rfl ?_
                refine j_if_le (pc := 336) (A := False) (B := True) C 354 dL_changes_336 (by decide) (by first | rw [if_pos (by decide)] ; trivial | rw [if_neg (by decide)] ; trivial) (fun z => z.elim) (fun _ => ?_)
                refine j_aload_n (pc := 339) C 7 dL_changes_339 rfl ?_
                refine j_aload (pc := 340) C 3 dL_changes_340 rfl ?_
                refine j_aload (pc := 342) C 2 dL_changes_342 rfl ?_
                refine c2_L_253 (pc := 344) C ⟨(Nat.le_of_ble_eq_true rfl), (Nat.le_of_ble_eq_true rfl)⟩ ⟨hb, hs⟩ (Nat.le_of_ble_eq_true rfl) dL_changes_344 h (fun r191 M191 h => ?_)
                refine j_iload (pc := 347) C 4 dL_changes_347 rfl ?_
                refine j_icmp_eq (pc := 349) C 354 dL_changes_349 (by decide) h (fun h => ?_) (fun h => ?_)
                · refine j_aload_n (pc := 354) C 6 dL_changes_354 rfl ?_
                  refine j_iload (pc := 355) C 4 dL_changes_355 rfl ?_
                  refine j_iload_n (pc := 357) C 5 dL_changes_357 rfl ?_
                  refine c2_L_257 (pc := 358) C ⟨(Nat.le_of_ble_eq_true rfl), (Nat.le_of_ble_eq_true rfl)⟩ ⟨hb, hs⟩ (Nat.le_of_ble_eq_true rfl) dL_changes_358 h (fun r192 M192 h => ?_)
                  refine j_iload (pc := 361) C 0 dL_changes_361 rfl ?_
                  refine j_icmp_ne (pc := 363) C 387 dL_changes_363 (by decide) h (fun h => ?_) (fun h => ?_)
                  · refine j_iconst (pc := 387) (v := (0 : Int32)) C dL_changes_387 rfl ?_
                    exact j_zret (pc := 388) C dL_changes_388 hb hs h
                  · refine j_iload (pc := 366) C 0 dL_changes_366 rfl ?_
                    refine j_if_gt (pc := 368) (A := True) (B := False) C 383 dL_changes_368 (by decide) (by first | rw [if_pos (by decide)] ; trivial | rw [if_neg (by decide)] ; trivial) (fun _ => ?_) (fun z => z.elim)
                    refine j_iconst (pc := 383) (v := (1 : Int32)) C dL_changes_383 rfl ?_
                    refine j_goto (pc := 384) C 388 dL_changes_384 (by decide) ?_
                    exact j_zret (pc := 388) C dL_changes_388 hb hs h
                · refine j_iconst (pc := 352) (v := (0 : Int32)) C dL_changes_352 rfl ?_
                  exact j_zret (pc := 353) C dL_changes_353 hb hs h
            · refine j_iconst (pc := 307) (v := (1 : Int32)) C dL_changes_307 rfl ?_
              refine j_goto (pc := 308) C 312 dL_changes_308 (by decide) ?_
              obtain ⟨b193, s193, hb, hs, h⟩ := h
              refine c2_L_228 (pc := 312) C ⟨(Nat.le_of_ble_eq_true rfl), (Nat.le_of_ble_eq_true rfl)⟩ ⟨hb, hs⟩ (Nat.le_of_ble_eq_true rfl) dL_changes_312 h (fun r193 M193 h => ?_)
              refine j_istore (pc := 315) C [(8, _), (7, _), (6, _), (5, _), (4, _), (3, _), (0, _), (1, _), (2, _)] dL_changes_315 (by decide) rfl ?_
              refine j_aload_n (pc := 317) C 7 dL_changes_317 rfl ?_
              refine c2_L_247 (pc := 318) C ⟨(Nat.le_of_ble_eq_true rfl), (Nat.le_of_ble_eq_true rfl)⟩ ⟨hb, hs⟩ (Nat.le_of_ble_eq_true rfl) dL_changes_318 h (fun r194 M194 h => ?_)
              refine j_if_ne (pc := 321) C 334 dL_changes_321 (by decide) h (fun h => ?_) (fun h => ?_)
              · refine j_iload (pc := 334) C 1 dL_changes_334 rfl ?_
                refine j_if_le (pc := 336) C 354 dL_changes_336 (by decide) h (fun h => ?_) (fun h => ?_)
                · refine j_aload_n (pc := 354) C 6 dL_changes_354 rfl ?_
                  refine j_iload (pc := 355) C 4 dL_changes_355 rfl ?_
                  refine j_iload_n (pc := 357) C 5 dL_changes_357 rfl ?_
                  refine c2_L_257 (pc := 358) C ⟨(Nat.le_of_ble_eq_true rfl), (Nat.le_of_ble_eq_true rfl)⟩ ⟨hb, hs⟩ (Nat.le_of_ble_eq_true rfl) dL_changes_358 h (fun r195 M195 h => ?_)
                  refine j_iload (pc := 361) C 1 dL_changes_361 rfl ?_
                  refine j_icmp_ne (pc := 363) C 387 dL_changes_363 (by decide) h (fun h => ?_) (fun h => ?_)
                  · refine j_iconst (pc := 387) (v := (0 : Int32)) C dL_changes_387 rfl ?_
                    exact j_zret (pc := 388) C dL_changes_388 hb hs h
                  · refine j_iload (pc := 366) C 1 dL_changes_366 rfl ?_
                    refine j_if_gt (pc := 368) C 383 dL_changes_368 (by decide) h (fun h => ?_) (fun h => ?_)
                    · refine j_iconst (pc := 383) (v := (1 : Int32)) C dL_changes_383 rfl ?_
                      refine j_goto (pc := 384) C 388 dL_changes_384 (by decide) ?_
                      exact j_zret (pc := 388) C dL_changes_388 hb hs h
                    · refine j_aload_n (pc := 371) C 6 dL_changes_371 rfl ?_
                      refine j_iload (pc := 372) C 4 dL_changes_372 rfl ?_
                      refine j_iload_n (pc := 374) C 5 dL_changes_374 rfl ?_
                      refine c2_L_260 (pc := 375) C ⟨(Nat.le_of_ble_eq_true rfl), (Nat.le_of_ble_eq_true rfl)⟩ ⟨hb, hs⟩ (Nat.le_of_ble_eq_true rfl) dL_changes_375 h (fun r196 M196 h => ?_)
                      refine j_iload (pc := 378) C 0 dL_changes_378 rfl ?_
                      refine j_icmp_ne (pc := 380) C 387 dL_changes_380 (by decide) h (fun h => ?_) (fun h => ?_)
                      · refine j_iconst (pc := 387) (v := (0 : Int32)) C dL_changes_387 rfl ?_
                        exact j_zret (pc := 388) C dL_changes_388 hb hs h
                      · refine j_iconst (pc := 383) (v := (1 : Int32)) C dL_changes_383 rfl ?_
                        refine j_goto (pc := 384) C 388 dL_changes_384 (by decide) ?_
                        exact j_zret (pc := 388) C dL_changes_388 hb hs h
                · refine j_aload_n (pc := 339) C 7 dL_changes_339 rfl ?_
                  refine j_aload (pc := 340) C 3 dL_changes_340 rfl ?_
                  refine j_aload (pc := 342) C 2 dL_changes_342 rfl ?_
                  refine c2_L_253 (pc := 344) C ⟨(Nat.le_of_ble_eq_true rfl), (Nat.le_of_ble_eq_true rfl)⟩ ⟨hb, hs⟩ (Nat.le_of_ble_eq_true rfl) dL_changes_344 h (fun r197 M197 h => ?_)
                  refine j_iload (pc := 347) C 4 dL_changes_347 rfl ?_
                  refine j_icmp_eq (pc := 349) C 354 dL_changes_349 (by decide) h (fun h => ?_) (fun h => ?_)
                  · refine j_aload_n (pc := 354) C 6 dL_changes_354 rfl ?_
                    refine j_iload (pc := 355) C 4 dL_changes_355 rfl ?_
                    refine j_iload_n (pc := 357) C 5 dL_changes_357 rfl ?_
                    refine c2_L_257 (pc := 358) C ⟨(Nat.le_of_ble_eq_true rfl), (Nat.le_of_ble_eq_true rfl)⟩ ⟨hb, hs⟩ (Nat.le_of_ble_eq_true rfl) dL_changes_358 h (fun r198 M198 h => ?_)
                    refine j_iload (pc := 361) C 1 dL_changes_361 rfl ?_
                    refine j_icmp_ne (pc := 363) C 387 dL_changes_363 (by decide) h (fun h => ?_) (fun h => ?_)
                    · refine j_iconst (pc := 387) (v := (0 : Int32)) C dL_changes_387 rfl ?_
                      exact j_zret (pc := 388) C dL_changes_388 hb hs h
                    · refine j_iload (pc := 366) C 1 dL_changes_366 rfl ?_
                      refine j_if_gt (pc := 368) C 383 dL_changes_368 (by decide) h (fun h => ?_) (fun h => ?_)
                      · refine j_iconst (pc := 383) (v := (1 : Int32)) C dL_changes_383 rfl ?_
                        refine j_goto (pc := 384) C 388 dL_changes_384 (by decide) ?_
                        exact j_zret (pc := 388) C dL_changes_388 hb hs h
                      · refine j_aload_n (pc := 371) C 6 dL_changes_371 rfl ?_
                        refine j_iload (pc := 372) C 4 dL_changes_372 rfl ?_
                        refine j_iload_n (pc := 374) C 5 dL_changes_374 rfl ?_
                        refine c2_L_260 (pc := 375) C ⟨(Nat.le_of_ble_eq_true rfl), (Nat.le_of_ble_eq_true rfl)⟩ ⟨hb, hs⟩ (Nat.le_of_ble_eq_true rfl) dL_changes_375 h (fun r199 M199 h => ?_)
                        refine j_iload (pc := 378) C 0 dL_changes_378 rfl ?_
                        refine j_icmp_ne (pc := 380) C 387 dL_changes_380 (by decide) h (fun h => ?_) (fun h => ?_)
                        · refine j_iconst (pc := 387) (v := (0 : Int32)) C dL_changes_387 rfl ?_
                          exact j_zret (pc := 388) C dL_changes_388 hb hs h
                        · refine j_iconst (pc := 383) (v := (1 : Int32)) C dL_changes_383 rfl ?_
                          refine j_goto (pc := 384) C 388 dL_changes_384 (by decide) ?_
                          exact j_zret (pc := 388) C dL_changes_388 hb hs h
                  · refine j_iconst (pc := 352) (v := (0 : Int32)) C dL_changes_352 rfl ?_
                    exact j_zret (pc := 353) C dL_changes_353 hb hs h
              · refine j_bipush (pc := 324) (v := (6 : Int32)) C dL_changes_324 rfl ?_
                refine j_istore (pc := 326) C [(7, _), (8, _), (6, _), (5, _), (4, _), (3, _), (0, _), (1, _), (2, _)] dL_changes_326 (by decide) rfl ?_
                refine j_aload_n (pc := 328) C 7 dL_changes_328 rfl ?_
                refine j_iload (pc := 329) C 1 dL_changes_329 rfl ?_
                refine c2_L_231 (pc := 331) C ⟨(Nat.le_of_ble_eq_true rfl), (Nat.le_of_ble_eq_true rfl)⟩ ⟨hb, hs⟩ (Nat.le_of_ble_eq_true rfl) dL_changes_331 h (fun M200 h => ?_)
                refine j_iload (pc := 334) C 0 dL_changes_334 rfl ?_
                refine j_if_le (pc := 336) (A := False) (B := True) C 354 dL_changes_336 (by decide) (by first | rw [if_pos (by decide)] ; trivial | rw [if_neg (by decide)] ; trivial) (fun z => z.elim) (fun _ => ?_)
                refine j_aload_n (pc := 339) C 7 dL_changes_339 rfl ?_
                refine j_aload (pc := 340) C 3 dL_changes_340 rfl ?_
                refine j_aload (pc := 342) C 2 dL_changes_342 rfl ?_
                refine c2_L_253 (pc := 344) C ⟨(Nat.le_of_ble_eq_true rfl), (Nat.le_of_ble_eq_true rfl)⟩ ⟨hb, hs⟩ (Nat.le_of_ble_eq_true rfl) dL_changes_344 h (fun r201 M201 h => ?_)
                refine j_iload (pc := 347) C 4 dL_changes_347 rfl ?_
                refine j_icmp_eq (pc := 349) C 354 dL_changes_349 (by decide) h (fun h => ?_) (fun h => ?_)
                · refine j_aload_n (pc := 354) C 6 dL_changes_354 rfl ?_
                  refine j_iload (pc := 355) C 4 dL_changes_355 rfl ?_
                  refine j_iload_n (pc := 357) C 5 dL_changes_357 rfl ?_
                  refine c2_L_257 (pc := 358) C ⟨(Nat.le_of_ble_eq_true rfl), (Nat.le_of_ble_eq_true rfl)⟩ ⟨hb, hs⟩ (Nat.le_of_ble_eq_true rfl) dL_changes_358 h (fun r202 M202 h => ?_)
                  refine j_iload (pc := 361) C 0 dL_changes_361 rfl ?_
                  refine j_icmp_ne (pc := 363) C 387 dL_changes_363 (by decide) h (fun h => ?_) (fun h => ?_)
                  · refine j_iconst (pc := 387) (v := (0 : Int32)) C dL_changes_387 rfl ?_
                    exact j_zret (pc := 388) C dL_changes_388 hb hs h
                  · refine j_iload (pc := 366) C 0 dL_changes_366 rfl ?_
                    refine j_if_gt (pc := 368) (A := True) (B := False) C 383 dL_changes_368 (by decide) (by first | rw [if_pos (by decide)] ; trivial | rw [if_neg (by decide)] ; trivial) (fun _ => ?_) (fun z => z.elim)
                    refine j_iconst (pc := 383) (v := (1 : Int32)) C dL_changes_383 rfl ?_
                    refine j_goto (pc := 384) C 388 dL_changes_384 (by decide) ?_
                    exact j_zret (pc := 388) C dL_changes_388 hb hs h
                · refine j_iconst (pc := 352) (v := (0 : Int32)) C dL_changes_352 rfl ?_
                  exact j_zret (pc := 353) C dL_changes_353 hb hs h
      · refine j_iconst (pc := 225) (v := (1 : Int32)) C dL_changes_225 rfl ?_
        exact j_zret (pc := 226) C dL_changes_226 hb hs h
    rw [if_neg q38_2] at h
    by_cases q38_3 : r123 = (3 : Int32)
    · rw [if_pos q38_3] at h
      refine j_tsI (pc := 38) (off := 351) C 389 dL_changes_38 q38_3 (by decide) (by decide) (by decide) (by decide) ?_
      refine j_aload_n (pc := 389) C 3 dL_changes_389 rfl ?_
      refine gf_L_155 (pc := 390) C dL_changes_390 h (fun h => ?_)
      refine j_if_ne (pc := 393) C 398 dL_changes_393 (by decide) h (fun h => ?_) (fun h => ?_)
      · refine j_aload_n (pc := 398) C 3 dL_changes_398 rfl ?_
        refine gf_L_173 (pc := 399) C dL_changes_399 h (fun a204 h => ?_)
        refine j_iload (pc := 402) C 0 dL_changes_402 rfl ?_
        refine j_aals (pc := 404) C (by decide) dL_changes_404 h (fun a205 h => ?_)
        refine j_astore (pc := 405) C [(5, _), (4, _), (3, _), (0, _), (1, _), (2, _)] dL_changes_405 (by decide) rfl ?_
        refine j_aload_n (pc := 407) C 4 dL_changes_407 rfl ?_
        refine j_iload (pc := 408) C 1 dL_changes_408 rfl ?_
        refine c2_L_231 (pc := 410) C ⟨(Nat.le_of_ble_eq_true rfl), (Nat.le_of_ble_eq_true rfl)⟩ ⟨hb, hs⟩ (Nat.le_of_ble_eq_true rfl) dL_changes_410 h (fun M206 h => ?_)
        refine j_aload_n (pc := 413) C 4 dL_changes_413 rfl ?_
        refine j_aload (pc := 414) C 0 dL_changes_414 rfl ?_
        refine j_iconst (pc := 416) (v := (1 : Int32)) C dL_changes_416 rfl ?_
        refine j_iald (pc := 417) C dL_changes_417 h (fun h => ?_)
        refine j_aload (pc := 418) C 0 dL_changes_418 rfl ?_
        refine j_iconst (pc := 420) (v := (0 : Int32)) C dL_changes_420 rfl ?_
        refine j_iald (pc := 421) C dL_changes_421 h (fun h => ?_)
        refine j_aload (pc := 422) C 0 dL_changes_422 rfl ?_
        refine j_iconst (pc := 424) (v := (3 : Int32)) C dL_changes_424 rfl ?_
        refine j_iald (pc := 425) C dL_changes_425 h (fun h => ?_)
        refine j_aload (pc := 426) C 0 dL_changes_426 rfl ?_
        refine j_iconst (pc := 428) (v := (2 : Int32)) C dL_changes_428 rfl ?_
        refine j_iald (pc := 429) C dL_changes_429 h (fun h => ?_)
        refine j_iconst (pc := 430) (v := (1 : Int32)) C dL_changes_430 rfl ?_
        refine j_icmp_ne (pc := 431) C 438 dL_changes_431 (by decide) h (fun h => ?_) (fun h => ?_)
        · refine j_iconst (pc := 438) (v := (0 : Int32)) C dL_changes_438 rfl ?_
          obtain ⟨b207, s207, hb, hs, h⟩ := h
          refine c2_L_228 (pc := 439) C ⟨(Nat.le_of_ble_eq_true rfl), (Nat.le_of_ble_eq_true rfl)⟩ ⟨hb, hs⟩ (Nat.le_of_ble_eq_true rfl) dL_changes_439 h (fun r207 M207 h => ?_)
          refine j_istore (pc := 442) C [(6, _), (5, _), (4, _), (3, _), (0, _), (1, _), (2, _)] dL_changes_442 (by decide) rfl ?_
          refine j_iconst (pc := 444) (v := (0 : Int32)) C dL_changes_444 rfl ?_
          refine j_istore (pc := 445) C [(7, _), (6, _), (5, _), (4, _), (3, _), (0, _), (1, _), (2, _)] dL_changes_445 (by decide) rfl ?_
          refine j_iconst (pc := 447) (v := (0 : Int32)) C dL_changes_447 rfl ?_
          refine j_istore (pc := 448) C [(8, _), (7, _), (6, _), (5, _), (4, _), (3, _), (0, _), (1, _), (2, _)] dL_changes_448 (by decide) rfl ?_
          obtain ⟨n450, h⟩ := h
          refine j_weak [6, 7, 4, 2, 1, 0] rfl (jl_L_changes_450 C (fun M208 b208 s208 x0_208 x4_208 x6_208 x7_208 hb hs h => ?_) n450 _ _ _ _ _ _ _ _ _ hb hs h)
          · refine j_iload (pc := 499) C 2 dL_changes_499 rfl ?_
            refine j_iload (pc := 501) C 1 dL_changes_501 rfl ?_
            refine j_icmp_ne (pc := 503) C 521 dL_changes_503 (by decide) h (fun h => ?_) (fun h => ?_)
            · refine j_iconst (pc := 521) (v := (0 : Int32)) C dL_changes_521 rfl ?_
              exact j_zret (pc := 522) C dL_changes_522 hb hs h
            · refine j_aload_n (pc := 506) C 0 dL_changes_506 rfl ?_
              refine j_iload (pc := 507) C 1 dL_changes_507 rfl ?_
              refine c2_L_263 (pc := 509) C ⟨(Nat.le_of_ble_eq_true rfl), (Nat.le_of_ble_eq_true rfl)⟩ ⟨hb, hs⟩ (Nat.le_of_ble_eq_true rfl) dL_changes_509 h (fun r209 M209 h => ?_)
              refine j_iload (pc := 512) C 3 dL_changes_512 rfl ?_
              refine j_icmp_ne (pc := 514) C 521 dL_changes_514 (by decide) h (fun h => ?_) (fun h => ?_)
              · refine j_iconst (pc := 521) (v := (0 : Int32)) C dL_changes_521 rfl ?_
                exact j_zret (pc := 522) C dL_changes_522 hb hs h
              · refine j_iconst (pc := 517) (v := (1 : Int32)) C dL_changes_517 rfl ?_
                refine j_goto (pc := 518) C 522 dL_changes_518 (by decide) ?_
                exact j_zret (pc := 522) C dL_changes_522 hb hs h
        · refine j_iconst (pc := 434) (v := (1 : Int32)) C dL_changes_434 rfl ?_
          refine j_goto (pc := 435) C 439 dL_changes_435 (by decide) ?_
          obtain ⟨b210, s210, hb, hs, h⟩ := h
          refine c2_L_228 (pc := 439) C ⟨(Nat.le_of_ble_eq_true rfl), (Nat.le_of_ble_eq_true rfl)⟩ ⟨hb, hs⟩ (Nat.le_of_ble_eq_true rfl) dL_changes_439 h (fun r210 M210 h => ?_)
          refine j_istore (pc := 442) C [(6, _), (5, _), (4, _), (3, _), (0, _), (1, _), (2, _)] dL_changes_442 (by decide) rfl ?_
          refine j_iconst (pc := 444) (v := (0 : Int32)) C dL_changes_444 rfl ?_
          refine j_istore (pc := 445) C [(7, _), (6, _), (5, _), (4, _), (3, _), (0, _), (1, _), (2, _)] dL_changes_445 (by decide) rfl ?_
          refine j_iconst (pc := 447) (v := (0 : Int32)) C dL_changes_447 rfl ?_
          refine j_istore (pc := 448) C [(8, _), (7, _), (6, _), (5, _), (4, _), (3, _), (0, _), (1, _), (2, _)] dL_changes_448 (by decide) rfl ?_
          obtain ⟨n450, h⟩ := h
          refine j_weak [6, 7, 4, 2, 1, 0] rfl (jl_L_changes_450 C (fun M211 b211 s211 x0_211 x4_211 x6_211 x7_211 hb hs h => ?_) n450 _ _ _ _ _ _ _ _ _ hb hs h)
          · refine j_iload (pc := 499) C 2 dL_changes_499 rfl ?_
            refine j_iload (pc := 501) C 1 dL_changes_501 rfl ?_
            refine j_icmp_ne (pc := 503) C 521 dL_changes_503 (by decide) h (fun h => ?_) (fun h => ?_)
            · refine j_iconst (pc := 521) (v := (0 : Int32)) C dL_changes_521 rfl ?_
              exact j_zret (pc := 522) C dL_changes_522 hb hs h
            · refine j_aload_n (pc := 506) C 0 dL_changes_506 rfl ?_
              refine j_iload (pc := 507) C 1 dL_changes_507 rfl ?_
              refine c2_L_263 (pc := 509) C ⟨(Nat.le_of_ble_eq_true rfl), (Nat.le_of_ble_eq_true rfl)⟩ ⟨hb, hs⟩ (Nat.le_of_ble_eq_true rfl) dL_changes_509 h (fun r212 M212 h => ?_)
              refine j_iload (pc := 512) C 3 dL_changes_512 rfl ?_
              refine j_icmp_ne (pc := 514) C 521 dL_changes_514 (by decide) h (fun h => ?_) (fun h => ?_)
              · refine j_iconst (pc := 521) (v := (0 : Int32)) C dL_changes_521 rfl ?_
                exact j_zret (pc := 522) C dL_changes_522 hb hs h
              · refine j_iconst (pc := 517) (v := (1 : Int32)) C dL_changes_517 rfl ?_
                refine j_goto (pc := 518) C 522 dL_changes_518 (by decide) ?_
                exact j_zret (pc := 522) C dL_changes_522 hb hs h
      · refine j_iconst (pc := 396) (v := (1 : Int32)) C dL_changes_396 rfl ?_
        exact j_zret (pc := 397) C dL_changes_397 hb hs h
    rw [if_neg q38_3] at h
    refine j_tsO (pc := 38) C 523 dL_changes_38 (fun k h1 h2 => ?_) (by decide) ?_
    · rcases (show k = 0 ∨ k = 1 ∨ k = 2 ∨ k = 3 by omega) with rfl | rfl | rfl | rfl
      · exact ts_no q38_0 (by decide)
      · exact ts_no q38_1 (by decide)
      · exact ts_no q38_2 (by decide)
      · exact ts_no q38_3 (by decide)
    refine j_aload_n (pc := 523) C 4 dL_changes_523 rfl ?_
    refine j_aload_n (pc := 524) C 3 dL_changes_524 rfl ?_
    refine gf_L_60 (pc := 525) C dL_changes_525 h (fun h => ?_)
    refine c2_L_39 (pc := 528) C ⟨(Nat.le_of_ble_eq_true rfl), (Nat.le_of_ble_eq_true rfl)⟩ ⟨hb, hs⟩ (Nat.le_of_ble_eq_true rfl) dL_changes_528 h (fun r214 M214 h => ?_)
    refine j_istore (pc := 531) C [(5, _), (4, _), (3, _), (0, _), (1, _), (2, _)] dL_changes_531 (by decide) rfl ?_
    refine j_aload_n (pc := 533) C 5 dL_changes_533 rfl ?_
    refine j_iconst (pc := 534) (v := (2 : Int32)) C dL_changes_534 rfl ?_
    refine c2_L_39 (pc := 535) C ⟨(Nat.le_of_ble_eq_true rfl), (Nat.le_of_ble_eq_true rfl)⟩ ⟨hb, hs⟩ (Nat.le_of_ble_eq_true rfl) dL_changes_535 h (fun r215 M215 h => ?_)
    refine j_if_ne (pc := 538) C 545 dL_changes_538 (by decide) h (fun h => ?_) (fun h => ?_)
    · refine j_iconst (pc := 545) (v := (0 : Int32)) C dL_changes_545 rfl ?_
      refine j_istore (pc := 546) C [(6, _), (5, _), (4, _), (3, _), (0, _), (1, _), (2, _)] dL_changes_546 (by decide) rfl ?_
      refine j_aload_n (pc := 548) C 6 dL_changes_548 rfl ?_
      refine j_aload_n (pc := 549) C 5 dL_changes_549 rfl ?_
      refine gf_L_100 (pc := 550) C dL_changes_550 h (fun h => ?_)
      refine c2_L_39 (pc := 553) C ⟨(Nat.le_of_ble_eq_true rfl), (Nat.le_of_ble_eq_true rfl)⟩ ⟨hb, hs⟩ (Nat.le_of_ble_eq_true rfl) dL_changes_553 h (fun r217 M217 h => ?_)
      refine j_istore (pc := 556) C [(7, _), (6, _), (5, _), (4, _), (3, _), (0, _), (1, _), (2, _)] dL_changes_556 (by decide) rfl ?_
      refine j_iconst (pc := 558) (v := (1 : Int32)) C dL_changes_558 rfl ?_
      refine j_iload (pc := 559) C 0 dL_changes_559 rfl ?_
      refine j_ishl (pc := 561) C dL_changes_561 ?_
      refine j_iload (pc := 562) C 1 dL_changes_562 rfl ?_
      refine j_if_eq (pc := 564) (A := True) (B := False) C 588 dL_changes_564 (by decide) (by first | rw [if_pos (by decide)] ; trivial | rw [if_neg (by decide)] ; trivial) (fun _ => ?_) (fun z => z.elim)
      refine j_iconst (pc := 588) (v := (0 : Int32)) C dL_changes_588 rfl ?_
      refine j_ior (pc := 589) C dL_changes_589 ?_
      refine j_istore (pc := 590) C [(8, _), (7, _), (6, _), (5, _), (4, _), (3, _), (0, _), (1, _), (2, _)] dL_changes_590 (by decide) rfl ?_
      refine j_aload_n (pc := 592) C 7 dL_changes_592 rfl ?_
      refine j_iload (pc := 593) C 3 dL_changes_593 rfl ?_
      refine j_iload_n (pc := 595) C 5 dL_changes_595 rfl ?_
      refine j_iload (pc := 596) C 0 dL_changes_596 rfl ?_
      refine j_iload (pc := 598) C 2 dL_changes_598 rfl ?_
      refine j_iconst (pc := 600) (v := (-1 : Int32)) C dL_changes_600 rfl ?_
      obtain ⟨b218, s218, hb, hs, h⟩ := h
      refine c2_L_217 (pc := 601) C ⟨(Nat.le_of_ble_eq_true rfl), (Nat.le_of_ble_eq_true rfl)⟩ ⟨hb, hs⟩ (Nat.le_of_ble_eq_true rfl) dL_changes_601 h (fun r218 M218 h => ?_)
      refine j_if_le (pc := 604) C 609 dL_changes_604 (by decide) h (fun h => ?_) (fun h => ?_)
      · refine j_aload_n (pc := 609) C 7 dL_changes_609 rfl ?_
        refine j_iload (pc := 610) C 3 dL_changes_610 rfl ?_
        refine j_iload_n (pc := 612) C 5 dL_changes_612 rfl ?_
        refine j_iload (pc := 613) C 0 dL_changes_613 rfl ?_
        refine j_iload (pc := 615) C 2 dL_changes_615 rfl ?_
        obtain ⟨b219, s219, hb, hs, h⟩ := h
        refine c2_L_228 (pc := 617) C ⟨(Nat.le_of_ble_eq_true rfl), (Nat.le_of_ble_eq_true rfl)⟩ ⟨hb, hs⟩ (Nat.le_of_ble_eq_true rfl) dL_changes_617 h (fun r219 M219 h => ?_)
        refine j_istore (pc := 620) C [(9, _), (8, _), (7, _), (6, _), (5, _), (4, _), (3, _), (0, _), (1, _), (2, _)] dL_changes_620 (by decide) rfl ?_
        refine j_iload (pc := 622) C 3 dL_changes_622 rfl ?_
        refine j_if_eq (pc := 624) (A := True) (B := False) C 639 dL_changes_624 (by decide) (by first | rw [if_pos (by decide)] ; trivial | rw [if_neg (by decide)] ; trivial) (fun _ => ?_) (fun z => z.elim)
        refine j_aload_n (pc := 639) C 7 dL_changes_639 rfl ?_
        refine j_iload (pc := 640) C 4 dL_changes_640 rfl ?_
        refine j_iload_n (pc := 642) C 6 dL_changes_642 rfl ?_
        refine j_iload (pc := 643) C 2 dL_changes_643 rfl ?_
        refine c2_L_269 (pc := 645) C ⟨(Nat.le_of_ble_eq_true rfl), (Nat.le_of_ble_eq_true rfl)⟩ ⟨hb, hs⟩ (Nat.le_of_ble_eq_true rfl) dL_changes_645 h (fun r220 M220 h => ?_)
        refine j_iload (pc := 648) C 0 dL_changes_648 rfl ?_
        refine j_icmp_ne (pc := 650) C 657 dL_changes_650 (by decide) h (fun h => ?_) (fun h => ?_)
        · refine j_iconst (pc := 657) (v := (0 : Int32)) C dL_changes_657 rfl ?_
          exact j_zret (pc := 658) C dL_changes_658 hb hs h
        · refine j_iconst (pc := 653) (v := (1 : Int32)) C dL_changes_653 rfl ?_
          refine j_goto (pc := 654) C 658 dL_changes_654 (by decide) ?_
          exact j_zret (pc := 658) C dL_changes_658 hb hs h
      · refine j_iconst (pc := 607) (v := (1 : Int32)) C dL_changes_607 rfl ?_
        exact j_zret (pc := 608) C dL_changes_608 hb hs h
    · refine j_iconst (pc := 541) (v := (1 : Int32)) C dL_changes_541 rfl ?_
      refine j_goto (pc := 542) C 546 dL_changes_542 (by decide) ?_
      refine j_istore (pc := 546) C [(6, _), (5, _), (4, _), (3, _), (0, _), (1, _), (2, _)] dL_changes_546 (by decide) rfl ?_
      refine j_aload_n (pc := 548) C 6 dL_changes_548 rfl ?_
      refine j_aload_n (pc := 549) C 5 dL_changes_549 rfl ?_
      refine gf_L_100 (pc := 550) C dL_changes_550 h (fun h => ?_)
      refine c2_L_39 (pc := 553) C ⟨(Nat.le_of_ble_eq_true rfl), (Nat.le_of_ble_eq_true rfl)⟩ ⟨hb, hs⟩ (Nat.le_of_ble_eq_true rfl) dL_changes_553 h (fun r222 M222 h => ?_)
      refine j_istore (pc := 556) C [(7, _), (6, _), (5, _), (4, _), (3, _), (0, _), (1, _), (2, _)] dL_changes_556 (by decide) rfl ?_
      refine j_iconst (pc := 558) (v := (1 : Int32)) C dL_changes_558 rfl ?_
      refine j_iload (pc := 559) C 0 dL_changes_559 rfl ?_
      refine j_ishl (pc := 561) C dL_changes_561 ?_
      refine j_iload (pc := 562) C 1 dL_changes_562 rfl ?_
      refine j_if_eq (pc := 564) (A := False) (B := True) C 588 dL_changes_564 (by decide) (by first | rw [if_pos (by decide)] ; trivial | rw [if_neg (by decide)] ; trivial) (fun z => z.elim) (fun _ => ?_)
      refine j_aload_n (pc := 567) C 7 dL_changes_567 rfl ?_
      refine j_iconst (pc := 568) (v := (3 : Int32)) C dL_changes_568 rfl ?_
      refine c2_L_39 (pc := 569) C ⟨(Nat.le_of_ble_eq_true rfl), (Nat.le_of_ble_eq_true rfl)⟩ ⟨hb, hs⟩ (Nat.le_of_ble_eq_true rfl) dL_changes_569 h (fun r223 M223 h => ?_)
      refine j_if_ne (pc := 572) C 588 dL_changes_572 (by decide) h (fun h => ?_) (fun h => ?_)
      · refine j_iconst (pc := 588) (v := (0 : Int32)) C dL_changes_588 rfl ?_
        refine j_ior (pc := 589) C dL_changes_589 ?_
        refine j_istore (pc := 590) C [(8, _), (7, _), (6, _), (5, _), (4, _), (3, _), (0, _), (1, _), (2, _)] dL_changes_590 (by decide) rfl ?_
        refine j_aload_n (pc := 592) C 7 dL_changes_592 rfl ?_
        refine j_iload (pc := 593) C 3 dL_changes_593 rfl ?_
        refine j_iload_n (pc := 595) C 5 dL_changes_595 rfl ?_
        refine j_iload (pc := 596) C 0 dL_changes_596 rfl ?_
        refine j_iload (pc := 598) C 2 dL_changes_598 rfl ?_
        refine j_iconst (pc := 600) (v := (-1 : Int32)) C dL_changes_600 rfl ?_
        obtain ⟨b224, s224, hb, hs, h⟩ := h
        refine c2_L_217 (pc := 601) C ⟨(Nat.le_of_ble_eq_true rfl), (Nat.le_of_ble_eq_true rfl)⟩ ⟨hb, hs⟩ (Nat.le_of_ble_eq_true rfl) dL_changes_601 h (fun r224 M224 h => ?_)
        refine j_if_le (pc := 604) C 609 dL_changes_604 (by decide) h (fun h => ?_) (fun h => ?_)
        · refine j_aload_n (pc := 609) C 7 dL_changes_609 rfl ?_
          refine j_iload (pc := 610) C 3 dL_changes_610 rfl ?_
          refine j_iload_n (pc := 612) C 5 dL_changes_612 rfl ?_
          refine j_iload (pc := 613) C 0 dL_changes_613 rfl ?_
          refine j_iload (pc := 615) C 2 dL_changes_615 rfl ?_
          obtain ⟨b225, s225, hb, hs, h⟩ := h
          refine c2_L_228 (pc := 617) C ⟨(Nat.le_of_ble_eq_true rfl), (Nat.le_of_ble_eq_true rfl)⟩ ⟨hb, hs⟩ (Nat.le_of_ble_eq_true rfl) dL_changes_617 h (fun r225 M225 h => ?_)
          refine j_istore (pc := 620) C [(9, _), (8, _), (7, _), (6, _), (5, _), (4, _), (3, _), (0, _), (1, _), (2, _)] dL_changes_620 (by decide) rfl ?_
          refine j_iload (pc := 622) C 3 dL_changes_622 rfl ?_
          refine j_if_eq (pc := 624) (A := False) (B := True) C 639 dL_changes_624 (by decide) (by first | rw [if_pos (by decide)] ; trivial | rw [if_neg (by decide)] ; trivial) (fun z => z.elim) (fun _ => ?_)
          refine j_aload_n (pc := 627) C 7 dL_changes_627 rfl ?_
          refine j_iload (pc := 628) C 4 dL_changes_628 rfl ?_
          refine j_iload_n (pc := 630) C 6 dL_changes_630 rfl ?_
          refine j_iload (pc := 631) C 1 dL_changes_631 rfl ?_
          refine c2_L_266 (pc := 633) C ⟨(Nat.le_of_ble_eq_true rfl), (Nat.le_of_ble_eq_true rfl)⟩ ⟨hb, hs⟩ (Nat.le_of_ble_eq_true rfl) dL_changes_633 h (fun r226 M226 h => ?_)
          refine j_goto (pc := 636) C 648 dL_changes_636 (by decide) ?_
          refine j_iload (pc := 648) C 0 dL_changes_648 rfl ?_
          refine j_icmp_ne (pc := 650) C 657 dL_changes_650 (by decide) h (fun h => ?_) (fun h => ?_)
          · refine j_iconst (pc := 657) (v := (0 : Int32)) C dL_changes_657 rfl ?_
            exact j_zret (pc := 658) C dL_changes_658 hb hs h
          · refine j_iconst (pc := 653) (v := (1 : Int32)) C dL_changes_653 rfl ?_
            refine j_goto (pc := 654) C 658 dL_changes_654 (by decide) ?_
            exact j_zret (pc := 658) C dL_changes_658 hb hs h
        · refine j_iconst (pc := 607) (v := (1 : Int32)) C dL_changes_607 rfl ?_
          exact j_zret (pc := 608) C dL_changes_608 hb hs h
      · refine j_iconst (pc := 575) (v := (1 : Int32)) C dL_changes_575 rfl ?_
        refine j_aload_n (pc := 576) C 7 dL_changes_576 rfl ?_
        refine j_aload_n (pc := 577) C 6 dL_changes_577 rfl ?_
        refine gf_L_100 (pc := 578) C dL_changes_578 h (fun h => ?_)
        refine c2_L_39 (pc := 581) C ⟨(Nat.le_of_ble_eq_true rfl), (Nat.le_of_ble_eq_true rfl)⟩ ⟨hb, hs⟩ (Nat.le_of_ble_eq_true rfl) dL_changes_581 h (fun r228 M228 h => ?_)
        refine j_ishl (pc := 584) C dL_changes_584 ?_
        refine j_goto (pc := 585) C 589 dL_changes_585 (by decide) ?_
        refine j_ior (pc := 589) C dL_changes_589 ?_
        refine j_istore (pc := 590) C [(8, _), (7, _), (6, _), (5, _), (4, _), (3, _), (0, _), (1, _), (2, _)] dL_changes_590 (by decide) rfl ?_
        refine j_aload_n (pc := 592) C 7 dL_changes_592 rfl ?_
        refine j_iload (pc := 593) C 3 dL_changes_593 rfl ?_
        refine j_iload_n (pc := 595) C 5 dL_changes_595 rfl ?_
        refine j_iload (pc := 596) C 0 dL_changes_596 rfl ?_
        refine j_iload (pc := 598) C 2 dL_changes_598 rfl ?_
        refine j_iconst (pc := 600) (v := (-1 : Int32)) C dL_changes_600 rfl ?_
        obtain ⟨b229, s229, hb, hs, h⟩ := h
        refine c2_L_217 (pc := 601) C ⟨(Nat.le_of_ble_eq_true rfl), (Nat.le_of_ble_eq_true rfl)⟩ ⟨hb, hs⟩ (Nat.le_of_ble_eq_true rfl) dL_changes_601 h (fun r229 M229 h => ?_)
        refine j_if_le (pc := 604) C 609 dL_changes_604 (by decide) h (fun h => ?_) (fun h => ?_)
        · refine j_aload_n (pc := 609) C 7 dL_changes_609 rfl ?_
          refine j_iload (pc := 610) C 3 dL_changes_610 rfl ?_
          refine j_iload_n (pc := 612) C 5 dL_changes_612 rfl ?_
          refine j_iload (pc := 613) C 0 dL_changes_613 rfl ?_
          refine j_iload (pc := 615) C 2 dL_changes_615 rfl ?_
          obtain ⟨b230, s230, hb, hs, h⟩ := h
          refine c2_L_228 (pc := 617) C ⟨(Nat.le_of_ble_eq_true rfl), (Nat.le_of_ble_eq_true rfl)⟩ ⟨hb, hs⟩ (Nat.le_of_ble_eq_true rfl) dL_changes_617 h (fun r230 M230 h => ?_)
          refine j_istore (pc := 620) C [(9, _), (8, _), (7, _), (6, _), (5, _), (4, _), (3, _), (0, _), (1, _), (2, _)] dL_changes_620 (by decide) rfl ?_
          refine j_iload (pc := 622) C 3 dL_changes_622 rfl ?_
          refine j_if_eq (pc := 624) (A := False) (B := True) C 639 dL_changes_624 (by decide) (by first | rw [if_pos (by decide)] ; trivial | rw [if_neg (by decide)] ; trivial) (fun z => z.elim) (fun _ => ?_)
          refine j_aload_n (pc := 627) C 7 dL_changes_627 rfl ?_
          refine j_iload (pc := 628) C 4 dL_changes_628 rfl ?_
          refine j_iload_n (pc := 630) C 6 dL_changes_630 rfl ?_
          refine j_iload (pc := 631) C 1 dL_changes_631 rfl ?_
          refine c2_L_266 (pc := 633) C ⟨(Nat.le_of_ble_eq_true rfl), (Nat.le_of_ble_eq_true rfl)⟩ ⟨hb, hs⟩ (Nat.le_of_ble_eq_true rfl) dL_changes_633 h (fun r231 M231 h => ?_)
          refine j_goto (pc := 636) C 648 dL_changes_636 (by decide) ?_
          refine j_iload (pc := 648) C 0 dL_changes_648 rfl ?_
          refine j_icmp_ne (pc := 650) C 657 dL_changes_650 (by decide) h (fun h => ?_) (fun h => ?_)
          · refine j_iconst (pc := 657) (v := (0 : Int32)) C dL_changes_657 rfl ?_
            exact j_zret (pc := 658) C dL_changes_658 hb hs h
          · refine j_iconst (pc := 653) (v := (1 : Int32)) C dL_changes_653 rfl ?_
            refine j_goto (pc := 654) C 658 dL_changes_654 (by decide) ?_
            exact j_zret (pc := 658) C dL_changes_658 hb hs h
        · refine j_iconst (pc := 607) (v := (1 : Int32)) C dL_changes_607 rfl ?_
          exact j_zret (pc := 608) C dL_changes_608 hb hs h
end GL4
