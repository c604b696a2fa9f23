/-! written by a program (wip/p34/gen.py) out of the decode rows and the tables: walks of the law -/

section GL7
variable {p : Program} {l : Launch} {e : Env} {R : Room} {s : State} {m : MethodId} {args : Array Value} {below : List Frame} {meth : Method} {c : Code} {Q : State → Prop} {cc : ByteArray} {nL : Nat} {ret : Option FieldType} {E : EV} {M : Mm} {kc ks pc : Nat} {lo : List (Nat × Value)} {st : List Value}
theorem c2_L_121 (C : Cx p l s m args meth c cc nL RL ret E) {b : Nat} {P : Mm → Prop} (hR : rm_J4_init_da8c8.frames + 1 ≤ R.frames ∧ 8 + (1 + 11) + rm_J4_init_da8c8.locals ≤ R.locals) (hf : kc + 1 ≤ R.cells ∧ ks + 16 ≤ R.slots) (hst : (st.map fun v => v.category).sum ≤ 8) (d : decode cc pc = .ok (.invokespecial 121, 3)) (h : w_J4_init_da8c8 M b P) (kk : ∀ M', P M' → J p l e R s m args below meth c Q E nL M' (kc + 1) (ks + 16) (pc + 3) lo st) : J p l e R s m args below meth c Q E nL M kc ks pc lo (.ref b :: st) :=
  j_cI_V (n := 0) (As := []) C rfl wd_301 (c_J4_init_da8c8 l E M b P h) ⟨wd_302, wd_300, wd_46, by decide +kernel, by decide +kernel, by decide +kernel⟩ rfl rfl hR hf rfl hst d kk
theorem c2_L_122 (C : Cx p l s m args meth c cc nL RL ret E) {y0 : Nat} {y1 : Nat} {P : Option Nat → Mm → Prop} {b1 s1 : Nat} (hR : 6 + 1 ≤ R.frames ∧ 8 + (10 + 11) + 148 ≤ R.locals) (hf : kc + b1 ≤ R.cells ∧ ks + s1 ≤ R.slots) (hst : (st.map fun v => v.category).sum ≤ 8) (d : decode cc pc = .ok (.invokestatic 122, 3)) (h : w_L_season M y0 y1 P b1 s1) (kk : ∀ r M', P r M' → J p l e R s m args below meth c Q E nL M' (kc + b1) (ks + s1) (pc + 3) lo (va_rf r :: st)) : J p l e R s m args below meth c Q E nL M kc ks pc lo (.ref y1 :: .ref y0 :: st) :=
  j_cS_N (n := 2) (As := [.ref y0, .ref y1]) C wd_330 (c_L_season l E M y0 y1 P b1 s1 h) ⟨wd_331, wd_329, wd_39, by decide +kernel, by decide +kernel, by decide +kernel⟩ rfl rfl hR hf rfl hst d kk
theorem c2_L_126 (C : Cx p l s m args meth c cc nL RL ret E) {b : Nat} {P : Option Nat → Mm → Prop} (hR : rm_J4_toString_0e30d.frames + 1 ≤ R.frames ∧ 8 + (1 + 11) + rm_J4_toString_0e30d.locals ≤ R.locals) (hf : kc + 2 ≤ R.cells ∧ ks + 704 ≤ R.slots) (hst : (st.map fun v => v.category).sum ≤ 8) (d : decode cc pc = .ok (.invokevirtual 126, 3)) (h : zk M b = 16 ∧ w_J4_toString_0e30d M b P) (kk : ∀ r M', P r M' → J p l e R s m args below meth c Q E nL M' (kc + 2) (ks + 704) (pc + 3) lo (va_rf r :: st)) : J p l e R s m args below meth c Q E nL M kc ks pc lo (.ref b :: st) :=
  j_cV_N (n := 0) (As := []) C co_J4 rfl wd_621 wd_622 h.1 (c_J4_toString_0e30d l E M b P h.2) ⟨wd_623, wd_620, wd_46, by decide +kernel, by decide +kernel, by decide +kernel⟩ rfl rfl hR hf rfl hst d kk
theorem c2_L_130_AA (C : Cx p l s m args meth c cc nL RL ret E) {y0 : Nat} {y1 : Nat} {P : Int32 → Mm → Prop} {b1 s1 : Nat} (hR : 4 + 1 ≤ R.frames ∧ 8 + (6 + 11) + 93 ≤ R.locals) (hf : kc + b1 ≤ R.cells ∧ ks + s1 ≤ R.slots) (hst : (st.map fun v => v.category).sum ≤ 8) (d : decode cc pc = .ok (.invokestatic 130, 3)) (h : w_L_feeds_AA M y0 y1 P b1 s1) (kk : ∀ r M', P r M' → J p l e R s m args below meth c Q E nL M' (kc + b1) (ks + s1) (pc + 3) lo (.int r :: st)) : J p l e R s m args below meth c Q E nL M kc ks pc lo (.ref y1 :: .ref y0 :: st) :=
  j_cS_I (n := 2) (As := [.ref y0, .ref y1]) C wd_668 (c_L_feeds_AA l E M y0 y1 P b1 s1 h) ⟨wd_669, wd_667, wd_39, by decide +kernel, by decide +kernel, by decide +kernel⟩ rfl rfl hR hf rfl hst d kk
theorem c2_L_134 (C : Cx p l s m args meth c cc nL RL ret E) {b : Nat} {P : Int32 → Mm → Prop} (hR : rm_J4_length_8abf5.frames + 1 ≤ R.frames ∧ 8 + (1 + 11) + rm_J4_length_8abf5.locals ≤ R.locals) (hf : kc ≤ R.cells ∧ ks ≤ R.slots) (hst : (st.map fun v => v.category).sum ≤ 8) (d : decode cc pc = .ok (.invokevirtual 134, 3)) (h : zk M b = 16 ∧ w_J4_length_8abf5 M b P) (kk : ∀ r M', P r M' → J p l e R s m args below meth c Q E nL M' kc ks (pc + 3) lo (.int r :: st)) : J p l e R s m args below meth c Q E nL M kc ks pc lo (.ref b :: st) :=
  j_cV_I (n := 0) (As := []) C co_J4 rfl wd_640 wd_1393 h.1 (c_J4_length_8abf5 l E M b P h.2) ⟨wd_641, wd_694, wd_46, by decide +kernel, by decide +kernel, by decide +kernel⟩ rfl rfl hR hf rfl hst d kk
theorem c2_L_135 (C : Cx p l s m args meth c cc nL RL ret E) {b : Nat} {y0 : Int32} {P : Int32 → Mm → Prop} (hR : rm0_X7_parse.frames + 1 ≤ R.frames ∧ 8 + (3 + 11) + rm0_X7_parse.locals ≤ R.locals) (hf : kc + 2 ≤ R.cells ∧ ks + 11 ≤ R.slots) (hst : (st.map fun v => v.category).sum ≤ 8) (d : decode cc pc = .ok (.invokevirtual 135, 3)) (h : zk M b = 7 ∧ w_X7_parse M b y0 P (fun _ _ => False)) (kk : ∀ r M', P r M' → J p l e R s m args below meth c Q E nL M' (kc + 2) (ks + 11) (pc + 3) lo (.int r :: st)) : J p l e R s m args below meth c Q E nL M kc ks pc lo (.int y0 :: .ref b :: st) :=
  j_cV_I (n := 1) (As := [.int y0]) C co_X7 rfl wd_696 wd_697 h.1 (c0_X7_parse l E M b y0 P h.2) ⟨wd_698, wd_695, wd_40, by decide +kernel, by decide +kernel, by decide +kernel⟩ rfl rfl hR hf rfl hst d kk
theorem c2_L_139 (C : Cx p l s m args meth c cc nL RL ret E) {y0 : Nat} {y1 : Nat} {y2 : Nat} {P : Int32 → Mm → Prop} {b1 s1 : Nat} (hR : 11 + 1 ≤ R.frames ∧ 8 + (10 + 11) + 296 ≤ R.locals) (hf : kc + b1 ≤ R.cells ∧ ks + s1 ≤ R.slots) (hst : (st.map fun v => v.category).sum ≤ 8) (d : decode cc pc = .ok (.invokestatic 139, 3)) (h : w_L_changes M y0 y1 y2 P b1 s1) (kk : ∀ r M', P r M' → J p l e R s m args below meth c Q E nL M' (kc + b1) (ks + s1) (pc + 3) lo (.int r :: st)) : J p l e R s m args below meth c Q E nL M kc ks pc lo (.ref y2 :: .ref y1 :: .ref y0 :: st) :=
  j_cS_I (n := 3) (As := [.ref y0, .ref y1, .ref y2]) C wd_936 (c_L_changes l E M y0 y1 y2 P b1 s1 h) ⟨wd_937, wd_935, wd_39, by decide +kernel, by decide +kernel, by decide +kernel⟩ rfl rfl hR hf rfl hst d kk
theorem c2_L_143 (C : Cx p l s m args meth c cc nL RL ret E) {y0 : Nat} {y1 : Nat} {P : Int32 → Mm → Prop} (hR : rm_L_services.frames + 1 ≤ R.frames ∧ 8 + (8 + 11) + rm_L_services.locals ≤ R.locals) (hf : kc ≤ R.cells ∧ ks ≤ R.slots) (hst : (st.map fun v => v.category).sum ≤ 8) (d : decode cc pc = .ok (.invokestatic 143, 3)) (h : w_L_services M y0 y1 P) (kk : ∀ r M', P r M' → J p l e R s m args below meth c Q E nL M' kc ks (pc + 3) lo (.int r :: st)) : J p l e R s m args below meth c Q E nL M kc ks pc lo (.ref y1 :: .ref y0 :: st) :=
  j_cS_I (n := 2) (As := [.ref y0, .ref y1]) C wd_1245 (c_L_services l E M y0 y1 P h) ⟨wd_1246, wd_1244, wd_39, by decide +kernel, by decide +kernel, by decide +kernel⟩ rfl rfl hR hf rfl hst d kk
theorem c2_L_147 (C : Cx p l s m args meth c cc nL RL ret E) {y0 : Nat} {y1 : Nat} {y2 : Nat} {P : Int32 → Mm → Prop} (hR : rm_L_players.frames + 1 ≤ R.frames ∧ 8 + (8 + 11) + rm_L_players.locals ≤ R.locals) (hf : kc ≤ R.cells ∧ ks ≤ R.slots) (hst : (st.map fun v => v.category).sum ≤ 8) (d : decode cc pc = .ok (.invokestatic 147, 3)) (h : w_L_players M y0 y1 y2 P) (kk : ∀ r M', P r M' → J p l e R s m args below meth c Q E nL M' kc ks (pc + 3) lo (.int r :: st)) : J p l e R s m args below meth c Q E nL M kc ks pc lo (.ref y2 :: .ref y1 :: .ref y0 :: st) :=
  j_cS_I (n := 3) (As := [.ref y0, .ref y1, .ref y2]) C wd_1279 (c_L_players l E M y0 y1 y2 P h) ⟨wd_1280, wd_1278, wd_39, by decide +kernel, by decide +kernel, by decide +kernel⟩ rfl rfl hR hf rfl hst d kk
theorem c2_L_149 (C : Cx p l s m args meth c cc nL RL ret E) {y0 : Nat} {y1 : Nat} {y2 : Nat} {P : Int32 → Mm → Prop} {b1 s1 : Nat} (hR : 11 + 1 ≤ R.frames ∧ 8 + (12 + 11) + 296 ≤ R.locals) (hf : kc + b1 ≤ R.cells ∧ ks + s1 ≤ R.slots) (hst : (st.map fun v => v.category).sum ≤ 8) (d : decode cc pc = .ok (.invokestatic 149, 3)) (h : w_L_asks M y0 y1 y2 P b1 s1) (kk : ∀ r M', P r M' → J p l e R s m args below meth c Q E nL M' (kc + b1) (ks + s1) (pc + 3) lo (.int r :: st)) : J p l e R s m args below meth c Q E nL M kc ks pc lo (.ref y2 :: .ref y1 :: .ref y0 :: st) :=
  j_cS_I (n := 3) (As := [.ref y0, .ref y1, .ref y2]) C wd_1365 (c_L_asks l E M y0 y1 y2 P b1 s1 h) ⟨wd_1366, wd_1364, wd_39, by decide +kernel, by decide +kernel, by decide +kernel⟩ rfl rfl hR hf rfl hst d kk
abbrev rm_L_plays (B S : Nat) : Room := { frames := 12, cells := B, slots := S, locals := 327 }
def l_L_plays_41 (B S : Nat) (P : Int32 → Mm → Prop) (K83 : Mm → Nat → Nat → Prop) (K91 : Mm → Nat → Nat → Prop) : Nat → Mm → Nat → Nat → Nat → Nat → Nat → Int32 → Prop
  | 0, _, _, _, _, _, _, _ => False
  | n + 1, M, b, s, x0, x1, x3, x4 => (if (26 : Int32) ≤ x4 then K91 M b s else ∃ b8 s8, b + b8 ≤ B ∧ s + s8 ≤ S ∧ w_L_changes M x0 x3 x1 (fun r8 M8 => (if r8 = 0 then K83 M8 (b + b8) (s + s8) else w_L_services M8 x0 x3 (fun r9 M9 => (if r9 = 0 then K83 M9 (b + b8) (s + s8) else w_L_players M9 x0 x3 x1 (fun r10 M10 => (if r10 = 0 then K83 M10 (b + b8) (s + s8) else ∃ b11 s11, (b + b8) + b11 ≤ B ∧ (s + s8) + s11 ≤ S ∧ w_L_asks M10 x0 x3 x1 (fun r11 M11 => (if r11 = 0 then K83 M11 ((b + b8) + b11) ((s + s8) + s11) else l_L_plays_41 B S P K83 K91 n M11 ((b + b8) + b11) ((s + s8) + s11) x0 x1 x3 (x4 + (1 : Int32)))) b11 s11)))))) b8 s8)
set_option maxHeartbeats 4000000 in
set_option maxRecDepth 100000 in
theorem jl_L_plays_41 {s0 : State} {B S : Nat} {P : Int32 → Mm → Prop} {K83 : Mm → Nat → Nat → Prop} {K91 : Mm → Nat → Nat → Prop} (C : Cx p l s0 m args meth c cL_plays 5 RL (some .boolean) E) (k83 : ∀ M b s, b ≤ B → s ≤ S → K83 M b s → J p l e (rm_L_plays B S) s0 m args below meth c (QI below E P args s0 B S) E 5 M b s 83 [] []) (k91 : ∀ M b s, b ≤ B → s ≤ S → K91 M b s → J p l e (rm_L_plays B S) s0 m args below meth c (QI below E P args s0 B S) E 5 M b s 91 [] []) : ∀ n M b s x0 x1 x3 x4, b ≤ B → s ≤ S → l_L_plays_41 B S P K83 K91 n M b s x0 x1 x3 x4 → J p l e (rm_L_plays B S) s0 m args below meth c (QI below E P args s0 B S) E 5 M b s 41 [(0, .ref x0), (1, .ref x1), (3, .ref x3), (4, .int x4)] [] := by
  intro n
  induction n with
  | zero => intro M b s x0 x1 x3 x4 hb hs h; exact h.elim
  | succ n ih =>
    intro M b s x0 x1 x3 x4 hb hs h
    rw [l_L_plays_41] at h
    refine j_iload (pc := 41) C 3 dL_plays_41 rfl ?_
    refine j_bipush (pc := 43) (v := (26 : Int32)) C dL_plays_43 rfl ?_
    refine j_icmp_ge (pc := 45) C 91 dL_plays_45 (by decide) h (fun h => ?_) (fun h => ?_)
    · exact j_weak [] rfl (k91 _ _ _  hb hs h)
    · refine j_aload_n (pc := 48) C 0 dL_plays_48 rfl ?_
      refine j_aload_n (pc := 49) C 2 dL_plays_49 rfl ?_
      refine j_aload_n (pc := 50) C 1 dL_plays_50 rfl ?_
      obtain ⟨b8, s8, hb, hs, h⟩ := h
      refine c2_L_139 (pc := 51) C ⟨(Nat.le_of_ble_eq_true rfl), (Nat.le_of_ble_eq_true rfl)⟩ ⟨hb, hs⟩ (Nat.le_of_ble_eq_true rfl) dL_plays_51 h (fun r8 M8 h => ?_)
      refine j_if_eq (pc := 54) C 83 dL_plays_54 (by decide) h (fun h => ?_) (fun h => ?_)
      · exact j_weak [] rfl (k83 _ _ _  hb hs h)
      · refine j_aload_n (pc := 57) C 0 dL_plays_57 rfl ?_
        refine j_aload_n (pc := 58) C 2 dL_plays_58 rfl ?_
        refine c2_L_143 (pc := 59) C ⟨(Nat.le_of_ble_eq_true rfl), (Nat.le_of_ble_eq_true rfl)⟩ ⟨hb, hs⟩ (Nat.le_of_ble_eq_true rfl) dL_plays_59 h (fun r9 M9 h => ?_)
        refine j_if_eq (pc := 62) C 83 dL_plays_62 (by decide) h (fun h => ?_) (fun h => ?_)
        · exact j_weak [] rfl (k83 _ _ _  hb hs h)
        · refine j_aload_n (pc := 65) C 0 dL_plays_65 rfl ?_
          refine j_aload_n (pc := 66) C 2 dL_plays_66 rfl ?_
          refine j_aload_n (pc := 67) C 1 dL_plays_67 rfl ?_
          refine c2_L_147 (pc := 68) C ⟨(Nat.le_of_ble_eq_true rfl), (Nat.le_of_ble_eq_true rfl)⟩ ⟨hb, hs⟩ (Nat.le_of_ble_eq_true rfl) dL_plays_68 h (fun r10 M10 h => ?_)
          refine j_if_eq (pc := 71) C 83 dL_plays_71 (by decide) h (fun h => ?_) (fun h => ?_)
          · exact j_weak [] rfl (k83 _ _ _  hb hs h)
          · refine j_aload_n (pc := 74) C 0 dL_plays_74 rfl ?_
            refine j_aload_n (pc := 75) C 2 dL_plays_75 rfl ?_
            refine j_aload_n (pc := 76) C 1 dL_plays_76 rfl ?_
            obtain ⟨b11, s11, hb, hs, h⟩ := h
            refine c2_L_149 (pc := 77) C ⟨(Nat.le_of_ble_eq_true rfl), (Nat.le_of_ble_eq_true rfl)⟩ ⟨hb, hs⟩ (Nat.le_of_ble_eq_true rfl) dL_plays_77 h (fun r11 M11 h => ?_)
            refine j_if_ne (pc := 80) C 85 dL_plays_80 (by decide) h (fun h => ?_) (fun h => ?_)
            · refine j_iinc (pc := 85) (v := (1 : Int32)) C 3 [(4, _), (0, _), (1, _), (3, _)] dL_plays_85 rfl rfl (by decide) rfl ?_
              refine j_goto (pc := 88) C 41 dL_plays_88 (by decide) ?_
              exact j_weak [1, 2, 3, 0] rfl (ih _ _ _ _ _ _ _ hb hs h)
            · exact j_weak [] rfl (k83 _ _ _  hb hs h)
def w_L_plays (M : Mm) (x0 : Nat) (x1 : Nat) (P : Int32 → Mm → Prop) (B S : Nat) : Prop := 0 + 1 ≤ B ∧ 0 + 4 ≤ S ∧ (∀ a1 M1, a1 = zn M → M1 = sN M 16 0 → (0 + 1) + 1 ≤ B ∧ (0 + 4) + 16 ≤ S ∧ w_J4_init_da8c8 M1 a1 (fun M2 => ∃ b3 s3, ((0 + 1) + 1) + b3 ≤ B ∧ ((0 + 4) + 16) + s3 ≤ S ∧ w_L_season M2 a1 x1 (fun r3 M3 => ∃ a3, r3 = some a3 ∧ (((0 + 1) + 1) + b3) + 2 ≤ B ∧ (((0 + 4) + 16) + s3) + 704 ≤ S ∧ zk M3 a1 = 16 ∧ w_J4_toString_0e30d M3 a1 (fun r4 M4 => ∃ a4, r4 = some a4 ∧ ∃ b5 s5, ((((0 + 1) + 1) + b3) + 2) + b5 ≤ B ∧ ((((0 + 4) + 16) + s3) + 704) + s5 ≤ S ∧ w_L_feeds_AA M4 x0 a4 (fun r5 M5 => (if r5 = 0 then ((0 : Int32) = 0 ∨ (0 : Int32) = 1) ∧ P (0 : Int32) M5 else zk M5 a1 = 16 ∧ w_J4_length_8abf5 M5 a1 (fun r6 M6 => (((((0 + 1) + 1) + b3) + 2) + b5) + 2 ≤ B ∧ (((((0 + 4) + 16) + s3) + 704) + s5) + 11 ≤ S ∧ zk M6 x0 = 7 ∧ w_X7_parse M6 x0 r6 (fun r7 M7 => (if r7 = 0 then (∃ n41, l_L_plays_41 B S P (fun M12 b12 s12 => ((0 : Int32) = 0 ∨ (0 : Int32) = 1) ∧ P (0 : Int32) M12) (fun M13 b13 s13 => ((1 : Int32) = 0 ∨ (1 : Int32) = 1) ∧ P (1 : Int32) M13) n41 M7 ((((((0 + 1) + 1) + b3) + 2) + b5) + 2) ((((((0 + 4) + 16) + s3) + 704) + s5) + 11) x0 x1 a3 (0 : Int32)) else ((0 : Int32) = 0 ∨ (0 : Int32) = 1) ∧ P (0 : Int32) M7)) (fun _ _ => False)))) b5 s5)) b3 s3))
set_option maxHeartbeats 4000000 in
set_option maxRecDepth 100000 in
theorem c_L_plays (l : Launch) (E : EV) (M : Mm) (x0 : Nat) (x1 : Nat) (P : Int32 → Mm → Prop) (B S : Nat) (h : w_L_plays M x0 x1 P B S) : CtI l E yL_plays cL_plays 5 .boolean (rm_L_plays B S) B S [.ref x0, .ref x1] M P := by
  refine ctI_of (by decide +kernel) (Nat.le_of_ble_eq_true rfl) ?_
  intro p e s m args below meth c C
  rw [w_L_plays] at h
  have hb : 0 ≤ B := Nat.zero_le _
  have hs : 0 ≤ S := Nat.zero_le _
  show J p l e (rm_L_plays B S) s m args below meth c (QI below E P args s B S) E 5 M 0 0 0 [(0, .ref x0), (1, .ref x1)] []
  obtain ⟨hb, hs, h⟩ := h
  refine n_new (pc := 0) C co_J4 df_J4 wd_298 wd_299 wd_46 dL_plays_0 hb hs h (fun a1 M1 h => ?_)
  refine j_dup (pc := 3) C dL_plays_3 rfl ?_
  obtain ⟨hb, hs, h⟩ := h
  refine c2_L_121 (pc := 4) C ⟨(Nat.le_of_ble_eq_true rfl), (Nat.le_of_ble_eq_true rfl)⟩ ⟨hb, hs⟩ (Nat.le_of_ble_eq_true rfl) dL_plays_4 h (fun M2 h => ?_)
  refine j_astore_n (pc := 7) C [(2, _), (0, _), (1, _)] dL_plays_7 (by decide) rfl ?_
  refine j_aload_n (pc := 8) C 0 dL_plays_8 rfl ?_
  refine j_aload_n (pc := 9) C 2 dL_plays_9 rfl ?_
  obtain ⟨b3, s3, hb, hs, h⟩ := h
  refine c2_L_122 (pc := 10) C ⟨(Nat.le_of_ble_eq_true rfl), (Nat.le_of_ble_eq_true rfl)⟩ ⟨hb, hs⟩ (Nat.le_of_ble_eq_true rfl) dL_plays_10 h (fun r3 M3 h => ?_)
  obtain ⟨a3, rfl, h⟩ := h
  refine j_astore_n (pc := 13) C [(3, _), (2, _), (0, _), (1, _)] dL_plays_13 (by decide) rfl ?_
  refine j_aload_n (pc := 14) C 2 dL_plays_14 rfl ?_
  refine j_aload_n (pc := 15) C 1 dL_plays_15 rfl ?_
  obtain ⟨hb, hs, h⟩ := h
  refine c2_L_126 (pc := 16) C ⟨(Nat.le_of_ble_eq_true rfl), (Nat.le_of_ble_eq_true rfl)⟩ ⟨hb, hs⟩ (Nat.le_of_ble_eq_true rfl) dL_plays_16 h (fun r4 M4 h => ?_)
  obtain ⟨a4, rfl, h⟩ := h
  obtain ⟨b5, s5, hb, hs, h⟩ := h
  refine c2_L_130_AA (pc := 19) C ⟨(Nat.le_of_ble_eq_true rfl), (Nat.le_of_ble_eq_true rfl)⟩ ⟨hb, hs⟩ (Nat.le_of_ble_eq_true rfl) dL_plays_19 h (fun r5 M5 h => ?_)
  refine j_if_eq (pc := 22) C 36 dL_plays_22 (by decide) h (fun h => ?_) (fun h => ?_)
  · refine j_iconst (pc := 36) (v := (0 : Int32)) C dL_plays_36 rfl ?_
    exact j_zret (pc := 37) C dL_plays_37 hb hs h
  · refine j_aload_n (pc := 25) C 2 dL_plays_25 rfl ?_
    refine j_aload_n (pc := 26) C 1 dL_plays_26 rfl ?_
    refine c2_L_134 (pc := 27) C ⟨(Nat.le_of_ble_eq_true rfl), (Nat.le_of_ble_eq_true rfl)⟩ ⟨hb, hs⟩ (Nat.le_of_ble_eq_true rfl) dL_plays_27 h (fun r6 M6 h => ?_)
    obtain ⟨hb, hs, h⟩ := h
    refine c2_L_135 (pc := 30) C ⟨(Nat.le_of_ble_eq_true rfl), (Nat.le_of_ble_eq_true rfl)⟩ ⟨hb, hs⟩ (Nat.le_of_ble_eq_true rfl) dL_plays_30 h (fun r7 M7 h => ?_)
    refine j_if_eq (pc := 33) C 38 dL_plays_33 (by decide) h (fun h => ?_) (fun h => ?_)
    · refine j_iconst (pc := 38) (v := (0 : Int32)) C dL_plays_38 rfl ?_
      refine j_istore (pc := 39) C [(4, _), (3, _), (2, _), (0, _), (1, _)] dL_plays_39 (by decide) rfl ?_
      obtain ⟨n41, h⟩ := h
      refine j_weak [3, 4, 1, 0] rfl (jl_L_plays_41 C (fun M12 b12 s12 hb hs h => ?_) (fun M13 b13 s13 hb hs h => ?_) n41 _ _ _ _ _ _ _ hb hs h)
      · refine j_iconst (pc := 83) (v := (0 : Int32)) C dL_plays_83 rfl ?_
        exact j_zret (pc := 84) C dL_plays_84 hb hs h
      · refine j_iconst (pc := 91) (v := (1 : Int32)) C dL_plays_91 rfl ?_
        exact j_zret (pc := 92) C dL_plays_92 hb hs h
    · refine j_iconst (pc := 36) (v := (0 : Int32)) C dL_plays_36 rfl ?_
      exact j_zret (pc := 37) C dL_plays_37 hb hs h
end GL7
