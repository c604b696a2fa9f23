/-! written by a program (wip/p34/gen.py) out of the decode rows and the tables: walks of X5 -/

section GW12
variable {p : Program} {l : Launch} {e : Env} {R : Room} {s : State} {m : MethodId} {args : Array Value} {below : List Frame} {meth : Method} {c : Code} {Q : State → Prop} {cc : ByteArray} {nL : Nat} {ret : Option FieldType} {E : EV} {M : Mm} {kc ks pc : Nat} {lo : List (Nat × Value)} {st : List Value}
theorem cs_X5_35 (C : Cx p l s m args meth c cc nL RX5 ret E) {y0 : Int32} {P : Int32 → Mm → Prop} (hR : rm_X7_isLetter.frames + 1 ≤ R.frames ∧ 8 + (1 + 11) + rm_X7_isLetter.locals ≤ R.locals) (hf : kc ≤ R.cells ∧ ks ≤ R.slots) (hst : (st.map fun v => v.category).sum ≤ 8) (d : decode cc pc = .ok (.invokestatic 35, 3)) (h : w_X7_isLetter M y0 P) (kk : ∀ r M', P r M' → J p l e R s m args below meth c Q E nL M' kc ks (pc + 3) lo (.int r :: st)) : J p l e R s m args below meth c Q E nL M kc ks pc lo (.int y0 :: st) :=
  j_cSN_I (n := 1) (As := [.int y0]) C wd_831 (c_X7_isLetter l E M y0 P h) ⟨wd_832, nw_830, wd_40, by decide +kernel, by decide +kernel, by decide +kernel⟩ rfl rfl hR hf rfl hst d kk
theorem cs_X5_39 (C : Cx p l s m args meth c cc nL RX5 ret E) {y0 : Int64} {y1 : Int32} {P : Int64 → Mm → Prop} (hR : rm_X7_withLetter.frames + 1 ≤ R.frames ∧ 8 + (3 + 11) + rm_X7_withLetter.locals ≤ R.locals) (hf : kc ≤ R.cells ∧ ks ≤ R.slots) (hst : (st.map fun v => v.category).sum ≤ 8) (d : decode cc pc = .ok (.invokestatic 39, 3)) (h : w_X7_withLetter M y0 y1 P) (kk : ∀ r M', P r M' → J p l e R s m args below meth c Q E nL M' kc ks (pc + 3) lo (.long r :: st)) : J p l e R s m args below meth c Q E nL M kc ks pc lo (.int y1 :: .long y0 :: st) :=
  j_cSN_L (n := 2) (As := [.long y0, .int y1]) C wd_834 (c_X7_withLetter l E M y0 y1 P h) ⟨wd_835, nw_833, wd_40, by decide +kernel, by decide +kernel, by decide +kernel⟩ rfl rfl hR hf rfl hst d kk
theorem cs_X5_43 (C : Cx p l s m args meth c cc nL RX5 ret E) {y0 : Int32} {P : Int32 → Mm → Prop} (hR : rm_X7_isDigit.frames + 1 ≤ R.frames ∧ 8 + (1 + 11) + rm_X7_isDigit.locals ≤ R.locals) (hf : kc ≤ R.cells ∧ ks ≤ R.slots) (hst : (st.map fun v => v.category).sum ≤ 8) (d : decode cc pc = .ok (.invokestatic 43, 3)) (h : w_X7_isDigit M y0 P) (kk : ∀ r M', P r M' → J p l e R s m args below meth c Q E nL M' kc ks (pc + 3) lo (.int r :: st)) : J p l e R s m args below meth c Q E nL M kc ks pc lo (.int y0 :: st) :=
  j_cSN_I (n := 1) (As := [.int y0]) C wd_837 (c_X7_isDigit l E M y0 P h) ⟨wd_838, nw_836, wd_40, by decide +kernel, by decide +kernel, by decide +kernel⟩ rfl rfl hR hf rfl hst d kk
abbrev rm_X5_advance : Room := { frames := 1, cells := 0, slots := 0, locals := 22 }
def l_X5_advance_0 (P : Mm → Prop) (K52 : Mm → Nat → Prop) : Nat → Mm → Nat → Prop
  | 0, _, _ => False
  | n + 1, M, x0 => zk M x0 = 5 ∧ zk M x0 = 5 ∧ (if (zI M x0 1) ≤ (zI M x0 2) then K52 M x0 else (zk M x0 = 5 ∧ ∃ a1, zR M x0 0 = some a1 ∧ zk M x0 = 5 ∧ zk M a1 = 9 ∧ vp_in (zI M x0 2) (zl M a1) ∧ (if (zI M a1 (zI M x0 2).toNatClampNeg) = (32 : Int32) then zk M x0 = 5 ∧ zk M x0 = 5 ∧ (∀ M2, M2 = sI M x0 2 ((zI M x0 2) + (1 : Int32)) → l_X5_advance_0 P K52 n M2 x0) else (zk M x0 = 5 ∧ ∃ a3, zR M x0 0 = some a3 ∧ zk M x0 = 5 ∧ zk M a3 = 9 ∧ vp_in (zI M x0 2) (zl M a3) ∧ (if (zI M a3 (zI M x0 2).toNatClampNeg) = (10 : Int32) then zk M x0 = 5 ∧ zk M x0 = 5 ∧ (∀ M4, M4 = sI M x0 2 ((zI M x0 2) + (1 : Int32)) → l_X5_advance_0 P K52 n M4 x0) else K52 M x0)))))
set_option maxHeartbeats 4000000 in
set_option maxRecDepth 100000 in
theorem jl_X5_advance_0 {P : Mm → Prop} {K52 : Mm → Nat → Prop} (C : Cx p l s m args meth c cX5_advance 1 RX5 none E) (hkc : kc ≤ rm_X5_advance.cells ∧ ks ≤ rm_X5_advance.slots) (k52 : ∀ M x0, K52 M x0 → J p l e rm_X5_advance s m args below meth c (QV below E P args s rm_X5_advance.cells rm_X5_advance.slots) E 1 M kc ks 52 [(0, .ref x0)] []) : ∀ n M x0, l_X5_advance_0 P K52 n M x0 → J p l e rm_X5_advance s m args below meth c (QV below E P args s rm_X5_advance.cells rm_X5_advance.slots) E 1 M kc ks 0 [(0, .ref x0)] [] := by
  intro n
  induction n with
  | zero => intro M x0 h; exact h.elim
  | succ n ih =>
    intro M x0 h
    rw [l_X5_advance_0] at h
    refine j_aload_n (pc := 0) C 0 dX5_advance_0 rfl ?_
    refine gf_X5_19 (pc := 1) C dX5_advance_1 h (fun h => ?_)
    refine j_aload_n (pc := 4) C 0 dX5_advance_4 rfl ?_
    refine gf_X5_15 (pc := 5) C dX5_advance_5 h (fun h => ?_)
    refine j_icmp_ge (pc := 8) C 52 dX5_advance_8 (by decide) h (fun h => ?_) (fun h => ?_)
    · exact j_weak [0] rfl (k52 _ _ h)
    · refine j_aload_n (pc := 11) C 0 dX5_advance_11 rfl ?_
      refine gf_X5_9 (pc := 12) C dX5_advance_12 h (fun a1 h => ?_)
      refine j_aload_n (pc := 15) C 0 dX5_advance_15 rfl ?_
      refine gf_X5_19 (pc := 16) C dX5_advance_16 h (fun h => ?_)
      refine j_bald (pc := 19) C dX5_advance_19 h (fun h => ?_)
      refine j_bipush (pc := 20) (v := (32 : Int32)) C dX5_advance_20 rfl ?_
      refine j_icmp_eq (pc := 22) C 39 dX5_advance_22 (by decide) h (fun h => ?_) (fun h => ?_)
      · refine j_aload_n (pc := 39) C 0 dX5_advance_39 rfl ?_
        refine j_dup (pc := 40) C dX5_advance_40 rfl ?_
        refine gf_X5_19 (pc := 41) C dX5_advance_41 h (fun h => ?_)
        refine j_iconst (pc := 44) (v := (1 : Int32)) C dX5_advance_44 rfl ?_
        refine j_iadd (pc := 45) C dX5_advance_45 ?_
        refine pf_X5_19 (pc := 46) C dX5_advance_46 h (fun M2 h => ?_)
        refine j_goto (pc := 49) C 0 dX5_advance_49 (by decide) ?_
        exact j_weak [0] rfl (ih _ _ h)
      · refine j_aload_n (pc := 25) C 0 dX5_advance_25 rfl ?_
        refine gf_X5_9 (pc := 26) C dX5_advance_26 h (fun a3 h => ?_)
        refine j_aload_n (pc := 29) C 0 dX5_advance_29 rfl ?_
        refine gf_X5_19 (pc := 30) C dX5_advance_30 h (fun h => ?_)
        refine j_bald (pc := 33) C dX5_advance_33 h (fun h => ?_)
        refine j_bipush (pc := 34) (v := (10 : Int32)) C dX5_advance_34 rfl ?_
        refine j_icmp_ne (pc := 36) C 52 dX5_advance_36 (by decide) h (fun h => ?_) (fun h => ?_)
        · exact j_weak [0] rfl (k52 _ _ h)
        · refine j_aload_n (pc := 39) C 0 dX5_advance_39 rfl ?_
          refine j_dup (pc := 40) C dX5_advance_40 rfl ?_
          refine gf_X5_19 (pc := 41) C dX5_advance_41 h (fun h => ?_)
          refine j_iconst (pc := 44) (v := (1 : Int32)) C dX5_advance_44 rfl ?_
          refine j_iadd (pc := 45) C dX5_advance_45 ?_
          refine pf_X5_19 (pc := 46) C dX5_advance_46 h (fun M4 h => ?_)
          refine j_goto (pc := 49) C 0 dX5_advance_49 (by decide) ?_
          exact j_weak [0] rfl (ih _ _ h)
def l_X5_advance_204 (P : Mm → Prop) (K267 : Mm → Nat → Prop) : Nat → Mm → Nat → Prop
  | 0, _, _ => False
  | n + 1, M, x0 => zk M x0 = 5 ∧ zk M x0 = 5 ∧ (if (zI M x0 1) ≤ (zI M x0 2) then K267 M x0 else (zk M x0 = 5 ∧ ∃ a18, zR M x0 0 = some a18 ∧ zk M x0 = 5 ∧ zk M a18 = 9 ∧ vp_in (zI M x0 2) (zl M a18) ∧ w_X7_isDigit M (zI M a18 (zI M x0 2).toNatClampNeg) (fun r19 M19 => (if r19 = 0 then K267 M19 x0 else zk M19 x0 = 5 ∧ (zk M19 x0 = 5 ∧ ∃ a20, zR M19 x0 0 = some a20 ∧ zk M19 x0 = 5 ∧ zk M19 a20 = 9 ∧ vp_in (zI M19 x0 2) (zl M19 a20) ∧ zk M19 x0 = 5 ∧ (∀ M21, M21 = sI M19 x0 6 (((zI M19 x0 6) * (10 : Int32)) + ((zI M19 a20 (zI M19 x0 2).toNatClampNeg) - (48 : Int32))) → zk M21 x0 = 5 ∧ zk M21 x0 = 5 ∧ (∀ M22, M22 = sI M21 x0 2 ((zI M21 x0 2) + (1 : Int32)) → l_X5_advance_204 P K267 n M22 x0)))))))
set_option maxHeartbeats 4000000 in
set_option maxRecDepth 100000 in
theorem jl_X5_advance_204 {P : Mm → Prop} {K267 : Mm → Nat → Prop} (C : Cx p l s m args meth c cX5_advance 1 RX5 none E) (hkc : kc ≤ rm_X5_advance.cells ∧ ks ≤ rm_X5_advance.slots) (k267 : ∀ M x0, K267 M x0 → J p l e rm_X5_advance s m args below meth c (QV below E P args s rm_X5_advance.cells rm_X5_advance.slots) E 1 M kc ks 267 [(0, .ref x0)] []) : ∀ n M x0, l_X5_advance_204 P K267 n M x0 → J p l e rm_X5_advance s m args below meth c (QV below E P args s rm_X5_advance.cells rm_X5_advance.slots) E 1 M kc ks 204 [(0, .ref x0)] [] := by
  intro n
  induction n with
  | zero => intro M x0 h; exact h.elim
  | succ n ih =>
    intro M x0 h
    rw [l_X5_advance_204] at h
    refine j_aload_n (pc := 204) C 0 dX5_advance_204 rfl ?_
    refine gf_X5_19 (pc := 205) C dX5_advance_205 h (fun h => ?_)
    refine j_aload_n (pc := 208) C 0 dX5_advance_208 rfl ?_
    refine gf_X5_15 (pc := 209) C dX5_advance_209 h (fun h => ?_)
    refine j_icmp_ge (pc := 212) C 267 dX5_advance_212 (by decide) h (fun h => ?_) (fun h => ?_)
    · exact j_weak [0] rfl (k267 _ _ h)
    · refine j_aload_n (pc := 215) C 0 dX5_advance_215 rfl ?_
      refine gf_X5_9 (pc := 216) C dX5_advance_216 h (fun a18 h => ?_)
      refine j_aload_n (pc := 219) C 0 dX5_advance_219 rfl ?_
      refine gf_X5_19 (pc := 220) C dX5_advance_220 h (fun h => ?_)
      refine j_bald (pc := 223) C dX5_advance_223 h (fun h => ?_)
      refine cs_X5_43 (pc := 224) C ⟨Nat.le_of_ble_eq_true rfl, Nat.le_of_ble_eq_true rfl⟩ hkc (Nat.le_of_ble_eq_true rfl) dX5_advance_224 h (fun r19 M19 h => ?_)
      refine j_if_eq (pc := 227) C 267 dX5_advance_227 (by decide) h (fun h => ?_) (fun h => ?_)
      · exact j_weak [0] rfl (k267 _ _ h)
      · refine j_aload_n (pc := 230) C 0 dX5_advance_230 rfl ?_
        refine j_aload_n (pc := 231) C 0 dX5_advance_231 rfl ?_
        refine gf_X5_29 (pc := 232) C dX5_advance_232 h (fun h => ?_)
        refine j_bipush (pc := 235) (v := (10 : Int32)) C dX5_advance_235 rfl ?_
        refine j_imul (pc := 237) C dX5_advance_237 ?_
        refine j_aload_n (pc := 238) C 0 dX5_advance_238 rfl ?_
        refine gf_X5_9 (pc := 239) C dX5_advance_239 h (fun a20 h => ?_)
        refine j_aload_n (pc := 242) C 0 dX5_advance_242 rfl ?_
        refine gf_X5_19 (pc := 243) C dX5_advance_243 h (fun h => ?_)
        refine j_bald (pc := 246) C dX5_advance_246 h (fun h => ?_)
        refine j_bipush (pc := 247) (v := (48 : Int32)) C dX5_advance_247 rfl ?_
        refine j_isub (pc := 249) C dX5_advance_249 ?_
        refine j_iadd (pc := 250) C dX5_advance_250 ?_
        refine pf_X5_29 (pc := 251) C dX5_advance_251 h (fun M21 h => ?_)
        refine j_aload_n (pc := 254) C 0 dX5_advance_254 rfl ?_
        refine j_dup (pc := 255) C dX5_advance_255 rfl ?_
        refine gf_X5_19 (pc := 256) C dX5_advance_256 h (fun h => ?_)
        refine j_iconst (pc := 259) (v := (1 : Int32)) C dX5_advance_259 rfl ?_
        refine j_iadd (pc := 260) C dX5_advance_260 ?_
        refine pf_X5_19 (pc := 261) C dX5_advance_261 h (fun M22 h => ?_)
        refine j_goto (pc := 264) C 204 dX5_advance_264 (by decide) ?_
        exact j_weak [0] rfl (ih _ _ h)
def l_X5_advance_104 (P : Mm → Prop) (K163 : Mm → Nat → Prop) : Nat → Mm → Nat → Prop
  | 0, _, _ => False
  | n + 1, M, x0 => zk M x0 = 5 ∧ zk M x0 = 5 ∧ (if (zI M x0 1) ≤ (zI M x0 2) then K163 M x0 else (zk M x0 = 5 ∧ ∃ a26, zR M x0 0 = some a26 ∧ zk M x0 = 5 ∧ zk M a26 = 9 ∧ vp_in (zI M x0 2) (zl M a26) ∧ w_X7_isLetter M (zI M a26 (zI M x0 2).toNatClampNeg) (fun r27 M27 => (if r27 = 0 then K163 M27 x0 else zk M27 x0 = 5 ∧ (zk M27 x0 = 5 ∧ ∃ a28, zR M27 x0 0 = some a28 ∧ zk M27 x0 = 5 ∧ zk M27 a28 = 9 ∧ vp_in (zI M27 x0 2) (zl M27 a28) ∧ w_X7_withLetter M27 (zJ M27 x0 5) (zI M27 a28 (zI M27 x0 2).toNatClampNeg) (fun r29 M29 => zk M29 x0 = 5 ∧ (∀ M30, M30 = sJ M29 x0 5 r29 → zk M30 x0 = 5 ∧ zk M30 x0 = 5 ∧ (∀ M31, M31 = sI M30 x0 2 ((zI M30 x0 2) + (1 : Int32)) → l_X5_advance_104 P K163 n M31 x0))))))))
set_option maxHeartbeats 4000000 in
set_option maxRecDepth 100000 in
theorem jl_X5_advance_104 {P : Mm → Prop} {K163 : Mm → Nat → Prop} (C : Cx p l s m args meth c cX5_advance 1 RX5 none E) (hkc : kc ≤ rm_X5_advance.cells ∧ ks ≤ rm_X5_advance.slots) (k163 : ∀ M x0, K163 M x0 → J p l e rm_X5_advance s m args below meth c (QV below E P args s rm_X5_advance.cells rm_X5_advance.slots) E 1 M kc ks 163 [(0, .ref x0)] []) : ∀ n M x0, l_X5_advance_104 P K163 n M x0 → J p l e rm_X5_advance s m args below meth c (QV below E P args s rm_X5_advance.cells rm_X5_advance.slots) E 1 M kc ks 104 [(0, .ref x0)] [] := by
  intro n
  induction n with
  | zero => intro M x0 h; exact h.elim
  | succ n ih =>
    intro M x0 h
    rw [l_X5_advance_104] at h
    refine j_aload_n (pc := 104) C 0 dX5_advance_104 rfl ?_
    refine gf_X5_19 (pc := 105) C dX5_advance_105 h (fun h => ?_)
    refine j_aload_n (pc := 108) C 0 dX5_advance_108 rfl ?_
    refine gf_X5_15 (pc := 109) C dX5_advance_109 h (fun h => ?_)
    refine j_icmp_ge (pc := 112) C 163 dX5_advance_112 (by decide) h (fun h => ?_) (fun h => ?_)
    · exact j_weak [0] rfl (k163 _ _ h)
    · refine j_aload_n (pc := 115) C 0 dX5_advance_115 rfl ?_
      refine gf_X5_9 (pc := 116) C dX5_advance_116 h (fun a26 h => ?_)
      refine j_aload_n (pc := 119) C 0 dX5_advance_119 rfl ?_
      refine gf_X5_19 (pc := 120) C dX5_advance_120 h (fun h => ?_)
      refine j_bald (pc := 123) C dX5_advance_123 h (fun h => ?_)
      refine cs_X5_35 (pc := 124) C ⟨Nat.le_of_ble_eq_true rfl, Nat.le_of_ble_eq_true rfl⟩ hkc (Nat.le_of_ble_eq_true rfl) dX5_advance_124 h (fun r27 M27 h => ?_)
      refine j_if_eq (pc := 127) C 163 dX5_advance_127 (by decide) h (fun h => ?_) (fun h => ?_)
      · exact j_weak [0] rfl (k163 _ _ h)
      · refine j_aload_n (pc := 130) C 0 dX5_advance_130 rfl ?_
        refine j_aload_n (pc := 131) C 0 dX5_advance_131 rfl ?_
        refine gf_X5_25 (pc := 132) C dX5_advance_132 h (fun h => ?_)
        refine j_aload_n (pc := 135) C 0 dX5_advance_135 rfl ?_
        refine gf_X5_9 (pc := 136) C dX5_advance_136 h (fun a28 h => ?_)
        refine j_aload_n (pc := 139) C 0 dX5_advance_139 rfl ?_
        refine gf_X5_19 (pc := 140) C dX5_advance_140 h (fun h => ?_)
        refine j_bald (pc := 143) C dX5_advance_143 h (fun h => ?_)
        refine cs_X5_39 (pc := 144) C ⟨Nat.le_of_ble_eq_true rfl, Nat.le_of_ble_eq_true rfl⟩ hkc (Nat.le_of_ble_eq_true rfl) dX5_advance_144 h (fun r29 M29 h => ?_)
        refine pf_X5_25 (pc := 147) C dX5_advance_147 h (fun M30 h => ?_)
        refine j_aload_n (pc := 150) C 0 dX5_advance_150 rfl ?_
        refine j_dup (pc := 151) C dX5_advance_151 rfl ?_
        refine gf_X5_19 (pc := 152) C dX5_advance_152 h (fun h => ?_)
        refine j_iconst (pc := 155) (v := (1 : Int32)) C dX5_advance_155 rfl ?_
        refine j_iadd (pc := 156) C dX5_advance_156 ?_
        refine pf_X5_19 (pc := 157) C dX5_advance_157 h (fun M31 h => ?_)
        refine j_goto (pc := 160) C 104 dX5_advance_160 (by decide) ?_
        exact j_weak [0] rfl (ih _ _ h)
def w_X5_advance (M : Mm) (x0 : Nat) (P : Mm → Prop) : Prop := (∃ n0, l_X5_advance_0 P (fun M5 x0_5 => zk M5 x0_5 = 5 ∧ zk M5 x0_5 = 5 ∧ (∀ M6, M6 = sI M5 x0_5 4 (zI M5 x0_5 2) → zk M6 x0_5 = 5 ∧ (∀ M7, M7 = sJ M6 x0_5 5 (0 : Int64) → zk M7 x0_5 = 5 ∧ (∀ M8, M8 = sI M7 x0_5 6 (0 : Int32) → zk M8 x0_5 = 5 ∧ zk M8 x0_5 = 5 ∧ (if (zI M8 x0_5 2) < (zI M8 x0_5 1) then (zk M8 x0_5 = 5 ∧ ∃ a9, zR M8 x0_5 0 = some a9 ∧ zk M8 x0_5 = 5 ∧ zk M8 a9 = 9 ∧ vp_in (zI M8 x0_5 2) (zl M8 a9) ∧ w_X7_isLetter M8 (zI M8 a9 (zI M8 x0_5 2).toNatClampNeg) (fun r10 M10 => (if r10 = 0 then (zk M10 x0_5 = 5 ∧ ∃ a11, zR M10 x0_5 0 = some a11 ∧ zk M10 x0_5 = 5 ∧ zk M10 a11 = 9 ∧ vp_in (zI M10 x0_5 2) (zl M10 a11) ∧ w_X7_isDigit M10 (zI M10 a11 (zI M10 x0_5 2).toNatClampNeg) (fun r12 M12 => (if r12 = 0 then (zk M12 x0_5 = 5 ∧ ∃ a13, zR M12 x0_5 0 = some a13 ∧ zk M12 x0_5 = 5 ∧ zk M12 a13 = 9 ∧ vp_in (zI M12 x0_5 2) (zl M12 a13) ∧ (if (zI M12 a13 (zI M12 x0_5 2).toNatClampNeg) = (59 : Int32) then zk M12 x0_5 = 5 ∧ (∀ M16, M16 = sI M12 x0_5 3 (3 : Int32) → zk M16 x0_5 = 5 ∧ zk M16 x0_5 = 5 ∧ (∀ M17, M17 = sI M16 x0_5 2 ((zI M16 x0_5 2) + (1 : Int32)) → P M17)) else zk M12 x0_5 = 5 ∧ (∀ M14, M14 = sI M12 x0_5 3 (4 : Int32) → zk M14 x0_5 = 5 ∧ zk M14 x0_5 = 5 ∧ (∀ M15, M15 = sI M14 x0_5 2 ((zI M14 x0_5 2) + (1 : Int32)) → P M15)))) else (∃ n204, l_X5_advance_204 P (fun M23 x0_23 => zk M23 x0_23 = 5 ∧ zk M23 x0_23 = 5 ∧ (if (3 : Int32) < ((zI M23 x0_23 2) - (zI M23 x0_23 4)) then zk M23 x0_23 = 5 ∧ (∀ M24, M24 = sI M23 x0_23 3 (4 : Int32) → P M24) else zk M23 x0_23 = 5 ∧ (∀ M25, M25 = sI M23 x0_23 3 (2 : Int32) → P M25))) n204 M12 x0_5)))) else (∃ n104, l_X5_advance_104 P (fun M32 x0_32 => zk M32 x0_32 = 5 ∧ zk M32 x0_32 = 5 ∧ (if (8 : Int32) < ((zI M32 x0_32 2) - (zI M32 x0_32 4)) then zk M32 x0_32 = 5 ∧ (∀ M33, M33 = sI M32 x0_32 3 (4 : Int32) → P M33) else zk M32 x0_32 = 5 ∧ (∀ M34, M34 = sI M32 x0_32 3 (1 : Int32) → P M34))) n104 M10 x0_5)))) else zk M8 x0_5 = 5 ∧ (∀ M35, M35 = sI M8 x0_5 3 (0 : Int32) → P M35)))))) n0 M x0)
set_option maxHeartbeats 4000000 in
set_option maxRecDepth 100000 in
theorem c_X5_advance (l : Launch) (E : EV) (M : Mm) (x0 : Nat) (P : Mm → Prop) (h : w_X5_advance M x0 P) : CtV l E yX5_advance cX5_advance 1 rm_X5_advance 0 0 [.ref x0] M P := by
  refine ctV_of (by decide +kernel) (Nat.le_of_ble_eq_true rfl) ?_
  intro p e s m args below meth c C hnm
  rw [w_X5_advance] at h
  show J p l e rm_X5_advance s m args below meth c (QV below E P args s 0 0) E 1 M 0 0 0 [(0, .ref x0)] []
  obtain ⟨n0, h⟩ := h
  refine j_weak [0] rfl (jl_X5_advance_0 C ⟨Nat.le_of_ble_eq_true rfl, Nat.le_of_ble_eq_true rfl⟩ (fun M5 x0_5 h => ?_) n0 _ _ h)
  · refine j_aload_n (pc := 52) C 0 dX5_advance_52 rfl ?_
    refine j_aload_n (pc := 53) C 0 dX5_advance_53 rfl ?_
    refine gf_X5_19 (pc := 54) C dX5_advance_54 h (fun h => ?_)
    refine pf_X5_22 (pc := 57) C dX5_advance_57 h (fun M6 h => ?_)
    refine j_aload_n (pc := 60) C 0 dX5_advance_60 rfl ?_
    refine j_lconst (pc := 61) (v := (0 : Int64)) C dX5_advance_61 rfl ?_
    refine pf_X5_25 (pc := 62) C dX5_advance_62 h (fun M7 h => ?_)
    refine j_aload_n (pc := 65) C 0 dX5_advance_65 rfl ?_
    refine j_iconst (pc := 66) (v := (0 : Int32)) C dX5_advance_66 rfl ?_
    refine pf_X5_29 (pc := 67) C dX5_advance_67 h (fun M8 h => ?_)
    refine j_aload_n (pc := 70) C 0 dX5_advance_70 rfl ?_
    refine gf_X5_19 (pc := 71) C dX5_advance_71 h (fun h => ?_)
    refine j_aload_n (pc := 74) C 0 dX5_advance_74 rfl ?_
    refine gf_X5_15 (pc := 75) C dX5_advance_75 h (fun h => ?_)
    refine j_icmp_lt (pc := 78) C 89 dX5_advance_78 (by decide) h (fun h => ?_) (fun h => ?_)
    · refine j_aload_n (pc := 89) C 0 dX5_advance_89 rfl ?_
      refine gf_X5_9 (pc := 90) C dX5_advance_90 h (fun a9 h => ?_)
      refine j_aload_n (pc := 93) C 0 dX5_advance_93 rfl ?_
      refine gf_X5_19 (pc := 94) C dX5_advance_94 h (fun h => ?_)
      refine j_bald (pc := 97) C dX5_advance_97 h (fun h => ?_)
      refine cs_X5_35 (pc := 98) C ⟨Nat.le_of_ble_eq_true rfl, Nat.le_of_ble_eq_true rfl⟩ ⟨Nat.le_of_ble_eq_true rfl, Nat.le_of_ble_eq_true rfl⟩ (Nat.le_of_ble_eq_true rfl) dX5_advance_98 h (fun r10 M10 h => ?_)
      refine j_if_eq (pc := 101) C 189 dX5_advance_101 (by decide) h (fun h => ?_) (fun h => ?_)
      · refine j_aload_n (pc := 189) C 0 dX5_advance_189 rfl ?_
        refine gf_X5_9 (pc := 190) C dX5_advance_190 h (fun a11 h => ?_)
        refine j_aload_n (pc := 193) C 0 dX5_advance_193 rfl ?_
        refine gf_X5_19 (pc := 194) C dX5_advance_194 h (fun h => ?_)
        refine j_bald (pc := 197) C dX5_advance_197 h (fun h => ?_)
        refine cs_X5_43 (pc := 198) C ⟨Nat.le_of_ble_eq_true rfl, Nat.le_of_ble_eq_true rfl⟩ ⟨Nat.le_of_ble_eq_true rfl, Nat.le_of_ble_eq_true rfl⟩ (Nat.le_of_ble_eq_true rfl) dX5_advance_198 h (fun r12 M12 h => ?_)
        refine j_if_eq (pc := 201) C 292 dX5_advance_201 (by decide) h (fun h => ?_) (fun h => ?_)
        · refine j_aload_n (pc := 292) C 0 dX5_advance_292 rfl ?_
          refine j_aload_n (pc := 293) C 0 dX5_advance_293 rfl ?_
          refine gf_X5_9 (pc := 294) C dX5_advance_294 h (fun a13 h => ?_)
          refine j_aload_n (pc := 297) C 0 dX5_advance_297 rfl ?_
          refine gf_X5_19 (pc := 298) C dX5_advance_298 h (fun h => ?_)
          refine j_bald (pc := 301) C dX5_advance_301 h (fun h => ?_)
          refine j_bipush (pc := 302) (v := (59 : Int32)) C dX5_advance_302 rfl ?_
          refine j_icmp_ne (pc := 304) C 311 dX5_advance_304 (by decide) h (fun h => ?_) (fun h => ?_)
          · refine j_iconst (pc := 311) (v := (4 : Int32)) C dX5_advance_311 rfl ?_
            refine pf_X5_32 (pc := 312) C dX5_advance_312 h (fun M14 h => ?_)
            refine j_aload_n (pc := 315) C 0 dX5_advance_315 rfl ?_
            refine j_dup (pc := 316) C dX5_advance_316 rfl ?_
            refine gf_X5_19 (pc := 317) C dX5_advance_317 h (fun h => ?_)
            refine j_iconst (pc := 320) (v := (1 : Int32)) C dX5_advance_320 rfl ?_
            refine j_iadd (pc := 321) C dX5_advance_321 ?_
            refine pf_X5_19 (pc := 322) C dX5_advance_322 h (fun M15 h => ?_)
            exact j_vret (pc := 325) C dX5_advance_325 (Nat.le_of_ble_eq_true rfl) (Nat.le_of_ble_eq_true rfl) h
          · refine j_iconst (pc := 307) (v := (3 : Int32)) C dX5_advance_307 rfl ?_
            refine j_goto (pc := 308) C 312 dX5_advance_308 (by decide) ?_
            refine pf_X5_32 (pc := 312) C dX5_advance_312 h (fun M16 h => ?_)
            refine j_aload_n (pc := 315) C 0 dX5_advance_315 rfl ?_
            refine j_dup (pc := 316) C dX5_advance_316 rfl ?_
            refine gf_X5_19 (pc := 317) C dX5_advance_317 h (fun h => ?_)
            refine j_iconst (pc := 320) (v := (1 : Int32)) C dX5_advance_320 rfl ?_
            refine j_iadd (pc := 321) C dX5_advance_321 ?_
            refine pf_X5_19 (pc := 322) C dX5_advance_322 h (fun M17 h => ?_)
            exact j_vret (pc := 325) C dX5_advance_325 (Nat.le_of_ble_eq_true rfl) (Nat.le_of_ble_eq_true rfl) h
        · obtain ⟨n204, h⟩ := h
          refine j_weak [0] rfl (jl_X5_advance_204 C ⟨Nat.le_of_ble_eq_true rfl, Nat.le_of_ble_eq_true rfl⟩ (fun M23 x0_23 h => ?_) n204 _ _ h)
          · refine j_aload_n (pc := 267) C 0 dX5_advance_267 rfl ?_
            refine j_aload_n (pc := 268) C 0 dX5_advance_268 rfl ?_
            refine gf_X5_19 (pc := 269) C dX5_advance_269 h (fun h => ?_)
            refine j_aload_n (pc := 272) C 0 dX5_advance_272 rfl ?_
            refine gf_X5_22 (pc := 273) C dX5_advance_273 h (fun h => ?_)
            refine j_isub (pc := 276) C dX5_advance_276 ?_
            refine j_iconst (pc := 277) (v := (3 : Int32)) C dX5_advance_277 rfl ?_
            refine j_icmp_gt (pc := 278) C 285 dX5_advance_278 (by decide) h (fun h => ?_) (fun h => ?_)
            · refine j_iconst (pc := 285) (v := (4 : Int32)) C dX5_advance_285 rfl ?_
              refine pf_X5_32 (pc := 286) C dX5_advance_286 h (fun M24 h => ?_)
              refine j_goto (pc := 289) C 325 dX5_advance_289 (by decide) ?_
              exact j_vret (pc := 325) C dX5_advance_325 (Nat.le_of_ble_eq_true rfl) (Nat.le_of_ble_eq_true rfl) h
            · refine j_iconst (pc := 281) (v := (2 : Int32)) C dX5_advance_281 rfl ?_
              refine j_goto (pc := 282) C 286 dX5_advance_282 (by decide) ?_
              refine pf_X5_32 (pc := 286) C dX5_advance_286 h (fun M25 h => ?_)
              refine j_goto (pc := 289) C 325 dX5_advance_289 (by decide) ?_
              exact j_vret (pc := 325) C dX5_advance_325 (Nat.le_of_ble_eq_true rfl) (Nat.le_of_ble_eq_true rfl) h
      · obtain ⟨n104, h⟩ := h
        refine j_weak [0] rfl (jl_X5_advance_104 C ⟨Nat.le_of_ble_eq_true rfl, Nat.le_of_ble_eq_true rfl⟩ (fun M32 x0_32 h => ?_) n104 _ _ h)
        · refine j_aload_n (pc := 163) C 0 dX5_advance_163 rfl ?_
          refine j_aload_n (pc := 164) C 0 dX5_advance_164 rfl ?_
          refine gf_X5_19 (pc := 165) C dX5_advance_165 h (fun h => ?_)
          refine j_aload_n (pc := 168) C 0 dX5_advance_168 rfl ?_
          refine gf_X5_22 (pc := 169) C dX5_advance_169 h (fun h => ?_)
          refine j_isub (pc := 172) C dX5_advance_172 ?_
          refine j_bipush (pc := 173) (v := (8 : Int32)) C dX5_advance_173 rfl ?_
          refine j_icmp_gt (pc := 175) C 182 dX5_advance_175 (by decide) h (fun h => ?_) (fun h => ?_)
          · refine j_iconst (pc := 182) (v := (4 : Int32)) C dX5_advance_182 rfl ?_
            refine pf_X5_32 (pc := 183) C dX5_advance_183 h (fun M33 h => ?_)
            refine j_goto (pc := 186) C 325 dX5_advance_186 (by decide) ?_
            exact j_vret (pc := 325) C dX5_advance_325 (Nat.le_of_ble_eq_true rfl) (Nat.le_of_ble_eq_true rfl) h
          · refine j_iconst (pc := 178) (v := (1 : Int32)) C dX5_advance_178 rfl ?_
            refine j_goto (pc := 179) C 183 dX5_advance_179 (by decide) ?_
            refine pf_X5_32 (pc := 183) C dX5_advance_183 h (fun M34 h => ?_)
            refine j_goto (pc := 186) C 325 dX5_advance_186 (by decide) ?_
            exact j_vret (pc := 325) C dX5_advance_325 (Nat.le_of_ble_eq_true rfl) (Nat.le_of_ble_eq_true rfl) h
    · refine j_aload_n (pc := 81) C 0 dX5_advance_81 rfl ?_
      refine j_iconst (pc := 82) (v := (0 : Int32)) C dX5_advance_82 rfl ?_
      refine pf_X5_32 (pc := 83) C dX5_advance_83 h (fun M35 h => ?_)
      refine j_goto (pc := 86) C 325 dX5_advance_86 (by decide) ?_
      exact j_vret (pc := 325) C dX5_advance_325 (Nat.le_of_ble_eq_true rfl) (Nat.le_of_ble_eq_true rfl) h
end GW12
