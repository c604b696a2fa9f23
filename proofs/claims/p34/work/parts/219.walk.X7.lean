/-! written by a program (wip/p34/gen.py) out of the decode rows and the tables: walks of X7 -/

section GW19
variable {p : Program} {l : Launch} {e : Env} {R : Room} {s : State} {m : MethodId} {args : Array Value} {below : List Frame} {meth : Method} {c : Code} {Q : State → Prop} {cc : ByteArray} {nL : Nat} {ret : Option FieldType} {E : EV} {M : Mm} {kc ks pc : Nat} {lo : List (Nat × Value)} {st : List Value}
theorem cs_X7_261 {Qc : Array Value → State → Outcome → State → Prop} {X : String → Mm → Prop} {mc2 ms2 : Nat} (C : Cx p l s m args meth c cc nL RX7 ret E) (hex : ∀ x ∈ c.exceptionTable.toList, False) {b : Nat} {y0 : Int32} {y1 : Int32} {y2 : Int32} {y3 : Int32} {P : Mm → Prop} (hR : rm_X7_requirePlaceAndWorks.frames + 1 ≤ R.frames ∧ 8 + (6 + 11) + rm_X7_requirePlaceAndWorks.locals ≤ R.locals) (hf : kc + 4 ≤ R.cells ∧ ks + 24 ≤ R.slots) (hf2 : kc + 4 ≤ mc2 ∧ ks + 24 ≤ ms2) (hst : (st.map fun v => v.category).sum ≤ 8) (d : decode cc pc = .ok (.invokevirtual 261, 3)) (h : zk M b = 7 ∧ w_X7_requirePlaceAndWorks M b y0 y1 y2 y3 P X) (kk : ∀ M', P M' → J p l e R s m args below meth c (vx_MQ below Qc (XX E X) args s mc2 ms2 (fun q => E.2.2.1 ≤ q)) E nL M' (kc + 4) (ks + 24) (pc + 3) lo st) : J p l e R s m args below meth c (vx_MQ below Qc (XX E X) args s mc2 ms2 (fun q => E.2.2.1 ≤ q)) E nL M kc ks pc lo (.int y3 :: .int y2 :: .int y1 :: .int y0 :: .ref b :: st) :=
  j_xV_V (n := 4) (As := [.int y0, .int y1, .int y2, .int y3]) C hex co_X7 rfl wd_1224 wd_34 h.1 (c_X7_requirePlaceAndWorks l E M b y0 y1 y2 y3 P X h.2) ⟨wd_1225, wd_1222, wd_40, by decide +kernel, by decide +kernel, by decide +kernel⟩ rfl rfl hR hf hf2 rfl hst d (fun _ _ q => q) kk
theorem cs0_X7_261 (C : Cx p l s m args meth c cc nL RX7 ret E) {b : Nat} {y0 : Int32} {y1 : Int32} {y2 : Int32} {y3 : Int32} {P : Mm → Prop} (hR : rm0_X7_requirePlaceAndWorks.frames + 1 ≤ R.frames ∧ 8 + (6 + 11) + rm0_X7_requirePlaceAndWorks.locals ≤ R.locals) (hf : kc ≤ R.cells ∧ ks ≤ R.slots) (hst : (st.map fun v => v.category).sum ≤ 8) (d : decode cc pc = .ok (.invokevirtual 261, 3)) (h : zk M b = 7 ∧ w_X7_requirePlaceAndWorks M b y0 y1 y2 y3 P (fun _ _ => False)) (kk : ∀ M', P M' → J p l e R s m args below meth c Q E nL M' kc ks (pc + 3) lo st) : J p l e R s m args below meth c Q E nL M kc ks pc lo (.int y3 :: .int y2 :: .int y1 :: .int y0 :: .ref b :: st) :=
  j_cV_V (n := 4) (As := [.int y0, .int y1, .int y2, .int y3]) C co_X7 rfl wd_1224 wd_34 h.1 (c0_X7_requirePlaceAndWorks l E M b y0 y1 y2 y3 P h.2) ⟨wd_1225, wd_1222, wd_40, by decide +kernel, by decide +kernel, by decide +kernel⟩ rfl rfl hR hf rfl hst d kk
theorem cs_X7_265 (C : Cx p l s m args meth c cc nL RX7 ret E) {b : Nat} {y0 : Nat} {y1 : Int32} {y2 : Int32} {y3 : Int32} {y4 : Int32} {P : Int32 → Mm → Prop} (hR : rm_X7_reasonAgainst.frames + 1 ≤ R.frames ∧ 8 + (6 + 11) + rm_X7_reasonAgainst.locals ≤ R.locals) (hf : kc ≤ R.cells ∧ ks ≤ R.slots) (hst : (st.map fun v => v.category).sum ≤ 8) (d : decode cc pc = .ok (.invokevirtual 265, 3)) (h : zk M b = 7 ∧ w_X7_reasonAgainst M b y0 y1 y2 y3 y4 P) (kk : ∀ r M', P r M' → J p l e R s m args below meth c Q E nL M' kc ks (pc + 3) lo (.int r :: st)) : J p l e R s m args below meth c Q E nL M kc ks pc lo (.int y4 :: .int y3 :: .int y2 :: .int y1 :: .ref y0 :: .ref b :: st) :=
  j_cV_I (n := 5) (As := [.ref y0, .int y1, .int y2, .int y3, .int y4]) C co_X7 rfl wd_1105 wd_27 h.1 (c_X7_reasonAgainst l E M b y0 y1 y2 y3 y4 P h.2) ⟨wd_1106, wd_1103, wd_40, by decide +kernel, by decide +kernel, by decide +kernel⟩ rfl rfl hR hf rfl hst d kk
abbrev rm_X7_whyNot : Room := { frames := 9, cells := 4, slots := 24, locals := 156 }
def w_X7_whyNot (M : Mm) (x0 : Nat) (x1 : Int32) (x2 : Int32) (x3 : Int32) (x4 : Int32) (P : Int32 → Mm → Prop) (X : String → Mm → Prop) : Prop := zk M x0 = 7 ∧ w_X7_requirePlaceAndWorks M x0 x1 x2 x3 x4 (fun M1 => (zk M1 x0 = 7 ∧ ∃ a2, zR M1 x0 2 = some a2 ∧ zk M1 x0 = 7 ∧ w_X7_reasonAgainst M1 x0 a2 x1 x2 x3 x4 (fun r3 M3 => P r3 M3))) X
set_option maxHeartbeats 4000000 in
set_option maxRecDepth 100000 in
theorem c_X7_whyNot (l : Launch) (E : EV) (M : Mm) (x0 : Nat) (x1 : Int32) (x2 : Int32) (x3 : Int32) (x4 : Int32) (P : Int32 → Mm → Prop) (X : String → Mm → Prop) (h : w_X7_whyNot M x0 x1 x2 x3 x4 P X) : CtIX l E yX7_whyNot cX7_whyNot 5 .int rm_X7_whyNot 4 24 [.ref x0, .int x1, .int x2, .int x3, .int x4] M P X := by
  refine ctIX_of (by decide +kernel) (Nat.le_of_ble_eq_true rfl) ?_
  intro p e s m args below meth c C hex
  rw [w_X7_whyNot] at h
  show J p l e rm_X7_whyNot s m args below meth c (QIX below E P X args s 4 24) E 5 M 0 0 0 [(0, .ref x0), (1, .int x1), (2, .int x2), (3, .int x3), (4, .int x4)] []
  refine j_aload_n (pc := 0) C 0 dX7_whyNot_0 rfl ?_
  refine j_iload_n (pc := 1) C 1 dX7_whyNot_1 rfl ?_
  refine j_iload_n (pc := 2) C 2 dX7_whyNot_2 rfl ?_
  refine j_iload_n (pc := 3) C 3 dX7_whyNot_3 rfl ?_
  refine j_iload (pc := 4) C 4 dX7_whyNot_4 rfl ?_
  refine cs_X7_261 (pc := 6) C hex ⟨Nat.le_of_ble_eq_true rfl, Nat.le_of_ble_eq_true rfl⟩ ⟨Nat.le_of_ble_eq_true rfl, Nat.le_of_ble_eq_true rfl⟩ ⟨Nat.le_of_ble_eq_true rfl, Nat.le_of_ble_eq_true rfl⟩ (Nat.le_of_ble_eq_true rfl) dX7_whyNot_6 h (fun M1 h => ?_)
  refine j_aload_n (pc := 9) C 0 dX7_whyNot_9 rfl ?_
  refine j_aload_n (pc := 10) C 0 dX7_whyNot_10 rfl ?_
  refine gf_X7_23 (pc := 11) C dX7_whyNot_11 h (fun a2 h => ?_)
  refine j_iload_n (pc := 14) C 1 dX7_whyNot_14 rfl ?_
  refine j_iload_n (pc := 15) C 2 dX7_whyNot_15 rfl ?_
  refine j_iload_n (pc := 16) C 3 dX7_whyNot_16 rfl ?_
  refine j_iload (pc := 17) C 4 dX7_whyNot_17 rfl ?_
  refine cs_X7_265 (pc := 19) C ⟨Nat.le_of_ble_eq_true rfl, Nat.le_of_ble_eq_true rfl⟩ ⟨Nat.le_of_ble_eq_true rfl, Nat.le_of_ble_eq_true rfl⟩ (Nat.le_of_ble_eq_true rfl) dX7_whyNot_19 h (fun r3 M3 h => ?_)
  exact j_iretX (pc := 22) C dX7_whyNot_22 (Nat.le_of_ble_eq_true rfl) (Nat.le_of_ble_eq_true rfl) h
abbrev rm0_X7_whyNot : Room := { frames := 5, cells := 0, slots := 0, locals := 122 }
set_option maxHeartbeats 4000000 in
set_option maxRecDepth 100000 in
theorem c0_X7_whyNot (l : Launch) (E : EV) (M : Mm) (x0 : Nat) (x1 : Int32) (x2 : Int32) (x3 : Int32) (x4 : Int32) (P : Int32 → Mm → Prop) (h : w_X7_whyNot M x0 x1 x2 x3 x4 P (fun _ _ => False)) : CtI l E yX7_whyNot cX7_whyNot 5 .int rm0_X7_whyNot 0 0 [.ref x0, .int x1, .int x2, .int x3, .int x4] M P := by
  refine ctI_of (by decide +kernel) (Nat.le_of_ble_eq_true rfl) ?_
  intro p e s m args below meth c C
  rw [w_X7_whyNot] at h
  show J p l e rm0_X7_whyNot s m args below meth c (QI below E P args s 0 0) E 5 M 0 0 0 [(0, .ref x0), (1, .int x1), (2, .int x2), (3, .int x3), (4, .int x4)] []
  refine j_aload_n (pc := 0) C 0 dX7_whyNot_0 rfl ?_
  refine j_iload_n (pc := 1) C 1 dX7_whyNot_1 rfl ?_
  refine j_iload_n (pc := 2) C 2 dX7_whyNot_2 rfl ?_
  refine j_iload_n (pc := 3) C 3 dX7_whyNot_3 rfl ?_
  refine j_iload (pc := 4) C 4 dX7_whyNot_4 rfl ?_
  refine cs0_X7_261 (pc := 6) C ⟨Nat.le_of_ble_eq_true rfl, Nat.le_of_ble_eq_true rfl⟩ ⟨Nat.le_of_ble_eq_true rfl, Nat.le_of_ble_eq_true rfl⟩ (Nat.le_of_ble_eq_true rfl) dX7_whyNot_6 h (fun M1 h => ?_)
  refine j_aload_n (pc := 9) C 0 dX7_whyNot_9 rfl ?_
  refine j_aload_n (pc := 10) C 0 dX7_whyNot_10 rfl ?_
  refine gf_X7_23 (pc := 11) C dX7_whyNot_11 h (fun a2 h => ?_)
  refine j_iload_n (pc := 14) C 1 dX7_whyNot_14 rfl ?_
  refine j_iload_n (pc := 15) C 2 dX7_whyNot_15 rfl ?_
  refine j_iload_n (pc := 16) C 3 dX7_whyNot_16 rfl ?_
  refine j_iload (pc := 17) C 4 dX7_whyNot_17 rfl ?_
  refine cs_X7_265 (pc := 19) C ⟨Nat.le_of_ble_eq_true rfl, Nat.le_of_ble_eq_true rfl⟩ ⟨Nat.le_of_ble_eq_true rfl, Nat.le_of_ble_eq_true rfl⟩ (Nat.le_of_ble_eq_true rfl) dX7_whyNot_19 h (fun r3 M3 h => ?_)
  exact j_iret (pc := 22) C dX7_whyNot_22 (Nat.le_of_ble_eq_true rfl) (Nat.le_of_ble_eq_true rfl) h
abbrev rm_X7_earliest : Room := { frames := 9, cells := 4, slots := 24, locals := 156 }
def l_X7_earliest_12 (P : Int32 → Mm → Prop) (X : String → Mm → Prop) (K41 : Mm → Int32 → Prop) (K50 : Mm → Prop) : Nat → Mm → Nat → Int32 → Int32 → Int32 → Int32 → Prop
  | 0, _, _, _, _, _, _ => False
  | n + 1, M, x0, x1, x3, x4, x5 => (zk M x0 = 7 ∧ ∃ a2, zR M x0 10 = some a2 ∧ zk M a2 = 6 ∧ w_X6_slotCount M a2 (fun r3 M3 => (if r3 ≤ x5 then K50 M3 else (zk M3 x0 = 7 ∧ ∃ a4, zR M3 x0 2 = some a4 ∧ zk M3 x0 = 7 ∧ w_X7_reasonAgainst M3 x0 a4 x1 x5 x3 x4 (fun r5 M5 => (if r5 = 0 then K41 M5 x5 else l_X7_earliest_12 P X K41 K50 n M5 x0 x1 x3 x4 (x5 + (1 : Int32))))))))
set_option maxHeartbeats 4000000 in
set_option maxRecDepth 100000 in
theorem jl_X7_earliest_12 {P : Int32 → Mm → Prop} {X : String → Mm → Prop} {K41 : Mm → Int32 → Prop} {K50 : Mm → Prop} (C : Cx p l s m args meth c cX7_earliest 6 RX7 (some .int) E) (hex : ∀ x ∈ c.exceptionTable.toList, False) (hkc : kc ≤ rm_X7_earliest.cells ∧ ks ≤ rm_X7_earliest.slots) (k41 : ∀ M x5, K41 M x5 → J p l e rm_X7_earliest s m args below meth c (QIX below E P X args s rm_X7_earliest.cells rm_X7_earliest.slots) E 6 M kc ks 41 [(5, .int x5)] []) (k50 : ∀ M, K50 M → J p l e rm_X7_earliest s m args below meth c (QIX below E P X args s rm_X7_earliest.cells rm_X7_earliest.slots) E 6 M kc ks 50 [] []) : ∀ n M x0 x1 x3 x4 x5, l_X7_earliest_12 P X K41 K50 n M x0 x1 x3 x4 x5 → J p l e rm_X7_earliest s m args below meth c (QIX below E P X args s rm_X7_earliest.cells rm_X7_earliest.slots) E 6 M kc ks 12 [(0, .ref x0), (1, .int x1), (3, .int x3), (4, .int x4), (5, .int x5)] [] := by
  intro n
  induction n with
  | zero => intro M x0 x1 x3 x4 x5 h; exact h.elim
  | succ n ih =>
    intro M x0 x1 x3 x4 x5 h
    rw [l_X7_earliest_12] at h
    refine j_iload (pc := 12) C 4 dX7_earliest_12 rfl ?_
    refine j_aload_n (pc := 14) C 0 dX7_earliest_14 rfl ?_
    refine gf_X7_48 (pc := 15) C dX7_earliest_15 h (fun a2 h => ?_)
    refine cs_X7_212 (pc := 18) C ⟨Nat.le_of_ble_eq_true rfl, Nat.le_of_ble_eq_true rfl⟩ hkc (Nat.le_of_ble_eq_true rfl) dX7_earliest_18 h (fun r3 M3 h => ?_)
    refine j_icmp_ge (pc := 21) C 50 dX7_earliest_21 (by decide) h (fun h => ?_) (fun h => ?_)
    · exact j_weak [] rfl (k50 _ h)
    · refine j_aload_n (pc := 24) C 0 dX7_earliest_24 rfl ?_
      refine j_aload_n (pc := 25) C 0 dX7_earliest_25 rfl ?_
      refine gf_X7_23 (pc := 26) C dX7_earliest_26 h (fun a4 h => ?_)
      refine j_iload_n (pc := 29) C 1 dX7_earliest_29 rfl ?_
      refine j_iload (pc := 30) C 4 dX7_earliest_30 rfl ?_
      refine j_iload_n (pc := 32) C 2 dX7_earliest_32 rfl ?_
      refine j_iload (pc := 33) C 3 dX7_earliest_33 rfl ?_
      refine cs_X7_265 (pc := 35) C ⟨Nat.le_of_ble_eq_true rfl, Nat.le_of_ble_eq_true rfl⟩ hkc (Nat.le_of_ble_eq_true rfl) dX7_earliest_35 h (fun r5 M5 h => ?_)
      refine j_if_ne (pc := 38) C 44 dX7_earliest_38 (by decide) h (fun h => ?_) (fun h => ?_)
      · refine j_iinc (pc := 44) (v := (1 : Int32)) C 4 [(5, _), (0, _), (1, _), (3, _), (4, _)] dX7_earliest_44 rfl rfl (by decide) rfl ?_
        refine j_goto (pc := 47) C 12 dX7_earliest_47 (by decide) ?_
        exact j_weak [1, 2, 3, 4, 0] rfl (ih _ _ _ _ _ _ h)
      · exact j_weak [4] rfl (k41 _ _ h)
def w_X7_earliest (M : Mm) (x0 : Nat) (x1 : Int32) (x2 : Int32) (x3 : Int32) (x4 : Int32) (P : Int32 → Mm → Prop) (X : String → Mm → Prop) : Prop := zk M x0 = 7 ∧ w_X7_requirePlaceAndWorks M x0 x1 x2 x3 x4 (fun M1 => (∃ n12, l_X7_earliest_12 P X (fun M6 x5_6 => P x5_6 M6) (fun M7 => P (-1 : Int32) M7) n12 M1 x0 x1 x3 x4 x2)) X
set_option maxHeartbeats 4000000 in
set_option maxRecDepth 100000 in
theorem c_X7_earliest (l : Launch) (E : EV) (M : Mm) (x0 : Nat) (x1 : Int32) (x2 : Int32) (x3 : Int32) (x4 : Int32) (P : Int32 → Mm → Prop) (X : String → Mm → Prop) (h : w_X7_earliest M x0 x1 x2 x3 x4 P X) : CtIX l E yX7_earliest cX7_earliest 6 .int rm_X7_earliest 4 24 [.ref x0, .int x1, .int x2, .int x3, .int x4] M P X := by
  refine ctIX_of (by decide +kernel) (Nat.le_of_ble_eq_true rfl) ?_
  intro p e s m args below meth c C hex
  rw [w_X7_earliest] at h
  show J p l e rm_X7_earliest s m args below meth c (QIX below E P X args s 4 24) E 6 M 0 0 0 [(0, .ref x0), (1, .int x1), (2, .int x2), (3, .int x3), (4, .int x4)] []
  refine j_aload_n (pc := 0) C 0 dX7_earliest_0 rfl ?_
  refine j_iload_n (pc := 1) C 1 dX7_earliest_1 rfl ?_
  refine j_iload_n (pc := 2) C 2 dX7_earliest_2 rfl ?_
  refine j_iload_n (pc := 3) C 3 dX7_earliest_3 rfl ?_
  refine j_iload (pc := 4) C 4 dX7_earliest_4 rfl ?_
  refine cs_X7_261 (pc := 6) C hex ⟨Nat.le_of_ble_eq_true rfl, Nat.le_of_ble_eq_true rfl⟩ ⟨Nat.le_of_ble_eq_true rfl, Nat.le_of_ble_eq_true rfl⟩ ⟨Nat.le_of_ble_eq_true rfl, Nat.le_of_ble_eq_true rfl⟩ (Nat.le_of_ble_eq_true rfl) dX7_earliest_6 h (fun M1 h => ?_)
  refine j_iload_n (pc := 9) C 2 dX7_earliest_9 rfl ?_
  refine j_istore (pc := 10) C [(5, _), (0, _), (1, _), (2, _), (3, _), (4, _)] dX7_earliest_10 (by decide) rfl ?_
  obtain ⟨n12, h⟩ := h
  refine j_weak [1, 2, 4, 5, 0] rfl (jl_X7_earliest_12 C hex ⟨Nat.le_of_ble_eq_true rfl, Nat.le_of_ble_eq_true rfl⟩ (fun M6 x5_6 h => ?_) (fun M7 h => ?_) n12 _ _ _ _ _ _ h)
  · refine j_iload (pc := 41) C 0 dX7_earliest_41 rfl ?_
    exact j_iretX (pc := 43) C dX7_earliest_43 (Nat.le_of_ble_eq_true rfl) (Nat.le_of_ble_eq_true rfl) h
  · refine j_iconst (pc := 50) (v := (-1 : Int32)) C dX7_earliest_50 rfl ?_
    exact j_iretX (pc := 51) C dX7_earliest_51 (Nat.le_of_ble_eq_true rfl) (Nat.le_of_ble_eq_true rfl) h
abbrev rm0_X7_earliest : Room := { frames := 5, cells := 0, slots := 0, locals := 122 }
set_option maxHeartbeats 4000000 in
set_option maxRecDepth 100000 in
theorem jl0_X7_earliest_12 {P : Int32 → Mm → Prop} {K41 : Mm → Int32 → Prop} {K50 : Mm → Prop} (C : Cx p l s m args meth c cX7_earliest 6 RX7 (some .int) E) (hkc : kc ≤ rm0_X7_earliest.cells ∧ ks ≤ rm0_X7_earliest.slots) (k41 : ∀ M x5, K41 M x5 → J p l e rm0_X7_earliest s m args below meth c (QI below E P args s rm0_X7_earliest.cells rm0_X7_earliest.slots) E 6 M kc ks 41 [(5, .int x5)] []) (k50 : ∀ M, K50 M → J p l e rm0_X7_earliest s m args below meth c (QI below E P args s rm0_X7_earliest.cells rm0_X7_earliest.slots) E 6 M kc ks 50 [] []) : ∀ n M x0 x1 x3 x4 x5, l_X7_earliest_12 P (fun _ _ => False) K41 K50 n M x0 x1 x3 x4 x5 → J p l e rm0_X7_earliest s m args below meth c (QI below E P args s rm0_X7_earliest.cells rm0_X7_earliest.slots) E 6 M kc ks 12 [(0, .ref x0), (1, .int x1), (3, .int x3), (4, .int x4), (5, .int x5)] [] := by
  intro n
  induction n with
  | zero => intro M x0 x1 x3 x4 x5 h; exact h.elim
  | succ n ih =>
    intro M x0 x1 x3 x4 x5 h
    rw [l_X7_earliest_12] at h
    refine j_iload (pc := 12) C 4 dX7_earliest_12 rfl ?_
    refine j_aload_n (pc := 14) C 0 dX7_earliest_14 rfl ?_
    refine gf_X7_48 (pc := 15) C dX7_earliest_15 h (fun a2 h => ?_)
    refine cs_X7_212 (pc := 18) C ⟨Nat.le_of_ble_eq_true rfl, Nat.le_of_ble_eq_true rfl⟩ hkc (Nat.le_of_ble_eq_true rfl) dX7_earliest_18 h (fun r3 M3 h => ?_)
    refine j_icmp_ge (pc := 21) C 50 dX7_earliest_21 (by decide) h (fun h => ?_) (fun h => ?_)
    · exact j_weak [] rfl (k50 _ h)
    · refine j_aload_n (pc := 24) C 0 dX7_earliest_24 rfl ?_
      refine j_aload_n (pc := 25) C 0 dX7_earliest_25 rfl ?_
      refine gf_X7_23 (pc := 26) C dX7_earliest_26 h (fun a4 h => ?_)
      refine j_iload_n (pc := 29) C 1 dX7_earliest_29 rfl ?_
      refine j_iload (pc := 30) C 4 dX7_earliest_30 rfl ?_
      refine j_iload_n (pc := 32) C 2 dX7_earliest_32 rfl ?_
      refine j_iload (pc := 33) C 3 dX7_earliest_33 rfl ?_
      refine cs_X7_265 (pc := 35) C ⟨Nat.le_of_ble_eq_true rfl, Nat.le_of_ble_eq_true rfl⟩ hkc (Nat.le_of_ble_eq_true rfl) dX7_earliest_35 h (fun r5 M5 h => ?_)
      refine j_if_ne (pc := 38) C 44 dX7_earliest_38 (by decide) h (fun h => ?_) (fun h => ?_)
      · refine j_iinc (pc := 44) (v := (1 : Int32)) C 4 [(5, _), (0, _), (1, _), (3, _), (4, _)] dX7_earliest_44 rfl rfl (by decide) rfl ?_
        refine j_goto (pc := 47) C 12 dX7_earliest_47 (by decide) ?_
        exact j_weak [1, 2, 3, 4, 0] rfl (ih _ _ _ _ _ _ h)
      · exact j_weak [4] rfl (k41 _ _ h)
set_option maxHeartbeats 4000000 in
set_option maxRecDepth 100000 in
theorem c0_X7_earliest (l : Launch) (E : EV) (M : Mm) (x0 : Nat) (x1 : Int32) (x2 : Int32) (x3 : Int32) (x4 : Int32) (P : Int32 → Mm → Prop) (h : w_X7_earliest M x0 x1 x2 x3 x4 P (fun _ _ => False)) : CtI l E yX7_earliest cX7_earliest 6 .int rm0_X7_earliest 0 0 [.ref x0, .int x1, .int x2, .int x3, .int x4] M P := by
  refine ctI_of (by decide +kernel) (Nat.le_of_ble_eq_true rfl) ?_
  intro p e s m args below meth c C
  rw [w_X7_earliest] at h
  show J p l e rm0_X7_earliest s m args below meth c (QI below E P args s 0 0) E 6 M 0 0 0 [(0, .ref x0), (1, .int x1), (2, .int x2), (3, .int x3), (4, .int x4)] []
  refine j_aload_n (pc := 0) C 0 dX7_earliest_0 rfl ?_
  refine j_iload_n (pc := 1) C 1 dX7_earliest_1 rfl ?_
  refine j_iload_n (pc := 2) C 2 dX7_earliest_2 rfl ?_
  refine j_iload_n (pc := 3) C 3 dX7_earliest_3 rfl ?_
  refine j_iload (pc := 4) C 4 dX7_earliest_4 rfl ?_
  refine cs0_X7_261 (pc := 6) C ⟨Nat.le_of_ble_eq_true rfl, Nat.le_of_ble_eq_true rfl⟩ ⟨Nat.le_of_ble_eq_true rfl, Nat.le_of_ble_eq_true rfl⟩ (Nat.le_of_ble_eq_true rfl) dX7_earliest_6 h (fun M1 h => ?_)
  refine j_iload_n (pc := 9) C 2 dX7_earliest_9 rfl ?_
  refine j_istore (pc := 10) C [(5, _), (0, _), (1, _), (2, _), (3, _), (4, _)] dX7_earliest_10 (by decide) rfl ?_
  obtain ⟨n12, h⟩ := h
  refine j_weak [1, 2, 4, 5, 0] rfl (jl0_X7_earliest_12 C ⟨Nat.le_of_ble_eq_true rfl, Nat.le_of_ble_eq_true rfl⟩ (fun M6 x5_6 h => ?_) (fun M7 h => ?_) n12 _ _ _ _ _ _ h)
  · refine j_iload (pc := 41) C 0 dX7_earliest_41 rfl ?_
    exact j_iret (pc := 43) C dX7_earliest_43 (Nat.le_of_ble_eq_true rfl) (Nat.le_of_ble_eq_true rfl) h
  · refine j_iconst (pc := 50) (v := (-1 : Int32)) C dX7_earliest_50 rfl ?_
    exact j_iret (pc := 51) C dX7_earliest_51 (Nat.le_of_ble_eq_true rfl) (Nat.le_of_ble_eq_true rfl) h
theorem cs_X7_327 (C : Cx p l s m args meth c cc nL RX7 ret E) {b : Nat} {y0 : Int32} {y1 : Int32} {y2 : Nat} {y3 : Int32} {P : Mm → Prop} (hR : rm_X4_setCast.frames + 1 ≤ R.frames ∧ 8 + (5 + 11) + rm_X4_setCast.locals ≤ R.locals) (hf : kc ≤ R.cells ∧ ks ≤ R.slots) (hst : (st.map fun v => v.category).sum ≤ 8) (d : decode cc pc = .ok (.invokevirtual 327, 3)) (h : zk M b = 4 ∧ w_X4_setCast M b y0 y1 y2 y3 P) (kk : ∀ M', P M' → J p l e R s m args below meth c Q E nL M' kc ks (pc + 3) lo st) : J p l e R s m args below meth c Q E nL M kc ks pc lo (.int y3 :: .ref y2 :: .int y1 :: .int y0 :: .ref b :: st) :=
  j_cV_V (n := 4) (As := [.int y0, .int y1, .ref y2, .int y3]) C co_X4 rfl wd_1184 wd_1185 h.1 (c_X4_setCast l E M b y0 y1 y2 y3 P h.2) ⟨wd_1186, wd_1183, wd_42, by decide +kernel, by decide +kernel, by decide +kernel⟩ rfl rfl hR hf rfl hst d kk
abbrev rm_X7_castInDraft : Room := { frames := 3, cells := 0, slots := 0, locals := 84 }
def l_X7_castInDraft_20 (P : Mm → Prop) (K98 : Mm → Prop) : Nat → Mm → Nat → Int32 → Int32 → Int32 → Prop
  | 0, _, _, _, _, _ => False
  | n + 1, M, x0, x1, x2, x3 => (zk M x0 = 7 ∧ ∃ a5, zR M x0 10 = some a5 ∧ (zk M a5 = 6 ∧ ∃ a6, zR M a5 12 = some a6 ∧ zk M a6 = 2 ∧ (if (zI M a6 1) ≤ x3 then K98 M else (zk M x0 = 7 ∧ ∃ a7, zR M x0 3 = some a7 ∧ (zk M a7 = 4 ∧ ∃ a8, zR M a7 4 = some a8 ∧ zk M a8 = 10 ∧ vp_in x1 (zl M a8) ∧ w_X7_has M (zI M a8 x1.toNatClampNeg) x3 (fun r9 M9 => (if r9 = 0 then l_X7_castInDraft_20 P K98 n M9 x0 x1 x2 (x3 + (1 : Int32)) else (zk M9 x0 = 7 ∧ ∃ a10, zR M9 x0 1 = some a10 ∧ (zk M9 x0 = 7 ∧ ∃ a11, zR M9 x0 10 = some a11 ∧ zk M9 a10 = 1 ∧ w_X0_castWork M9 a10 a11 x3 x2 (fun r12 M12 => (if r12 = (-1 : Int32) then l_X7_castInDraft_20 P K98 n M12 x0 x1 x2 (x3 + (1 : Int32)) else (zk M12 x0 = 7 ∧ ∃ a13, zR M12 x0 3 = some a13 ∧ (zk M12 x0 = 7 ∧ ∃ a14, zR M12 x0 1 = some a14 ∧ (zk M12 a14 = 1 ∧ ∃ a15, zR M12 a14 0 = some a15 ∧ (zk M12 x0 = 7 ∧ ∃ a16, zR M12 x0 10 = some a16 ∧ (zk M12 a16 = 6 ∧ ∃ a17, zR M12 a16 17 = some a17 ∧ zk M12 a17 = 10 ∧ vp_in x3 (zl M12 a17) ∧ zk M12 a13 = 4 ∧ w_X4_setCast M12 a13 x1 x3 a15 (zI M12 a17 x3.toNatClampNeg) (fun M18 => l_X7_castInDraft_20 P K98 n M18 x0 x1 x2 (x3 + (1 : Int32)))))))))))))))))))
set_option maxHeartbeats 4000000 in
set_option maxRecDepth 100000 in
theorem jl_X7_castInDraft_20 {P : Mm → Prop} {K98 : Mm → Prop} (C : Cx p l s m args meth c cX7_castInDraft 4 RX7 none E) (hkc : kc ≤ rm_X7_castInDraft.cells ∧ ks ≤ rm_X7_castInDraft.slots) (k98 : ∀ M, K98 M → J p l e rm_X7_castInDraft s m args below meth c (QV below E P args s rm_X7_castInDraft.cells rm_X7_castInDraft.slots) E 4 M kc ks 98 [] []) : ∀ n M x0 x1 x2 x3, l_X7_castInDraft_20 P K98 n M x0 x1 x2 x3 → J p l e rm_X7_castInDraft s m args below meth c (QV below E P args s rm_X7_castInDraft.cells rm_X7_castInDraft.slots) E 4 M kc ks 20 [(0, .ref x0), (1, .int x1), (2, .int x2), (3, .int x3)] [] := by
  intro n
  induction n with
  | zero => intro M x0 x1 x2 x3 h; exact h.elim
  | succ n ih =>
    intro M x0 x1 x2 x3 h
    rw [l_X7_castInDraft_20] at h
    refine j_iload_n (pc := 20) C 3 dX7_castInDraft_20 rfl ?_
    refine j_aload_n (pc := 21) C 0 dX7_castInDraft_21 rfl ?_
    refine gf_X7_48 (pc := 22) C dX7_castInDraft_22 h (fun a5 h => ?_)
    refine gf_X7_113 (pc := 25) C dX7_castInDraft_25 h (fun a6 h => ?_)
    refine gf_X7_105 (pc := 28) C dX7_castInDraft_28 h (fun h => ?_)
    refine j_icmp_ge (pc := 31) C 98 dX7_castInDraft_31 (by decide) h (fun h => ?_) (fun h => ?_)
    · exact j_weak [] rfl (k98 _ h)
    · refine j_aload_n (pc := 34) C 0 dX7_castInDraft_34 rfl ?_
      refine gf_X7_27 (pc := 35) C dX7_castInDraft_35 h (fun a7 h => ?_)
      refine gf_X7_241 (pc := 38) C dX7_castInDraft_38 h (fun a8 h => ?_)
      refine j_iload_n (pc := 41) C 1 dX7_castInDraft_41 rfl ?_
      refine j_iald (pc := 42) C dX7_castInDraft_42 h (fun h => ?_)
      refine j_iload_n (pc := 43) C 3 dX7_castInDraft_43 rfl ?_
      refine cs_X7_190 (pc := 44) C ⟨Nat.le_of_ble_eq_true rfl, Nat.le_of_ble_eq_true rfl⟩ hkc (Nat.le_of_ble_eq_true rfl) dX7_castInDraft_44 h (fun r9 M9 h => ?_)
      refine j_if_eq (pc := 47) C 92 dX7_castInDraft_47 (by decide) h (fun h => ?_) (fun h => ?_)
      · refine j_iinc (pc := 92) (v := (1 : Int32)) C 3 [(3, _), (0, _), (1, _), (2, _)] dX7_castInDraft_92 rfl rfl (by decide) rfl ?_
        refine j_goto (pc := 95) C 20 dX7_castInDraft_95 (by decide) ?_
        exact j_weak [1, 2, 3, 0] rfl (ih _ _ _ _ _ h)
      · refine j_aload_n (pc := 50) C 0 dX7_castInDraft_50 rfl ?_
        refine gf_X7_16 (pc := 51) C dX7_castInDraft_51 h (fun a10 h => ?_)
        refine j_aload_n (pc := 54) C 0 dX7_castInDraft_54 rfl ?_
        refine gf_X7_48 (pc := 55) C dX7_castInDraft_55 h (fun a11 h => ?_)
        refine j_iload_n (pc := 58) C 3 dX7_castInDraft_58 rfl ?_
        refine j_iload_n (pc := 59) C 2 dX7_castInDraft_59 rfl ?_
        refine cs_X7_257 (pc := 60) C ⟨Nat.le_of_ble_eq_true rfl, Nat.le_of_ble_eq_true rfl⟩ hkc (Nat.le_of_ble_eq_true rfl) dX7_castInDraft_60 h (fun r12 M12 h => ?_)
        refine j_iconst (pc := 63) (v := (-1 : Int32)) C dX7_castInDraft_63 rfl ?_
        refine j_icmp_eq (pc := 64) C 92 dX7_castInDraft_64 (by decide) h (fun h => ?_) (fun h => ?_)
        · refine j_iinc (pc := 92) (v := (1 : Int32)) C 3 [(3, _), (0, _), (1, _), (2, _)] dX7_castInDraft_92 rfl rfl (by decide) rfl ?_
          refine j_goto (pc := 95) C 20 dX7_castInDraft_95 (by decide) ?_
          exact j_weak [1, 2, 3, 0] rfl (ih _ _ _ _ _ h)
        · refine j_aload_n (pc := 67) C 0 dX7_castInDraft_67 rfl ?_
          refine gf_X7_27 (pc := 68) C dX7_castInDraft_68 h (fun a13 h => ?_)
          refine j_iload_n (pc := 71) C 1 dX7_castInDraft_71 rfl ?_
          refine j_iload_n (pc := 72) C 3 dX7_castInDraft_72 rfl ?_
          refine j_aload_n (pc := 73) C 0 dX7_castInDraft_73 rfl ?_
          refine gf_X7_16 (pc := 74) C dX7_castInDraft_74 h (fun a14 h => ?_)
          refine gf_X7_324 (pc := 77) C dX7_castInDraft_77 h (fun a15 h => ?_)
          refine j_aload_n (pc := 80) C 0 dX7_castInDraft_80 rfl ?_
          refine gf_X7_48 (pc := 81) C dX7_castInDraft_81 h (fun a16 h => ?_)
          refine gf_X7_209 (pc := 84) C dX7_castInDraft_84 h (fun a17 h => ?_)
          refine j_iload_n (pc := 87) C 3 dX7_castInDraft_87 rfl ?_
          refine j_iald (pc := 88) C dX7_castInDraft_88 h (fun h => ?_)
          refine cs_X7_327 (pc := 89) C ⟨Nat.le_of_ble_eq_true rfl, Nat.le_of_ble_eq_true rfl⟩ hkc (Nat.le_of_ble_eq_true rfl) dX7_castInDraft_89 h (fun M18 h => ?_)
          refine j_iinc (pc := 92) (v := (1 : Int32)) C 3 [(3, _), (0, _), (1, _), (2, _)] dX7_castInDraft_92 rfl rfl (by decide) rfl ?_
          refine j_goto (pc := 95) C 20 dX7_castInDraft_95 (by decide) ?_
          exact j_weak [1, 2, 3, 0] rfl (ih _ _ _ _ _ h)
def w_X7_castInDraft (M : Mm) (x0 : Nat) (x1 : Int32) (P : Mm → Prop) : Prop := (zk M x0 = 7 ∧ ∃ a1, zR M x0 3 = some a1 ∧ (zk M x0 = 7 ∧ ∃ a2, zR M x0 3 = some a2 ∧ (zk M a2 = 4 ∧ ∃ a3, zR M a2 1 = some a3 ∧ zk M a3 = 10 ∧ vp_in x1 (zl M a3) ∧ zk M x0 = 7 ∧ w_X7_freePlayers M x0 a1 (zI M a3 x1.toNatClampNeg) (fun r4 M4 => (∃ n20, l_X7_castInDraft_20 P (fun M19 => P M19) n20 M4 x0 x1 r4 (0 : Int32))))))
set_option maxHeartbeats 4000000 in
set_option maxRecDepth 100000 in
theorem c_X7_castInDraft (l : Launch) (E : EV) (M : Mm) (x0 : Nat) (x1 : Int32) (P : Mm → Prop) (h : w_X7_castInDraft M x0 x1 P) : CtV l E yX7_castInDraft cX7_castInDraft 4 rm_X7_castInDraft 0 0 [.ref x0, .int x1] M P := by
  refine ctV_of (by decide +kernel) (Nat.le_of_ble_eq_true rfl) ?_
  intro p e s m args below meth c C hnm
  rw [w_X7_castInDraft] at h
  show J p l e rm_X7_castInDraft s m args below meth c (QV below E P args s 0 0) E 4 M 0 0 0 [(0, .ref x0), (1, .int x1)] []
  refine j_aload_n (pc := 0) C 0 dX7_castInDraft_0 rfl ?_
  refine j_aload_n (pc := 1) C 0 dX7_castInDraft_1 rfl ?_
  refine gf_X7_27 (pc := 2) C dX7_castInDraft_2 h (fun a1 h => ?_)
  refine j_aload_n (pc := 5) C 0 dX7_castInDraft_5 rfl ?_
  refine gf_X7_27 (pc := 6) C dX7_castInDraft_6 h (fun a2 h => ?_)
  refine gf_X7_233 (pc := 9) C dX7_castInDraft_9 h (fun a3 h => ?_)
  refine j_iload_n (pc := 12) C 1 dX7_castInDraft_12 rfl ?_
  refine j_iald (pc := 13) C dX7_castInDraft_13 h (fun h => ?_)
  refine cs_X7_186 (pc := 14) C ⟨Nat.le_of_ble_eq_true rfl, Nat.le_of_ble_eq_true rfl⟩ ⟨Nat.le_of_ble_eq_true rfl, Nat.le_of_ble_eq_true rfl⟩ (Nat.le_of_ble_eq_true rfl) dX7_castInDraft_14 h (fun r4 M4 h => ?_)
  refine j_istore_n (pc := 17) C [(2, _), (0, _), (1, _)] dX7_castInDraft_17 (by decide) rfl ?_
  refine j_iconst (pc := 18) (v := (0 : Int32)) C dX7_castInDraft_18 rfl ?_
  refine j_istore_n (pc := 19) C [(3, _), (2, _), (0, _), (1, _)] dX7_castInDraft_19 (by decide) rfl ?_
  obtain ⟨n20, h⟩ := h
  refine j_weak [2, 3, 1, 0] rfl (jl_X7_castInDraft_20 C ⟨Nat.le_of_ble_eq_true rfl, Nat.le_of_ble_eq_true rfl⟩ (fun M19 h => ?_) n20 _ _ _ _ _ h)
  · exact j_vret (pc := 98) C dX7_castInDraft_98 (Nat.le_of_ble_eq_true rfl) (Nat.le_of_ble_eq_true rfl) h
theorem cs_X7_321 (C : Cx p l s m args meth c cc nL RX7 ret E) {b : Nat} {y0 : Int32} {y1 : Int32} {y2 : Int32} {y3 : Int32} {P : Int32 → Mm → Prop} (hR : rm_X4_insert.frames + 1 ≤ R.frames ∧ 8 + (6 + 11) + rm_X4_insert.locals ≤ R.locals) (hf : kc ≤ R.cells ∧ ks ≤ R.slots) (hst : (st.map fun v => v.category).sum ≤ 8) (d : decode cc pc = .ok (.invokevirtual 321, 3)) (h : zk M b = 4 ∧ w_X4_insert M b y0 y1 y2 y3 P) (kk : ∀ r M', P r M' → J p l e R s m args below meth c Q E nL M' kc ks (pc + 3) lo (.int r :: st)) : J p l e R s m args below meth c Q E nL M kc ks pc lo (.int y3 :: .int y2 :: .int y1 :: .int y0 :: .ref b :: st) :=
  j_cV_I (n := 4) (As := [.int y0, .int y1, .int y2, .int y3]) C co_X4 rfl wd_1168 wd_1169 h.1 (c_X4_insert l E M b y0 y1 y2 y3 P h.2) ⟨wd_1170, wd_1167, wd_42, by decide +kernel, by decide +kernel, by decide +kernel⟩ rfl rfl hR hf rfl hst d kk
theorem cs_X7_309 (C : Cx p l s m args meth c cc nL RX7 ret E) {b : Nat} {y0 : Int32} {P : Mm → Prop} (hR : rm_X7_castInDraft.frames + 1 ≤ R.frames ∧ 8 + (4 + 11) + rm_X7_castInDraft.locals ≤ R.locals) (hf : kc ≤ R.cells ∧ ks ≤ R.slots) (hst : (st.map fun v => v.category).sum ≤ 8) (d : decode cc pc = .ok (.invokevirtual 309, 3)) (h : zk M b = 7 ∧ w_X7_castInDraft M b y0 P) (kk : ∀ M', P M' → J p l e R s m args below meth c Q E nL M' kc ks (pc + 3) lo st) : J p l e R s m args below meth c Q E nL M kc ks pc lo (.int y0 :: .ref b :: st) :=
  j_cV_V (n := 1) (As := [.int y0]) C co_X7 rfl wd_1181 wd_33 h.1 (c_X7_castInDraft l E M b y0 P h.2) ⟨wd_1182, wd_1179, wd_40, by decide +kernel, by decide +kernel, by decide +kernel⟩ rfl rfl hR hf rfl hst d kk
abbrev rm_X7_addToDraft : Room := { frames := 4, cells := 0, slots := 0, locals := 109 }
def w_X7_addToDraft (M : Mm) (x0 : Nat) (x1 : Int32) (x2 : Int32) (x3 : Int32) (x4 : Int32) (P : Int32 → Mm → Prop) : Prop := (zk M x0 = 7 ∧ ∃ a1, zR M x0 3 = some a1 ∧ zk M a1 = 4 ∧ w_X4_insert M a1 x1 x2 x3 x4 (fun r2 M2 => zk M2 x0 = 7 ∧ w_X7_castInDraft M2 x0 r2 (fun M3 => P r2 M3)))
set_option maxHeartbeats 4000000 in
set_option maxRecDepth 100000 in
theorem c_X7_addToDraft (l : Launch) (E : EV) (M : Mm) (x0 : Nat) (x1 : Int32) (x2 : Int32) (x3 : Int32) (x4 : Int32) (P : Int32 → Mm → Prop) (h : w_X7_addToDraft M x0 x1 x2 x3 x4 P) : CtI l E yX7_addToDraft cX7_addToDraft 6 .int rm_X7_addToDraft 0 0 [.ref x0, .int x1, .int x2, .int x3, .int x4] M P := by
  refine ctI_of (by decide +kernel) (Nat.le_of_ble_eq_true rfl) ?_
  intro p e s m args below meth c C
  rw [w_X7_addToDraft] at h
  show J p l e rm_X7_addToDraft s m args below meth c (QI below E P args s 0 0) E 6 M 0 0 0 [(0, .ref x0), (1, .int x1), (2, .int x2), (3, .int x3), (4, .int x4)] []
  refine j_aload_n (pc := 0) C 0 dX7_addToDraft_0 rfl ?_
  refine gf_X7_27 (pc := 1) C dX7_addToDraft_1 h (fun a1 h => ?_)
  refine j_iload_n (pc := 4) C 1 dX7_addToDraft_4 rfl ?_
  refine j_iload_n (pc := 5) C 2 dX7_addToDraft_5 rfl ?_
  refine j_iload_n (pc := 6) C 3 dX7_addToDraft_6 rfl ?_
  refine j_iload (pc := 7) C 4 dX7_addToDraft_7 rfl ?_
  refine cs_X7_321 (pc := 9) C ⟨Nat.le_of_ble_eq_true rfl, Nat.le_of_ble_eq_true rfl⟩ ⟨Nat.le_of_ble_eq_true rfl, Nat.le_of_ble_eq_true rfl⟩ (Nat.le_of_ble_eq_true rfl) dX7_addToDraft_9 h (fun r2 M2 h => ?_)
  refine j_istore (pc := 12) C [(5, _), (0, _), (1, _), (2, _), (3, _), (4, _)] dX7_addToDraft_12 (by decide) rfl ?_
  refine j_aload_n (pc := 14) C 1 dX7_addToDraft_14 rfl ?_
  refine j_iload (pc := 15) C 0 dX7_addToDraft_15 rfl ?_
  refine cs_X7_309 (pc := 17) C ⟨Nat.le_of_ble_eq_true rfl, Nat.le_of_ble_eq_true rfl⟩ ⟨Nat.le_of_ble_eq_true rfl, Nat.le_of_ble_eq_true rfl⟩ (Nat.le_of_ble_eq_true rfl) dX7_addToDraft_17 h (fun M3 h => ?_)
  refine j_iload (pc := 20) C 0 dX7_addToDraft_20 rfl ?_
  exact j_iret (pc := 22) C dX7_addToDraft_22 (Nat.le_of_ble_eq_true rfl) (Nat.le_of_ble_eq_true rfl) h
theorem cs_X7_318 (C : Cx p l s m args meth c cc nL RX7 ret E) {b : Nat} {y0 : Int32} {P : Int32 → Mm → Prop} (hR : rm_X4_isConcert.frames + 1 ≤ R.frames ∧ 8 + (2 + 11) + rm_X4_isConcert.locals ≤ R.locals) (hf : kc ≤ R.cells ∧ ks ≤ R.slots) (hst : (st.map fun v => v.category).sum ≤ 8) (d : decode cc pc = .ok (.invokevirtual 318, 3)) (h : zk M b = 4 ∧ w_X4_isConcert M b y0 P) (kk : ∀ r M', P r M' → J p l e R s m args below meth c Q E nL M' kc ks (pc + 3) lo (.int r :: st)) : J p l e R s m args below meth c Q E nL M kc ks pc lo (.int y0 :: .ref b :: st) :=
  j_cV_I (n := 1) (As := [.int y0]) C co_X4 rfl wd_1009 wd_1010 h.1 (c_X4_isConcert l E M b y0 P h.2) ⟨wd_1011, wd_1008, wd_42, by decide +kernel, by decide +kernel, by decide +kernel⟩ rfl rfl hR hf rfl hst d kk
abbrev rm_X7_isEveryConcertRehearsed : Room := { frames := 3, cells := 0, slots := 0, locals := 70 }
def l_X7_isEveryConcertRehearsed_2 (P : Int32 → Mm → Prop) (K38 : Mm → Prop) (K46 : Mm → Prop) : Nat → Mm → Nat → Nat → Int32 → Prop
  | 0, _, _, _, _ => False
  | n + 1, M, x0, x1, x2 => zk M x1 = 4 ∧ (if (zI M x1 0) ≤ x2 then K46 M else zk M x1 = 4 ∧ w_X4_isConcert M x1 x2 (fun r1 M1 => (if r1 = 0 then l_X7_isEveryConcertRehearsed_2 P K38 K46 n M1 x0 x1 (x2 + (1 : Int32)) else (zk M1 x1 = 4 ∧ ∃ a2, zR M1 x1 4 = some a2 ∧ zk M1 a2 = 10 ∧ vp_in x2 (zl M1 a2) ∧ (zk M1 x1 = 4 ∧ ∃ a3, zR M1 x1 1 = some a3 ∧ zk M1 a3 = 10 ∧ vp_in x2 (zl M1 a3) ∧ zk M1 x0 = 7 ∧ w_X7_areRehearsed M1 x0 x1 (zI M1 a2 x2.toNatClampNeg) (zI M1 a3 x2.toNatClampNeg) (fun r4 M4 => (if r4 = 0 then K38 M4 else l_X7_isEveryConcertRehearsed_2 P K38 K46 n M4 x0 x1 (x2 + (1 : Int32)))))))))
set_option maxHeartbeats 4000000 in
set_option maxRecDepth 100000 in
theorem jl_X7_isEveryConcertRehearsed_2 {P : Int32 → Mm → Prop} {K38 : Mm → Prop} {K46 : Mm → Prop} (C : Cx p l s m args meth c cX7_isEveryConcertRehearsed 3 RX7 (some .boolean) E) (hkc : kc ≤ rm_X7_isEveryConcertRehearsed.cells ∧ ks ≤ rm_X7_isEveryConcertRehearsed.slots) (k38 : ∀ M, K38 M → J p l e rm_X7_isEveryConcertRehearsed s m args below meth c (QI below E P args s rm_X7_isEveryConcertRehearsed.cells rm_X7_isEveryConcertRehearsed.slots) E 3 M kc ks 38 [] []) (k46 : ∀ M, K46 M → J p l e rm_X7_isEveryConcertRehearsed s m args below meth c (QI below E P args s rm_X7_isEveryConcertRehearsed.cells rm_X7_isEveryConcertRehearsed.slots) E 3 M kc ks 46 [] []) : ∀ n M x0 x1 x2, l_X7_isEveryConcertRehearsed_2 P K38 K46 n M x0 x1 x2 → J p l e rm_X7_isEveryConcertRehearsed s m args below meth c (QI below E P args s rm_X7_isEveryConcertRehearsed.cells rm_X7_isEveryConcertRehearsed.slots) E 3 M kc ks 2 [(0, .ref x0), (1, .ref x1), (2, .int x2)] [] := by
  intro n
  induction n with
  | zero => intro M x0 x1 x2 h; exact h.elim
  | succ n ih =>
    intro M x0 x1 x2 h
    rw [l_X7_isEveryConcertRehearsed_2] at h
    refine j_iload_n (pc := 2) C 2 dX7_isEveryConcertRehearsed_2 rfl ?_
    refine j_aload_n (pc := 3) C 1 dX7_isEveryConcertRehearsed_3 rfl ?_
    refine gf_X7_119 (pc := 4) C dX7_isEveryConcertRehearsed_4 h (fun h => ?_)
    refine j_icmp_ge (pc := 7) C 46 dX7_isEveryConcertRehearsed_7 (by decide) h (fun h => ?_) (fun h => ?_)
    · exact j_weak [] rfl (k46 _ h)
    · refine j_aload_n (pc := 10) C 1 dX7_isEveryConcertRehearsed_10 rfl ?_
      refine j_iload_n (pc := 11) C 2 dX7_isEveryConcertRehearsed_11 rfl ?_
      refine cs_X7_318 (pc := 12) C ⟨Nat.le_of_ble_eq_true rfl, Nat.le_of_ble_eq_true rfl⟩ hkc (Nat.le_of_ble_eq_true rfl) dX7_isEveryConcertRehearsed_12 h (fun r1 M1 h => ?_)
      refine j_if_eq (pc := 15) C 40 dX7_isEveryConcertRehearsed_15 (by decide) h (fun h => ?_) (fun h => ?_)
      · refine j_iinc (pc := 40) (v := (1 : Int32)) C 2 [(2, _), (0, _), (1, _)] dX7_isEveryConcertRehearsed_40 rfl rfl (by decide) rfl ?_
        refine j_goto (pc := 43) C 2 dX7_isEveryConcertRehearsed_43 (by decide) ?_
        exact j_weak [1, 2, 0] rfl (ih _ _ _ _ h)
      · refine j_aload_n (pc := 18) C 0 dX7_isEveryConcertRehearsed_18 rfl ?_
        refine j_aload_n (pc := 19) C 1 dX7_isEveryConcertRehearsed_19 rfl ?_
        refine j_aload_n (pc := 20) C 1 dX7_isEveryConcertRehearsed_20 rfl ?_
        refine gf_X7_241 (pc := 21) C dX7_isEveryConcertRehearsed_21 h (fun a2 h => ?_)
        refine j_iload_n (pc := 24) C 2 dX7_isEveryConcertRehearsed_24 rfl ?_
        refine j_iald (pc := 25) C dX7_isEveryConcertRehearsed_25 h (fun h => ?_)
        refine j_aload_n (pc := 26) C 1 dX7_isEveryConcertRehearsed_26 rfl ?_
        refine gf_X7_233 (pc := 27) C dX7_isEveryConcertRehearsed_27 h (fun a3 h => ?_)
        refine j_iload_n (pc := 30) C 2 dX7_isEveryConcertRehearsed_30 rfl ?_
        refine j_iald (pc := 31) C dX7_isEveryConcertRehearsed_31 h (fun h => ?_)
        refine cs_X7_344 (pc := 32) C ⟨Nat.le_of_ble_eq_true rfl, Nat.le_of_ble_eq_true rfl⟩ hkc (Nat.le_of_ble_eq_true rfl) dX7_isEveryConcertRehearsed_32 h (fun r4 M4 h => ?_)
        refine j_if_ne (pc := 35) C 40 dX7_isEveryConcertRehearsed_35 (by decide) h (fun h => ?_) (fun h => ?_)
        · refine j_iinc (pc := 40) (v := (1 : Int32)) C 2 [(2, _), (0, _), (1, _)] dX7_isEveryConcertRehearsed_40 rfl rfl (by decide) rfl ?_
          refine j_goto (pc := 43) C 2 dX7_isEveryConcertRehearsed_43 (by decide) ?_
          exact j_weak [1, 2, 0] rfl (ih _ _ _ _ h)
        · exact j_weak [] rfl (k38 _ h)
def w_X7_isEveryConcertRehearsed (M : Mm) (x0 : Nat) (x1 : Nat) (P : Int32 → Mm → Prop) : Prop := (∃ n2, l_X7_isEveryConcertRehearsed_2 P (fun M5 => ((0 : Int32) = 0 ∨ (0 : Int32) = 1) ∧ P (0 : Int32) M5) (fun M6 => ((1 : Int32) = 0 ∨ (1 : Int32) = 1) ∧ P (1 : Int32) M6) n2 M x0 x1 (0 : Int32))
set_option maxHeartbeats 4000000 in
set_option maxRecDepth 100000 in
theorem c_X7_isEveryConcertRehearsed (l : Launch) (E : EV) (M : Mm) (x0 : Nat) (x1 : Nat) (P : Int32 → Mm → Prop) (h : w_X7_isEveryConcertRehearsed M x0 x1 P) : CtI l E yX7_isEveryConcertRehearsed cX7_isEveryConcertRehearsed 3 .boolean rm_X7_isEveryConcertRehearsed 0 0 [.ref x0, .ref x1] M P := by
  refine ctI_of (by decide +kernel) (Nat.le_of_ble_eq_true rfl) ?_
  intro p e s m args below meth c C
  rw [w_X7_isEveryConcertRehearsed] at h
  show J p l e rm_X7_isEveryConcertRehearsed s m args below meth c (QI below E P args s 0 0) E 3 M 0 0 0 [(0, .ref x0), (1, .ref x1)] []
  refine j_iconst (pc := 0) (v := (0 : Int32)) C dX7_isEveryConcertRehearsed_0 rfl ?_
  refine j_istore_n (pc := 1) C [(2, _), (0, _), (1, _)] dX7_isEveryConcertRehearsed_1 (by decide) rfl ?_
  obtain ⟨n2, h⟩ := h
  refine j_weak [1, 2, 0] rfl (jl_X7_isEveryConcertRehearsed_2 C ⟨Nat.le_of_ble_eq_true rfl, Nat.le_of_ble_eq_true rfl⟩ (fun M5 h => ?_) (fun M6 h => ?_) n2 _ _ _ _ h)
  · refine j_iconst (pc := 38) (v := (0 : Int32)) C dX7_isEveryConcertRehearsed_38 rfl ?_
    exact j_zret (pc := 39) C dX7_isEveryConcertRehearsed_39 (Nat.le_of_ble_eq_true rfl) (Nat.le_of_ble_eq_true rfl) h
  · refine j_iconst (pc := 46) (v := (1 : Int32)) C dX7_isEveryConcertRehearsed_46 rfl ?_
    exact j_zret (pc := 47) C dX7_isEveryConcertRehearsed_47 (Nat.le_of_ble_eq_true rfl) (Nat.le_of_ble_eq_true rfl) h
theorem cs_X7_275 (C : Cx p l s m args meth c cc nL RX7 ret E) {b : Nat} {y0 : Nat} {P : Mm → Prop} (hR : rm_X4_copyFrom.frames + 1 ≤ R.frames ∧ 8 + (2 + 11) + rm_X4_copyFrom.locals ≤ R.locals) (hf : kc ≤ R.cells ∧ ks ≤ R.slots) (hst : (st.map fun v => v.category).sum ≤ 8) (d : decode cc pc = .ok (.invokevirtual 275, 3)) (h : zk M b = 4 ∧ w_X4_copyFrom M b y0 P) (kk : ∀ M', P M' → J p l e R s m args below meth c Q E nL M' kc ks (pc + 3) lo st) : J p l e R s m args below meth c Q E nL M kc ks pc lo (.ref y0 :: .ref b :: st) :=
  j_cV_V (n := 1) (As := [.ref y0]) C co_X4 rfl wd_965 wd_966 h.1 (c_X4_copyFrom l E M b y0 P h.2) ⟨wd_967, wd_964, wd_42, by decide +kernel, by decide +kernel, by decide +kernel⟩ rfl rfl hR hf rfl hst d kk
theorem cs_X7_299 (C : Cx p l s m args meth c cc nL RX7 ret E) {b : Nat} {y0 : Int32} {P : Mm → Prop} (hR : rm_X4_remove.frames + 1 ≤ R.frames ∧ 8 + (2 + 11) + rm_X4_remove.locals ≤ R.locals) (hf : kc ≤ R.cells ∧ ks ≤ R.slots) (hst : (st.map fun v => v.category).sum ≤ 8) (d : decode cc pc = .ok (.invokevirtual 299, 3)) (h : zk M b = 4 ∧ w_X4_remove M b y0 P) (kk : ∀ M', P M' → J p l e R s m args below meth c Q E nL M' kc ks (pc + 3) lo st) : J p l e R s m args below meth c Q E nL M kc ks pc lo (.int y0 :: .ref b :: st) :=
  j_cV_V (n := 1) (As := [.int y0]) C co_X4 rfl wd_1001 wd_1002 h.1 (c_X4_remove l E M b y0 P h.2) ⟨wd_1003, wd_1000, wd_42, by decide +kernel, by decide +kernel, by decide +kernel⟩ rfl rfl hR hf rfl hst d kk
theorem cs_X7_279 (C : Cx p l s m args meth c cc nL RX7 ret E) {b : Nat} {y0 : Int32} {y1 : Int32} {y2 : Int32} {y3 : Int32} {P : Int32 → Mm → Prop} (hR : rm_X7_addToDraft.frames + 1 ≤ R.frames ∧ 8 + (6 + 11) + rm_X7_addToDraft.locals ≤ R.locals) (hf : kc ≤ R.cells ∧ ks ≤ R.slots) (hst : (st.map fun v => v.category).sum ≤ 8) (d : decode cc pc = .ok (.invokevirtual 279, 3)) (h : zk M b = 7 ∧ w_X7_addToDraft M b y0 y1 y2 y3 P) (kk : ∀ r M', P r M' → J p l e R s m args below meth c Q E nL M' kc ks (pc + 3) lo (.int r :: st)) : J p l e R s m args below meth c Q E nL M kc ks pc lo (.int y3 :: .int y2 :: .int y1 :: .int y0 :: .ref b :: st) :=
  j_cV_I (n := 4) (As := [.int y0, .int y1, .int y2, .int y3]) C co_X7 rfl wd_1165 wd_31 h.1 (c_X7_addToDraft l E M b y0 y1 y2 y3 P h.2) ⟨wd_1166, wd_1163, wd_40, by decide +kernel, by decide +kernel, by decide +kernel⟩ rfl rfl hR hf rfl hst d kk
theorem cs_X7_302 (C : Cx p l s m args meth c cc nL RX7 ret E) {b : Nat} {y0 : Nat} {P : Int32 → Mm → Prop} (hR : rm_X7_isEveryConcertRehearsed.frames + 1 ≤ R.frames ∧ 8 + (3 + 11) + rm_X7_isEveryConcertRehearsed.locals ≤ R.locals) (hf : kc ≤ R.cells ∧ ks ≤ R.slots) (hst : (st.map fun v => v.category).sum ≤ 8) (d : decode cc pc = .ok (.invokevirtual 302, 3)) (h : zk M b = 7 ∧ w_X7_isEveryConcertRehearsed M b y0 P) (kk : ∀ r M', P r M' → J p l e R s m args below meth c Q E nL M' kc ks (pc + 3) lo (.int r :: st)) : J p l e R s m args below meth c Q E nL M kc ks pc lo (.ref y0 :: .ref b :: st) :=
  j_cV_I (n := 1) (As := [.ref y0]) C co_X7 rfl wd_1006 wd_22 h.1 (c_X7_isEveryConcertRehearsed l E M b y0 P h.2) ⟨wd_1007, wd_1004, wd_40, by decide +kernel, by decide +kernel, by decide +kernel⟩ rfl rfl hR hf rfl hst d kk
abbrev rm_X7_draftMove : Room := { frames := 5, cells := 0, slots := 0, locals := 134 }
def w_X7_draftMove (M : Mm) (x0 : Nat) (x1 : Int32) (x2 : Int32) (P : Int32 → Mm → Prop) : Prop := (zk M x0 = 7 ∧ ∃ a1, zR M x0 2 = some a1 ∧ (zk M a1 = 4 ∧ ∃ a2, zR M a1 2 = some a2 ∧ zk M a2 = 10 ∧ vp_in x1 (zl M a2) ∧ (zk M x0 = 7 ∧ ∃ a3, zR M x0 2 = some a3 ∧ (zk M a3 = 4 ∧ ∃ a4, zR M a3 4 = some a4 ∧ zk M a4 = 10 ∧ vp_in x1 (zl M a4) ∧ (zk M x0 = 7 ∧ ∃ a5, zR M x0 2 = some a5 ∧ zk M a5 = 4 ∧ w_X4_isConcert M a5 x1 (fun r6 M6 => (zk M6 x0 = 7 ∧ ∃ a7, zR M6 x0 3 = some a7 ∧ (zk M6 x0 = 7 ∧ ∃ a8, zR M6 x0 2 = some a8 ∧ zk M6 a7 = 4 ∧ w_X4_copyFrom M6 a7 a8 (fun M9 => (zk M9 x0 = 7 ∧ ∃ a10, zR M9 x0 3 = some a10 ∧ zk M9 a10 = 4 ∧ w_X4_remove M9 a10 x1 (fun M11 => (zk M11 x0 = 7 ∧ ∃ a12, zR M11 x0 3 = some a12 ∧ zk M11 x0 = 7 ∧ w_X7_reasonAgainst M11 x0 a12 (zI M a2 x1.toNatClampNeg) x2 (zI M a4 x1.toNatClampNeg) r6 (fun r13 M13 => (if r13 = 0 then zk M13 x0 = 7 ∧ w_X7_addToDraft M13 x0 (zI M a2 x1.toNatClampNeg) x2 (zI M a4 x1.toNatClampNeg) r6 (fun r14 M14 => (zk M14 x0 = 7 ∧ ∃ a15, zR M14 x0 3 = some a15 ∧ zk M14 x0 = 7 ∧ w_X7_isEveryConcertRehearsed M14 x0 a15 (fun r16 M16 => (if r16 = 0 then P (6 : Int32) M16 else P (0 : Int32) M16)))) else P r13 M13))))))))))))))
set_option maxHeartbeats 4000000 in
set_option maxRecDepth 100000 in
theorem c_X7_draftMove (l : Launch) (E : EV) (M : Mm) (x0 : Nat) (x1 : Int32) (x2 : Int32) (P : Int32 → Mm → Prop) (h : w_X7_draftMove M x0 x1 x2 P) : CtI l E yX7_draftMove cX7_draftMove 7 .int rm_X7_draftMove 0 0 [.ref x0, .int x1, .int x2] M P := by
  refine ctI_of (by decide +kernel) (Nat.le_of_ble_eq_true rfl) ?_
  intro p e s m args below meth c C
  rw [w_X7_draftMove] at h
  show J p l e rm_X7_draftMove s m args below meth c (QI below E P args s 0 0) E 7 M 0 0 0 [(0, .ref x0), (1, .int x1), (2, .int x2)] []
  refine j_aload_n (pc := 0) C 0 dX7_draftMove_0 rfl ?_
  refine gf_X7_23 (pc := 1) C dX7_draftMove_1 h (fun a1 h => ?_)
  refine gf_X7_236 (pc := 4) C dX7_draftMove_4 h (fun a2 h => ?_)
  refine j_iload_n (pc := 7) C 1 dX7_draftMove_7 rfl ?_
  refine j_iald (pc := 8) C dX7_draftMove_8 h (fun h => ?_)
  refine j_istore_n (pc := 9) C [(3, _), (0, _), (1, _), (2, _)] dX7_draftMove_9 (by decide) rfl ?_
  refine j_aload_n (pc := 10) C 1 dX7_draftMove_10 rfl ?_
  refine gf_X7_23 (pc := 11) C dX7_draftMove_11 h (fun a3 h => ?_)
  refine gf_X7_241 (pc := 14) C dX7_draftMove_14 h (fun a4 h => ?_)
  refine j_iload_n (pc := 17) C 2 dX7_draftMove_17 rfl ?_
  refine j_iald (pc := 18) C dX7_draftMove_18 h (fun h => ?_)
  refine j_istore (pc := 19) C [(4, _), (3, _), (0, _), (1, _), (2, _)] dX7_draftMove_19 (by decide) rfl ?_
  refine j_aload_n (pc := 21) C 2 dX7_draftMove_21 rfl ?_
  refine gf_X7_23 (pc := 22) C dX7_draftMove_22 h (fun a5 h => ?_)
  refine j_iload_n (pc := 25) C 3 dX7_draftMove_25 rfl ?_
  refine cs_X7_318 (pc := 26) C ⟨Nat.le_of_ble_eq_true rfl, Nat.le_of_ble_eq_true rfl⟩ ⟨Nat.le_of_ble_eq_true rfl, Nat.le_of_ble_eq_true rfl⟩ (Nat.le_of_ble_eq_true rfl) dX7_draftMove_26 h (fun r6 M6 h => ?_)
  refine j_istore (pc := 29) C [(5, _), (4, _), (3, _), (0, _), (1, _), (2, _)] dX7_draftMove_29 (by decide) rfl ?_
  refine j_aload_n (pc := 31) C 3 dX7_draftMove_31 rfl ?_
  refine gf_X7_27 (pc := 32) C dX7_draftMove_32 h (fun a7 h => ?_)
  refine j_aload_n (pc := 35) C 3 dX7_draftMove_35 rfl ?_
  refine gf_X7_23 (pc := 36) C dX7_draftMove_36 h (fun a8 h => ?_)
  refine cs_X7_275 (pc := 39) C ⟨Nat.le_of_ble_eq_true rfl, Nat.le_of_ble_eq_true rfl⟩ ⟨Nat.le_of_ble_eq_true rfl, Nat.le_of_ble_eq_true rfl⟩ (Nat.le_of_ble_eq_true rfl) dX7_draftMove_39 h (fun M9 h => ?_)
  refine j_aload_n (pc := 42) C 3 dX7_draftMove_42 rfl ?_
  refine gf_X7_27 (pc := 43) C dX7_draftMove_43 h (fun a10 h => ?_)
  refine j_iload_n (pc := 46) C 4 dX7_draftMove_46 rfl ?_
  refine cs_X7_299 (pc := 47) C ⟨Nat.le_of_ble_eq_true rfl, Nat.le_of_ble_eq_true rfl⟩ ⟨Nat.le_of_ble_eq_true rfl, Nat.le_of_ble_eq_true rfl⟩ (Nat.le_of_ble_eq_true rfl) dX7_draftMove_47 h (fun M11 h => ?_)
  refine j_aload_n (pc := 50) C 3 dX7_draftMove_50 rfl ?_
  refine j_aload_n (pc := 51) C 3 dX7_draftMove_51 rfl ?_
  refine gf_X7_27 (pc := 52) C dX7_draftMove_52 h (fun a12 h => ?_)
  refine j_iload_n (pc := 55) C 2 dX7_draftMove_55 rfl ?_
  refine j_iload_n (pc := 56) C 5 dX7_draftMove_56 rfl ?_
  refine j_iload (pc := 57) C 1 dX7_draftMove_57 rfl ?_
  refine j_iload (pc := 59) C 0 dX7_draftMove_59 rfl ?_
  refine cs_X7_265 (pc := 61) C ⟨Nat.le_of_ble_eq_true rfl, Nat.le_of_ble_eq_true rfl⟩ ⟨Nat.le_of_ble_eq_true rfl, Nat.le_of_ble_eq_true rfl⟩ (Nat.le_of_ble_eq_true rfl) dX7_draftMove_61 h (fun r13 M13 h => ?_)
  refine j_istore (pc := 64) C [(6, _), (5, _), (4, _), (3, _), (0, _), (1, _), (2, _)] dX7_draftMove_64 (by decide) rfl ?_
  refine j_iload (pc := 66) C 0 dX7_draftMove_66 rfl ?_
  refine j_if_eq (pc := 68) C 74 dX7_draftMove_68 (by decide) h (fun h => ?_) (fun h => ?_)
  · refine j_aload_n (pc := 74) C 4 dX7_draftMove_74 rfl ?_
    refine j_iload_n (pc := 75) C 3 dX7_draftMove_75 rfl ?_
    refine j_iload_n (pc := 76) C 6 dX7_draftMove_76 rfl ?_
    refine j_iload (pc := 77) C 2 dX7_draftMove_77 rfl ?_
    refine j_iload (pc := 79) C 1 dX7_draftMove_79 rfl ?_
    refine cs_X7_279 (pc := 81) C ⟨Nat.le_of_ble_eq_true rfl, Nat.le_of_ble_eq_true rfl⟩ ⟨Nat.le_of_ble_eq_true rfl, Nat.le_of_ble_eq_true rfl⟩ (Nat.le_of_ble_eq_true rfl) dX7_draftMove_81 h (fun r14 M14 h => ?_)
    refine j_pop (pc := 84) C dX7_draftMove_84 rfl ?_
    refine j_aload_n (pc := 85) C 4 dX7_draftMove_85 rfl ?_
    refine j_aload_n (pc := 86) C 4 dX7_draftMove_86 rfl ?_
    refine gf_X7_27 (pc := 87) C dX7_draftMove_87 h (fun a15 h => ?_)
    refine cs_X7_302 (pc := 90) C ⟨Nat.le_of_ble_eq_true rfl, Nat.le_of_ble_eq_true rfl⟩ ⟨Nat.le_of_ble_eq_true rfl, Nat.le_of_ble_eq_true rfl⟩ (Nat.le_of_ble_eq_true rfl) dX7_draftMove_90 h (fun r16 M16 h => ?_)
    refine j_if_eq (pc := 93) C 100 dX7_draftMove_93 (by decide) h (fun h => ?_) (fun h => ?_)
    · refine j_bipush (pc := 100) (v := (6 : Int32)) C dX7_draftMove_100 rfl ?_
      exact j_iret (pc := 102) C dX7_draftMove_102 (Nat.le_of_ble_eq_true rfl) (Nat.le_of_ble_eq_true rfl) h
    · refine j_iconst (pc := 96) (v := (0 : Int32)) C dX7_draftMove_96 rfl ?_
      refine j_goto (pc := 97) C 102 dX7_draftMove_97 (by decide) ?_
      exact j_iret (pc := 102) C dX7_draftMove_102 (Nat.le_of_ble_eq_true rfl) (Nat.le_of_ble_eq_true rfl) h
  · refine j_iload (pc := 71) C 0 dX7_draftMove_71 rfl ?_
    exact j_iret (pc := 73) C dX7_draftMove_73 (Nat.le_of_ble_eq_true rfl) (Nat.le_of_ble_eq_true rfl) h
theorem cs_X7_269 (C : Cx p l s m args meth c cc nL RX7 ret E) {b : Nat} {y0 : Int32} {y1 : Int32} {P : Int32 → Mm → Prop} (hR : rm_X7_draftMove.frames + 1 ≤ R.frames ∧ 8 + (7 + 11) + rm_X7_draftMove.locals ≤ R.locals) (hf : kc ≤ R.cells ∧ ks ≤ R.slots) (hst : (st.map fun v => v.category).sum ≤ 8) (d : decode cc pc = .ok (.invokevirtual 269, 3)) (h : zk M b = 7 ∧ w_X7_draftMove M b y0 y1 P) (kk : ∀ r M', P r M' → J p l e R s m args below meth c Q E nL M' kc ks (pc + 3) lo (.int r :: st)) : J p l e R s m args below meth c Q E nL M kc ks pc lo (.int y1 :: .int y0 :: .ref b :: st) :=
  j_cV_I (n := 2) (As := [.int y0, .int y1]) C co_X7 rfl wd_1101 wd_26 h.1 (c_X7_draftMove l E M b y0 y1 P h.2) ⟨wd_1102, wd_1099, wd_40, by decide +kernel, by decide +kernel, by decide +kernel⟩ rfl rfl hR hf rfl hst d kk
abbrev rm_X7_whyNotMove : Room := { frames := 8, cells := 2, slots := 12, locals := 160 }
def w_X7_whyNotMove (M : Mm) (x0 : Nat) (x1 : Int32) (x2 : Int32) (P : Int32 → Mm → Prop) (X : String → Mm → Prop) : Prop := zk M x0 = 7 ∧ w_X7_requireService M x0 x1 (fun M1 => zk M1 x0 = 7 ∧ w_X7_requireSlot M1 x0 x2 (fun M2 => zk M2 x0 = 7 ∧ w_X7_draftMove M2 x0 x1 x2 (fun r3 M3 => P r3 M3)) X) X
set_option maxHeartbeats 4000000 in
set_option maxRecDepth 100000 in
theorem c_X7_whyNotMove (l : Launch) (E : EV) (M : Mm) (x0 : Nat) (x1 : Int32) (x2 : Int32) (P : Int32 → Mm → Prop) (X : String → Mm → Prop) (h : w_X7_whyNotMove M x0 x1 x2 P X) : CtIX l E yX7_whyNotMove cX7_whyNotMove 3 .int rm_X7_whyNotMove 2 12 [.ref x0, .int x1, .int x2] M P X := by
  refine ctIX_of (by decide +kernel) (Nat.le_of_ble_eq_true rfl) ?_
  intro p e s m args below meth c C hex
  rw [w_X7_whyNotMove] at h
  show J p l e rm_X7_whyNotMove s m args below meth c (QIX below E P X args s 2 12) E 3 M 0 0 0 [(0, .ref x0), (1, .int x1), (2, .int x2)] []
  refine j_aload_n (pc := 0) C 0 dX7_whyNotMove_0 rfl ?_
  refine j_iload_n (pc := 1) C 1 dX7_whyNotMove_1 rfl ?_
  refine cs_X7_230 (pc := 2) C hex ⟨Nat.le_of_ble_eq_true rfl, Nat.le_of_ble_eq_true rfl⟩ ⟨Nat.le_of_ble_eq_true rfl, Nat.le_of_ble_eq_true rfl⟩ ⟨Nat.le_of_ble_eq_true rfl, Nat.le_of_ble_eq_true rfl⟩ (Nat.le_of_ble_eq_true rfl) dX7_whyNotMove_2 h (fun M1 h => ?_)
  refine j_aload_n (pc := 5) C 0 dX7_whyNotMove_5 rfl ?_
  refine j_iload_n (pc := 6) C 2 dX7_whyNotMove_6 rfl ?_
  refine cs_X7_183 (pc := 7) C hex ⟨Nat.le_of_ble_eq_true rfl, Nat.le_of_ble_eq_true rfl⟩ ⟨Nat.le_of_ble_eq_true rfl, Nat.le_of_ble_eq_true rfl⟩ ⟨Nat.le_of_ble_eq_true rfl, Nat.le_of_ble_eq_true rfl⟩ (Nat.le_of_ble_eq_true rfl) dX7_whyNotMove_7 h (fun M2 h => ?_)
  refine j_aload_n (pc := 10) C 0 dX7_whyNotMove_10 rfl ?_
  refine j_iload_n (pc := 11) C 1 dX7_whyNotMove_11 rfl ?_
  refine j_iload_n (pc := 12) C 2 dX7_whyNotMove_12 rfl ?_
  refine cs_X7_269 (pc := 13) C ⟨Nat.le_of_ble_eq_true rfl, Nat.le_of_ble_eq_true rfl⟩ ⟨Nat.le_of_ble_eq_true rfl, Nat.le_of_ble_eq_true rfl⟩ (Nat.le_of_ble_eq_true rfl) dX7_whyNotMove_13 h (fun r3 M3 h => ?_)
  exact j_iretX (pc := 16) C dX7_whyNotMove_16 (Nat.le_of_ble_eq_true rfl) (Nat.le_of_ble_eq_true rfl) h
abbrev rm0_X7_whyNotMove : Room := { frames := 6, cells := 0, slots := 0, locals := 160 }
set_option maxHeartbeats 4000000 in
set_option maxRecDepth 100000 in
theorem c0_X7_whyNotMove (l : Launch) (E : EV) (M : Mm) (x0 : Nat) (x1 : Int32) (x2 : Int32) (P : Int32 → Mm → Prop) (h : w_X7_whyNotMove M x0 x1 x2 P (fun _ _ => False)) : CtI l E yX7_whyNotMove cX7_whyNotMove 3 .int rm0_X7_whyNotMove 0 0 [.ref x0, .int x1, .int x2] M P := by
  refine ctI_of (by decide +kernel) (Nat.le_of_ble_eq_true rfl) ?_
  intro p e s m args below meth c C
  rw [w_X7_whyNotMove] at h
  show J p l e rm0_X7_whyNotMove s m args below meth c (QI below E P args s 0 0) E 3 M 0 0 0 [(0, .ref x0), (1, .int x1), (2, .int x2)] []
  refine j_aload_n (pc := 0) C 0 dX7_whyNotMove_0 rfl ?_
  refine j_iload_n (pc := 1) C 1 dX7_whyNotMove_1 rfl ?_
  refine cs0_X7_230 (pc := 2) C ⟨Nat.le_of_ble_eq_true rfl, Nat.le_of_ble_eq_true rfl⟩ ⟨Nat.le_of_ble_eq_true rfl, Nat.le_of_ble_eq_true rfl⟩ (Nat.le_of_ble_eq_true rfl) dX7_whyNotMove_2 h (fun M1 h => ?_)
  refine j_aload_n (pc := 5) C 0 dX7_whyNotMove_5 rfl ?_
  refine j_iload_n (pc := 6) C 2 dX7_whyNotMove_6 rfl ?_
  refine cs0_X7_183 (pc := 7) C ⟨Nat.le_of_ble_eq_true rfl, Nat.le_of_ble_eq_true rfl⟩ ⟨Nat.le_of_ble_eq_true rfl, Nat.le_of_ble_eq_true rfl⟩ (Nat.le_of_ble_eq_true rfl) dX7_whyNotMove_7 h (fun M2 h => ?_)
  refine j_aload_n (pc := 10) C 0 dX7_whyNotMove_10 rfl ?_
  refine j_iload_n (pc := 11) C 1 dX7_whyNotMove_11 rfl ?_
  refine j_iload_n (pc := 12) C 2 dX7_whyNotMove_12 rfl ?_
  refine cs_X7_269 (pc := 13) C ⟨Nat.le_of_ble_eq_true rfl, Nat.le_of_ble_eq_true rfl⟩ ⟨Nat.le_of_ble_eq_true rfl, Nat.le_of_ble_eq_true rfl⟩ (Nat.le_of_ble_eq_true rfl) dX7_whyNotMove_13 h (fun r3 M3 h => ?_)
  exact j_iret (pc := 16) C dX7_whyNotMove_16 (Nat.le_of_ble_eq_true rfl) (Nat.le_of_ble_eq_true rfl) h
theorem cs_X7_272 (C : Cx p l s m args meth c cc nL RX7 ret E) {y0 : Nat} {y1 : Nat} {y2 : Int32} {P : Int32 → Mm → Prop} (hR : rm_X1_costsOf.frames + 1 ≤ R.frames ∧ 8 + (3 + 11) + rm_X1_costsOf.locals ≤ R.locals) (hf : kc ≤ R.cells ∧ ks ≤ R.slots) (hst : (st.map fun v => v.category).sum ≤ 8) (d : decode cc pc = .ok (.invokestatic 272, 3)) (h : w_X1_costsOf M y0 y1 y2 P) (kk : ∀ r M', P r M' → J p l e R s m args below meth c Q E nL M' kc ks (pc + 3) lo (.int r :: st)) : J p l e R s m args below meth c Q E nL M kc ks pc lo (.int y2 :: .ref y1 :: .ref y0 :: st) :=
  j_cS_I (n := 3) (As := [.ref y0, .ref y1, .int y2]) C wd_1330 (c_X1_costsOf l E M y0 y1 y2 P h) ⟨wd_1331, wd_1329, wd_65, by decide +kernel, by decide +kernel, by decide +kernel⟩ rfl rfl hR hf rfl hst d kk
abbrev rm_X7_costs : Room := { frames := 7, cells := 1, slots := 6, locals := 138 }
def w_X7_costs (M : Mm) (x0 : Nat) (x1 : Int32) (P : Int32 → Mm → Prop) (X : String → Mm → Prop) : Prop := (if x1 < 0 then w_X7_requireArgument M (0 : Int32) (fun M1 => (zk M1 x0 = 7 ∧ ∃ a2, zR M1 x0 10 = some a2 ∧ (zk M1 x0 = 7 ∧ ∃ a3, zR M1 x0 2 = some a3 ∧ w_X1_costsOf M1 a2 a3 x1 (fun r4 M4 => P r4 M4)))) X else (if (3 : Int32) < x1 then w_X7_requireArgument M (0 : Int32) (fun M5 => (zk M5 x0 = 7 ∧ ∃ a6, zR M5 x0 10 = some a6 ∧ (zk M5 x0 = 7 ∧ ∃ a7, zR M5 x0 2 = some a7 ∧ w_X1_costsOf M5 a6 a7 x1 (fun r8 M8 => P r8 M8)))) X else w_X7_requireArgument M (1 : Int32) (fun M9 => (zk M9 x0 = 7 ∧ ∃ a10, zR M9 x0 10 = some a10 ∧ (zk M9 x0 = 7 ∧ ∃ a11, zR M9 x0 2 = some a11 ∧ w_X1_costsOf M9 a10 a11 x1 (fun r12 M12 => P r12 M12)))) X))
set_option maxHeartbeats 4000000 in
set_option maxRecDepth 100000 in
theorem c_X7_costs (l : Launch) (E : EV) (M : Mm) (x0 : Nat) (x1 : Int32) (P : Int32 → Mm → Prop) (X : String → Mm → Prop) (h : w_X7_costs M x0 x1 P X) : CtIX l E yX7_costs cX7_costs 2 .int rm_X7_costs 1 6 [.ref x0, .int x1] M P X := by
  refine ctIX_of (by decide +kernel) (Nat.le_of_ble_eq_true rfl) ?_
  intro p e s m args below meth c C hex
  rw [w_X7_costs] at h
  show J p l e rm_X7_costs s m args below meth c (QIX below E P X args s 1 6) E 2 M 0 0 0 [(0, .ref x0), (1, .int x1)] []
  refine j_iload_n (pc := 0) C 1 dX7_costs_0 rfl ?_
  refine j_if_lt (pc := 1) C 13 dX7_costs_1 (by decide) h (fun h => ?_) (fun h => ?_)
  · refine j_iconst (pc := 13) (v := (0 : Int32)) C dX7_costs_13 rfl ?_
    refine cs_X7_62 (pc := 14) C hex ⟨Nat.le_of_ble_eq_true rfl, Nat.le_of_ble_eq_true rfl⟩ ⟨Nat.le_of_ble_eq_true rfl, Nat.le_of_ble_eq_true rfl⟩ ⟨Nat.le_of_ble_eq_true rfl, Nat.le_of_ble_eq_true rfl⟩ (Nat.le_of_ble_eq_true rfl) dX7_costs_14 h (fun M1 h => ?_)
    refine j_aload_n (pc := 17) C 0 dX7_costs_17 rfl ?_
    refine gf_X7_48 (pc := 18) C dX7_costs_18 h (fun a2 h => ?_)
    refine j_aload_n (pc := 21) C 0 dX7_costs_21 rfl ?_
    refine gf_X7_23 (pc := 22) C dX7_costs_22 h (fun a3 h => ?_)
    refine j_iload_n (pc := 25) C 1 dX7_costs_25 rfl ?_
    refine cs_X7_272 (pc := 26) C ⟨Nat.le_of_ble_eq_true rfl, Nat.le_of_ble_eq_true rfl⟩ ⟨Nat.le_of_ble_eq_true rfl, Nat.le_of_ble_eq_true rfl⟩ (Nat.le_of_ble_eq_true rfl) dX7_costs_26 h (fun r4 M4 h => ?_)
    exact j_iretX (pc := 29) C dX7_costs_29 (Nat.le_of_ble_eq_true rfl) (Nat.le_of_ble_eq_true rfl) h
  · refine j_iload_n (pc := 4) C 1 dX7_costs_4 rfl ?_
    refine j_iconst (pc := 5) (v := (3 : Int32)) C dX7_costs_5 rfl ?_
    refine j_icmp_gt (pc := 6) C 13 dX7_costs_6 (by decide) h (fun h => ?_) (fun h => ?_)
    · refine j_iconst (pc := 13) (v := (0 : Int32)) C dX7_costs_13 rfl ?_
      refine cs_X7_62 (pc := 14) C hex ⟨Nat.le_of_ble_eq_true rfl, Nat.le_of_ble_eq_true rfl⟩ ⟨Nat.le_of_ble_eq_true rfl, Nat.le_of_ble_eq_true rfl⟩ ⟨Nat.le_of_ble_eq_true rfl, Nat.le_of_ble_eq_true rfl⟩ (Nat.le_of_ble_eq_true rfl) dX7_costs_14 h (fun M5 h => ?_)
      refine j_aload_n (pc := 17) C 0 dX7_costs_17 rfl ?_
      refine gf_X7_48 (pc := 18) C dX7_costs_18 h (fun a6 h => ?_)
      refine j_aload_n (pc := 21) C 0 dX7_costs_21 rfl ?_
      refine gf_X7_23 (pc := 22) C dX7_costs_22 h (fun a7 h => ?_)
      refine j_iload_n (pc := 25) C 1 dX7_costs_25 rfl ?_
      refine cs_X7_272 (pc := 26) C ⟨Nat.le_of_ble_eq_true rfl, Nat.le_of_ble_eq_true rfl⟩ ⟨Nat.le_of_ble_eq_true rfl, Nat.le_of_ble_eq_true rfl⟩ (Nat.le_of_ble_eq_true rfl) dX7_costs_26 h (fun r8 M8 h => ?_)
      exact j_iretX (pc := 29) C dX7_costs_29 (Nat.le_of_ble_eq_true rfl) (Nat.le_of_ble_eq_true rfl) h
    · refine j_iconst (pc := 9) (v := (1 : Int32)) C dX7_costs_9 rfl ?_
      refine j_goto (pc := 10) C 14 dX7_costs_10 (by decide) ?_
      refine cs_X7_62 (pc := 14) C hex ⟨Nat.le_of_ble_eq_true rfl, Nat.le_of_ble_eq_true rfl⟩ ⟨Nat.le_of_ble_eq_true rfl, Nat.le_of_ble_eq_true rfl⟩ ⟨Nat.le_of_ble_eq_true rfl, Nat.le_of_ble_eq_true rfl⟩ (Nat.le_of_ble_eq_true rfl) dX7_costs_14 h (fun M9 h => ?_)
      refine j_aload_n (pc := 17) C 0 dX7_costs_17 rfl ?_
      refine gf_X7_48 (pc := 18) C dX7_costs_18 h (fun a10 h => ?_)
      refine j_aload_n (pc := 21) C 0 dX7_costs_21 rfl ?_
      refine gf_X7_23 (pc := 22) C dX7_costs_22 h (fun a11 h => ?_)
      refine j_iload_n (pc := 25) C 1 dX7_costs_25 rfl ?_
      refine cs_X7_272 (pc := 26) C ⟨Nat.le_of_ble_eq_true rfl, Nat.le_of_ble_eq_true rfl⟩ ⟨Nat.le_of_ble_eq_true rfl, Nat.le_of_ble_eq_true rfl⟩ (Nat.le_of_ble_eq_true rfl) dX7_costs_26 h (fun r12 M12 h => ?_)
      exact j_iretX (pc := 29) C dX7_costs_29 (Nat.le_of_ble_eq_true rfl) (Nat.le_of_ble_eq_true rfl) h
abbrev rm0_X7_costs : Room := { frames := 6, cells := 0, slots := 0, locals := 138 }
set_option maxHeartbeats 4000000 in
set_option maxRecDepth 100000 in
theorem c0_X7_costs (l : Launch) (E : EV) (M : Mm) (x0 : Nat) (x1 : Int32) (P : Int32 → Mm → Prop) (h : w_X7_costs M x0 x1 P (fun _ _ => False)) : CtI l E yX7_costs cX7_costs 2 .int rm0_X7_costs 0 0 [.ref x0, .int x1] M P := by
  refine ctI_of (by decide +kernel) (Nat.le_of_ble_eq_true rfl) ?_
  intro p e s m args below meth c C
  rw [w_X7_costs] at h
  show J p l e rm0_X7_costs s m args below meth c (QI below E P args s 0 0) E 2 M 0 0 0 [(0, .ref x0), (1, .int x1)] []
  refine j_iload_n (pc := 0) C 1 dX7_costs_0 rfl ?_
  refine j_if_lt (pc := 1) C 13 dX7_costs_1 (by decide) h (fun h => ?_) (fun h => ?_)
  · refine j_iconst (pc := 13) (v := (0 : Int32)) C dX7_costs_13 rfl ?_
    refine cs0_X7_62 (pc := 14) C ⟨Nat.le_of_ble_eq_true rfl, Nat.le_of_ble_eq_true rfl⟩ ⟨Nat.le_of_ble_eq_true rfl, Nat.le_of_ble_eq_true rfl⟩ (Nat.le_of_ble_eq_true rfl) dX7_costs_14 h (fun M1 h => ?_)
    refine j_aload_n (pc := 17) C 0 dX7_costs_17 rfl ?_
    refine gf_X7_48 (pc := 18) C dX7_costs_18 h (fun a2 h => ?_)
    refine j_aload_n (pc := 21) C 0 dX7_costs_21 rfl ?_
    refine gf_X7_23 (pc := 22) C dX7_costs_22 h (fun a3 h => ?_)
    refine j_iload_n (pc := 25) C 1 dX7_costs_25 rfl ?_
    refine cs_X7_272 (pc := 26) C ⟨Nat.le_of_ble_eq_true rfl, Nat.le_of_ble_eq_true rfl⟩ ⟨Nat.le_of_ble_eq_true rfl, Nat.le_of_ble_eq_true rfl⟩ (Nat.le_of_ble_eq_true rfl) dX7_costs_26 h (fun r4 M4 h => ?_)
    exact j_iret (pc := 29) C dX7_costs_29 (Nat.le_of_ble_eq_true rfl) (Nat.le_of_ble_eq_true rfl) h
  · refine j_iload_n (pc := 4) C 1 dX7_costs_4 rfl ?_
    refine j_iconst (pc := 5) (v := (3 : Int32)) C dX7_costs_5 rfl ?_
    refine j_icmp_gt (pc := 6) C 13 dX7_costs_6 (by decide) h (fun h => ?_) (fun h => ?_)
    · refine j_iconst (pc := 13) (v := (0 : Int32)) C dX7_costs_13 rfl ?_
      refine cs0_X7_62 (pc := 14) C ⟨Nat.le_of_ble_eq_true rfl, Nat.le_of_ble_eq_true rfl⟩ ⟨Nat.le_of_ble_eq_true rfl, Nat.le_of_ble_eq_true rfl⟩ (Nat.le_of_ble_eq_true rfl) dX7_costs_14 h (fun M5 h => ?_)
      refine j_aload_n (pc := 17) C 0 dX7_costs_17 rfl ?_
      refine gf_X7_48 (pc := 18) C dX7_costs_18 h (fun a6 h => ?_)
      refine j_aload_n (pc := 21) C 0 dX7_costs_21 rfl ?_
      refine gf_X7_23 (pc := 22) C dX7_costs_22 h (fun a7 h => ?_)
      refine j_iload_n (pc := 25) C 1 dX7_costs_25 rfl ?_
      refine cs_X7_272 (pc := 26) C ⟨Nat.le_of_ble_eq_true rfl, Nat.le_of_ble_eq_true rfl⟩ ⟨Nat.le_of_ble_eq_true rfl, Nat.le_of_ble_eq_true rfl⟩ (Nat.le_of_ble_eq_true rfl) dX7_costs_26 h (fun r8 M8 h => ?_)
      exact j_iret (pc := 29) C dX7_costs_29 (Nat.le_of_ble_eq_true rfl) (Nat.le_of_ble_eq_true rfl) h
    · refine j_iconst (pc := 9) (v := (1 : Int32)) C dX7_costs_9 rfl ?_
      refine j_goto (pc := 10) C 14 dX7_costs_10 (by decide) ?_
      refine cs0_X7_62 (pc := 14) C ⟨Nat.le_of_ble_eq_true rfl, Nat.le_of_ble_eq_true rfl⟩ ⟨Nat.le_of_ble_eq_true rfl, Nat.le_of_ble_eq_true rfl⟩ (Nat.le_of_ble_eq_true rfl) dX7_costs_14 h (fun M9 h => ?_)
      refine j_aload_n (pc := 17) C 0 dX7_costs_17 rfl ?_
      refine gf_X7_48 (pc := 18) C dX7_costs_18 h (fun a10 h => ?_)
      refine j_aload_n (pc := 21) C 0 dX7_costs_21 rfl ?_
      refine gf_X7_23 (pc := 22) C dX7_costs_22 h (fun a11 h => ?_)
      refine j_iload_n (pc := 25) C 1 dX7_costs_25 rfl ?_
      refine cs_X7_272 (pc := 26) C ⟨Nat.le_of_ble_eq_true rfl, Nat.le_of_ble_eq_true rfl⟩ ⟨Nat.le_of_ble_eq_true rfl, Nat.le_of_ble_eq_true rfl⟩ (Nat.le_of_ble_eq_true rfl) dX7_costs_26 h (fun r12 M12 h => ?_)
      exact j_iret (pc := 29) C dX7_costs_29 (Nat.le_of_ble_eq_true rfl) (Nat.le_of_ble_eq_true rfl) h
abbrev rm_X7_costsWith : Room := { frames := 9, cells := 4, slots := 24, locals := 156 }
def w_X7_costsWith (M : Mm) (x0 : Nat) (x1 : Int32) (x2 : Int32) (x3 : Int32) (x4 : Int32) (P : Int32 → Mm → Prop) (X : String → Mm → Prop) : Prop := zk M x0 = 7 ∧ w_X7_requirePlaceAndWorks M x0 x1 x2 x3 x4 (fun M1 => (zk M1 x0 = 7 ∧ ∃ a2, zR M1 x0 2 = some a2 ∧ zk M1 x0 = 7 ∧ w_X7_reasonAgainst M1 x0 a2 x1 x2 x3 x4 (fun r3 M3 => (if r3 = 0 then (zk M3 x0 = 7 ∧ ∃ a4, zR M3 x0 3 = some a4 ∧ (zk M3 x0 = 7 ∧ ∃ a5, zR M3 x0 2 = some a5 ∧ zk M3 a4 = 4 ∧ w_X4_copyFrom M3 a4 a5 (fun M6 => zk M6 x0 = 7 ∧ w_X7_addToDraft M6 x0 x1 x2 x3 x4 (fun r7 M7 => (zk M7 x0 = 7 ∧ ∃ a8, zR M7 x0 10 = some a8 ∧ (zk M7 x0 = 7 ∧ ∃ a9, zR M7 x0 3 = some a9 ∧ w_X1_costsOf M7 a8 a9 (3 : Int32) (fun r10 M10 => P r10 M10))))))) else P (-1 : Int32) M3)))) X
set_option maxHeartbeats 4000000 in
set_option maxRecDepth 100000 in
theorem c_X7_costsWith (l : Launch) (E : EV) (M : Mm) (x0 : Nat) (x1 : Int32) (x2 : Int32) (x3 : Int32) (x4 : Int32) (P : Int32 → Mm → Prop) (X : String → Mm → Prop) (h : w_X7_costsWith M x0 x1 x2 x3 x4 P X) : CtIX l E yX7_costsWith cX7_costsWith 5 .int rm_X7_costsWith 4 24 [.ref x0, .int x1, .int x2, .int x3, .int x4] M P X := by
  refine ctIX_of (by decide +kernel) (Nat.le_of_ble_eq_true rfl) ?_
  intro p e s m args below meth c C hex
  rw [w_X7_costsWith] at h
  show J p l e rm_X7_costsWith s m args below meth c (QIX below E P X args s 4 24) E 5 M 0 0 0 [(0, .ref x0), (1, .int x1), (2, .int x2), (3, .int x3), (4, .int x4)] []
  refine j_aload_n (pc := 0) C 0 dX7_costsWith_0 rfl ?_
  refine j_iload_n (pc := 1) C 1 dX7_costsWith_1 rfl ?_
  refine j_iload_n (pc := 2) C 2 dX7_costsWith_2 rfl ?_
  refine j_iload_n (pc := 3) C 3 dX7_costsWith_3 rfl ?_
  refine j_iload (pc := 4) C 4 dX7_costsWith_4 rfl ?_
  refine cs_X7_261 (pc := 6) C hex ⟨Nat.le_of_ble_eq_true rfl, Nat.le_of_ble_eq_true rfl⟩ ⟨Nat.le_of_ble_eq_true rfl, Nat.le_of_ble_eq_true rfl⟩ ⟨Nat.le_of_ble_eq_true rfl, Nat.le_of_ble_eq_true rfl⟩ (Nat.le_of_ble_eq_true rfl) dX7_costsWith_6 h (fun M1 h => ?_)
  refine j_aload_n (pc := 9) C 0 dX7_costsWith_9 rfl ?_
  refine j_aload_n (pc := 10) C 0 dX7_costsWith_10 rfl ?_
  refine gf_X7_23 (pc := 11) C dX7_costsWith_11 h (fun a2 h => ?_)
  refine j_iload_n (pc := 14) C 1 dX7_costsWith_14 rfl ?_
  refine j_iload_n (pc := 15) C 2 dX7_costsWith_15 rfl ?_
  refine j_iload_n (pc := 16) C 3 dX7_costsWith_16 rfl ?_
  refine j_iload (pc := 17) C 4 dX7_costsWith_17 rfl ?_
  refine cs_X7_265 (pc := 19) C ⟨Nat.le_of_ble_eq_true rfl, Nat.le_of_ble_eq_true rfl⟩ ⟨Nat.le_of_ble_eq_true rfl, Nat.le_of_ble_eq_true rfl⟩ (Nat.le_of_ble_eq_true rfl) dX7_costsWith_19 h (fun r3 M3 h => ?_)
  refine j_if_eq (pc := 22) C 27 dX7_costsWith_22 (by decide) h (fun h => ?_) (fun h => ?_)
  · refine j_aload_n (pc := 27) C 0 dX7_costsWith_27 rfl ?_
    refine gf_X7_27 (pc := 28) C dX7_costsWith_28 h (fun a4 h => ?_)
    refine j_aload_n (pc := 31) C 0 dX7_costsWith_31 rfl ?_
    refine gf_X7_23 (pc := 32) C dX7_costsWith_32 h (fun a5 h => ?_)
    refine cs_X7_275 (pc := 35) C ⟨Nat.le_of_ble_eq_true rfl, Nat.le_of_ble_eq_true rfl⟩ ⟨Nat.le_of_ble_eq_true rfl, Nat.le_of_ble_eq_true rfl⟩ (Nat.le_of_ble_eq_true rfl) dX7_costsWith_35 h (fun M6 h => ?_)
    refine j_aload_n (pc := 38) C 0 dX7_costsWith_38 rfl ?_
    refine j_iload_n (pc := 39) C 1 dX7_costsWith_39 rfl ?_
    refine j_iload_n (pc := 40) C 2 dX7_costsWith_40 rfl ?_
    refine j_iload_n (pc := 41) C 3 dX7_costsWith_41 rfl ?_
    refine j_iload (pc := 42) C 4 dX7_costsWith_42 rfl ?_
    refine cs_X7_279 (pc := 44) C ⟨Nat.le_of_ble_eq_true rfl, Nat.le_of_ble_eq_true rfl⟩ ⟨Nat.le_of_ble_eq_true rfl, Nat.le_of_ble_eq_true rfl⟩ (Nat.le_of_ble_eq_true rfl) dX7_costsWith_44 h (fun r7 M7 h => ?_)
    refine j_pop (pc := 47) C dX7_costsWith_47 rfl ?_
    refine j_aload_n (pc := 48) C 0 dX7_costsWith_48 rfl ?_
    refine gf_X7_48 (pc := 49) C dX7_costsWith_49 h (fun a8 h => ?_)
    refine j_aload_n (pc := 52) C 0 dX7_costsWith_52 rfl ?_
    refine gf_X7_27 (pc := 53) C dX7_costsWith_53 h (fun a9 h => ?_)
    refine j_iconst (pc := 56) (v := (3 : Int32)) C dX7_costsWith_56 rfl ?_
    refine cs_X7_272 (pc := 57) C ⟨Nat.le_of_ble_eq_true rfl, Nat.le_of_ble_eq_true rfl⟩ ⟨Nat.le_of_ble_eq_true rfl, Nat.le_of_ble_eq_true rfl⟩ (Nat.le_of_ble_eq_true rfl) dX7_costsWith_57 h (fun r10 M10 h => ?_)
    exact j_iretX (pc := 60) C dX7_costsWith_60 (Nat.le_of_ble_eq_true rfl) (Nat.le_of_ble_eq_true rfl) h
  · refine j_iconst (pc := 25) (v := (-1 : Int32)) C dX7_costsWith_25 rfl ?_
    exact j_iretX (pc := 26) C dX7_costsWith_26 (Nat.le_of_ble_eq_true rfl) (Nat.le_of_ble_eq_true rfl) h
abbrev rm0_X7_costsWith : Room := { frames := 6, cells := 0, slots := 0, locals := 138 }
set_option maxHeartbeats 4000000 in
set_option maxRecDepth 100000 in
theorem c0_X7_costsWith (l : Launch) (E : EV) (M : Mm) (x0 : Nat) (x1 : Int32) (x2 : Int32) (x3 : Int32) (x4 : Int32) (P : Int32 → Mm → Prop) (h : w_X7_costsWith M x0 x1 x2 x3 x4 P (fun _ _ => False)) : CtI l E yX7_costsWith cX7_costsWith 5 .int rm0_X7_costsWith 0 0 [.ref x0, .int x1, .int x2, .int x3, .int x4] M P := by
  refine ctI_of (by decide +kernel) (Nat.le_of_ble_eq_true rfl) ?_
  intro p e s m args below meth c C
  rw [w_X7_costsWith] at h
  show J p l e rm0_X7_costsWith s m args below meth c (QI below E P args s 0 0) E 5 M 0 0 0 [(0, .ref x0), (1, .int x1), (2, .int x2), (3, .int x3), (4, .int x4)] []
  refine j_aload_n (pc := 0) C 0 dX7_costsWith_0 rfl ?_
  refine j_iload_n (pc := 1) C 1 dX7_costsWith_1 rfl ?_
  refine j_iload_n (pc := 2) C 2 dX7_costsWith_2 rfl ?_
  refine j_iload_n (pc := 3) C 3 dX7_costsWith_3 rfl ?_
  refine j_iload (pc := 4) C 4 dX7_costsWith_4 rfl ?_
  refine cs0_X7_261 (pc := 6) C ⟨Nat.le_of_ble_eq_true rfl, Nat.le_of_ble_eq_true rfl⟩ ⟨Nat.le_of_ble_eq_true rfl, Nat.le_of_ble_eq_true rfl⟩ (Nat.le_of_ble_eq_true rfl) dX7_costsWith_6 h (fun M1 h => ?_)
  refine j_aload_n (pc := 9) C 0 dX7_costsWith_9 rfl ?_
  refine j_aload_n (pc := 10) C 0 dX7_costsWith_10 rfl ?_
  refine gf_X7_23 (pc := 11) C dX7_costsWith_11 h (fun a2 h => ?_)
  refine j_iload_n (pc := 14) C 1 dX7_costsWith_14 rfl ?_
  refine j_iload_n (pc := 15) C 2 dX7_costsWith_15 rfl ?_
  refine j_iload_n (pc := 16) C 3 dX7_costsWith_16 rfl ?_
  refine j_iload (pc := 17) C 4 dX7_costsWith_17 rfl ?_
  refine cs_X7_265 (pc := 19) C ⟨Nat.le_of_ble_eq_true rfl, Nat.le_of_ble_eq_true rfl⟩ ⟨Nat.le_of_ble_eq_true rfl, Nat.le_of_ble_eq_true rfl⟩ (Nat.le_of_ble_eq_true rfl) dX7_costsWith_19 h (fun r3 M3 h => ?_)
  refine j_if_eq (pc := 22) C 27 dX7_costsWith_22 (by decide) h (fun h => ?_) (fun h => ?_)
  · refine j_aload_n (pc := 27) C 0 dX7_costsWith_27 rfl ?_
    refine gf_X7_27 (pc := 28) C dX7_costsWith_28 h (fun a4 h => ?_)
    refine j_aload_n (pc := 31) C 0 dX7_costsWith_31 rfl ?_
    refine gf_X7_23 (pc := 32) C dX7_costsWith_32 h (fun a5 h => ?_)
    refine cs_X7_275 (pc := 35) C ⟨Nat.le_of_ble_eq_true rfl, Nat.le_of_ble_eq_true rfl⟩ ⟨Nat.le_of_ble_eq_true rfl, Nat.le_of_ble_eq_true rfl⟩ (Nat.le_of_ble_eq_true rfl) dX7_costsWith_35 h (fun M6 h => ?_)
    refine j_aload_n (pc := 38) C 0 dX7_costsWith_38 rfl ?_
    refine j_iload_n (pc := 39) C 1 dX7_costsWith_39 rfl ?_
    refine j_iload_n (pc := 40) C 2 dX7_costsWith_40 rfl ?_
    refine j_iload_n (pc := 41) C 3 dX7_costsWith_41 rfl ?_
    refine j_iload (pc := 42) C 4 dX7_costsWith_42 rfl ?_
    refine cs_X7_279 (pc := 44) C ⟨Nat.le_of_ble_eq_true rfl, Nat.le_of_ble_eq_true rfl⟩ ⟨Nat.le_of_ble_eq_true rfl, Nat.le_of_ble_eq_true rfl⟩ (Nat.le_of_ble_eq_true rfl) dX7_costsWith_44 h (fun r7 M7 h => ?_)
    refine j_pop (pc := 47) C dX7_costsWith_47 rfl ?_
    refine j_aload_n (pc := 48) C 0 dX7_costsWith_48 rfl ?_
    refine gf_X7_48 (pc := 49) C dX7_costsWith_49 h (fun a8 h => ?_)
    refine j_aload_n (pc := 52) C 0 dX7_costsWith_52 rfl ?_
    refine gf_X7_27 (pc := 53) C dX7_costsWith_53 h (fun a9 h => ?_)
    refine j_iconst (pc := 56) (v := (3 : Int32)) C dX7_costsWith_56 rfl ?_
    refine cs_X7_272 (pc := 57) C ⟨Nat.le_of_ble_eq_true rfl, Nat.le_of_ble_eq_true rfl⟩ ⟨Nat.le_of_ble_eq_true rfl, Nat.le_of_ble_eq_true rfl⟩ (Nat.le_of_ble_eq_true rfl) dX7_costsWith_57 h (fun r10 M10 h => ?_)
    exact j_iret (pc := 60) C dX7_costsWith_60 (Nat.le_of_ble_eq_true rfl) (Nat.le_of_ble_eq_true rfl) h
  · refine j_iconst (pc := 25) (v := (-1 : Int32)) C dX7_costsWith_25 rfl ?_
    exact j_iret (pc := 26) C dX7_costsWith_26 (Nat.le_of_ble_eq_true rfl) (Nat.le_of_ble_eq_true rfl) h
abbrev rm_X7_isBalanced : Room := { frames := 3, cells := 0, slots := 0, locals := 68 }
def l_X7_isBalanced_2 (P : Int32 → Mm → Prop) (K27 : Mm → Prop) (K35 : Mm → Prop) : Nat → Mm → Nat → Int32 → Prop
  | 0, _, _, _ => False
  | n + 1, M, x0, x1 => (zk M x0 = 7 ∧ ∃ a1, zR M x0 10 = some a1 ∧ (zk M a1 = 6 ∧ ∃ a2, zR M a1 5 = some a2 ∧ zk M a2 = 2 ∧ (if (zI M a2 1) ≤ x1 then K35 M else (zk M x0 = 7 ∧ ∃ a3, zR M x0 2 = some a3 ∧ zk M a3 = 4 ∧ w_X4_beyondContract M a3 x1 (fun r4 M4 => (if r4 = 0 then l_X7_isBalanced_2 P K27 K35 n M4 x0 (x1 + (1 : Int32)) else K27 M4))))))
set_option maxHeartbeats 4000000 in
set_option maxRecDepth 100000 in
theorem jl_X7_isBalanced_2 {P : Int32 → Mm → Prop} {K27 : Mm → Prop} {K35 : Mm → Prop} (C : Cx p l s m args meth c cX7_isBalanced 2 RX7 (some .boolean) E) (hkc : kc ≤ rm_X7_isBalanced.cells ∧ ks ≤ rm_X7_isBalanced.slots) (k27 : ∀ M, K27 M → J p l e rm_X7_isBalanced s m args below meth c (QI below E P args s rm_X7_isBalanced.cells rm_X7_isBalanced.slots) E 2 M kc ks 27 [] []) (k35 : ∀ M, K35 M → J p l e rm_X7_isBalanced s m args below meth c (QI below E P args s rm_X7_isBalanced.cells rm_X7_isBalanced.slots) E 2 M kc ks 35 [] []) : ∀ n M x0 x1, l_X7_isBalanced_2 P K27 K35 n M x0 x1 → J p l e rm_X7_isBalanced s m args below meth c (QI below E P args s rm_X7_isBalanced.cells rm_X7_isBalanced.slots) E 2 M kc ks 2 [(0, .ref x0), (1, .int x1)] [] := by
  intro n
  induction n with
  | zero => intro M x0 x1 h; exact h.elim
  | succ n ih =>
    intro M x0 x1 h
    rw [l_X7_isBalanced_2] at h
    refine j_iload_n (pc := 2) C 1 dX7_isBalanced_2 rfl ?_
    refine j_aload_n (pc := 3) C 0 dX7_isBalanced_3 rfl ?_
    refine gf_X7_48 (pc := 4) C dX7_isBalanced_4 h (fun a1 h => ?_)
    refine gf_X7_110 (pc := 7) C dX7_isBalanced_7 h (fun a2 h => ?_)
    refine gf_X7_105 (pc := 10) C dX7_isBalanced_10 h (fun h => ?_)
    refine j_icmp_ge (pc := 13) C 35 dX7_isBalanced_13 (by decide) h (fun h => ?_) (fun h => ?_)
    · exact j_weak [] rfl (k35 _ h)
    · refine j_aload_n (pc := 16) C 0 dX7_isBalanced_16 rfl ?_
      refine gf_X7_23 (pc := 17) C dX7_isBalanced_17 h (fun a3 h => ?_)
      refine j_iload_n (pc := 20) C 1 dX7_isBalanced_20 rfl ?_
      refine cs_X7_171 (pc := 21) C ⟨Nat.le_of_ble_eq_true rfl, Nat.le_of_ble_eq_true rfl⟩ hkc (Nat.le_of_ble_eq_true rfl) dX7_isBalanced_21 h (fun r4 M4 h => ?_)
      refine j_if_eq (pc := 24) C 29 dX7_isBalanced_24 (by decide) h (fun h => ?_) (fun h => ?_)
      · refine j_iinc (pc := 29) (v := (1 : Int32)) C 1 [(1, _), (0, _)] dX7_isBalanced_29 rfl rfl (by decide) rfl ?_
        refine j_goto (pc := 32) C 2 dX7_isBalanced_32 (by decide) ?_
        exact j_weak [1, 0] rfl (ih _ _ _ h)
      · exact j_weak [] rfl (k27 _ h)
def w_X7_isBalanced (M : Mm) (x0 : Nat) (P : Int32 → Mm → Prop) : Prop := (∃ n2, l_X7_isBalanced_2 P (fun M5 => ((0 : Int32) = 0 ∨ (0 : Int32) = 1) ∧ P (0 : Int32) M5) (fun M6 => ((1 : Int32) = 0 ∨ (1 : Int32) = 1) ∧ P (1 : Int32) M6) n2 M x0 (0 : Int32))
set_option maxHeartbeats 4000000 in
set_option maxRecDepth 100000 in
theorem c_X7_isBalanced (l : Launch) (E : EV) (M : Mm) (x0 : Nat) (P : Int32 → Mm → Prop) (h : w_X7_isBalanced M x0 P) : CtI l E yX7_isBalanced cX7_isBalanced 2 .boolean rm_X7_isBalanced 0 0 [.ref x0] M P := by
  refine ctI_of (by decide +kernel) (Nat.le_of_ble_eq_true rfl) ?_
  intro p e s m args below meth c C
  rw [w_X7_isBalanced] at h
  show J p l e rm_X7_isBalanced s m args below meth c (QI below E P args s 0 0) E 2 M 0 0 0 [(0, .ref x0)] []
  refine j_iconst (pc := 0) (v := (0 : Int32)) C dX7_isBalanced_0 rfl ?_
  refine j_istore_n (pc := 1) C [(1, _), (0, _)] dX7_isBalanced_1 (by decide) rfl ?_
  obtain ⟨n2, h⟩ := h
  refine j_weak [1, 0] rfl (jl_X7_isBalanced_2 C ⟨Nat.le_of_ble_eq_true rfl, Nat.le_of_ble_eq_true rfl⟩ (fun M5 h => ?_) (fun M6 h => ?_) n2 _ _ _ h)
  · refine j_iconst (pc := 27) (v := (0 : Int32)) C dX7_isBalanced_27 rfl ?_
    exact j_zret (pc := 28) C dX7_isBalanced_28 (Nat.le_of_ble_eq_true rfl) (Nat.le_of_ble_eq_true rfl) h
  · refine j_iconst (pc := 35) (v := (1 : Int32)) C dX7_isBalanced_35 rfl ?_
    exact j_zret (pc := 36) C dX7_isBalanced_36 (Nat.le_of_ble_eq_true rfl) (Nat.le_of_ble_eq_true rfl) h
theorem cs_X7_283 (C : Cx p l s m args meth c cc nL RX7 ret E) {b : Nat} {y0 : Int32} {P : Int32 → Mm → Prop} (hR : rm_X4_sharesPlayers.frames + 1 ≤ R.frames ∧ 8 + (3 + 11) + rm_X4_sharesPlayers.locals ≤ R.locals) (hf : kc ≤ R.cells ∧ ks ≤ R.slots) (hst : (st.map fun v => v.category).sum ≤ 8) (d : decode cc pc = .ok (.invokevirtual 283, 3)) (h : zk M b = 4 ∧ w_X4_sharesPlayers M b y0 P) (kk : ∀ r M', P r M' → J p l e R s m args below meth c Q E nL M' kc ks (pc + 3) lo (.int r :: st)) : J p l e R s m args below meth c Q E nL M kc ks pc lo (.int y0 :: .ref b :: st) :=
  j_cV_I (n := 1) (As := [.int y0]) C co_X4 rfl wd_1270 wd_1271 h.1 (c_X4_sharesPlayers l E M b y0 P h.2) ⟨wd_1272, wd_1269, wd_42, by decide +kernel, by decide +kernel, by decide +kernel⟩ rfl rfl hR hf rfl hst d kk
theorem cs_X7_287 (C : Cx p l s m args meth c cc nL RX7 ret E) {b : Nat} {y0 : Int32} {P : Int32 → Mm → Prop} (hR : rm_X4_hasPlayerTwice.frames + 1 ≤ R.frames ∧ 8 + (6 + 11) + rm_X4_hasPlayerTwice.locals ≤ R.locals) (hf : kc ≤ R.cells ∧ ks ≤ R.slots) (hst : (st.map fun v => v.category).sum ≤ 8) (d : decode cc pc = .ok (.invokevirtual 287, 3)) (h : zk M b = 4 ∧ w_X4_hasPlayerTwice M b y0 P) (kk : ∀ r M', P r M' → J p l e R s m args below meth c Q E nL M' kc ks (pc + 3) lo (.int r :: st)) : J p l e R s m args below meth c Q E nL M kc ks pc lo (.int y0 :: .ref b :: st) :=
  j_cV_I (n := 1) (As := [.int y0]) C co_X4 rfl wd_1274 wd_1275 h.1 (c_X4_hasPlayerTwice l E M b y0 P h.2) ⟨wd_1276, wd_1273, wd_42, by decide +kernel, by decide +kernel, by decide +kernel⟩ rfl rfl hR hf rfl hst d kk
abbrev rm_X7_isWithoutClash : Room := { frames := 3, cells := 0, slots := 0, locals := 69 }
def l_X7_isWithoutClash_2 (P : Int32 → Mm → Prop) (K35 : Mm → Prop) (K43 : Mm → Prop) : Nat → Mm → Nat → Int32 → Prop
  | 0, _, _, _ => False
  | n + 1, M, x0, x1 => (zk M x0 = 7 ∧ ∃ a1, zR M x0 2 = some a1 ∧ zk M a1 = 4 ∧ (if (zI M a1 0) ≤ x1 then K43 M else (zk M x0 = 7 ∧ ∃ a2, zR M x0 2 = some a2 ∧ zk M a2 = 4 ∧ w_X4_sharesPlayers M a2 x1 (fun r3 M3 => (if r3 = 0 then (zk M3 x0 = 7 ∧ ∃ a4, zR M3 x0 2 = some a4 ∧ zk M3 a4 = 4 ∧ w_X4_hasPlayerTwice M3 a4 x1 (fun r5 M5 => (if r5 = 0 then l_X7_isWithoutClash_2 P K35 K43 n M5 x0 (x1 + (1 : Int32)) else K35 M5))) else K35 M3)))))
set_option maxHeartbeats 4000000 in
set_option maxRecDepth 100000 in
theorem jl_X7_isWithoutClash_2 {P : Int32 → Mm → Prop} {K35 : Mm → Prop} {K43 : Mm → Prop} (C : Cx p l s m args meth c cX7_isWithoutClash 2 RX7 (some .boolean) E) (hkc : kc ≤ rm_X7_isWithoutClash.cells ∧ ks ≤ rm_X7_isWithoutClash.slots) (k35 : ∀ M, K35 M → J p l e rm_X7_isWithoutClash s m args below meth c (QI below E P args s rm_X7_isWithoutClash.cells rm_X7_isWithoutClash.slots) E 2 M kc ks 35 [] []) (k43 : ∀ M, K43 M → J p l e rm_X7_isWithoutClash s m args below meth c (QI below E P args s rm_X7_isWithoutClash.cells rm_X7_isWithoutClash.slots) E 2 M kc ks 43 [] []) : ∀ n M x0 x1, l_X7_isWithoutClash_2 P K35 K43 n M x0 x1 → J p l e rm_X7_isWithoutClash s m args below meth c (QI below E P args s rm_X7_isWithoutClash.cells rm_X7_isWithoutClash.slots) E 2 M kc ks 2 [(0, .ref x0), (1, .int x1)] [] := by
  intro n
  induction n with
  | zero => intro M x0 x1 h; exact h.elim
  | succ n ih =>
    intro M x0 x1 h
    rw [l_X7_isWithoutClash_2] at h
    refine j_iload_n (pc := 2) C 1 dX7_isWithoutClash_2 rfl ?_
    refine j_aload_n (pc := 3) C 0 dX7_isWithoutClash_3 rfl ?_
    refine gf_X7_23 (pc := 4) C dX7_isWithoutClash_4 h (fun a1 h => ?_)
    refine gf_X7_119 (pc := 7) C dX7_isWithoutClash_7 h (fun h => ?_)
    refine j_icmp_ge (pc := 10) C 43 dX7_isWithoutClash_10 (by decide) h (fun h => ?_) (fun h => ?_)
    · exact j_weak [] rfl (k43 _ h)
    · refine j_aload_n (pc := 13) C 0 dX7_isWithoutClash_13 rfl ?_
      refine gf_X7_23 (pc := 14) C dX7_isWithoutClash_14 h (fun a2 h => ?_)
      refine j_iload_n (pc := 17) C 1 dX7_isWithoutClash_17 rfl ?_
      refine cs_X7_283 (pc := 18) C ⟨Nat.le_of_ble_eq_true rfl, Nat.le_of_ble_eq_true rfl⟩ hkc (Nat.le_of_ble_eq_true rfl) dX7_isWithoutClash_18 h (fun r3 M3 h => ?_)
      refine j_if_ne (pc := 21) C 35 dX7_isWithoutClash_21 (by decide) h (fun h => ?_) (fun h => ?_)
      · exact j_weak [] rfl (k35 _ h)
      · refine j_aload_n (pc := 24) C 0 dX7_isWithoutClash_24 rfl ?_
        refine gf_X7_23 (pc := 25) C dX7_isWithoutClash_25 h (fun a4 h => ?_)
        refine j_iload_n (pc := 28) C 1 dX7_isWithoutClash_28 rfl ?_
        refine cs_X7_287 (pc := 29) C ⟨Nat.le_of_ble_eq_true rfl, Nat.le_of_ble_eq_true rfl⟩ hkc (Nat.le_of_ble_eq_true rfl) dX7_isWithoutClash_29 h (fun r5 M5 h => ?_)
        refine j_if_eq (pc := 32) C 37 dX7_isWithoutClash_32 (by decide) h (fun h => ?_) (fun h => ?_)
        · refine j_iinc (pc := 37) (v := (1 : Int32)) C 1 [(1, _), (0, _)] dX7_isWithoutClash_37 rfl rfl (by decide) rfl ?_
          refine j_goto (pc := 40) C 2 dX7_isWithoutClash_40 (by decide) ?_
          exact j_weak [1, 0] rfl (ih _ _ _ h)
        · exact j_weak [] rfl (k35 _ h)
def w_X7_isWithoutClash (M : Mm) (x0 : Nat) (P : Int32 → Mm → Prop) : Prop := (∃ n2, l_X7_isWithoutClash_2 P (fun M6 => ((0 : Int32) = 0 ∨ (0 : Int32) = 1) ∧ P (0 : Int32) M6) (fun M7 => ((1 : Int32) = 0 ∨ (1 : Int32) = 1) ∧ P (1 : Int32) M7) n2 M x0 (0 : Int32))
set_option maxHeartbeats 4000000 in
set_option maxRecDepth 100000 in
theorem c_X7_isWithoutClash (l : Launch) (E : EV) (M : Mm) (x0 : Nat) (P : Int32 → Mm → Prop) (h : w_X7_isWithoutClash M x0 P) : CtI l E yX7_isWithoutClash cX7_isWithoutClash 2 .boolean rm_X7_isWithoutClash 0 0 [.ref x0] M P := by
  refine ctI_of (by decide +kernel) (Nat.le_of_ble_eq_true rfl) ?_
  intro p e s m args below meth c C
  rw [w_X7_isWithoutClash] at h
  show J p l e rm_X7_isWithoutClash s m args below meth c (QI below E P args s 0 0) E 2 M 0 0 0 [(0, .ref x0)] []
  refine j_iconst (pc := 0) (v := (0 : Int32)) C dX7_isWithoutClash_0 rfl ?_
  refine j_istore_n (pc := 1) C [(1, _), (0, _)] dX7_isWithoutClash_1 (by decide) rfl ?_
  obtain ⟨n2, h⟩ := h
  refine j_weak [1, 0] rfl (jl_X7_isWithoutClash_2 C ⟨Nat.le_of_ble_eq_true rfl, Nat.le_of_ble_eq_true rfl⟩ (fun M6 h => ?_) (fun M7 h => ?_) n2 _ _ _ h)
  · refine j_iconst (pc := 35) (v := (0 : Int32)) C dX7_isWithoutClash_35 rfl ?_
    exact j_zret (pc := 36) C dX7_isWithoutClash_36 (Nat.le_of_ble_eq_true rfl) (Nat.le_of_ble_eq_true rfl) h
  · refine j_iconst (pc := 43) (v := (1 : Int32)) C dX7_isWithoutClash_43 rfl ?_
    exact j_zret (pc := 44) C dX7_isWithoutClash_44 (Nat.le_of_ble_eq_true rfl) (Nat.le_of_ble_eq_true rfl) h
abbrev rm_X7_busiest : Room := { frames := 3, cells := 0, slots := 0, locals := 68 }
def l_X7_busiest_6 (P : Int32 → Mm → Prop) (K52 : Mm → Int32 → Prop) : Nat → Mm → Nat → Int32 → Int32 → Int32 → Prop
  | 0, _, _, _, _, _ => False
  | n + 1, M, x0, x1, x2, x3 => (zk M x0 = 7 ∧ ∃ a1, zR M x0 10 = some a1 ∧ (zk M a1 = 6 ∧ ∃ a2, zR M a1 5 = some a2 ∧ zk M a2 = 2 ∧ (if (zI M a2 1) ≤ x3 then K52 M x1 else (zk M x0 = 7 ∧ ∃ a3, zR M x0 2 = some a3 ∧ zk M a3 = 4 ∧ w_X4_beyondContract M a3 x3 (fun r4 M4 => (if x1 = (-1 : Int32) then l_X7_busiest_6 P K52 n M4 x0 x3 r4 (x3 + (1 : Int32)) else (if r4 ≤ x2 then l_X7_busiest_6 P K52 n M4 x0 x1 x2 (x3 + (1 : Int32)) else l_X7_busiest_6 P K52 n M4 x0 x3 r4 (x3 + (1 : Int32)))))))))
set_option maxHeartbeats 4000000 in
set_option maxRecDepth 100000 in
theorem jl_X7_busiest_6 {P : Int32 → Mm → Prop} {K52 : Mm → Int32 → Prop} (C : Cx p l s m args meth c cX7_busiest 5 RX7 (some .int) E) (hkc : kc ≤ rm_X7_busiest.cells ∧ ks ≤ rm_X7_busiest.slots) (k52 : ∀ M x1, K52 M x1 → J p l e rm_X7_busiest s m args below meth c (QI below E P args s rm_X7_busiest.cells rm_X7_busiest.slots) E 5 M kc ks 52 [(1, .int x1)] []) : ∀ n M x0 x1 x2 x3, l_X7_busiest_6 P K52 n M x0 x1 x2 x3 → J p l e rm_X7_busiest s m args below meth c (QI below E P args s rm_X7_busiest.cells rm_X7_busiest.slots) E 5 M kc ks 6 [(0, .ref x0), (1, .int x1), (2, .int x2), (3, .int x3)] [] := by
  intro n
  induction n with
  | zero => intro M x0 x1 x2 x3 h; exact h.elim
  | succ n ih =>
    intro M x0 x1 x2 x3 h
    rw [l_X7_busiest_6] at h
    refine j_iload_n (pc := 6) C 3 dX7_busiest_6 rfl ?_
    refine j_aload_n (pc := 7) C 0 dX7_busiest_7 rfl ?_
    refine gf_X7_48 (pc := 8) C dX7_busiest_8 h (fun a1 h => ?_)
    refine gf_X7_110 (pc := 11) C dX7_busiest_11 h (fun a2 h => ?_)
    refine gf_X7_105 (pc := 14) C dX7_busiest_14 h (fun h => ?_)
    refine j_icmp_ge (pc := 17) C 52 dX7_busiest_17 (by decide) h (fun h => ?_) (fun h => ?_)
    · exact j_weak [1] rfl (k52 _ _ h)
    · refine j_aload_n (pc := 20) C 0 dX7_busiest_20 rfl ?_
      refine gf_X7_23 (pc := 21) C dX7_busiest_21 h (fun a3 h => ?_)
      refine j_iload_n (pc := 24) C 3 dX7_busiest_24 rfl ?_
      refine cs_X7_171 (pc := 25) C ⟨Nat.le_of_ble_eq_true rfl, Nat.le_of_ble_eq_true rfl⟩ hkc (Nat.le_of_ble_eq_true rfl) dX7_busiest_25 h (fun r4 M4 h => ?_)
      refine j_istore (pc := 28) C [(4, _), (0, _), (1, _), (2, _), (3, _)] dX7_busiest_28 (by decide) rfl ?_
      refine j_iload_n (pc := 30) C 2 dX7_busiest_30 rfl ?_
      refine j_iconst (pc := 31) (v := (-1 : Int32)) C dX7_busiest_31 rfl ?_
      refine j_icmp_eq (pc := 32) C 41 dX7_busiest_32 (by decide) h (fun h => ?_) (fun h => ?_)
      · refine j_iload_n (pc := 41) C 4 dX7_busiest_41 rfl ?_
        refine j_istore_n (pc := 42) C [(1, _), (4, _), (0, _), (2, _), (3, _)] dX7_busiest_42 (by decide) rfl ?_
        refine j_iload (pc := 43) C 1 dX7_busiest_43 rfl ?_
        refine j_istore_n (pc := 45) C [(2, _), (1, _), (4, _), (0, _), (3, _)] dX7_busiest_45 (by decide) rfl ?_
        refine j_iinc (pc := 46) (v := (1 : Int32)) C 4 [(3, _), (2, _), (1, _), (4, _), (0, _)] dX7_busiest_46 rfl rfl (by decide) rfl ?_
        refine j_goto (pc := 49) C 6 dX7_busiest_49 (by decide) ?_
        exact j_weak [4, 2, 1, 0] rfl (ih _ _ _ _ _ h)
      · refine j_iload (pc := 35) C 0 dX7_busiest_35 rfl ?_
        refine j_iload_n (pc := 37) C 3 dX7_busiest_37 rfl ?_
        refine j_icmp_le (pc := 38) C 46 dX7_busiest_38 (by decide) h (fun h => ?_) (fun h => ?_)
        · refine j_iinc (pc := 46) (v := (1 : Int32)) C 4 [(3, _), (4, _), (0, _), (1, _), (2, _)] dX7_busiest_46 rfl rfl (by decide) rfl ?_
          refine j_goto (pc := 49) C 6 dX7_busiest_49 (by decide) ?_
          exact j_weak [2, 3, 4, 0] rfl (ih _ _ _ _ _ h)
        · refine j_iload_n (pc := 41) C 4 dX7_busiest_41 rfl ?_
          refine j_istore_n (pc := 42) C [(1, _), (4, _), (0, _), (2, _), (3, _)] dX7_busiest_42 (by decide) rfl ?_
          refine j_iload (pc := 43) C 1 dX7_busiest_43 rfl ?_
          refine j_istore_n (pc := 45) C [(2, _), (1, _), (4, _), (0, _), (3, _)] dX7_busiest_45 (by decide) rfl ?_
          refine j_iinc (pc := 46) (v := (1 : Int32)) C 4 [(3, _), (2, _), (1, _), (4, _), (0, _)] dX7_busiest_46 rfl rfl (by decide) rfl ?_
          refine j_goto (pc := 49) C 6 dX7_busiest_49 (by decide) ?_
          exact j_weak [4, 2, 1, 0] rfl (ih _ _ _ _ _ h)
def w_X7_busiest (M : Mm) (x0 : Nat) (P : Int32 → Mm → Prop) : Prop := (∃ n6, l_X7_busiest_6 P (fun M5 x1_5 => P x1_5 M5) n6 M x0 (-1 : Int32) (0 : Int32) (0 : Int32))
set_option maxHeartbeats 4000000 in
set_option maxRecDepth 100000 in
theorem c_X7_busiest (l : Launch) (E : EV) (M : Mm) (x0 : Nat) (P : Int32 → Mm → Prop) (h : w_X7_busiest M x0 P) : CtI l E yX7_busiest cX7_busiest 5 .int rm_X7_busiest 0 0 [.ref x0] M P := by
  refine ctI_of (by decide +kernel) (Nat.le_of_ble_eq_true rfl) ?_
  intro p e s m args below meth c C
  rw [w_X7_busiest] at h
  show J p l e rm_X7_busiest s m args below meth c (QI below E P args s 0 0) E 5 M 0 0 0 [(0, .ref x0)] []
  refine j_iconst (pc := 0) (v := (-1 : Int32)) C dX7_busiest_0 rfl ?_
  refine j_istore_n (pc := 1) C [(1, _), (0, _)] dX7_busiest_1 (by decide) rfl ?_
  refine j_iconst (pc := 2) (v := (0 : Int32)) C dX7_busiest_2 rfl ?_
  refine j_istore_n (pc := 3) C [(2, _), (1, _), (0, _)] dX7_busiest_3 (by decide) rfl ?_
  refine j_iconst (pc := 4) (v := (0 : Int32)) C dX7_busiest_4 rfl ?_
  refine j_istore_n (pc := 5) C [(3, _), (2, _), (1, _), (0, _)] dX7_busiest_5 (by decide) rfl ?_
  obtain ⟨n6, h⟩ := h
  refine j_weak [3, 2, 1, 0] rfl (jl_X7_busiest_6 C ⟨Nat.le_of_ble_eq_true rfl, Nat.le_of_ble_eq_true rfl⟩ (fun M5 x1_5 h => ?_) n6 _ _ _ _ _ h)
  · refine j_iload_n (pc := 52) C 0 dX7_busiest_52 rfl ?_
    exact j_iret (pc := 53) C dX7_busiest_53 (Nat.le_of_ble_eq_true rfl) (Nat.le_of_ble_eq_true rfl) h
abbrev rm_X7_forgetOldestChange : Room := { frames := 0, cells := 0, slots := 0, locals := 0 }
def l_X7_forgetOldestChange_9 (P : Mm → Prop) (K35 : Mm → Nat → Nat → Prop) : Nat → Mm → Nat → Nat → Int32 → Prop
  | 0, _, _, _, _ => False
  | n + 1, M, x0, x1, x2 => (if (10 : Int32) ≤ x2 then K35 M x0 x1 else (zk M x0 = 7 ∧ ∃ a3, zR M x0 4 = some a3 ∧ (zk M x0 = 7 ∧ ∃ a4, zR M x0 4 = some a4 ∧ (zk M a4 = 13 ∧ vp_in x2 (zl M a4) ∧ ∃ a5, zR M a4 x2.toNatClampNeg = some a5 ∧ zk M a3 = 13 ∧ zk M a5 = 4 ∧ vp_in (x2 - (1 : Int32)) (zl M a3) ∧ (∀ M6, M6 = sR M a3 (x2 - (1 : Int32)).toNatClampNeg (some a5) → l_X7_forgetOldestChange_9 P K35 n M6 x0 x1 (x2 + (1 : Int32)))))))
set_option maxHeartbeats 4000000 in
set_option maxRecDepth 100000 in
theorem jl_X7_forgetOldestChange_9 {P : Mm → Prop} {K35 : Mm → Nat → Nat → Prop} (C : Cx p l s m args meth c cX7_forgetOldestChange 3 RX7 none E) (hkc : kc ≤ rm_X7_forgetOldestChange.cells ∧ ks ≤ rm_X7_forgetOldestChange.slots) (k35 : ∀ M x0 x1, K35 M x0 x1 → J p l e rm_X7_forgetOldestChange s m args below meth c (QV below E P args s rm_X7_forgetOldestChange.cells rm_X7_forgetOldestChange.slots) E 3 M kc ks 35 [(0, .ref x0), (1, .ref x1)] []) : ∀ n M x0 x1 x2, l_X7_forgetOldestChange_9 P K35 n M x0 x1 x2 → J p l e rm_X7_forgetOldestChange s m args below meth c (QV below E P args s rm_X7_forgetOldestChange.cells rm_X7_forgetOldestChange.slots) E 3 M kc ks 9 [(0, .ref x0), (1, .ref x1), (2, .int x2)] [] := by
  intro n
  induction n with
  | zero => intro M x0 x1 x2 h; exact h.elim
  | succ n ih =>
    intro M x0 x1 x2 h
    rw [l_X7_forgetOldestChange_9] at h
    refine j_iload_n (pc := 9) C 2 dX7_forgetOldestChange_9 rfl ?_
    refine j_bipush (pc := 10) (v := (10 : Int32)) C dX7_forgetOldestChange_10 rfl ?_
    refine j_icmp_ge (pc := 12) C 35 dX7_forgetOldestChange_12 (by decide) h (fun h => ?_) (fun h => ?_)
    · exact j_weak [0, 1] rfl (k35 _ _ _ h)
    · refine j_aload_n (pc := 15) C 0 dX7_forgetOldestChange_15 rfl ?_
      refine gf_X7_30 (pc := 16) C dX7_forgetOldestChange_16 h (fun a3 h => ?_)
      refine j_iload_n (pc := 19) C 2 dX7_forgetOldestChange_19 rfl ?_
      refine j_iconst (pc := 20) (v := (1 : Int32)) C dX7_forgetOldestChange_20 rfl ?_
      refine j_isub (pc := 21) C dX7_forgetOldestChange_21 ?_
      refine j_aload_n (pc := 22) C 0 dX7_forgetOldestChange_22 rfl ?_
      refine gf_X7_30 (pc := 23) C dX7_forgetOldestChange_23 h (fun a4 h => ?_)
      refine j_iload_n (pc := 26) C 2 dX7_forgetOldestChange_26 rfl ?_
      refine j_aald (pc := 27) C dX7_forgetOldestChange_27 h (fun a5 h => ?_)
      refine n_aast (pc := 28) C dX7_forgetOldestChange_28 h (fun M6 h => ?_)
      refine j_iinc (pc := 29) (v := (1 : Int32)) C 2 [(2, _), (0, _), (1, _)] dX7_forgetOldestChange_29 rfl rfl (by decide) rfl ?_
      refine j_goto (pc := 32) C 9 dX7_forgetOldestChange_32 (by decide) ?_
      exact j_weak [1, 2, 0] rfl (ih _ _ _ _ h)
def w_X7_forgetOldestChange (M : Mm) (x0 : Nat) (P : Mm → Prop) : Prop := (zk M x0 = 7 ∧ ∃ a1, zR M x0 4 = some a1 ∧ (zk M a1 = 13 ∧ vp_in (0 : Int32) (zl M a1) ∧ ∃ a2, zR M a1 (0 : Int32).toNatClampNeg = some a2 ∧ (∃ n9, l_X7_forgetOldestChange_9 P (fun M7 x0_7 x1_7 => (zk M7 x0_7 = 7 ∧ ∃ a8, zR M7 x0_7 4 = some a8 ∧ zk M7 a8 = 13 ∧ zk M7 x1_7 = 4 ∧ vp_in (9 : Int32) (zl M7 a8) ∧ (∀ M9, M9 = sR M7 a8 (9 : Int32).toNatClampNeg (some x1_7) → zk M9 x0_7 = 7 ∧ zk M9 x0_7 = 7 ∧ (∀ M10, M10 = sI M9 x0_7 9 ((zI M9 x0_7 9) - (1 : Int32)) → P M10)))) n9 M x0 a2 (1 : Int32))))
set_option maxHeartbeats 4000000 in
set_option maxRecDepth 100000 in
theorem c_X7_forgetOldestChange (l : Launch) (E : EV) (M : Mm) (x0 : Nat) (P : Mm → Prop) (h : w_X7_forgetOldestChange M x0 P) : CtV l E yX7_forgetOldestChange cX7_forgetOldestChange 3 rm_X7_forgetOldestChange 0 0 [.ref x0] M P := by
  refine ctV_of (by decide +kernel) (Nat.le_of_ble_eq_true rfl) ?_
  intro p e s m args below meth c C hnm
  rw [w_X7_forgetOldestChange] at h
  show J p l e rm_X7_forgetOldestChange s m args below meth c (QV below E P args s 0 0) E 3 M 0 0 0 [(0, .ref x0)] []
  refine j_aload_n (pc := 0) C 0 dX7_forgetOldestChange_0 rfl ?_
  refine gf_X7_30 (pc := 1) C dX7_forgetOldestChange_1 h (fun a1 h => ?_)
  refine j_iconst (pc := 4) (v := (0 : Int32)) C dX7_forgetOldestChange_4 rfl ?_
  refine j_aald (pc := 5) C dX7_forgetOldestChange_5 h (fun a2 h => ?_)
  refine j_astore_n (pc := 6) C [(1, _), (0, _)] dX7_forgetOldestChange_6 (by decide) rfl ?_
  refine j_iconst (pc := 7) (v := (1 : Int32)) C dX7_forgetOldestChange_7 rfl ?_
  refine j_istore_n (pc := 8) C [(2, _), (1, _), (0, _)] dX7_forgetOldestChange_8 (by decide) rfl ?_
  obtain ⟨n9, h⟩ := h
  refine j_weak [2, 1, 0] rfl (jl_X7_forgetOldestChange_9 C ⟨Nat.le_of_ble_eq_true rfl, Nat.le_of_ble_eq_true rfl⟩ (fun M7 x0_7 x1_7 h => ?_) n9 _ _ _ _ h)
  · refine j_aload_n (pc := 35) C 0 dX7_forgetOldestChange_35 rfl ?_
    refine gf_X7_30 (pc := 36) C dX7_forgetOldestChange_36 h (fun a8 h => ?_)
    refine j_bipush (pc := 39) (v := (9 : Int32)) C dX7_forgetOldestChange_39 rfl ?_
    refine j_aload_n (pc := 41) C 1 dX7_forgetOldestChange_41 rfl ?_
    refine n_aast (pc := 42) C dX7_forgetOldestChange_42 h (fun M9 h => ?_)
    refine j_aload_n (pc := 43) C 0 dX7_forgetOldestChange_43 rfl ?_
    refine j_dup (pc := 44) C dX7_forgetOldestChange_44 rfl ?_
    refine gf_X7_95 (pc := 45) C dX7_forgetOldestChange_45 h (fun h => ?_)
    refine j_iconst (pc := 48) (v := (1 : Int32)) C dX7_forgetOldestChange_48 rfl ?_
    refine j_isub (pc := 49) C dX7_forgetOldestChange_49 ?_
    refine pf_X7_95 (pc := 50) C dX7_forgetOldestChange_50 h (fun M10 h => ?_)
    exact j_vret (pc := 53) C dX7_forgetOldestChange_53 (Nat.le_of_ble_eq_true rfl) (Nat.le_of_ble_eq_true rfl) h
theorem cs_X7_315 (C : Cx p l s m args meth c cc nL RX7 ret E) {b : Nat} {P : Mm → Prop} (hR : rm_X7_forgetOldestChange.frames + 1 ≤ R.frames ∧ 8 + (3 + 11) + rm_X7_forgetOldestChange.locals ≤ R.locals) (hf : kc ≤ R.cells ∧ ks ≤ R.slots) (hst : (st.map fun v => v.category).sum ≤ 8) (d : decode cc pc = .ok (.invokevirtual 315, 3)) (h : zk M b = 7 ∧ w_X7_forgetOldestChange M b P) (kk : ∀ M', P M' → J p l e R s m args below meth c Q E nL M' kc ks (pc + 3) lo st) : J p l e R s m args below meth c Q E nL M kc ks pc lo (.ref b :: st) :=
  j_cV_V (n := 0) (As := []) C co_X7 rfl wd_978 wd_20 h.1 (c_X7_forgetOldestChange l E M b P h.2) ⟨wd_979, wd_976, wd_40, by decide +kernel, by decide +kernel, by decide +kernel⟩ rfl rfl hR hf rfl hst d kk
abbrev rm_X7_acceptDraft : Room := { frames := 3, cells := 0, slots := 0, locals := 105 }
def w_X7_acceptDraft (M : Mm) (x0 : Nat) (P : Mm → Prop) : Prop := zk M x0 = 7 ∧ (if (zI M x0 9) = (10 : Int32) then zk M x0 = 7 ∧ w_X7_forgetOldestChange M x0 (fun M9 => (zk M9 x0 = 7 ∧ ∃ a10, zR M9 x0 4 = some a10 ∧ zk M9 x0 = 7 ∧ (zk M9 a10 = 13 ∧ vp_in (zI M9 x0 9) (zl M9 a10) ∧ ∃ a11, zR M9 a10 (zI M9 x0 9).toNatClampNeg = some a11 ∧ (zk M9 x0 = 7 ∧ ∃ a12, zR M9 x0 2 = some a12 ∧ zk M9 a11 = 4 ∧ w_X4_copyFrom M9 a11 a12 (fun M13 => zk M13 x0 = 7 ∧ zk M13 x0 = 7 ∧ (∀ M14, M14 = sI M13 x0 9 ((zI M13 x0 9) + (1 : Int32)) → (zk M14 x0 = 7 ∧ ∃ a15, zR M14 x0 2 = some a15 ∧ (zk M14 x0 = 7 ∧ ∃ a16, zR M14 x0 3 = some a16 ∧ zk M14 a15 = 4 ∧ w_X4_copyFrom M14 a15 a16 (fun M17 => P M17))))))))) else (zk M x0 = 7 ∧ ∃ a1, zR M x0 4 = some a1 ∧ zk M x0 = 7 ∧ (zk M a1 = 13 ∧ vp_in (zI M x0 9) (zl M a1) ∧ ∃ a2, zR M a1 (zI M x0 9).toNatClampNeg = some a2 ∧ (zk M x0 = 7 ∧ ∃ a3, zR M x0 2 = some a3 ∧ zk M a2 = 4 ∧ w_X4_copyFrom M a2 a3 (fun M4 => zk M4 x0 = 7 ∧ zk M4 x0 = 7 ∧ (∀ M5, M5 = sI M4 x0 9 ((zI M4 x0 9) + (1 : Int32)) → (zk M5 x0 = 7 ∧ ∃ a6, zR M5 x0 2 = some a6 ∧ (zk M5 x0 = 7 ∧ ∃ a7, zR M5 x0 3 = some a7 ∧ zk M5 a6 = 4 ∧ w_X4_copyFrom M5 a6 a7 (fun M8 => P M8)))))))))
set_option maxHeartbeats 4000000 in
set_option maxRecDepth 100000 in
theorem c_X7_acceptDraft (l : Launch) (E : EV) (M : Mm) (x0 : Nat) (P : Mm → Prop) (h : w_X7_acceptDraft M x0 P) : CtV l E yX7_acceptDraft cX7_acceptDraft 1 rm_X7_acceptDraft 0 0 [.ref x0] M P := by
  refine ctV_of (by decide +kernel) (Nat.le_of_ble_eq_true rfl) ?_
  intro p e s m args below meth c C hnm
  rw [w_X7_acceptDraft] at h
  show J p l e rm_X7_acceptDraft s m args below meth c (QV below E P args s 0 0) E 1 M 0 0 0 [(0, .ref x0)] []
  refine j_aload_n (pc := 0) C 0 dX7_acceptDraft_0 rfl ?_
  refine gf_X7_95 (pc := 1) C dX7_acceptDraft_1 h (fun h => ?_)
  refine j_bipush (pc := 4) (v := (10 : Int32)) C dX7_acceptDraft_4 rfl ?_
  refine j_icmp_ne (pc := 6) C 13 dX7_acceptDraft_6 (by decide) h (fun h => ?_) (fun h => ?_)
  · refine j_aload_n (pc := 13) C 0 dX7_acceptDraft_13 rfl ?_
    refine gf_X7_30 (pc := 14) C dX7_acceptDraft_14 h (fun a1 h => ?_)
    refine j_aload_n (pc := 17) C 0 dX7_acceptDraft_17 rfl ?_
    refine gf_X7_95 (pc := 18) C dX7_acceptDraft_18 h (fun h => ?_)
    refine j_aald (pc := 21) C dX7_acceptDraft_21 h (fun a2 h => ?_)
    refine j_aload_n (pc := 22) C 0 dX7_acceptDraft_22 rfl ?_
    refine gf_X7_23 (pc := 23) C dX7_acceptDraft_23 h (fun a3 h => ?_)
    refine cs_X7_275 (pc := 26) C ⟨Nat.le_of_ble_eq_true rfl, Nat.le_of_ble_eq_true rfl⟩ ⟨Nat.le_of_ble_eq_true rfl, Nat.le_of_ble_eq_true rfl⟩ (Nat.le_of_ble_eq_true rfl) dX7_acceptDraft_26 h (fun M4 h => ?_)
    refine j_aload_n (pc := 29) C 0 dX7_acceptDraft_29 rfl ?_
    refine j_dup (pc := 30) C dX7_acceptDraft_30 rfl ?_
    refine gf_X7_95 (pc := 31) C dX7_acceptDraft_31 h (fun h => ?_)
    refine j_iconst (pc := 34) (v := (1 : Int32)) C dX7_acceptDraft_34 rfl ?_
    refine j_iadd (pc := 35) C dX7_acceptDraft_35 ?_
    refine pf_X7_95 (pc := 36) C dX7_acceptDraft_36 h (fun M5 h => ?_)
    refine j_aload_n (pc := 39) C 0 dX7_acceptDraft_39 rfl ?_
    refine gf_X7_23 (pc := 40) C dX7_acceptDraft_40 h (fun a6 h => ?_)
    refine j_aload_n (pc := 43) C 0 dX7_acceptDraft_43 rfl ?_
    refine gf_X7_27 (pc := 44) C dX7_acceptDraft_44 h (fun a7 h => ?_)
    refine cs_X7_275 (pc := 47) C ⟨Nat.le_of_ble_eq_true rfl, Nat.le_of_ble_eq_true rfl⟩ ⟨Nat.le_of_ble_eq_true rfl, Nat.le_of_ble_eq_true rfl⟩ (Nat.le_of_ble_eq_true rfl) dX7_acceptDraft_47 h (fun M8 h => ?_)
    exact j_vret (pc := 50) C dX7_acceptDraft_50 (Nat.le_of_ble_eq_true rfl) (Nat.le_of_ble_eq_true rfl) h
  · refine j_aload_n (pc := 9) C 0 dX7_acceptDraft_9 rfl ?_
    refine cs_X7_315 (pc := 10) C ⟨Nat.le_of_ble_eq_true rfl, Nat.le_of_ble_eq_true rfl⟩ ⟨Nat.le_of_ble_eq_true rfl, Nat.le_of_ble_eq_true rfl⟩ (Nat.le_of_ble_eq_true rfl) dX7_acceptDraft_10 h (fun M9 h => ?_)
    refine j_aload_n (pc := 13) C 0 dX7_acceptDraft_13 rfl ?_
    refine gf_X7_30 (pc := 14) C dX7_acceptDraft_14 h (fun a10 h => ?_)
    refine j_aload_n (pc := 17) C 0 dX7_acceptDraft_17 rfl ?_
    refine gf_X7_95 (pc := 18) C dX7_acceptDraft_18 h (fun h => ?_)
    refine j_aald (pc := 21) C dX7_acceptDraft_21 h (fun a11 h => ?_)
    refine j_aload_n (pc := 22) C 0 dX7_acceptDraft_22 rfl ?_
    refine gf_X7_23 (pc := 23) C dX7_acceptDraft_23 h (fun a12 h => ?_)
    refine cs_X7_275 (pc := 26) C ⟨Nat.le_of_ble_eq_true rfl, Nat.le_of_ble_eq_true rfl⟩ ⟨Nat.le_of_ble_eq_true rfl, Nat.le_of_ble_eq_true rfl⟩ (Nat.le_of_ble_eq_true rfl) dX7_acceptDraft_26 h (fun M13 h => ?_)
    refine j_aload_n (pc := 29) C 0 dX7_acceptDraft_29 rfl ?_
    refine j_dup (pc := 30) C dX7_acceptDraft_30 rfl ?_
    refine gf_X7_95 (pc := 31) C dX7_acceptDraft_31 h (fun h => ?_)
    refine j_iconst (pc := 34) (v := (1 : Int32)) C dX7_acceptDraft_34 rfl ?_
    refine j_iadd (pc := 35) C dX7_acceptDraft_35 ?_
    refine pf_X7_95 (pc := 36) C dX7_acceptDraft_36 h (fun M14 h => ?_)
    refine j_aload_n (pc := 39) C 0 dX7_acceptDraft_39 rfl ?_
    refine gf_X7_23 (pc := 40) C dX7_acceptDraft_40 h (fun a15 h => ?_)
    refine j_aload_n (pc := 43) C 0 dX7_acceptDraft_43 rfl ?_
    refine gf_X7_27 (pc := 44) C dX7_acceptDraft_44 h (fun a16 h => ?_)
    refine cs_X7_275 (pc := 47) C ⟨Nat.le_of_ble_eq_true rfl, Nat.le_of_ble_eq_true rfl⟩ ⟨Nat.le_of_ble_eq_true rfl, Nat.le_of_ble_eq_true rfl⟩ (Nat.le_of_ble_eq_true rfl) dX7_acceptDraft_47 h (fun M17 h => ?_)
    exact j_vret (pc := 50) C dX7_acceptDraft_50 (Nat.le_of_ble_eq_true rfl) (Nat.le_of_ble_eq_true rfl) h
abbrev rm_X7_requireState : Room := { frames := 6, cells := 1, slots := 6, locals := 89 }
def w_X7_requireState (M : Mm) (x0 : Int32) (P : Mm → Prop) (X : String → Mm → Prop) : Prop := (if x0 = 0 then (∀ n1, zn M ≤ n1 → X "java/lang/IllegalStateException" (sZ M n1)) else P M)
set_option maxHeartbeats 4000000 in
set_option maxRecDepth 100000 in
theorem c_X7_requireState (l : Launch) (E : EV) (M : Mm) (x0 : Int32) (P : Mm → Prop) (X : String → Mm → Prop) (h : w_X7_requireState M x0 P X) : CtVX l E yX7_requireState cX7_requireState 1 rm_X7_requireState 1 6 [.int x0] M P X := by
  refine ctVX_of (by decide +kernel) (Nat.le_of_ble_eq_true rfl) ?_
  intro p e s m args below meth c C hex
  rw [w_X7_requireState] at h
  show J p l e rm_X7_requireState s m args below meth c (QVX below E P X args s 1 6) E 1 M 0 0 0 [(0, .int x0)] []
  refine j_iload_n (pc := 0) C 0 dX7_requireState_0 rfl ?_
  refine j_if_ne (pc := 1) C 12 dX7_requireState_1 (by decide) h (fun h => ?_) (fun h => ?_)
  · exact j_vretX (pc := 12) C dX7_requireState_12 (Nat.le_of_ble_eq_true rfl) (Nat.le_of_ble_eq_true rfl) h
  · exact j_throw (pc := 4) C hex (by decide +kernel) (by decide +kernel) wd_1026 wd_64 th_X7_364 dX7_requireState_4 dX7_requireState_7 dX7_requireState_8 dX7_requireState_11 (Nat.le_of_ble_eq_true rfl) (Nat.le_of_ble_eq_true rfl) (Nat.le_of_ble_eq_true rfl) (Nat.le_of_ble_eq_true rfl) (Nat.le_of_ble_eq_true rfl) (Nat.le_of_ble_eq_true rfl) h
abbrev rm0_X7_requireState : Room := { frames := 0, cells := 0, slots := 0, locals := 0 }
set_option maxHeartbeats 4000000 in
set_option maxRecDepth 100000 in
theorem c0_X7_requireState (l : Launch) (E : EV) (M : Mm) (x0 : Int32) (P : Mm → Prop) (h : w_X7_requireState M x0 P (fun _ _ => False)) : CtV l E yX7_requireState cX7_requireState 1 rm0_X7_requireState 0 0 [.int x0] M P := by
  refine ctV_of (by decide +kernel) (Nat.le_of_ble_eq_true rfl) ?_
  intro p e s m args below meth c C hnm
  rw [w_X7_requireState] at h
  show J p l e rm0_X7_requireState s m args below meth c (QV below E P args s 0 0) E 1 M 0 0 0 [(0, .int x0)] []
  refine j_iload_n (pc := 0) C 0 dX7_requireState_0 rfl ?_
  refine j_if_ne (pc := 1) C 12 dX7_requireState_1 (by decide) h (fun h => ?_) (fun h => ?_)
  · exact j_vret (pc := 12) C dX7_requireState_12 (Nat.le_of_ble_eq_true rfl) (Nat.le_of_ble_eq_true rfl) h
  · exact (h _ (Nat.le_refl _)).elim
theorem cs_X7_293 {Qc : Array Value → State → Outcome → State → Prop} {X : String → Mm → Prop} {mc2 ms2 : Nat} (C : Cx p l s m args meth c cc nL RX7 ret E) (hex : ∀ x ∈ c.exceptionTable.toList, False) {y0 : Int32} {P : Mm → Prop} (hR : rm_X7_requireState.frames + 1 ≤ R.frames ∧ 8 + (1 + 11) + rm_X7_requireState.locals ≤ R.locals) (hf : kc + 1 ≤ R.cells ∧ ks + 6 ≤ R.slots) (hf2 : kc + 1 ≤ mc2 ∧ ks + 6 ≤ ms2) (hst : (st.map fun v => v.category).sum ≤ 8) (d : decode cc pc = .ok (.invokestatic 293, 3)) (h : w_X7_requireState M y0 P X) (kk : ∀ M', P M' → J p l e R s m args below meth c (vx_MQ below Qc (XX E X) args s mc2 ms2 (fun q => E.2.2.1 ≤ q)) E nL M' (kc + 1) (ks + 6) (pc + 3) lo st) : J p l e R s m args below meth c (vx_MQ below Qc (XX E X) args s mc2 ms2 (fun q => E.2.2.1 ≤ q)) E nL M kc ks pc lo (.int y0 :: st) :=
  j_xS_V (n := 1) (As := [.int y0]) C hex wd_1024 (c_X7_requireState l E M y0 P X h) ⟨wd_1025, wd_1023, wd_40, by decide +kernel, by decide +kernel, by decide +kernel⟩ rfl rfl hR hf hf2 rfl hst d (fun _ _ q => q) kk
theorem cs0_X7_293 (C : Cx p l s m args meth c cc nL RX7 ret E) {y0 : Int32} {P : Mm → Prop} (hR : rm0_X7_requireState.frames + 1 ≤ R.frames ∧ 8 + (1 + 11) + rm0_X7_requireState.locals ≤ R.locals) (hf : kc ≤ R.cells ∧ ks ≤ R.slots) (hst : (st.map fun v => v.category).sum ≤ 8) (d : decode cc pc = .ok (.invokestatic 293, 3)) (h : w_X7_requireState M y0 P (fun _ _ => False)) (kk : ∀ M', P M' → J p l e R s m args below meth c Q E nL M' kc ks (pc + 3) lo st) : J p l e R s m args below meth c Q E nL M kc ks pc lo (.int y0 :: st) :=
  j_cS_V (n := 1) (As := [.int y0]) C wd_1024 (c0_X7_requireState l E M y0 P h) ⟨wd_1025, wd_1023, wd_40, by decide +kernel, by decide +kernel, by decide +kernel⟩ rfl rfl hR hf rfl hst d kk
theorem cs_X7_296 (C : Cx p l s m args meth c cc nL RX7 ret E) {b : Nat} {P : Mm → Prop} (hR : rm_X7_acceptDraft.frames + 1 ≤ R.frames ∧ 8 + (1 + 11) + rm_X7_acceptDraft.locals ≤ R.locals) (hf : kc ≤ R.cells ∧ ks ≤ R.slots) (hst : (st.map fun v => v.category).sum ≤ 8) (d : decode cc pc = .ok (.invokevirtual 296, 3)) (h : zk M b = 7 ∧ w_X7_acceptDraft M b P) (kk : ∀ M', P M' → J p l e R s m args below meth c Q E nL M' kc ks (pc + 3) lo st) : J p l e R s m args below meth c Q E nL M kc ks pc lo (.ref b :: st) :=
  j_cV_V (n := 0) (As := []) C co_X7 rfl wd_974 wd_19 h.1 (c_X7_acceptDraft l E M b P h.2) ⟨wd_975, wd_972, wd_40, by decide +kernel, by decide +kernel, by decide +kernel⟩ rfl rfl hR hf rfl hst d kk
abbrev rm_X7_addService : Room := { frames := 7, cells := 1, slots := 6, locals := 134 }
def w_X7_addService (M : Mm) (x0 : Nat) (x1 : Int32) (x2 : Int32) (x3 : Int32) (x4 : Int32) (P : Int32 → Mm → Prop) (X : String → Mm → Prop) : Prop := (zk M x0 = 7 ∧ ∃ a1, zR M x0 2 = some a1 ∧ zk M x0 = 7 ∧ w_X7_reasonAgainst M x0 a1 x1 x2 x3 x4 (fun r2 M2 => (if r2 = 0 then w_X7_requireState M2 (1 : Int32) (fun M9 => (zk M9 x0 = 7 ∧ ∃ a10, zR M9 x0 3 = some a10 ∧ (zk M9 x0 = 7 ∧ ∃ a11, zR M9 x0 2 = some a11 ∧ zk M9 a10 = 4 ∧ w_X4_copyFrom M9 a10 a11 (fun M12 => zk M12 x0 = 7 ∧ w_X7_addToDraft M12 x0 x1 x2 x3 x4 (fun r13 M13 => zk M13 x0 = 7 ∧ w_X7_acceptDraft M13 x0 (fun M14 => P r13 M14)))))) X else w_X7_requireState M2 (0 : Int32) (fun M3 => (zk M3 x0 = 7 ∧ ∃ a4, zR M3 x0 3 = some a4 ∧ (zk M3 x0 = 7 ∧ ∃ a5, zR M3 x0 2 = some a5 ∧ zk M3 a4 = 4 ∧ w_X4_copyFrom M3 a4 a5 (fun M6 => zk M6 x0 = 7 ∧ w_X7_addToDraft M6 x0 x1 x2 x3 x4 (fun r7 M7 => zk M7 x0 = 7 ∧ w_X7_acceptDraft M7 x0 (fun M8 => P r7 M8)))))) X)))
set_option maxHeartbeats 4000000 in
set_option maxRecDepth 100000 in
theorem c_X7_addService (l : Launch) (E : EV) (M : Mm) (x0 : Nat) (x1 : Int32) (x2 : Int32) (x3 : Int32) (x4 : Int32) (P : Int32 → Mm → Prop) (X : String → Mm → Prop) (h : w_X7_addService M x0 x1 x2 x3 x4 P X) : CtIX l E yX7_addService cX7_addService 6 .int rm_X7_addService 1 6 [.ref x0, .int x1, .int x2, .int x3, .int x4] M P X := by
  refine ctIX_of (by decide +kernel) (Nat.le_of_ble_eq_true rfl) ?_
  intro p e s m args below meth c C hex
  rw [w_X7_addService] at h
  show J p l e rm_X7_addService s m args below meth c (QIX below E P X args s 1 6) E 6 M 0 0 0 [(0, .ref x0), (1, .int x1), (2, .int x2), (3, .int x3), (4, .int x4)] []
  refine j_aload_n (pc := 0) C 0 dX7_addService_0 rfl ?_
  refine j_aload_n (pc := 1) C 0 dX7_addService_1 rfl ?_
  refine gf_X7_23 (pc := 2) C dX7_addService_2 h (fun a1 h => ?_)
  refine j_iload_n (pc := 5) C 1 dX7_addService_5 rfl ?_
  refine j_iload_n (pc := 6) C 2 dX7_addService_6 rfl ?_
  refine j_iload_n (pc := 7) C 3 dX7_addService_7 rfl ?_
  refine j_iload (pc := 8) C 4 dX7_addService_8 rfl ?_
  refine cs_X7_265 (pc := 10) C ⟨Nat.le_of_ble_eq_true rfl, Nat.le_of_ble_eq_true rfl⟩ ⟨Nat.le_of_ble_eq_true rfl, Nat.le_of_ble_eq_true rfl⟩ (Nat.le_of_ble_eq_true rfl) dX7_addService_10 h (fun r2 M2 h => ?_)
  refine j_if_ne (pc := 13) C 20 dX7_addService_13 (by decide) h (fun h => ?_) (fun h => ?_)
  · refine j_iconst (pc := 20) (v := (0 : Int32)) C dX7_addService_20 rfl ?_
    refine cs_X7_293 (pc := 21) C hex ⟨Nat.le_of_ble_eq_true rfl, Nat.le_of_ble_eq_true rfl⟩ ⟨Nat.le_of_ble_eq_true rfl, Nat.le_of_ble_eq_true rfl⟩ ⟨Nat.le_of_ble_eq_true rfl, Nat.le_of_ble_eq_true rfl⟩ (Nat.le_of_ble_eq_true rfl) dX7_addService_21 h (fun M3 h => ?_)
    refine j_aload_n (pc := 24) C 0 dX7_addService_24 rfl ?_
    refine gf_X7_27 (pc := 25) C dX7_addService_25 h (fun a4 h => ?_)
    refine j_aload_n (pc := 28) C 0 dX7_addService_28 rfl ?_
    refine gf_X7_23 (pc := 29) C dX7_addService_29 h (fun a5 h => ?_)
    refine cs_X7_275 (pc := 32) C ⟨Nat.le_of_ble_eq_true rfl, Nat.le_of_ble_eq_true rfl⟩ ⟨Nat.le_of_ble_eq_true rfl, Nat.le_of_ble_eq_true rfl⟩ (Nat.le_of_ble_eq_true rfl) dX7_addService_32 h (fun M6 h => ?_)
    refine j_aload_n (pc := 35) C 0 dX7_addService_35 rfl ?_
    refine j_iload_n (pc := 36) C 1 dX7_addService_36 rfl ?_
    refine j_iload_n (pc := 37) C 2 dX7_addService_37 rfl ?_
    refine j_iload_n (pc := 38) C 3 dX7_addService_38 rfl ?_
    refine j_iload (pc := 39) C 4 dX7_addService_39 rfl ?_
    refine cs_X7_279 (pc := 41) C ⟨Nat.le_of_ble_eq_true rfl, Nat.le_of_ble_eq_true rfl⟩ ⟨Nat.le_of_ble_eq_true rfl, Nat.le_of_ble_eq_true rfl⟩ (Nat.le_of_ble_eq_true rfl) dX7_addService_41 h (fun r7 M7 h => ?_)
    refine j_istore (pc := 44) C [(5, _), (0, _), (1, _), (2, _), (3, _), (4, _)] dX7_addService_44 (by decide) rfl ?_
    refine j_aload_n (pc := 46) C 1 dX7_addService_46 rfl ?_
    refine cs_X7_296 (pc := 47) C ⟨Nat.le_of_ble_eq_true rfl, Nat.le_of_ble_eq_true rfl⟩ ⟨Nat.le_of_ble_eq_true rfl, Nat.le_of_ble_eq_true rfl⟩ (Nat.le_of_ble_eq_true rfl) dX7_addService_47 h (fun M8 h => ?_)
    refine j_iload (pc := 50) C 0 dX7_addService_50 rfl ?_
    exact j_iretX (pc := 52) C dX7_addService_52 (Nat.le_of_ble_eq_true rfl) (Nat.le_of_ble_eq_true rfl) h
  · refine j_iconst (pc := 16) (v := (1 : Int32)) C dX7_addService_16 rfl ?_
    refine j_goto (pc := 17) C 21 dX7_addService_17 (by decide) ?_
    refine cs_X7_293 (pc := 21) C hex ⟨Nat.le_of_ble_eq_true rfl, Nat.le_of_ble_eq_true rfl⟩ ⟨Nat.le_of_ble_eq_true rfl, Nat.le_of_ble_eq_true rfl⟩ ⟨Nat.le_of_ble_eq_true rfl, Nat.le_of_ble_eq_true rfl⟩ (Nat.le_of_ble_eq_true rfl) dX7_addService_21 h (fun M9 h => ?_)
    refine j_aload_n (pc := 24) C 0 dX7_addService_24 rfl ?_
    refine gf_X7_27 (pc := 25) C dX7_addService_25 h (fun a10 h => ?_)
    refine j_aload_n (pc := 28) C 0 dX7_addService_28 rfl ?_
    refine gf_X7_23 (pc := 29) C dX7_addService_29 h (fun a11 h => ?_)
    refine cs_X7_275 (pc := 32) C ⟨Nat.le_of_ble_eq_true rfl, Nat.le_of_ble_eq_true rfl⟩ ⟨Nat.le_of_ble_eq_true rfl, Nat.le_of_ble_eq_true rfl⟩ (Nat.le_of_ble_eq_true rfl) dX7_addService_32 h (fun M12 h => ?_)
    refine j_aload_n (pc := 35) C 0 dX7_addService_35 rfl ?_
    refine j_iload_n (pc := 36) C 1 dX7_addService_36 rfl ?_
    refine j_iload_n (pc := 37) C 2 dX7_addService_37 rfl ?_
    refine j_iload_n (pc := 38) C 3 dX7_addService_38 rfl ?_
    refine j_iload (pc := 39) C 4 dX7_addService_39 rfl ?_
    refine cs_X7_279 (pc := 41) C ⟨Nat.le_of_ble_eq_true rfl, Nat.le_of_ble_eq_true rfl⟩ ⟨Nat.le_of_ble_eq_true rfl, Nat.le_of_ble_eq_true rfl⟩ (Nat.le_of_ble_eq_true rfl) dX7_addService_41 h (fun r13 M13 h => ?_)
    refine j_istore (pc := 44) C [(5, _), (0, _), (1, _), (2, _), (3, _), (4, _)] dX7_addService_44 (by decide) rfl ?_
    refine j_aload_n (pc := 46) C 1 dX7_addService_46 rfl ?_
    refine cs_X7_296 (pc := 47) C ⟨Nat.le_of_ble_eq_true rfl, Nat.le_of_ble_eq_true rfl⟩ ⟨Nat.le_of_ble_eq_true rfl, Nat.le_of_ble_eq_true rfl⟩ (Nat.le_of_ble_eq_true rfl) dX7_addService_47 h (fun M14 h => ?_)
    refine j_iload (pc := 50) C 0 dX7_addService_50 rfl ?_
    exact j_iretX (pc := 52) C dX7_addService_52 (Nat.le_of_ble_eq_true rfl) (Nat.le_of_ble_eq_true rfl) h
abbrev rm0_X7_addService : Room := { frames := 5, cells := 0, slots := 0, locals := 134 }
set_option maxHeartbeats 4000000 in
set_option maxRecDepth 100000 in
theorem c0_X7_addService (l : Launch) (E : EV) (M : Mm) (x0 : Nat) (x1 : Int32) (x2 : Int32) (x3 : Int32) (x4 : Int32) (P : Int32 → Mm → Prop) (h : w_X7_addService M x0 x1 x2 x3 x4 P (fun _ _ => False)) : CtI l E yX7_addService cX7_addService 6 .int rm0_X7_addService 0 0 [.ref x0, .int x1, .int x2, .int x3, .int x4] M P := by
  refine ctI_of (by decide +kernel) (Nat.le_of_ble_eq_true rfl) ?_
  intro p e s m args below meth c C
  rw [w_X7_addService] at h
  show J p l e rm0_X7_addService s m args below meth c (QI below E P args s 0 0) E 6 M 0 0 0 [(0, .ref x0), (1, .int x1), (2, .int x2), (3, .int x3), (4, .int x4)] []
  refine j_aload_n (pc := 0) C 0 dX7_addService_0 rfl ?_
  refine j_aload_n (pc := 1) C 0 dX7_addService_1 rfl ?_
  refine gf_X7_23 (pc := 2) C dX7_addService_2 h (fun a1 h => ?_)
  refine j_iload_n (pc := 5) C 1 dX7_addService_5 rfl ?_
  refine j_iload_n (pc := 6) C 2 dX7_addService_6 rfl ?_
  refine j_iload_n (pc := 7) C 3 dX7_addService_7 rfl ?_
  refine j_iload (pc := 8) C 4 dX7_addService_8 rfl ?_
  refine cs_X7_265 (pc := 10) C ⟨Nat.le_of_ble_eq_true rfl, Nat.le_of_ble_eq_true rfl⟩ ⟨Nat.le_of_ble_eq_true rfl, Nat.le_of_ble_eq_true rfl⟩ (Nat.le_of_ble_eq_true rfl) dX7_addService_10 h (fun r2 M2 h => ?_)
  refine j_if_ne (pc := 13) C 20 dX7_addService_13 (by decide) h (fun h => ?_) (fun h => ?_)
  · refine j_iconst (pc := 20) (v := (0 : Int32)) C dX7_addService_20 rfl ?_
    refine cs0_X7_293 (pc := 21) C ⟨Nat.le_of_ble_eq_true rfl, Nat.le_of_ble_eq_true rfl⟩ ⟨Nat.le_of_ble_eq_true rfl, Nat.le_of_ble_eq_true rfl⟩ (Nat.le_of_ble_eq_true rfl) dX7_addService_21 h (fun M3 h => ?_)
    refine j_aload_n (pc := 24) C 0 dX7_addService_24 rfl ?_
    refine gf_X7_27 (pc := 25) C dX7_addService_25 h (fun a4 h => ?_)
    refine j_aload_n (pc := 28) C 0 dX7_addService_28 rfl ?_
    refine gf_X7_23 (pc := 29) C dX7_addService_29 h (fun a5 h => ?_)
    refine cs_X7_275 (pc := 32) C ⟨Nat.le_of_ble_eq_true rfl, Nat.le_of_ble_eq_true rfl⟩ ⟨Nat.le_of_ble_eq_true rfl, Nat.le_of_ble_eq_true rfl⟩ (Nat.le_of_ble_eq_true rfl) dX7_addService_32 h (fun M6 h => ?_)
    refine j_aload_n (pc := 35) C 0 dX7_addService_35 rfl ?_
    refine j_iload_n (pc := 36) C 1 dX7_addService_36 rfl ?_
    refine j_iload_n (pc := 37) C 2 dX7_addService_37 rfl ?_
    refine j_iload_n (pc := 38) C 3 dX7_addService_38 rfl ?_
    refine j_iload (pc := 39) C 4 dX7_addService_39 rfl ?_
    refine cs_X7_279 (pc := 41) C ⟨Nat.le_of_ble_eq_true rfl, Nat.le_of_ble_eq_true rfl⟩ ⟨Nat.le_of_ble_eq_true rfl, Nat.le_of_ble_eq_true rfl⟩ (Nat.le_of_ble_eq_true rfl) dX7_addService_41 h (fun r7 M7 h => ?_)
    refine j_istore (pc := 44) C [(5, _), (0, _), (1, _), (2, _), (3, _), (4, _)] dX7_addService_44 (by decide) rfl ?_
    refine j_aload_n (pc := 46) C 1 dX7_addService_46 rfl ?_
    refine cs_X7_296 (pc := 47) C ⟨Nat.le_of_ble_eq_true rfl, Nat.le_of_ble_eq_true rfl⟩ ⟨Nat.le_of_ble_eq_true rfl, Nat.le_of_ble_eq_true rfl⟩ (Nat.le_of_ble_eq_true rfl) dX7_addService_47 h (fun M8 h => ?_)
    refine j_iload (pc := 50) C 0 dX7_addService_50 rfl ?_
    exact j_iret (pc := 52) C dX7_addService_52 (Nat.le_of_ble_eq_true rfl) (Nat.le_of_ble_eq_true rfl) h
  · refine j_iconst (pc := 16) (v := (1 : Int32)) C dX7_addService_16 rfl ?_
    refine j_goto (pc := 17) C 21 dX7_addService_17 (by decide) ?_
    refine cs0_X7_293 (pc := 21) C ⟨Nat.le_of_ble_eq_true rfl, Nat.le_of_ble_eq_true rfl⟩ ⟨Nat.le_of_ble_eq_true rfl, Nat.le_of_ble_eq_true rfl⟩ (Nat.le_of_ble_eq_true rfl) dX7_addService_21 h (fun M9 h => ?_)
    refine j_aload_n (pc := 24) C 0 dX7_addService_24 rfl ?_
    refine gf_X7_27 (pc := 25) C dX7_addService_25 h (fun a10 h => ?_)
    refine j_aload_n (pc := 28) C 0 dX7_addService_28 rfl ?_
    refine gf_X7_23 (pc := 29) C dX7_addService_29 h (fun a11 h => ?_)
    refine cs_X7_275 (pc := 32) C ⟨Nat.le_of_ble_eq_true rfl, Nat.le_of_ble_eq_true rfl⟩ ⟨Nat.le_of_ble_eq_true rfl, Nat.le_of_ble_eq_true rfl⟩ (Nat.le_of_ble_eq_true rfl) dX7_addService_32 h (fun M12 h => ?_)
    refine j_aload_n (pc := 35) C 0 dX7_addService_35 rfl ?_
    refine j_iload_n (pc := 36) C 1 dX7_addService_36 rfl ?_
    refine j_iload_n (pc := 37) C 2 dX7_addService_37 rfl ?_
    refine j_iload_n (pc := 38) C 3 dX7_addService_38 rfl ?_
    refine j_iload (pc := 39) C 4 dX7_addService_39 rfl ?_
    refine cs_X7_279 (pc := 41) C ⟨Nat.le_of_ble_eq_true rfl, Nat.le_of_ble_eq_true rfl⟩ ⟨Nat.le_of_ble_eq_true rfl, Nat.le_of_ble_eq_true rfl⟩ (Nat.le_of_ble_eq_true rfl) dX7_addService_41 h (fun r13 M13 h => ?_)
    refine j_istore (pc := 44) C [(5, _), (0, _), (1, _), (2, _), (3, _), (4, _)] dX7_addService_44 (by decide) rfl ?_
    refine j_aload_n (pc := 46) C 1 dX7_addService_46 rfl ?_
    refine cs_X7_296 (pc := 47) C ⟨Nat.le_of_ble_eq_true rfl, Nat.le_of_ble_eq_true rfl⟩ ⟨Nat.le_of_ble_eq_true rfl, Nat.le_of_ble_eq_true rfl⟩ (Nat.le_of_ble_eq_true rfl) dX7_addService_47 h (fun M14 h => ?_)
    refine j_iload (pc := 50) C 0 dX7_addService_50 rfl ?_
    exact j_iret (pc := 52) C dX7_addService_52 (Nat.le_of_ble_eq_true rfl) (Nat.le_of_ble_eq_true rfl) h
end GW19
