/-! written by a program (wip/whole/gen.py) out of the decode rows and the tables: walks of X8 -/

section GW24
variable {p : Program} {l : Launch} {e : Env} {R : Room} {s : State} {m : MethodId} {args : Array Value} {below : List Frame} {meth : Method} {c : Code} {Q : State → Prop} {cc : ByteArray} {nL : Nat} {ret : Option FieldType} {E : EV} {M : Mm} {kc ks pc : Nat} {lo : List (Nat × Value)} {st : List Value}
theorem cs_X8_273 (C : Cx p l s m args meth c cc nL RX8 ret E) {b : Nat} {P : Int32 → Mm → Prop} (hR : rm_X8_slotMany.frames + 1 ≤ R.frames ∧ 8 + (1 + 11) + rm_X8_slotMany.locals ≤ R.locals) (hf : kc ≤ R.cells ∧ ks ≤ R.slots) (hst : (st.map fun v => v.category).sum ≤ 8) (d : decode cc pc = .ok (.invokevirtual 273, 3)) (h : zk M b = 8 ∧ w_X8_slotMany M b P) (kk : ∀ r M', P r M' → J p l e R s m args below meth c Q E nL M' kc ks (pc + 3) lo (.int r :: st)) : J p l e R s m args below meth c Q E nL M kc ks pc lo (.ref b :: st) :=
  j_cV_I (n := 0) (As := []) C co_X8 rfl wd_1406 wd_74 h.1 (c_X8_slotMany l E M b P h.2) ⟨wd_1407, wd_1404, wd_106, by decide +kernel, by decide +kernel, by decide +kernel⟩ rfl rfl hR hf rfl hst d kk
abbrev rm_X8_isFree : Room := { frames := 4, cells := 0, slots := 0, locals := 92 }
def w_X8_isFree (M : Mm) (x0 : Nat) (x1 : Int32) (x2 : Int32) (P : Int32 → Mm → Prop) : Prop := zk M x0 = 8 ∧ (∀ M1, M1 = sI M x0 0 (0 : Int32) → (zk M1 x0 = 8 ∧ ∃ a2, zR M1 x0 1 = some a2 ∧ zk M1 a2 = 10 ∧ vp_in (2 : Int32) (zl M1 a2) ∧ zk M1 x0 = 8 ∧ w_X8_no M1 x0 x1 (zI M1 a2 (2 : Int32).toNatClampNeg) (fun r3 M3 => (if r3 = 0 then zk M3 x0 = 8 ∧ w_X8_slotMany M3 x0 (fun r4 M4 => zk M4 x0 = 8 ∧ w_X8_no M4 x0 x2 r4 (fun r5 M5 => (if r5 = 0 then zk M5 x0 = 8 ∧ w_X8_freeAt M5 x0 x2 (fun r6 M6 => (if ((r6 >>> (x1 &&& 31)) &&& (1 : Int32)) = (1 : Int32) then ((1 : Int32) = 0 ∨ (1 : Int32) = 1) ∧ P (1 : Int32) M6 else ((0 : Int32) = 0 ∨ (0 : Int32) = 1) ∧ P (0 : Int32) M6)) else ((0 : Int32) = 0 ∨ (0 : Int32) = 1) ∧ P (0 : Int32) M5))) else ((0 : Int32) = 0 ∨ (0 : Int32) = 1) ∧ P (0 : Int32) M3))))
set_option maxHeartbeats 4000000 in
set_option maxRecDepth 100000 in
theorem c_X8_isFree (l : Launch) (E : EV) (M : Mm) (x0 : Nat) (x1 : Int32) (x2 : Int32) (P : Int32 → Mm → Prop) (h : w_X8_isFree M x0 x1 x2 P) : CtI l E yX8_isFree cX8_isFree 3 .boolean rm_X8_isFree 0 0 [.ref x0, .int x1, .int x2] M P := by
  refine ctI_of (by decide +kernel) (Nat.le_of_ble_eq_true rfl) ?_
  intro p e s m args below meth c C
  rw [w_X8_isFree] at h
  show J p l e rm_X8_isFree s m args below meth c (QI below E P args s 0 0) E 3 M 0 0 0 [(0, .ref x0), (1, .int x1), (2, .int x2)] []
  refine j_aload_n (pc := 0) C 0 dX8_isFree_0 rfl ?_
  refine j_iconst (pc := 1) (v := (0 : Int32)) C dX8_isFree_1 rfl ?_
  refine pf_X8_56 (pc := 2) C dX8_isFree_2 h (fun M1 h => ?_)
  refine j_aload_n (pc := 5) C 0 dX8_isFree_5 rfl ?_
  refine j_iload_n (pc := 6) C 1 dX8_isFree_6 rfl ?_
  refine j_aload_n (pc := 7) C 0 dX8_isFree_7 rfl ?_
  refine gf_X8_7 (pc := 8) C dX8_isFree_8 h (fun a2 h => ?_)
  refine j_iconst (pc := 11) (v := (2 : Int32)) C dX8_isFree_11 rfl ?_
  refine j_iald (pc := 12) C dX8_isFree_12 h (fun h => ?_)
  refine cs_X8_249 (pc := 13) C ⟨Nat.le_of_ble_eq_true rfl, Nat.le_of_ble_eq_true rfl⟩ ⟨Nat.le_of_ble_eq_true rfl, Nat.le_of_ble_eq_true rfl⟩ (Nat.le_of_ble_eq_true rfl) dX8_isFree_13 h (fun r3 M3 h => ?_)
  refine j_if_ne (pc := 16) C 48 dX8_isFree_16 (by decide) h (fun h => ?_) (fun h => ?_)
  · refine j_iconst (pc := 48) (v := (0 : Int32)) C dX8_isFree_48 rfl ?_
    exact j_zret (pc := 49) C dX8_isFree_49 (Nat.le_of_ble_eq_true rfl) (Nat.le_of_ble_eq_true rfl) h
  · refine j_aload_n (pc := 19) C 0 dX8_isFree_19 rfl ?_
    refine j_iload_n (pc := 20) C 2 dX8_isFree_20 rfl ?_
    refine j_aload_n (pc := 21) C 0 dX8_isFree_21 rfl ?_
    refine cs_X8_273 (pc := 22) C ⟨Nat.le_of_ble_eq_true rfl, Nat.le_of_ble_eq_true rfl⟩ ⟨Nat.le_of_ble_eq_true rfl, Nat.le_of_ble_eq_true rfl⟩ (Nat.le_of_ble_eq_true rfl) dX8_isFree_22 h (fun r4 M4 h => ?_)
    refine cs_X8_249 (pc := 25) C ⟨Nat.le_of_ble_eq_true rfl, Nat.le_of_ble_eq_true rfl⟩ ⟨Nat.le_of_ble_eq_true rfl, Nat.le_of_ble_eq_true rfl⟩ (Nat.le_of_ble_eq_true rfl) dX8_isFree_25 h (fun r5 M5 h => ?_)
    refine j_if_ne (pc := 28) C 48 dX8_isFree_28 (by decide) h (fun h => ?_) (fun h => ?_)
    · refine j_iconst (pc := 48) (v := (0 : Int32)) C dX8_isFree_48 rfl ?_
      exact j_zret (pc := 49) C dX8_isFree_49 (Nat.le_of_ble_eq_true rfl) (Nat.le_of_ble_eq_true rfl) h
    · refine j_aload_n (pc := 31) C 0 dX8_isFree_31 rfl ?_
      refine j_iload_n (pc := 32) C 2 dX8_isFree_32 rfl ?_
      refine cs_X8_224 (pc := 33) C ⟨Nat.le_of_ble_eq_true rfl, Nat.le_of_ble_eq_true rfl⟩ ⟨Nat.le_of_ble_eq_true rfl, Nat.le_of_ble_eq_true rfl⟩ (Nat.le_of_ble_eq_true rfl) dX8_isFree_33 h (fun r6 M6 h => ?_)
      refine j_iload_n (pc := 36) C 1 dX8_isFree_36 rfl ?_
      refine j_ishr (pc := 37) C dX8_isFree_37 ?_
      refine j_iconst (pc := 38) (v := (1 : Int32)) C dX8_isFree_38 rfl ?_
      refine j_iand (pc := 39) C dX8_isFree_39 ?_
      refine j_iconst (pc := 40) (v := (1 : Int32)) C dX8_isFree_40 rfl ?_
      refine j_icmp_ne (pc := 41) C 48 dX8_isFree_41 (by decide) h (fun h => ?_) (fun h => ?_)
      · refine j_iconst (pc := 48) (v := (0 : Int32)) C dX8_isFree_48 rfl ?_
        exact j_zret (pc := 49) C dX8_isFree_49 (Nat.le_of_ble_eq_true rfl) (Nat.le_of_ble_eq_true rfl) h
      · refine j_iconst (pc := 44) (v := (1 : Int32)) C dX8_isFree_44 rfl ?_
        refine j_goto (pc := 45) C 49 dX8_isFree_45 (by decide) ?_
        exact j_zret (pc := 49) C dX8_isFree_49 (Nat.le_of_ble_eq_true rfl) (Nat.le_of_ble_eq_true rfl) h
abbrev rm_X8_servicesWith : Room := { frames := 2, cells := 0, slots := 0, locals := 44 }
def l_X8_servicesWith_5 (P : Int32 → Mm → Prop) (K51 : Mm → Int32 → Prop) : Nat → Mm → Nat → Int32 → Int32 → Int32 → Int32 → Prop
  | 0, _, _, _, _, _, _ => False
  | n + 1, M, x0, x1, x2, x3, x4 => (zk M x0 = 8 ∧ ∃ a1, zR M x0 2 = some a1 ∧ zk M a1 = 10 ∧ vp_in (0 : Int32) (zl M a1) ∧ (if (zI M a1 (0 : Int32).toNatClampNeg) ≤ x4 then K51 M x3 else zk M x0 = 8 ∧ w_X8_hasWork M x0 x4 x1 (fun r2 M2 => (if r2 = 0 then l_X8_servicesWith_5 P K51 n M2 x0 x1 x2 (x3 + (0 : Int32)) (x4 + (1 : Int32)) else zk M2 x0 = 8 ∧ w_X8_of M2 x0 x4 (2 : Int32) (fun r3 M3 => (if r3 = x2 then l_X8_servicesWith_5 P K51 n M3 x0 x1 x2 (x3 + (1 : Int32)) (x4 + (1 : Int32)) else l_X8_servicesWith_5 P K51 n M3 x0 x1 x2 (x3 + (0 : Int32)) (x4 + (1 : Int32))))))))
set_option maxHeartbeats 4000000 in
set_option maxRecDepth 100000 in
theorem jl_X8_servicesWith_5 {P : Int32 → Mm → Prop} {K51 : Mm → Int32 → Prop} (C : Cx p l s m args meth c cX8_servicesWith 5 RX8 (some .int) E) (hkc : kc ≤ rm_X8_servicesWith.cells ∧ ks ≤ rm_X8_servicesWith.slots) (k51 : ∀ M x3, K51 M x3 → J p l e rm_X8_servicesWith s m args below meth c (QI below E P args s rm_X8_servicesWith.cells rm_X8_servicesWith.slots) E 5 M kc ks 51 [(3, .int x3)] []) : ∀ n M x0 x1 x2 x3 x4, l_X8_servicesWith_5 P K51 n M x0 x1 x2 x3 x4 → J p l e rm_X8_servicesWith s m args below meth c (QI below E P args s rm_X8_servicesWith.cells rm_X8_servicesWith.slots) E 5 M kc ks 5 [(0, .ref x0), (1, .int x1), (2, .int x2), (3, .int x3), (4, .int x4)] [] := by
  intro n
  induction n with
  | zero => intro M x0 x1 x2 x3 x4 h; exact h.elim
  | succ n ih =>
    intro M x0 x1 x2 x3 x4 h
    rw [l_X8_servicesWith_5] at h
    refine j_iload (pc := 5) C 4 dX8_servicesWith_5 rfl ?_
    refine j_aload_n (pc := 7) C 0 dX8_servicesWith_7 rfl ?_
    refine gf_X8_13 (pc := 8) C dX8_servicesWith_8 h (fun a1 h => ?_)
    refine j_iconst (pc := 11) (v := (0 : Int32)) C dX8_servicesWith_11 rfl ?_
    refine j_iald (pc := 12) C dX8_servicesWith_12 h (fun h => ?_)
    refine j_icmp_ge (pc := 13) C 51 dX8_servicesWith_13 (by decide) h (fun h => ?_) (fun h => ?_)
    · exact j_weak [3] rfl (k51 _ _ h)
    · refine j_iload_n (pc := 16) C 3 dX8_servicesWith_16 rfl ?_
      refine j_aload_n (pc := 17) C 0 dX8_servicesWith_17 rfl ?_
      refine j_iload (pc := 18) C 4 dX8_servicesWith_18 rfl ?_
      refine j_iload_n (pc := 20) C 1 dX8_servicesWith_20 rfl ?_
      refine cs_X8_204 (pc := 21) C ⟨Nat.le_of_ble_eq_true rfl, Nat.le_of_ble_eq_true rfl⟩ hkc (Nat.le_of_ble_eq_true rfl) dX8_servicesWith_21 h (fun r2 M2 h => ?_)
      refine j_if_eq (pc := 24) C 42 dX8_servicesWith_24 (by decide) h (fun h => ?_) (fun h => ?_)
      · refine j_iconst (pc := 42) (v := (0 : Int32)) C dX8_servicesWith_42 rfl ?_
        refine j_iadd (pc := 43) C dX8_servicesWith_43 ?_
        refine j_istore_n (pc := 44) C [(3, _), (0, _), (1, _), (2, _), (4, _)] dX8_servicesWith_44 (by decide) rfl ?_
        refine j_iinc (pc := 45) (v := (1 : Int32)) C 4 [(4, _), (3, _), (0, _), (1, _), (2, _)] dX8_servicesWith_45 rfl rfl (by decide) rfl ?_
        refine j_goto (pc := 48) C 5 dX8_servicesWith_48 (by decide) ?_
        exact j_weak [2, 3, 4, 1, 0] rfl (ih _ _ _ _ _ _ h)
      · refine j_aload_n (pc := 27) C 0 dX8_servicesWith_27 rfl ?_
        refine j_iload (pc := 28) C 4 dX8_servicesWith_28 rfl ?_
        refine j_iconst (pc := 30) (v := (2 : Int32)) C dX8_servicesWith_30 rfl ?_
        refine cs_X8_198 (pc := 31) C ⟨Nat.le_of_ble_eq_true rfl, Nat.le_of_ble_eq_true rfl⟩ hkc (Nat.le_of_ble_eq_true rfl) dX8_servicesWith_31 h (fun r3 M3 h => ?_)
        refine j_iload_n (pc := 34) C 2 dX8_servicesWith_34 rfl ?_
        refine j_icmp_ne (pc := 35) C 42 dX8_servicesWith_35 (by decide) h (fun h => ?_) (fun h => ?_)
        · refine j_iconst (pc := 42) (v := (0 : Int32)) C dX8_servicesWith_42 rfl ?_
          refine j_iadd (pc := 43) C dX8_servicesWith_43 ?_
          refine j_istore_n (pc := 44) C [(3, _), (0, _), (1, _), (2, _), (4, _)] dX8_servicesWith_44 (by decide) rfl ?_
          refine j_iinc (pc := 45) (v := (1 : Int32)) C 4 [(4, _), (3, _), (0, _), (1, _), (2, _)] dX8_servicesWith_45 rfl rfl (by decide) rfl ?_
          refine j_goto (pc := 48) C 5 dX8_servicesWith_48 (by decide) ?_
          exact j_weak [2, 3, 4, 1, 0] rfl (ih _ _ _ _ _ _ h)
        · refine j_iconst (pc := 38) (v := (1 : Int32)) C dX8_servicesWith_38 rfl ?_
          refine j_goto (pc := 39) C 43 dX8_servicesWith_39 (by decide) ?_
          refine j_iadd (pc := 43) C dX8_servicesWith_43 ?_
          refine j_istore_n (pc := 44) C [(3, _), (0, _), (1, _), (2, _), (4, _)] dX8_servicesWith_44 (by decide) rfl ?_
          refine j_iinc (pc := 45) (v := (1 : Int32)) C 4 [(4, _), (3, _), (0, _), (1, _), (2, _)] dX8_servicesWith_45 rfl rfl (by decide) rfl ?_
          refine j_goto (pc := 48) C 5 dX8_servicesWith_48 (by decide) ?_
          exact j_weak [2, 3, 4, 1, 0] rfl (ih _ _ _ _ _ _ h)
def w_X8_servicesWith (M : Mm) (x0 : Nat) (x1 : Int32) (x2 : Int32) (P : Int32 → Mm → Prop) : Prop := (∃ n5, l_X8_servicesWith_5 P (fun M4 x3_4 => P x3_4 M4) n5 M x0 x1 x2 (0 : Int32) (0 : Int32))
set_option maxHeartbeats 4000000 in
set_option maxRecDepth 100000 in
theorem c_X8_servicesWith (l : Launch) (E : EV) (M : Mm) (x0 : Nat) (x1 : Int32) (x2 : Int32) (P : Int32 → Mm → Prop) (h : w_X8_servicesWith M x0 x1 x2 P) : CtI l E yX8_servicesWith cX8_servicesWith 5 .int rm_X8_servicesWith 0 0 [.ref x0, .int x1, .int x2] M P := by
  refine ctI_of (by decide +kernel) (Nat.le_of_ble_eq_true rfl) ?_
  intro p e s m args below meth c C
  rw [w_X8_servicesWith] at h
  show J p l e rm_X8_servicesWith s m args below meth c (QI below E P args s 0 0) E 5 M 0 0 0 [(0, .ref x0), (1, .int x1), (2, .int x2)] []
  refine j_iconst (pc := 0) (v := (0 : Int32)) C dX8_servicesWith_0 rfl ?_
  refine j_istore_n (pc := 1) C [(3, _), (0, _), (1, _), (2, _)] dX8_servicesWith_1 (by decide) rfl ?_
  refine j_iconst (pc := 2) (v := (0 : Int32)) C dX8_servicesWith_2 rfl ?_
  refine j_istore (pc := 3) C [(4, _), (3, _), (0, _), (1, _), (2, _)] dX8_servicesWith_3 (by decide) rfl ?_
  obtain ⟨n5, h⟩ := h
  refine j_weak [2, 3, 4, 1, 0] rfl (jl_X8_servicesWith_5 C ⟨Nat.le_of_ble_eq_true rfl, Nat.le_of_ble_eq_true rfl⟩ (fun M4 x3_4 h => ?_) n5 _ _ _ _ _ _ h)
  · refine j_iload_n (pc := 51) C 0 dX8_servicesWith_51 rfl ?_
    exact j_iret (pc := 52) C dX8_servicesWith_52 (Nat.le_of_ble_eq_true rfl) (Nat.le_of_ble_eq_true rfl) h
abbrev rm_X8_rentOf : Room := { frames := 2, cells := 0, slots := 0, locals := 44 }
def l_X8_rentOf_7 (P : Int32 → Mm → Prop) (K74 : Mm → Nat → Int32 → Int32 → Int32 → Prop) : Nat → Mm → Nat → Int32 → Int32 → Int32 → Int32 → Prop
  | 0, _, _, _, _, _, _ => False
  | n + 1, M, x0, x1, x2, x3, x4 => (zk M x0 = 8 ∧ ∃ a1, zR M x0 2 = some a1 ∧ zk M a1 = 10 ∧ vp_in (0 : Int32) (zl M a1) ∧ (if (zI M a1 (0 : Int32).toNatClampNeg) ≤ x4 then K74 M x0 x1 x2 x3 else zk M x0 = 8 ∧ w_X8_of M x0 x4 (0 : Int32) (fun r2 M2 => ¬ (3 : Int32) = 0 ∧ zk M2 x0 = 8 ∧ w_X8_hasWork M2 x0 x4 x1 (fun r3 M3 => (if r3 = 0 then zk M3 x0 = 8 ∧ w_X8_hasWork M3 x0 x4 x1 (fun r4 M4 => (if r4 = 0 then l_X8_rentOf_7 P K74 n M4 x0 x1 x2 x3 (x4 + (1 : Int32)) else l_X8_rentOf_7 P K74 n M4 x0 x1 x2 (r2 / (3 : Int32)) (x4 + (1 : Int32)))) else (if x2 = (-1 : Int32) then zk M3 x0 = 8 ∧ w_X8_hasWork M3 x0 x4 x1 (fun r6 M6 => (if r6 = 0 then l_X8_rentOf_7 P K74 n M6 x0 x1 (r2 / (3 : Int32)) x3 (x4 + (1 : Int32)) else l_X8_rentOf_7 P K74 n M6 x0 x1 (r2 / (3 : Int32)) (r2 / (3 : Int32)) (x4 + (1 : Int32)))) else zk M3 x0 = 8 ∧ w_X8_hasWork M3 x0 x4 x1 (fun r5 M5 => (if r5 = 0 then l_X8_rentOf_7 P K74 n M5 x0 x1 x2 x3 (x4 + (1 : Int32)) else l_X8_rentOf_7 P K74 n M5 x0 x1 x2 (r2 / (3 : Int32)) (x4 + (1 : Int32))))))))))
set_option maxHeartbeats 4000000 in
set_option maxRecDepth 100000 in
theorem jl_X8_rentOf_7 {P : Int32 → Mm → Prop} {K74 : Mm → Nat → Int32 → Int32 → Int32 → Prop} (C : Cx p l s m args meth c cX8_rentOf 6 RX8 (some .int) E) (hkc : kc ≤ rm_X8_rentOf.cells ∧ ks ≤ rm_X8_rentOf.slots) (k74 : ∀ M x0 x1 x2 x3, K74 M x0 x1 x2 x3 → J p l e rm_X8_rentOf s m args below meth c (QI below E P args s rm_X8_rentOf.cells rm_X8_rentOf.slots) E 6 M kc ks 74 [(0, .ref x0), (1, .int x1), (2, .int x2), (3, .int x3)] []) : ∀ n M x0 x1 x2 x3 x4, l_X8_rentOf_7 P K74 n M x0 x1 x2 x3 x4 → J p l e rm_X8_rentOf s m args below meth c (QI below E P args s rm_X8_rentOf.cells rm_X8_rentOf.slots) E 6 M kc ks 7 [(0, .ref x0), (1, .int x1), (2, .int x2), (3, .int x3), (4, .int x4)] [] := by
  intro n
  induction n with
  | zero => intro M x0 x1 x2 x3 x4 h; exact h.elim
  | succ n ih =>
    intro M x0 x1 x2 x3 x4 h
    rw [l_X8_rentOf_7] at h
    refine j_iload (pc := 7) C 4 dX8_rentOf_7 rfl ?_
    refine j_aload_n (pc := 9) C 0 dX8_rentOf_9 rfl ?_
    refine gf_X8_13 (pc := 10) C dX8_rentOf_10 h (fun a1 h => ?_)
    refine j_iconst (pc := 13) (v := (0 : Int32)) C dX8_rentOf_13 rfl ?_
    refine j_iald (pc := 14) C dX8_rentOf_14 h (fun h => ?_)
    refine j_icmp_ge (pc := 15) C 74 dX8_rentOf_15 (by decide) h (fun h => ?_) (fun h => ?_)
    · exact j_weak [0, 1, 2, 3] rfl (k74 _ _ _ _ _ h)
    · refine j_aload_n (pc := 18) C 0 dX8_rentOf_18 rfl ?_
      refine j_iload (pc := 19) C 4 dX8_rentOf_19 rfl ?_
      refine j_iconst (pc := 21) (v := (0 : Int32)) C dX8_rentOf_21 rfl ?_
      refine cs_X8_198 (pc := 22) C ⟨Nat.le_of_ble_eq_true rfl, Nat.le_of_ble_eq_true rfl⟩ hkc (Nat.le_of_ble_eq_true rfl) dX8_rentOf_22 h (fun r2 M2 h => ?_)
      refine j_iconst (pc := 25) (v := (3 : Int32)) C dX8_rentOf_25 rfl ?_
      refine j_idiv (pc := 26) C dX8_rentOf_26 h (fun h => ?_)
      refine j_istore (pc := 27) C [(5, _), (0, _), (1, _), (2, _), (3, _), (4, _)] dX8_rentOf_27 (by decide) rfl ?_
      refine j_aload_n (pc := 29) C 1 dX8_rentOf_29 rfl ?_
      refine j_iload (pc := 30) C 5 dX8_rentOf_30 rfl ?_
      refine j_iload_n (pc := 32) C 2 dX8_rentOf_32 rfl ?_
      refine cs_X8_204 (pc := 33) C ⟨Nat.le_of_ble_eq_true rfl, Nat.le_of_ble_eq_true rfl⟩ hkc (Nat.le_of_ble_eq_true rfl) dX8_rentOf_33 h (fun r3 M3 h => ?_)
      refine j_if_eq (pc := 36) C 49 dX8_rentOf_36 (by decide) h (fun h => ?_) (fun h => ?_)
      · refine j_iload_n (pc := 49) C 3 dX8_rentOf_49 rfl ?_
        refine j_istore_n (pc := 50) C [(2, _), (5, _), (0, _), (1, _), (3, _), (4, _)] dX8_rentOf_50 (by decide) rfl ?_
        refine j_aload_n (pc := 51) C 2 dX8_rentOf_51 rfl ?_
        refine j_iload (pc := 52) C 5 dX8_rentOf_52 rfl ?_
        refine j_iload_n (pc := 54) C 3 dX8_rentOf_54 rfl ?_
        refine cs_X8_204 (pc := 55) C ⟨Nat.le_of_ble_eq_true rfl, Nat.le_of_ble_eq_true rfl⟩ hkc (Nat.le_of_ble_eq_true rfl) dX8_rentOf_55 h (fun r4 M4 h => ?_)
        refine j_if_eq (pc := 58) C 66 dX8_rentOf_58 (by decide) h (fun h => ?_) (fun h => ?_)
        · refine j_iload_n (pc := 66) C 4 dX8_rentOf_66 rfl ?_
          refine j_istore_n (pc := 67) C [(3, _), (2, _), (5, _), (0, _), (1, _), (4, _)] dX8_rentOf_67 (by decide) rfl ?_
          refine j_iinc (pc := 68) (v := (1 : Int32)) C 5 [(4, _), (3, _), (2, _), (5, _), (0, _), (1, _)] dX8_rentOf_68 rfl rfl (by decide) rfl ?_
          refine j_goto (pc := 71) C 7 dX8_rentOf_71 (by decide) ?_
          exact j_weak [4, 5, 2, 1, 0] rfl (ih _ _ _ _ _ _ h)
        · refine j_iload (pc := 61) C 1 dX8_rentOf_61 rfl ?_
          refine j_goto (pc := 63) C 67 dX8_rentOf_63 (by decide) ?_
          refine j_istore_n (pc := 67) C [(3, _), (2, _), (5, _), (0, _), (1, _), (4, _)] dX8_rentOf_67 (by decide) rfl ?_
          refine j_iinc (pc := 68) (v := (1 : Int32)) C 5 [(4, _), (3, _), (2, _), (5, _), (0, _), (1, _)] dX8_rentOf_68 rfl rfl (by decide) rfl ?_
          refine j_goto (pc := 71) C 7 dX8_rentOf_71 (by decide) ?_
          exact j_weak [4, 5, 2, 1, 0] rfl (ih _ _ _ _ _ _ h)
      · refine j_iload_n (pc := 39) C 3 dX8_rentOf_39 rfl ?_
        refine j_iconst (pc := 40) (v := (-1 : Int32)) C dX8_rentOf_40 rfl ?_
        refine j_icmp_ne (pc := 41) C 49 dX8_rentOf_41 (by decide) h (fun h => ?_) (fun h => ?_)
        · refine j_iload_n (pc := 49) C 3 dX8_rentOf_49 rfl ?_
          refine j_istore_n (pc := 50) C [(2, _), (5, _), (0, _), (1, _), (3, _), (4, _)] dX8_rentOf_50 (by decide) rfl ?_
          refine j_aload_n (pc := 51) C 2 dX8_rentOf_51 rfl ?_
          refine j_iload (pc := 52) C 5 dX8_rentOf_52 rfl ?_
          refine j_iload_n (pc := 54) C 3 dX8_rentOf_54 rfl ?_
          refine cs_X8_204 (pc := 55) C ⟨Nat.le_of_ble_eq_true rfl, Nat.le_of_ble_eq_true rfl⟩ hkc (Nat.le_of_ble_eq_true rfl) dX8_rentOf_55 h (fun r5 M5 h => ?_)
          refine j_if_eq (pc := 58) C 66 dX8_rentOf_58 (by decide) h (fun h => ?_) (fun h => ?_)
          · refine j_iload_n (pc := 66) C 4 dX8_rentOf_66 rfl ?_
            refine j_istore_n (pc := 67) C [(3, _), (2, _), (5, _), (0, _), (1, _), (4, _)] dX8_rentOf_67 (by decide) rfl ?_
            refine j_iinc (pc := 68) (v := (1 : Int32)) C 5 [(4, _), (3, _), (2, _), (5, _), (0, _), (1, _)] dX8_rentOf_68 rfl rfl (by decide) rfl ?_
            refine j_goto (pc := 71) C 7 dX8_rentOf_71 (by decide) ?_
            exact j_weak [4, 5, 2, 1, 0] rfl (ih _ _ _ _ _ _ h)
          · refine j_iload (pc := 61) C 1 dX8_rentOf_61 rfl ?_
            refine j_goto (pc := 63) C 67 dX8_rentOf_63 (by decide) ?_
            refine j_istore_n (pc := 67) C [(3, _), (2, _), (5, _), (0, _), (1, _), (4, _)] dX8_rentOf_67 (by decide) rfl ?_
            refine j_iinc (pc := 68) (v := (1 : Int32)) C 5 [(4, _), (3, _), (2, _), (5, _), (0, _), (1, _)] dX8_rentOf_68 rfl rfl (by decide) rfl ?_
            refine j_goto (pc := 71) C 7 dX8_rentOf_71 (by decide) ?_
            exact j_weak [4, 5, 2, 1, 0] rfl (ih _ _ _ _ _ _ h)
        · refine j_iload (pc := 44) C 0 dX8_rentOf_44 rfl ?_
          refine j_goto (pc := 46) C 50 dX8_rentOf_46 (by decide) ?_
          refine j_istore_n (pc := 50) C [(2, _), (5, _), (0, _), (1, _), (3, _), (4, _)] dX8_rentOf_50 (by decide) rfl ?_
          refine j_aload_n (pc := 51) C 2 dX8_rentOf_51 rfl ?_
          refine j_iload (pc := 52) C 5 dX8_rentOf_52 rfl ?_
          refine j_iload_n (pc := 54) C 3 dX8_rentOf_54 rfl ?_
          refine cs_X8_204 (pc := 55) C ⟨Nat.le_of_ble_eq_true rfl, Nat.le_of_ble_eq_true rfl⟩ hkc (Nat.le_of_ble_eq_true rfl) dX8_rentOf_55 h (fun r6 M6 h => ?_)
          refine j_if_eq (pc := 58) C 66 dX8_rentOf_58 (by decide) h (fun h => ?_) (fun h => ?_)
          · refine j_iload_n (pc := 66) C 4 dX8_rentOf_66 rfl ?_
            refine j_istore_n (pc := 67) C [(3, _), (2, _), (5, _), (0, _), (1, _), (4, _)] dX8_rentOf_67 (by decide) rfl ?_
            refine j_iinc (pc := 68) (v := (1 : Int32)) C 5 [(4, _), (3, _), (2, _), (5, _), (0, _), (1, _)] dX8_rentOf_68 rfl rfl (by decide) rfl ?_
            refine j_goto (pc := 71) C 7 dX8_rentOf_71 (by decide) ?_
            exact j_weak [4, 5, 2, 1, 0] rfl (ih _ _ _ _ _ _ h)
          · refine j_iload (pc := 61) C 1 dX8_rentOf_61 rfl ?_
            refine j_goto (pc := 63) C 67 dX8_rentOf_63 (by decide) ?_
            refine j_istore_n (pc := 67) C [(3, _), (2, _), (5, _), (0, _), (1, _), (4, _)] dX8_rentOf_67 (by decide) rfl ?_
            refine j_iinc (pc := 68) (v := (1 : Int32)) C 5 [(4, _), (3, _), (2, _), (5, _), (0, _), (1, _)] dX8_rentOf_68 rfl rfl (by decide) rfl ?_
            refine j_goto (pc := 71) C 7 dX8_rentOf_71 (by decide) ?_
            exact j_weak [4, 5, 2, 1, 0] rfl (ih _ _ _ _ _ _ h)
def w_X8_rentOf (M : Mm) (x0 : Nat) (x1 : Int32) (P : Int32 → Mm → Prop) : Prop := (∃ n7, l_X8_rentOf_7 P (fun M7 x0_7 x1_7 x2_7 x3_7 => (if x2_7 = (-1 : Int32) then P (0 : Int32) M7 else zk M7 x0_7 = 8 ∧ w_X8_ofWork M7 x0_7 x1_7 (3 : Int32) (fun r8 M8 => P (((x3_7 - x2_7) + (1 : Int32)) * r8) M8))) n7 M x0 x1 (-1 : Int32) (-1 : Int32) (0 : Int32))
set_option maxHeartbeats 4000000 in
set_option maxRecDepth 100000 in
theorem c_X8_rentOf (l : Launch) (E : EV) (M : Mm) (x0 : Nat) (x1 : Int32) (P : Int32 → Mm → Prop) (h : w_X8_rentOf M x0 x1 P) : CtI l E yX8_rentOf cX8_rentOf 6 .int rm_X8_rentOf 0 0 [.ref x0, .int x1] M P := by
  refine ctI_of (by decide +kernel) (Nat.le_of_ble_eq_true rfl) ?_
  intro p e s m args below meth c C
  rw [w_X8_rentOf] at h
  show J p l e rm_X8_rentOf s m args below meth c (QI below E P args s 0 0) E 6 M 0 0 0 [(0, .ref x0), (1, .int x1)] []
  refine j_iconst (pc := 0) (v := (-1 : Int32)) C dX8_rentOf_0 rfl ?_
  refine j_istore_n (pc := 1) C [(2, _), (0, _), (1, _)] dX8_rentOf_1 (by decide) rfl ?_
  refine j_iconst (pc := 2) (v := (-1 : Int32)) C dX8_rentOf_2 rfl ?_
  refine j_istore_n (pc := 3) C [(3, _), (2, _), (0, _), (1, _)] dX8_rentOf_3 (by decide) rfl ?_
  refine j_iconst (pc := 4) (v := (0 : Int32)) C dX8_rentOf_4 rfl ?_
  refine j_istore (pc := 5) C [(4, _), (3, _), (2, _), (0, _), (1, _)] dX8_rentOf_5 (by decide) rfl ?_
  obtain ⟨n7, h⟩ := h
  refine j_weak [3, 4, 2, 1, 0] rfl (jl_X8_rentOf_7 C ⟨Nat.le_of_ble_eq_true rfl, Nat.le_of_ble_eq_true rfl⟩ (fun M7 x0_7 x1_7 x2_7 x3_7 h => ?_) n7 _ _ _ _ _ _ h)
  · refine j_iload_n (pc := 74) C 2 dX8_rentOf_74 rfl ?_
    refine j_iconst (pc := 75) (v := (-1 : Int32)) C dX8_rentOf_75 rfl ?_
    refine j_icmp_ne (pc := 76) C 83 dX8_rentOf_76 (by decide) h (fun h => ?_) (fun h => ?_)
    · refine j_iload_n (pc := 83) C 3 dX8_rentOf_83 rfl ?_
      refine j_iload_n (pc := 84) C 2 dX8_rentOf_84 rfl ?_
      refine j_isub (pc := 85) C dX8_rentOf_85 ?_
      refine j_iconst (pc := 86) (v := (1 : Int32)) C dX8_rentOf_86 rfl ?_
      refine j_iadd (pc := 87) C dX8_rentOf_87 ?_
      refine j_aload_n (pc := 88) C 0 dX8_rentOf_88 rfl ?_
      refine j_iload_n (pc := 89) C 1 dX8_rentOf_89 rfl ?_
      refine j_iconst (pc := 90) (v := (3 : Int32)) C dX8_rentOf_90 rfl ?_
      refine cs_X8_201 (pc := 91) C ⟨Nat.le_of_ble_eq_true rfl, Nat.le_of_ble_eq_true rfl⟩ ⟨Nat.le_of_ble_eq_true rfl, Nat.le_of_ble_eq_true rfl⟩ (Nat.le_of_ble_eq_true rfl) dX8_rentOf_91 h (fun r8 M8 h => ?_)
      refine j_imul (pc := 94) C dX8_rentOf_94 ?_
      exact j_iret (pc := 95) C dX8_rentOf_95 (Nat.le_of_ble_eq_true rfl) (Nat.le_of_ble_eq_true rfl) h
    · refine j_iconst (pc := 79) (v := (0 : Int32)) C dX8_rentOf_79 rfl ?_
      refine j_goto (pc := 80) C 95 dX8_rentOf_80 (by decide) ?_
      exact j_iret (pc := 95) C dX8_rentOf_95 (Nat.le_of_ble_eq_true rfl) (Nat.le_of_ble_eq_true rfl) h
theorem cs_X8_276 (C : Cx p l s m args meth c cc nL RX8 ret E) {b : Nat} {y0 : Int32} {P : Int32 → Mm → Prop} (hR : rm_X8_rentOf.frames + 1 ≤ R.frames ∧ 8 + (6 + 11) + rm_X8_rentOf.locals ≤ R.locals) (hf : kc ≤ R.cells ∧ ks ≤ R.slots) (hst : (st.map fun v => v.category).sum ≤ 8) (d : decode cc pc = .ok (.invokevirtual 276, 3)) (h : zk M b = 8 ∧ w_X8_rentOf M b y0 P) (kk : ∀ r M', P r M' → J p l e R s m args below meth c Q E nL M' kc ks (pc + 3) lo (.int r :: st)) : J p l e R s m args below meth c Q E nL M kc ks pc lo (.int y0 :: .ref b :: st) :=
  j_cV_I (n := 1) (As := [.int y0]) C co_X8 rfl wd_1418 wd_76 h.1 (c_X8_rentOf l E M b y0 P h.2) ⟨wd_1419, wd_1416, wd_106, by decide +kernel, by decide +kernel, by decide +kernel⟩ rfl rfl hR hf rfl hst d kk
theorem cs_X8_279 (C : Cx p l s m args meth c cc nL RX8 ret E) {b : Nat} {y0 : Int32} {y1 : Int32} {P : Int32 → Mm → Prop} (hR : rm_X8_servicesWith.frames + 1 ≤ R.frames ∧ 8 + (5 + 11) + rm_X8_servicesWith.locals ≤ R.locals) (hf : kc ≤ R.cells ∧ ks ≤ R.slots) (hst : (st.map fun v => v.category).sum ≤ 8) (d : decode cc pc = .ok (.invokevirtual 279, 3)) (h : zk M b = 8 ∧ w_X8_servicesWith M b y0 y1 P) (kk : ∀ r M', P r M' → J p l e R s m args below meth c Q E nL M' kc ks (pc + 3) lo (.int r :: st)) : J p l e R s m args below meth c Q E nL M kc ks pc lo (.int y1 :: .int y0 :: .ref b :: st) :=
  j_cV_I (n := 2) (As := [.int y0, .int y1]) C co_X8 rfl wd_1422 wd_77 h.1 (c_X8_servicesWith l E M b y0 y1 P h.2) ⟨wd_1423, wd_1420, wd_106, by decide +kernel, by decide +kernel, by decide +kernel⟩ rfl rfl hR hf rfl hst d kk
abbrev rm_X8_work : Room := { frames := 3, cells := 0, slots := 0, locals := 69 }
def w_X8_work (M : Mm) (x0 : Nat) (x1 : Int32) (x2 : Int32) (P : Int32 → Mm → Prop) : Prop := zk M x0 = 8 ∧ (∀ M1, M1 = sI M x0 0 (0 : Int32) → (zk M1 x0 = 8 ∧ ∃ a2, zR M1 x0 1 = some a2 ∧ zk M1 a2 = 10 ∧ vp_in (3 : Int32) (zl M1 a2) ∧ zk M1 x0 = 8 ∧ w_X8_no M1 x0 x1 (zI M1 a2 (3 : Int32).toNatClampNeg) (fun r3 M3 => (if r3 = 0 then zk M3 x0 = 8 ∧ w_X8_noWhat M3 x0 x2 (7 : Int32) (fun r4 M4 => (if r4 = 0 then (if (5 : Int32) ≤ x2 then (if x2 = (7 : Int32) then zk M4 x0 = 8 ∧ w_X8_rentOf M4 x0 x1 (fun r6 M6 => P r6 M6) else zk M4 x0 = 8 ∧ w_X8_servicesWith M4 x0 x1 (x2 - (5 : Int32)) (fun r5 M5 => P r5 M5)) else zk M4 x0 = 8 ∧ w_X8_ofWork M4 x0 x1 x2 (fun r7 M7 => P r7 M7)) else P (0 : Int32) M4)) else P (0 : Int32) M3))))
set_option maxHeartbeats 4000000 in
set_option maxRecDepth 100000 in
theorem c_X8_work (l : Launch) (E : EV) (M : Mm) (x0 : Nat) (x1 : Int32) (x2 : Int32) (P : Int32 → Mm → Prop) (h : w_X8_work M x0 x1 x2 P) : CtI l E yX8_work cX8_work 3 .int rm_X8_work 0 0 [.ref x0, .int x1, .int x2] M P := by
  refine ctI_of (by decide +kernel) (Nat.le_of_ble_eq_true rfl) ?_
  intro p e s m args below meth c C
  rw [w_X8_work] at h
  show J p l e rm_X8_work s m args below meth c (QI below E P args s 0 0) E 3 M 0 0 0 [(0, .ref x0), (1, .int x1), (2, .int x2)] []
  refine j_aload_n (pc := 0) C 0 dX8_work_0 rfl ?_
  refine j_iconst (pc := 1) (v := (0 : Int32)) C dX8_work_1 rfl ?_
  refine pf_X8_56 (pc := 2) C dX8_work_2 h (fun M1 h => ?_)
  refine j_aload_n (pc := 5) C 0 dX8_work_5 rfl ?_
  refine j_iload_n (pc := 6) C 1 dX8_work_6 rfl ?_
  refine j_aload_n (pc := 7) C 0 dX8_work_7 rfl ?_
  refine gf_X8_7 (pc := 8) C dX8_work_8 h (fun a2 h => ?_)
  refine j_iconst (pc := 11) (v := (3 : Int32)) C dX8_work_11 rfl ?_
  refine j_iald (pc := 12) C dX8_work_12 h (fun h => ?_)
  refine cs_X8_249 (pc := 13) C ⟨Nat.le_of_ble_eq_true rfl, Nat.le_of_ble_eq_true rfl⟩ ⟨Nat.le_of_ble_eq_true rfl, Nat.le_of_ble_eq_true rfl⟩ (Nat.le_of_ble_eq_true rfl) dX8_work_13 h (fun r3 M3 h => ?_)
  refine j_if_ne (pc := 16) C 29 dX8_work_16 (by decide) h (fun h => ?_) (fun h => ?_)
  · refine j_iconst (pc := 29) (v := (0 : Int32)) C dX8_work_29 rfl ?_
    exact j_iret (pc := 30) C dX8_work_30 (Nat.le_of_ble_eq_true rfl) (Nat.le_of_ble_eq_true rfl) h
  · refine j_aload_n (pc := 19) C 0 dX8_work_19 rfl ?_
    refine j_iload_n (pc := 20) C 2 dX8_work_20 rfl ?_
    refine j_bipush (pc := 21) (v := (7 : Int32)) C dX8_work_21 rfl ?_
    refine cs_X8_261 (pc := 23) C ⟨Nat.le_of_ble_eq_true rfl, Nat.le_of_ble_eq_true rfl⟩ ⟨Nat.le_of_ble_eq_true rfl, Nat.le_of_ble_eq_true rfl⟩ (Nat.le_of_ble_eq_true rfl) dX8_work_23 h (fun r4 M4 h => ?_)
    refine j_if_eq (pc := 26) C 31 dX8_work_26 (by decide) h (fun h => ?_) (fun h => ?_)
    · refine j_iload_n (pc := 31) C 2 dX8_work_31 rfl ?_
      refine j_iconst (pc := 32) (v := (5 : Int32)) C dX8_work_32 rfl ?_
      refine j_icmp_ge (pc := 33) C 45 dX8_work_33 (by decide) h (fun h => ?_) (fun h => ?_)
      · refine j_iload_n (pc := 45) C 2 dX8_work_45 rfl ?_
        refine j_bipush (pc := 46) (v := (7 : Int32)) C dX8_work_46 rfl ?_
        refine j_icmp_ne (pc := 48) C 59 dX8_work_48 (by decide) h (fun h => ?_) (fun h => ?_)
        · refine j_aload_n (pc := 59) C 0 dX8_work_59 rfl ?_
          refine j_iload_n (pc := 60) C 1 dX8_work_60 rfl ?_
          refine j_iload_n (pc := 61) C 2 dX8_work_61 rfl ?_
          refine j_iconst (pc := 62) (v := (5 : Int32)) C dX8_work_62 rfl ?_
          refine j_isub (pc := 63) C dX8_work_63 ?_
          refine cs_X8_279 (pc := 64) C ⟨Nat.le_of_ble_eq_true rfl, Nat.le_of_ble_eq_true rfl⟩ ⟨Nat.le_of_ble_eq_true rfl, Nat.le_of_ble_eq_true rfl⟩ (Nat.le_of_ble_eq_true rfl) dX8_work_64 h (fun r5 M5 h => ?_)
          exact j_iret (pc := 67) C dX8_work_67 (Nat.le_of_ble_eq_true rfl) (Nat.le_of_ble_eq_true rfl) h
        · refine j_aload_n (pc := 51) C 0 dX8_work_51 rfl ?_
          refine j_iload_n (pc := 52) C 1 dX8_work_52 rfl ?_
          refine cs_X8_276 (pc := 53) C ⟨Nat.le_of_ble_eq_true rfl, Nat.le_of_ble_eq_true rfl⟩ ⟨Nat.le_of_ble_eq_true rfl, Nat.le_of_ble_eq_true rfl⟩ (Nat.le_of_ble_eq_true rfl) dX8_work_53 h (fun r6 M6 h => ?_)
          refine j_goto (pc := 56) C 67 dX8_work_56 (by decide) ?_
          exact j_iret (pc := 67) C dX8_work_67 (Nat.le_of_ble_eq_true rfl) (Nat.le_of_ble_eq_true rfl) h
      · refine j_aload_n (pc := 36) C 0 dX8_work_36 rfl ?_
        refine j_iload_n (pc := 37) C 1 dX8_work_37 rfl ?_
        refine j_iload_n (pc := 38) C 2 dX8_work_38 rfl ?_
        refine cs_X8_201 (pc := 39) C ⟨Nat.le_of_ble_eq_true rfl, Nat.le_of_ble_eq_true rfl⟩ ⟨Nat.le_of_ble_eq_true rfl, Nat.le_of_ble_eq_true rfl⟩ (Nat.le_of_ble_eq_true rfl) dX8_work_39 h (fun r7 M7 h => ?_)
        refine j_goto (pc := 42) C 67 dX8_work_42 (by decide) ?_
        exact j_iret (pc := 67) C dX8_work_67 (Nat.le_of_ble_eq_true rfl) (Nat.le_of_ble_eq_true rfl) h
    · refine j_iconst (pc := 29) (v := (0 : Int32)) C dX8_work_29 rfl ?_
      exact j_iret (pc := 30) C dX8_work_30 (Nat.le_of_ble_eq_true rfl) (Nat.le_of_ble_eq_true rfl) h
abbrev rm_X8_seat : Room := { frames := 2, cells := 0, slots := 0, locals := 44 }
def w_X8_seat (M : Mm) (x0 : Nat) (x1 : Int32) (x2 : Int32) (P : Int32 → Mm → Prop) : Prop := zk M x0 = 8 ∧ (∀ M1, M1 = sI M x0 0 (0 : Int32) → (zk M1 x0 = 8 ∧ ∃ a2, zR M1 x0 1 = some a2 ∧ zk M1 a2 = 10 ∧ vp_in (3 : Int32) (zl M1 a2) ∧ zk M1 x0 = 8 ∧ w_X8_no M1 x0 x1 (zI M1 a2 (3 : Int32).toNatClampNeg) (fun r3 M3 => (if r3 = 0 then zk M3 x0 = 8 ∧ w_X8_ofWork M3 x0 x1 (4 : Int32) (fun r4 M4 => zk M4 x0 = 8 ∧ w_X8_no M4 x0 x2 r4 (fun r5 M5 => (if r5 = 0 then zk M5 x0 = 8 ∧ w_X8_ofWork M5 x0 x1 ((5 : Int32) + x2) (fun r6 M6 => P r6 M6) else P (0 : Int32) M5))) else P (0 : Int32) M3))))
set_option maxHeartbeats 4000000 in
set_option maxRecDepth 100000 in
theorem c_X8_seat (l : Launch) (E : EV) (M : Mm) (x0 : Nat) (x1 : Int32) (x2 : Int32) (P : Int32 → Mm → Prop) (h : w_X8_seat M x0 x1 x2 P) : CtI l E yX8_seat cX8_seat 3 .int rm_X8_seat 0 0 [.ref x0, .int x1, .int x2] M P := by
  refine ctI_of (by decide +kernel) (Nat.le_of_ble_eq_true rfl) ?_
  intro p e s m args below meth c C
  rw [w_X8_seat] at h
  show J p l e rm_X8_seat s m args below meth c (QI below E P args s 0 0) E 3 M 0 0 0 [(0, .ref x0), (1, .int x1), (2, .int x2)] []
  refine j_aload_n (pc := 0) C 0 dX8_seat_0 rfl ?_
  refine j_iconst (pc := 1) (v := (0 : Int32)) C dX8_seat_1 rfl ?_
  refine pf_X8_56 (pc := 2) C dX8_seat_2 h (fun M1 h => ?_)
  refine j_aload_n (pc := 5) C 0 dX8_seat_5 rfl ?_
  refine j_iload_n (pc := 6) C 1 dX8_seat_6 rfl ?_
  refine j_aload_n (pc := 7) C 0 dX8_seat_7 rfl ?_
  refine gf_X8_7 (pc := 8) C dX8_seat_8 h (fun a2 h => ?_)
  refine j_iconst (pc := 11) (v := (3 : Int32)) C dX8_seat_11 rfl ?_
  refine j_iald (pc := 12) C dX8_seat_12 h (fun h => ?_)
  refine cs_X8_249 (pc := 13) C ⟨Nat.le_of_ble_eq_true rfl, Nat.le_of_ble_eq_true rfl⟩ ⟨Nat.le_of_ble_eq_true rfl, Nat.le_of_ble_eq_true rfl⟩ (Nat.le_of_ble_eq_true rfl) dX8_seat_13 h (fun r3 M3 h => ?_)
  refine j_if_ne (pc := 16) C 33 dX8_seat_16 (by decide) h (fun h => ?_) (fun h => ?_)
  · refine j_iconst (pc := 33) (v := (0 : Int32)) C dX8_seat_33 rfl ?_
    refine j_goto (pc := 34) C 45 dX8_seat_34 (by decide) ?_
    exact j_iret (pc := 45) C dX8_seat_45 (Nat.le_of_ble_eq_true rfl) (Nat.le_of_ble_eq_true rfl) h
  · refine j_aload_n (pc := 19) C 0 dX8_seat_19 rfl ?_
    refine j_iload_n (pc := 20) C 2 dX8_seat_20 rfl ?_
    refine j_aload_n (pc := 21) C 0 dX8_seat_21 rfl ?_
    refine j_iload_n (pc := 22) C 1 dX8_seat_22 rfl ?_
    refine j_iconst (pc := 23) (v := (4 : Int32)) C dX8_seat_23 rfl ?_
    refine cs_X8_201 (pc := 24) C ⟨Nat.le_of_ble_eq_true rfl, Nat.le_of_ble_eq_true rfl⟩ ⟨Nat.le_of_ble_eq_true rfl, Nat.le_of_ble_eq_true rfl⟩ (Nat.le_of_ble_eq_true rfl) dX8_seat_24 h (fun r4 M4 h => ?_)
    refine cs_X8_249 (pc := 27) C ⟨Nat.le_of_ble_eq_true rfl, Nat.le_of_ble_eq_true rfl⟩ ⟨Nat.le_of_ble_eq_true rfl, Nat.le_of_ble_eq_true rfl⟩ (Nat.le_of_ble_eq_true rfl) dX8_seat_27 h (fun r5 M5 h => ?_)
    refine j_if_eq (pc := 30) C 37 dX8_seat_30 (by decide) h (fun h => ?_) (fun h => ?_)
    · refine j_aload_n (pc := 37) C 0 dX8_seat_37 rfl ?_
      refine j_iload_n (pc := 38) C 1 dX8_seat_38 rfl ?_
      refine j_iconst (pc := 39) (v := (5 : Int32)) C dX8_seat_39 rfl ?_
      refine j_iload_n (pc := 40) C 2 dX8_seat_40 rfl ?_
      refine j_iadd (pc := 41) C dX8_seat_41 ?_
      refine cs_X8_201 (pc := 42) C ⟨Nat.le_of_ble_eq_true rfl, Nat.le_of_ble_eq_true rfl⟩ ⟨Nat.le_of_ble_eq_true rfl, Nat.le_of_ble_eq_true rfl⟩ (Nat.le_of_ble_eq_true rfl) dX8_seat_42 h (fun r6 M6 h => ?_)
      exact j_iret (pc := 45) C dX8_seat_45 (Nat.le_of_ble_eq_true rfl) (Nat.le_of_ble_eq_true rfl) h
    · refine j_iconst (pc := 33) (v := (0 : Int32)) C dX8_seat_33 rfl ?_
      refine j_goto (pc := 34) C 45 dX8_seat_34 (by decide) ?_
      exact j_iret (pc := 45) C dX8_seat_45 (Nat.le_of_ble_eq_true rfl) (Nat.le_of_ble_eq_true rfl) h
abbrev rm_X8_noService : Room := { frames := 2, cells := 0, slots := 0, locals := 44 }
def w_X8_noService (M : Mm) (x0 : Nat) (x1 : Int32) (P : Int32 → Mm → Prop) : Prop := zk M x0 = 8 ∧ (∀ M1, M1 = sI M x0 0 (0 : Int32) → (zk M1 x0 = 8 ∧ ∃ a2, zR M1 x0 2 = some a2 ∧ zk M1 a2 = 10 ∧ vp_in (0 : Int32) (zl M1 a2) ∧ zk M1 x0 = 8 ∧ w_X8_no M1 x0 x1 (zI M1 a2 (0 : Int32).toNatClampNeg) (fun r3 M3 => (r3 = 0 ∨ r3 = 1) ∧ P r3 M3)))
set_option maxHeartbeats 4000000 in
set_option maxRecDepth 100000 in
theorem c_X8_noService (l : Launch) (E : EV) (M : Mm) (x0 : Nat) (x1 : Int32) (P : Int32 → Mm → Prop) (h : w_X8_noService M x0 x1 P) : CtI l E yX8_noService cX8_noService 2 .boolean rm_X8_noService 0 0 [.ref x0, .int x1] M P := by
  refine ctI_of (by decide +kernel) (Nat.le_of_ble_eq_true rfl) ?_
  intro p e s m args below meth c C
  rw [w_X8_noService] at h
  show J p l e rm_X8_noService s m args below meth c (QI below E P args s 0 0) E 2 M 0 0 0 [(0, .ref x0), (1, .int x1)] []
  refine j_aload_n (pc := 0) C 0 dX8_noService_0 rfl ?_
  refine j_iconst (pc := 1) (v := (0 : Int32)) C dX8_noService_1 rfl ?_
  refine pf_X8_56 (pc := 2) C dX8_noService_2 h (fun M1 h => ?_)
  refine j_aload_n (pc := 5) C 0 dX8_noService_5 rfl ?_
  refine j_iload_n (pc := 6) C 1 dX8_noService_6 rfl ?_
  refine j_aload_n (pc := 7) C 0 dX8_noService_7 rfl ?_
  refine gf_X8_13 (pc := 8) C dX8_noService_8 h (fun a2 h => ?_)
  refine j_iconst (pc := 11) (v := (0 : Int32)) C dX8_noService_11 rfl ?_
  refine j_iald (pc := 12) C dX8_noService_12 h (fun h => ?_)
  refine cs_X8_249 (pc := 13) C ⟨Nat.le_of_ble_eq_true rfl, Nat.le_of_ble_eq_true rfl⟩ ⟨Nat.le_of_ble_eq_true rfl, Nat.le_of_ble_eq_true rfl⟩ (Nat.le_of_ble_eq_true rfl) dX8_noService_13 h (fun r3 M3 h => ?_)
  exact j_zret (pc := 16) C dX8_noService_16 (Nat.le_of_ble_eq_true rfl) (Nat.le_of_ble_eq_true rfl) h
theorem cs_X8_282 (C : Cx p l s m args meth c cc nL RX8 ret E) {b : Nat} {y0 : Int32} {P : Int32 → Mm → Prop} (hR : rm_X8_noService.frames + 1 ≤ R.frames ∧ 8 + (2 + 11) + rm_X8_noService.locals ≤ R.locals) (hf : kc ≤ R.cells ∧ ks ≤ R.slots) (hst : (st.map fun v => v.category).sum ≤ 8) (d : decode cc pc = .ok (.invokevirtual 282, 3)) (h : zk M b = 8 ∧ w_X8_noService M b y0 P) (kk : ∀ r M', P r M' → J p l e R s m args below meth c Q E nL M' kc ks (pc + 3) lo (.int r :: st)) : J p l e R s m args below meth c Q E nL M kc ks pc lo (.int y0 :: .ref b :: st) :=
  j_cV_I (n := 1) (As := [.int y0]) C co_X8 rfl wd_1434 wd_78 h.1 (c_X8_noService l E M b y0 P h.2) ⟨wd_1435, wd_1432, wd_106, by decide +kernel, by decide +kernel, by decide +kernel⟩ rfl rfl hR hf rfl hst d kk
abbrev rm_X8_service : Room := { frames := 3, cells := 0, slots := 0, locals := 71 }
def w_X8_service (M : Mm) (x0 : Nat) (x1 : Int32) (x2 : Int32) (P : Int32 → Mm → Prop) : Prop := zk M x0 = 8 ∧ w_X8_noService M x0 x1 (fun r1 M1 => (if r1 = 0 then zk M1 x0 = 8 ∧ w_X8_noWhat M1 x0 x2 (5 : Int32) (fun r2 M2 => (if r2 = 0 then (if (4 : Int32) ≤ x2 then (if x2 = (4 : Int32) then zk M2 x0 = 8 ∧ w_X8_inService M2 x0 x1 (fun r4 M4 => P r4 M4) else zk M2 x0 = 8 ∧ w_X8_doublingsIn M2 x0 x1 (-1 : Int32) (fun r3 M3 => P r3 M3)) else zk M2 x0 = 8 ∧ w_X8_of M2 x0 x1 x2 (fun r5 M5 => P r5 M5)) else P (0 : Int32) M2)) else P (0 : Int32) M1))
set_option maxHeartbeats 4000000 in
set_option maxRecDepth 100000 in
theorem c_X8_service (l : Launch) (E : EV) (M : Mm) (x0 : Nat) (x1 : Int32) (x2 : Int32) (P : Int32 → Mm → Prop) (h : w_X8_service M x0 x1 x2 P) : CtI l E yX8_service cX8_service 3 .int rm_X8_service 0 0 [.ref x0, .int x1, .int x2] M P := by
  refine ctI_of (by decide +kernel) (Nat.le_of_ble_eq_true rfl) ?_
  intro p e s m args below meth c C
  rw [w_X8_service] at h
  show J p l e rm_X8_service s m args below meth c (QI below E P args s 0 0) E 3 M 0 0 0 [(0, .ref x0), (1, .int x1), (2, .int x2)] []
  refine j_aload_n (pc := 0) C 0 dX8_service_0 rfl ?_
  refine j_iload_n (pc := 1) C 1 dX8_service_1 rfl ?_
  refine cs_X8_282 (pc := 2) C ⟨Nat.le_of_ble_eq_true rfl, Nat.le_of_ble_eq_true rfl⟩ ⟨Nat.le_of_ble_eq_true rfl, Nat.le_of_ble_eq_true rfl⟩ (Nat.le_of_ble_eq_true rfl) dX8_service_2 h (fun r1 M1 h => ?_)
  refine j_if_ne (pc := 5) C 17 dX8_service_5 (by decide) h (fun h => ?_) (fun h => ?_)
  · refine j_iconst (pc := 17) (v := (0 : Int32)) C dX8_service_17 rfl ?_
    exact j_iret (pc := 18) C dX8_service_18 (Nat.le_of_ble_eq_true rfl) (Nat.le_of_ble_eq_true rfl) h
  · refine j_aload_n (pc := 8) C 0 dX8_service_8 rfl ?_
    refine j_iload_n (pc := 9) C 2 dX8_service_9 rfl ?_
    refine j_iconst (pc := 10) (v := (5 : Int32)) C dX8_service_10 rfl ?_
    refine cs_X8_261 (pc := 11) C ⟨Nat.le_of_ble_eq_true rfl, Nat.le_of_ble_eq_true rfl⟩ ⟨Nat.le_of_ble_eq_true rfl, Nat.le_of_ble_eq_true rfl⟩ (Nat.le_of_ble_eq_true rfl) dX8_service_11 h (fun r2 M2 h => ?_)
    refine j_if_eq (pc := 14) C 19 dX8_service_14 (by decide) h (fun h => ?_) (fun h => ?_)
    · refine j_iload_n (pc := 19) C 2 dX8_service_19 rfl ?_
      refine j_iconst (pc := 20) (v := (4 : Int32)) C dX8_service_20 rfl ?_
      refine j_icmp_ge (pc := 21) C 33 dX8_service_21 (by decide) h (fun h => ?_) (fun h => ?_)
      · refine j_iload_n (pc := 33) C 2 dX8_service_33 rfl ?_
        refine j_iconst (pc := 34) (v := (4 : Int32)) C dX8_service_34 rfl ?_
        refine j_icmp_ne (pc := 35) C 46 dX8_service_35 (by decide) h (fun h => ?_) (fun h => ?_)
        · refine j_aload_n (pc := 46) C 0 dX8_service_46 rfl ?_
          refine j_iload_n (pc := 47) C 1 dX8_service_47 rfl ?_
          refine j_iconst (pc := 48) (v := (-1 : Int32)) C dX8_service_48 rfl ?_
          refine cs_X8_252 (pc := 49) C ⟨Nat.le_of_ble_eq_true rfl, Nat.le_of_ble_eq_true rfl⟩ ⟨Nat.le_of_ble_eq_true rfl, Nat.le_of_ble_eq_true rfl⟩ (Nat.le_of_ble_eq_true rfl) dX8_service_49 h (fun r3 M3 h => ?_)
          exact j_iret (pc := 52) C dX8_service_52 (Nat.le_of_ble_eq_true rfl) (Nat.le_of_ble_eq_true rfl) h
        · refine j_aload_n (pc := 38) C 0 dX8_service_38 rfl ?_
          refine j_iload_n (pc := 39) C 1 dX8_service_39 rfl ?_
          refine cs_X8_211 (pc := 40) C ⟨Nat.le_of_ble_eq_true rfl, Nat.le_of_ble_eq_true rfl⟩ ⟨Nat.le_of_ble_eq_true rfl, Nat.le_of_ble_eq_true rfl⟩ (Nat.le_of_ble_eq_true rfl) dX8_service_40 h (fun r4 M4 h => ?_)
          refine j_goto (pc := 43) C 52 dX8_service_43 (by decide) ?_
          exact j_iret (pc := 52) C dX8_service_52 (Nat.le_of_ble_eq_true rfl) (Nat.le_of_ble_eq_true rfl) h
      · refine j_aload_n (pc := 24) C 0 dX8_service_24 rfl ?_
        refine j_iload_n (pc := 25) C 1 dX8_service_25 rfl ?_
        refine j_iload_n (pc := 26) C 2 dX8_service_26 rfl ?_
        refine cs_X8_198 (pc := 27) C ⟨Nat.le_of_ble_eq_true rfl, Nat.le_of_ble_eq_true rfl⟩ ⟨Nat.le_of_ble_eq_true rfl, Nat.le_of_ble_eq_true rfl⟩ (Nat.le_of_ble_eq_true rfl) dX8_service_27 h (fun r5 M5 h => ?_)
        refine j_goto (pc := 30) C 52 dX8_service_30 (by decide) ?_
        exact j_iret (pc := 52) C dX8_service_52 (Nat.le_of_ble_eq_true rfl) (Nat.le_of_ble_eq_true rfl) h
    · refine j_iconst (pc := 17) (v := (0 : Int32)) C dX8_service_17 rfl ?_
      exact j_iret (pc := 18) C dX8_service_18 (Nat.le_of_ble_eq_true rfl) (Nat.le_of_ble_eq_true rfl) h
abbrev rm_X8_cast : Room := { frames := 3, cells := 0, slots := 0, locals := 65 }
def w_X8_cast (M : Mm) (x0 : Nat) (x1 : Int32) (x2 : Int32) (x3 : Int32) (P : Int32 → Mm → Prop) : Prop := zk M x0 = 8 ∧ w_X8_noService M x0 x1 (fun r1 M1 => (if r1 = 0 then (zk M1 x0 = 8 ∧ ∃ a2, zR M1 x0 1 = some a2 ∧ zk M1 a2 = 10 ∧ vp_in (3 : Int32) (zl M1 a2) ∧ zk M1 x0 = 8 ∧ w_X8_no M1 x0 x2 (zI M1 a2 (3 : Int32).toNatClampNeg) (fun r3 M3 => (if r3 = 0 then zk M3 x0 = 8 ∧ w_X8_ofWork M3 x0 x2 (4 : Int32) (fun r4 M4 => zk M4 x0 = 8 ∧ w_X8_no M4 x0 x3 r4 (fun r5 M5 => (if r5 = 0 then zk M5 x0 = 8 ∧ w_X8_hasWork M5 x0 x1 x2 (fun r6 M6 => (if r6 = 0 then P (-1 : Int32) M6 else zk M6 x0 = 8 ∧ w_X8_castOf M6 x0 x1 x2 x3 (fun r7 M7 => P r7 M7))) else P (0 : Int32) M5))) else P (0 : Int32) M3))) else P (0 : Int32) M1))
set_option maxHeartbeats 4000000 in
set_option maxRecDepth 100000 in
theorem c_X8_cast (l : Launch) (E : EV) (M : Mm) (x0 : Nat) (x1 : Int32) (x2 : Int32) (x3 : Int32) (P : Int32 → Mm → Prop) (h : w_X8_cast M x0 x1 x2 x3 P) : CtI l E yX8_cast cX8_cast 4 .int rm_X8_cast 0 0 [.ref x0, .int x1, .int x2, .int x3] M P := by
  refine ctI_of (by decide +kernel) (Nat.le_of_ble_eq_true rfl) ?_
  intro p e s m args below meth c C
  rw [w_X8_cast] at h
  show J p l e rm_X8_cast s m args below meth c (QI below E P args s 0 0) E 4 M 0 0 0 [(0, .ref x0), (1, .int x1), (2, .int x2), (3, .int x3)] []
  refine j_aload_n (pc := 0) C 0 dX8_cast_0 rfl ?_
  refine j_iload_n (pc := 1) C 1 dX8_cast_1 rfl ?_
  refine cs_X8_282 (pc := 2) C ⟨Nat.le_of_ble_eq_true rfl, Nat.le_of_ble_eq_true rfl⟩ ⟨Nat.le_of_ble_eq_true rfl, Nat.le_of_ble_eq_true rfl⟩ (Nat.le_of_ble_eq_true rfl) dX8_cast_2 h (fun r1 M1 h => ?_)
  refine j_if_ne (pc := 5) C 36 dX8_cast_5 (by decide) h (fun h => ?_) (fun h => ?_)
  · refine j_iconst (pc := 36) (v := (0 : Int32)) C dX8_cast_36 rfl ?_
    exact j_iret (pc := 37) C dX8_cast_37 (Nat.le_of_ble_eq_true rfl) (Nat.le_of_ble_eq_true rfl) h
  · refine j_aload_n (pc := 8) C 0 dX8_cast_8 rfl ?_
    refine j_iload_n (pc := 9) C 2 dX8_cast_9 rfl ?_
    refine j_aload_n (pc := 10) C 0 dX8_cast_10 rfl ?_
    refine gf_X8_7 (pc := 11) C dX8_cast_11 h (fun a2 h => ?_)
    refine j_iconst (pc := 14) (v := (3 : Int32)) C dX8_cast_14 rfl ?_
    refine j_iald (pc := 15) C dX8_cast_15 h (fun h => ?_)
    refine cs_X8_249 (pc := 16) C ⟨Nat.le_of_ble_eq_true rfl, Nat.le_of_ble_eq_true rfl⟩ ⟨Nat.le_of_ble_eq_true rfl, Nat.le_of_ble_eq_true rfl⟩ (Nat.le_of_ble_eq_true rfl) dX8_cast_16 h (fun r3 M3 h => ?_)
    refine j_if_ne (pc := 19) C 36 dX8_cast_19 (by decide) h (fun h => ?_) (fun h => ?_)
    · refine j_iconst (pc := 36) (v := (0 : Int32)) C dX8_cast_36 rfl ?_
      exact j_iret (pc := 37) C dX8_cast_37 (Nat.le_of_ble_eq_true rfl) (Nat.le_of_ble_eq_true rfl) h
    · refine j_aload_n (pc := 22) C 0 dX8_cast_22 rfl ?_
      refine j_iload_n (pc := 23) C 3 dX8_cast_23 rfl ?_
      refine j_aload_n (pc := 24) C 0 dX8_cast_24 rfl ?_
      refine j_iload_n (pc := 25) C 2 dX8_cast_25 rfl ?_
      refine j_iconst (pc := 26) (v := (4 : Int32)) C dX8_cast_26 rfl ?_
      refine cs_X8_201 (pc := 27) C ⟨Nat.le_of_ble_eq_true rfl, Nat.le_of_ble_eq_true rfl⟩ ⟨Nat.le_of_ble_eq_true rfl, Nat.le_of_ble_eq_true rfl⟩ (Nat.le_of_ble_eq_true rfl) dX8_cast_27 h (fun r4 M4 h => ?_)
      refine cs_X8_249 (pc := 30) C ⟨Nat.le_of_ble_eq_true rfl, Nat.le_of_ble_eq_true rfl⟩ ⟨Nat.le_of_ble_eq_true rfl, Nat.le_of_ble_eq_true rfl⟩ (Nat.le_of_ble_eq_true rfl) dX8_cast_30 h (fun r5 M5 h => ?_)
      refine j_if_eq (pc := 33) C 38 dX8_cast_33 (by decide) h (fun h => ?_) (fun h => ?_)
      · refine j_aload_n (pc := 38) C 0 dX8_cast_38 rfl ?_
        refine j_iload_n (pc := 39) C 1 dX8_cast_39 rfl ?_
        refine j_iload_n (pc := 40) C 2 dX8_cast_40 rfl ?_
        refine cs_X8_204 (pc := 41) C ⟨Nat.le_of_ble_eq_true rfl, Nat.le_of_ble_eq_true rfl⟩ ⟨Nat.le_of_ble_eq_true rfl, Nat.le_of_ble_eq_true rfl⟩ (Nat.le_of_ble_eq_true rfl) dX8_cast_41 h (fun r6 M6 h => ?_)
        refine j_if_eq (pc := 44) C 57 dX8_cast_44 (by decide) h (fun h => ?_) (fun h => ?_)
        · refine j_iconst (pc := 57) (v := (-1 : Int32)) C dX8_cast_57 rfl ?_
          exact j_iret (pc := 58) C dX8_cast_58 (Nat.le_of_ble_eq_true rfl) (Nat.le_of_ble_eq_true rfl) h
        · refine j_aload_n (pc := 47) C 0 dX8_cast_47 rfl ?_
          refine j_iload_n (pc := 48) C 1 dX8_cast_48 rfl ?_
          refine j_iload_n (pc := 49) C 2 dX8_cast_49 rfl ?_
          refine j_iload_n (pc := 50) C 3 dX8_cast_50 rfl ?_
          refine cs_X8_207 (pc := 51) C ⟨Nat.le_of_ble_eq_true rfl, Nat.le_of_ble_eq_true rfl⟩ ⟨Nat.le_of_ble_eq_true rfl, Nat.le_of_ble_eq_true rfl⟩ (Nat.le_of_ble_eq_true rfl) dX8_cast_51 h (fun r7 M7 h => ?_)
          refine j_goto (pc := 54) C 58 dX8_cast_54 (by decide) ?_
          exact j_iret (pc := 58) C dX8_cast_58 (Nat.le_of_ble_eq_true rfl) (Nat.le_of_ble_eq_true rfl) h
      · refine j_iconst (pc := 36) (v := (0 : Int32)) C dX8_cast_36 rfl ?_
        exact j_iret (pc := 37) C dX8_cast_37 (Nat.le_of_ble_eq_true rfl) (Nat.le_of_ble_eq_true rfl) h
abbrev rm_X8_noPlace : Room := { frames := 2, cells := 0, slots := 0, locals := 44 }
def w_X8_noPlace (M : Mm) (x0 : Nat) (x1 : Int32) (x2 : Int32) (P : Int32 → Mm → Prop) : Prop := zk M x0 = 8 ∧ (∀ M1, M1 = sI M x0 0 (0 : Int32) → (zk M1 x0 = 8 ∧ ∃ a2, zR M1 x0 1 = some a2 ∧ zk M1 a2 = 10 ∧ vp_in (1 : Int32) (zl M1 a2) ∧ zk M1 x0 = 8 ∧ w_X8_no M1 x0 x1 (zI M1 a2 (1 : Int32).toNatClampNeg) (fun r3 M3 => (if r3 = 0 then zk M3 x0 = 8 ∧ w_X8_slotMany M3 x0 (fun r4 M4 => zk M4 x0 = 8 ∧ w_X8_no M4 x0 x2 r4 (fun r5 M5 => (if r5 = 0 then ((0 : Int32) = 0 ∨ (0 : Int32) = 1) ∧ P (0 : Int32) M5 else ((1 : Int32) = 0 ∨ (1 : Int32) = 1) ∧ P (1 : Int32) M5))) else ((1 : Int32) = 0 ∨ (1 : Int32) = 1) ∧ P (1 : Int32) M3))))
set_option maxHeartbeats 4000000 in
set_option maxRecDepth 100000 in
theorem c_X8_noPlace (l : Launch) (E : EV) (M : Mm) (x0 : Nat) (x1 : Int32) (x2 : Int32) (P : Int32 → Mm → Prop) (h : w_X8_noPlace M x0 x1 x2 P) : CtI l E yX8_noPlace cX8_noPlace 3 .boolean rm_X8_noPlace 0 0 [.ref x0, .int x1, .int x2] M P := by
  refine ctI_of (by decide +kernel) (Nat.le_of_ble_eq_true rfl) ?_
  intro p e s m args below meth c C
  rw [w_X8_noPlace] at h
  show J p l e rm_X8_noPlace s m args below meth c (QI below E P args s 0 0) E 3 M 0 0 0 [(0, .ref x0), (1, .int x1), (2, .int x2)] []
  refine j_aload_n (pc := 0) C 0 dX8_noPlace_0 rfl ?_
  refine j_iconst (pc := 1) (v := (0 : Int32)) C dX8_noPlace_1 rfl ?_
  refine pf_X8_56 (pc := 2) C dX8_noPlace_2 h (fun M1 h => ?_)
  refine j_aload_n (pc := 5) C 0 dX8_noPlace_5 rfl ?_
  refine j_iload_n (pc := 6) C 1 dX8_noPlace_6 rfl ?_
  refine j_aload_n (pc := 7) C 0 dX8_noPlace_7 rfl ?_
  refine gf_X8_7 (pc := 8) C dX8_noPlace_8 h (fun a2 h => ?_)
  refine j_iconst (pc := 11) (v := (1 : Int32)) C dX8_noPlace_11 rfl ?_
  refine j_iald (pc := 12) C dX8_noPlace_12 h (fun h => ?_)
  refine cs_X8_249 (pc := 13) C ⟨Nat.le_of_ble_eq_true rfl, Nat.le_of_ble_eq_true rfl⟩ ⟨Nat.le_of_ble_eq_true rfl, Nat.le_of_ble_eq_true rfl⟩ (Nat.le_of_ble_eq_true rfl) dX8_noPlace_13 h (fun r3 M3 h => ?_)
  refine j_if_ne (pc := 16) C 31 dX8_noPlace_16 (by decide) h (fun h => ?_) (fun h => ?_)
  · refine j_iconst (pc := 31) (v := (1 : Int32)) C dX8_noPlace_31 rfl ?_
    refine j_goto (pc := 32) C 36 dX8_noPlace_32 (by decide) ?_
    exact j_zret (pc := 36) C dX8_noPlace_36 (Nat.le_of_ble_eq_true rfl) (Nat.le_of_ble_eq_true rfl) h
  · refine j_aload_n (pc := 19) C 0 dX8_noPlace_19 rfl ?_
    refine j_iload_n (pc := 20) C 2 dX8_noPlace_20 rfl ?_
    refine j_aload_n (pc := 21) C 0 dX8_noPlace_21 rfl ?_
    refine cs_X8_273 (pc := 22) C ⟨Nat.le_of_ble_eq_true rfl, Nat.le_of_ble_eq_true rfl⟩ ⟨Nat.le_of_ble_eq_true rfl, Nat.le_of_ble_eq_true rfl⟩ (Nat.le_of_ble_eq_true rfl) dX8_noPlace_22 h (fun r4 M4 h => ?_)
    refine cs_X8_249 (pc := 25) C ⟨Nat.le_of_ble_eq_true rfl, Nat.le_of_ble_eq_true rfl⟩ ⟨Nat.le_of_ble_eq_true rfl, Nat.le_of_ble_eq_true rfl⟩ (Nat.le_of_ble_eq_true rfl) dX8_noPlace_25 h (fun r5 M5 h => ?_)
    refine j_if_eq (pc := 28) C 35 dX8_noPlace_28 (by decide) h (fun h => ?_) (fun h => ?_)
    · refine j_iconst (pc := 35) (v := (0 : Int32)) C dX8_noPlace_35 rfl ?_
      exact j_zret (pc := 36) C dX8_noPlace_36 (Nat.le_of_ble_eq_true rfl) (Nat.le_of_ble_eq_true rfl) h
    · refine j_iconst (pc := 31) (v := (1 : Int32)) C dX8_noPlace_31 rfl ?_
      refine j_goto (pc := 32) C 36 dX8_noPlace_32 (by decide) ?_
      exact j_zret (pc := 36) C dX8_noPlace_36 (Nat.le_of_ble_eq_true rfl) (Nat.le_of_ble_eq_true rfl) h
theorem cs_X8_285 (C : Cx p l s m args meth c cc nL RX8 ret E) {b : Nat} {y0 : Int32} {y1 : Int32} {P : Int32 → Mm → Prop} (hR : rm_X8_noPlace.frames + 1 ≤ R.frames ∧ 8 + (3 + 11) + rm_X8_noPlace.locals ≤ R.locals) (hf : kc ≤ R.cells ∧ ks ≤ R.slots) (hst : (st.map fun v => v.category).sum ≤ 8) (d : decode cc pc = .ok (.invokevirtual 285, 3)) (h : zk M b = 8 ∧ w_X8_noPlace M b y0 y1 P) (kk : ∀ r M', P r M' → J p l e R s m args below meth c Q E nL M' kc ks (pc + 3) lo (.int r :: st)) : J p l e R s m args below meth c Q E nL M kc ks pc lo (.int y1 :: .int y0 :: .ref b :: st) :=
  j_cV_I (n := 2) (As := [.int y0, .int y1]) C co_X8 rfl wd_1446 wd_79 h.1 (c_X8_noPlace l E M b y0 y1 P h.2) ⟨wd_1447, wd_1444, wd_106, by decide +kernel, by decide +kernel, by decide +kernel⟩ rfl rfl hR hf rfl hst d kk
abbrev rm_X8_serviceAt : Room := { frames := 3, cells := 0, slots := 0, locals := 66 }
def l_X8_serviceAt_13 (P : Int32 → Mm → Prop) (K43 : Mm → Int32 → Prop) (K51 : Mm → Prop) : Nat → Mm → Nat → Int32 → Int32 → Int32 → Prop
  | 0, _, _, _, _, _ => False
  | n + 1, M, x0, x1, x2, x3 => (zk M x0 = 8 ∧ ∃ a2, zR M x0 2 = some a2 ∧ zk M a2 = 10 ∧ vp_in (0 : Int32) (zl M a2) ∧ (if (zI M a2 (0 : Int32).toNatClampNeg) ≤ x3 then K51 M else zk M x0 = 8 ∧ w_X8_of M x0 x3 (1 : Int32) (fun r3 M3 => (if r3 = x1 then zk M3 x0 = 8 ∧ w_X8_of M3 x0 x3 (0 : Int32) (fun r4 M4 => (if r4 = x2 then K43 M4 x3 else l_X8_serviceAt_13 P K43 K51 n M4 x0 x1 x2 (x3 + (1 : Int32)))) else l_X8_serviceAt_13 P K43 K51 n M3 x0 x1 x2 (x3 + (1 : Int32))))))
set_option maxHeartbeats 4000000 in
set_option maxRecDepth 100000 in
theorem jl_X8_serviceAt_13 {P : Int32 → Mm → Prop} {K43 : Mm → Int32 → Prop} {K51 : Mm → Prop} (C : Cx p l s m args meth c cX8_serviceAt 4 RX8 (some .int) E) (hkc : kc ≤ rm_X8_serviceAt.cells ∧ ks ≤ rm_X8_serviceAt.slots) (k43 : ∀ M x3, K43 M x3 → J p l e rm_X8_serviceAt s m args below meth c (QI below E P args s rm_X8_serviceAt.cells rm_X8_serviceAt.slots) E 4 M kc ks 43 [(3, .int x3)] []) (k51 : ∀ M, K51 M → J p l e rm_X8_serviceAt s m args below meth c (QI below E P args s rm_X8_serviceAt.cells rm_X8_serviceAt.slots) E 4 M kc ks 51 [] []) : ∀ n M x0 x1 x2 x3, l_X8_serviceAt_13 P K43 K51 n M x0 x1 x2 x3 → J p l e rm_X8_serviceAt s m args below meth c (QI below E P args s rm_X8_serviceAt.cells rm_X8_serviceAt.slots) E 4 M kc ks 13 [(0, .ref x0), (1, .int x1), (2, .int x2), (3, .int x3)] [] := by
  intro n
  induction n with
  | zero => intro M x0 x1 x2 x3 h; exact h.elim
  | succ n ih =>
    intro M x0 x1 x2 x3 h
    rw [l_X8_serviceAt_13] at h
    refine j_iload_n (pc := 13) C 3 dX8_serviceAt_13 rfl ?_
    refine j_aload_n (pc := 14) C 0 dX8_serviceAt_14 rfl ?_
    refine gf_X8_13 (pc := 15) C dX8_serviceAt_15 h (fun a2 h => ?_)
    refine j_iconst (pc := 18) (v := (0 : Int32)) C dX8_serviceAt_18 rfl ?_
    refine j_iald (pc := 19) C dX8_serviceAt_19 h (fun h => ?_)
    refine j_icmp_ge (pc := 20) C 51 dX8_serviceAt_20 (by decide) h (fun h => ?_) (fun h => ?_)
    · exact j_weak [] rfl (k51 _ h)
    · refine j_aload_n (pc := 23) C 0 dX8_serviceAt_23 rfl ?_
      refine j_iload_n (pc := 24) C 3 dX8_serviceAt_24 rfl ?_
      refine j_iconst (pc := 25) (v := (1 : Int32)) C dX8_serviceAt_25 rfl ?_
      refine cs_X8_198 (pc := 26) C ⟨Nat.le_of_ble_eq_true rfl, Nat.le_of_ble_eq_true rfl⟩ hkc (Nat.le_of_ble_eq_true rfl) dX8_serviceAt_26 h (fun r3 M3 h => ?_)
      refine j_iload_n (pc := 29) C 1 dX8_serviceAt_29 rfl ?_
      refine j_icmp_ne (pc := 30) C 45 dX8_serviceAt_30 (by decide) h (fun h => ?_) (fun h => ?_)
      · refine j_iinc (pc := 45) (v := (1 : Int32)) C 3 [(3, _), (0, _), (1, _), (2, _)] dX8_serviceAt_45 rfl rfl (by decide) rfl ?_
        refine j_goto (pc := 48) C 13 dX8_serviceAt_48 (by decide) ?_
        exact j_weak [1, 2, 3, 0] rfl (ih _ _ _ _ _ h)
      · refine j_aload_n (pc := 33) C 0 dX8_serviceAt_33 rfl ?_
        refine j_iload_n (pc := 34) C 3 dX8_serviceAt_34 rfl ?_
        refine j_iconst (pc := 35) (v := (0 : Int32)) C dX8_serviceAt_35 rfl ?_
        refine cs_X8_198 (pc := 36) C ⟨Nat.le_of_ble_eq_true rfl, Nat.le_of_ble_eq_true rfl⟩ hkc (Nat.le_of_ble_eq_true rfl) dX8_serviceAt_36 h (fun r4 M4 h => ?_)
        refine j_iload_n (pc := 39) C 2 dX8_serviceAt_39 rfl ?_
        refine j_icmp_ne (pc := 40) C 45 dX8_serviceAt_40 (by decide) h (fun h => ?_) (fun h => ?_)
        · refine j_iinc (pc := 45) (v := (1 : Int32)) C 3 [(3, _), (0, _), (1, _), (2, _)] dX8_serviceAt_45 rfl rfl (by decide) rfl ?_
          refine j_goto (pc := 48) C 13 dX8_serviceAt_48 (by decide) ?_
          exact j_weak [1, 2, 3, 0] rfl (ih _ _ _ _ _ h)
        · exact j_weak [3] rfl (k43 _ _ h)
def w_X8_serviceAt (M : Mm) (x0 : Nat) (x1 : Int32) (x2 : Int32) (P : Int32 → Mm → Prop) : Prop := zk M x0 = 8 ∧ w_X8_noPlace M x0 x1 x2 (fun r1 M1 => (if r1 = 0 then (∃ n13, l_X8_serviceAt_13 P (fun M5 x3_5 => P x3_5 M5) (fun M6 => P (-1 : Int32) M6) n13 M1 x0 x1 x2 (0 : Int32)) else P (0 : Int32) M1))
set_option maxHeartbeats 4000000 in
set_option maxRecDepth 100000 in
theorem c_X8_serviceAt (l : Launch) (E : EV) (M : Mm) (x0 : Nat) (x1 : Int32) (x2 : Int32) (P : Int32 → Mm → Prop) (h : w_X8_serviceAt M x0 x1 x2 P) : CtI l E yX8_serviceAt cX8_serviceAt 4 .int rm_X8_serviceAt 0 0 [.ref x0, .int x1, .int x2] M P := by
  refine ctI_of (by decide +kernel) (Nat.le_of_ble_eq_true rfl) ?_
  intro p e s m args below meth c C
  rw [w_X8_serviceAt] at h
  show J p l e rm_X8_serviceAt s m args below meth c (QI below E P args s 0 0) E 4 M 0 0 0 [(0, .ref x0), (1, .int x1), (2, .int x2)] []
  refine j_aload_n (pc := 0) C 0 dX8_serviceAt_0 rfl ?_
  refine j_iload_n (pc := 1) C 1 dX8_serviceAt_1 rfl ?_
  refine j_iload_n (pc := 2) C 2 dX8_serviceAt_2 rfl ?_
  refine cs_X8_285 (pc := 3) C ⟨Nat.le_of_ble_eq_true rfl, Nat.le_of_ble_eq_true rfl⟩ ⟨Nat.le_of_ble_eq_true rfl, Nat.le_of_ble_eq_true rfl⟩ (Nat.le_of_ble_eq_true rfl) dX8_serviceAt_3 h (fun r1 M1 h => ?_)
  refine j_if_eq (pc := 6) C 11 dX8_serviceAt_6 (by decide) h (fun h => ?_) (fun h => ?_)
  · refine j_iconst (pc := 11) (v := (0 : Int32)) C dX8_serviceAt_11 rfl ?_
    refine j_istore_n (pc := 12) C [(3, _), (0, _), (1, _), (2, _)] dX8_serviceAt_12 (by decide) rfl ?_
    obtain ⟨n13, h⟩ := h
    refine j_weak [1, 2, 3, 0] rfl (jl_X8_serviceAt_13 C ⟨Nat.le_of_ble_eq_true rfl, Nat.le_of_ble_eq_true rfl⟩ (fun M5 x3_5 h => ?_) (fun M6 h => ?_) n13 _ _ _ _ _ h)
    · refine j_iload_n (pc := 43) C 0 dX8_serviceAt_43 rfl ?_
      exact j_iret (pc := 44) C dX8_serviceAt_44 (Nat.le_of_ble_eq_true rfl) (Nat.le_of_ble_eq_true rfl) h
    · refine j_iconst (pc := 51) (v := (-1 : Int32)) C dX8_serviceAt_51 rfl ?_
      exact j_iret (pc := 52) C dX8_serviceAt_52 (Nat.le_of_ble_eq_true rfl) (Nat.le_of_ble_eq_true rfl) h
  · refine j_iconst (pc := 9) (v := (0 : Int32)) C dX8_serviceAt_9 rfl ?_
    exact j_iret (pc := 10) C dX8_serviceAt_10 (Nat.le_of_ble_eq_true rfl) (Nat.le_of_ble_eq_true rfl) h
abbrev rm_X8_fewestDoublings : Room := { frames := 12, cells := 0, slots := 0, locals := 302 }
def w_X8_fewestDoublings (M : Mm) (x0 : Nat) (x1 : Int32) (x2 : Int32) (P : Int32 → Mm → Prop) : Prop := zk M x0 = 8 ∧ (∀ M1, M1 = sI M x0 0 (0 : Int32) → (zk M1 x0 = 8 ∧ ∃ a2, zR M1 x0 1 = some a2 ∧ zk M1 a2 = 10 ∧ vp_in (3 : Int32) (zl M1 a2) ∧ zk M1 x0 = 8 ∧ w_X8_no M1 x0 x1 (zI M1 a2 (3 : Int32).toNatClampNeg) (fun r3 M3 => (if r3 = 0 then zk M3 x0 = 8 ∧ w_X8_slotMany M3 x0 (fun r4 M4 => zk M4 x0 = 8 ∧ w_X8_no M4 x0 x2 r4 (fun r5 M5 => (if r5 = 0 then zk M5 x0 = 8 ∧ w_X8_freeAt M5 x0 x2 (fun r6 M6 => zk M6 x0 = 8 ∧ w_X8_casts M6 x0 x1 r6 (fun r7 M7 => (if r7 = 0 then P (-1 : Int32) M7 else zk M7 x0 = 8 ∧ P (zI M7 x0 21) M7))) else P (0 : Int32) M5))) else P (0 : Int32) M3))))
set_option maxHeartbeats 4000000 in
set_option maxRecDepth 100000 in
theorem c_X8_fewestDoublings (l : Launch) (E : EV) (M : Mm) (x0 : Nat) (x1 : Int32) (x2 : Int32) (P : Int32 → Mm → Prop) (h : w_X8_fewestDoublings M x0 x1 x2 P) : CtI l E yX8_fewestDoublings cX8_fewestDoublings 3 .int rm_X8_fewestDoublings 0 0 [.ref x0, .int x1, .int x2] M P := by
  refine ctI_of (by decide +kernel) (Nat.le_of_ble_eq_true rfl) ?_
  intro p e s m args below meth c C
  rw [w_X8_fewestDoublings] at h
  show J p l e rm_X8_fewestDoublings s m args below meth c (QI below E P args s 0 0) E 3 M 0 0 0 [(0, .ref x0), (1, .int x1), (2, .int x2)] []
  refine j_aload_n (pc := 0) C 0 dX8_fewestDoublings_0 rfl ?_
  refine j_iconst (pc := 1) (v := (0 : Int32)) C dX8_fewestDoublings_1 rfl ?_
  refine pf_X8_56 (pc := 2) C dX8_fewestDoublings_2 h (fun M1 h => ?_)
  refine j_aload_n (pc := 5) C 0 dX8_fewestDoublings_5 rfl ?_
  refine j_iload_n (pc := 6) C 1 dX8_fewestDoublings_6 rfl ?_
  refine j_aload_n (pc := 7) C 0 dX8_fewestDoublings_7 rfl ?_
  refine gf_X8_7 (pc := 8) C dX8_fewestDoublings_8 h (fun a2 h => ?_)
  refine j_iconst (pc := 11) (v := (3 : Int32)) C dX8_fewestDoublings_11 rfl ?_
  refine j_iald (pc := 12) C dX8_fewestDoublings_12 h (fun h => ?_)
  refine cs_X8_249 (pc := 13) C ⟨Nat.le_of_ble_eq_true rfl, Nat.le_of_ble_eq_true rfl⟩ ⟨Nat.le_of_ble_eq_true rfl, Nat.le_of_ble_eq_true rfl⟩ (Nat.le_of_ble_eq_true rfl) dX8_fewestDoublings_13 h (fun r3 M3 h => ?_)
  refine j_if_ne (pc := 16) C 31 dX8_fewestDoublings_16 (by decide) h (fun h => ?_) (fun h => ?_)
  · refine j_iconst (pc := 31) (v := (0 : Int32)) C dX8_fewestDoublings_31 rfl ?_
    exact j_iret (pc := 32) C dX8_fewestDoublings_32 (Nat.le_of_ble_eq_true rfl) (Nat.le_of_ble_eq_true rfl) h
  · refine j_aload_n (pc := 19) C 0 dX8_fewestDoublings_19 rfl ?_
    refine j_iload_n (pc := 20) C 2 dX8_fewestDoublings_20 rfl ?_
    refine j_aload_n (pc := 21) C 0 dX8_fewestDoublings_21 rfl ?_
    refine cs_X8_273 (pc := 22) C ⟨Nat.le_of_ble_eq_true rfl, Nat.le_of_ble_eq_true rfl⟩ ⟨Nat.le_of_ble_eq_true rfl, Nat.le_of_ble_eq_true rfl⟩ (Nat.le_of_ble_eq_true rfl) dX8_fewestDoublings_22 h (fun r4 M4 h => ?_)
    refine cs_X8_249 (pc := 25) C ⟨Nat.le_of_ble_eq_true rfl, Nat.le_of_ble_eq_true rfl⟩ ⟨Nat.le_of_ble_eq_true rfl, Nat.le_of_ble_eq_true rfl⟩ (Nat.le_of_ble_eq_true rfl) dX8_fewestDoublings_25 h (fun r5 M5 h => ?_)
    refine j_if_eq (pc := 28) C 33 dX8_fewestDoublings_28 (by decide) h (fun h => ?_) (fun h => ?_)
    · refine j_aload_n (pc := 33) C 0 dX8_fewestDoublings_33 rfl ?_
      refine j_iload_n (pc := 34) C 1 dX8_fewestDoublings_34 rfl ?_
      refine j_aload_n (pc := 35) C 0 dX8_fewestDoublings_35 rfl ?_
      refine j_iload_n (pc := 36) C 2 dX8_fewestDoublings_36 rfl ?_
      refine cs_X8_224 (pc := 37) C ⟨Nat.le_of_ble_eq_true rfl, Nat.le_of_ble_eq_true rfl⟩ ⟨Nat.le_of_ble_eq_true rfl, Nat.le_of_ble_eq_true rfl⟩ (Nat.le_of_ble_eq_true rfl) dX8_fewestDoublings_37 h (fun r6 M6 h => ?_)
      refine cs_X8_227 (pc := 40) C ⟨Nat.le_of_ble_eq_true rfl, Nat.le_of_ble_eq_true rfl⟩ ⟨Nat.le_of_ble_eq_true rfl, Nat.le_of_ble_eq_true rfl⟩ (Nat.le_of_ble_eq_true rfl) dX8_fewestDoublings_40 h (fun r7 M7 h => ?_)
      refine j_if_eq (pc := 43) C 53 dX8_fewestDoublings_43 (by decide) h (fun h => ?_) (fun h => ?_)
      · refine j_iconst (pc := 53) (v := (-1 : Int32)) C dX8_fewestDoublings_53 rfl ?_
        exact j_iret (pc := 54) C dX8_fewestDoublings_54 (Nat.le_of_ble_eq_true rfl) (Nat.le_of_ble_eq_true rfl) h
      · refine j_aload_n (pc := 46) C 0 dX8_fewestDoublings_46 rfl ?_
        refine gf_X8_214 (pc := 47) C dX8_fewestDoublings_47 h (fun h => ?_)
        refine j_goto (pc := 50) C 54 dX8_fewestDoublings_50 (by decide) ?_
        exact j_iret (pc := 54) C dX8_fewestDoublings_54 (Nat.le_of_ble_eq_true rfl) (Nat.le_of_ble_eq_true rfl) h
    · refine j_iconst (pc := 31) (v := (0 : Int32)) C dX8_fewestDoublings_31 rfl ?_
      exact j_iret (pc := 32) C dX8_fewestDoublings_32 (Nat.le_of_ble_eq_true rfl) (Nat.le_of_ble_eq_true rfl) h
abbrev rm_X8_ones : Room := { frames := 0, cells := 0, slots := 0, locals := 0 }
def l_X8_ones_4 (P : Int32 → Mm → Prop) (K20 : Mm → Int32 → Prop) : Nat → Mm → Int32 → Int32 → Prop
  | 0, _, _, _ => False
  | n + 1, M, x1, x2 => (if x2 = 0 then K20 M x1 else l_X8_ones_4 P K20 n M (x1 + (1 : Int32)) (x2 &&& (x2 - (1 : Int32))))
set_option maxHeartbeats 4000000 in
set_option maxRecDepth 100000 in
theorem jl_X8_ones_4 {P : Int32 → Mm → Prop} {K20 : Mm → Int32 → Prop} (C : Cx p l s m args meth c cX8_ones 3 RX8 (some .int) E) (hkc : kc ≤ rm_X8_ones.cells ∧ ks ≤ rm_X8_ones.slots) (k20 : ∀ M x1, K20 M x1 → J p l e rm_X8_ones s m args below meth c (QI below E P args s rm_X8_ones.cells rm_X8_ones.slots) E 3 M kc ks 20 [(1, .int x1)] []) : ∀ n M x1 x2, l_X8_ones_4 P K20 n M x1 x2 → J p l e rm_X8_ones s m args below meth c (QI below E P args s rm_X8_ones.cells rm_X8_ones.slots) E 3 M kc ks 4 [(1, .int x1), (2, .int x2)] [] := by
  intro n
  induction n with
  | zero => intro M x1 x2 h; exact h.elim
  | succ n ih =>
    intro M x1 x2 h
    rw [l_X8_ones_4] at h
    refine j_iload_n (pc := 4) C 1 dX8_ones_4 rfl ?_
    refine j_if_eq (pc := 5) C 20 dX8_ones_5 (by decide) h (fun h => ?_) (fun h => ?_)
    · exact j_weak [0] rfl (k20 _ _ h)
    · refine j_iinc (pc := 8) (v := (1 : Int32)) C 0 [(1, _), (2, _)] dX8_ones_8 rfl rfl (by decide) rfl ?_
      refine j_iload_n (pc := 11) C 1 dX8_ones_11 rfl ?_
      refine j_iload_n (pc := 12) C 1 dX8_ones_12 rfl ?_
      refine j_iconst (pc := 13) (v := (1 : Int32)) C dX8_ones_13 rfl ?_
      refine j_isub (pc := 14) C dX8_ones_14 ?_
      refine j_iand (pc := 15) C dX8_ones_15 ?_
      refine j_istore_n (pc := 16) C [(2, _), (1, _)] dX8_ones_16 (by decide) rfl ?_
      refine j_goto (pc := 17) C 4 dX8_ones_17 (by decide) ?_
      exact j_weak [1, 0] rfl (ih _ _ _ h)
def w_X8_ones (M : Mm) (x0 : Int32) (P : Int32 → Mm → Prop) : Prop := (∃ n4, l_X8_ones_4 P (fun M1 x1_1 => P x1_1 M1) n4 M (0 : Int32) x0)
set_option maxHeartbeats 4000000 in
set_option maxRecDepth 100000 in
theorem c_X8_ones (l : Launch) (E : EV) (M : Mm) (x0 : Int32) (P : Int32 → Mm → Prop) (h : w_X8_ones M x0 P) : CtI l E yX8_ones cX8_ones 3 .int rm_X8_ones 0 0 [.int x0] M P := by
  refine ctI_of (by decide +kernel) (Nat.le_of_ble_eq_true rfl) ?_
  intro p e s m args below meth c C
  rw [w_X8_ones] at h
  show J p l e rm_X8_ones s m args below meth c (QI below E P args s 0 0) E 3 M 0 0 0 [(0, .int x0)] []
  refine j_iconst (pc := 0) (v := (0 : Int32)) C dX8_ones_0 rfl ?_
  refine j_istore_n (pc := 1) C [(1, _), (0, _)] dX8_ones_1 (by decide) rfl ?_
  refine j_iload_n (pc := 2) C 1 dX8_ones_2 rfl ?_
  refine j_istore_n (pc := 3) C [(2, _), (1, _), (0, _)] dX8_ones_3 (by decide) rfl ?_
  obtain ⟨n4, h⟩ := h
  refine j_weak [1, 0] rfl (jl_X8_ones_4 C ⟨Nat.le_of_ble_eq_true rfl, Nat.le_of_ble_eq_true rfl⟩ (fun M1 x1_1 h => ?_) n4 _ _ _ h)
  · refine j_iload_n (pc := 20) C 0 dX8_ones_20 rfl ?_
    exact j_iret (pc := 21) C dX8_ones_21 (Nat.le_of_ble_eq_true rfl) (Nat.le_of_ble_eq_true rfl) h
theorem cs_X8_288 (C : Cx p l s m args meth c cc nL RX8 ret E) {y0 : Int32} {P : Int32 → Mm → Prop} (hR : rm_X8_ones.frames + 1 ≤ R.frames ∧ 8 + (3 + 11) + rm_X8_ones.locals ≤ R.locals) (hf : kc ≤ R.cells ∧ ks ≤ R.slots) (hst : (st.map fun v => v.category).sum ≤ 8) (d : decode cc pc = .ok (.invokestatic 288, 3)) (h : w_X8_ones M y0 P) (kk : ∀ r M', P r M' → J p l e R s m args below meth c Q E nL M' kc ks (pc + 3) lo (.int r :: st)) : J p l e R s m args below meth c Q E nL M kc ks pc lo (.int y0 :: st) :=
  j_cS_I (n := 1) (As := [.int y0]) C wd_1473 (c_X8_ones l E M y0 P h) ⟨wd_1474, wd_1472, wd_106, by decide +kernel, by decide +kernel, by decide +kernel⟩ rfl rfl hR hf rfl hst d kk
abbrev rm_X8_noSet : Room := { frames := 1, cells := 0, slots := 0, locals := 22 }
def w_X8_noSet (M : Mm) (x0 : Nat) (x1 : Int32) (x2 : Int32) (P : Int32 → Mm → Prop) : Prop := (zk M x0 = 8 ∧ ∃ a1, zR M x0 1 = some a1 ∧ zk M a1 = 10 ∧ vp_in (3 : Int32) (zl M a1) ∧ w_X8_within M x1 (1 : Int32) (((1 : Int32) <<< ((zI M a1 (3 : Int32).toNatClampNeg) &&& 31)) - (1 : Int32)) (fun r2 M2 => (if r2 = 0 then zk M2 x0 = 8 ∧ w_X8_throwsIf M2 x0 (1 : Int32) (2 : Int32) (fun r3 M3 => (r3 = 0 ∨ r3 = 1) ∧ P r3 M3) else w_X8_ones M2 x1 (fun r4 M4 => (if x2 = 0 then (if r4 ≤ (1 : Int32) then zk M4 x0 = 8 ∧ w_X8_throwsIf M4 x0 (0 : Int32) (2 : Int32) (fun r5 M5 => (r5 = 0 ∨ r5 = 1) ∧ P r5 M5) else zk M4 x0 = 8 ∧ w_X8_throwsIf M4 x0 (1 : Int32) (2 : Int32) (fun r6 M6 => (r6 = 0 ∨ r6 = 1) ∧ P r6 M6)) else (if r4 ≤ (3 : Int32) then zk M4 x0 = 8 ∧ w_X8_throwsIf M4 x0 (0 : Int32) (2 : Int32) (fun r7 M7 => (r7 = 0 ∨ r7 = 1) ∧ P r7 M7) else zk M4 x0 = 8 ∧ w_X8_throwsIf M4 x0 (1 : Int32) (2 : Int32) (fun r8 M8 => (r8 = 0 ∨ r8 = 1) ∧ P r8 M8)))))))
set_option maxHeartbeats 4000000 in
set_option maxRecDepth 100000 in
theorem c_X8_noSet (l : Launch) (E : EV) (M : Mm) (x0 : Nat) (x1 : Int32) (x2 : Int32) (P : Int32 → Mm → Prop) (h : w_X8_noSet M x0 x1 x2 P) : CtI l E yX8_noSet cX8_noSet 3 .boolean rm_X8_noSet 0 0 [.ref x0, .int x1, .int x2] M P := by
  refine ctI_of (by decide +kernel) (Nat.le_of_ble_eq_true rfl) ?_
  intro p e s m args below meth c C
  rw [w_X8_noSet] at h
  show J p l e rm_X8_noSet s m args below meth c (QI below E P args s 0 0) E 3 M 0 0 0 [(0, .ref x0), (1, .int x1), (2, .int x2)] []
  refine j_aload_n (pc := 0) C 0 dX8_noSet_0 rfl ?_
  refine j_iload_n (pc := 1) C 1 dX8_noSet_1 rfl ?_
  refine j_iconst (pc := 2) (v := (1 : Int32)) C dX8_noSet_2 rfl ?_
  refine j_iconst (pc := 3) (v := (1 : Int32)) C dX8_noSet_3 rfl ?_
  refine j_aload_n (pc := 4) C 0 dX8_noSet_4 rfl ?_
  refine gf_X8_7 (pc := 5) C dX8_noSet_5 h (fun a1 h => ?_)
  refine j_iconst (pc := 8) (v := (3 : Int32)) C dX8_noSet_8 rfl ?_
  refine j_iald (pc := 9) C dX8_noSet_9 h (fun h => ?_)
  refine j_ishl (pc := 10) C dX8_noSet_10 ?_
  refine j_iconst (pc := 11) (v := (1 : Int32)) C dX8_noSet_11 rfl ?_
  refine j_isub (pc := 12) C dX8_noSet_12 ?_
  refine cs_X8_80 (pc := 13) C ⟨Nat.le_of_ble_eq_true rfl, Nat.le_of_ble_eq_true rfl⟩ ⟨Nat.le_of_ble_eq_true rfl, Nat.le_of_ble_eq_true rfl⟩ (Nat.le_of_ble_eq_true rfl) dX8_noSet_13 h (fun r2 M2 h => ?_)
  refine j_if_eq (pc := 16) C 35 dX8_noSet_16 (by decide) h (fun h => ?_) (fun h => ?_)
  · refine j_iconst (pc := 35) (v := (1 : Int32)) C dX8_noSet_35 rfl ?_
    refine j_goto (pc := 36) C 40 dX8_noSet_36 (by decide) ?_
    refine j_iconst (pc := 40) (v := (2 : Int32)) C dX8_noSet_40 rfl ?_
    refine cs_X8_176 (pc := 41) C ⟨Nat.le_of_ble_eq_true rfl, Nat.le_of_ble_eq_true rfl⟩ ⟨Nat.le_of_ble_eq_true rfl, Nat.le_of_ble_eq_true rfl⟩ (Nat.le_of_ble_eq_true rfl) dX8_noSet_41 h (fun r3 M3 h => ?_)
    exact j_zret (pc := 44) C dX8_noSet_44 (Nat.le_of_ble_eq_true rfl) (Nat.le_of_ble_eq_true rfl) h
  · refine j_iload_n (pc := 19) C 1 dX8_noSet_19 rfl ?_
    refine cs_X8_288 (pc := 20) C ⟨Nat.le_of_ble_eq_true rfl, Nat.le_of_ble_eq_true rfl⟩ ⟨Nat.le_of_ble_eq_true rfl, Nat.le_of_ble_eq_true rfl⟩ (Nat.le_of_ble_eq_true rfl) dX8_noSet_20 h (fun r4 M4 h => ?_)
    refine j_iload_n (pc := 23) C 2 dX8_noSet_23 rfl ?_
    refine j_if_eq (pc := 24) C 31 dX8_noSet_24 (by decide) h (fun h => ?_) (fun h => ?_)
    · refine j_iconst (pc := 31) (v := (1 : Int32)) C dX8_noSet_31 rfl ?_
      refine j_icmp_le (pc := 32) C 39 dX8_noSet_32 (by decide) h (fun h => ?_) (fun h => ?_)
      · refine j_iconst (pc := 39) (v := (0 : Int32)) C dX8_noSet_39 rfl ?_
        refine j_iconst (pc := 40) (v := (2 : Int32)) C dX8_noSet_40 rfl ?_
        refine cs_X8_176 (pc := 41) C ⟨Nat.le_of_ble_eq_true rfl, Nat.le_of_ble_eq_true rfl⟩ ⟨Nat.le_of_ble_eq_true rfl, Nat.le_of_ble_eq_true rfl⟩ (Nat.le_of_ble_eq_true rfl) dX8_noSet_41 h (fun r5 M5 h => ?_)
        exact j_zret (pc := 44) C dX8_noSet_44 (Nat.le_of_ble_eq_true rfl) (Nat.le_of_ble_eq_true rfl) h
      · refine j_iconst (pc := 35) (v := (1 : Int32)) C dX8_noSet_35 rfl ?_
        refine j_goto (pc := 36) C 40 dX8_noSet_36 (by decide) ?_
        refine j_iconst (pc := 40) (v := (2 : Int32)) C dX8_noSet_40 rfl ?_
        refine cs_X8_176 (pc := 41) C ⟨Nat.le_of_ble_eq_true rfl, Nat.le_of_ble_eq_true rfl⟩ ⟨Nat.le_of_ble_eq_true rfl, Nat.le_of_ble_eq_true rfl⟩ (Nat.le_of_ble_eq_true rfl) dX8_noSet_41 h (fun r6 M6 h => ?_)
        exact j_zret (pc := 44) C dX8_noSet_44 (Nat.le_of_ble_eq_true rfl) (Nat.le_of_ble_eq_true rfl) h
    · refine j_iconst (pc := 27) (v := (3 : Int32)) C dX8_noSet_27 rfl ?_
      refine j_goto (pc := 28) C 32 dX8_noSet_28 (by decide) ?_
      refine j_icmp_le (pc := 32) C 39 dX8_noSet_32 (by decide) h (fun h => ?_) (fun h => ?_)
      · refine j_iconst (pc := 39) (v := (0 : Int32)) C dX8_noSet_39 rfl ?_
        refine j_iconst (pc := 40) (v := (2 : Int32)) C dX8_noSet_40 rfl ?_
        refine cs_X8_176 (pc := 41) C ⟨Nat.le_of_ble_eq_true rfl, Nat.le_of_ble_eq_true rfl⟩ ⟨Nat.le_of_ble_eq_true rfl, Nat.le_of_ble_eq_true rfl⟩ (Nat.le_of_ble_eq_true rfl) dX8_noSet_41 h (fun r7 M7 h => ?_)
        exact j_zret (pc := 44) C dX8_noSet_44 (Nat.le_of_ble_eq_true rfl) (Nat.le_of_ble_eq_true rfl) h
      · refine j_iconst (pc := 35) (v := (1 : Int32)) C dX8_noSet_35 rfl ?_
        refine j_goto (pc := 36) C 40 dX8_noSet_36 (by decide) ?_
        refine j_iconst (pc := 40) (v := (2 : Int32)) C dX8_noSet_40 rfl ?_
        refine cs_X8_176 (pc := 41) C ⟨Nat.le_of_ble_eq_true rfl, Nat.le_of_ble_eq_true rfl⟩ ⟨Nat.le_of_ble_eq_true rfl, Nat.le_of_ble_eq_true rfl⟩ (Nat.le_of_ble_eq_true rfl) dX8_noSet_41 h (fun r8 M8 h => ?_)
        exact j_zret (pc := 44) C dX8_noSet_44 (Nat.le_of_ble_eq_true rfl) (Nat.le_of_ble_eq_true rfl) h
theorem cs_X8_291 (C : Cx p l s m args meth c cc nL RX8 ret E) {b : Nat} {y0 : Int32} {y1 : Int32} {P : Int32 → Mm → Prop} (hR : rm_X8_noSet.frames + 1 ≤ R.frames ∧ 8 + (3 + 11) + rm_X8_noSet.locals ≤ R.locals) (hf : kc ≤ R.cells ∧ ks ≤ R.slots) (hst : (st.map fun v => v.category).sum ≤ 8) (d : decode cc pc = .ok (.invokevirtual 291, 3)) (h : zk M b = 8 ∧ w_X8_noSet M b y0 y1 P) (kk : ∀ r M', P r M' → J p l e R s m args below meth c Q E nL M' kc ks (pc + 3) lo (.int r :: st)) : J p l e R s m args below meth c Q E nL M kc ks pc lo (.int y1 :: .int y0 :: .ref b :: st) :=
  j_cV_I (n := 2) (As := [.int y0, .int y1]) C co_X8 rfl wd_1470 wd_83 h.1 (c_X8_noSet l E M b y0 y1 P h.2) ⟨wd_1471, wd_1468, wd_106, by decide +kernel, by decide +kernel, by decide +kernel⟩ rfl rfl hR hf rfl hst d kk
theorem cs_X8_294 (C : Cx p l s m args meth c cc nL RX8 ret E) {b : Nat} {y0 : Int32} {y1 : Int32} {y2 : Int32} {y3 : Int32} {P : Int32 → Mm → Prop} (hR : rm_X8_why.frames + 1 ≤ R.frames ∧ 8 + (5 + 11) + rm_X8_why.locals ≤ R.locals) (hf : kc ≤ R.cells ∧ ks ≤ R.slots) (hst : (st.map fun v => v.category).sum ≤ 8) (d : decode cc pc = .ok (.invokevirtual 294, 3)) (h : zk M b = 8 ∧ w_X8_why M b y0 y1 y2 y3 P) (kk : ∀ r M', P r M' → J p l e R s m args below meth c Q E nL M' kc ks (pc + 3) lo (.int r :: st)) : J p l e R s m args below meth c Q E nL M kc ks pc lo (.int y3 :: .int y2 :: .int y1 :: .int y0 :: .ref b :: st) :=
  j_cV_I (n := 4) (As := [.int y0, .int y1, .int y2, .int y3]) C co_X8 rfl wd_1477 wd_84 h.1 (c_X8_why l E M b y0 y1 y2 y3 P h.2) ⟨wd_1478, wd_1475, wd_106, by decide +kernel, by decide +kernel, by decide +kernel⟩ rfl rfl hR hf rfl hst d kk
abbrev rm_X8_whyNot : Room := { frames := 14, cells := 0, slots := 0, locals := 351 }
def w_X8_whyNot (M : Mm) (x0 : Nat) (x1 : Int32) (x2 : Int32) (x3 : Int32) (x4 : Int32) (P : Int32 → Mm → Prop) : Prop := zk M x0 = 8 ∧ w_X8_noPlace M x0 x1 x2 (fun r1 M1 => (if r1 = 0 then zk M1 x0 = 8 ∧ w_X8_noSet M1 x0 x3 x4 (fun r2 M2 => (if r2 = 0 then zk M2 x0 = 8 ∧ w_X8_why M2 x0 x1 x2 x3 x4 (fun r3 M3 => P r3 M3) else P (0 : Int32) M2)) else P (0 : Int32) M1))
set_option maxHeartbeats 4000000 in
set_option maxRecDepth 100000 in
theorem c_X8_whyNot (l : Launch) (E : EV) (M : Mm) (x0 : Nat) (x1 : Int32) (x2 : Int32) (x3 : Int32) (x4 : Int32) (P : Int32 → Mm → Prop) (h : w_X8_whyNot M x0 x1 x2 x3 x4 P) : CtI l E yX8_whyNot cX8_whyNot 5 .int rm_X8_whyNot 0 0 [.ref x0, .int x1, .int x2, .int x3, .int x4] M P := by
  refine ctI_of (by decide +kernel) (Nat.le_of_ble_eq_true rfl) ?_
  intro p e s m args below meth c C
  rw [w_X8_whyNot] at h
  show J p l e rm_X8_whyNot s m args below meth c (QI below E P args s 0 0) E 5 M 0 0 0 [(0, .ref x0), (1, .int x1), (2, .int x2), (3, .int x3), (4, .int x4)] []
  refine j_aload_n (pc := 0) C 0 dX8_whyNot_0 rfl ?_
  refine j_iload_n (pc := 1) C 1 dX8_whyNot_1 rfl ?_
  refine j_iload_n (pc := 2) C 2 dX8_whyNot_2 rfl ?_
  refine cs_X8_285 (pc := 3) C ⟨Nat.le_of_ble_eq_true rfl, Nat.le_of_ble_eq_true rfl⟩ ⟨Nat.le_of_ble_eq_true rfl, Nat.le_of_ble_eq_true rfl⟩ (Nat.le_of_ble_eq_true rfl) dX8_whyNot_3 h (fun r1 M1 h => ?_)
  refine j_if_ne (pc := 6) C 19 dX8_whyNot_6 (by decide) h (fun h => ?_) (fun h => ?_)
  · refine j_iconst (pc := 19) (v := (0 : Int32)) C dX8_whyNot_19 rfl ?_
    refine j_goto (pc := 20) C 32 dX8_whyNot_20 (by decide) ?_
    exact j_iret (pc := 32) C dX8_whyNot_32 (Nat.le_of_ble_eq_true rfl) (Nat.le_of_ble_eq_true rfl) h
  · refine j_aload_n (pc := 9) C 0 dX8_whyNot_9 rfl ?_
    refine j_iload_n (pc := 10) C 3 dX8_whyNot_10 rfl ?_
    refine j_iload (pc := 11) C 4 dX8_whyNot_11 rfl ?_
    refine cs_X8_291 (pc := 13) C ⟨Nat.le_of_ble_eq_true rfl, Nat.le_of_ble_eq_true rfl⟩ ⟨Nat.le_of_ble_eq_true rfl, Nat.le_of_ble_eq_true rfl⟩ (Nat.le_of_ble_eq_true rfl) dX8_whyNot_13 h (fun r2 M2 h => ?_)
    refine j_if_eq (pc := 16) C 23 dX8_whyNot_16 (by decide) h (fun h => ?_) (fun h => ?_)
    · refine j_aload_n (pc := 23) C 0 dX8_whyNot_23 rfl ?_
      refine j_iload_n (pc := 24) C 1 dX8_whyNot_24 rfl ?_
      refine j_iload_n (pc := 25) C 2 dX8_whyNot_25 rfl ?_
      refine j_iload_n (pc := 26) C 3 dX8_whyNot_26 rfl ?_
      refine j_iload (pc := 27) C 4 dX8_whyNot_27 rfl ?_
      refine cs_X8_294 (pc := 29) C ⟨Nat.le_of_ble_eq_true rfl, Nat.le_of_ble_eq_true rfl⟩ ⟨Nat.le_of_ble_eq_true rfl, Nat.le_of_ble_eq_true rfl⟩ (Nat.le_of_ble_eq_true rfl) dX8_whyNot_29 h (fun r3 M3 h => ?_)
      exact j_iret (pc := 32) C dX8_whyNot_32 (Nat.le_of_ble_eq_true rfl) (Nat.le_of_ble_eq_true rfl) h
    · refine j_iconst (pc := 19) (v := (0 : Int32)) C dX8_whyNot_19 rfl ?_
      refine j_goto (pc := 20) C 32 dX8_whyNot_20 (by decide) ?_
      exact j_iret (pc := 32) C dX8_whyNot_32 (Nat.le_of_ble_eq_true rfl) (Nat.le_of_ble_eq_true rfl) h
abbrev rm_X8_earliest : Room := { frames := 14, cells := 0, slots := 0, locals := 351 }
def l_X8_earliest_24 (P : Int32 → Mm → Prop) (K46 : Mm → Int32 → Prop) (K55 : Mm → Prop) : Nat → Mm → Nat → Int32 → Int32 → Int32 → Int32 → Prop
  | 0, _, _, _, _, _, _ => False
  | n + 1, M, x0, x1, x3, x4, x5 => zk M x0 = 8 ∧ w_X8_slotMany M x0 (fun r3 M3 => (if r3 ≤ x5 then K55 M3 else zk M3 x0 = 8 ∧ w_X8_why M3 x0 x1 x5 x3 x4 (fun r4 M4 => (if r4 = 0 then K46 M4 x5 else l_X8_earliest_24 P K46 K55 n M4 x0 x1 x3 x4 (x5 + (1 : Int32))))))
set_option maxHeartbeats 4000000 in
set_option maxRecDepth 100000 in
theorem jl_X8_earliest_24 {P : Int32 → Mm → Prop} {K46 : Mm → Int32 → Prop} {K55 : Mm → Prop} (C : Cx p l s m args meth c cX8_earliest 6 RX8 (some .int) E) (hkc : kc ≤ rm_X8_earliest.cells ∧ ks ≤ rm_X8_earliest.slots) (k46 : ∀ M x5, K46 M x5 → J p l e rm_X8_earliest s m args below meth c (QI below E P args s rm_X8_earliest.cells rm_X8_earliest.slots) E 6 M kc ks 46 [(5, .int x5)] []) (k55 : ∀ M, K55 M → J p l e rm_X8_earliest s m args below meth c (QI below E P args s rm_X8_earliest.cells rm_X8_earliest.slots) E 6 M kc ks 55 [] []) : ∀ n M x0 x1 x3 x4 x5, l_X8_earliest_24 P K46 K55 n M x0 x1 x3 x4 x5 → J p l e rm_X8_earliest s m args below meth c (QI below E P args s rm_X8_earliest.cells rm_X8_earliest.slots) E 6 M kc ks 24 [(0, .ref x0), (1, .int x1), (3, .int x3), (4, .int x4), (5, .int x5)] [] := by
  intro n
  induction n with
  | zero => intro M x0 x1 x3 x4 x5 h; exact h.elim
  | succ n ih =>
    intro M x0 x1 x3 x4 x5 h
    rw [l_X8_earliest_24] at h
    refine j_iload (pc := 24) C 4 dX8_earliest_24 rfl ?_
    refine j_aload_n (pc := 26) C 0 dX8_earliest_26 rfl ?_
    refine cs_X8_273 (pc := 27) C ⟨Nat.le_of_ble_eq_true rfl, Nat.le_of_ble_eq_true rfl⟩ hkc (Nat.le_of_ble_eq_true rfl) dX8_earliest_27 h (fun r3 M3 h => ?_)
    refine j_icmp_ge (pc := 30) C 55 dX8_earliest_30 (by decide) h (fun h => ?_) (fun h => ?_)
    · exact j_weak [] rfl (k55 _ h)
    · refine j_aload_n (pc := 33) C 0 dX8_earliest_33 rfl ?_
      refine j_iload_n (pc := 34) C 1 dX8_earliest_34 rfl ?_
      refine j_iload (pc := 35) C 4 dX8_earliest_35 rfl ?_
      refine j_iload_n (pc := 37) C 2 dX8_earliest_37 rfl ?_
      refine j_iload (pc := 38) C 3 dX8_earliest_38 rfl ?_
      refine cs_X8_294 (pc := 40) C ⟨Nat.le_of_ble_eq_true rfl, Nat.le_of_ble_eq_true rfl⟩ hkc (Nat.le_of_ble_eq_true rfl) dX8_earliest_40 h (fun r4 M4 h => ?_)
      refine j_if_ne (pc := 43) C 49 dX8_earliest_43 (by decide) h (fun h => ?_) (fun h => ?_)
      · refine j_iinc (pc := 49) (v := (1 : Int32)) C 4 [(5, _), (0, _), (1, _), (3, _), (4, _)] dX8_earliest_49 rfl rfl (by decide) rfl ?_
        refine j_goto (pc := 52) C 24 dX8_earliest_52 (by decide) ?_
        exact j_weak [1, 2, 3, 4, 0] rfl (ih _ _ _ _ _ _ h)
      · exact j_weak [4] rfl (k46 _ _ h)
def w_X8_earliest (M : Mm) (x0 : Nat) (x1 : Int32) (x2 : Int32) (x3 : Int32) (x4 : Int32) (P : Int32 → Mm → Prop) : Prop := zk M x0 = 8 ∧ w_X8_noPlace M x0 x1 x2 (fun r1 M1 => (if r1 = 0 then zk M1 x0 = 8 ∧ w_X8_noSet M1 x0 x3 x4 (fun r2 M2 => (if r2 = 0 then (∃ n24, l_X8_earliest_24 P (fun M5 x5_5 => P x5_5 M5) (fun M6 => P (-1 : Int32) M6) n24 M2 x0 x1 x3 x4 x2) else P (0 : Int32) M2)) else P (0 : Int32) M1))
set_option maxHeartbeats 4000000 in
set_option maxRecDepth 100000 in
theorem c_X8_earliest (l : Launch) (E : EV) (M : Mm) (x0 : Nat) (x1 : Int32) (x2 : Int32) (x3 : Int32) (x4 : Int32) (P : Int32 → Mm → Prop) (h : w_X8_earliest M x0 x1 x2 x3 x4 P) : CtI l E yX8_earliest cX8_earliest 6 .int rm_X8_earliest 0 0 [.ref x0, .int x1, .int x2, .int x3, .int x4] M P := by
  refine ctI_of (by decide +kernel) (Nat.le_of_ble_eq_true rfl) ?_
  intro p e s m args below meth c C
  rw [w_X8_earliest] at h
  show J p l e rm_X8_earliest s m args below meth c (QI below E P args s 0 0) E 6 M 0 0 0 [(0, .ref x0), (1, .int x1), (2, .int x2), (3, .int x3), (4, .int x4)] []
  refine j_aload_n (pc := 0) C 0 dX8_earliest_0 rfl ?_
  refine j_iload_n (pc := 1) C 1 dX8_earliest_1 rfl ?_
  refine j_iload_n (pc := 2) C 2 dX8_earliest_2 rfl ?_
  refine cs_X8_285 (pc := 3) C ⟨Nat.le_of_ble_eq_true rfl, Nat.le_of_ble_eq_true rfl⟩ ⟨Nat.le_of_ble_eq_true rfl, Nat.le_of_ble_eq_true rfl⟩ (Nat.le_of_ble_eq_true rfl) dX8_earliest_3 h (fun r1 M1 h => ?_)
  refine j_if_ne (pc := 6) C 19 dX8_earliest_6 (by decide) h (fun h => ?_) (fun h => ?_)
  · refine j_iconst (pc := 19) (v := (0 : Int32)) C dX8_earliest_19 rfl ?_
    exact j_iret (pc := 20) C dX8_earliest_20 (Nat.le_of_ble_eq_true rfl) (Nat.le_of_ble_eq_true rfl) h
  · refine j_aload_n (pc := 9) C 0 dX8_earliest_9 rfl ?_
    refine j_iload_n (pc := 10) C 3 dX8_earliest_10 rfl ?_
    refine j_iload (pc := 11) C 4 dX8_earliest_11 rfl ?_
    refine cs_X8_291 (pc := 13) C ⟨Nat.le_of_ble_eq_true rfl, Nat.le_of_ble_eq_true rfl⟩ ⟨Nat.le_of_ble_eq_true rfl, Nat.le_of_ble_eq_true rfl⟩ (Nat.le_of_ble_eq_true rfl) dX8_earliest_13 h (fun r2 M2 h => ?_)
    refine j_if_eq (pc := 16) C 21 dX8_earliest_16 (by decide) h (fun h => ?_) (fun h => ?_)
    · refine j_iload_n (pc := 21) C 2 dX8_earliest_21 rfl ?_
      refine j_istore (pc := 22) C [(5, _), (0, _), (1, _), (2, _), (3, _), (4, _)] dX8_earliest_22 (by decide) rfl ?_
      obtain ⟨n24, h⟩ := h
      refine j_weak [1, 2, 4, 5, 0] rfl (jl_X8_earliest_24 C ⟨Nat.le_of_ble_eq_true rfl, Nat.le_of_ble_eq_true rfl⟩ (fun M5 x5_5 h => ?_) (fun M6 h => ?_) n24 _ _ _ _ _ _ h)
      · refine j_iload (pc := 46) C 0 dX8_earliest_46 rfl ?_
        exact j_iret (pc := 48) C dX8_earliest_48 (Nat.le_of_ble_eq_true rfl) (Nat.le_of_ble_eq_true rfl) h
      · refine j_iconst (pc := 55) (v := (-1 : Int32)) C dX8_earliest_55 rfl ?_
        exact j_iret (pc := 56) C dX8_earliest_56 (Nat.le_of_ble_eq_true rfl) (Nat.le_of_ble_eq_true rfl) h
    · refine j_iconst (pc := 19) (v := (0 : Int32)) C dX8_earliest_19 rfl ?_
      exact j_iret (pc := 20) C dX8_earliest_20 (Nat.le_of_ble_eq_true rfl) (Nat.le_of_ble_eq_true rfl) h
abbrev rm_X8_puts : Room := { frames := 0, cells := 0, slots := 0, locals := 0 }
def l_X8_puts_2 (P : Mm → Prop) (K21 : Mm → Prop) : Nat → Mm → Nat → Nat → Int32 → Prop
  | 0, _, _, _, _ => False
  | n + 1, M, x1, x2, x3 => (if (689 : Int32) ≤ x3 then K21 M else zk M x1 = 10 ∧ vp_in x3 (zl M x1) ∧ zk M x2 = 10 ∧ vp_in x3 (zl M x2) ∧ (∀ M1, M1 = sI M x2 x3.toNatClampNeg (zI M x1 x3.toNatClampNeg) → l_X8_puts_2 P K21 n M1 x1 x2 (x3 + (1 : Int32))))
set_option maxHeartbeats 4000000 in
set_option maxRecDepth 100000 in
theorem jl_X8_puts_2 {P : Mm → Prop} {K21 : Mm → Prop} (C : Cx p l s m args meth c cX8_puts 4 RX8 none E) (hkc : kc ≤ rm_X8_puts.cells ∧ ks ≤ rm_X8_puts.slots) (k21 : ∀ M, K21 M → J p l e rm_X8_puts s m args below meth c (QV below E P args s rm_X8_puts.cells rm_X8_puts.slots) E 4 M kc ks 21 [] []) : ∀ n M x1 x2 x3, l_X8_puts_2 P K21 n M x1 x2 x3 → J p l e rm_X8_puts s m args below meth c (QV below E P args s rm_X8_puts.cells rm_X8_puts.slots) E 4 M kc ks 2 [(1, .ref x1), (2, .ref x2), (3, .int x3)] [] := by
  intro n
  induction n with
  | zero => intro M x1 x2 x3 h; exact h.elim
  | succ n ih =>
    intro M x1 x2 x3 h
    rw [l_X8_puts_2] at h
    refine j_iload_n (pc := 2) C 2 dX8_puts_2 rfl ?_
    refine j_sipush (pc := 3) (v := (689 : Int32)) C dX8_puts_3 rfl ?_
    refine j_icmp_ge (pc := 6) C 21 dX8_puts_6 (by decide) h (fun h => ?_) (fun h => ?_)
    · exact j_weak [] rfl (k21 _ h)
    · refine j_aload_n (pc := 9) C 1 dX8_puts_9 rfl ?_
      refine j_iload_n (pc := 10) C 2 dX8_puts_10 rfl ?_
      refine j_aload_n (pc := 11) C 0 dX8_puts_11 rfl ?_
      refine j_iload_n (pc := 12) C 2 dX8_puts_12 rfl ?_
      refine j_iald (pc := 13) C dX8_puts_13 h (fun h => ?_)
      refine n_iast (pc := 14) C dX8_puts_14 h (fun M1 h => ?_)
      refine j_iinc (pc := 15) (v := (1 : Int32)) C 2 [(3, _), (1, _), (2, _)] dX8_puts_15 rfl rfl (by decide) rfl ?_
      refine j_goto (pc := 18) C 2 dX8_puts_18 (by decide) ?_
      exact j_weak [1, 2, 0] rfl (ih _ _ _ _ h)
def w_X8_puts (M : Mm) (x0 : Nat) (x1 : Nat) (x2 : Nat) (P : Mm → Prop) : Prop := (∃ n2, l_X8_puts_2 P (fun M2 => P M2) n2 M x1 x2 (0 : Int32))
set_option maxHeartbeats 4000000 in
set_option maxRecDepth 100000 in
theorem c_X8_puts (l : Launch) (E : EV) (M : Mm) (x0 : Nat) (x1 : Nat) (x2 : Nat) (P : Mm → Prop) (h : w_X8_puts M x0 x1 x2 P) : CtV l E yX8_puts cX8_puts 4 rm_X8_puts 0 0 [.ref x0, .ref x1, .ref x2] M P := by
  refine ctV_of (by decide +kernel) (Nat.le_of_ble_eq_true rfl) ?_
  intro p e s m args below meth c C hnm
  rw [w_X8_puts] at h
  show J p l e rm_X8_puts s m args below meth c (QV below E P args s 0 0) E 4 M 0 0 0 [(0, .ref x0), (1, .ref x1), (2, .ref x2)] []
  refine j_iconst (pc := 0) (v := (0 : Int32)) C dX8_puts_0 rfl ?_
  refine j_istore_n (pc := 1) C [(3, _), (0, _), (1, _), (2, _)] dX8_puts_1 (by decide) rfl ?_
  obtain ⟨n2, h⟩ := h
  refine j_weak [2, 3, 0] rfl (jl_X8_puts_2 C ⟨Nat.le_of_ble_eq_true rfl, Nat.le_of_ble_eq_true rfl⟩ (fun M2 h => ?_) n2 _ _ _ _ h)
  · exact j_vret (pc := 21) C dX8_puts_21 (Nat.le_of_ble_eq_true rfl) (Nat.le_of_ble_eq_true rfl) h
theorem cs_X8_298 (C : Cx p l s m args meth c cc nL RX8 ret E) {b : Nat} {y0 : Int32} {P : Mm → Prop} (hR : rm_X8_takesOff.frames + 1 ≤ R.frames ∧ 8 + (3 + 11) + rm_X8_takesOff.locals ≤ R.locals) (hf : kc ≤ R.cells ∧ ks ≤ R.slots) (hst : (st.map fun v => v.category).sum ≤ 8) (d : decode cc pc = .ok (.invokevirtual 298, 3)) (h : zk M b = 8 ∧ w_X8_takesOff M b y0 P) (kk : ∀ M', P M' → J p l e R s m args below meth c Q E nL M' kc ks (pc + 3) lo st) : J p l e R s m args below meth c Q E nL M kc ks pc lo (.int y0 :: .ref b :: st) :=
  j_cV_V (n := 1) (As := [.int y0]) C co_X8 rfl wd_1517 wd_92 h.1 (c_X8_takesOff l E M b y0 P h.2) ⟨wd_1518, wd_1515, wd_106, by decide +kernel, by decide +kernel, by decide +kernel⟩ rfl rfl hR hf rfl hst d kk
theorem cs_X8_301 (C : Cx p l s m args meth c cc nL RX8 ret E) {b : Nat} {y0 : Int32} {y1 : Int32} {y2 : Int32} {y3 : Int32} {P : Int32 → Mm → Prop} (hR : rm_X8_comes.frames + 1 ≤ R.frames ∧ 8 + (11 + 11) + rm_X8_comes.locals ≤ R.locals) (hf : kc ≤ R.cells ∧ ks ≤ R.slots) (hst : (st.map fun v => v.category).sum ≤ 8) (d : decode cc pc = .ok (.invokevirtual 301, 3)) (h : zk M b = 8 ∧ w_X8_comes M b y0 y1 y2 y3 P) (kk : ∀ r M', P r M' → J p l e R s m args below meth c Q E nL M' kc ks (pc + 3) lo (.int r :: st)) : J p l e R s m args below meth c Q E nL M kc ks pc lo (.int y3 :: .int y2 :: .int y1 :: .int y0 :: .ref b :: st) :=
  j_cV_I (n := 4) (As := [.int y0, .int y1, .int y2, .int y3]) C co_X8 rfl wd_1525 wd_94 h.1 (c_X8_comes l E M b y0 y1 y2 y3 P h.2) ⟨wd_1526, wd_1523, wd_106, by decide +kernel, by decide +kernel, by decide +kernel⟩ rfl rfl hR hf rfl hst d kk
theorem cs_X8_308 (C : Cx p l s m args meth c cc nL RX8 ret E) {b : Nat} {P : Int32 → Mm → Prop} (hR : rm_X8_isRehearsed.frames + 1 ≤ R.frames ∧ 8 + (3 + 11) + rm_X8_isRehearsed.locals ≤ R.locals) (hf : kc ≤ R.cells ∧ ks ≤ R.slots) (hst : (st.map fun v => v.category).sum ≤ 8) (d : decode cc pc = .ok (.invokevirtual 308, 3)) (h : zk M b = 8 ∧ w_X8_isRehearsed M b P) (kk : ∀ r M', P r M' → J p l e R s m args below meth c Q E nL M' kc ks (pc + 3) lo (.int r :: st)) : J p l e R s m args below meth c Q E nL M kc ks pc lo (.ref b :: st) :=
  j_cV_I (n := 0) (As := []) C co_X8 rfl wd_1529 wd_95 h.1 (c_X8_isRehearsed l E M b P h.2) ⟨wd_1530, wd_1527, wd_106, by decide +kernel, by decide +kernel, by decide +kernel⟩ rfl rfl hR hf rfl hst d kk
abbrev rm_X8_moves : Room := { frames := 14, cells := 0, slots := 0, locals := 351 }
def w_X8_moves (M : Mm) (x0 : Nat) (x1 : Int32) (x2 : Int32) (P : Int32 → Mm → Prop) : Prop := zk M x0 = 8 ∧ w_X8_of M x0 x1 (1 : Int32) (fun r1 M1 => zk M1 x0 = 8 ∧ w_X8_of M1 x0 x1 (3 : Int32) (fun r2 M2 => zk M2 x0 = 8 ∧ w_X8_of M2 x0 x1 (2 : Int32) (fun r3 M3 => zk M3 x0 = 8 ∧ w_X8_takesOff M3 x0 x1 (fun M4 => (if r3 = (1 : Int32) then zk M4 x0 = 8 ∧ w_X8_why M4 x0 r1 x2 r2 (1 : Int32) (fun r9 M9 => (if r9 ≤ 0 then zk M9 x0 = 8 ∧ w_X8_comes M9 x0 r1 x2 r2 r3 (fun r10 M10 => zk M10 x0 = 8 ∧ (∀ M11, M11 = sI M10 x0 23 r10 → zk M11 x0 = 8 ∧ w_X8_isRehearsed M11 x0 (fun r12 M12 => (if r12 = 0 then P (6 : Int32) M12 else P (0 : Int32) M12)))) else P r9 M9)) else zk M4 x0 = 8 ∧ w_X8_why M4 x0 r1 x2 r2 (0 : Int32) (fun r5 M5 => (if r5 ≤ 0 then zk M5 x0 = 8 ∧ w_X8_comes M5 x0 r1 x2 r2 r3 (fun r6 M6 => zk M6 x0 = 8 ∧ (∀ M7, M7 = sI M6 x0 23 r6 → zk M7 x0 = 8 ∧ w_X8_isRehearsed M7 x0 (fun r8 M8 => (if r8 = 0 then P (6 : Int32) M8 else P (0 : Int32) M8)))) else P r5 M5)))))))
set_option maxHeartbeats 4000000 in
set_option maxRecDepth 100000 in
theorem c_X8_moves (l : Launch) (E : EV) (M : Mm) (x0 : Nat) (x1 : Int32) (x2 : Int32) (P : Int32 → Mm → Prop) (h : w_X8_moves M x0 x1 x2 P) : CtI l E yX8_moves cX8_moves 7 .int rm_X8_moves 0 0 [.ref x0, .int x1, .int x2] M P := by
  refine ctI_of (by decide +kernel) (Nat.le_of_ble_eq_true rfl) ?_
  intro p e s m args below meth c C
  rw [w_X8_moves] at h
  show J p l e rm_X8_moves s m args below meth c (QI below E P args s 0 0) E 7 M 0 0 0 [(0, .ref x0), (1, .int x1), (2, .int x2)] []
  refine j_aload_n (pc := 0) C 0 dX8_moves_0 rfl ?_
  refine j_iload_n (pc := 1) C 1 dX8_moves_1 rfl ?_
  refine j_iconst (pc := 2) (v := (1 : Int32)) C dX8_moves_2 rfl ?_
  refine cs_X8_198 (pc := 3) C ⟨Nat.le_of_ble_eq_true rfl, Nat.le_of_ble_eq_true rfl⟩ ⟨Nat.le_of_ble_eq_true rfl, Nat.le_of_ble_eq_true rfl⟩ (Nat.le_of_ble_eq_true rfl) dX8_moves_3 h (fun r1 M1 h => ?_)
  refine j_istore_n (pc := 6) C [(3, _), (0, _), (1, _), (2, _)] dX8_moves_6 (by decide) rfl ?_
  refine j_aload_n (pc := 7) C 1 dX8_moves_7 rfl ?_
  refine j_iload_n (pc := 8) C 2 dX8_moves_8 rfl ?_
  refine j_iconst (pc := 9) (v := (3 : Int32)) C dX8_moves_9 rfl ?_
  refine cs_X8_198 (pc := 10) C ⟨Nat.le_of_ble_eq_true rfl, Nat.le_of_ble_eq_true rfl⟩ ⟨Nat.le_of_ble_eq_true rfl, Nat.le_of_ble_eq_true rfl⟩ (Nat.le_of_ble_eq_true rfl) dX8_moves_10 h (fun r2 M2 h => ?_)
  refine j_istore (pc := 13) C [(4, _), (3, _), (0, _), (1, _), (2, _)] dX8_moves_13 (by decide) rfl ?_
  refine j_aload_n (pc := 15) C 2 dX8_moves_15 rfl ?_
  refine j_iload_n (pc := 16) C 3 dX8_moves_16 rfl ?_
  refine j_iconst (pc := 17) (v := (2 : Int32)) C dX8_moves_17 rfl ?_
  refine cs_X8_198 (pc := 18) C ⟨Nat.le_of_ble_eq_true rfl, Nat.le_of_ble_eq_true rfl⟩ ⟨Nat.le_of_ble_eq_true rfl, Nat.le_of_ble_eq_true rfl⟩ (Nat.le_of_ble_eq_true rfl) dX8_moves_18 h (fun r3 M3 h => ?_)
  refine j_istore (pc := 21) C [(5, _), (4, _), (3, _), (0, _), (1, _), (2, _)] dX8_moves_21 (by decide) rfl ?_
  refine j_aload_n (pc := 23) C 3 dX8_moves_23 rfl ?_
  refine j_iload_n (pc := 24) C 4 dX8_moves_24 rfl ?_
  refine cs_X8_298 (pc := 25) C ⟨Nat.le_of_ble_eq_true rfl, Nat.le_of_ble_eq_true rfl⟩ ⟨Nat.le_of_ble_eq_true rfl, Nat.le_of_ble_eq_true rfl⟩ (Nat.le_of_ble_eq_true rfl) dX8_moves_25 h (fun M4 h => ?_)
  refine j_aload_n (pc := 28) C 3 dX8_moves_28 rfl ?_
  refine j_iload_n (pc := 29) C 2 dX8_moves_29 rfl ?_
  refine j_iload_n (pc := 30) C 5 dX8_moves_30 rfl ?_
  refine j_iload (pc := 31) C 1 dX8_moves_31 rfl ?_
  refine j_iload (pc := 33) C 0 dX8_moves_33 rfl ?_
  refine j_iconst (pc := 35) (v := (1 : Int32)) C dX8_moves_35 rfl ?_
  refine j_icmp_ne (pc := 36) C 43 dX8_moves_36 (by decide) h (fun h => ?_) (fun h => ?_)
  · refine j_iconst (pc := 43) (v := (0 : Int32)) C dX8_moves_43 rfl ?_
    refine cs_X8_294 (pc := 44) C ⟨Nat.le_of_ble_eq_true rfl, Nat.le_of_ble_eq_true rfl⟩ ⟨Nat.le_of_ble_eq_true rfl, Nat.le_of_ble_eq_true rfl⟩ (Nat.le_of_ble_eq_true rfl) dX8_moves_44 h (fun r5 M5 h => ?_)
    refine j_istore (pc := 47) C [(6, _), (5, _), (4, _), (3, _), (0, _), (1, _), (2, _)] dX8_moves_47 (by decide) rfl ?_
    refine j_iload (pc := 49) C 0 dX8_moves_49 rfl ?_
    refine j_if_le (pc := 51) C 57 dX8_moves_51 (by decide) h (fun h => ?_) (fun h => ?_)
    · refine j_aload_n (pc := 57) C 4 dX8_moves_57 rfl ?_
      refine j_aload_n (pc := 58) C 4 dX8_moves_58 rfl ?_
      refine j_iload_n (pc := 59) C 3 dX8_moves_59 rfl ?_
      refine j_iload_n (pc := 60) C 6 dX8_moves_60 rfl ?_
      refine j_iload (pc := 61) C 2 dX8_moves_61 rfl ?_
      refine j_iload (pc := 63) C 1 dX8_moves_63 rfl ?_
      refine cs_X8_301 (pc := 65) C ⟨Nat.le_of_ble_eq_true rfl, Nat.le_of_ble_eq_true rfl⟩ ⟨Nat.le_of_ble_eq_true rfl, Nat.le_of_ble_eq_true rfl⟩ (Nat.le_of_ble_eq_true rfl) dX8_moves_65 h (fun r6 M6 h => ?_)
      refine pf_X8_305 (pc := 68) C dX8_moves_68 h (fun M7 h => ?_)
      refine j_aload_n (pc := 71) C 4 dX8_moves_71 rfl ?_
      refine cs_X8_308 (pc := 72) C ⟨Nat.le_of_ble_eq_true rfl, Nat.le_of_ble_eq_true rfl⟩ ⟨Nat.le_of_ble_eq_true rfl, Nat.le_of_ble_eq_true rfl⟩ (Nat.le_of_ble_eq_true rfl) dX8_moves_72 h (fun r8 M8 h => ?_)
      refine j_if_eq (pc := 75) C 82 dX8_moves_75 (by decide) h (fun h => ?_) (fun h => ?_)
      · refine j_bipush (pc := 82) (v := (6 : Int32)) C dX8_moves_82 rfl ?_
        exact j_iret (pc := 84) C dX8_moves_84 (Nat.le_of_ble_eq_true rfl) (Nat.le_of_ble_eq_true rfl) h
      · refine j_iconst (pc := 78) (v := (0 : Int32)) C dX8_moves_78 rfl ?_
        refine j_goto (pc := 79) C 84 dX8_moves_79 (by decide) ?_
        exact j_iret (pc := 84) C dX8_moves_84 (Nat.le_of_ble_eq_true rfl) (Nat.le_of_ble_eq_true rfl) h
    · refine j_iload (pc := 54) C 0 dX8_moves_54 rfl ?_
      exact j_iret (pc := 56) C dX8_moves_56 (Nat.le_of_ble_eq_true rfl) (Nat.le_of_ble_eq_true rfl) h
  · refine j_iconst (pc := 39) (v := (1 : Int32)) C dX8_moves_39 rfl ?_
    refine j_goto (pc := 40) C 44 dX8_moves_40 (by decide) ?_
    refine cs_X8_294 (pc := 44) C ⟨Nat.le_of_ble_eq_true rfl, Nat.le_of_ble_eq_true rfl⟩ ⟨Nat.le_of_ble_eq_true rfl, Nat.le_of_ble_eq_true rfl⟩ (Nat.le_of_ble_eq_true rfl) dX8_moves_44 h (fun r9 M9 h => ?_)
    refine j_istore (pc := 47) C [(6, _), (5, _), (4, _), (3, _), (0, _), (1, _), (2, _)] dX8_moves_47 (by decide) rfl ?_
    refine j_iload (pc := 49) C 0 dX8_moves_49 rfl ?_
    refine j_if_le (pc := 51) C 57 dX8_moves_51 (by decide) h (fun h => ?_) (fun h => ?_)
    · refine j_aload_n (pc := 57) C 4 dX8_moves_57 rfl ?_
      refine j_aload_n (pc := 58) C 4 dX8_moves_58 rfl ?_
      refine j_iload_n (pc := 59) C 3 dX8_moves_59 rfl ?_
      refine j_iload_n (pc := 60) C 6 dX8_moves_60 rfl ?_
      refine j_iload (pc := 61) C 2 dX8_moves_61 rfl ?_
      refine j_iload (pc := 63) C 1 dX8_moves_63 rfl ?_
      refine cs_X8_301 (pc := 65) C ⟨Nat.le_of_ble_eq_true rfl, Nat.le_of_ble_eq_true rfl⟩ ⟨Nat.le_of_ble_eq_true rfl, Nat.le_of_ble_eq_true rfl⟩ (Nat.le_of_ble_eq_true rfl) dX8_moves_65 h (fun r10 M10 h => ?_)
      refine pf_X8_305 (pc := 68) C dX8_moves_68 h (fun M11 h => ?_)
      refine j_aload_n (pc := 71) C 4 dX8_moves_71 rfl ?_
      refine cs_X8_308 (pc := 72) C ⟨Nat.le_of_ble_eq_true rfl, Nat.le_of_ble_eq_true rfl⟩ ⟨Nat.le_of_ble_eq_true rfl, Nat.le_of_ble_eq_true rfl⟩ (Nat.le_of_ble_eq_true rfl) dX8_moves_72 h (fun r12 M12 h => ?_)
      refine j_if_eq (pc := 75) C 82 dX8_moves_75 (by decide) h (fun h => ?_) (fun h => ?_)
      · refine j_bipush (pc := 82) (v := (6 : Int32)) C dX8_moves_82 rfl ?_
        exact j_iret (pc := 84) C dX8_moves_84 (Nat.le_of_ble_eq_true rfl) (Nat.le_of_ble_eq_true rfl) h
      · refine j_iconst (pc := 78) (v := (0 : Int32)) C dX8_moves_78 rfl ?_
        refine j_goto (pc := 79) C 84 dX8_moves_79 (by decide) ?_
        exact j_iret (pc := 84) C dX8_moves_84 (Nat.le_of_ble_eq_true rfl) (Nat.le_of_ble_eq_true rfl) h
    · refine j_iload (pc := 54) C 0 dX8_moves_54 rfl ?_
      exact j_iret (pc := 56) C dX8_moves_56 (Nat.le_of_ble_eq_true rfl) (Nat.le_of_ble_eq_true rfl) h
theorem cs_X8_311 (C : Cx p l s m args meth c cc nL RX8 ret E) {b : Nat} {y0 : Nat} {y1 : Nat} {P : Mm → Prop} (hR : rm_X8_puts.frames + 1 ≤ R.frames ∧ 8 + (4 + 11) + rm_X8_puts.locals ≤ R.locals) (hf : kc ≤ R.cells ∧ ks ≤ R.slots) (hst : (st.map fun v => v.category).sum ≤ 8) (d : decode cc pc = .ok (.invokevirtual 311, 3)) (h : zk M b = 8 ∧ w_X8_puts M b y0 y1 P) (kk : ∀ M', P M' → J p l e R s m args below meth c Q E nL M' kc ks (pc + 3) lo st) : J p l e R s m args below meth c Q E nL M kc ks pc lo (.ref y1 :: .ref y0 :: .ref b :: st) :=
  j_cV_V (n := 2) (As := [.ref y0, .ref y1]) C co_X8 rfl wd_1509 wd_90 h.1 (c_X8_puts l E M b y0 y1 P h.2) ⟨wd_1510, wd_1507, wd_106, by decide +kernel, by decide +kernel, by decide +kernel⟩ rfl rfl hR hf rfl hst d kk
theorem cs_X8_315 (C : Cx p l s m args meth c cc nL RX8 ret E) {b : Nat} {y0 : Int32} {y1 : Int32} {P : Int32 → Mm → Prop} (hR : rm_X8_moves.frames + 1 ≤ R.frames ∧ 8 + (7 + 11) + rm_X8_moves.locals ≤ R.locals) (hf : kc ≤ R.cells ∧ ks ≤ R.slots) (hst : (st.map fun v => v.category).sum ≤ 8) (d : decode cc pc = .ok (.invokevirtual 315, 3)) (h : zk M b = 8 ∧ w_X8_moves M b y0 y1 P) (kk : ∀ r M', P r M' → J p l e R s m args below meth c Q E nL M' kc ks (pc + 3) lo (.int r :: st)) : J p l e R s m args below meth c Q E nL M kc ks pc lo (.int y1 :: .int y0 :: .ref b :: st) :=
  j_cV_I (n := 2) (As := [.int y0, .int y1]) C co_X8 rfl wd_1513 wd_91 h.1 (c_X8_moves l E M b y0 y1 P h.2) ⟨wd_1514, wd_1511, wd_106, by decide +kernel, by decide +kernel, by decide +kernel⟩ rfl rfl hR hf rfl hst d kk
abbrev rm_X8_whyNotMove : Room := { frames := 15, cells := 0, slots := 0, locals := 377 }
def w_X8_whyNotMove (M : Mm) (x0 : Nat) (x1 : Int32) (x2 : Int32) (P : Int32 → Mm → Prop) : Prop := zk M x0 = 8 ∧ w_X8_noService M x0 x1 (fun r1 M1 => (if r1 = 0 then zk M1 x0 = 8 ∧ w_X8_slotMany M1 x0 (fun r2 M2 => zk M2 x0 = 8 ∧ w_X8_no M2 x0 x2 r2 (fun r3 M3 => (if r3 = 0 then (zk M3 x0 = 8 ∧ ∃ a4, zR M3 x0 2 = some a4 ∧ (zk M3 x0 = 8 ∧ ∃ a5, zR M3 x0 22 = some a5 ∧ zk M3 x0 = 8 ∧ w_X8_puts M3 x0 a4 a5 (fun M6 => zk M6 x0 = 8 ∧ w_X8_moves M6 x0 x1 x2 (fun r7 M7 => (zk M7 x0 = 8 ∧ ∃ a8, zR M7 x0 22 = some a8 ∧ (zk M7 x0 = 8 ∧ ∃ a9, zR M7 x0 2 = some a9 ∧ zk M7 x0 = 8 ∧ w_X8_puts M7 x0 a8 a9 (fun M10 => P r7 M10))))))) else P (0 : Int32) M3))) else P (0 : Int32) M1))
set_option maxHeartbeats 4000000 in
set_option maxRecDepth 100000 in
theorem c_X8_whyNotMove (l : Launch) (E : EV) (M : Mm) (x0 : Nat) (x1 : Int32) (x2 : Int32) (P : Int32 → Mm → Prop) (h : w_X8_whyNotMove M x0 x1 x2 P) : CtI l E yX8_whyNotMove cX8_whyNotMove 4 .int rm_X8_whyNotMove 0 0 [.ref x0, .int x1, .int x2] M P := by
  refine ctI_of (by decide +kernel) (Nat.le_of_ble_eq_true rfl) ?_
  intro p e s m args below meth c C
  rw [w_X8_whyNotMove] at h
  show J p l e rm_X8_whyNotMove s m args below meth c (QI below E P args s 0 0) E 4 M 0 0 0 [(0, .ref x0), (1, .int x1), (2, .int x2)] []
  refine j_aload_n (pc := 0) C 0 dX8_whyNotMove_0 rfl ?_
  refine j_iload_n (pc := 1) C 1 dX8_whyNotMove_1 rfl ?_
  refine cs_X8_282 (pc := 2) C ⟨Nat.le_of_ble_eq_true rfl, Nat.le_of_ble_eq_true rfl⟩ ⟨Nat.le_of_ble_eq_true rfl, Nat.le_of_ble_eq_true rfl⟩ (Nat.le_of_ble_eq_true rfl) dX8_whyNotMove_2 h (fun r1 M1 h => ?_)
  refine j_if_ne (pc := 5) C 20 dX8_whyNotMove_5 (by decide) h (fun h => ?_) (fun h => ?_)
  · refine j_iconst (pc := 20) (v := (0 : Int32)) C dX8_whyNotMove_20 rfl ?_
    exact j_iret (pc := 21) C dX8_whyNotMove_21 (Nat.le_of_ble_eq_true rfl) (Nat.le_of_ble_eq_true rfl) h
  · refine j_aload_n (pc := 8) C 0 dX8_whyNotMove_8 rfl ?_
    refine j_iload_n (pc := 9) C 2 dX8_whyNotMove_9 rfl ?_
    refine j_aload_n (pc := 10) C 0 dX8_whyNotMove_10 rfl ?_
    refine cs_X8_273 (pc := 11) C ⟨Nat.le_of_ble_eq_true rfl, Nat.le_of_ble_eq_true rfl⟩ ⟨Nat.le_of_ble_eq_true rfl, Nat.le_of_ble_eq_true rfl⟩ (Nat.le_of_ble_eq_true rfl) dX8_whyNotMove_11 h (fun r2 M2 h => ?_)
    refine cs_X8_249 (pc := 14) C ⟨Nat.le_of_ble_eq_true rfl, Nat.le_of_ble_eq_true rfl⟩ ⟨Nat.le_of_ble_eq_true rfl, Nat.le_of_ble_eq_true rfl⟩ (Nat.le_of_ble_eq_true rfl) dX8_whyNotMove_14 h (fun r3 M3 h => ?_)
    refine j_if_eq (pc := 17) C 22 dX8_whyNotMove_17 (by decide) h (fun h => ?_) (fun h => ?_)
    · refine j_aload_n (pc := 22) C 0 dX8_whyNotMove_22 rfl ?_
      refine j_aload_n (pc := 23) C 0 dX8_whyNotMove_23 rfl ?_
      refine gf_X8_13 (pc := 24) C dX8_whyNotMove_24 h (fun a4 h => ?_)
      refine j_aload_n (pc := 27) C 0 dX8_whyNotMove_27 rfl ?_
      refine gf_X8_43 (pc := 28) C dX8_whyNotMove_28 h (fun a5 h => ?_)
      refine cs_X8_311 (pc := 31) C ⟨Nat.le_of_ble_eq_true rfl, Nat.le_of_ble_eq_true rfl⟩ ⟨Nat.le_of_ble_eq_true rfl, Nat.le_of_ble_eq_true rfl⟩ (Nat.le_of_ble_eq_true rfl) dX8_whyNotMove_31 h (fun M6 h => ?_)
      refine j_aload_n (pc := 34) C 0 dX8_whyNotMove_34 rfl ?_
      refine j_iload_n (pc := 35) C 1 dX8_whyNotMove_35 rfl ?_
      refine j_iload_n (pc := 36) C 2 dX8_whyNotMove_36 rfl ?_
      refine cs_X8_315 (pc := 37) C ⟨Nat.le_of_ble_eq_true rfl, Nat.le_of_ble_eq_true rfl⟩ ⟨Nat.le_of_ble_eq_true rfl, Nat.le_of_ble_eq_true rfl⟩ (Nat.le_of_ble_eq_true rfl) dX8_whyNotMove_37 h (fun r7 M7 h => ?_)
      refine j_istore_n (pc := 40) C [(3, _), (0, _), (1, _), (2, _)] dX8_whyNotMove_40 (by decide) rfl ?_
      refine j_aload_n (pc := 41) C 1 dX8_whyNotMove_41 rfl ?_
      refine j_aload_n (pc := 42) C 1 dX8_whyNotMove_42 rfl ?_
      refine gf_X8_43 (pc := 43) C dX8_whyNotMove_43 h (fun a8 h => ?_)
      refine j_aload_n (pc := 46) C 1 dX8_whyNotMove_46 rfl ?_
      refine gf_X8_13 (pc := 47) C dX8_whyNotMove_47 h (fun a9 h => ?_)
      refine cs_X8_311 (pc := 50) C ⟨Nat.le_of_ble_eq_true rfl, Nat.le_of_ble_eq_true rfl⟩ ⟨Nat.le_of_ble_eq_true rfl, Nat.le_of_ble_eq_true rfl⟩ (Nat.le_of_ble_eq_true rfl) dX8_whyNotMove_50 h (fun M10 h => ?_)
      refine j_iload_n (pc := 53) C 0 dX8_whyNotMove_53 rfl ?_
      exact j_iret (pc := 54) C dX8_whyNotMove_54 (Nat.le_of_ble_eq_true rfl) (Nat.le_of_ble_eq_true rfl) h
    · refine j_iconst (pc := 20) (v := (0 : Int32)) C dX8_whyNotMove_20 rfl ?_
      exact j_iret (pc := 21) C dX8_whyNotMove_21 (Nat.le_of_ble_eq_true rfl) (Nat.le_of_ble_eq_true rfl) h
abbrev rm_X8_costOf : Room := { frames := 6, cells := 0, slots := 0, locals := 134 }
def l_X8_costOf_4 (P : Int32 → Mm → Prop) (K41 : Mm → Nat → Int32 → Int32 → Prop) : Nat → Mm → Nat → Int32 → Int32 → Int32 → Prop
  | 0, _, _, _, _, _ => False
  | n + 1, M, x0, x1, x2, x3 => (zk M x0 = 8 ∧ ∃ a1, zR M x0 1 = some a1 ∧ zk M a1 = 10 ∧ vp_in (3 : Int32) (zl M a1) ∧ (if (zI M a1 (3 : Int32).toNatClampNeg) ≤ x3 then K41 M x0 x1 x2 else (if x1 = 0 then zk M x0 = 8 ∧ w_X8_rentOf M x0 x3 (fun r2 M2 => l_X8_costOf_4 P K41 n M2 x0 x1 (x2 + r2) (x3 + (1 : Int32))) else (if x1 = (3 : Int32) then zk M x0 = 8 ∧ w_X8_rentOf M x0 x3 (fun r3 M3 => l_X8_costOf_4 P K41 n M3 x0 x1 (x2 + r3) (x3 + (1 : Int32))) else l_X8_costOf_4 P K41 n M x0 x1 (x2 + (0 : Int32)) (x3 + (1 : Int32))))))
set_option maxHeartbeats 4000000 in
set_option maxRecDepth 100000 in
theorem jl_X8_costOf_4 {P : Int32 → Mm → Prop} {K41 : Mm → Nat → Int32 → Int32 → Prop} (C : Cx p l s m args meth c cX8_costOf 4 RX8 (some .int) E) (hkc : kc ≤ rm_X8_costOf.cells ∧ ks ≤ rm_X8_costOf.slots) (k41 : ∀ M x0 x1 x2, K41 M x0 x1 x2 → J p l e rm_X8_costOf s m args below meth c (QI below E P args s rm_X8_costOf.cells rm_X8_costOf.slots) E 4 M kc ks 41 [(0, .ref x0), (1, .int x1), (2, .int x2)] []) : ∀ n M x0 x1 x2 x3, l_X8_costOf_4 P K41 n M x0 x1 x2 x3 → J p l e rm_X8_costOf s m args below meth c (QI below E P args s rm_X8_costOf.cells rm_X8_costOf.slots) E 4 M kc ks 4 [(0, .ref x0), (1, .int x1), (2, .int x2), (3, .int x3)] [] := by
  intro n
  induction n with
  | zero => intro M x0 x1 x2 x3 h; exact h.elim
  | succ n ih =>
    intro M x0 x1 x2 x3 h
    rw [l_X8_costOf_4] at h
    refine j_iload_n (pc := 4) C 3 dX8_costOf_4 rfl ?_
    refine j_aload_n (pc := 5) C 0 dX8_costOf_5 rfl ?_
    refine gf_X8_7 (pc := 6) C dX8_costOf_6 h (fun a1 h => ?_)
    refine j_iconst (pc := 9) (v := (3 : Int32)) C dX8_costOf_9 rfl ?_
    refine j_iald (pc := 10) C dX8_costOf_10 h (fun h => ?_)
    refine j_icmp_ge (pc := 11) C 41 dX8_costOf_11 (by decide) h (fun h => ?_) (fun h => ?_)
    · exact j_weak [0, 1, 2] rfl (k41 _ _ _ _ h)
    · refine j_iload_n (pc := 14) C 2 dX8_costOf_14 rfl ?_
      refine j_iload_n (pc := 15) C 1 dX8_costOf_15 rfl ?_
      refine j_if_eq (pc := 16) C 24 dX8_costOf_16 (by decide) h (fun h => ?_) (fun h => ?_)
      · refine j_aload_n (pc := 24) C 0 dX8_costOf_24 rfl ?_
        refine j_iload_n (pc := 25) C 3 dX8_costOf_25 rfl ?_
        refine cs_X8_276 (pc := 26) C ⟨Nat.le_of_ble_eq_true rfl, Nat.le_of_ble_eq_true rfl⟩ hkc (Nat.le_of_ble_eq_true rfl) dX8_costOf_26 h (fun r2 M2 h => ?_)
        refine j_goto (pc := 29) C 33 dX8_costOf_29 (by decide) ?_
        refine j_iadd (pc := 33) C dX8_costOf_33 ?_
        refine j_istore_n (pc := 34) C [(2, _), (0, _), (1, _), (3, _)] dX8_costOf_34 (by decide) rfl ?_
        refine j_iinc (pc := 35) (v := (1 : Int32)) C 3 [(3, _), (2, _), (0, _), (1, _)] dX8_costOf_35 rfl rfl (by decide) rfl ?_
        refine j_goto (pc := 38) C 4 dX8_costOf_38 (by decide) ?_
        exact j_weak [2, 3, 1, 0] rfl (ih _ _ _ _ _ h)
      · refine j_iload_n (pc := 19) C 1 dX8_costOf_19 rfl ?_
        refine j_iconst (pc := 20) (v := (3 : Int32)) C dX8_costOf_20 rfl ?_
        refine j_icmp_ne (pc := 21) C 32 dX8_costOf_21 (by decide) h (fun h => ?_) (fun h => ?_)
        · refine j_iconst (pc := 32) (v := (0 : Int32)) C dX8_costOf_32 rfl ?_
          refine j_iadd (pc := 33) C dX8_costOf_33 ?_
          refine j_istore_n (pc := 34) C [(2, _), (0, _), (1, _), (3, _)] dX8_costOf_34 (by decide) rfl ?_
          refine j_iinc (pc := 35) (v := (1 : Int32)) C 3 [(3, _), (2, _), (0, _), (1, _)] dX8_costOf_35 rfl rfl (by decide) rfl ?_
          refine j_goto (pc := 38) C 4 dX8_costOf_38 (by decide) ?_
          exact j_weak [2, 3, 1, 0] rfl (ih _ _ _ _ _ h)
        · refine j_aload_n (pc := 24) C 0 dX8_costOf_24 rfl ?_
          refine j_iload_n (pc := 25) C 3 dX8_costOf_25 rfl ?_
          refine cs_X8_276 (pc := 26) C ⟨Nat.le_of_ble_eq_true rfl, Nat.le_of_ble_eq_true rfl⟩ hkc (Nat.le_of_ble_eq_true rfl) dX8_costOf_26 h (fun r3 M3 h => ?_)
          refine j_goto (pc := 29) C 33 dX8_costOf_29 (by decide) ?_
          refine j_iadd (pc := 33) C dX8_costOf_33 ?_
          refine j_istore_n (pc := 34) C [(2, _), (0, _), (1, _), (3, _)] dX8_costOf_34 (by decide) rfl ?_
          refine j_iinc (pc := 35) (v := (1 : Int32)) C 3 [(3, _), (2, _), (0, _), (1, _)] dX8_costOf_35 rfl rfl (by decide) rfl ?_
          refine j_goto (pc := 38) C 4 dX8_costOf_38 (by decide) ?_
          exact j_weak [2, 3, 1, 0] rfl (ih _ _ _ _ _ h)
def l_X8_costOf_43 (P : Int32 → Mm → Prop) (K110 : Mm → Int32 → Prop) : Nat → Mm → Nat → Int32 → Int32 → Int32 → Prop
  | 0, _, _, _, _, _ => False
  | n + 1, M, x0, x1, x2, x3 => (zk M x0 = 8 ∧ ∃ a5, zR M x0 1 = some a5 ∧ zk M a5 = 10 ∧ vp_in (2 : Int32) (zl M a5) ∧ (if (zI M a5 (2 : Int32).toNatClampNeg) ≤ x3 then K110 M x2 else (if x1 = (1 : Int32) then zk M x0 = 8 ∧ w_X8_overtimeOf M x0 x3 (fun r6 M6 => (if x1 = (2 : Int32) then zk M6 x0 = 8 ∧ w_X8_doublingsOf M6 x0 x3 (fun r7 M7 => (zk M7 x0 = 8 ∧ ∃ a8, zR M7 x0 1 = some a8 ∧ zk M7 a8 = 10 ∧ vp_in (5 : Int32) (zl M7 a8) ∧ l_X8_costOf_43 P K110 n M7 x0 x1 ((x2 + r6) + (r7 * (zI M7 a8 (5 : Int32).toNatClampNeg))) (x3 + (1 : Int32)))) else (if x1 = (3 : Int32) then zk M6 x0 = 8 ∧ w_X8_doublingsOf M6 x0 x3 (fun r9 M9 => (zk M9 x0 = 8 ∧ ∃ a10, zR M9 x0 1 = some a10 ∧ zk M9 a10 = 10 ∧ vp_in (5 : Int32) (zl M9 a10) ∧ l_X8_costOf_43 P K110 n M9 x0 x1 ((x2 + r6) + (r9 * (zI M9 a10 (5 : Int32).toNatClampNeg))) (x3 + (1 : Int32)))) else l_X8_costOf_43 P K110 n M6 x0 x1 ((x2 + r6) + (0 : Int32)) (x3 + (1 : Int32))))) else (if x1 = (3 : Int32) then zk M x0 = 8 ∧ w_X8_overtimeOf M x0 x3 (fun r15 M15 => (if x1 = (2 : Int32) then zk M15 x0 = 8 ∧ w_X8_doublingsOf M15 x0 x3 (fun r16 M16 => (zk M16 x0 = 8 ∧ ∃ a17, zR M16 x0 1 = some a17 ∧ zk M16 a17 = 10 ∧ vp_in (5 : Int32) (zl M16 a17) ∧ l_X8_costOf_43 P K110 n M16 x0 x1 ((x2 + r15) + (r16 * (zI M16 a17 (5 : Int32).toNatClampNeg))) (x3 + (1 : Int32)))) else (if x1 = (3 : Int32) then zk M15 x0 = 8 ∧ w_X8_doublingsOf M15 x0 x3 (fun r18 M18 => (zk M18 x0 = 8 ∧ ∃ a19, zR M18 x0 1 = some a19 ∧ zk M18 a19 = 10 ∧ vp_in (5 : Int32) (zl M18 a19) ∧ l_X8_costOf_43 P K110 n M18 x0 x1 ((x2 + r15) + (r18 * (zI M18 a19 (5 : Int32).toNatClampNeg))) (x3 + (1 : Int32)))) else l_X8_costOf_43 P K110 n M15 x0 x1 ((x2 + r15) + (0 : Int32)) (x3 + (1 : Int32))))) else (if x1 = (2 : Int32) then zk M x0 = 8 ∧ w_X8_doublingsOf M x0 x3 (fun r11 M11 => (zk M11 x0 = 8 ∧ ∃ a12, zR M11 x0 1 = some a12 ∧ zk M11 a12 = 10 ∧ vp_in (5 : Int32) (zl M11 a12) ∧ l_X8_costOf_43 P K110 n M11 x0 x1 ((x2 + (0 : Int32)) + (r11 * (zI M11 a12 (5 : Int32).toNatClampNeg))) (x3 + (1 : Int32)))) else (if x1 = (3 : Int32) then zk M x0 = 8 ∧ w_X8_doublingsOf M x0 x3 (fun r13 M13 => (zk M13 x0 = 8 ∧ ∃ a14, zR M13 x0 1 = some a14 ∧ zk M13 a14 = 10 ∧ vp_in (5 : Int32) (zl M13 a14) ∧ l_X8_costOf_43 P K110 n M13 x0 x1 ((x2 + (0 : Int32)) + (r13 * (zI M13 a14 (5 : Int32).toNatClampNeg))) (x3 + (1 : Int32)))) else l_X8_costOf_43 P K110 n M x0 x1 ((x2 + (0 : Int32)) + (0 : Int32)) (x3 + (1 : Int32))))))))
set_option maxHeartbeats 4000000 in
set_option maxRecDepth 100000 in
theorem jl_X8_costOf_43 {P : Int32 → Mm → Prop} {K110 : Mm → Int32 → Prop} (C : Cx p l s m args meth c cX8_costOf 4 RX8 (some .int) E) (hkc : kc ≤ rm_X8_costOf.cells ∧ ks ≤ rm_X8_costOf.slots) (k110 : ∀ M x2, K110 M x2 → J p l e rm_X8_costOf s m args below meth c (QI below E P args s rm_X8_costOf.cells rm_X8_costOf.slots) E 4 M kc ks 110 [(2, .int x2)] []) : ∀ n M x0 x1 x2 x3, l_X8_costOf_43 P K110 n M x0 x1 x2 x3 → J p l e rm_X8_costOf s m args below meth c (QI below E P args s rm_X8_costOf.cells rm_X8_costOf.slots) E 4 M kc ks 43 [(0, .ref x0), (1, .int x1), (2, .int x2), (3, .int x3)] [] := by
  intro n
  induction n with
  | zero => intro M x0 x1 x2 x3 h; exact h.elim
  | succ n ih =>
    intro M x0 x1 x2 x3 h
    rw [l_X8_costOf_43] at h
    refine j_iload_n (pc := 43) C 3 dX8_costOf_43 rfl ?_
    refine j_aload_n (pc := 44) C 0 dX8_costOf_44 rfl ?_
    refine gf_X8_7 (pc := 45) C dX8_costOf_45 h (fun a5 h => ?_)
    refine j_iconst (pc := 48) (v := (2 : Int32)) C dX8_costOf_48 rfl ?_
    refine j_iald (pc := 49) C dX8_costOf_49 h (fun h => ?_)
    refine j_icmp_ge (pc := 50) C 110 dX8_costOf_50 (by decide) h (fun h => ?_) (fun h => ?_)
    · exact j_weak [2] rfl (k110 _ _ h)
    · refine j_iload_n (pc := 53) C 2 dX8_costOf_53 rfl ?_
      refine j_iload_n (pc := 54) C 1 dX8_costOf_54 rfl ?_
      refine j_iconst (pc := 55) (v := (1 : Int32)) C dX8_costOf_55 rfl ?_
      refine j_icmp_eq (pc := 56) C 64 dX8_costOf_56 (by decide) h (fun h => ?_) (fun h => ?_)
      · refine j_aload_n (pc := 64) C 0 dX8_costOf_64 rfl ?_
        refine j_iload_n (pc := 65) C 3 dX8_costOf_65 rfl ?_
        refine cs_X8_270 (pc := 66) C ⟨Nat.le_of_ble_eq_true rfl, Nat.le_of_ble_eq_true rfl⟩ hkc (Nat.le_of_ble_eq_true rfl) dX8_costOf_66 h (fun r6 M6 h => ?_)
        refine j_goto (pc := 69) C 73 dX8_costOf_69 (by decide) ?_
        refine j_iadd (pc := 73) C dX8_costOf_73 ?_
        refine j_istore_n (pc := 74) C [(2, _), (0, _), (1, _), (3, _)] dX8_costOf_74 (by decide) rfl ?_
        refine j_iload_n (pc := 75) C 0 dX8_costOf_75 rfl ?_
        refine j_iload_n (pc := 76) C 2 dX8_costOf_76 rfl ?_
        refine j_iconst (pc := 77) (v := (2 : Int32)) C dX8_costOf_77 rfl ?_
        refine j_icmp_eq (pc := 78) C 86 dX8_costOf_78 (by decide) h (fun h => ?_) (fun h => ?_)
        · refine j_aload_n (pc := 86) C 1 dX8_costOf_86 rfl ?_
          refine j_iload_n (pc := 87) C 3 dX8_costOf_87 rfl ?_
          refine cs_X8_267 (pc := 88) C ⟨Nat.le_of_ble_eq_true rfl, Nat.le_of_ble_eq_true rfl⟩ hkc (Nat.le_of_ble_eq_true rfl) dX8_costOf_88 h (fun r7 M7 h => ?_)
          refine j_aload_n (pc := 91) C 1 dX8_costOf_91 rfl ?_
          refine gf_X8_7 (pc := 92) C dX8_costOf_92 h (fun a8 h => ?_)
          refine j_iconst (pc := 95) (v := (5 : Int32)) C dX8_costOf_95 rfl ?_
          refine j_iald (pc := 96) C dX8_costOf_96 h (fun h => ?_)
          refine j_imul (pc := 97) C dX8_costOf_97 ?_
          refine j_goto (pc := 98) C 102 dX8_costOf_98 (by decide) ?_
          refine j_iadd (pc := 102) C dX8_costOf_102 ?_
          refine j_istore_n (pc := 103) C [(2, _), (0, _), (1, _), (3, _)] dX8_costOf_103 (by decide) rfl ?_
          refine j_iinc (pc := 104) (v := (1 : Int32)) C 3 [(3, _), (2, _), (0, _), (1, _)] dX8_costOf_104 rfl rfl (by decide) rfl ?_
          refine j_goto (pc := 107) C 43 dX8_costOf_107 (by decide) ?_
          exact j_weak [2, 3, 1, 0] rfl (ih _ _ _ _ _ h)
        · refine j_iload_n (pc := 81) C 2 dX8_costOf_81 rfl ?_
          refine j_iconst (pc := 82) (v := (3 : Int32)) C dX8_costOf_82 rfl ?_
          refine j_icmp_ne (pc := 83) C 101 dX8_costOf_83 (by decide) h (fun h => ?_) (fun h => ?_)
          · refine j_iconst (pc := 101) (v := (0 : Int32)) C dX8_costOf_101 rfl ?_
            refine j_iadd (pc := 102) C dX8_costOf_102 ?_
            refine j_istore_n (pc := 103) C [(2, _), (0, _), (1, _), (3, _)] dX8_costOf_103 (by decide) rfl ?_
            refine j_iinc (pc := 104) (v := (1 : Int32)) C 3 [(3, _), (2, _), (0, _), (1, _)] dX8_costOf_104 rfl rfl (by decide) rfl ?_
            refine j_goto (pc := 107) C 43 dX8_costOf_107 (by decide) ?_
            exact j_weak [2, 3, 1, 0] rfl (ih _ _ _ _ _ h)
          · refine j_aload_n (pc := 86) C 1 dX8_costOf_86 rfl ?_
            refine j_iload_n (pc := 87) C 3 dX8_costOf_87 rfl ?_
            refine cs_X8_267 (pc := 88) C ⟨Nat.le_of_ble_eq_true rfl, Nat.le_of_ble_eq_true rfl⟩ hkc (Nat.le_of_ble_eq_true rfl) dX8_costOf_88 h (fun r9 M9 h => ?_)
            refine j_aload_n (pc := 91) C 1 dX8_costOf_91 rfl ?_
            refine gf_X8_7 (pc := 92) C dX8_costOf_92 h (fun a10 h => ?_)
            refine j_iconst (pc := 95) (v := (5 : Int32)) C dX8_costOf_95 rfl ?_
            refine j_iald (pc := 96) C dX8_costOf_96 h (fun h => ?_)
            refine j_imul (pc := 97) C dX8_costOf_97 ?_
            refine j_goto (pc := 98) C 102 dX8_costOf_98 (by decide) ?_
            refine j_iadd (pc := 102) C dX8_costOf_102 ?_
            refine j_istore_n (pc := 103) C [(2, _), (0, _), (1, _), (3, _)] dX8_costOf_103 (by decide) rfl ?_
            refine j_iinc (pc := 104) (v := (1 : Int32)) C 3 [(3, _), (2, _), (0, _), (1, _)] dX8_costOf_104 rfl rfl (by decide) rfl ?_
            refine j_goto (pc := 107) C 43 dX8_costOf_107 (by decide) ?_
            exact j_weak [2, 3, 1, 0] rfl (ih _ _ _ _ _ h)
      · refine j_iload_n (pc := 59) C 1 dX8_costOf_59 rfl ?_
        refine j_iconst (pc := 60) (v := (3 : Int32)) C dX8_costOf_60 rfl ?_
        refine j_icmp_ne (pc := 61) C 72 dX8_costOf_61 (by decide) h (fun h => ?_) (fun h => ?_)
        · refine j_iconst (pc := 72) (v := (0 : Int32)) C dX8_costOf_72 rfl ?_
          refine j_iadd (pc := 73) C dX8_costOf_73 ?_
          refine j_istore_n (pc := 74) C [(2, _), (0, _), (1, _), (3, _)] dX8_costOf_74 (by decide) rfl ?_
          refine j_iload_n (pc := 75) C 0 dX8_costOf_75 rfl ?_
          refine j_iload_n (pc := 76) C 2 dX8_costOf_76 rfl ?_
          refine j_iconst (pc := 77) (v := (2 : Int32)) C dX8_costOf_77 rfl ?_
          refine j_icmp_eq (pc := 78) C 86 dX8_costOf_78 (by decide) h (fun h => ?_) (fun h => ?_)
          · refine j_aload_n (pc := 86) C 1 dX8_costOf_86 rfl ?_
            refine j_iload_n (pc := 87) C 3 dX8_costOf_87 rfl ?_
            refine cs_X8_267 (pc := 88) C ⟨Nat.le_of_ble_eq_true rfl, Nat.le_of_ble_eq_true rfl⟩ hkc (Nat.le_of_ble_eq_true rfl) dX8_costOf_88 h (fun r11 M11 h => ?_)
            refine j_aload_n (pc := 91) C 1 dX8_costOf_91 rfl ?_
            refine gf_X8_7 (pc := 92) C dX8_costOf_92 h (fun a12 h => ?_)
            refine j_iconst (pc := 95) (v := (5 : Int32)) C dX8_costOf_95 rfl ?_
            refine j_iald (pc := 96) C dX8_costOf_96 h (fun h => ?_)
            refine j_imul (pc := 97) C dX8_costOf_97 ?_
            refine j_goto (pc := 98) C 102 dX8_costOf_98 (by decide) ?_
            refine j_iadd (pc := 102) C dX8_costOf_102 ?_
            refine j_istore_n (pc := 103) C [(2, _), (0, _), (1, _), (3, _)] dX8_costOf_103 (by decide) rfl ?_
            refine j_iinc (pc := 104) (v := (1 : Int32)) C 3 [(3, _), (2, _), (0, _), (1, _)] dX8_costOf_104 rfl rfl (by decide) rfl ?_
            refine j_goto (pc := 107) C 43 dX8_costOf_107 (by decide) ?_
            exact j_weak [2, 3, 1, 0] rfl (ih _ _ _ _ _ h)
          · refine j_iload_n (pc := 81) C 2 dX8_costOf_81 rfl ?_
            refine j_iconst (pc := 82) (v := (3 : Int32)) C dX8_costOf_82 rfl ?_
            refine j_icmp_ne (pc := 83) C 101 dX8_costOf_83 (by decide) h (fun h => ?_) (fun h => ?_)
            · refine j_iconst (pc := 101) (v := (0 : Int32)) C dX8_costOf_101 rfl ?_
              refine j_iadd (pc := 102) C dX8_costOf_102 ?_
              refine j_istore_n (pc := 103) C [(2, _), (0, _), (1, _), (3, _)] dX8_costOf_103 (by decide) rfl ?_
              refine j_iinc (pc := 104) (v := (1 : Int32)) C 3 [(3, _), (2, _), (0, _), (1, _)] dX8_costOf_104 rfl rfl (by decide) rfl ?_
              refine j_goto (pc := 107) C 43 dX8_costOf_107 (by decide) ?_
              exact j_weak [2, 3, 1, 0] rfl (ih _ _ _ _ _ h)
            · refine j_aload_n (pc := 86) C 1 dX8_costOf_86 rfl ?_
              refine j_iload_n (pc := 87) C 3 dX8_costOf_87 rfl ?_
              refine cs_X8_267 (pc := 88) C ⟨Nat.le_of_ble_eq_true rfl, Nat.le_of_ble_eq_true rfl⟩ hkc (Nat.le_of_ble_eq_true rfl) dX8_costOf_88 h (fun r13 M13 h => ?_)
              refine j_aload_n (pc := 91) C 1 dX8_costOf_91 rfl ?_
              refine gf_X8_7 (pc := 92) C dX8_costOf_92 h (fun a14 h => ?_)
              refine j_iconst (pc := 95) (v := (5 : Int32)) C dX8_costOf_95 rfl ?_
              refine j_iald (pc := 96) C dX8_costOf_96 h (fun h => ?_)
              refine j_imul (pc := 97) C dX8_costOf_97 ?_
              refine j_goto (pc := 98) C 102 dX8_costOf_98 (by decide) ?_
              refine j_iadd (pc := 102) C dX8_costOf_102 ?_
              refine j_istore_n (pc := 103) C [(2, _), (0, _), (1, _), (3, _)] dX8_costOf_103 (by decide) rfl ?_
              refine j_iinc (pc := 104) (v := (1 : Int32)) C 3 [(3, _), (2, _), (0, _), (1, _)] dX8_costOf_104 rfl rfl (by decide) rfl ?_
              refine j_goto (pc := 107) C 43 dX8_costOf_107 (by decide) ?_
              exact j_weak [2, 3, 1, 0] rfl (ih _ _ _ _ _ h)
        · refine j_aload_n (pc := 64) C 0 dX8_costOf_64 rfl ?_
          refine j_iload_n (pc := 65) C 3 dX8_costOf_65 rfl ?_
          refine cs_X8_270 (pc := 66) C ⟨Nat.le_of_ble_eq_true rfl, Nat.le_of_ble_eq_true rfl⟩ hkc (Nat.le_of_ble_eq_true rfl) dX8_costOf_66 h (fun r15 M15 h => ?_)
          refine j_goto (pc := 69) C 73 dX8_costOf_69 (by decide) ?_
          refine j_iadd (pc := 73) C dX8_costOf_73 ?_
          refine j_istore_n (pc := 74) C [(2, _), (0, _), (1, _), (3, _)] dX8_costOf_74 (by decide) rfl ?_
          refine j_iload_n (pc := 75) C 0 dX8_costOf_75 rfl ?_
          refine j_iload_n (pc := 76) C 2 dX8_costOf_76 rfl ?_
          refine j_iconst (pc := 77) (v := (2 : Int32)) C dX8_costOf_77 rfl ?_
          refine j_icmp_eq (pc := 78) C 86 dX8_costOf_78 (by decide) h (fun h => ?_) (fun h => ?_)
          · refine j_aload_n (pc := 86) C 1 dX8_costOf_86 rfl ?_
            refine j_iload_n (pc := 87) C 3 dX8_costOf_87 rfl ?_
            refine cs_X8_267 (pc := 88) C ⟨Nat.le_of_ble_eq_true rfl, Nat.le_of_ble_eq_true rfl⟩ hkc (Nat.le_of_ble_eq_true rfl) dX8_costOf_88 h (fun r16 M16 h => ?_)
            refine j_aload_n (pc := 91) C 1 dX8_costOf_91 rfl ?_
            refine gf_X8_7 (pc := 92) C dX8_costOf_92 h (fun a17 h => ?_)
            refine j_iconst (pc := 95) (v := (5 : Int32)) C dX8_costOf_95 rfl ?_
            refine j_iald (pc := 96) C dX8_costOf_96 h (fun h => ?_)
            refine j_imul (pc := 97) C dX8_costOf_97 ?_
            refine j_goto (pc := 98) C 102 dX8_costOf_98 (by decide) ?_
            refine j_iadd (pc := 102) C dX8_costOf_102 ?_
            refine j_istore_n (pc := 103) C [(2, _), (0, _), (1, _), (3, _)] dX8_costOf_103 (by decide) rfl ?_
            refine j_iinc (pc := 104) (v := (1 : Int32)) C 3 [(3, _), (2, _), (0, _), (1, _)] dX8_costOf_104 rfl rfl (by decide) rfl ?_
            refine j_goto (pc := 107) C 43 dX8_costOf_107 (by decide) ?_
            exact j_weak [2, 3, 1, 0] rfl (ih _ _ _ _ _ h)
          · refine j_iload_n (pc := 81) C 2 dX8_costOf_81 rfl ?_
            refine j_iconst (pc := 82) (v := (3 : Int32)) C dX8_costOf_82 rfl ?_
            refine j_icmp_ne (pc := 83) C 101 dX8_costOf_83 (by decide) h (fun h => ?_) (fun h => ?_)
            · refine j_iconst (pc := 101) (v := (0 : Int32)) C dX8_costOf_101 rfl ?_
              refine j_iadd (pc := 102) C dX8_costOf_102 ?_
              refine j_istore_n (pc := 103) C [(2, _), (0, _), (1, _), (3, _)] dX8_costOf_103 (by decide) rfl ?_
              refine j_iinc (pc := 104) (v := (1 : Int32)) C 3 [(3, _), (2, _), (0, _), (1, _)] dX8_costOf_104 rfl rfl (by decide) rfl ?_
              refine j_goto (pc := 107) C 43 dX8_costOf_107 (by decide) ?_
              exact j_weak [2, 3, 1, 0] rfl (ih _ _ _ _ _ h)
            · refine j_aload_n (pc := 86) C 1 dX8_costOf_86 rfl ?_
              refine j_iload_n (pc := 87) C 3 dX8_costOf_87 rfl ?_
              refine cs_X8_267 (pc := 88) C ⟨Nat.le_of_ble_eq_true rfl, Nat.le_of_ble_eq_true rfl⟩ hkc (Nat.le_of_ble_eq_true rfl) dX8_costOf_88 h (fun r18 M18 h => ?_)
              refine j_aload_n (pc := 91) C 1 dX8_costOf_91 rfl ?_
              refine gf_X8_7 (pc := 92) C dX8_costOf_92 h (fun a19 h => ?_)
              refine j_iconst (pc := 95) (v := (5 : Int32)) C dX8_costOf_95 rfl ?_
              refine j_iald (pc := 96) C dX8_costOf_96 h (fun h => ?_)
              refine j_imul (pc := 97) C dX8_costOf_97 ?_
              refine j_goto (pc := 98) C 102 dX8_costOf_98 (by decide) ?_
              refine j_iadd (pc := 102) C dX8_costOf_102 ?_
              refine j_istore_n (pc := 103) C [(2, _), (0, _), (1, _), (3, _)] dX8_costOf_103 (by decide) rfl ?_
              refine j_iinc (pc := 104) (v := (1 : Int32)) C 3 [(3, _), (2, _), (0, _), (1, _)] dX8_costOf_104 rfl rfl (by decide) rfl ?_
              refine j_goto (pc := 107) C 43 dX8_costOf_107 (by decide) ?_
              exact j_weak [2, 3, 1, 0] rfl (ih _ _ _ _ _ h)
def w_X8_costOf (M : Mm) (x0 : Nat) (x1 : Int32) (P : Int32 → Mm → Prop) : Prop := (∃ n4, l_X8_costOf_4 P (fun M4 x0_4 x1_4 x2_4 => (∃ n43, l_X8_costOf_43 P (fun M20 x2_20 => P x2_20 M20) n43 M4 x0_4 x1_4 x2_4 (0 : Int32))) n4 M x0 x1 (0 : Int32) (0 : Int32))
set_option maxHeartbeats 4000000 in
set_option maxRecDepth 100000 in
theorem c_X8_costOf (l : Launch) (E : EV) (M : Mm) (x0 : Nat) (x1 : Int32) (P : Int32 → Mm → Prop) (h : w_X8_costOf M x0 x1 P) : CtI l E yX8_costOf cX8_costOf 4 .int rm_X8_costOf 0 0 [.ref x0, .int x1] M P := by
  refine ctI_of (by decide +kernel) (Nat.le_of_ble_eq_true rfl) ?_
  intro p e s m args below meth c C
  rw [w_X8_costOf] at h
  show J p l e rm_X8_costOf s m args below meth c (QI below E P args s 0 0) E 4 M 0 0 0 [(0, .ref x0), (1, .int x1)] []
  refine j_iconst (pc := 0) (v := (0 : Int32)) C dX8_costOf_0 rfl ?_
  refine j_istore_n (pc := 1) C [(2, _), (0, _), (1, _)] dX8_costOf_1 (by decide) rfl ?_
  refine j_iconst (pc := 2) (v := (0 : Int32)) C dX8_costOf_2 rfl ?_
  refine j_istore_n (pc := 3) C [(3, _), (2, _), (0, _), (1, _)] dX8_costOf_3 (by decide) rfl ?_
  obtain ⟨n4, h⟩ := h
  refine j_weak [2, 3, 1, 0] rfl (jl_X8_costOf_4 C ⟨Nat.le_of_ble_eq_true rfl, Nat.le_of_ble_eq_true rfl⟩ (fun M4 x0_4 x1_4 x2_4 h => ?_) n4 _ _ _ _ _ h)
  · refine j_iconst (pc := 41) (v := (0 : Int32)) C dX8_costOf_41 rfl ?_
    refine j_istore_n (pc := 42) C [(3, _), (0, _), (1, _), (2, _)] dX8_costOf_42 (by decide) rfl ?_
    obtain ⟨n43, h⟩ := h
    refine j_weak [1, 2, 3, 0] rfl (jl_X8_costOf_43 C ⟨Nat.le_of_ble_eq_true rfl, Nat.le_of_ble_eq_true rfl⟩ (fun M20 x2_20 h => ?_) n43 _ _ _ _ _ h)
    · refine j_iload_n (pc := 110) C 0 dX8_costOf_110 rfl ?_
      exact j_iret (pc := 111) C dX8_costOf_111 (Nat.le_of_ble_eq_true rfl) (Nat.le_of_ble_eq_true rfl) h
end GW24
