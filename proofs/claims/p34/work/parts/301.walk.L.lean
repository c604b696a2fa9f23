/-! written by a program (wip/p34/gen.py) out of the decode rows and the tables: walks of the law -/

section GL1
variable {p : Program} {l : Launch} {e : Env} {R : Room} {s : State} {m : MethodId} {args : Array Value} {below : List Frame} {meth : Method} {c : Code} {Q : State → Prop} {cc : ByteArray} {nL : Nat} {ret : Option FieldType} {E : EV} {M : Mm} {kc ks pc : Nat} {lo : List (Nat × Value)} {st : List Value}
abbrev rm_X8_isRehearsed : Room := { frames := 1, cells := 0, slots := 0, locals := 25 }
def l_X8_isRehearsed_12 (P : Int32 → Mm → Prop) (K73 : Mm → Prop) (K81 : Mm → Nat → Int32 → Prop) : Nat → Mm → Nat → Int32 → Int32 → Prop
  | 0, _, _, _, _ => False
  | n + 1, M, x0, x1, x2 => zk M x0 = 8 ∧ (if (zI M x0 3) ≤ x2 then K81 M x0 x1 else (zk M x0 = 8 ∧ ∃ a3, zR M x0 14 = some a3 ∧ (zk M a3 = 14 ∧ vp_in x1 (zl M a3) ∧ ∃ a4, zR M a3 x1.toNatClampNeg = some a4 ∧ zk M a4 = 10 ∧ vp_in (2 : Int32) (zl M a4) ∧ (if (zI M a4 (2 : Int32).toNatClampNeg) = (1 : Int32) then (zk M x0 = 8 ∧ ∃ a5, zR M x0 14 = some a5 ∧ (zk M a5 = 14 ∧ vp_in x1 (zl M a5) ∧ ∃ a6, zR M a5 x1.toNatClampNeg = some a6 ∧ zk M a6 = 10 ∧ vp_in (3 : Int32) (zl M a6) ∧ (if (((zI M a6 (3 : Int32).toNatClampNeg) >>> (x2 &&& 31)) &&& (1 : Int32)) = (1 : Int32) then (zk M x0 = 8 ∧ ∃ a7, zR M x0 14 = some a7 ∧ (zk M a7 = 14 ∧ vp_in x1 (zl M a7) ∧ ∃ a8, zR M a7 x1.toNatClampNeg = some a8 ∧ zk M a8 = 10 ∧ vp_in (0 : Int32) (zl M a8) ∧ zk M x0 = 8 ∧ w_X8_rehearsals M x0 x2 (zI M a8 (0 : Int32).toNatClampNeg) (-1 : Int32) (fun r9 M9 => (zk M9 x0 = 8 ∧ ∃ a10, zR M9 x0 12 = some a10 ∧ (zk M9 a10 = 14 ∧ vp_in x2 (zl M9 a10) ∧ ∃ a11, zR M9 a10 x2.toNatClampNeg = some a11 ∧ zk M9 a11 = 10 ∧ vp_in (0 : Int32) (zl M9 a11) ∧ (if (zI M9 a11 (0 : Int32).toNatClampNeg) ≤ r9 then l_X8_isRehearsed_12 P K73 K81 n M9 x0 x1 (x2 + (1 : Int32)) else K73 M9)))))) else l_X8_isRehearsed_12 P K73 K81 n M x0 x1 (x2 + (1 : Int32))))) else l_X8_isRehearsed_12 P K73 K81 n M x0 x1 (x2 + (1 : Int32))))))
set_option maxHeartbeats 4000000 in
set_option maxRecDepth 100000 in
theorem jl_X8_isRehearsed_12 {P : Int32 → Mm → Prop} {K73 : Mm → Prop} {K81 : Mm → Nat → Int32 → Prop} (C : Cx p l s m args meth c cX8_isRehearsed 3 RX8 (some .boolean) E) (hkc : kc ≤ rm_X8_isRehearsed.cells ∧ ks ≤ rm_X8_isRehearsed.slots) (k73 : ∀ M, K73 M → J p l e rm_X8_isRehearsed s m args below meth c (QI below E P args s rm_X8_isRehearsed.cells rm_X8_isRehearsed.slots) E 3 M kc ks 73 [] []) (k81 : ∀ M x0 x1, K81 M x0 x1 → J p l e rm_X8_isRehearsed s m args below meth c (QI below E P args s rm_X8_isRehearsed.cells rm_X8_isRehearsed.slots) E 3 M kc ks 81 [(0, .ref x0), (1, .int x1)] []) : ∀ n M x0 x1 x2, l_X8_isRehearsed_12 P K73 K81 n M x0 x1 x2 → J p l e rm_X8_isRehearsed s m args below meth c (QI below E P args s rm_X8_isRehearsed.cells rm_X8_isRehearsed.slots) E 3 M kc ks 12 [(0, .ref x0), (1, .int x1), (2, .int x2)] [] := by
  intro n
  induction n with
  | zero => intro M x0 x1 x2 h; exact h.elim
  | succ n ih =>
    intro M x0 x1 x2 h
    rw [l_X8_isRehearsed_12] at h
    refine j_iload_n (pc := 12) C 2 dX8_isRehearsed_12 rfl ?_
    refine j_aload_n (pc := 13) C 0 dX8_isRehearsed_13 rfl ?_
    refine gf_X8_77 (pc := 14) C dX8_isRehearsed_14 h (fun h => ?_)
    refine j_icmp_ge (pc := 17) C 81 dX8_isRehearsed_17 (by decide) h (fun h => ?_) (fun h => ?_)
    · exact j_weak [0, 1] rfl (k81 _ _ _ h)
    · refine j_aload_n (pc := 20) C 0 dX8_isRehearsed_20 rfl ?_
      refine gf_X8_33 (pc := 21) C dX8_isRehearsed_21 h (fun a3 h => ?_)
      refine j_iload_n (pc := 24) C 1 dX8_isRehearsed_24 rfl ?_
      refine j_aals (pc := 25) C (by decide) dX8_isRehearsed_25 h (fun a4 h => ?_)
      refine j_iconst (pc := 26) (v := (2 : Int32)) C dX8_isRehearsed_26 rfl ?_
      refine j_iald (pc := 27) C dX8_isRehearsed_27 h (fun h => ?_)
      refine j_iconst (pc := 28) (v := (1 : Int32)) C dX8_isRehearsed_28 rfl ?_
      refine j_icmp_ne (pc := 29) C 75 dX8_isRehearsed_29 (by decide) h (fun h => ?_) (fun h => ?_)
      · refine j_iinc (pc := 75) (v := (1 : Int32)) C 2 [(2, _), (0, _), (1, _)] dX8_isRehearsed_75 rfl rfl (by decide) rfl ?_
        refine j_goto (pc := 78) C 12 dX8_isRehearsed_78 (by decide) ?_
        exact j_weak [1, 2, 0] rfl (ih _ _ _ _ h)
      · refine j_aload_n (pc := 32) C 0 dX8_isRehearsed_32 rfl ?_
        refine gf_X8_33 (pc := 33) C dX8_isRehearsed_33 h (fun a5 h => ?_)
        refine j_iload_n (pc := 36) C 1 dX8_isRehearsed_36 rfl ?_
        refine j_aals (pc := 37) C (by decide) dX8_isRehearsed_37 h (fun a6 h => ?_)
        refine j_iconst (pc := 38) (v := (3 : Int32)) C dX8_isRehearsed_38 rfl ?_
        refine j_iald (pc := 39) C dX8_isRehearsed_39 h (fun h => ?_)
        refine j_iload_n (pc := 40) C 2 dX8_isRehearsed_40 rfl ?_
        refine j_ishr (pc := 41) C dX8_isRehearsed_41 ?_
        refine j_iconst (pc := 42) (v := (1 : Int32)) C dX8_isRehearsed_42 rfl ?_
        refine j_iand (pc := 43) C dX8_isRehearsed_43 ?_
        refine j_iconst (pc := 44) (v := (1 : Int32)) C dX8_isRehearsed_44 rfl ?_
        refine j_icmp_ne (pc := 45) C 75 dX8_isRehearsed_45 (by decide) h (fun h => ?_) (fun h => ?_)
        · refine j_iinc (pc := 75) (v := (1 : Int32)) C 2 [(2, _), (0, _), (1, _)] dX8_isRehearsed_75 rfl rfl (by decide) rfl ?_
          refine j_goto (pc := 78) C 12 dX8_isRehearsed_78 (by decide) ?_
          exact j_weak [1, 2, 0] rfl (ih _ _ _ _ h)
        · refine j_aload_n (pc := 48) C 0 dX8_isRehearsed_48 rfl ?_
          refine j_iload_n (pc := 49) C 2 dX8_isRehearsed_49 rfl ?_
          refine j_aload_n (pc := 50) C 0 dX8_isRehearsed_50 rfl ?_
          refine gf_X8_33 (pc := 51) C dX8_isRehearsed_51 h (fun a7 h => ?_)
          refine j_iload_n (pc := 54) C 1 dX8_isRehearsed_54 rfl ?_
          refine j_aals (pc := 55) C (by decide) dX8_isRehearsed_55 h (fun a8 h => ?_)
          refine j_iconst (pc := 56) (v := (0 : Int32)) C dX8_isRehearsed_56 rfl ?_
          refine j_iald (pc := 57) C dX8_isRehearsed_57 h (fun h => ?_)
          refine j_iconst (pc := 58) (v := (-1 : Int32)) C dX8_isRehearsed_58 rfl ?_
          refine c2_X8_86 (pc := 59) C ⟨(Nat.le_of_ble_eq_true rfl), (Nat.le_of_ble_eq_true rfl)⟩ hkc (Nat.le_of_ble_eq_true rfl) dX8_isRehearsed_59 h (fun r9 M9 h => ?_)
          refine j_aload_n (pc := 62) C 0 dX8_isRehearsed_62 rfl ?_
          refine gf_X8_27 (pc := 63) C dX8_isRehearsed_63 h (fun a10 h => ?_)
          refine j_iload_n (pc := 66) C 2 dX8_isRehearsed_66 rfl ?_
          refine j_aals (pc := 67) C (by decide) dX8_isRehearsed_67 h (fun a11 h => ?_)
          refine j_iconst (pc := 68) (v := (0 : Int32)) C dX8_isRehearsed_68 rfl ?_
          refine j_iald (pc := 69) C dX8_isRehearsed_69 h (fun h => ?_)
          refine j_icmp_ge (pc := 70) C 75 dX8_isRehearsed_70 (by decide) h (fun h => ?_) (fun h => ?_)
          · refine j_iinc (pc := 75) (v := (1 : Int32)) C 2 [(2, _), (0, _), (1, _)] dX8_isRehearsed_75 rfl rfl (by decide) rfl ?_
            refine j_goto (pc := 78) C 12 dX8_isRehearsed_78 (by decide) ?_
            exact j_weak [1, 2, 0] rfl (ih _ _ _ _ h)
          · exact j_weak [] rfl (k73 _ h)
def l_X8_isRehearsed_2 (P : Int32 → Mm → Prop) (K73 : Mm → Prop) (K87 : Mm → Prop) : Nat → Mm → Nat → Int32 → Prop
  | 0, _, _, _ => False
  | n + 1, M, x0, x1 => zk M x0 = 8 ∧ (if (zI M x0 6) ≤ x1 then K87 M else (∃ n12, l_X8_isRehearsed_12 P (fun M12 => K73 M12) (fun M13 x0_13 x1_13 => l_X8_isRehearsed_2 P K73 K87 n M13 x0_13 (x1_13 + (1 : Int32))) n12 M x0 x1 (0 : Int32)))
set_option maxHeartbeats 4000000 in
set_option maxRecDepth 100000 in
theorem jl_X8_isRehearsed_2 {P : Int32 → Mm → Prop} {K73 : Mm → Prop} {K87 : Mm → Prop} (C : Cx p l s m args meth c cX8_isRehearsed 3 RX8 (some .boolean) E) (hkc : kc ≤ rm_X8_isRehearsed.cells ∧ ks ≤ rm_X8_isRehearsed.slots) (k73 : ∀ M, K73 M → J p l e rm_X8_isRehearsed s m args below meth c (QI below E P args s rm_X8_isRehearsed.cells rm_X8_isRehearsed.slots) E 3 M kc ks 73 [] []) (k87 : ∀ M, K87 M → J p l e rm_X8_isRehearsed s m args below meth c (QI below E P args s rm_X8_isRehearsed.cells rm_X8_isRehearsed.slots) E 3 M kc ks 87 [] []) : ∀ n M x0 x1, l_X8_isRehearsed_2 P K73 K87 n M x0 x1 → J p l e rm_X8_isRehearsed s m args below meth c (QI below E P args s rm_X8_isRehearsed.cells rm_X8_isRehearsed.slots) E 3 M kc ks 2 [(0, .ref x0), (1, .int x1)] [] := by
  intro n
  induction n with
  | zero => intro M x0 x1 h; exact h.elim
  | succ n ih =>
    intro M x0 x1 h
    rw [l_X8_isRehearsed_2] at h
    refine j_iload_n (pc := 2) C 1 dX8_isRehearsed_2 rfl ?_
    refine j_aload_n (pc := 3) C 0 dX8_isRehearsed_3 rfl ?_
    refine gf_X8_41 (pc := 4) C dX8_isRehearsed_4 h (fun h => ?_)
    refine j_icmp_ge (pc := 7) C 87 dX8_isRehearsed_7 (by decide) h (fun h => ?_) (fun h => ?_)
    · exact j_weak [] rfl (k87 _ h)
    · refine j_iconst (pc := 10) (v := (0 : Int32)) C dX8_isRehearsed_10 rfl ?_
      refine j_istore_n (pc := 11) C [(2, _), (0, _), (1, _)] dX8_isRehearsed_11 (by decide) rfl ?_
      obtain ⟨n12, h⟩ := h
      refine j_weak [1, 2, 0] rfl (jl_X8_isRehearsed_12 C hkc (fun M12 h => ?_) (fun M13 x0_13 x1_13 h => ?_) n12 _ _ _ _ h)
      · exact j_weak [] rfl (k73 _ h)
      · refine j_iinc (pc := 81) (v := (1 : Int32)) C 1 [(1, _), (0, _)] dX8_isRehearsed_81 rfl rfl (by decide) rfl ?_
        refine j_goto (pc := 84) C 2 dX8_isRehearsed_84 (by decide) ?_
        exact j_weak [1, 0] rfl (ih _ _ _ h)
def w_X8_isRehearsed (M : Mm) (x0 : Nat) (P : Int32 → Mm → Prop) : Prop := (∃ n2, l_X8_isRehearsed_2 P (fun M14 => ((0 : Int32) = 0 ∨ (0 : Int32) = 1) ∧ P (0 : Int32) M14) (fun M15 => ((1 : Int32) = 0 ∨ (1 : Int32) = 1) ∧ P (1 : Int32) M15) n2 M x0 (0 : Int32))
set_option maxHeartbeats 4000000 in
set_option maxRecDepth 100000 in
theorem c_X8_isRehearsed (l : Launch) (E : EV) (M : Mm) (x0 : Nat) (P : Int32 → Mm → Prop) (h : w_X8_isRehearsed M x0 P) : CtI l E yX8_isRehearsed cX8_isRehearsed 3 .boolean rm_X8_isRehearsed 0 0 [.ref x0] M P := by
  refine ctI_of (by decide +kernel) (Nat.le_of_ble_eq_true rfl) ?_
  intro p e s m args below meth c C
  rw [w_X8_isRehearsed] at h
  show J p l e rm_X8_isRehearsed s m args below meth c (QI below E P args s 0 0) E 3 M 0 0 0 [(0, .ref x0)] []
  refine j_iconst (pc := 0) (v := (0 : Int32)) C dX8_isRehearsed_0 rfl ?_
  refine j_istore_n (pc := 1) C [(1, _), (0, _)] dX8_isRehearsed_1 (by decide) rfl ?_
  obtain ⟨n2, h⟩ := h
  refine j_weak [1, 0] rfl (jl_X8_isRehearsed_2 C ⟨Nat.le_of_ble_eq_true rfl, Nat.le_of_ble_eq_true rfl⟩ (fun M14 h => ?_) (fun M15 h => ?_) n2 _ _ _ h)
  · refine j_iconst (pc := 73) (v := (0 : Int32)) C dX8_isRehearsed_73 rfl ?_
    exact j_zret (pc := 74) C dX8_isRehearsed_74 (Nat.le_of_ble_eq_true rfl) (Nat.le_of_ble_eq_true rfl) h
  · refine j_iconst (pc := 87) (v := (1 : Int32)) C dX8_isRehearsed_87 rfl ?_
    exact j_zret (pc := 88) C dX8_isRehearsed_88 (Nat.le_of_ble_eq_true rfl) (Nat.le_of_ble_eq_true rfl) h
abbrev rm_X8_takesOff : Room := { frames := 0, cells := 0, slots := 0, locals := 0 }
def l_X8_takesOff_12 (P : Mm → Prop) (K54 : Mm → Prop) : Nat → Mm → Nat → Int32 → Prop
  | 0, _, _, _ => False
  | n + 1, M, x0, x2 => zk M x0 = 8 ∧ (if (zI M x0 6) ≤ x2 then K54 M else (zk M x0 = 8 ∧ ∃ a4, zR M x0 14 = some a4 ∧ (zk M x0 = 8 ∧ ∃ a5, zR M x0 14 = some a5 ∧ (zk M a5 = 14 ∧ vp_in (x2 + (1 : Int32)) (zl M a5) ∧ ∃ a6, zR M a5 (x2 + (1 : Int32)).toNatClampNeg = some a6 ∧ zk M a4 = 14 ∧ zk M a6 = 10 ∧ vp_in x2 (zl M a4) ∧ (∀ M7, M7 = sR M a4 x2.toNatClampNeg (some a6) → (zk M7 x0 = 8 ∧ ∃ a8, zR M7 x0 15 = some a8 ∧ (zk M7 x0 = 8 ∧ ∃ a9, zR M7 x0 15 = some a9 ∧ (zk M7 a9 = 15 ∧ vp_in (x2 + (1 : Int32)) (zl M7 a9) ∧ ∃ a10, zR M7 a9 (x2 + (1 : Int32)).toNatClampNeg = some a10 ∧ zk M7 a8 = 15 ∧ zk M7 a10 = 14 ∧ vp_in x2 (zl M7 a8) ∧ (∀ M11, M11 = sR M7 a8 x2.toNatClampNeg (some a10) → l_X8_takesOff_12 P K54 n M11 x0 (x2 + (1 : Int32)))))))))))
set_option maxHeartbeats 4000000 in
set_option maxRecDepth 100000 in
theorem jl_X8_takesOff_12 {P : Mm → Prop} {K54 : Mm → Prop} (C : Cx p l s m args meth c cX8_takesOff 3 RX8 none E) (hkc : kc ≤ rm_X8_takesOff.cells ∧ ks ≤ rm_X8_takesOff.slots) (k54 : ∀ M, K54 M → J p l e rm_X8_takesOff s m args below meth c (QV below E P args s rm_X8_takesOff.cells rm_X8_takesOff.slots) E 3 M kc ks 54 [] []) : ∀ n M x0 x2, l_X8_takesOff_12 P K54 n M x0 x2 → J p l e rm_X8_takesOff s m args below meth c (QV below E P args s rm_X8_takesOff.cells rm_X8_takesOff.slots) E 3 M kc ks 12 [(0, .ref x0), (2, .int x2)] [] := by
  intro n
  induction n with
  | zero => intro M x0 x2 h; exact h.elim
  | succ n ih =>
    intro M x0 x2 h
    rw [l_X8_takesOff_12] at h
    refine j_iload_n (pc := 12) C 1 dX8_takesOff_12 rfl ?_
    refine j_aload_n (pc := 13) C 0 dX8_takesOff_13 rfl ?_
    refine gf_X8_41 (pc := 14) C dX8_takesOff_14 h (fun h => ?_)
    refine j_icmp_ge (pc := 17) C 54 dX8_takesOff_17 (by decide) h (fun h => ?_) (fun h => ?_)
    · exact j_weak [] rfl (k54 _ h)
    · refine j_aload_n (pc := 20) C 0 dX8_takesOff_20 rfl ?_
      refine gf_X8_33 (pc := 21) C dX8_takesOff_21 h (fun a4 h => ?_)
      refine j_iload_n (pc := 24) C 1 dX8_takesOff_24 rfl ?_
      refine j_aload_n (pc := 25) C 0 dX8_takesOff_25 rfl ?_
      refine gf_X8_33 (pc := 26) C dX8_takesOff_26 h (fun a5 h => ?_)
      refine j_iload_n (pc := 29) C 1 dX8_takesOff_29 rfl ?_
      refine j_iconst (pc := 30) (v := (1 : Int32)) C dX8_takesOff_30 rfl ?_
      refine j_iadd (pc := 31) C dX8_takesOff_31 ?_
      refine j_aals (pc := 32) C (by decide) dX8_takesOff_32 h (fun a6 h => ?_)
      refine n_aas2 (pc := 33) C (by decide) dX8_takesOff_33 h (fun M7 h => ?_)
      refine j_aload_n (pc := 34) C 0 dX8_takesOff_34 rfl ?_
      refine gf_X8_37 (pc := 35) C dX8_takesOff_35 h (fun a8 h => ?_)
      refine j_iload_n (pc := 38) C 1 dX8_takesOff_38 rfl ?_
      refine j_aload_n (pc := 39) C 0 dX8_takesOff_39 rfl ?_
      refine gf_X8_37 (pc := 40) C dX8_takesOff_40 h (fun a9 h => ?_)
      refine j_iload_n (pc := 43) C 1 dX8_takesOff_43 rfl ?_
      refine j_iconst (pc := 44) (v := (1 : Int32)) C dX8_takesOff_44 rfl ?_
      refine j_iadd (pc := 45) C dX8_takesOff_45 ?_
      refine j_aals (pc := 46) C (by decide) dX8_takesOff_46 h (fun a10 h => ?_)
      refine n_aas2 (pc := 47) C (by decide) dX8_takesOff_47 h (fun M11 h => ?_)
      refine j_iinc (pc := 48) (v := (1 : Int32)) C 1 [(2, _), (0, _)] dX8_takesOff_48 rfl rfl (by decide) rfl ?_
      refine j_goto (pc := 51) C 12 dX8_takesOff_51 (by decide) ?_
      exact j_weak [1, 0] rfl (ih _ _ _ h)
def w_X8_takesOff (M : Mm) (x0 : Nat) (x1 : Int32) (P : Mm → Prop) : Prop := zk M x0 = 8 ∧ zk M x0 = 8 ∧ (∀ M2, M2 = sI M x0 6 ((zI M x0 6) - (1 : Int32)) → (∃ n12, l_X8_takesOff_12 P (fun M12 => P M12) n12 M2 x0 x1))
set_option maxHeartbeats 4000000 in
set_option maxRecDepth 100000 in
theorem c_X8_takesOff (l : Launch) (E : EV) (M : Mm) (x0 : Nat) (x1 : Int32) (P : Mm → Prop) (h : w_X8_takesOff M x0 x1 P) : CtV l E yX8_takesOff cX8_takesOff 3 rm_X8_takesOff 0 0 [.ref x0, .int x1] M P := by
  refine ctV_of (by decide +kernel) (Nat.le_of_ble_eq_true rfl) ?_
  intro p e s m args below meth c C hnm
  rw [w_X8_takesOff] at h
  show J p l e rm_X8_takesOff s m args below meth c (QV below E P args s 0 0) E 3 M 0 0 0 [(0, .ref x0), (1, .int x1)] []
  refine j_aload_n (pc := 0) C 0 dX8_takesOff_0 rfl ?_
  refine j_dup (pc := 1) C dX8_takesOff_1 rfl ?_
  refine gf_X8_41 (pc := 2) C dX8_takesOff_2 h (fun h => ?_)
  refine j_iconst (pc := 5) (v := (1 : Int32)) C dX8_takesOff_5 rfl ?_
  refine j_isub (pc := 6) C dX8_takesOff_6 ?_
  refine pf_X8_41 (pc := 7) C dX8_takesOff_7 h (fun M2 h => ?_)
  refine j_iload_n (pc := 10) C 1 dX8_takesOff_10 rfl ?_
  refine j_istore_n (pc := 11) C [(2, _), (0, _), (1, _)] dX8_takesOff_11 (by decide) rfl ?_
  obtain ⟨n12, h⟩ := h
  refine j_weak [1, 0] rfl (jl_X8_takesOff_12 C ⟨Nat.le_of_ble_eq_true rfl, Nat.le_of_ble_eq_true rfl⟩ (fun M12 h => ?_) n12 _ _ _ h)
  · exact j_vret (pc := 54) C dX8_takesOff_54 (Nat.le_of_ble_eq_true rfl) (Nat.le_of_ble_eq_true rfl) h
abbrev rm_X8_comes (B S : Nat) : Room := { frames := 10, cells := B, slots := S, locals := 270 }
def l_X8_comes_9 (B S : Nat) (P : Int32 → Mm → Prop) (K47 : Mm → Nat → Nat → Nat → Int32 → Int32 → Int32 → Int32 → Nat → Prop) : Nat → Mm → Nat → Nat → Nat → Int32 → Int32 → Int32 → Int32 → Nat → Int32 → Prop
  | 0, _, _, _, _, _, _, _, _, _, _ => False
  | n + 1, M, b, s, x0, x1, x2, x3, x4, x5, x6 => zk M x0 = 8 ∧ (if (zI M x0 3) ≤ x6 then K47 M b s x0 x1 x2 x3 x4 x5 else (if ((x3 >>> (x6 &&& 31)) &&& (1 : Int32)) = (1 : Int32) then ∃ b3 s3, b + b3 ≤ B ∧ s + s3 ≤ S ∧ zk M x0 = 8 ∧ w_X8_cast M x0 x6 x2 (-1 : Int32) (fun r3 M3 => ∃ a3, r3 = some a3 ∧ zk M3 x5 = 14 ∧ zk M3 a3 = 10 ∧ vp_in x6 (zl M3 x5) ∧ (∀ M4, M4 = sR M3 x5 x6.toNatClampNeg (some a3) → l_X8_comes_9 B S P K47 n M4 (b + b3) (s + s3) x0 x1 x2 x3 x4 x5 (x6 + (1 : Int32)))) b3 s3 else l_X8_comes_9 B S P K47 n M b s x0 x1 x2 x3 x4 x5 (x6 + (1 : Int32))))
set_option maxHeartbeats 4000000 in
set_option maxRecDepth 100000 in
theorem jl_X8_comes_9 {s0 : State} {B S : Nat} {P : Int32 → Mm → Prop} {K47 : Mm → Nat → Nat → Nat → Int32 → Int32 → Int32 → Int32 → Nat → Prop} (C : Cx p l s0 m args meth c cX8_comes 7 RX8 (some .int) E) (k47 : ∀ M b s x0 x1 x2 x3 x4 x5, b ≤ B → s ≤ S → K47 M b s x0 x1 x2 x3 x4 x5 → J p l e (rm_X8_comes B S) s0 m args below meth c (QI below E P args s0 B S) E 7 M b s 47 [(0, .ref x0), (1, .int x1), (2, .int x2), (3, .int x3), (4, .int x4), (5, .ref x5)] []) : ∀ n M b s x0 x1 x2 x3 x4 x5 x6, b ≤ B → s ≤ S → l_X8_comes_9 B S P K47 n M b s x0 x1 x2 x3 x4 x5 x6 → J p l e (rm_X8_comes B S) s0 m args below meth c (QI below E P args s0 B S) E 7 M b s 9 [(0, .ref x0), (1, .int x1), (2, .int x2), (3, .int x3), (4, .int x4), (5, .ref x5), (6, .int x6)] [] := by
  intro n
  induction n with
  | zero => intro M b s x0 x1 x2 x3 x4 x5 x6 hb hs h; exact h.elim
  | succ n ih =>
    intro M b s x0 x1 x2 x3 x4 x5 x6 hb hs h
    rw [l_X8_comes_9] at h
    refine j_iload (pc := 9) C 6 dX8_comes_9 rfl ?_
    refine j_aload_n (pc := 11) C 0 dX8_comes_11 rfl ?_
    refine gf_X8_77 (pc := 12) C dX8_comes_12 h (fun h => ?_)
    refine j_icmp_ge (pc := 15) C 47 dX8_comes_15 (by decide) h (fun h => ?_) (fun h => ?_)
    · exact j_weak [0, 1, 2, 3, 4, 5] rfl (k47 _ _ _ _ _ _ _ _ _ hb hs h)
    · refine j_iload_n (pc := 18) C 3 dX8_comes_18 rfl ?_
      refine j_iload (pc := 19) C 6 dX8_comes_19 rfl ?_
      refine j_ishr (pc := 21) C dX8_comes_21 ?_
      refine j_iconst (pc := 22) (v := (1 : Int32)) C dX8_comes_22 rfl ?_
      refine j_iand (pc := 23) C dX8_comes_23 ?_
      refine j_iconst (pc := 24) (v := (1 : Int32)) C dX8_comes_24 rfl ?_
      refine j_icmp_ne (pc := 25) C 41 dX8_comes_25 (by decide) h (fun h => ?_) (fun h => ?_)
      · refine j_iinc (pc := 41) (v := (1 : Int32)) C 6 [(6, _), (0, _), (1, _), (2, _), (3, _), (4, _), (5, _)] dX8_comes_41 rfl rfl (by decide) rfl ?_
        refine j_goto (pc := 44) C 9 dX8_comes_44 (by decide) ?_
        exact j_weak [1, 2, 3, 4, 5, 6, 0] rfl (ih _ _ _ _ _ _ _ _ _ _ hb hs h)
      · refine j_aload (pc := 28) C 5 dX8_comes_28 rfl ?_
        refine j_iload (pc := 30) C 6 dX8_comes_30 rfl ?_
        refine j_aload_n (pc := 32) C 0 dX8_comes_32 rfl ?_
        refine j_iload (pc := 33) C 6 dX8_comes_33 rfl ?_
        refine j_iload_n (pc := 35) C 2 dX8_comes_35 rfl ?_
        refine j_iconst (pc := 36) (v := (-1 : Int32)) C dX8_comes_36 rfl ?_
        obtain ⟨b3, s3, hb, hs, h⟩ := h
        refine c2_X8_90 (pc := 37) C ⟨(Nat.le_of_ble_eq_true rfl), (Nat.le_of_ble_eq_true rfl)⟩ ⟨hb, hs⟩ (Nat.le_of_ble_eq_true rfl) dX8_comes_37 h (fun r3 M3 h => ?_)
        obtain ⟨a3, rfl, h⟩ := h
        refine n_aas2 (pc := 40) C (by decide) dX8_comes_40 h (fun M4 h => ?_)
        refine j_iinc (pc := 41) (v := (1 : Int32)) C 6 [(6, _), (0, _), (1, _), (2, _), (3, _), (4, _), (5, _)] dX8_comes_41 rfl rfl (by decide) rfl ?_
        refine j_goto (pc := 44) C 9 dX8_comes_44 (by decide) ?_
        exact j_weak [1, 2, 3, 4, 5, 6, 0] rfl (ih _ _ _ _ _ _ _ _ _ _ hb hs h)
def l_X8_comes_53 (B S : Nat) (P : Int32 → Mm → Prop) (K141 : Mm → Nat → Nat → Nat → Int32 → Int32 → Int32 → Int32 → Nat → Int32 → Prop) : Nat → Mm → Nat → Nat → Nat → Int32 → Int32 → Int32 → Int32 → Nat → Int32 → Prop
  | 0, _, _, _, _, _, _, _, _, _, _ => False
  | n + 1, M, b, s, x0, x1, x2, x3, x4, x5, x6 => (if x6 ≤ 0 then K141 M b s x0 x1 x2 x3 x4 x5 x6 else (zk M x0 = 8 ∧ ∃ a7, zR M x0 14 = some a7 ∧ (zk M a7 = 14 ∧ vp_in (x6 - (1 : Int32)) (zl M a7) ∧ ∃ a8, zR M a7 (x6 - (1 : Int32)).toNatClampNeg = some a8 ∧ zk M a8 = 10 ∧ vp_in (0 : Int32) (zl M a8) ∧ (if x2 < (zI M a8 (0 : Int32).toNatClampNeg) then (zk M x0 = 8 ∧ ∃ a9, zR M x0 14 = some a9 ∧ (zk M x0 = 8 ∧ ∃ a10, zR M x0 14 = some a10 ∧ (zk M a10 = 14 ∧ vp_in (x6 - (1 : Int32)) (zl M a10) ∧ ∃ a11, zR M a10 (x6 - (1 : Int32)).toNatClampNeg = some a11 ∧ zk M a9 = 14 ∧ zk M a11 = 10 ∧ vp_in x6 (zl M a9) ∧ (∀ M12, M12 = sR M a9 x6.toNatClampNeg (some a11) → (zk M12 x0 = 8 ∧ ∃ a13, zR M12 x0 15 = some a13 ∧ (zk M12 x0 = 8 ∧ ∃ a14, zR M12 x0 15 = some a14 ∧ (zk M12 a14 = 15 ∧ vp_in (x6 - (1 : Int32)) (zl M12 a14) ∧ ∃ a15, zR M12 a14 (x6 - (1 : Int32)).toNatClampNeg = some a15 ∧ zk M12 a13 = 15 ∧ zk M12 a15 = 14 ∧ vp_in x6 (zl M12 a13) ∧ (∀ M16, M16 = sR M12 a13 x6.toNatClampNeg (some a15) → l_X8_comes_53 B S P K141 n M16 b s x0 x1 x2 x3 x4 x5 (x6 + (-1 : Int32)))))))))) else (zk M x0 = 8 ∧ ∃ a17, zR M x0 14 = some a17 ∧ (zk M a17 = 14 ∧ vp_in (x6 - (1 : Int32)) (zl M a17) ∧ ∃ a18, zR M a17 (x6 - (1 : Int32)).toNatClampNeg = some a18 ∧ zk M a18 = 10 ∧ vp_in (0 : Int32) (zl M a18) ∧ (if (zI M a18 (0 : Int32).toNatClampNeg) = x2 then (zk M x0 = 8 ∧ ∃ a19, zR M x0 14 = some a19 ∧ (zk M a19 = 14 ∧ vp_in (x6 - (1 : Int32)) (zl M a19) ∧ ∃ a20, zR M a19 (x6 - (1 : Int32)).toNatClampNeg = some a20 ∧ zk M a20 = 10 ∧ vp_in (1 : Int32) (zl M a20) ∧ (if (zI M a20 (1 : Int32).toNatClampNeg) ≤ x1 then K141 M b s x0 x1 x2 x3 x4 x5 x6 else (zk M x0 = 8 ∧ ∃ a21, zR M x0 14 = some a21 ∧ (zk M x0 = 8 ∧ ∃ a22, zR M x0 14 = some a22 ∧ (zk M a22 = 14 ∧ vp_in (x6 - (1 : Int32)) (zl M a22) ∧ ∃ a23, zR M a22 (x6 - (1 : Int32)).toNatClampNeg = some a23 ∧ zk M a21 = 14 ∧ zk M a23 = 10 ∧ vp_in x6 (zl M a21) ∧ (∀ M24, M24 = sR M a21 x6.toNatClampNeg (some a23) → (zk M24 x0 = 8 ∧ ∃ a25, zR M24 x0 15 = some a25 ∧ (zk M24 x0 = 8 ∧ ∃ a26, zR M24 x0 15 = some a26 ∧ (zk M24 a26 = 15 ∧ vp_in (x6 - (1 : Int32)) (zl M24 a26) ∧ ∃ a27, zR M24 a26 (x6 - (1 : Int32)).toNatClampNeg = some a27 ∧ zk M24 a25 = 15 ∧ zk M24 a27 = 14 ∧ vp_in x6 (zl M24 a25) ∧ (∀ M28, M28 = sR M24 a25 x6.toNatClampNeg (some a27) → l_X8_comes_53 B S P K141 n M28 b s x0 x1 x2 x3 x4 x5 (x6 + (-1 : Int32))))))))))))) else K141 M b s x0 x1 x2 x3 x4 x5 x6)))))))
set_option maxHeartbeats 4000000 in
set_option maxRecDepth 100000 in
theorem jl_X8_comes_53 {s0 : State} {B S : Nat} {P : Int32 → Mm → Prop} {K141 : Mm → Nat → Nat → Nat → Int32 → Int32 → Int32 → Int32 → Nat → Int32 → Prop} (C : Cx p l s0 m args meth c cX8_comes 7 RX8 (some .int) E) (k141 : ∀ M b s x0 x1 x2 x3 x4 x5 x6, b ≤ B → s ≤ S → K141 M b s x0 x1 x2 x3 x4 x5 x6 → J p l e (rm_X8_comes B S) s0 m args below meth c (QI below E P args s0 B S) E 7 M b s 141 [(0, .ref x0), (1, .int x1), (2, .int x2), (3, .int x3), (4, .int x4), (5, .ref x5), (6, .int x6)] []) : ∀ n M b s x0 x1 x2 x3 x4 x5 x6, b ≤ B → s ≤ S → l_X8_comes_53 B S P K141 n M b s x0 x1 x2 x3 x4 x5 x6 → J p l e (rm_X8_comes B S) s0 m args below meth c (QI below E P args s0 B S) E 7 M b s 53 [(0, .ref x0), (1, .int x1), (2, .int x2), (3, .int x3), (4, .int x4), (5, .ref x5), (6, .int x6)] [] := by
  intro n
  induction n with
  | zero => intro M b s x0 x1 x2 x3 x4 x5 x6 hb hs h; exact h.elim
  | succ n ih =>
    intro M b s x0 x1 x2 x3 x4 x5 x6 hb hs h
    rw [l_X8_comes_53] at h
    refine j_iload (pc := 53) C 6 dX8_comes_53 rfl ?_
    refine j_if_le (pc := 55) C 141 dX8_comes_55 (by decide) h (fun h => ?_) (fun h => ?_)
    · exact j_weak [0, 1, 2, 3, 4, 5, 6] rfl (k141 _ _ _ _ _ _ _ _ _ _ hb hs h)
    · refine j_aload_n (pc := 58) C 0 dX8_comes_58 rfl ?_
      refine gf_X8_33 (pc := 59) C dX8_comes_59 h (fun a7 h => ?_)
      refine j_iload (pc := 62) C 6 dX8_comes_62 rfl ?_
      refine j_iconst (pc := 64) (v := (1 : Int32)) C dX8_comes_64 rfl ?_
      refine j_isub (pc := 65) C dX8_comes_65 ?_
      refine j_aals (pc := 66) C (by decide) dX8_comes_66 h (fun a8 h => ?_)
      refine j_iconst (pc := 67) (v := (0 : Int32)) C dX8_comes_67 rfl ?_
      refine j_iald (pc := 68) C dX8_comes_68 h (fun h => ?_)
      refine j_iload_n (pc := 69) C 2 dX8_comes_69 rfl ?_
      refine j_icmp_gt (pc := 70) C 103 dX8_comes_70 (by decide) h (fun h => ?_) (fun h => ?_)
      · refine j_aload_n (pc := 103) C 0 dX8_comes_103 rfl ?_
        refine gf_X8_33 (pc := 104) C dX8_comes_104 h (fun a9 h => ?_)
        refine j_iload (pc := 107) C 6 dX8_comes_107 rfl ?_
        refine j_aload_n (pc := 109) C 0 dX8_comes_109 rfl ?_
        refine gf_X8_33 (pc := 110) C dX8_comes_110 h (fun a10 h => ?_)
        refine j_iload (pc := 113) C 6 dX8_comes_113 rfl ?_
        refine j_iconst (pc := 115) (v := (1 : Int32)) C dX8_comes_115 rfl ?_
        refine j_isub (pc := 116) C dX8_comes_116 ?_
        refine j_aals (pc := 117) C (by decide) dX8_comes_117 h (fun a11 h => ?_)
        refine n_aas2 (pc := 118) C (by decide) dX8_comes_118 h (fun M12 h => ?_)
        refine j_aload_n (pc := 119) C 0 dX8_comes_119 rfl ?_
        refine gf_X8_37 (pc := 120) C dX8_comes_120 h (fun a13 h => ?_)
        refine j_iload (pc := 123) C 6 dX8_comes_123 rfl ?_
        refine j_aload_n (pc := 125) C 0 dX8_comes_125 rfl ?_
        refine gf_X8_37 (pc := 126) C dX8_comes_126 h (fun a14 h => ?_)
        refine j_iload (pc := 129) C 6 dX8_comes_129 rfl ?_
        refine j_iconst (pc := 131) (v := (1 : Int32)) C dX8_comes_131 rfl ?_
        refine j_isub (pc := 132) C dX8_comes_132 ?_
        refine j_aals (pc := 133) C (by decide) dX8_comes_133 h (fun a15 h => ?_)
        refine n_aas2 (pc := 134) C (by decide) dX8_comes_134 h (fun M16 h => ?_)
        refine j_iinc (pc := 135) (v := (-1 : Int32)) C 6 [(6, _), (0, _), (1, _), (2, _), (3, _), (4, _), (5, _)] dX8_comes_135 rfl rfl (by decide) rfl ?_
        refine j_goto (pc := 138) C 53 dX8_comes_138 (by decide) ?_
        exact j_weak [1, 2, 3, 4, 5, 6, 0] rfl (ih _ _ _ _ _ _ _ _ _ _ hb hs h)
      · refine j_aload_n (pc := 73) C 0 dX8_comes_73 rfl ?_
        refine gf_X8_33 (pc := 74) C dX8_comes_74 h (fun a17 h => ?_)
        refine j_iload (pc := 77) C 6 dX8_comes_77 rfl ?_
        refine j_iconst (pc := 79) (v := (1 : Int32)) C dX8_comes_79 rfl ?_
        refine j_isub (pc := 80) C dX8_comes_80 ?_
        refine j_aals (pc := 81) C (by decide) dX8_comes_81 h (fun a18 h => ?_)
        refine j_iconst (pc := 82) (v := (0 : Int32)) C dX8_comes_82 rfl ?_
        refine j_iald (pc := 83) C dX8_comes_83 h (fun h => ?_)
        refine j_iload_n (pc := 84) C 2 dX8_comes_84 rfl ?_
        refine j_icmp_ne (pc := 85) C 141 dX8_comes_85 (by decide) h (fun h => ?_) (fun h => ?_)
        · exact j_weak [0, 1, 2, 3, 4, 5, 6] rfl (k141 _ _ _ _ _ _ _ _ _ _ hb hs h)
        · refine j_aload_n (pc := 88) C 0 dX8_comes_88 rfl ?_
          refine gf_X8_33 (pc := 89) C dX8_comes_89 h (fun a19 h => ?_)
          refine j_iload (pc := 92) C 6 dX8_comes_92 rfl ?_
          refine j_iconst (pc := 94) (v := (1 : Int32)) C dX8_comes_94 rfl ?_
          refine j_isub (pc := 95) C dX8_comes_95 ?_
          refine j_aals (pc := 96) C (by decide) dX8_comes_96 h (fun a20 h => ?_)
          refine j_iconst (pc := 97) (v := (1 : Int32)) C dX8_comes_97 rfl ?_
          refine j_iald (pc := 98) C dX8_comes_98 h (fun h => ?_)
          refine j_iload_n (pc := 99) C 1 dX8_comes_99 rfl ?_
          refine j_icmp_le (pc := 100) C 141 dX8_comes_100 (by decide) h (fun h => ?_) (fun h => ?_)
          · exact j_weak [0, 1, 2, 3, 4, 5, 6] rfl (k141 _ _ _ _ _ _ _ _ _ _ hb hs h)
          · refine j_aload_n (pc := 103) C 0 dX8_comes_103 rfl ?_
            refine gf_X8_33 (pc := 104) C dX8_comes_104 h (fun a21 h => ?_)
            refine j_iload (pc := 107) C 6 dX8_comes_107 rfl ?_
            refine j_aload_n (pc := 109) C 0 dX8_comes_109 rfl ?_
            refine gf_X8_33 (pc := 110) C dX8_comes_110 h (fun a22 h => ?_)
            refine j_iload (pc := 113) C 6 dX8_comes_113 rfl ?_
            refine j_iconst (pc := 115) (v := (1 : Int32)) C dX8_comes_115 rfl ?_
            refine j_isub (pc := 116) C dX8_comes_116 ?_
            refine j_aals (pc := 117) C (by decide) dX8_comes_117 h (fun a23 h => ?_)
            refine n_aas2 (pc := 118) C (by decide) dX8_comes_118 h (fun M24 h => ?_)
            refine j_aload_n (pc := 119) C 0 dX8_comes_119 rfl ?_
            refine gf_X8_37 (pc := 120) C dX8_comes_120 h (fun a25 h => ?_)
            refine j_iload (pc := 123) C 6 dX8_comes_123 rfl ?_
            refine j_aload_n (pc := 125) C 0 dX8_comes_125 rfl ?_
            refine gf_X8_37 (pc := 126) C dX8_comes_126 h (fun a26 h => ?_)
            refine j_iload (pc := 129) C 6 dX8_comes_129 rfl ?_
            refine j_iconst (pc := 131) (v := (1 : Int32)) C dX8_comes_131 rfl ?_
            refine j_isub (pc := 132) C dX8_comes_132 ?_
            refine j_aals (pc := 133) C (by decide) dX8_comes_133 h (fun a27 h => ?_)
            refine n_aas2 (pc := 134) C (by decide) dX8_comes_134 h (fun M28 h => ?_)
            refine j_iinc (pc := 135) (v := (-1 : Int32)) C 6 [(6, _), (0, _), (1, _), (2, _), (3, _), (4, _), (5, _)] dX8_comes_135 rfl rfl (by decide) rfl ?_
            refine j_goto (pc := 138) C 53 dX8_comes_138 (by decide) ?_
            exact j_weak [1, 2, 3, 4, 5, 6, 0] rfl (ih _ _ _ _ _ _ _ _ _ _ hb hs h)
def w_X8_comes (M : Mm) (x0 : Nat) (x1 : Int32) (x2 : Int32) (x3 : Int32) (x4 : Int32) (P : Int32 → Mm → Prop) (B S : Nat) : Prop := 0 + 1 ≤ B ∧ 0 + 5 ≤ S ∧ ¬ (5 : Int32) < 0 ∧ (5 : Int32).toNatClampNeg ≤ 5 ∧ (∀ a1 M1, a1 = zn M → M1 = sN M 14 (5 : Int32).toNatClampNeg → (∃ n9, l_X8_comes_9 B S P (fun M5 b5 s5 x0_5 x1_5 x2_5 x3_5 x4_5 x5_5 => zk M5 x0_5 = 8 ∧ (∃ n53, l_X8_comes_53 B S P (fun M29 b29 s29 x0_29 x1_29 x2_29 x3_29 x4_29 x5_29 x6_29 => (zk M29 x0_29 = 8 ∧ ∃ a30, zR M29 x0_29 14 = some a30 ∧ b29 + 1 ≤ B ∧ s29 + 4 ≤ S ∧ ¬ (4 : Int32) < 0 ∧ (4 : Int32).toNatClampNeg ≤ 4 ∧ (∀ a31 M31, a31 = zn M29 → M31 = sN M29 10 (4 : Int32).toNatClampNeg → zk M31 a31 = 10 ∧ vp_in (0 : Int32) (zl M31 a31) ∧ (∀ M32, M32 = sI M31 a31 (0 : Int32).toNatClampNeg x2_29 → zk M32 a31 = 10 ∧ vp_in (1 : Int32) (zl M32 a31) ∧ (∀ M33, M33 = sI M32 a31 (1 : Int32).toNatClampNeg x1_29 → (if x4_29 = 0 then zk M33 a31 = 10 ∧ vp_in (2 : Int32) (zl M33 a31) ∧ (∀ M34, M34 = sI M33 a31 (2 : Int32).toNatClampNeg (0 : Int32) → zk M34 a31 = 10 ∧ vp_in (3 : Int32) (zl M34 a31) ∧ (∀ M35, M35 = sI M34 a31 (3 : Int32).toNatClampNeg x3_29 → zk M35 a30 = 14 ∧ zk M35 a31 = 10 ∧ vp_in x6_29 (zl M35 a30) ∧ (∀ M36, M36 = sR M35 a30 x6_29.toNatClampNeg (some a31) → (zk M36 x0_29 = 8 ∧ ∃ a37, zR M36 x0_29 15 = some a37 ∧ zk M36 a37 = 15 ∧ zk M36 x5_29 = 14 ∧ vp_in x6_29 (zl M36 a37) ∧ (∀ M38, M38 = sR M36 a37 x6_29.toNatClampNeg (some x5_29) → zk M38 x0_29 = 8 ∧ zk M38 x0_29 = 8 ∧ (∀ M40, M40 = sI M38 x0_29 6 ((zI M38 x0_29 6) + (1 : Int32)) → P x6_29 M40)))))) else zk M33 a31 = 10 ∧ vp_in (2 : Int32) (zl M33 a31) ∧ (∀ M41, M41 = sI M33 a31 (2 : Int32).toNatClampNeg (1 : Int32) → zk M41 a31 = 10 ∧ vp_in (3 : Int32) (zl M41 a31) ∧ (∀ M42, M42 = sI M41 a31 (3 : Int32).toNatClampNeg x3_29 → zk M42 a30 = 14 ∧ zk M42 a31 = 10 ∧ vp_in x6_29 (zl M42 a30) ∧ (∀ M43, M43 = sR M42 a30 x6_29.toNatClampNeg (some a31) → (zk M43 x0_29 = 8 ∧ ∃ a44, zR M43 x0_29 15 = some a44 ∧ zk M43 a44 = 15 ∧ zk M43 x5_29 = 14 ∧ vp_in x6_29 (zl M43 a44) ∧ (∀ M45, M45 = sR M43 a44 x6_29.toNatClampNeg (some x5_29) → zk M45 x0_29 = 8 ∧ zk M45 x0_29 = 8 ∧ (∀ M47, M47 = sI M45 x0_29 6 ((zI M45 x0_29 6) + (1 : Int32)) → P x6_29 M47)))))))))))) n53 M5 b5 s5 x0_5 x1_5 x2_5 x3_5 x4_5 x5_5 (zI M5 x0_5 6))) n9 M1 (0 + 1) (0 + 5) x0 x1 x2 x3 x4 a1 (0 : Int32)))
set_option maxHeartbeats 4000000 in
set_option maxRecDepth 100000 in
theorem c_X8_comes (l : Launch) (E : EV) (M : Mm) (x0 : Nat) (x1 : Int32) (x2 : Int32) (x3 : Int32) (x4 : Int32) (P : Int32 → Mm → Prop) (B S : Nat) (h : w_X8_comes M x0 x1 x2 x3 x4 P B S) : CtI l E yX8_comes cX8_comes 7 .int (rm_X8_comes B S) B S [.ref x0, .int x1, .int x2, .int x3, .int x4] M P := by
  refine ctI_of (by decide +kernel) (Nat.le_of_ble_eq_true rfl) ?_
  intro p e s m args below meth c C
  rw [w_X8_comes] at h
  have hb : 0 ≤ B := Nat.zero_le _
  have hs : 0 ≤ S := Nat.zero_le _
  show J p l e (rm_X8_comes B S) s m args below meth c (QI below E P args s B S) E 7 M 0 0 0 [(0, .ref x0), (1, .int x1), (2, .int x2), (3, .int x3), (4, .int x4)] []
  refine j_iconst (pc := 0) (v := (5 : Int32)) C dX8_comes_0 rfl ?_
  obtain ⟨hb, hs, h⟩ := h
  refine n_newA (pc := 1) (ty := .int) C 5 14 (Or.inl ⟨rfl, rfl⟩) wd_338 dX8_comes_1 (Nat.le_of_ble_eq_true rfl) hb hs h (fun a1 M1 h => ?_)
  refine j_astore (pc := 4) C [(5, _), (0, _), (1, _), (2, _), (3, _), (4, _)] dX8_comes_4 (by decide) rfl ?_
  refine j_iconst (pc := 6) (v := (0 : Int32)) C dX8_comes_6 rfl ?_
  refine j_istore (pc := 7) C [(6, _), (5, _), (0, _), (1, _), (2, _), (3, _), (4, _)] dX8_comes_7 (by decide) rfl ?_
  obtain ⟨n9, h⟩ := h
  refine j_weak [2, 3, 4, 5, 6, 1, 0] rfl (jl_X8_comes_9 C (fun M5 b5 s5 x0_5 x1_5 x2_5 x3_5 x4_5 x5_5 hb hs h => ?_) n9 _ _ _ _ _ _ _ _ _ _ hb hs h)
  · refine j_aload_n (pc := 47) C 0 dX8_comes_47 rfl ?_
    refine gf_X8_41 (pc := 48) C dX8_comes_48 h (fun h => ?_)
    refine j_istore (pc := 51) C [(6, _), (0, _), (1, _), (2, _), (3, _), (4, _), (5, _)] dX8_comes_51 (by decide) rfl ?_
    obtain ⟨n53, h⟩ := h
    refine j_weak [1, 2, 3, 4, 5, 6, 0] rfl (jl_X8_comes_53 C (fun M29 b29 s29 x0_29 x1_29 x2_29 x3_29 x4_29 x5_29 x6_29 hb hs h => ?_) n53 _ _ _ _ _ _ _ _ _ _ hb hs h)
    · refine j_aload_n (pc := 141) C 0 dX8_comes_141 rfl ?_
      refine gf_X8_33 (pc := 142) C dX8_comes_142 h (fun a30 h => ?_)
      refine j_iload (pc := 145) C 6 dX8_comes_145 rfl ?_
      refine j_iconst (pc := 147) (v := (4 : Int32)) C dX8_comes_147 rfl ?_
      obtain ⟨hb, hs, h⟩ := h
      refine n_newi (pc := 148) C 4 wd_92 dX8_comes_148 (Nat.le_of_ble_eq_true rfl) hb hs h (fun a31 M31 h => ?_)
      refine j_dup (pc := 150) C dX8_comes_150 rfl ?_
      refine j_iconst (pc := 151) (v := (0 : Int32)) C dX8_comes_151 rfl ?_
      refine j_iload_n (pc := 152) C 2 dX8_comes_152 rfl ?_
      refine n_iast (pc := 153) C dX8_comes_153 h (fun M32 h => ?_)
      refine j_dup (pc := 154) C dX8_comes_154 rfl ?_
      refine j_iconst (pc := 155) (v := (1 : Int32)) C dX8_comes_155 rfl ?_
      refine j_iload_n (pc := 156) C 1 dX8_comes_156 rfl ?_
      refine n_iast (pc := 157) C dX8_comes_157 h (fun M33 h => ?_)
      refine j_dup (pc := 158) C dX8_comes_158 rfl ?_
      refine j_iconst (pc := 159) (v := (2 : Int32)) C dX8_comes_159 rfl ?_
      refine j_iload (pc := 160) C 4 dX8_comes_160 rfl ?_
      refine j_if_eq (pc := 162) C 169 dX8_comes_162 (by decide) h (fun h => ?_) (fun h => ?_)
      · refine j_iconst (pc := 169) (v := (0 : Int32)) C dX8_comes_169 rfl ?_
        refine n_iast (pc := 170) C dX8_comes_170 h (fun M34 h => ?_)
        refine j_dup (pc := 171) C dX8_comes_171 rfl ?_
        refine j_iconst (pc := 172) (v := (3 : Int32)) C dX8_comes_172 rfl ?_
        refine j_iload_n (pc := 173) C 3 dX8_comes_173 rfl ?_
        refine n_iast (pc := 174) C dX8_comes_174 h (fun M35 h => ?_)
        refine n_aas2 (pc := 175) C (by decide) dX8_comes_175 h (fun M36 h => ?_)
        refine j_aload_n (pc := 176) C 0 dX8_comes_176 rfl ?_
        refine gf_X8_37 (pc := 177) C dX8_comes_177 h (fun a37 h => ?_)
        refine j_iload (pc := 180) C 6 dX8_comes_180 rfl ?_
        refine j_aload (pc := 182) C 5 dX8_comes_182 rfl ?_
        refine n_aas2 (pc := 184) C (by decide) dX8_comes_184 h (fun M38 h => ?_)
        refine j_aload_n (pc := 185) C 0 dX8_comes_185 rfl ?_
        refine j_dup (pc := 186) C dX8_comes_186 rfl ?_
        refine gf_X8_41 (pc := 187) C dX8_comes_187 h (fun h => ?_)
        refine j_iconst (pc := 190) (v := (1 : Int32)) C dX8_comes_190 rfl ?_
        refine j_iadd (pc := 191) C dX8_comes_191 ?_
        refine pf_X8_41 (pc := 192) C dX8_comes_192 h (fun M40 h => ?_)
        refine j_iload (pc := 195) C 6 dX8_comes_195 rfl ?_
        exact j_iret (pc := 197) C dX8_comes_197 hb hs h
      · refine j_iconst (pc := 165) (v := (1 : Int32)) C dX8_comes_165 rfl ?_
        refine j_goto (pc := 166) C 170 dX8_comes_166 (by decide) ?_
        refine n_iast (pc := 170) C dX8_comes_170 h (fun M41 h => ?_)
        refine j_dup (pc := 171) C dX8_comes_171 rfl ?_
        refine j_iconst (pc := 172) (v := (3 : Int32)) C dX8_comes_172 rfl ?_
        refine j_iload_n (pc := 173) C 3 dX8_comes_173 rfl ?_
        refine n_iast (pc := 174) C dX8_comes_174 h (fun M42 h => ?_)
        refine n_aas2 (pc := 175) C (by decide) dX8_comes_175 h (fun M43 h => ?_)
        refine j_aload_n (pc := 176) C 0 dX8_comes_176 rfl ?_
        refine gf_X8_37 (pc := 177) C dX8_comes_177 h (fun a44 h => ?_)
        refine j_iload (pc := 180) C 6 dX8_comes_180 rfl ?_
        refine j_aload (pc := 182) C 5 dX8_comes_182 rfl ?_
        refine n_aas2 (pc := 184) C (by decide) dX8_comes_184 h (fun M45 h => ?_)
        refine j_aload_n (pc := 185) C 0 dX8_comes_185 rfl ?_
        refine j_dup (pc := 186) C dX8_comes_186 rfl ?_
        refine gf_X8_41 (pc := 187) C dX8_comes_187 h (fun h => ?_)
        refine j_iconst (pc := 190) (v := (1 : Int32)) C dX8_comes_190 rfl ?_
        refine j_iadd (pc := 191) C dX8_comes_191 ?_
        refine pf_X8_41 (pc := 192) C dX8_comes_192 h (fun M47 h => ?_)
        refine j_iload (pc := 195) C 6 dX8_comes_195 rfl ?_
        exact j_iret (pc := 197) C dX8_comes_197 hb hs h
abbrev rm_X8_count : Room := { frames := 1, cells := 0, slots := 0, locals := 27 }
def l_X8_count_4 (P : Int32 → Mm → Prop) (K30 : Mm → Int32 → Prop) : Nat → Mm → Nat → Int32 → Int32 → Int32 → Prop
  | 0, _, _, _, _, _ => False
  | n + 1, M, x0, x1, x2, x3 => zk M x0 = 8 ∧ (if (zI M x0 6) ≤ x3 then K30 M x2 else zk M x0 = 8 ∧ w_X8_isIn M x0 x1 x3 (fun r2 M2 => (if r2 = 0 then l_X8_count_4 P K30 n M2 x0 x1 x2 (x3 + (1 : Int32)) else l_X8_count_4 P K30 n M2 x0 x1 (x2 + (1 : Int32)) (x3 + (1 : Int32)))))
set_option maxHeartbeats 4000000 in
set_option maxRecDepth 100000 in
theorem jl_X8_count_4 {P : Int32 → Mm → Prop} {K30 : Mm → Int32 → Prop} (C : Cx p l s m args meth c cX8_count 4 RX8 (some .int) E) (hkc : kc ≤ rm_X8_count.cells ∧ ks ≤ rm_X8_count.slots) (k30 : ∀ M x2, K30 M x2 → J p l e rm_X8_count s m args below meth c (QI below E P args s rm_X8_count.cells rm_X8_count.slots) E 4 M kc ks 30 [(2, .int x2)] []) : ∀ n M x0 x1 x2 x3, l_X8_count_4 P K30 n M x0 x1 x2 x3 → J p l e rm_X8_count s m args below meth c (QI below E P args s rm_X8_count.cells rm_X8_count.slots) E 4 M kc ks 4 [(0, .ref x0), (1, .int x1), (2, .int x2), (3, .int x3)] [] := by
  intro n
  induction n with
  | zero => intro M x0 x1 x2 x3 h; exact h.elim
  | succ n ih =>
    intro M x0 x1 x2 x3 h
    rw [l_X8_count_4] at h
    refine j_iload_n (pc := 4) C 3 dX8_count_4 rfl ?_
    refine j_aload_n (pc := 5) C 0 dX8_count_5 rfl ?_
    refine gf_X8_41 (pc := 6) C dX8_count_6 h (fun h => ?_)
    refine j_icmp_ge (pc := 9) C 30 dX8_count_9 (by decide) h (fun h => ?_) (fun h => ?_)
    · exact j_weak [2] rfl (k30 _ _ h)
    · refine j_aload_n (pc := 12) C 0 dX8_count_12 rfl ?_
      refine j_iload_n (pc := 13) C 1 dX8_count_13 rfl ?_
      refine j_iload_n (pc := 14) C 3 dX8_count_14 rfl ?_
      refine c2_X8_45 (pc := 15) C ⟨(Nat.le_of_ble_eq_true rfl), (Nat.le_of_ble_eq_true rfl)⟩ hkc (Nat.le_of_ble_eq_true rfl) dX8_count_15 h (fun r2 M2 h => ?_)
      refine j_if_eq (pc := 18) C 24 dX8_count_18 (by decide) h (fun h => ?_) (fun h => ?_)
      · refine j_iinc (pc := 24) (v := (1 : Int32)) C 3 [(3, _), (0, _), (1, _), (2, _)] dX8_count_24 rfl rfl (by decide) rfl ?_
        refine j_goto (pc := 27) C 4 dX8_count_27 (by decide) ?_
        exact j_weak [1, 2, 3, 0] rfl (ih _ _ _ _ _ h)
      · refine j_iinc (pc := 21) (v := (1 : Int32)) C 2 [(2, _), (0, _), (1, _), (3, _)] dX8_count_21 rfl rfl (by decide) rfl ?_
        refine j_iinc (pc := 24) (v := (1 : Int32)) C 3 [(3, _), (2, _), (0, _), (1, _)] dX8_count_24 rfl rfl (by decide) rfl ?_
        refine j_goto (pc := 27) C 4 dX8_count_27 (by decide) ?_
        exact j_weak [2, 3, 1, 0] rfl (ih _ _ _ _ _ h)
def w_X8_count (M : Mm) (x0 : Nat) (x1 : Int32) (P : Int32 → Mm → Prop) : Prop := (∃ n4, l_X8_count_4 P (fun M3 x2_3 => P x2_3 M3) n4 M x0 x1 (0 : Int32) (0 : Int32))
set_option maxHeartbeats 4000000 in
set_option maxRecDepth 100000 in
theorem c_X8_count (l : Launch) (E : EV) (M : Mm) (x0 : Nat) (x1 : Int32) (P : Int32 → Mm → Prop) (h : w_X8_count M x0 x1 P) : CtI l E yX8_count cX8_count 4 .int rm_X8_count 0 0 [.ref x0, .int x1] M P := by
  refine ctI_of (by decide +kernel) (Nat.le_of_ble_eq_true rfl) ?_
  intro p e s m args below meth c C
  rw [w_X8_count] at h
  show J p l e rm_X8_count s m args below meth c (QI below E P args s 0 0) E 4 M 0 0 0 [(0, .ref x0), (1, .int x1)] []
  refine j_iconst (pc := 0) (v := (0 : Int32)) C dX8_count_0 rfl ?_
  refine j_istore_n (pc := 1) C [(2, _), (0, _), (1, _)] dX8_count_1 (by decide) rfl ?_
  refine j_iconst (pc := 2) (v := (0 : Int32)) C dX8_count_2 rfl ?_
  refine j_istore_n (pc := 3) C [(3, _), (2, _), (0, _), (1, _)] dX8_count_3 (by decide) rfl ?_
  obtain ⟨n4, h⟩ := h
  refine j_weak [2, 3, 1, 0] rfl (jl_X8_count_4 C ⟨Nat.le_of_ble_eq_true rfl, Nat.le_of_ble_eq_true rfl⟩ (fun M3 x2_3 h => ?_) n4 _ _ _ _ _ h)
  · refine j_iload_n (pc := 30) C 0 dX8_count_30 rfl ?_
    exact j_iret (pc := 31) C dX8_count_31 (Nat.le_of_ble_eq_true rfl) (Nat.le_of_ble_eq_true rfl) h
abbrev rm_X8_twiceOf : Room := { frames := 0, cells := 0, slots := 0, locals := 0 }
def l_X8_twiceOf_27 (P : Int32 → Mm → Prop) (K100 : Mm → Nat → Int32 → Int32 → Int32 → Int32 → Prop) : Nat → Mm → Nat → Int32 → Int32 → Int32 → Int32 → Int32 → Prop
  | 0, _, _, _, _, _, _, _ => False
  | n + 1, M, x0, x1, x2, x3, x4, x5 => (zk M x0 = 8 ∧ ∃ a3, zR M x0 15 = some a3 ∧ (zk M a3 = 15 ∧ vp_in x3 (zl M a3) ∧ ∃ a4, zR M a3 x3.toNatClampNeg = some a4 ∧ zk M a4 = 14 ∧ vp_in x4 (zl M a4) ∧ (∀ a5, zR M a4 x4.toNatClampNeg = some a5 → (zk M x0 = 8 ∧ ∃ a6, zR M x0 15 = some a6 ∧ (zk M a6 = 15 ∧ vp_in x3 (zl M a6) ∧ ∃ a7, zR M a6 x3.toNatClampNeg = some a7 ∧ (zk M a7 = 14 ∧ vp_in x4 (zl M a7) ∧ ∃ a8, zR M a7 x4.toNatClampNeg = some a8 ∧ zk M a8 = 10 ∧ (if (nI (zl M a8)) ≤ x5 then K100 M x0 x1 x2 x3 x4 else (zk M x0 = 8 ∧ ∃ a9, zR M x0 15 = some a9 ∧ (zk M a9 = 15 ∧ vp_in x3 (zl M a9) ∧ ∃ a10, zR M a9 x3.toNatClampNeg = some a10 ∧ (zk M a10 = 14 ∧ vp_in x4 (zl M a10) ∧ ∃ a11, zR M a10 x4.toNatClampNeg = some a11 ∧ zk M a11 = 10 ∧ vp_in x5 (zl M a11) ∧ (if (zI M a11 x5.toNatClampNeg) = x1 then (zk M x0 = 8 ∧ ∃ a12, zR M x0 11 = some a12 ∧ (zk M a12 = 14 ∧ vp_in x1 (zl M a12) ∧ ∃ a13, zR M a12 x1.toNatClampNeg = some a13 ∧ zk M a13 = 10 ∧ vp_in (0 : Int32) (zl M a13) ∧ (zk M x0 = 8 ∧ ∃ a14, zR M x0 13 = some a14 ∧ (zk M a14 = 14 ∧ vp_in x4 (zl M a14) ∧ ∃ a15, zR M a14 x4.toNatClampNeg = some a15 ∧ zk M a15 = 10 ∧ vp_in x5 (zl M a15) ∧ (if (zI M a13 (0 : Int32).toNatClampNeg) = (zI M a15 x5.toNatClampNeg) then l_X8_twiceOf_27 P K100 n M x0 x1 x2 x3 x4 (x5 + (1 : Int32)) else l_X8_twiceOf_27 P K100 n M x0 x1 (x2 + (1 : Int32)) x3 x4 (x5 + (1 : Int32))))))) else l_X8_twiceOf_27 P K100 n M x0 x1 x2 x3 x4 (x5 + (1 : Int32))))))))))) ∧ (zR M a4 x4.toNatClampNeg = none → K100 M x0 x1 x2 x3 x4)))
set_option maxHeartbeats 4000000 in
set_option maxRecDepth 100000 in
theorem jl_X8_twiceOf_27 {P : Int32 → Mm → Prop} {K100 : Mm → Nat → Int32 → Int32 → Int32 → Int32 → Prop} (C : Cx p l s m args meth c cX8_twiceOf 6 RX8 (some .int) E) (hkc : kc ≤ rm_X8_twiceOf.cells ∧ ks ≤ rm_X8_twiceOf.slots) (k100 : ∀ M x0 x1 x2 x3 x4, K100 M x0 x1 x2 x3 x4 → J p l e rm_X8_twiceOf s m args below meth c (QI below E P args s rm_X8_twiceOf.cells rm_X8_twiceOf.slots) E 6 M kc ks 100 [(0, .ref x0), (1, .int x1), (2, .int x2), (3, .int x3), (4, .int x4)] []) : ∀ n M x0 x1 x2 x3 x4 x5, l_X8_twiceOf_27 P K100 n M x0 x1 x2 x3 x4 x5 → J p l e rm_X8_twiceOf s m args below meth c (QI below E P args s rm_X8_twiceOf.cells rm_X8_twiceOf.slots) E 6 M kc ks 27 [(0, .ref x0), (1, .int x1), (2, .int x2), (3, .int x3), (4, .int x4), (5, .int x5)] [] := by
  intro n
  induction n with
  | zero => intro M x0 x1 x2 x3 x4 x5 h; exact h.elim
  | succ n ih =>
    intro M x0 x1 x2 x3 x4 x5 h
    rw [l_X8_twiceOf_27] at h
    refine j_aload_n (pc := 27) C 0 dX8_twiceOf_27 rfl ?_
    refine gf_X8_37 (pc := 28) C dX8_twiceOf_28 h (fun a3 h => ?_)
    refine j_iload_n (pc := 31) C 3 dX8_twiceOf_31 rfl ?_
    refine j_aals (pc := 32) C (by decide) dX8_twiceOf_32 h (fun a4 h => ?_)
    refine j_iload (pc := 33) C 4 dX8_twiceOf_33 rfl ?_
    refine j_aaln (pc := 35) C (by decide) dX8_twiceOf_35 h (fun a5 h => ?_) (fun h => ?_)
    · refine j_ifnullA (pc := 36) C dX8_twiceOf_36 ?_
      refine j_iload (pc := 39) C 5 dX8_twiceOf_39 rfl ?_
      refine j_aload_n (pc := 41) C 0 dX8_twiceOf_41 rfl ?_
      refine gf_X8_37 (pc := 42) C dX8_twiceOf_42 h (fun a6 h => ?_)
      refine j_iload_n (pc := 45) C 3 dX8_twiceOf_45 rfl ?_
      refine j_aals (pc := 46) C (by decide) dX8_twiceOf_46 h (fun a7 h => ?_)
      refine j_iload (pc := 47) C 4 dX8_twiceOf_47 rfl ?_
      refine j_aals (pc := 49) C (by decide) dX8_twiceOf_49 h (fun a8 h => ?_)
      refine j_alen (pc := 50) (k := 10) C (by decide) dX8_twiceOf_50 h (fun h => ?_)
      refine j_icmp_ge (pc := 51) C 100 dX8_twiceOf_51 (by decide) h (fun h => ?_) (fun h => ?_)
      · exact j_weak [0, 1, 2, 3, 4] rfl (k100 _ _ _ _ _ _ h)
      · refine j_aload_n (pc := 54) C 0 dX8_twiceOf_54 rfl ?_
        refine gf_X8_37 (pc := 55) C dX8_twiceOf_55 h (fun a9 h => ?_)
        refine j_iload_n (pc := 58) C 3 dX8_twiceOf_58 rfl ?_
        refine j_aals (pc := 59) C (by decide) dX8_twiceOf_59 h (fun a10 h => ?_)
        refine j_iload (pc := 60) C 4 dX8_twiceOf_60 rfl ?_
        refine j_aals (pc := 62) C (by decide) dX8_twiceOf_62 h (fun a11 h => ?_)
        refine j_iload (pc := 63) C 5 dX8_twiceOf_63 rfl ?_
        refine j_iald (pc := 65) C dX8_twiceOf_65 h (fun h => ?_)
        refine j_iload_n (pc := 66) C 1 dX8_twiceOf_66 rfl ?_
        refine j_icmp_ne (pc := 67) C 94 dX8_twiceOf_67 (by decide) h (fun h => ?_) (fun h => ?_)
        · refine j_iinc (pc := 94) (v := (1 : Int32)) C 5 [(5, _), (0, _), (1, _), (2, _), (3, _), (4, _)] dX8_twiceOf_94 rfl rfl (by decide) rfl ?_
          refine j_goto (pc := 97) C 27 dX8_twiceOf_97 (by decide) ?_
          exact j_weak [1, 2, 3, 4, 5, 0] rfl (ih _ _ _ _ _ _ _ h)
        · refine j_aload_n (pc := 70) C 0 dX8_twiceOf_70 rfl ?_
          refine gf_X8_23 (pc := 71) C dX8_twiceOf_71 h (fun a12 h => ?_)
          refine j_iload_n (pc := 74) C 1 dX8_twiceOf_74 rfl ?_
          refine j_aals (pc := 75) C (by decide) dX8_twiceOf_75 h (fun a13 h => ?_)
          refine j_iconst (pc := 76) (v := (0 : Int32)) C dX8_twiceOf_76 rfl ?_
          refine j_iald (pc := 77) C dX8_twiceOf_77 h (fun h => ?_)
          refine j_aload_n (pc := 78) C 0 dX8_twiceOf_78 rfl ?_
          refine gf_X8_30 (pc := 79) C dX8_twiceOf_79 h (fun a14 h => ?_)
          refine j_iload (pc := 82) C 4 dX8_twiceOf_82 rfl ?_
          refine j_aals (pc := 84) C (by decide) dX8_twiceOf_84 h (fun a15 h => ?_)
          refine j_iload (pc := 85) C 5 dX8_twiceOf_85 rfl ?_
          refine j_iald (pc := 87) C dX8_twiceOf_87 h (fun h => ?_)
          refine j_icmp_eq (pc := 88) C 94 dX8_twiceOf_88 (by decide) h (fun h => ?_) (fun h => ?_)
          · refine j_iinc (pc := 94) (v := (1 : Int32)) C 5 [(5, _), (0, _), (1, _), (2, _), (3, _), (4, _)] dX8_twiceOf_94 rfl rfl (by decide) rfl ?_
            refine j_goto (pc := 97) C 27 dX8_twiceOf_97 (by decide) ?_
            exact j_weak [1, 2, 3, 4, 5, 0] rfl (ih _ _ _ _ _ _ _ h)
          · refine j_iinc (pc := 91) (v := (1 : Int32)) C 2 [(2, _), (0, _), (1, _), (3, _), (4, _), (5, _)] dX8_twiceOf_91 rfl rfl (by decide) rfl ?_
            refine j_iinc (pc := 94) (v := (1 : Int32)) C 5 [(5, _), (2, _), (0, _), (1, _), (3, _), (4, _)] dX8_twiceOf_94 rfl rfl (by decide) rfl ?_
            refine j_goto (pc := 97) C 27 dX8_twiceOf_97 (by decide) ?_
            exact j_weak [2, 3, 1, 4, 5, 0] rfl (ih _ _ _ _ _ _ _ h)
    · refine j_ifnullN (pc := 36) C 100 dX8_twiceOf_36 (by decide) ?_
      exact j_weak [0, 1, 2, 3, 4] rfl (k100 _ _ _ _ _ _ h)
def l_X8_twiceOf_15 (P : Int32 → Mm → Prop) (K106 : Mm → Nat → Int32 → Int32 → Int32 → Prop) : Nat → Mm → Nat → Int32 → Int32 → Int32 → Int32 → Prop
  | 0, _, _, _, _, _, _ => False
  | n + 1, M, x0, x1, x2, x3, x4 => zk M x0 = 8 ∧ (if (zI M x0 3) ≤ x4 then K106 M x0 x1 x2 x3 else (∃ n27, l_X8_twiceOf_27 P (fun M16 x0_16 x1_16 x2_16 x3_16 x4_16 => l_X8_twiceOf_15 P K106 n M16 x0_16 x1_16 x2_16 x3_16 (x4_16 + (1 : Int32))) n27 M x0 x1 x2 x3 x4 (0 : Int32)))
set_option maxHeartbeats 4000000 in
set_option maxRecDepth 100000 in
theorem jl_X8_twiceOf_15 {P : Int32 → Mm → Prop} {K106 : Mm → Nat → Int32 → Int32 → Int32 → Prop} (C : Cx p l s m args meth c cX8_twiceOf 6 RX8 (some .int) E) (hkc : kc ≤ rm_X8_twiceOf.cells ∧ ks ≤ rm_X8_twiceOf.slots) (k106 : ∀ M x0 x1 x2 x3, K106 M x0 x1 x2 x3 → J p l e rm_X8_twiceOf s m args below meth c (QI below E P args s rm_X8_twiceOf.cells rm_X8_twiceOf.slots) E 6 M kc ks 106 [(0, .ref x0), (1, .int x1), (2, .int x2), (3, .int x3)] []) : ∀ n M x0 x1 x2 x3 x4, l_X8_twiceOf_15 P K106 n M x0 x1 x2 x3 x4 → J p l e rm_X8_twiceOf s m args below meth c (QI below E P args s rm_X8_twiceOf.cells rm_X8_twiceOf.slots) E 6 M kc ks 15 [(0, .ref x0), (1, .int x1), (2, .int x2), (3, .int x3), (4, .int x4)] [] := by
  intro n
  induction n with
  | zero => intro M x0 x1 x2 x3 x4 h; exact h.elim
  | succ n ih =>
    intro M x0 x1 x2 x3 x4 h
    rw [l_X8_twiceOf_15] at h
    refine j_iload (pc := 15) C 4 dX8_twiceOf_15 rfl ?_
    refine j_aload_n (pc := 17) C 0 dX8_twiceOf_17 rfl ?_
    refine gf_X8_77 (pc := 18) C dX8_twiceOf_18 h (fun h => ?_)
    refine j_icmp_ge (pc := 21) C 106 dX8_twiceOf_21 (by decide) h (fun h => ?_) (fun h => ?_)
    · exact j_weak [0, 1, 2, 3] rfl (k106 _ _ _ _ _ h)
    · refine j_iconst (pc := 24) (v := (0 : Int32)) C dX8_twiceOf_24 rfl ?_
      refine j_istore (pc := 25) C [(5, _), (0, _), (1, _), (2, _), (3, _), (4, _)] dX8_twiceOf_25 (by decide) rfl ?_
      obtain ⟨n27, h⟩ := h
      refine j_weak [1, 2, 3, 4, 5, 0] rfl (jl_X8_twiceOf_27 C hkc (fun M16 x0_16 x1_16 x2_16 x3_16 x4_16 h => ?_) n27 _ _ _ _ _ _ _ h)
      · refine j_iinc (pc := 100) (v := (1 : Int32)) C 4 [(4, _), (0, _), (1, _), (2, _), (3, _)] dX8_twiceOf_100 rfl rfl (by decide) rfl ?_
        refine j_goto (pc := 103) C 15 dX8_twiceOf_103 (by decide) ?_
        exact j_weak [1, 2, 3, 4, 0] rfl (ih _ _ _ _ _ _ h)
def l_X8_twiceOf_4 (P : Int32 → Mm → Prop) (K112 : Mm → Int32 → Prop) : Nat → Mm → Nat → Int32 → Int32 → Int32 → Prop
  | 0, _, _, _, _, _ => False
  | n + 1, M, x0, x1, x2, x3 => zk M x0 = 8 ∧ (if (zI M x0 6) ≤ x3 then K112 M x2 else (∃ n15, l_X8_twiceOf_15 P (fun M17 x0_17 x1_17 x2_17 x3_17 => l_X8_twiceOf_4 P K112 n M17 x0_17 x1_17 x2_17 (x3_17 + (1 : Int32))) n15 M x0 x1 x2 x3 (0 : Int32)))
set_option maxHeartbeats 4000000 in
set_option maxRecDepth 100000 in
theorem jl_X8_twiceOf_4 {P : Int32 → Mm → Prop} {K112 : Mm → Int32 → Prop} (C : Cx p l s m args meth c cX8_twiceOf 6 RX8 (some .int) E) (hkc : kc ≤ rm_X8_twiceOf.cells ∧ ks ≤ rm_X8_twiceOf.slots) (k112 : ∀ M x2, K112 M x2 → J p l e rm_X8_twiceOf s m args below meth c (QI below E P args s rm_X8_twiceOf.cells rm_X8_twiceOf.slots) E 6 M kc ks 112 [(2, .int x2)] []) : ∀ n M x0 x1 x2 x3, l_X8_twiceOf_4 P K112 n M x0 x1 x2 x3 → J p l e rm_X8_twiceOf s m args below meth c (QI below E P args s rm_X8_twiceOf.cells rm_X8_twiceOf.slots) E 6 M kc ks 4 [(0, .ref x0), (1, .int x1), (2, .int x2), (3, .int x3)] [] := by
  intro n
  induction n with
  | zero => intro M x0 x1 x2 x3 h; exact h.elim
  | succ n ih =>
    intro M x0 x1 x2 x3 h
    rw [l_X8_twiceOf_4] at h
    refine j_iload_n (pc := 4) C 3 dX8_twiceOf_4 rfl ?_
    refine j_aload_n (pc := 5) C 0 dX8_twiceOf_5 rfl ?_
    refine gf_X8_41 (pc := 6) C dX8_twiceOf_6 h (fun h => ?_)
    refine j_icmp_ge (pc := 9) C 112 dX8_twiceOf_9 (by decide) h (fun h => ?_) (fun h => ?_)
    · exact j_weak [2] rfl (k112 _ _ h)
    · refine j_iconst (pc := 12) (v := (0 : Int32)) C dX8_twiceOf_12 rfl ?_
      refine j_istore (pc := 13) C [(4, _), (0, _), (1, _), (2, _), (3, _)] dX8_twiceOf_13 (by decide) rfl ?_
      obtain ⟨n15, h⟩ := h
      refine j_weak [1, 2, 3, 4, 0] rfl (jl_X8_twiceOf_15 C hkc (fun M17 x0_17 x1_17 x2_17 x3_17 h => ?_) n15 _ _ _ _ _ _ h)
      · refine j_iinc (pc := 106) (v := (1 : Int32)) C 3 [(3, _), (0, _), (1, _), (2, _)] dX8_twiceOf_106 rfl rfl (by decide) rfl ?_
        refine j_goto (pc := 109) C 4 dX8_twiceOf_109 (by decide) ?_
        exact j_weak [1, 2, 3, 0] rfl (ih _ _ _ _ _ h)
def w_X8_twiceOf (M : Mm) (x0 : Nat) (x1 : Int32) (P : Int32 → Mm → Prop) : Prop := (∃ n4, l_X8_twiceOf_4 P (fun M18 x2_18 => P x2_18 M18) n4 M x0 x1 (0 : Int32) (0 : Int32))
set_option maxHeartbeats 4000000 in
set_option maxRecDepth 100000 in
theorem c_X8_twiceOf (l : Launch) (E : EV) (M : Mm) (x0 : Nat) (x1 : Int32) (P : Int32 → Mm → Prop) (h : w_X8_twiceOf M x0 x1 P) : CtI l E yX8_twiceOf cX8_twiceOf 6 .int rm_X8_twiceOf 0 0 [.ref x0, .int x1] M P := by
  refine ctI_of (by decide +kernel) (Nat.le_of_ble_eq_true rfl) ?_
  intro p e s m args below meth c C
  rw [w_X8_twiceOf] at h
  show J p l e rm_X8_twiceOf s m args below meth c (QI below E P args s 0 0) E 6 M 0 0 0 [(0, .ref x0), (1, .int x1)] []
  refine j_iconst (pc := 0) (v := (0 : Int32)) C dX8_twiceOf_0 rfl ?_
  refine j_istore_n (pc := 1) C [(2, _), (0, _), (1, _)] dX8_twiceOf_1 (by decide) rfl ?_
  refine j_iconst (pc := 2) (v := (0 : Int32)) C dX8_twiceOf_2 rfl ?_
  refine j_istore_n (pc := 3) C [(3, _), (2, _), (0, _), (1, _)] dX8_twiceOf_3 (by decide) rfl ?_
  obtain ⟨n4, h⟩ := h
  refine j_weak [2, 3, 1, 0] rfl (jl_X8_twiceOf_4 C ⟨Nat.le_of_ble_eq_true rfl, Nat.le_of_ble_eq_true rfl⟩ (fun M18 x2_18 h => ?_) n4 _ _ _ _ _ h)
  · refine j_iload_n (pc := 112) C 0 dX8_twiceOf_112 rfl ?_
    exact j_iret (pc := 113) C dX8_twiceOf_113 (Nat.le_of_ble_eq_true rfl) (Nat.le_of_ble_eq_true rfl) h
abbrev rm_X8_rent : Room := { frames := 1, cells := 0, slots := 0, locals := 22 }
def l_X8_rent_8 (P : Int32 → Mm → Prop) (K74 : Mm → Nat → Int32 → Int32 → Int32 → Prop) : Nat → Mm → Nat → Int32 → Int32 → Int32 → Int32 → Prop
  | 0, _, _, _, _, _, _ => False
  | n + 1, M, x0, x1, x2, x3, x4 => zk M x0 = 8 ∧ (if (zI M x0 6) ≤ x4 then K74 M x0 x1 x2 x3 else (zk M x0 = 8 ∧ ∃ a2, zR M x0 14 = some a2 ∧ (zk M a2 = 14 ∧ vp_in x4 (zl M a2) ∧ ∃ a3, zR M a2 x4.toNatClampNeg = some a3 ∧ zk M a3 = 10 ∧ vp_in (3 : Int32) (zl M a3) ∧ (if (((zI M a3 (3 : Int32).toNatClampNeg) >>> (x1 &&& 31)) &&& (1 : Int32)) = 0 then l_X8_rent_8 P K74 n M x0 x1 x2 x3 (x4 + (1 : Int32)) else (zk M x0 = 8 ∧ ∃ a4, zR M x0 14 = some a4 ∧ (zk M a4 = 14 ∧ vp_in x4 (zl M a4) ∧ ∃ a5, zR M a4 x4.toNatClampNeg = some a5 ∧ zk M a5 = 10 ∧ vp_in (0 : Int32) (zl M a5) ∧ ¬ (3 : Int32) = 0 ∧ (zk M x0 = 8 ∧ ∃ a6, zR M x0 14 = some a6 ∧ (zk M a6 = 14 ∧ vp_in x4 (zl M a6) ∧ ∃ a7, zR M a6 x4.toNatClampNeg = some a7 ∧ zk M a7 = 10 ∧ vp_in (0 : Int32) (zl M a7) ∧ ¬ (3 : Int32) = 0 ∧ l_X8_rent_8 P K74 n M x0 x1 (if ((zI M a5 (0 : Int32).toNatClampNeg) / (3 : Int32)) < x2 then ((zI M a5 (0 : Int32).toNatClampNeg) / (3 : Int32)) else x2) (if x3 < ((zI M a7 (0 : Int32).toNatClampNeg) / (3 : Int32)) then ((zI M a7 (0 : Int32).toNatClampNeg) / (3 : Int32)) else x3) (x4 + (1 : Int32))))))))))
set_option maxHeartbeats 4000000 in
set_option maxRecDepth 100000 in
theorem jl_X8_rent_8 {P : Int32 → Mm → Prop} {K74 : Mm → Nat → Int32 → Int32 → Int32 → Prop} (C : Cx p l s m args meth c cX8_rent 5 RX8 (some .int) E) (hkc : kc ≤ rm_X8_rent.cells ∧ ks ≤ rm_X8_rent.slots) (k74 : ∀ M x0 x1 x2 x3, K74 M x0 x1 x2 x3 → J p l e rm_X8_rent s m args below meth c (QI below E P args s rm_X8_rent.cells rm_X8_rent.slots) E 5 M kc ks 74 [(0, .ref x0), (1, .int x1), (2, .int x2), (3, .int x3)] []) : ∀ n M x0 x1 x2 x3 x4, l_X8_rent_8 P K74 n M x0 x1 x2 x3 x4 → J p l e rm_X8_rent s m args below meth c (QI below E P args s rm_X8_rent.cells rm_X8_rent.slots) E 5 M kc ks 8 [(0, .ref x0), (1, .int x1), (2, .int x2), (3, .int x3), (4, .int x4)] [] := by
  intro n
  induction n with
  | zero => intro M x0 x1 x2 x3 x4 h; exact h.elim
  | succ n ih =>
    intro M x0 x1 x2 x3 x4 h
    rw [l_X8_rent_8] at h
    refine j_iload (pc := 8) C 4 dX8_rent_8 rfl ?_
    refine j_aload_n (pc := 10) C 0 dX8_rent_10 rfl ?_
    refine gf_X8_41 (pc := 11) C dX8_rent_11 h (fun h => ?_)
    refine j_icmp_ge (pc := 14) C 74 dX8_rent_14 (by decide) h (fun h => ?_) (fun h => ?_)
    · exact j_weak [0, 1, 2, 3] rfl (k74 _ _ _ _ _ h)
    · refine j_aload_n (pc := 17) C 0 dX8_rent_17 rfl ?_
      refine gf_X8_33 (pc := 18) C dX8_rent_18 h (fun a2 h => ?_)
      refine j_iload (pc := 21) C 4 dX8_rent_21 rfl ?_
      refine j_aals (pc := 23) C (by decide) dX8_rent_23 h (fun a3 h => ?_)
      refine j_iconst (pc := 24) (v := (3 : Int32)) C dX8_rent_24 rfl ?_
      refine j_iald (pc := 25) C dX8_rent_25 h (fun h => ?_)
      refine j_iload_n (pc := 26) C 1 dX8_rent_26 rfl ?_
      refine j_ishr (pc := 27) C dX8_rent_27 ?_
      refine j_iconst (pc := 28) (v := (1 : Int32)) C dX8_rent_28 rfl ?_
      refine j_iand (pc := 29) C dX8_rent_29 ?_
      refine j_if_ne (pc := 30) C 36 dX8_rent_30 (by decide) h (fun h => ?_) (fun h => ?_)
      · refine j_iload_n (pc := 36) C 2 dX8_rent_36 rfl ?_
        refine j_aload_n (pc := 37) C 0 dX8_rent_37 rfl ?_
        refine gf_X8_33 (pc := 38) C dX8_rent_38 h (fun a4 h => ?_)
        refine j_iload (pc := 41) C 4 dX8_rent_41 rfl ?_
        refine j_aals (pc := 43) C (by decide) dX8_rent_43 h (fun a5 h => ?_)
        refine j_iconst (pc := 44) (v := (0 : Int32)) C dX8_rent_44 rfl ?_
        refine j_iald (pc := 45) C dX8_rent_45 h (fun h => ?_)
        refine j_iconst (pc := 46) (v := (3 : Int32)) C dX8_rent_46 rfl ?_
        refine j_idiv (pc := 47) C dX8_rent_47 h (fun h => ?_)
        refine j_mmin (pc := 48) C wd_1322 wd_457 wd_51 wd_458 dX8_rent_48 (Nat.le_of_ble_eq_true rfl) (Nat.le_of_ble_eq_true rfl) hkc ?_
        refine j_istore_n (pc := 51) C [(2, _), (0, _), (1, _), (3, _), (4, _)] dX8_rent_51 (by decide) rfl ?_
        refine j_iload_n (pc := 52) C 3 dX8_rent_52 rfl ?_
        refine j_aload_n (pc := 53) C 1 dX8_rent_53 rfl ?_
        refine gf_X8_33 (pc := 54) C dX8_rent_54 h (fun a6 h => ?_)
        refine j_iload (pc := 57) C 4 dX8_rent_57 rfl ?_
        refine j_aals (pc := 59) C (by decide) dX8_rent_59 h (fun a7 h => ?_)
        refine j_iconst (pc := 60) (v := (0 : Int32)) C dX8_rent_60 rfl ?_
        refine j_iald (pc := 61) C dX8_rent_61 h (fun h => ?_)
        refine j_iconst (pc := 62) (v := (3 : Int32)) C dX8_rent_62 rfl ?_
        refine j_idiv (pc := 63) C dX8_rent_63 h (fun h => ?_)
        refine j_mmax (pc := 64) C wd_1323 wd_439 wd_51 wd_440 dX8_rent_64 (Nat.le_of_ble_eq_true rfl) (Nat.le_of_ble_eq_true rfl) hkc ?_
        refine j_istore_n (pc := 67) C [(3, _), (2, _), (0, _), (1, _), (4, _)] dX8_rent_67 (by decide) rfl ?_
        refine j_iinc (pc := 68) (v := (1 : Int32)) C 4 [(4, _), (3, _), (2, _), (0, _), (1, _)] dX8_rent_68 rfl rfl (by decide) rfl ?_
        refine j_goto (pc := 71) C 8 dX8_rent_71 (by decide) ?_
        exact j_weak [3, 4, 2, 1, 0] rfl (ih _ _ _ _ _ _ h)
      · refine j_goto (pc := 33) C 68 dX8_rent_33 (by decide) ?_
        refine j_iinc (pc := 68) (v := (1 : Int32)) C 4 [(4, _), (0, _), (1, _), (2, _), (3, _)] dX8_rent_68 rfl rfl (by decide) rfl ?_
        refine j_goto (pc := 71) C 8 dX8_rent_71 (by decide) ?_
        exact j_weak [1, 2, 3, 4, 0] rfl (ih _ _ _ _ _ _ h)
def w_X8_rent (M : Mm) (x0 : Nat) (x1 : Int32) (P : Int32 → Mm → Prop) : Prop := (∃ n8, l_X8_rent_8 P (fun M8 x0_8 x1_8 x2_8 x3_8 => (if 0 ≤ x3_8 then (zk M8 x0_8 = 8 ∧ ∃ a9, zR M8 x0_8 12 = some a9 ∧ (zk M8 a9 = 14 ∧ vp_in x1_8 (zl M8 a9) ∧ ∃ a10, zR M8 a9 x1_8.toNatClampNeg = some a10 ∧ zk M8 a10 = 10 ∧ vp_in (3 : Int32) (zl M8 a10) ∧ P (((x3_8 - x2_8) + (1 : Int32)) * (zI M8 a10 (3 : Int32).toNatClampNeg)) M8)) else P (0 : Int32) M8)) n8 M x0 x1 (99 : Int32) (-1 : Int32) (0 : Int32))
set_option maxHeartbeats 4000000 in
set_option maxRecDepth 100000 in
theorem c_X8_rent (l : Launch) (E : EV) (M : Mm) (x0 : Nat) (x1 : Int32) (P : Int32 → Mm → Prop) (h : w_X8_rent M x0 x1 P) : CtI l E yX8_rent cX8_rent 5 .int rm_X8_rent 0 0 [.ref x0, .int x1] M P := by
  refine ctI_of (by decide +kernel) (Nat.le_of_ble_eq_true rfl) ?_
  intro p e s m args below meth c C
  rw [w_X8_rent] at h
  show J p l e rm_X8_rent s m args below meth c (QI below E P args s 0 0) E 5 M 0 0 0 [(0, .ref x0), (1, .int x1)] []
  refine j_bipush (pc := 0) (v := (99 : Int32)) C dX8_rent_0 rfl ?_
  refine j_istore_n (pc := 2) C [(2, _), (0, _), (1, _)] dX8_rent_2 (by decide) rfl ?_
  refine j_iconst (pc := 3) (v := (-1 : Int32)) C dX8_rent_3 rfl ?_
  refine j_istore_n (pc := 4) C [(3, _), (2, _), (0, _), (1, _)] dX8_rent_4 (by decide) rfl ?_
  refine j_iconst (pc := 5) (v := (0 : Int32)) C dX8_rent_5 rfl ?_
  refine j_istore (pc := 6) C [(4, _), (3, _), (2, _), (0, _), (1, _)] dX8_rent_6 (by decide) rfl ?_
  obtain ⟨n8, h⟩ := h
  refine j_weak [3, 4, 2, 1, 0] rfl (jl_X8_rent_8 C ⟨Nat.le_of_ble_eq_true rfl, Nat.le_of_ble_eq_true rfl⟩ (fun M8 x0_8 x1_8 x2_8 x3_8 h => ?_) n8 _ _ _ _ _ _ h)
  · refine j_iload_n (pc := 74) C 3 dX8_rent_74 rfl ?_
    refine j_if_ge (pc := 75) C 82 dX8_rent_75 (by decide) h (fun h => ?_) (fun h => ?_)
    · refine j_iload_n (pc := 82) C 3 dX8_rent_82 rfl ?_
      refine j_iload_n (pc := 83) C 2 dX8_rent_83 rfl ?_
      refine j_isub (pc := 84) C dX8_rent_84 ?_
      refine j_iconst (pc := 85) (v := (1 : Int32)) C dX8_rent_85 rfl ?_
      refine j_iadd (pc := 86) C dX8_rent_86 ?_
      refine j_aload_n (pc := 87) C 0 dX8_rent_87 rfl ?_
      refine gf_X8_27 (pc := 88) C dX8_rent_88 h (fun a9 h => ?_)
      refine j_iload_n (pc := 91) C 1 dX8_rent_91 rfl ?_
      refine j_aals (pc := 92) C (by decide) dX8_rent_92 h (fun a10 h => ?_)
      refine j_iconst (pc := 93) (v := (3 : Int32)) C dX8_rent_93 rfl ?_
      refine j_iald (pc := 94) C dX8_rent_94 h (fun h => ?_)
      refine j_imul (pc := 95) C dX8_rent_95 ?_
      exact j_iret (pc := 96) C dX8_rent_96 (Nat.le_of_ble_eq_true rfl) (Nat.le_of_ble_eq_true rfl) h
    · refine j_iconst (pc := 78) (v := (0 : Int32)) C dX8_rent_78 rfl ?_
      refine j_goto (pc := 79) C 96 dX8_rent_79 (by decide) ?_
      exact j_iret (pc := 96) C dX8_rent_96 (Nat.le_of_ble_eq_true rfl) (Nat.le_of_ble_eq_true rfl) h
theorem c2_X8_101 (C : Cx p l s m args meth c cc nL RX8 ret E) {b : Nat} {y0 : Int32} {P : Int32 → Mm → Prop} (hR : rm_X8_rent.frames + 1 ≤ R.frames ∧ 8 + (5 + 11) + rm_X8_rent.locals ≤ R.locals) (hf : kc ≤ R.cells ∧ ks ≤ R.slots) (hst : (st.map fun v => v.category).sum ≤ 8) (d : decode cc pc = .ok (.invokevirtual 101, 3)) (h : zk M b = 8 ∧ w_X8_rent M b y0 P) (kk : ∀ r M', P r M' → J p l e R s m args below meth c Q E nL M' kc ks (pc + 3) lo (.int r :: st)) : J p l e R s m args below meth c Q E nL M kc ks pc lo (.int y0 :: .ref b :: st) :=
  j_cV_I (n := 1) (As := [.int y0]) C co_X8 rfl wd_1319 wd_1320 h.1 (c_X8_rent l E M b y0 P h.2) ⟨wd_1321, wd_1348, wd_49, by decide +kernel, by decide +kernel, by decide +kernel⟩ rfl rfl hR hf rfl hst d kk
theorem c2_X8_104 (C : Cx p l s m args meth c cc nL RX8 ret E) {b : Nat} {y0 : Int32} {P : Int32 → Mm → Prop} (hR : rm_X8_count.frames + 1 ≤ R.frames ∧ 8 + (4 + 11) + rm_X8_count.locals ≤ R.locals) (hf : kc ≤ R.cells ∧ ks ≤ R.slots) (hst : (st.map fun v => v.category).sum ≤ 8) (d : decode cc pc = .ok (.invokevirtual 104, 3)) (h : zk M b = 8 ∧ w_X8_count M b y0 P) (kk : ∀ r M', P r M' → J p l e R s m args below meth c Q E nL M' kc ks (pc + 3) lo (.int r :: st)) : J p l e R s m args below meth c Q E nL M kc ks pc lo (.int y0 :: .ref b :: st) :=
  j_cV_I (n := 1) (As := [.int y0]) C co_X8 rfl wd_1282 wd_1283 h.1 (c_X8_count l E M b y0 P h.2) ⟨wd_1284, wd_1349, wd_49, by decide +kernel, by decide +kernel, by decide +kernel⟩ rfl rfl hR hf rfl hst d kk
theorem c2_X8_107 (C : Cx p l s m args meth c cc nL RX8 ret E) {b : Nat} {y0 : Int32} {P : Int32 → Mm → Prop} (hR : rm_X8_twiceOf.frames + 1 ≤ R.frames ∧ 8 + (6 + 11) + rm_X8_twiceOf.locals ≤ R.locals) (hf : kc ≤ R.cells ∧ ks ≤ R.slots) (hst : (st.map fun v => v.category).sum ≤ 8) (d : decode cc pc = .ok (.invokevirtual 107, 3)) (h : zk M b = 8 ∧ w_X8_twiceOf M b y0 P) (kk : ∀ r M', P r M' → J p l e R s m args below meth c Q E nL M' kc ks (pc + 3) lo (.int r :: st)) : J p l e R s m args below meth c Q E nL M kc ks pc lo (.int y0 :: .ref b :: st) :=
  j_cV_I (n := 1) (As := [.int y0]) C co_X8 rfl wd_1308 wd_1309 h.1 (c_X8_twiceOf l E M b y0 P h.2) ⟨wd_1310, wd_1350, wd_49, by decide +kernel, by decide +kernel, by decide +kernel⟩ rfl rfl hR hf rfl hst d kk
abbrev rm_X8_costs : Room := { frames := 2, cells := 0, slots := 0, locals := 50 }
def l_X8_costs_4 (P : Int32 → Mm → Prop) (K32 : Mm → Nat → Int32 → Int32 → Prop) : Nat → Mm → Nat → Int32 → Int32 → Int32 → Prop
  | 0, _, _, _, _, _ => False
  | n + 1, M, x0, x1, x2, x3 => zk M x0 = 8 ∧ (if (zI M x0 3) ≤ x3 then K32 M x0 x1 x2 else ¬ (3 : Int32) = 0 ∧ (if (x1 - x1 / (3 : Int32) * (3 : Int32)) = 0 then zk M x0 = 8 ∧ w_X8_rent M x0 x3 (fun r2 M2 => l_X8_costs_4 P K32 n M2 x0 x1 (x2 + r2) (x3 + (1 : Int32))) else K32 M x0 x1 x2))
set_option maxHeartbeats 4000000 in
set_option maxRecDepth 100000 in
theorem jl_X8_costs_4 {P : Int32 → Mm → Prop} {K32 : Mm → Nat → Int32 → Int32 → Prop} (C : Cx p l s m args meth c cX8_costs 4 RX8 (some .int) E) (hkc : kc ≤ rm_X8_costs.cells ∧ ks ≤ rm_X8_costs.slots) (k32 : ∀ M x0 x1 x2, K32 M x0 x1 x2 → J p l e rm_X8_costs s m args below meth c (QI below E P args s rm_X8_costs.cells rm_X8_costs.slots) E 4 M kc ks 32 [(0, .ref x0), (1, .int x1), (2, .int x2)] []) : ∀ n M x0 x1 x2 x3, l_X8_costs_4 P K32 n M x0 x1 x2 x3 → J p l e rm_X8_costs s m args below meth c (QI below E P args s rm_X8_costs.cells rm_X8_costs.slots) E 4 M kc ks 4 [(0, .ref x0), (1, .int x1), (2, .int x2), (3, .int x3)] [] := by
  intro n
  induction n with
  | zero => intro M x0 x1 x2 x3 h; exact h.elim
  | succ n ih =>
    intro M x0 x1 x2 x3 h
    rw [l_X8_costs_4] at h
    refine j_iload_n (pc := 4) C 3 dX8_costs_4 rfl ?_
    refine j_aload_n (pc := 5) C 0 dX8_costs_5 rfl ?_
    refine gf_X8_77 (pc := 6) C dX8_costs_6 h (fun h => ?_)
    refine j_icmp_ge (pc := 9) C 32 dX8_costs_9 (by decide) h (fun h => ?_) (fun h => ?_)
    · exact j_weak [0, 1, 2] rfl (k32 _ _ _ _ h)
    · refine j_iload_n (pc := 12) C 1 dX8_costs_12 rfl ?_
      refine j_iconst (pc := 13) (v := (3 : Int32)) C dX8_costs_13 rfl ?_
      refine j_irem (pc := 14) C dX8_costs_14 h (fun h => ?_)
      refine j_if_ne (pc := 15) C 32 dX8_costs_15 (by decide) h (fun h => ?_) (fun h => ?_)
      · exact j_weak [0, 1, 2] rfl (k32 _ _ _ _ h)
      · refine j_iload_n (pc := 18) C 2 dX8_costs_18 rfl ?_
        refine j_aload_n (pc := 19) C 0 dX8_costs_19 rfl ?_
        refine j_iload_n (pc := 20) C 3 dX8_costs_20 rfl ?_
        refine c2_X8_101 (pc := 21) C ⟨(Nat.le_of_ble_eq_true rfl), (Nat.le_of_ble_eq_true rfl)⟩ hkc (Nat.le_of_ble_eq_true rfl) dX8_costs_21 h (fun r2 M2 h => ?_)
        refine j_iadd (pc := 24) C dX8_costs_24 ?_
        refine j_istore_n (pc := 25) C [(2, _), (0, _), (1, _), (3, _)] dX8_costs_25 (by decide) rfl ?_
        refine j_iinc (pc := 26) (v := (1 : Int32)) C 3 [(3, _), (2, _), (0, _), (1, _)] dX8_costs_26 rfl rfl (by decide) rfl ?_
        refine j_goto (pc := 29) C 4 dX8_costs_29 (by decide) ?_
        exact j_weak [2, 3, 1, 0] rfl (ih _ _ _ _ _ h)
def l_X8_costs_34 (P : Int32 → Mm → Prop) (K102 : Mm → Int32 → Prop) : Nat → Mm → Nat → Int32 → Int32 → Int32 → Prop
  | 0, _, _, _, _, _ => False
  | n + 1, M, x0, x1, x2, x3 => zk M x0 = 8 ∧ (if (zI M x0 2) ≤ x3 then K102 M x2 else (if x1 = (1 : Int32) then zk M x0 = 8 ∧ w_X8_count M x0 x3 (fun r5 M5 => (zk M5 x0 = 8 ∧ ∃ a6, zR M5 x0 9 = some a6 ∧ zk M5 a6 = 10 ∧ vp_in x3 (zl M5 a6) ∧ (zk M5 x0 = 8 ∧ ∃ a7, zR M5 x0 8 = some a7 ∧ zk M5 a7 = 10 ∧ vp_in x3 (zl M5 a7) ∧ (if x1 ≤ (1 : Int32) then l_X8_costs_34 P K102 n M5 x0 x1 (x2 + ((if (0 : Int32) < (r5 - (zI M5 a6 x3.toNatClampNeg)) then (r5 - (zI M5 a6 x3.toNatClampNeg)) else (0 : Int32)) * (zI M5 a7 x3.toNatClampNeg))) (x3 + (1 : Int32)) else zk M5 x0 = 8 ∧ w_X8_twiceOf M5 x0 x3 (fun r8 M8 => zk M8 x0 = 8 ∧ l_X8_costs_34 P K102 n M8 x0 x1 ((x2 + ((if (0 : Int32) < (r5 - (zI M5 a6 x3.toNatClampNeg)) then (r5 - (zI M5 a6 x3.toNatClampNeg)) else (0 : Int32)) * (zI M5 a7 x3.toNatClampNeg))) + (r8 * (zI M8 x0 5))) (x3 + (1 : Int32))))))) else (if x1 = (3 : Int32) then zk M x0 = 8 ∧ w_X8_count M x0 x3 (fun r12 M12 => (zk M12 x0 = 8 ∧ ∃ a13, zR M12 x0 9 = some a13 ∧ zk M12 a13 = 10 ∧ vp_in x3 (zl M12 a13) ∧ (zk M12 x0 = 8 ∧ ∃ a14, zR M12 x0 8 = some a14 ∧ zk M12 a14 = 10 ∧ vp_in x3 (zl M12 a14) ∧ (if x1 ≤ (1 : Int32) then l_X8_costs_34 P K102 n M12 x0 x1 (x2 + ((if (0 : Int32) < (r12 - (zI M12 a13 x3.toNatClampNeg)) then (r12 - (zI M12 a13 x3.toNatClampNeg)) else (0 : Int32)) * (zI M12 a14 x3.toNatClampNeg))) (x3 + (1 : Int32)) else zk M12 x0 = 8 ∧ w_X8_twiceOf M12 x0 x3 (fun r15 M15 => zk M15 x0 = 8 ∧ l_X8_costs_34 P K102 n M15 x0 x1 ((x2 + ((if (0 : Int32) < (r12 - (zI M12 a13 x3.toNatClampNeg)) then (r12 - (zI M12 a13 x3.toNatClampNeg)) else (0 : Int32)) * (zI M12 a14 x3.toNatClampNeg))) + (r15 * (zI M15 x0 5))) (x3 + (1 : Int32))))))) else (if x1 ≤ (1 : Int32) then l_X8_costs_34 P K102 n M x0 x1 x2 (x3 + (1 : Int32)) else zk M x0 = 8 ∧ w_X8_twiceOf M x0 x3 (fun r10 M10 => zk M10 x0 = 8 ∧ l_X8_costs_34 P K102 n M10 x0 x1 (x2 + (r10 * (zI M10 x0 5))) (x3 + (1 : Int32)))))))
set_option maxHeartbeats 4000000 in
set_option maxRecDepth 100000 in
theorem jl_X8_costs_34 {P : Int32 → Mm → Prop} {K102 : Mm → Int32 → Prop} (C : Cx p l s m args meth c cX8_costs 4 RX8 (some .int) E) (hkc : kc ≤ rm_X8_costs.cells ∧ ks ≤ rm_X8_costs.slots) (k102 : ∀ M x2, K102 M x2 → J p l e rm_X8_costs s m args below meth c (QI below E P args s rm_X8_costs.cells rm_X8_costs.slots) E 4 M kc ks 102 [(2, .int x2)] []) : ∀ n M x0 x1 x2 x3, l_X8_costs_34 P K102 n M x0 x1 x2 x3 → J p l e rm_X8_costs s m args below meth c (QI below E P args s rm_X8_costs.cells rm_X8_costs.slots) E 4 M kc ks 34 [(0, .ref x0), (1, .int x1), (2, .int x2), (3, .int x3)] [] := by
  intro n
  induction n with
  | zero => intro M x0 x1 x2 x3 h; exact h.elim
  | succ n ih =>
    intro M x0 x1 x2 x3 h
    rw [l_X8_costs_34] at h
    refine j_iload_n (pc := 34) C 3 dX8_costs_34 rfl ?_
    refine j_aload_n (pc := 35) C 0 dX8_costs_35 rfl ?_
    refine gf_X8_63 (pc := 36) C dX8_costs_36 h (fun h => ?_)
    refine j_icmp_ge (pc := 39) C 102 dX8_costs_39 (by decide) h (fun h => ?_) (fun h => ?_)
    · exact j_weak [2] rfl (k102 _ _ h)
    · refine j_iload_n (pc := 42) C 1 dX8_costs_42 rfl ?_
      refine j_iconst (pc := 43) (v := (1 : Int32)) C dX8_costs_43 rfl ?_
      refine j_icmp_eq (pc := 44) C 52 dX8_costs_44 (by decide) h (fun h => ?_) (fun h => ?_)
      · refine j_iload_n (pc := 52) C 2 dX8_costs_52 rfl ?_
        refine j_iconst (pc := 53) (v := (0 : Int32)) C dX8_costs_53 rfl ?_
        refine j_aload_n (pc := 54) C 0 dX8_costs_54 rfl ?_
        refine j_iload_n (pc := 55) C 3 dX8_costs_55 rfl ?_
        refine c2_X8_104 (pc := 56) C ⟨(Nat.le_of_ble_eq_true rfl), (Nat.le_of_ble_eq_true rfl)⟩ hkc (Nat.le_of_ble_eq_true rfl) dX8_costs_56 h (fun r5 M5 h => ?_)
        refine j_aload_n (pc := 59) C 0 dX8_costs_59 rfl ?_
        refine gf_X8_16 (pc := 60) C dX8_costs_60 h (fun a6 h => ?_)
        refine j_iload_n (pc := 63) C 3 dX8_costs_63 rfl ?_
        refine j_iald (pc := 64) C dX8_costs_64 h (fun h => ?_)
        refine j_isub (pc := 65) C dX8_costs_65 ?_
        refine j_mmax (pc := 66) C wd_1323 wd_439 wd_51 wd_440 dX8_costs_66 (Nat.le_of_ble_eq_true rfl) (Nat.le_of_ble_eq_true rfl) hkc ?_
        refine j_aload_n (pc := 69) C 0 dX8_costs_69 rfl ?_
        refine gf_X8_13 (pc := 70) C dX8_costs_70 h (fun a7 h => ?_)
        refine j_iload_n (pc := 73) C 3 dX8_costs_73 rfl ?_
        refine j_iald (pc := 74) C dX8_costs_74 h (fun h => ?_)
        refine j_imul (pc := 75) C dX8_costs_75 ?_
        refine j_iadd (pc := 76) C dX8_costs_76 ?_
        refine j_istore_n (pc := 77) C [(2, _), (0, _), (1, _), (3, _)] dX8_costs_77 (by decide) rfl ?_
        refine j_iload_n (pc := 78) C 2 dX8_costs_78 rfl ?_
        refine j_iconst (pc := 79) (v := (1 : Int32)) C dX8_costs_79 rfl ?_
        refine j_icmp_le (pc := 80) C 96 dX8_costs_80 (by decide) h (fun h => ?_) (fun h => ?_)
        · refine j_iinc (pc := 96) (v := (1 : Int32)) C 3 [(3, _), (2, _), (0, _), (1, _)] dX8_costs_96 rfl rfl (by decide) rfl ?_
          refine j_goto (pc := 99) C 34 dX8_costs_99 (by decide) ?_
          exact j_weak [2, 3, 1, 0] rfl (ih _ _ _ _ _ h)
        · refine j_iload_n (pc := 83) C 0 dX8_costs_83 rfl ?_
          refine j_aload_n (pc := 84) C 1 dX8_costs_84 rfl ?_
          refine j_iload_n (pc := 85) C 3 dX8_costs_85 rfl ?_
          refine c2_X8_107 (pc := 86) C ⟨(Nat.le_of_ble_eq_true rfl), (Nat.le_of_ble_eq_true rfl)⟩ hkc (Nat.le_of_ble_eq_true rfl) dX8_costs_86 h (fun r8 M8 h => ?_)
          refine j_aload_n (pc := 89) C 1 dX8_costs_89 rfl ?_
          refine gf_X8_110 (pc := 90) C dX8_costs_90 h (fun h => ?_)
          refine j_imul (pc := 93) C dX8_costs_93 ?_
          refine j_iadd (pc := 94) C dX8_costs_94 ?_
          refine j_istore_n (pc := 95) C [(2, _), (0, _), (1, _), (3, _)] dX8_costs_95 (by decide) rfl ?_
          refine j_iinc (pc := 96) (v := (1 : Int32)) C 3 [(3, _), (2, _), (0, _), (1, _)] dX8_costs_96 rfl rfl (by decide) rfl ?_
          refine j_goto (pc := 99) C 34 dX8_costs_99 (by decide) ?_
          exact j_weak [2, 3, 1, 0] rfl (ih _ _ _ _ _ h)
      · refine j_iload_n (pc := 47) C 1 dX8_costs_47 rfl ?_
        refine j_iconst (pc := 48) (v := (3 : Int32)) C dX8_costs_48 rfl ?_
        refine j_icmp_ne (pc := 49) C 78 dX8_costs_49 (by decide) h (fun h => ?_) (fun h => ?_)
        · refine j_iload_n (pc := 78) C 1 dX8_costs_78 rfl ?_
          refine j_iconst (pc := 79) (v := (1 : Int32)) C dX8_costs_79 rfl ?_
          refine j_icmp_le (pc := 80) C 96 dX8_costs_80 (by decide) h (fun h => ?_) (fun h => ?_)
          · refine j_iinc (pc := 96) (v := (1 : Int32)) C 3 [(3, _), (0, _), (1, _), (2, _)] dX8_costs_96 rfl rfl (by decide) rfl ?_
            refine j_goto (pc := 99) C 34 dX8_costs_99 (by decide) ?_
            exact j_weak [1, 2, 3, 0] rfl (ih _ _ _ _ _ h)
          · refine j_iload_n (pc := 83) C 2 dX8_costs_83 rfl ?_
            refine j_aload_n (pc := 84) C 0 dX8_costs_84 rfl ?_
            refine j_iload_n (pc := 85) C 3 dX8_costs_85 rfl ?_
            refine c2_X8_107 (pc := 86) C ⟨(Nat.le_of_ble_eq_true rfl), (Nat.le_of_ble_eq_true rfl)⟩ hkc (Nat.le_of_ble_eq_true rfl) dX8_costs_86 h (fun r10 M10 h => ?_)
            refine j_aload_n (pc := 89) C 0 dX8_costs_89 rfl ?_
            refine gf_X8_110 (pc := 90) C dX8_costs_90 h (fun h => ?_)
            refine j_imul (pc := 93) C dX8_costs_93 ?_
            refine j_iadd (pc := 94) C dX8_costs_94 ?_
            refine j_istore_n (pc := 95) C [(2, _), (0, _), (1, _), (3, _)] dX8_costs_95 (by decide) rfl ?_
            refine j_iinc (pc := 96) (v := (1 : Int32)) C 3 [(3, _), (2, _), (0, _), (1, _)] dX8_costs_96 rfl rfl (by decide) rfl ?_
            refine j_goto (pc := 99) C 34 dX8_costs_99 (by decide) ?_
            exact j_weak [2, 3, 1, 0] rfl (ih _ _ _ _ _ h)
        · refine j_iload_n (pc := 52) C 2 dX8_costs_52 rfl ?_
          refine j_iconst (pc := 53) (v := (0 : Int32)) C dX8_costs_53 rfl ?_
          refine j_aload_n (pc := 54) C 0 dX8_costs_54 rfl ?_
          refine j_iload_n (pc := 55) C 3 dX8_costs_55 rfl ?_
          refine c2_X8_104 (pc := 56) C ⟨(Nat.le_of_ble_eq_true rfl), (Nat.le_of_ble_eq_true rfl)⟩ hkc (Nat.le_of_ble_eq_true rfl) dX8_costs_56 h (fun r12 M12 h => ?_)
          refine j_aload_n (pc := 59) C 0 dX8_costs_59 rfl ?_
          refine gf_X8_16 (pc := 60) C dX8_costs_60 h (fun a13 h => ?_)
          refine j_iload_n (pc := 63) C 3 dX8_costs_63 rfl ?_
          refine j_iald (pc := 64) C dX8_costs_64 h (fun h => ?_)
          refine j_isub (pc := 65) C dX8_costs_65 ?_
          refine j_mmax (pc := 66) C wd_1323 wd_439 wd_51 wd_440 dX8_costs_66 (Nat.le_of_ble_eq_true rfl) (Nat.le_of_ble_eq_true rfl) hkc ?_
          refine j_aload_n (pc := 69) C 0 dX8_costs_69 rfl ?_
          refine gf_X8_13 (pc := 70) C dX8_costs_70 h (fun a14 h => ?_)
          refine j_iload_n (pc := 73) C 3 dX8_costs_73 rfl ?_
          refine j_iald (pc := 74) C dX8_costs_74 h (fun h => ?_)
          refine j_imul (pc := 75) C dX8_costs_75 ?_
          refine j_iadd (pc := 76) C dX8_costs_76 ?_
          refine j_istore_n (pc := 77) C [(2, _), (0, _), (1, _), (3, _)] dX8_costs_77 (by decide) rfl ?_
          refine j_iload_n (pc := 78) C 2 dX8_costs_78 rfl ?_
          refine j_iconst (pc := 79) (v := (1 : Int32)) C dX8_costs_79 rfl ?_
          refine j_icmp_le (pc := 80) C 96 dX8_costs_80 (by decide) h (fun h => ?_) (fun h => ?_)
          · refine j_iinc (pc := 96) (v := (1 : Int32)) C 3 [(3, _), (2, _), (0, _), (1, _)] dX8_costs_96 rfl rfl (by decide) rfl ?_
            refine j_goto (pc := 99) C 34 dX8_costs_99 (by decide) ?_
            exact j_weak [2, 3, 1, 0] rfl (ih _ _ _ _ _ h)
          · refine j_iload_n (pc := 83) C 0 dX8_costs_83 rfl ?_
            refine j_aload_n (pc := 84) C 1 dX8_costs_84 rfl ?_
            refine j_iload_n (pc := 85) C 3 dX8_costs_85 rfl ?_
            refine c2_X8_107 (pc := 86) C ⟨(Nat.le_of_ble_eq_true rfl), (Nat.le_of_ble_eq_true rfl)⟩ hkc (Nat.le_of_ble_eq_true rfl) dX8_costs_86 h (fun r15 M15 h => ?_)
            refine j_aload_n (pc := 89) C 1 dX8_costs_89 rfl ?_
            refine gf_X8_110 (pc := 90) C dX8_costs_90 h (fun h => ?_)
            refine j_imul (pc := 93) C dX8_costs_93 ?_
            refine j_iadd (pc := 94) C dX8_costs_94 ?_
            refine j_istore_n (pc := 95) C [(2, _), (0, _), (1, _), (3, _)] dX8_costs_95 (by decide) rfl ?_
            refine j_iinc (pc := 96) (v := (1 : Int32)) C 3 [(3, _), (2, _), (0, _), (1, _)] dX8_costs_96 rfl rfl (by decide) rfl ?_
            refine j_goto (pc := 99) C 34 dX8_costs_99 (by decide) ?_
            exact j_weak [2, 3, 1, 0] rfl (ih _ _ _ _ _ h)
def w_X8_costs (M : Mm) (x0 : Nat) (x1 : Int32) (P : Int32 → Mm → Prop) : Prop := (∃ n4, l_X8_costs_4 P (fun M3 x0_3 x1_3 x2_3 => (∃ n34, l_X8_costs_34 P (fun M17 x2_17 => P x2_17 M17) n34 M3 x0_3 x1_3 x2_3 (0 : Int32))) n4 M x0 x1 (0 : Int32) (0 : Int32))
set_option maxHeartbeats 4000000 in
set_option maxRecDepth 100000 in
theorem c_X8_costs (l : Launch) (E : EV) (M : Mm) (x0 : Nat) (x1 : Int32) (P : Int32 → Mm → Prop) (h : w_X8_costs M x0 x1 P) : CtI l E yX8_costs cX8_costs 4 .int rm_X8_costs 0 0 [.ref x0, .int x1] M P := by
  refine ctI_of (by decide +kernel) (Nat.le_of_ble_eq_true rfl) ?_
  intro p e s m args below meth c C
  rw [w_X8_costs] at h
  show J p l e rm_X8_costs s m args below meth c (QI below E P args s 0 0) E 4 M 0 0 0 [(0, .ref x0), (1, .int x1)] []
  refine j_iconst (pc := 0) (v := (0 : Int32)) C dX8_costs_0 rfl ?_
  refine j_istore_n (pc := 1) C [(2, _), (0, _), (1, _)] dX8_costs_1 (by decide) rfl ?_
  refine j_iconst (pc := 2) (v := (0 : Int32)) C dX8_costs_2 rfl ?_
  refine j_istore_n (pc := 3) C [(3, _), (2, _), (0, _), (1, _)] dX8_costs_3 (by decide) rfl ?_
  obtain ⟨n4, h⟩ := h
  refine j_weak [2, 3, 1, 0] rfl (jl_X8_costs_4 C ⟨Nat.le_of_ble_eq_true rfl, Nat.le_of_ble_eq_true rfl⟩ (fun M3 x0_3 x1_3 x2_3 h => ?_) n4 _ _ _ _ _ h)
  · refine j_iconst (pc := 32) (v := (0 : Int32)) C dX8_costs_32 rfl ?_
    refine j_istore_n (pc := 33) C [(3, _), (0, _), (1, _), (2, _)] dX8_costs_33 (by decide) rfl ?_
    obtain ⟨n34, h⟩ := h
    refine j_weak [1, 2, 3, 0] rfl (jl_X8_costs_34 C ⟨Nat.le_of_ble_eq_true rfl, Nat.le_of_ble_eq_true rfl⟩ (fun M17 x2_17 h => ?_) n34 _ _ _ _ _ h)
    · refine j_iload_n (pc := 102) C 0 dX8_costs_102 rfl ?_
      exact j_iret (pc := 103) C dX8_costs_103 (Nat.le_of_ble_eq_true rfl) (Nat.le_of_ble_eq_true rfl) h
abbrev rm_L_draw : Room := { frames := 0, cells := 0, slots := 0, locals := 0 }
def w_L_draw (M : Mm) (x0 : Nat) (x1 : Int32) (P : Int32 → Mm → Prop) : Prop := zk M x0 = 10 ∧ vp_in (0 : Int32) (zl M x0) ∧ zk M x0 = 10 ∧ vp_in (0 : Int32) (zl M x0) ∧ (∀ M1, M1 = sI M x0 (0 : Int32).toNatClampNeg (((zI M x0 (0 : Int32).toNatClampNeg) * (1664525 : Int32)) + (1013904223 : Int32)) → zk M1 x0 = 10 ∧ vp_in (0 : Int32) (zl M1 x0) ∧ ¬ x1 = 0 ∧ P (((zI M1 x0 (0 : Int32).toNatClampNeg).toUInt32 >>> ((8 : Int32).toUInt32 &&& Int32.toUInt32 31)).toInt32 - ((zI M1 x0 (0 : Int32).toNatClampNeg).toUInt32 >>> ((8 : Int32).toUInt32 &&& Int32.toUInt32 31)).toInt32 / x1 * x1) M1)
set_option maxHeartbeats 4000000 in
set_option maxRecDepth 100000 in
theorem c_L_draw (l : Launch) (E : EV) (M : Mm) (x0 : Nat) (x1 : Int32) (P : Int32 → Mm → Prop) (h : w_L_draw M x0 x1 P) : CtI l E yL_draw cL_draw 2 .int rm_L_draw 0 0 [.ref x0, .int x1] M P := by
  refine ctI_of (by decide +kernel) (Nat.le_of_ble_eq_true rfl) ?_
  intro p e s m args below meth c C
  rw [w_L_draw] at h
  show J p l e rm_L_draw s m args below meth c (QI below E P args s 0 0) E 2 M 0 0 0 [(0, .ref x0), (1, .int x1)] []
  refine j_aload_n (pc := 0) C 0 dL_draw_0 rfl ?_
  refine j_iconst (pc := 1) (v := (0 : Int32)) C dL_draw_1 rfl ?_
  refine j_aload_n (pc := 2) C 0 dL_draw_2 rfl ?_
  refine j_iconst (pc := 3) (v := (0 : Int32)) C dL_draw_3 rfl ?_
  refine j_iald (pc := 4) C dL_draw_4 h (fun h => ?_)
  refine j_ldci (pc := 5) C wd_413 dL_draw_5 ?_
  refine j_imul (pc := 7) C dL_draw_7 ?_
  refine j_ldci (pc := 8) C wd_414 dL_draw_8 ?_
  refine j_iadd (pc := 10) C dL_draw_10 ?_
  refine n_iast (pc := 11) C dL_draw_11 h (fun M1 h => ?_)
  refine j_aload_n (pc := 12) C 0 dL_draw_12 rfl ?_
  refine j_iconst (pc := 13) (v := (0 : Int32)) C dL_draw_13 rfl ?_
  refine j_iald (pc := 14) C dL_draw_14 h (fun h => ?_)
  refine j_bipush (pc := 15) (v := (8 : Int32)) C dL_draw_15 rfl ?_
  refine j_iushr (pc := 17) C dL_draw_17 ?_
  refine j_iload_n (pc := 18) C 1 dL_draw_18 rfl ?_
  refine j_irem (pc := 19) C dL_draw_19 h (fun h => ?_)
  exact j_iret (pc := 20) C dL_draw_20 (Nat.le_of_ble_eq_true rfl) (Nat.le_of_ble_eq_true rfl) h
abbrev rm_L_back : Room := { frames := 0, cells := 0, slots := 0, locals := 0 }
def l_L_back_5 (P : Int32 → Mm → Prop) (K91 : Mm → Nat → Nat → Nat → Int32 → Prop) : Nat → Mm → Nat → Nat → Nat → Int32 → Prop
  | 0, _, _, _, _, _ => False
  | n + 1, M, x0, x1, x2, x3 => (if x3 ≤ 0 then K91 M x0 x1 x2 x3 else (zk M x0 = 8 ∧ ∃ a2, zR M x0 14 = some a2 ∧ (zk M a2 = 14 ∧ vp_in (x3 - (1 : Int32)) (zl M a2) ∧ ∃ a3, zR M a2 (x3 - (1 : Int32)).toNatClampNeg = some a3 ∧ zk M a3 = 10 ∧ vp_in (0 : Int32) (zl M a3) ∧ zk M x1 = 10 ∧ vp_in (0 : Int32) (zl M x1) ∧ (if (zI M x1 (0 : Int32).toNatClampNeg) < (zI M a3 (0 : Int32).toNatClampNeg) then (zk M x0 = 8 ∧ ∃ a4, zR M x0 14 = some a4 ∧ (zk M x0 = 8 ∧ ∃ a5, zR M x0 14 = some a5 ∧ (zk M a5 = 14 ∧ vp_in (x3 - (1 : Int32)) (zl M a5) ∧ ∃ a6, zR M a5 (x3 - (1 : Int32)).toNatClampNeg = some a6 ∧ zk M a4 = 14 ∧ zk M a6 = 10 ∧ vp_in x3 (zl M a4) ∧ (∀ M7, M7 = sR M a4 x3.toNatClampNeg (some a6) → (zk M7 x0 = 8 ∧ ∃ a8, zR M7 x0 15 = some a8 ∧ (zk M7 x0 = 8 ∧ ∃ a9, zR M7 x0 15 = some a9 ∧ (zk M7 a9 = 15 ∧ vp_in (x3 - (1 : Int32)) (zl M7 a9) ∧ ∃ a10, zR M7 a9 (x3 - (1 : Int32)).toNatClampNeg = some a10 ∧ zk M7 a8 = 15 ∧ zk M7 a10 = 14 ∧ vp_in x3 (zl M7 a8) ∧ (∀ M11, M11 = sR M7 a8 x3.toNatClampNeg (some a10) → l_L_back_5 P K91 n M11 x0 x1 x2 (x3 + (-1 : Int32)))))))))) else (zk M x0 = 8 ∧ ∃ a12, zR M x0 14 = some a12 ∧ (zk M a12 = 14 ∧ vp_in (x3 - (1 : Int32)) (zl M a12) ∧ ∃ a13, zR M a12 (x3 - (1 : Int32)).toNatClampNeg = some a13 ∧ zk M a13 = 10 ∧ vp_in (0 : Int32) (zl M a13) ∧ zk M x1 = 10 ∧ vp_in (0 : Int32) (zl M x1) ∧ (if (zI M a13 (0 : Int32).toNatClampNeg) = (zI M x1 (0 : Int32).toNatClampNeg) then (zk M x0 = 8 ∧ ∃ a14, zR M x0 14 = some a14 ∧ (zk M a14 = 14 ∧ vp_in (x3 - (1 : Int32)) (zl M a14) ∧ ∃ a15, zR M a14 (x3 - (1 : Int32)).toNatClampNeg = some a15 ∧ zk M a15 = 10 ∧ vp_in (1 : Int32) (zl M a15) ∧ zk M x1 = 10 ∧ vp_in (1 : Int32) (zl M x1) ∧ (if (zI M a15 (1 : Int32).toNatClampNeg) ≤ (zI M x1 (1 : Int32).toNatClampNeg) then K91 M x0 x1 x2 x3 else (zk M x0 = 8 ∧ ∃ a16, zR M x0 14 = some a16 ∧ (zk M x0 = 8 ∧ ∃ a17, zR M x0 14 = some a17 ∧ (zk M a17 = 14 ∧ vp_in (x3 - (1 : Int32)) (zl M a17) ∧ ∃ a18, zR M a17 (x3 - (1 : Int32)).toNatClampNeg = some a18 ∧ zk M a16 = 14 ∧ zk M a18 = 10 ∧ vp_in x3 (zl M a16) ∧ (∀ M19, M19 = sR M a16 x3.toNatClampNeg (some a18) → (zk M19 x0 = 8 ∧ ∃ a20, zR M19 x0 15 = some a20 ∧ (zk M19 x0 = 8 ∧ ∃ a21, zR M19 x0 15 = some a21 ∧ (zk M19 a21 = 15 ∧ vp_in (x3 - (1 : Int32)) (zl M19 a21) ∧ ∃ a22, zR M19 a21 (x3 - (1 : Int32)).toNatClampNeg = some a22 ∧ zk M19 a20 = 15 ∧ zk M19 a22 = 14 ∧ vp_in x3 (zl M19 a20) ∧ (∀ M23, M23 = sR M19 a20 x3.toNatClampNeg (some a22) → l_L_back_5 P K91 n M23 x0 x1 x2 (x3 + (-1 : Int32))))))))))))) else K91 M x0 x1 x2 x3)))))))
set_option maxHeartbeats 4000000 in
set_option maxRecDepth 100000 in
theorem jl_L_back_5 {P : Int32 → Mm → Prop} {K91 : Mm → Nat → Nat → Nat → Int32 → Prop} (C : Cx p l s m args meth c cL_back 4 RL (some .int) E) (hkc : kc ≤ rm_L_back.cells ∧ ks ≤ rm_L_back.slots) (k91 : ∀ M x0 x1 x2 x3, K91 M x0 x1 x2 x3 → J p l e rm_L_back s m args below meth c (QI below E P args s rm_L_back.cells rm_L_back.slots) E 4 M kc ks 91 [(0, .ref x0), (1, .ref x1), (2, .ref x2), (3, .int x3)] []) : ∀ n M x0 x1 x2 x3, l_L_back_5 P K91 n M x0 x1 x2 x3 → J p l e rm_L_back s m args below meth c (QI below E P args s rm_L_back.cells rm_L_back.slots) E 4 M kc ks 5 [(0, .ref x0), (1, .ref x1), (2, .ref x2), (3, .int x3)] [] := by
  intro n
  induction n with
  | zero => intro M x0 x1 x2 x3 h; exact h.elim
  | succ n ih =>
    intro M x0 x1 x2 x3 h
    rw [l_L_back_5] at h
    refine j_iload_n (pc := 5) C 3 dL_back_5 rfl ?_
    refine j_if_le (pc := 6) C 91 dL_back_6 (by decide) h (fun h => ?_) (fun h => ?_)
    · exact j_weak [0, 1, 2, 3] rfl (k91 _ _ _ _ _ h)
    · refine j_aload_n (pc := 9) C 0 dL_back_9 rfl ?_
      refine gf_L_173 (pc := 10) C dL_back_10 h (fun a2 h => ?_)
      refine j_iload_n (pc := 13) C 3 dL_back_13 rfl ?_
      refine j_iconst (pc := 14) (v := (1 : Int32)) C dL_back_14 rfl ?_
      refine j_isub (pc := 15) C dL_back_15 ?_
      refine j_aals (pc := 16) C (by decide) dL_back_16 h (fun a3 h => ?_)
      refine j_iconst (pc := 17) (v := (0 : Int32)) C dL_back_17 rfl ?_
      refine j_iald (pc := 18) C dL_back_18 h (fun h => ?_)
      refine j_aload_n (pc := 19) C 1 dL_back_19 rfl ?_
      refine j_iconst (pc := 20) (v := (0 : Int32)) C dL_back_20 rfl ?_
      refine j_iald (pc := 21) C dL_back_21 h (fun h => ?_)
      refine j_icmp_gt (pc := 22) C 57 dL_back_22 (by decide) h (fun h => ?_) (fun h => ?_)
      · refine j_aload_n (pc := 57) C 0 dL_back_57 rfl ?_
        refine gf_L_173 (pc := 58) C dL_back_58 h (fun a4 h => ?_)
        refine j_iload_n (pc := 61) C 3 dL_back_61 rfl ?_
        refine j_aload_n (pc := 62) C 0 dL_back_62 rfl ?_
        refine gf_L_173 (pc := 63) C dL_back_63 h (fun a5 h => ?_)
        refine j_iload_n (pc := 66) C 3 dL_back_66 rfl ?_
        refine j_iconst (pc := 67) (v := (1 : Int32)) C dL_back_67 rfl ?_
        refine j_isub (pc := 68) C dL_back_68 ?_
        refine j_aals (pc := 69) C (by decide) dL_back_69 h (fun a6 h => ?_)
        refine n_aas2 (pc := 70) C (by decide) dL_back_70 h (fun M7 h => ?_)
        refine j_aload_n (pc := 71) C 0 dL_back_71 rfl ?_
        refine gf_L_158 (pc := 72) C dL_back_72 h (fun a8 h => ?_)
        refine j_iload_n (pc := 75) C 3 dL_back_75 rfl ?_
        refine j_aload_n (pc := 76) C 0 dL_back_76 rfl ?_
        refine gf_L_158 (pc := 77) C dL_back_77 h (fun a9 h => ?_)
        refine j_iload_n (pc := 80) C 3 dL_back_80 rfl ?_
        refine j_iconst (pc := 81) (v := (1 : Int32)) C dL_back_81 rfl ?_
        refine j_isub (pc := 82) C dL_back_82 ?_
        refine j_aals (pc := 83) C (by decide) dL_back_83 h (fun a10 h => ?_)
        refine n_aas2 (pc := 84) C (by decide) dL_back_84 h (fun M11 h => ?_)
        refine j_iinc (pc := 85) (v := (-1 : Int32)) C 3 [(3, _), (0, _), (1, _), (2, _)] dL_back_85 rfl rfl (by decide) rfl ?_
        refine j_goto (pc := 88) C 5 dL_back_88 (by decide) ?_
        exact j_weak [1, 2, 3, 0] rfl (ih _ _ _ _ _ h)
      · refine j_aload_n (pc := 25) C 0 dL_back_25 rfl ?_
        refine gf_L_173 (pc := 26) C dL_back_26 h (fun a12 h => ?_)
        refine j_iload_n (pc := 29) C 3 dL_back_29 rfl ?_
        refine j_iconst (pc := 30) (v := (1 : Int32)) C dL_back_30 rfl ?_
        refine j_isub (pc := 31) C dL_back_31 ?_
        refine j_aals (pc := 32) C (by decide) dL_back_32 h (fun a13 h => ?_)
        refine j_iconst (pc := 33) (v := (0 : Int32)) C dL_back_33 rfl ?_
        refine j_iald (pc := 34) C dL_back_34 h (fun h => ?_)
        refine j_aload_n (pc := 35) C 1 dL_back_35 rfl ?_
        refine j_iconst (pc := 36) (v := (0 : Int32)) C dL_back_36 rfl ?_
        refine j_iald (pc := 37) C dL_back_37 h (fun h => ?_)
        refine j_icmp_ne (pc := 38) C 91 dL_back_38 (by decide) h (fun h => ?_) (fun h => ?_)
        · exact j_weak [0, 1, 2, 3] rfl (k91 _ _ _ _ _ h)
        · refine j_aload_n (pc := 41) C 0 dL_back_41 rfl ?_
          refine gf_L_173 (pc := 42) C dL_back_42 h (fun a14 h => ?_)
          refine j_iload_n (pc := 45) C 3 dL_back_45 rfl ?_
          refine j_iconst (pc := 46) (v := (1 : Int32)) C dL_back_46 rfl ?_
          refine j_isub (pc := 47) C dL_back_47 ?_
          refine j_aals (pc := 48) C (by decide) dL_back_48 h (fun a15 h => ?_)
          refine j_iconst (pc := 49) (v := (1 : Int32)) C dL_back_49 rfl ?_
          refine j_iald (pc := 50) C dL_back_50 h (fun h => ?_)
          refine j_aload_n (pc := 51) C 1 dL_back_51 rfl ?_
          refine j_iconst (pc := 52) (v := (1 : Int32)) C dL_back_52 rfl ?_
          refine j_iald (pc := 53) C dL_back_53 h (fun h => ?_)
          refine j_icmp_le (pc := 54) C 91 dL_back_54 (by decide) h (fun h => ?_) (fun h => ?_)
          · exact j_weak [0, 1, 2, 3] rfl (k91 _ _ _ _ _ h)
          · refine j_aload_n (pc := 57) C 0 dL_back_57 rfl ?_
            refine gf_L_173 (pc := 58) C dL_back_58 h (fun a16 h => ?_)
            refine j_iload_n (pc := 61) C 3 dL_back_61 rfl ?_
            refine j_aload_n (pc := 62) C 0 dL_back_62 rfl ?_
            refine gf_L_173 (pc := 63) C dL_back_63 h (fun a17 h => ?_)
            refine j_iload_n (pc := 66) C 3 dL_back_66 rfl ?_
            refine j_iconst (pc := 67) (v := (1 : Int32)) C dL_back_67 rfl ?_
            refine j_isub (pc := 68) C dL_back_68 ?_
            refine j_aals (pc := 69) C (by decide) dL_back_69 h (fun a18 h => ?_)
            refine n_aas2 (pc := 70) C (by decide) dL_back_70 h (fun M19 h => ?_)
            refine j_aload_n (pc := 71) C 0 dL_back_71 rfl ?_
            refine gf_L_158 (pc := 72) C dL_back_72 h (fun a20 h => ?_)
            refine j_iload_n (pc := 75) C 3 dL_back_75 rfl ?_
            refine j_aload_n (pc := 76) C 0 dL_back_76 rfl ?_
            refine gf_L_158 (pc := 77) C dL_back_77 h (fun a21 h => ?_)
            refine j_iload_n (pc := 80) C 3 dL_back_80 rfl ?_
            refine j_iconst (pc := 81) (v := (1 : Int32)) C dL_back_81 rfl ?_
            refine j_isub (pc := 82) C dL_back_82 ?_
            refine j_aals (pc := 83) C (by decide) dL_back_83 h (fun a22 h => ?_)
            refine n_aas2 (pc := 84) C (by decide) dL_back_84 h (fun M23 h => ?_)
            refine j_iinc (pc := 85) (v := (-1 : Int32)) C 3 [(3, _), (0, _), (1, _), (2, _)] dL_back_85 rfl rfl (by decide) rfl ?_
            refine j_goto (pc := 88) C 5 dL_back_88 (by decide) ?_
            exact j_weak [1, 2, 3, 0] rfl (ih _ _ _ _ _ h)
def w_L_back (M : Mm) (x0 : Nat) (x1 : Nat) (x2 : Nat) (P : Int32 → Mm → Prop) : Prop := zk M x0 = 8 ∧ (∃ n5, l_L_back_5 P (fun M24 x0_24 x1_24 x2_24 x3_24 => (zk M24 x0_24 = 8 ∧ ∃ a25, zR M24 x0_24 14 = some a25 ∧ zk M24 a25 = 14 ∧ zk M24 x1_24 = 10 ∧ vp_in x3_24 (zl M24 a25) ∧ (∀ M26, M26 = sR M24 a25 x3_24.toNatClampNeg (some x1_24) → (zk M26 x0_24 = 8 ∧ ∃ a27, zR M26 x0_24 15 = some a27 ∧ zk M26 a27 = 15 ∧ zk M26 x2_24 = 14 ∧ vp_in x3_24 (zl M26 a27) ∧ (∀ M28, M28 = sR M26 a27 x3_24.toNatClampNeg (some x2_24) → zk M28 x0_24 = 8 ∧ zk M28 x0_24 = 8 ∧ (∀ M30, M30 = sI M28 x0_24 6 ((zI M28 x0_24 6) + (1 : Int32)) → P x3_24 M30)))))) n5 M x0 x1 x2 (zI M x0 6))
set_option maxHeartbeats 4000000 in
set_option maxRecDepth 100000 in
theorem c_L_back (l : Launch) (E : EV) (M : Mm) (x0 : Nat) (x1 : Nat) (x2 : Nat) (P : Int32 → Mm → Prop) (h : w_L_back M x0 x1 x2 P) : CtI l E yL_back cL_back 4 .int rm_L_back 0 0 [.ref x0, .ref x1, .ref x2] M P := by
  refine ctI_of (by decide +kernel) (Nat.le_of_ble_eq_true rfl) ?_
  intro p e s m args below meth c C
  rw [w_L_back] at h
  show J p l e rm_L_back s m args below meth c (QI below E P args s 0 0) E 4 M 0 0 0 [(0, .ref x0), (1, .ref x1), (2, .ref x2)] []
  refine j_aload_n (pc := 0) C 0 dL_back_0 rfl ?_
  refine gf_L_155 (pc := 1) C dL_back_1 h (fun h => ?_)
  refine j_istore_n (pc := 4) C [(3, _), (0, _), (1, _), (2, _)] dL_back_4 (by decide) rfl ?_
  obtain ⟨n5, h⟩ := h
  refine j_weak [1, 2, 3, 0] rfl (jl_L_back_5 C ⟨Nat.le_of_ble_eq_true rfl, Nat.le_of_ble_eq_true rfl⟩ (fun M24 x0_24 x1_24 x2_24 x3_24 h => ?_) n5 _ _ _ _ _ h)
  · refine j_aload_n (pc := 91) C 0 dL_back_91 rfl ?_
    refine gf_L_173 (pc := 92) C dL_back_92 h (fun a25 h => ?_)
    refine j_iload_n (pc := 95) C 3 dL_back_95 rfl ?_
    refine j_aload_n (pc := 96) C 1 dL_back_96 rfl ?_
    refine n_aas2 (pc := 97) C (by decide) dL_back_97 h (fun M26 h => ?_)
    refine j_aload_n (pc := 98) C 0 dL_back_98 rfl ?_
    refine gf_L_158 (pc := 99) C dL_back_99 h (fun a27 h => ?_)
    refine j_iload_n (pc := 102) C 3 dL_back_102 rfl ?_
    refine j_aload_n (pc := 103) C 2 dL_back_103 rfl ?_
    refine n_aas2 (pc := 104) C (by decide) dL_back_104 h (fun M28 h => ?_)
    refine j_aload_n (pc := 105) C 0 dL_back_105 rfl ?_
    refine j_dup (pc := 106) C dL_back_106 rfl ?_
    refine gf_L_155 (pc := 107) C dL_back_107 h (fun h => ?_)
    refine j_iconst (pc := 110) (v := (1 : Int32)) C dL_back_110 rfl ?_
    refine j_iadd (pc := 111) C dL_back_111 ?_
    refine pf_L_155 (pc := 112) C dL_back_112 h (fun M30 h => ?_)
    refine j_iload_n (pc := 115) C 3 dL_back_115 rfl ?_
    exact j_iret (pc := 116) C dL_back_116 (Nat.le_of_ble_eq_true rfl) (Nat.le_of_ble_eq_true rfl) h
end GL1
