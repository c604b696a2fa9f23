/-! written by a program (wip/p34/gen.py) out of the decode rows and the tables: walks of X6 -/

section GW4
variable {p : Program} {l : Launch} {e : Env} {R : Room} {s : State} {m : MethodId} {args : Array Value} {below : List Frame} {meth : Method} {c : Code} {Q : State → Prop} {cc : ByteArray} {nL : Nat} {ret : Option FieldType} {E : EV} {M : Mm} {kc ks pc : Nat} {lo : List (Nat × Value)} {st : List Value}
theorem cs_X6_80 (C : Cx p l s m args meth c cc nL RX6 ret E) {y0 : Int32} {y1 : Int32} {P : Int32 → Mm → Prop} (hR : rm_X7_has.frames + 1 ≤ R.frames ∧ 8 + (2 + 11) + rm_X7_has.locals ≤ R.locals) (hf : kc ≤ R.cells ∧ ks ≤ R.slots) (hst : (st.map fun v => v.category).sum ≤ 8) (d : decode cc pc = .ok (.invokestatic 80, 3)) (h : w_X7_has M y0 y1 P) (kk : ∀ r M', P r M' → J p l e R s m args below meth c Q E nL M' kc ks (pc + 3) lo (.int r :: st)) : J p l e R s m args below meth c Q E nL M kc ks pc lo (.int y1 :: .int y0 :: st) :=
  j_cSN_I (n := 2) (As := [.int y0, .int y1]) C wd_901 (c_X7_has l E M y0 y1 P h) ⟨wd_902, nw_1111, wd_40, by decide +kernel, by decide +kernel, by decide +kernel⟩ rfl rfl hR hf rfl hst d kk
abbrev rm_X6_playersPresent : Room := { frames := 1, cells := 0, slots := 0, locals := 21 }
def l_X6_playersPresent_4 (P : Int32 → Mm → Prop) (K40 : Mm → Int32 → Prop) : Nat → Mm → Nat → Int32 → Int32 → Int32 → Prop
  | 0, _, _, _, _, _ => False
  | n + 1, M, x0, x1, x2, x3 => (zk M x0 = 6 ∧ ∃ a1, zR M x0 5 = some a1 ∧ zk M a1 = 2 ∧ (if (zI M a1 1) ≤ x3 then K40 M x2 else (zk M x0 = 6 ∧ ∃ a2, zR M x0 10 = some a2 ∧ zk M a2 = 10 ∧ vp_in x3 (zl M a2) ∧ w_X7_has M (zI M a2 x3.toNatClampNeg) x1 (fun r3 M3 => (if r3 = 0 then l_X6_playersPresent_4 P K40 n M3 x0 x1 (x2 ||| ((1 : Int32) <<< (x3 &&& 31))) (x3 + (1 : Int32)) else l_X6_playersPresent_4 P K40 n M3 x0 x1 x2 (x3 + (1 : Int32)))))))
set_option maxHeartbeats 4000000 in
set_option maxRecDepth 100000 in
theorem jl_X6_playersPresent_4 {P : Int32 → Mm → Prop} {K40 : Mm → Int32 → Prop} (C : Cx p l s m args meth c cX6_playersPresent 4 RX6 (some .int) E) (hkc : kc ≤ rm_X6_playersPresent.cells ∧ ks ≤ rm_X6_playersPresent.slots) (k40 : ∀ M x2, K40 M x2 → J p l e rm_X6_playersPresent s m args below meth c (QI below E P args s rm_X6_playersPresent.cells rm_X6_playersPresent.slots) E 4 M kc ks 40 [(2, .int x2)] []) : ∀ n M x0 x1 x2 x3, l_X6_playersPresent_4 P K40 n M x0 x1 x2 x3 → J p l e rm_X6_playersPresent s m args below meth c (QI below E P args s rm_X6_playersPresent.cells rm_X6_playersPresent.slots) E 4 M kc ks 4 [(0, .ref x0), (1, .int x1), (2, .int x2), (3, .int x3)] [] := by
  intro n
  induction n with
  | zero => intro M x0 x1 x2 x3 h; exact h.elim
  | succ n ih =>
    intro M x0 x1 x2 x3 h
    rw [l_X6_playersPresent_4] at h
    refine j_iload_n (pc := 4) C 3 dX6_playersPresent_4 rfl ?_
    refine j_aload_n (pc := 5) C 0 dX6_playersPresent_5 rfl ?_
    refine gf_X6_28 (pc := 6) C dX6_playersPresent_6 h (fun a1 h => ?_)
    refine gf_X6_77 (pc := 9) C dX6_playersPresent_9 h (fun h => ?_)
    refine j_icmp_ge (pc := 12) C 40 dX6_playersPresent_12 (by decide) h (fun h => ?_) (fun h => ?_)
    · exact j_weak [2] rfl (k40 _ _ h)
    · refine j_aload_n (pc := 15) C 0 dX6_playersPresent_15 rfl ?_
      refine gf_X6_43 (pc := 16) C dX6_playersPresent_16 h (fun a2 h => ?_)
      refine j_iload_n (pc := 19) C 3 dX6_playersPresent_19 rfl ?_
      refine j_iald (pc := 20) C dX6_playersPresent_20 h (fun h => ?_)
      refine j_iload_n (pc := 21) C 1 dX6_playersPresent_21 rfl ?_
      refine cs_X6_80 (pc := 22) C ⟨Nat.le_of_ble_eq_true rfl, Nat.le_of_ble_eq_true rfl⟩ hkc (Nat.le_of_ble_eq_true rfl) dX6_playersPresent_22 h (fun r3 M3 h => ?_)
      refine j_if_ne (pc := 25) C 34 dX6_playersPresent_25 (by decide) h (fun h => ?_) (fun h => ?_)
      · refine j_iinc (pc := 34) (v := (1 : Int32)) C 3 [(3, _), (0, _), (1, _), (2, _)] dX6_playersPresent_34 rfl rfl (by decide) rfl ?_
        refine j_goto (pc := 37) C 4 dX6_playersPresent_37 (by decide) ?_
        exact j_weak [1, 2, 3, 0] rfl (ih _ _ _ _ _ h)
      · refine j_iload_n (pc := 28) C 2 dX6_playersPresent_28 rfl ?_
        refine j_iconst (pc := 29) (v := (1 : Int32)) C dX6_playersPresent_29 rfl ?_
        refine j_iload_n (pc := 30) C 3 dX6_playersPresent_30 rfl ?_
        refine j_ishl (pc := 31) C dX6_playersPresent_31 ?_
        refine j_ior (pc := 32) C dX6_playersPresent_32 ?_
        refine j_istore_n (pc := 33) C [(2, _), (0, _), (1, _), (3, _)] dX6_playersPresent_33 (by decide) rfl ?_
        refine j_iinc (pc := 34) (v := (1 : Int32)) C 3 [(3, _), (2, _), (0, _), (1, _)] dX6_playersPresent_34 rfl rfl (by decide) rfl ?_
        refine j_goto (pc := 37) C 4 dX6_playersPresent_37 (by decide) ?_
        exact j_weak [2, 3, 1, 0] rfl (ih _ _ _ _ _ h)
def w_X6_playersPresent (M : Mm) (x0 : Nat) (x1 : Int32) (P : Int32 → Mm → Prop) : Prop := (∃ n4, l_X6_playersPresent_4 P (fun M4 x2_4 => P x2_4 M4) n4 M x0 x1 (0 : Int32) (0 : Int32))
set_option maxHeartbeats 4000000 in
set_option maxRecDepth 100000 in
theorem c_X6_playersPresent (l : Launch) (E : EV) (M : Mm) (x0 : Nat) (x1 : Int32) (P : Int32 → Mm → Prop) (h : w_X6_playersPresent M x0 x1 P) : CtI l E yX6_playersPresent cX6_playersPresent 4 .int rm_X6_playersPresent 0 0 [.ref x0, .int x1] M P := by
  refine ctI_of (by decide +kernel) (Nat.le_of_ble_eq_true rfl) ?_
  intro p e s m args below meth c C
  rw [w_X6_playersPresent] at h
  show J p l e rm_X6_playersPresent s m args below meth c (QI below E P args s 0 0) E 4 M 0 0 0 [(0, .ref x0), (1, .int x1)] []
  refine j_iconst (pc := 0) (v := (0 : Int32)) C dX6_playersPresent_0 rfl ?_
  refine j_istore_n (pc := 1) C [(2, _), (0, _), (1, _)] dX6_playersPresent_1 (by decide) rfl ?_
  refine j_iconst (pc := 2) (v := (0 : Int32)) C dX6_playersPresent_2 rfl ?_
  refine j_istore_n (pc := 3) C [(3, _), (2, _), (0, _), (1, _)] dX6_playersPresent_3 (by decide) rfl ?_
  obtain ⟨n4, h⟩ := h
  refine j_weak [2, 3, 1, 0] rfl (jl_X6_playersPresent_4 C ⟨Nat.le_of_ble_eq_true rfl, Nat.le_of_ble_eq_true rfl⟩ (fun M4 x2_4 h => ?_) n4 _ _ _ _ _ h)
  · refine j_iload_n (pc := 40) C 0 dX6_playersPresent_40 rfl ?_
    exact j_iret (pc := 41) C dX6_playersPresent_41 (Nat.le_of_ble_eq_true rfl) (Nat.le_of_ble_eq_true rfl) h
abbrev rm_X6_areRentedOn : Room := { frames := 1, cells := 0, slots := 0, locals := 21 }
def l_X6_areRentedOn_2 (P : Int32 → Mm → Prop) (K41 : Mm → Prop) (K49 : Mm → Prop) : Nat → Mm → Nat → Int32 → Int32 → Int32 → Prop
  | 0, _, _, _, _, _ => False
  | n + 1, M, x0, x1, x2, x3 => (zk M x0 = 6 ∧ ∃ a1, zR M x0 12 = some a1 ∧ zk M a1 = 2 ∧ (if (zI M a1 1) ≤ x3 then K49 M else w_X7_has M x1 x3 (fun r2 M2 => (if r2 = 0 then l_X6_areRentedOn_2 P K41 K49 n M2 x0 x1 x2 (x3 + (1 : Int32)) else (zk M2 x0 = 6 ∧ ∃ a3, zR M2 x0 14 = some a3 ∧ zk M2 a3 = 10 ∧ vp_in x3 (zl M2 a3) ∧ (if x2 < (zI M2 a3 x3.toNatClampNeg) then K41 M2 else (zk M2 x0 = 6 ∧ ∃ a4, zR M2 x0 15 = some a4 ∧ zk M2 a4 = 10 ∧ vp_in x3 (zl M2 a4) ∧ (if x2 ≤ (zI M2 a4 x3.toNatClampNeg) then l_X6_areRentedOn_2 P K41 K49 n M2 x0 x1 x2 (x3 + (1 : Int32)) else K41 M2))))))))
set_option maxHeartbeats 4000000 in
set_option maxRecDepth 100000 in
theorem jl_X6_areRentedOn_2 {P : Int32 → Mm → Prop} {K41 : Mm → Prop} {K49 : Mm → Prop} (C : Cx p l s m args meth c cX6_areRentedOn 4 RX6 (some .boolean) E) (hkc : kc ≤ rm_X6_areRentedOn.cells ∧ ks ≤ rm_X6_areRentedOn.slots) (k41 : ∀ M, K41 M → J p l e rm_X6_areRentedOn s m args below meth c (QI below E P args s rm_X6_areRentedOn.cells rm_X6_areRentedOn.slots) E 4 M kc ks 41 [] []) (k49 : ∀ M, K49 M → J p l e rm_X6_areRentedOn s m args below meth c (QI below E P args s rm_X6_areRentedOn.cells rm_X6_areRentedOn.slots) E 4 M kc ks 49 [] []) : ∀ n M x0 x1 x2 x3, l_X6_areRentedOn_2 P K41 K49 n M x0 x1 x2 x3 → J p l e rm_X6_areRentedOn s m args below meth c (QI below E P args s rm_X6_areRentedOn.cells rm_X6_areRentedOn.slots) E 4 M kc ks 2 [(0, .ref x0), (1, .int x1), (2, .int x2), (3, .int x3)] [] := by
  intro n
  induction n with
  | zero => intro M x0 x1 x2 x3 h; exact h.elim
  | succ n ih =>
    intro M x0 x1 x2 x3 h
    rw [l_X6_areRentedOn_2] at h
    refine j_iload_n (pc := 2) C 3 dX6_areRentedOn_2 rfl ?_
    refine j_aload_n (pc := 3) C 0 dX6_areRentedOn_3 rfl ?_
    refine gf_X6_49 (pc := 4) C dX6_areRentedOn_4 h (fun a1 h => ?_)
    refine gf_X6_77 (pc := 7) C dX6_areRentedOn_7 h (fun h => ?_)
    refine j_icmp_ge (pc := 10) C 49 dX6_areRentedOn_10 (by decide) h (fun h => ?_) (fun h => ?_)
    · exact j_weak [] rfl (k49 _ h)
    · refine j_iload_n (pc := 13) C 1 dX6_areRentedOn_13 rfl ?_
      refine j_iload_n (pc := 14) C 3 dX6_areRentedOn_14 rfl ?_
      refine cs_X6_80 (pc := 15) C ⟨Nat.le_of_ble_eq_true rfl, Nat.le_of_ble_eq_true rfl⟩ hkc (Nat.le_of_ble_eq_true rfl) dX6_areRentedOn_15 h (fun r2 M2 h => ?_)
      refine j_if_eq (pc := 18) C 43 dX6_areRentedOn_18 (by decide) h (fun h => ?_) (fun h => ?_)
      · refine j_iinc (pc := 43) (v := (1 : Int32)) C 3 [(3, _), (0, _), (1, _), (2, _)] dX6_areRentedOn_43 rfl rfl (by decide) rfl ?_
        refine j_goto (pc := 46) C 2 dX6_areRentedOn_46 (by decide) ?_
        exact j_weak [1, 2, 3, 0] rfl (ih _ _ _ _ _ h)
      · refine j_iload_n (pc := 21) C 2 dX6_areRentedOn_21 rfl ?_
        refine j_aload_n (pc := 22) C 0 dX6_areRentedOn_22 rfl ?_
        refine gf_X6_55 (pc := 23) C dX6_areRentedOn_23 h (fun a3 h => ?_)
        refine j_iload_n (pc := 26) C 3 dX6_areRentedOn_26 rfl ?_
        refine j_iald (pc := 27) C dX6_areRentedOn_27 h (fun h => ?_)
        refine j_icmp_lt (pc := 28) C 41 dX6_areRentedOn_28 (by decide) h (fun h => ?_) (fun h => ?_)
        · exact j_weak [] rfl (k41 _ h)
        · refine j_iload_n (pc := 31) C 2 dX6_areRentedOn_31 rfl ?_
          refine j_aload_n (pc := 32) C 0 dX6_areRentedOn_32 rfl ?_
          refine gf_X6_58 (pc := 33) C dX6_areRentedOn_33 h (fun a4 h => ?_)
          refine j_iload_n (pc := 36) C 3 dX6_areRentedOn_36 rfl ?_
          refine j_iald (pc := 37) C dX6_areRentedOn_37 h (fun h => ?_)
          refine j_icmp_le (pc := 38) C 43 dX6_areRentedOn_38 (by decide) h (fun h => ?_) (fun h => ?_)
          · refine j_iinc (pc := 43) (v := (1 : Int32)) C 3 [(3, _), (0, _), (1, _), (2, _)] dX6_areRentedOn_43 rfl rfl (by decide) rfl ?_
            refine j_goto (pc := 46) C 2 dX6_areRentedOn_46 (by decide) ?_
            exact j_weak [1, 2, 3, 0] rfl (ih _ _ _ _ _ h)
          · exact j_weak [] rfl (k41 _ h)
def w_X6_areRentedOn (M : Mm) (x0 : Nat) (x1 : Int32) (x2 : Int32) (P : Int32 → Mm → Prop) : Prop := (∃ n2, l_X6_areRentedOn_2 P (fun M5 => ((0 : Int32) = 0 ∨ (0 : Int32) = 1) ∧ P (0 : Int32) M5) (fun M6 => ((1 : Int32) = 0 ∨ (1 : Int32) = 1) ∧ P (1 : Int32) M6) n2 M x0 x1 x2 (0 : Int32))
set_option maxHeartbeats 4000000 in
set_option maxRecDepth 100000 in
theorem c_X6_areRentedOn (l : Launch) (E : EV) (M : Mm) (x0 : Nat) (x1 : Int32) (x2 : Int32) (P : Int32 → Mm → Prop) (h : w_X6_areRentedOn M x0 x1 x2 P) : CtI l E yX6_areRentedOn cX6_areRentedOn 4 .boolean rm_X6_areRentedOn 0 0 [.ref x0, .int x1, .int x2] M P := by
  refine ctI_of (by decide +kernel) (Nat.le_of_ble_eq_true rfl) ?_
  intro p e s m args below meth c C
  rw [w_X6_areRentedOn] at h
  show J p l e rm_X6_areRentedOn s m args below meth c (QI below E P args s 0 0) E 4 M 0 0 0 [(0, .ref x0), (1, .int x1), (2, .int x2)] []
  refine j_iconst (pc := 0) (v := (0 : Int32)) C dX6_areRentedOn_0 rfl ?_
  refine j_istore_n (pc := 1) C [(3, _), (0, _), (1, _), (2, _)] dX6_areRentedOn_1 (by decide) rfl ?_
  obtain ⟨n2, h⟩ := h
  refine j_weak [1, 2, 3, 0] rfl (jl_X6_areRentedOn_2 C ⟨Nat.le_of_ble_eq_true rfl, Nat.le_of_ble_eq_true rfl⟩ (fun M5 h => ?_) (fun M6 h => ?_) n2 _ _ _ _ _ h)
  · refine j_iconst (pc := 41) (v := (0 : Int32)) C dX6_areRentedOn_41 rfl ?_
    exact j_zret (pc := 42) C dX6_areRentedOn_42 (Nat.le_of_ble_eq_true rfl) (Nat.le_of_ble_eq_true rfl) h
  · refine j_iconst (pc := 49) (v := (1 : Int32)) C dX6_areRentedOn_49 rfl ?_
    exact j_zret (pc := 50) C dX6_areRentedOn_50 (Nat.le_of_ble_eq_true rfl) (Nat.le_of_ble_eq_true rfl) h
end GW4
