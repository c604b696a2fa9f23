/-! written by a program (wip/p34/gen.py) out of the decode rows and the tables: walks of X7 -/

section GW14
variable {p : Program} {l : Launch} {e : Env} {R : Room} {s : State} {m : MethodId} {args : Array Value} {below : List Frame} {meth : Method} {c : Code} {Q : State → Prop} {cc : ByteArray} {nL : Nat} {ret : Option FieldType} {E : EV} {M : Mm} {kc ks pc : Nat} {lo : List (Nat × Value)} {st : List Value}
theorem cs_X7_365 (C : Cx p l s m args meth c cc nL RX7 ret E) {b : Nat} {P : Int32 → Mm → Prop} (hR : rm_J0_length_8abf5.frames + 1 ≤ R.frames ∧ 8 + (1 + 11) + rm_J0_length_8abf5.locals ≤ R.locals) (hf : kc ≤ R.cells ∧ ks ≤ R.slots) (hst : (st.map fun v => v.category).sum ≤ 8) (d : decode cc pc = .ok (.invokevirtual 365, 3)) (h : w_J0_length_8abf5 M b P) (kk : ∀ r M', P r M' → J p l e R s m args below meth c Q E nL M' kc ks (pc + 3) lo (.int r :: st)) : J p l e R s m args below meth c Q E nL M kc ks pc lo (.ref (E.2.2.2.1 b) :: st) :=
  j_cVs_I (n := 0) (As := []) C (w_J0_length_8abf5_lt h) wd_494 wd_495 (c_J0_length_8abf5 l E M b P h) ⟨wd_496, wd_847, wd_47, by decide +kernel, by decide +kernel, by decide +kernel⟩ rfl rfl hR hf rfl hst d kk
theorem cs_X7_370 (C : Cx p l s m args meth c cc nL RX7 ret E) {b : Nat} {y0 : Int32} {P : Int32 → Mm → Prop} (hR : rm_J0_charAt_5068e.frames + 1 ≤ R.frames ∧ 8 + (2 + 11) + rm_J0_charAt_5068e.locals ≤ R.locals) (hf : kc ≤ R.cells ∧ ks ≤ R.slots) (hst : (st.map fun v => v.category).sum ≤ 8) (d : decode cc pc = .ok (.invokevirtual 370, 3)) (h : w_J0_charAt_5068e M b y0 P) (kk : ∀ r M', P r M' → J p l e R s m args below meth c Q E nL M' kc ks (pc + 3) lo (.int r :: st)) : J p l e R s m args below meth c Q E nL M kc ks pc lo (.int y0 :: .ref (E.2.2.2.1 b) :: st) :=
  j_cVs_I (n := 1) (As := [.int y0]) C (w_J0_charAt_5068e_lt h) wd_672 wd_673 (c_J0_charAt_5068e l E M b y0 P h) ⟨wd_674, wd_848, wd_47, by decide +kernel, by decide +kernel, by decide +kernel⟩ rfl rfl hR hf rfl hst d kk
theorem cs_X7_138 (C : Cx p l s m args meth c cc nL RX7 ret E) {y0 : Int64} {y1 : Int32} {P : Int64 → Mm → Prop} (hR : rm_X7_withLetter.frames + 1 ≤ R.frames ∧ 8 + (3 + 11) + rm_X7_withLetter.locals ≤ R.locals) (hf : kc ≤ R.cells ∧ ks ≤ R.slots) (hst : (st.map fun v => v.category).sum ≤ 8) (d : decode cc pc = .ok (.invokestatic 138, 3)) (h : w_X7_withLetter M y0 y1 P) (kk : ∀ r M', P r M' → J p l e R s m args below meth c Q E nL M' kc ks (pc + 3) lo (.long r :: st)) : J p l e R s m args below meth c Q E nL M kc ks pc lo (.int y1 :: .long y0 :: st) :=
  j_cS_L (n := 2) (As := [.long y0, .int y1]) C wd_834 (c_X7_withLetter l E M y0 y1 P h) ⟨wd_835, wd_849, wd_40, by decide +kernel, by decide +kernel, by decide +kernel⟩ rfl rfl hR hf rfl hst d kk
abbrev rm_X7_codeOf : Room := { frames := 5, cells := 0, slots := 0, locals := 141 }
def l_X7_codeOf_4 (P : Int64 → Mm → Prop) (K28 : Mm → Int64 → Prop) : Nat → Mm → Nat → Int64 → Int32 → Prop
  | 0, _, _, _, _ => False
  | n + 1, M, x0, x1, x3 => w_J0_length_8abf5 M x0 (fun r1 M1 => (if r1 ≤ x3 then K28 M1 x1 else w_J0_charAt_5068e M1 x0 x3 (fun r2 M2 => w_X7_withLetter M2 x1 r2 (fun r3 M3 => l_X7_codeOf_4 P K28 n M3 x0 r3 (x3 + (1 : Int32))))))
set_option maxHeartbeats 4000000 in
set_option maxRecDepth 100000 in
theorem jl_X7_codeOf_4 {P : Int64 → Mm → Prop} {K28 : Mm → Int64 → Prop} (C : Cx p l s m args meth c cX7_codeOf 4 RX7 (some .long) E) (hkc : kc ≤ rm_X7_codeOf.cells ∧ ks ≤ rm_X7_codeOf.slots) (k28 : ∀ M x1, K28 M x1 → J p l e rm_X7_codeOf s m args below meth c (QL below E P args s rm_X7_codeOf.cells rm_X7_codeOf.slots) E 4 M kc ks 28 [(1, .long x1)] []) : ∀ n M x0 x1 x3, l_X7_codeOf_4 P K28 n M x0 x1 x3 → J p l e rm_X7_codeOf s m args below meth c (QL below E P args s rm_X7_codeOf.cells rm_X7_codeOf.slots) E 4 M kc ks 4 [(0, .ref (E.2.2.2.1 x0)), (1, .long x1), (3, .int x3)] [] := by
  intro n
  induction n with
  | zero => intro M x0 x1 x3 h; exact h.elim
  | succ n ih =>
    intro M x0 x1 x3 h
    rw [l_X7_codeOf_4] at h
    refine j_iload_n (pc := 4) C 2 dX7_codeOf_4 rfl ?_
    refine j_aload_n (pc := 5) C 0 dX7_codeOf_5 rfl ?_
    refine cs_X7_365 (pc := 6) C ⟨Nat.le_of_ble_eq_true rfl, Nat.le_of_ble_eq_true rfl⟩ hkc (Nat.le_of_ble_eq_true rfl) dX7_codeOf_6 h (fun r1 M1 h => ?_)
    refine j_icmp_ge (pc := 9) C 28 dX7_codeOf_9 (by decide) h (fun h => ?_) (fun h => ?_)
    · exact j_weak [1] rfl (k28 _ _ h)
    · refine j_lload_n (pc := 12) C 1 dX7_codeOf_12 rfl ?_
      refine j_aload_n (pc := 13) C 0 dX7_codeOf_13 rfl ?_
      refine j_iload_n (pc := 14) C 2 dX7_codeOf_14 rfl ?_
      refine cs_X7_370 (pc := 15) C ⟨Nat.le_of_ble_eq_true rfl, Nat.le_of_ble_eq_true rfl⟩ hkc (Nat.le_of_ble_eq_true rfl) dX7_codeOf_15 h (fun r2 M2 h => ?_)
      refine cs_X7_138 (pc := 18) C ⟨Nat.le_of_ble_eq_true rfl, Nat.le_of_ble_eq_true rfl⟩ hkc (Nat.le_of_ble_eq_true rfl) dX7_codeOf_18 h (fun r3 M3 h => ?_)
      refine j_lstore_n (pc := 21) C [(1, _), (0, _), (3, _)] dX7_codeOf_21 (by decide) rfl ?_
      refine j_iinc (pc := 22) (v := (1 : Int32)) C 2 [(3, _), (1, _), (0, _)] dX7_codeOf_22 rfl rfl (by decide) rfl ?_
      refine j_goto (pc := 25) C 4 dX7_codeOf_25 (by decide) ?_
      exact j_weak [2, 1, 0] rfl (ih _ _ _ _ h)
def w_X7_codeOf (M : Mm) (x0 : Nat) (P : Int64 → Mm → Prop) : Prop := (∃ n4, l_X7_codeOf_4 P (fun M4 x1_4 => P x1_4 M4) n4 M x0 (0 : Int64) (0 : Int32))
set_option maxHeartbeats 4000000 in
set_option maxRecDepth 100000 in
theorem c_X7_codeOf (l : Launch) (E : EV) (M : Mm) (x0 : Nat) (P : Int64 → Mm → Prop) (h : w_X7_codeOf M x0 P) : CtL l E yX7_codeOf cX7_codeOf 4 rm_X7_codeOf 0 0 [.ref (E.2.2.2.1 x0)] M P := by
  refine ctL_of (by decide +kernel) (Nat.le_of_ble_eq_true rfl) ?_
  intro p e s m args below meth c C
  rw [w_X7_codeOf] at h
  show J p l e rm_X7_codeOf s m args below meth c (QL below E P args s 0 0) E 4 M 0 0 0 [(0, .ref (E.2.2.2.1 x0))] []
  refine j_lconst (pc := 0) (v := (0 : Int64)) C dX7_codeOf_0 rfl ?_
  refine j_lstore_n (pc := 1) C [(1, _), (0, _)] dX7_codeOf_1 (by decide) rfl ?_
  refine j_iconst (pc := 2) (v := (0 : Int32)) C dX7_codeOf_2 rfl ?_
  refine j_istore_n (pc := 3) C [(3, _), (1, _), (0, _)] dX7_codeOf_3 (by decide) rfl ?_
  obtain ⟨n4, h⟩ := h
  refine j_weak [2, 1, 0] rfl (jl_X7_codeOf_4 C ⟨Nat.le_of_ble_eq_true rfl, Nat.le_of_ble_eq_true rfl⟩ (fun M4 x1_4 h => ?_) n4 _ _ _ _ h)
  · refine j_lload_n (pc := 28) C 0 dX7_codeOf_28 rfl ?_
    exact j_lret (pc := 29) C dX7_codeOf_29 (Nat.le_of_ble_eq_true rfl) (Nat.le_of_ble_eq_true rfl) h
end GW14
