/-! written by a program (wip/p34/gen2.py): the law -/

section GLL
variable {p : Program} {l : Launch} {e : Env} {R : Room} {s : State} {m : MethodId} {args : Array Value} {below : List Frame} {meth : Method} {c : Code} {Q : State → Prop} {cc : ByteArray} {nL : Nat} {ret : Option FieldType} {E : EV} {M : Mm} {kc ks pc : Nat} {lo : List (Nat × Value)} {st : List Value}
theorem c2_L_25 (C : Cx p l s m args meth c cc nL RL ret E) {b : Nat} {P : Mm → Prop} (hR : rm_X7_init.frames + 1 ≤ R.frames ∧ 8 + (2 + 11) + rm_X7_init.locals ≤ R.locals) (hf : kc + 162 ≤ R.cells ∧ ks + 12569 ≤ R.slots) (hst : (st.map fun v => v.category).sum ≤ 8) (d : decode cc pc = .ok (.invokespecial 25, 3)) (h : w_X7_init M b P) (kk : ∀ M', P M' → J p l e R s m args below meth c Q E nL M' (kc + 162) (ks + 12569) (pc + 3) lo st) : J p l e R s m args below meth c Q E nL M kc ks pc lo (.ref b :: st) :=
  j_cI_V (n := 0) (As := []) C rfl wd_69 (c_X7_init l E M b P h) ⟨wd_70, wd_68, wd_40, by decide +kernel, by decide +kernel, by decide +kernel⟩ rfl rfl hR hf rfl hst d kk
theorem c2_L_26 (C : Cx p l s m args meth c cc nL RL ret E) {y0 : Nat} {y1 : Nat} {P : Int32 → Mm → Prop} {b1 s1 : Nat} (hR : 12 + 1 ≤ R.frames ∧ 8 + (5 + 11) + 327 ≤ R.locals) (hf : kc + b1 ≤ R.cells ∧ ks + s1 ≤ R.slots) (hst : (st.map fun v => v.category).sum ≤ 8) (d : decode cc pc = .ok (.invokestatic 26, 3)) (h : w_L_plays M y0 y1 P b1 s1) (kk : ∀ r M', P r M' → J p l e R s m args below meth c Q E nL M' (kc + b1) (ks + s1) (pc + 3) lo (.int r :: st)) : J p l e R s m args below meth c Q E nL M kc ks pc lo (.ref y1 :: .ref y0 :: st) :=
  j_cS_I (n := 2) (As := [.ref y0, .ref y1]) C wd_296 (c_L_plays l E M y0 y1 P b1 s1 h) ⟨wd_297, wd_295, wd_39, by decide +kernel, by decide +kernel, by decide +kernel⟩ rfl rfl hR hf rfl hst d kk
def l_L_law_13 (L : Nat) (xs : Nat → Int32) (P : Int32 → Mm → Prop) (K47 : Mm → Nat → Nat → Prop) : Nat → Mm → Nat → Nat → Nat → Int32 → Int32 → Prop
  | 0, _, _, _, _, _, _ => False
  | n + 1, M, b, s, x1, x2, x3 => (if x2 ≤ x3 then K47 M b s else (if (4 : Int32) ≤ x3 then K47 M b s else b + 1 ≤ room_1.cells ∧ s + 1 ≤ room_1.slots ∧ ¬ (1 : Int32) < 0 ∧ (1 : Int32).toNatClampNeg ≤ 1 ∧ (∀ a3 M3, a3 = zn M → M3 = sN M 10 (1 : Int32).toNatClampNeg → vp_in x3 L ∧ zk M3 a3 = 10 ∧ vp_in (0 : Int32) (zl M3 a3) ∧ (∀ M4, M4 = sI M3 a3 (0 : Int32).toNatClampNeg (xs x3.toNatClampNeg) → ∃ b5 s5, (b + 1) + b5 ≤ room_1.cells ∧ (s + 1) + s5 ≤ room_1.slots ∧ w_L_plays M4 x1 a3 (fun r5 M5 => (if r5 = 0 then P (0 : Int32) M5 else l_L_law_13 L xs P K47 n M5 ((b + 1) + b5) ((s + 1) + s5) x1 x2 (x3 + (1 : Int32)))) b5 s5))))
set_option maxHeartbeats 4000000 in
set_option maxRecDepth 100000 in
theorem jl_L_law_13 {s0 : State} {b0 L : Nat} {xs : Nat → Int32} {P : Int32 → Mm → Prop} {K47 : Mm → Nat → Nat → Prop} (C : Cx p l s0 m #[Value.ref b0] meth c code 4 RL retL E) (hX : va_X b0 L xs s0 s0.heap) (hbl : b0 < s0.heap.size) (hbs : E.2.2.1 = s0.heap.size) (hP : ∀ r M, P r M → r = 1) (k47 : ∀ M b s, b ≤ room_1.cells → s ≤ room_1.slots → K47 M b s → J p l e room_1 s0 m #[Value.ref b0] below meth c (lw_Z below #[Value.ref b0] s0) E 4 M b s 47 [] []) : ∀ n M b s x1 x2 x3, b ≤ room_1.cells → s ≤ room_1.slots → l_L_law_13 L xs P K47 n M b s x1 x2 x3 → J p l e room_1 s0 m #[Value.ref b0] below meth c (lw_Z below #[Value.ref b0] s0) E 4 M b s 13 [(0, .ref b0), (1, .ref x1), (2, .int x2), (3, .int x3)] [] := by
  intro n
  induction n with
  | zero => intro M b s x1 x2 x3 hb hs h; exact h.elim
  | succ n ih =>
    intro M b s x1 x2 x3 hb hs h
    rw [l_L_law_13] at h
    refine j_iload_n (pc := 13) C 3 dL_law_13 rfl ?_
    refine j_iload_n (pc := 14) C 2 dL_law_14 rfl ?_
    refine j_icmp_ge (pc := 15) C 47 dL_law_15 (by decide) h (fun h => ?_) (fun h => ?_)
    · exact j_weak [] rfl (k47 _ _ _  hb hs h)
    · refine j_iload_n (pc := 18) C 3 dL_law_18 rfl ?_
      refine j_iconst (pc := 19) (v := (4 : Int32)) C dL_law_19 rfl ?_
      refine j_icmp_ge (pc := 20) C 47 dL_law_20 (by decide) h (fun h => ?_) (fun h => ?_)
      · exact j_weak [] rfl (k47 _ _ _  hb hs h)
      · refine j_aload_n (pc := 23) C 1 dL_law_23 rfl ?_
        refine j_iconst (pc := 24) (v := (1 : Int32)) C dL_law_24 rfl ?_
        obtain ⟨hb, hs, h⟩ := h
        refine n_newi (pc := 25) C 1 wd_92 dL_law_25 (Nat.le_of_ble_eq_true rfl) hb hs h (fun a3 M3 h => ?_)
        refine j_dup (pc := 27) C dL_law_27 rfl ?_
        refine j_iconst (pc := 28) (v := (0 : Int32)) C dL_law_28 rfl ?_
        refine j_aload_n (pc := 29) C 0 dL_law_29 rfl ?_
        refine j_iload_n (pc := 30) C 3 dL_law_30 rfl ?_
        refine j_sld (pc := 31) C hX hbl (by omega) dL_law_31 h (fun h => ?_)
        refine n_iast (pc := 32) C dL_law_32 h (fun M4 h => ?_)
        obtain ⟨b5, s5, hb, hs, h⟩ := h
        refine c2_L_26 (pc := 33) C ⟨(Nat.le_of_ble_eq_true rfl), (Nat.le_of_ble_eq_true rfl)⟩ ⟨hb, hs⟩ (Nat.le_of_ble_eq_true rfl) dL_law_33 h (fun r5 M5 h => ?_)
        refine j_if_ne (pc := 36) C 41 dL_law_36 (by decide) h (fun h => ?_) (fun h => ?_)
        · refine j_iinc (pc := 41) (v := (1 : Int32)) C 3 [(3, _), (0, _), (1, _), (2, _)] dL_law_41 rfl rfl (by decide) rfl ?_
          refine j_goto (pc := 44) C 13 dL_law_44 (by decide) ?_
          exact j_weak [1, 2, 3, 0] rfl (ih _ _ _ _ _ _ hb hs h)
        · refine j_iconst (pc := 39) (v := (0 : Int32)) C dL_law_39 rfl ?_
          exact j_lawret (pc := 40) C hbs dL_law_40 ⟨hb, hs⟩ (hP _ _ h)
def w_L_law (M : Mm) (L : Nat) (xs : Nat → Int32) (P : Int32 → Mm → Prop) : Prop := 0 + 1 ≤ room_1.cells ∧ 0 + 12 ≤ room_1.slots ∧ (∀ a1 M1, a1 = zn M → M1 = sN M 7 0 → (0 + 1) + 162 ≤ room_1.cells ∧ (0 + 12) + 12569 ≤ room_1.slots ∧ w_X7_init M1 a1 (fun M2 => (∃ n13, l_L_law_13 L xs P (fun M6 b6 s6 => P (1 : Int32) M6) n13 M2 ((0 + 1) + 162) ((0 + 12) + 12569) a1 (nI L) (0 : Int32))))
set_option maxHeartbeats 4000000 in
set_option maxRecDepth 100000 in
theorem j_law {p : Program} {l : Launch} {e : Env} {s : State} {m : MethodId} {below : List Frame} {meth : Method} {c : Code} {E : EV} {b0 L : Nat} {xs : Nat → Int32} {P : Int32 → Mm → Prop} (C : Cx p l s m #[Value.ref b0] meth c code 4 RL retL E) (hX : va_X b0 L xs s s.heap) (hbl : b0 < s.heap.size) (hbs : E.2.2.1 = s.heap.size) (hP : ∀ r M, P r M → r = 1) (M : Mm) (h : w_L_law M L xs P) : J p l e room_1 s m #[Value.ref b0] below meth c (lw_Z below #[Value.ref b0] s) E 4 M 0 0 0 [(0, .ref b0)] [] := by
  rw [w_L_law] at h
  have hb : 0 ≤ room_1.cells := Nat.zero_le _
  have hs : 0 ≤ room_1.slots := Nat.zero_le _
  obtain ⟨hb, hs, h⟩ := h
  refine n_new (pc := 0) C co_X7 df_X7 wd_66 wd_67 wd_40 dL_law_0 hb hs h (fun a1 M1 h => ?_)
  refine j_dup (pc := 3) C dL_law_3 rfl ?_
  obtain ⟨hb, hs, h⟩ := h
  refine c2_L_25 (pc := 4) C ⟨(Nat.le_of_ble_eq_true rfl), (Nat.le_of_ble_eq_true rfl)⟩ ⟨hb, hs⟩ (Nat.le_of_ble_eq_true rfl) dL_law_4 h (fun M2 h => ?_)
  refine j_astore_n (pc := 7) C [(1, _), (0, _)] dL_law_7 (by decide) rfl ?_
  refine j_aload_n (pc := 8) C 1 dL_law_8 rfl ?_
  refine j_slL (pc := 9) C hX hbl (by omega) dL_law_9 ?_
  refine j_istore_n (pc := 10) C [(2, _), (1, _), (0, _)] dL_law_10 (by decide) rfl ?_
  refine j_iconst (pc := 11) (v := (0 : Int32)) C dL_law_11 rfl ?_
  refine j_istore_n (pc := 12) C [(3, _), (2, _), (1, _), (0, _)] dL_law_12 (by decide) rfl ?_
  obtain ⟨n13, h⟩ := h
  refine j_weak [3, 2, 1, 0] rfl (jl_L_law_13 C hX hbl hbs hP (fun M6 b6 s6 hb hs h => ?_) n13 _ _ _ _ _ _ hb hs h)
  · refine j_iconst (pc := 47) (v := (1 : Int32)) C dL_law_47 rfl ?_
    exact j_lawret (pc := 48) C hbs dL_law_48 ⟨hb, hs⟩ (hP _ _ h)
end GLL
