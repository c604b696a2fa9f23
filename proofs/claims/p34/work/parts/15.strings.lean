/-! String constants: length() and charAt() -/
section JS
variable {p : Program} {l : Launch} {e : Env} {R : Room} {s : State} {m : MethodId} {args : Array Value} {below : List Frame} {meth : Method} {c : Code} {Q : State → Prop} {cc : ByteArray} {nL : Nat} {own : String} {ret : Option FieldType} {E : EV} {M : Mm} {kc ks mc ms pc : Nat} {lo : List (Nat × Value)} {st rest : List Value}
theorem j_cVs_I {idx n nY i : Nat} {y : MethodName} {cY : ByteArray} {rt : FieldType} {P : Int32 → Mm → Prop} {rm : Room} {As : List Value} (C : Cx p l s m args meth c cc nL own ret E) (hi : i < 12) (hin : (Cond.instanceMethod y) ∈ TB) (hse : (Cond.selects y.cls y y) ∈ TB) (hM : CtI l E y cY nY rt rm mc ms (Value.ref (E.2.2.2.1 i) :: As) M P) (kb : KB own idx y cY nY (some rt) n) (hrc : rm.cells = mc) (hrs : rm.slots = ms) (hR : rm.frames + 1 ≤ R.frames ∧ 8 + (nY + 11) + rm.locals ≤ R.locals) (hf : kc + mc ≤ R.cells ∧ ks + ms ≤ R.slots) (hn : As.length = n) (hst : (rest.map fun v => v.category).sum ≤ 8) (d : decode cc pc = .ok (.invokevirtual idx, 3))
    (kk : ∀ r M', P r M' → J p l e R s m args below meth c Q E nL M' (kc + mc) (ks + ms) (pc + 3) lo (.int r :: rest)) (hy : y.cls = "java/lang/String" := by rfl) : J p l e R s m args below meth c Q E nL M kc ks pc lo (As.reverse ++ .ref (E.2.2.2.1 i) :: rest) := by
  intro H locs ls hRp hS hl
  have hrv : ∃ cell : Cell, H[E.2.2.2.1 i]? = some cell ∧ cell.vm.isStatics = false ∧ s.vm.findClass y.cls = some cell.cls := by rw [hy]; exact vk_recv C.2.2.2.2.2.2.1.2.2.2.2.2.1.1 hi hS
  have hr := va_runV (C := y.cls) (b := E.2.2.2.1 i) (As := As) (rest := rest) (g := F0 m pc ls (As.reverse ++ .ref (E.2.2.2.1 i) :: rest)) (H := H) (locs := locs) (cells := kc) (slots := ks) (p := p) (e := e) (below := below) (meth := meth) (k_fix C) hM ⟨k_cb C kb hrc hrs hR, C.2.2.2.2.1 _ hin, C.2.2.2.2.1 _ hse⟩ ⟨k_blind, hrv, k_pre C hRp hS⟩ rfl hn hl.1 rfl (lv_room hst) d hf
  exact va_calli hr hS (fun q _ h => h) (fun q h => h) (fun r u t H1 locs1 ht ha hw hB hz hk1 hS1 => kk r u hw H1 locs1 ls (by rw [← ht]; exact hB) hS1 hl)
theorem j_gsf (C : Cx p l s m args meth c cc nL own ret E) {idx : Nat} (hL : (Cond.fieldLink own idx "jdk/internal/util/Preconditions" "SIOOBE_FORMATTER" "Ljava/util/function/BiFunction;") ∈ TB) (d : decode cc pc = .ok (.getstatic idx, 3)) (kk : ∀ v, (v = .null ∨ ∃ t, v = .ref t) → J p l e R s m args below meth c Q E nL M kc ks (pc + 3) lo (v :: st)) : J p l e R s m args below meth c Q E nL M kc ks pc lo st := by
  intro H locs ls hR hS hl
  rcases C.2.2.2.2.2.2.1.2.2.2.2.2.1.2.2.2 with hz | ⟨t, hz⟩
  · exact va_gets C.1 C.2.1 hz hS C.2.2.2.1 (C.2.2.2.2.1 _ hL) (fun _ h => h) d (kk _ (Or.inl rfl) H locs ls hR hS hl)
  · exact va_gets C.1 C.2.1 hz hS C.2.2.2.1 (C.2.2.2.2.1 _ hL) (fun _ h => h) d (kk _ (Or.inr ⟨t, rfl⟩) H locs ls hR hS hl)
end JS
abbrev rm_S0 : Room := { frames := 0, cells := 0, slots := 0, locals := 0 }
abbrev rm_S1 : Room := { frames := 1, cells := 0, slots := 0, locals := 30 }
abbrev rm_S2 : Room := { frames := 2, cells := 0, slots := 0, locals := 60 }
abbrev rm_J0_length_8abf5 : Room := { frames := 4, cells := 0, slots := 0, locals := 120 }
abbrev rm_J0_charAt_5068e : Room := { frames := 4, cells := 0, slots := 0, locals := 120 }
set_option maxHeartbeats 4000000 in
theorem c_coder (l : Launch) (E : EV) (M : Mm) (i : Nat) (P : Int32 → Mm → Prop) (h : i < 12 ∧ P 0 M) : CtI l E yJ0_coder_7d493 cJ0_coder_7d493 1 .byte rm_S0 0 0 [.ref (E.2.2.2.1 i)] M P := by
  refine ctI_of (by decide +kernel) (Nat.le_of_ble_eq_true rfl) ?_
  intro p e s m args below meth c C
  show J p l e rm_S0 s m args below meth c (QI below E P args s 0 0) E 1 M 0 0 0 [(0, .ref (E.2.2.2.1 i))] []
  refine j_scs (pc := 0) C wd_501 dJ0_coder_7d493_0 ?_
  refine j_if_eq (pc := 3) (A := False) (B := P 0 M) C 13 dJ0_coder_7d493_3 (by decide) (by rw [if_neg (by decide)]; exact h.2) (fun h => h.elim) (fun h2 => ?_)
  refine j_aload_n (pc := 6) C 0 dJ0_coder_7d493_6 rfl ?_
  refine j_scod (pc := 7) C h.1 wd_601 dJ0_coder_7d493_7 ?_
  refine j_goto (pc := 10) C 14 dJ0_coder_7d493_10 (by decide) ?_
  exact j_bret (pc := 14) C dJ0_coder_7d493_14 (Nat.le_of_ble_eq_true rfl) (Nat.le_of_ble_eq_true rfl) ⟨rfl, h2⟩
set_option maxHeartbeats 4000000 in
theorem c_isLatin1 (l : Launch) (E : EV) (M : Mm) (i : Nat) (P : Int32 → Mm → Prop) (h : i < 12 ∧ P 1 M) : CtI l E yJ0_isLatin1_aae02 cJ0_isLatin1_aae02 1 .boolean rm_S0 0 0 [.ref (E.2.2.2.1 i)] M P := by
  refine ctI_of (by decide +kernel) (Nat.le_of_ble_eq_true rfl) ?_
  intro p e s m args below meth c C
  show J p l e rm_S0 s m args below meth c (QI below E P args s 0 0) E 1 M 0 0 0 [(0, .ref (E.2.2.2.1 i))] []
  refine j_scs (pc := 0) C wd_501 dJ0_isLatin1_aae02_0 ?_
  refine j_if_eq (pc := 3) (A := False) (B := P 1 M) C 17 dJ0_isLatin1_aae02_3 (by decide) (by rw [if_neg (by decide)]; exact h.2) (fun h => h.elim) (fun h2 => ?_)
  refine j_aload_n (pc := 6) C 0 dJ0_isLatin1_aae02_6 rfl ?_
  refine j_scod (pc := 7) C h.1 wd_601 dJ0_isLatin1_aae02_7 ?_
  refine j_if_ne (pc := 10) (A := False) (B := P 1 M) C 17 dJ0_isLatin1_aae02_10 (by decide) (by rw [if_pos rfl]; exact h.2) (fun h => h.elim) (fun h2 => ?_)
  refine j_iconst (pc := 13) (v := 1) C dJ0_isLatin1_aae02_13 rfl ?_
  refine j_goto (pc := 14) C 18 dJ0_isLatin1_aae02_14 (by decide) ?_
  exact j_zret (pc := 18) C dJ0_isLatin1_aae02_18 (Nat.le_of_ble_eq_true rfl) (Nat.le_of_ble_eq_true rfl) ⟨Or.inr rfl, h2⟩
def w_J0_length_8abf5 (M : Mm) (i : Nat) (P : Int32 → Mm → Prop) : Prop := i < 12 ∧ P (nI (zLen.getD i 0)) M
theorem w_J0_length_8abf5_lt {M : Mm} {i : Nat} {P : Int32 → Mm → Prop} (h : w_J0_length_8abf5 M i P) : i < 12 := h.1
theorem zLen_sh : ∀ i, i < 12 → nI (zLen.getD i 0) >>> ((0 : Int32) &&& 31) = nI (zLen.getD i 0) := by decide +kernel
set_option maxHeartbeats 4000000 in
theorem c_J0_length_8abf5 (l : Launch) (E : EV) (M : Mm) (i : Nat) (P : Int32 → Mm → Prop) (h : w_J0_length_8abf5 M i P) : CtI l E yJ0_length_8abf5 cJ0_length_8abf5 1 .int rm_J0_length_8abf5 0 0 [.ref (E.2.2.2.1 i)] M P := by
  refine ctI_of (by decide +kernel) (Nat.le_of_ble_eq_true rfl) ?_
  intro p e s m args below meth c C
  rw [w_J0_length_8abf5] at h
  show J p l e rm_J0_length_8abf5 s m args below meth c (QI below E P args s 0 0) E 1 M 0 0 0 [(0, .ref (E.2.2.2.1 i))] []
  refine j_aload_n (pc := 0) C 0 dJ0_length_8abf5_0 rfl ?_
  refine j_sval (pc := 1) C h.1 wd_600 dJ0_length_8abf5_1 ?_
  refine j_slen (pc := 4) C h.1 dJ0_length_8abf5_4 ?_
  refine j_aload_n (pc := 5) C 0 dJ0_length_8abf5_5 rfl ?_
  refine j_cVs_I (pc := 6) (n := 0) (As := []) (P := fun r M' => r = 0 ∧ M' = M) C h.1 wd_498 wd_499 (c_coder l E M i _ ⟨h.1, rfl, rfl⟩) ⟨wd_500, wd_497, wd_47, by decide +kernel, by decide +kernel, by decide +kernel⟩ rfl rfl ⟨Nat.le_of_ble_eq_true rfl, Nat.le_of_ble_eq_true rfl⟩ ⟨Nat.le_of_ble_eq_true rfl, Nat.le_of_ble_eq_true rfl⟩ rfl (Nat.le_of_ble_eq_true rfl) dJ0_length_8abf5_6 (fun r M' hr => ?_)
  obtain ⟨rfl, rfl⟩ := hr
  refine j_ishr (pc := 9) C dJ0_length_8abf5_9 ?_
  rw [zLen_sh i h.1]
  exact j_iret (pc := 10) C dJ0_length_8abf5_10 (Nat.le_of_ble_eq_true rfl) (Nat.le_of_ble_eq_true rfl) h.2
set_option maxHeartbeats 4000000 in
theorem c_pcheck (l : Launch) (E : EV) (M : Mm) (a b : Int32) (v : Value) (hv : v = .null ∨ ∃ t, v = .ref t) (P : Int32 → Mm → Prop) (h1 : ¬ a < 0) (h2 : a < b) (h : P a M) : CtI l E yJ3_checkIndex_8e157 cJ3_checkIndex_8e157 3 .int rm_S0 0 0 [.int a, .int b, v] M P := by
  have key : ∀ (p : Program) (e : Env) (s : State) (m : MethodId) (args : Array Value) (below : List Frame) (meth : Method) (c : Code), Cx p l s m args meth c cJ3_checkIndex_8e157 3 yJ3_checkIndex_8e157.cls (some .int) E → J p l e rm_S0 s m args below meth c (QI below E P args s 0 0) E 3 M 0 0 0 [(0, .int a), (1, .int b), (2, v)] [] := by
    intro p e s m args below meth c C
    refine j_iload_n (pc := 0) C 0 dJ3_checkIndex_8e157_0 rfl ?_
    refine j_if_lt (pc := 1) (A := False) (B := True) C 9 dJ3_checkIndex_8e157_1 (by decide) (by rw [if_neg h1]; trivial) (fun h => h.elim) (fun _ => ?_)
    refine j_iload_n (pc := 4) C 0 dJ3_checkIndex_8e157_4 rfl ?_
    refine j_iload_n (pc := 5) C 1 dJ3_checkIndex_8e157_5 rfl ?_
    refine j_icmp_lt (pc := 6) (A := True) (B := False) C 16 dJ3_checkIndex_8e157_6 (by decide) (by rw [if_pos h2]; trivial) (fun _ => ?_) (fun h => h.elim)
    refine j_iload_n (pc := 16) C 0 dJ3_checkIndex_8e157_16 rfl ?_
    exact j_iret (pc := 17) C dJ3_checkIndex_8e157_17 (Nat.le_of_ble_eq_true rfl) (Nat.le_of_ble_eq_true rfl) h
  rcases hv with rfl | ⟨t, rfl⟩
  · exact ctI_of (by decide +kernel) (Nat.le_of_ble_eq_true rfl) key
  · exact ctI_of (by decide +kernel) (Nat.le_of_ble_eq_true rfl) key
set_option maxHeartbeats 4000000 in
theorem c_scheck (l : Launch) (E : EV) (M : Mm) (a b : Int32) (P : Mm → Prop) (h1 : ¬ a < 0) (h2 : a < b) (h : P M) : CtV l E yJ0_checkIndex_df160 cJ0_checkIndex_df160 2 rm_S1 0 0 [.int a, .int b] M P := by
  refine ctV_of (by decide +kernel) (Nat.le_of_ble_eq_true rfl) ?_
  intro p e s m args below meth c C hnm
  show J p l e rm_S1 s m args below meth c (QV below E P args s 0 0) E 2 M 0 0 0 [(0, .int a), (1, .int b)] []
  refine j_iload_n (pc := 0) C 0 dJ0_checkIndex_df160_0 rfl ?_
  refine j_iload_n (pc := 1) C 1 dJ0_checkIndex_df160_1 rfl ?_
  refine j_gsf (pc := 2) C wd_479 dJ0_checkIndex_df160_2 (fun v hv => ?_)
  have hc : v.category = 1 := by rcases hv with rfl | ⟨t, rfl⟩ <;> rfl
  refine j_cS_I (pc := 5) (n := 3) (As := [.int a, .int b, v]) (P := fun r M' => M' = M) C wd_581 (c_pcheck l E M a b v hv _ h1 h2 rfl) ⟨wd_582, wd_580, wd_54, by decide +kernel, by decide +kernel, by decide +kernel⟩ rfl rfl ⟨Nat.le_of_ble_eq_true rfl, Nat.le_of_ble_eq_true rfl⟩ ⟨Nat.le_of_ble_eq_true rfl, Nat.le_of_ble_eq_true rfl⟩ rfl (Nat.le_of_ble_eq_true rfl) dJ0_checkIndex_df160_5 (fun r M' hr => ?_)
  subst hr
  refine j_pop (pc := 8) C dJ0_checkIndex_df160_8 rfl ?_
  exact j_vret (pc := 9) C dJ0_checkIndex_df160_9 (Nat.le_of_ble_eq_true rfl) (Nat.le_of_ble_eq_true rfl) h
/-- the char at k -/
def zCh (i : Nat) (k : Int32) : Int32 := (((zByt.getD i []).getD k.toNatClampNeg 0 &&& 255).toUInt32 % 65536).toInt32
theorem zLen_in {i : Nat} (hi : i < 12) {k : Int32} (h : vp_in k (zLen.getD i 0)) : ¬ k < 0 ∧ k < nI (zLen.getD i 0) := by
  have hb : zLen.getD i 0 < 2 ^ 31 := by
    have : ∀ i, i < 12 → zLen.getD i 0 < 2 ^ 31 := by decide +kernel
    exact this i hi
  obtain ⟨j, hj, rfl⟩ := vp_in_of h hb
  exact ⟨nI_pos (by omega), nI_lt hj hb⟩
set_option maxHeartbeats 4000000 in
theorem c_lcharAt (l : Launch) (E : EV) (M : Mm) (i : Nat) (k : Int32) (P : Int32 → Mm → Prop) (hi : i < 12) (hk : vp_in k (zLen.getD i 0)) (h : P (zCh i k) M) : CtI l E yJ1_charAt_3b067 cJ1_charAt_3b067 2 .char rm_S2 0 0 [.ref (E.2.2.2.2 i), .int k] M P := by
  refine ctI_of (by decide +kernel) (Nat.le_of_ble_eq_true rfl) ?_
  intro p e s m args below meth c C
  show J p l e rm_S2 s m args below meth c (QI below E P args s 0 0) E 2 M 0 0 0 [(0, .ref (E.2.2.2.2 i)), (1, .int k)] []
  refine j_iload_n (pc := 0) C 1 dJ1_charAt_3b067_0 rfl ?_
  refine j_aload_n (pc := 1) C 0 dJ1_charAt_3b067_1 rfl ?_
  refine j_slen (pc := 2) C hi dJ1_charAt_3b067_2 ?_
  refine j_cS_V (pc := 3) (n := 2) (As := [.int k, .int (nI (zLen.getD i 0))]) (P := fun M' => M' = M) C wd_578 (c_scheck l E M k _ _ (zLen_in hi hk).1 (zLen_in hi hk).2 rfl) ⟨wd_579, wd_682, wd_47, by decide +kernel, by decide +kernel, by decide +kernel⟩ rfl rfl ⟨Nat.le_of_ble_eq_true rfl, Nat.le_of_ble_eq_true rfl⟩ ⟨Nat.le_of_ble_eq_true rfl, Nat.le_of_ble_eq_true rfl⟩ rfl (Nat.le_of_ble_eq_true rfl) dJ1_charAt_3b067_3 (fun M' hr => ?_)
  subst hr
  refine j_aload_n (pc := 6) C 0 dJ1_charAt_3b067_6 rfl ?_
  refine j_iload_n (pc := 7) C 1 dJ1_charAt_3b067_7 rfl ?_
  refine j_sbald (pc := 8) C hi hk dJ1_charAt_3b067_8 ?_
  refine j_sipush (pc := 9) (v := 255) C dJ1_charAt_3b067_9 rfl ?_
  refine j_iand (pc := 12) C dJ1_charAt_3b067_12 ?_
  refine j_i2c (pc := 13) C dJ1_charAt_3b067_13 ?_
  exact j_cret (pc := 14) C dJ1_charAt_3b067_14 (Nat.le_of_ble_eq_true rfl) (Nat.le_of_ble_eq_true rfl) ⟨pk_nc _, h⟩
def w_J0_charAt_5068e (M : Mm) (i : Nat) (k : Int32) (P : Int32 → Mm → Prop) : Prop := i < 12 ∧ vp_in k (zLen.getD i 0) ∧ P (zCh i k) M
theorem w_J0_charAt_5068e_lt {M : Mm} {i : Nat} {k : Int32} {P : Int32 → Mm → Prop} (h : w_J0_charAt_5068e M i k P) : i < 12 := h.1
set_option maxHeartbeats 4000000 in
theorem c_J0_charAt_5068e (l : Launch) (E : EV) (M : Mm) (i : Nat) (k : Int32) (P : Int32 → Mm → Prop) (h : w_J0_charAt_5068e M i k P) : CtI l E yJ0_charAt_5068e cJ0_charAt_5068e 2 .char rm_J0_charAt_5068e 0 0 [.ref (E.2.2.2.1 i), .int k] M P := by
  refine ctI_of (by decide +kernel) (Nat.le_of_ble_eq_true rfl) ?_
  intro p e s m args below meth c C
  rw [w_J0_charAt_5068e] at h
  obtain ⟨hi, hk, h⟩ := h
  show J p l e rm_J0_charAt_5068e s m args below meth c (QI below E P args s 0 0) E 2 M 0 0 0 [(0, .ref (E.2.2.2.1 i)), (1, .int k)] []
  refine j_aload_n (pc := 0) C 0 dJ0_charAt_5068e_0 rfl ?_
  refine j_cVs_I (pc := 1) (n := 0) (As := []) (P := fun r M' => r = 1 ∧ M' = M) C hi wd_676 wd_677 (c_isLatin1 l E M i _ ⟨hi, rfl, rfl⟩) ⟨wd_678, wd_675, wd_47, by decide +kernel, by decide +kernel, by decide +kernel⟩ rfl rfl ⟨Nat.le_of_ble_eq_true rfl, Nat.le_of_ble_eq_true rfl⟩ ⟨Nat.le_of_ble_eq_true rfl, Nat.le_of_ble_eq_true rfl⟩ rfl (Nat.le_of_ble_eq_true rfl) dJ0_charAt_5068e_1 (fun r M' hr => ?_)
  obtain ⟨rfl, rfl⟩ := hr
  refine j_if_eq (pc := 4) (A := False) (B := True) C 16 dJ0_charAt_5068e_4 (by decide) (by rw [if_neg (by decide)]; trivial) (fun h => h.elim) (fun _ => ?_)
  refine j_aload_n (pc := 7) C 0 dJ0_charAt_5068e_7 rfl ?_
  refine j_sval (pc := 8) C hi wd_600 dJ0_charAt_5068e_8 ?_
  refine j_iload_n (pc := 11) C 1 dJ0_charAt_5068e_11 rfl ?_
  refine j_cS_I (pc := 12) (n := 2) (As := [.ref (E.2.2.2.2 i), .int k]) (P := fun r M2 => r = zCh i k ∧ M2 = M') C wd_680 (c_lcharAt l E M' i k _ hi hk ⟨rfl, rfl⟩) ⟨wd_681, wd_679, wd_55, by decide +kernel, by decide +kernel, by decide +kernel⟩ rfl rfl ⟨Nat.le_of_ble_eq_true rfl, Nat.le_of_ble_eq_true rfl⟩ ⟨Nat.le_of_ble_eq_true rfl, Nat.le_of_ble_eq_true rfl⟩ rfl (Nat.le_of_ble_eq_true rfl) dJ0_charAt_5068e_12 (fun r M2 hr => ?_)
  obtain ⟨rfl, rfl⟩ := hr
  exact j_cret (pc := 15) C dJ0_charAt_5068e_15 (Nat.le_of_ble_eq_true rfl) (Nat.le_of_ble_eq_true rfl) ⟨pk_nc _, h⟩
