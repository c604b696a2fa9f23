/-! written by a program (wip/p34/gen.py) out of the decode rows and the tables: fields -/

theorem th_of {L : List Cond} (h : (L.all fun w => (goodWord w || zNest w) && decide (w ∈ lw_tbl)) = true) : ∀ w ∈ L, w ∈ TB ∨ w ∈ NW := by
  intro w hw
  have h1 := List.all_eq_true.mp h w hw
  simp only [Bool.and_eq_true, Bool.or_eq_true, decide_eq_true_eq] at h1
  rcases h1.1 with q | q
  · exact Or.inl (List.mem_filter.mpr ⟨h1.2, q⟩)
  · exact Or.inr (List.mem_filter.mpr ⟨h1.2, q⟩)
section GF
variable {p : Program} {l : Launch} {e : Env} {R : Room} {s : State} {m : MethodId} {args : Array Value} {below : List Frame} {meth : Method} {c : Code} {Q : State → Prop} {cc : ByteArray} {nL : Nat} {ret : Option FieldType} {E : EV} {M : Mm} {kc ks pc : Nat} {lo : List (Nat × Value)} {st : List Value}
theorem ci_X0 : ∀ w ∈ u_ws RX0 TX0 3, w ∈ TB := by
  intro w hw
  obtain ⟨k, hk, rfl⟩ := List.mem_map.mp hw
  have hk := List.mem_range.mp hk
  match k, hk with
  | 0, _ => exact wd_84
  | 1, _ => exact wd_86
  | 2, _ => exact wd_88
  | n + 3, h => exact absurd h (by omega)
theorem co_X0 : CO 0 RX0 TX0 3 tyX0 := ⟨rfl, ci_X0, tyX0_ok, nmX0, rfl, by decide⟩
theorem df_X0 : ∀ j, j < 3 → defaultValue (tyX0 j) = dfl ((ft (0 + 1)).getD j 0) := by
  intro j hj
  match j, hj with
  | 0, _ => rfl
  | 1, _ => rfl
  | 2, _ => rfl
  | n + 3, h => exact absurd h (by omega)
theorem ci_X2 : ∀ w ∈ u_ws RX2 TX2 2, w ∈ TB := by
  intro w hw
  obtain ⟨k, hk, rfl⟩ := List.mem_map.mp hw
  have hk := List.mem_range.mp hk
  match k, hk with
  | 0, _ => exact wd_150
  | 1, _ => exact wd_152
  | n + 2, h => exact absurd h (by omega)
theorem co_X2 : CO 1 RX2 TX2 2 tyX2 := ⟨rfl, ci_X2, tyX2_ok, nmX2, rfl, by decide⟩
theorem df_X2 : ∀ j, j < 2 → defaultValue (tyX2 j) = dfl ((ft (1 + 1)).getD j 0) := by
  intro j hj
  match j, hj with
  | 0, _ => rfl
  | 1, _ => rfl
  | n + 2, h => exact absurd h (by omega)
theorem ci_X3 : ∀ w ∈ u_ws RX3 TX3 4, w ∈ TB := by
  intro w hw
  obtain ⟨k, hk, rfl⟩ := List.mem_map.mp hw
  have hk := List.mem_range.mp hk
  match k, hk with
  | 0, _ => exact wd_809
  | 1, _ => exact wd_811
  | 2, _ => exact wd_813
  | 3, _ => exact wd_815
  | n + 4, h => exact absurd h (by omega)
theorem co_X3 : CO 2 RX3 TX3 4 tyX3 := ⟨rfl, ci_X3, tyX3_ok, nmX3, rfl, by decide⟩
theorem df_X3 : ∀ j, j < 4 → defaultValue (tyX3 j) = dfl ((ft (2 + 1)).getD j 0) := by
  intro j hj
  match j, hj with
  | 0, _ => rfl
  | 1, _ => rfl
  | 2, _ => rfl
  | 3, _ => rfl
  | n + 4, h => exact absurd h (by omega)
theorem ci_X4 : ∀ w ∈ u_ws RX4 TX4 7, w ∈ TB := by
  intro w hw
  obtain ⟨k, hk, rfl⟩ := List.mem_map.mp hw
  have hk := List.mem_range.mp hk
  match k, hk with
  | 0, _ => exact wd_115
  | 1, _ => exact wd_117
  | 2, _ => exact wd_119
  | 3, _ => exact wd_121
  | 4, _ => exact wd_123
  | 5, _ => exact wd_125
  | 6, _ => exact wd_127
  | n + 7, h => exact absurd h (by omega)
theorem co_X4 : CO 3 RX4 TX4 7 tyX4 := ⟨rfl, ci_X4, tyX4_ok, nmX4, rfl, by decide⟩
theorem df_X4 : ∀ j, j < 7 → defaultValue (tyX4 j) = dfl ((ft (3 + 1)).getD j 0) := by
  intro j hj
  match j, hj with
  | 0, _ => rfl
  | 1, _ => rfl
  | 2, _ => rfl
  | 3, _ => rfl
  | 4, _ => rfl
  | 5, _ => rfl
  | 6, _ => rfl
  | n + 7, h => exact absurd h (by omega)
theorem ci_X5 : ∀ w ∈ u_ws RX5 TX5 7, w ∈ TB := by
  intro w hw
  obtain ⟨k, hk, rfl⟩ := List.mem_map.mp hw
  have hk := List.mem_range.mp hk
  match k, hk with
  | 0, _ => exact wd_784
  | 1, _ => exact wd_786
  | 2, _ => exact wd_788
  | 3, _ => exact wd_790
  | 4, _ => exact wd_792
  | 5, _ => exact wd_794
  | 6, _ => exact wd_796
  | n + 7, h => exact absurd h (by omega)
theorem co_X5 : CO 4 RX5 TX5 7 tyX5 := ⟨rfl, ci_X5, tyX5_ok, nmX5, rfl, by decide⟩
theorem df_X5 : ∀ j, j < 7 → defaultValue (tyX5 j) = dfl ((ft (4 + 1)).getD j 0) := by
  intro j hj
  match j, hj with
  | 0, _ => rfl
  | 1, _ => rfl
  | 2, _ => rfl
  | 3, _ => rfl
  | 4, _ => rfl
  | 5, _ => rfl
  | 6, _ => rfl
  | n + 7, h => exact absurd h (by omega)
theorem ci_X6 : ∀ w ∈ u_ws RX6 TX6 19, w ∈ TB := by
  intro w hw
  obtain ⟨k, hk, rfl⟩ := List.mem_map.mp hw
  have hk := List.mem_range.mp hk
  match k, hk with
  | 0, _ => exact wd_219
  | 1, _ => exact wd_221
  | 2, _ => exact wd_223
  | 3, _ => exact wd_225
  | 4, _ => exact wd_227
  | 5, _ => exact wd_229
  | 6, _ => exact wd_231
  | 7, _ => exact wd_233
  | 8, _ => exact wd_235
  | 9, _ => exact wd_237
  | 10, _ => exact wd_239
  | 11, _ => exact wd_241
  | 12, _ => exact wd_243
  | 13, _ => exact wd_245
  | 14, _ => exact wd_247
  | 15, _ => exact wd_249
  | 16, _ => exact wd_251
  | 17, _ => exact wd_253
  | 18, _ => exact wd_255
  | n + 19, h => exact absurd h (by omega)
theorem co_X6 : CO 5 RX6 TX6 19 tyX6 := ⟨rfl, ci_X6, tyX6_ok, nmX6, rfl, by decide⟩
theorem df_X6 : ∀ j, j < 19 → defaultValue (tyX6 j) = dfl ((ft (5 + 1)).getD j 0) := by
  intro j hj
  match j, hj with
  | 0, _ => rfl
  | 1, _ => rfl
  | 2, _ => rfl
  | 3, _ => rfl
  | 4, _ => rfl
  | 5, _ => rfl
  | 6, _ => rfl
  | 7, _ => rfl
  | 8, _ => rfl
  | 9, _ => rfl
  | 10, _ => rfl
  | 11, _ => rfl
  | 12, _ => rfl
  | 13, _ => rfl
  | 14, _ => rfl
  | 15, _ => rfl
  | 16, _ => rfl
  | 17, _ => rfl
  | 18, _ => rfl
  | n + 19, h => exact absurd h (by omega)
theorem ci_X7 : ∀ w ∈ u_ws RX7 TX7 12, w ∈ TB := by
  intro w hw
  obtain ⟨k, hk, rfl⟩ := List.mem_map.mp hw
  have hk := List.mem_range.mp hk
  match k, hk with
  | 0, _ => exact wd_270
  | 1, _ => exact wd_272
  | 2, _ => exact wd_274
  | 3, _ => exact wd_276
  | 4, _ => exact wd_278
  | 5, _ => exact wd_280
  | 6, _ => exact wd_282
  | 7, _ => exact wd_284
  | 8, _ => exact wd_286
  | 9, _ => exact wd_288
  | 10, _ => exact wd_290
  | 11, _ => exact wd_292
  | n + 12, h => exact absurd h (by omega)
theorem co_X7 : CO 6 RX7 TX7 12 tyX7 := ⟨rfl, ci_X7, tyX7_ok, nmX7, rfl, by decide⟩
theorem df_X7 : ∀ j, j < 12 → defaultValue (tyX7 j) = dfl ((ft (6 + 1)).getD j 0) := by
  intro j hj
  match j, hj with
  | 0, _ => rfl
  | 1, _ => rfl
  | 2, _ => rfl
  | 3, _ => rfl
  | 4, _ => rfl
  | 5, _ => rfl
  | 6, _ => rfl
  | 7, _ => rfl
  | 8, _ => rfl
  | 9, _ => rfl
  | 10, _ => rfl
  | 11, _ => rfl
  | n + 12, h => exact absurd h (by omega)
theorem ci_X8 : ∀ w ∈ u_ws RX8 TX8 18, w ∈ TB := by
  intro w hw
  obtain ⟨k, hk, rfl⟩ := List.mem_map.mp hw
  have hk := List.mem_range.mp hk
  match k, hk with
  | 0, _ => exact wd_373
  | 1, _ => exact wd_375
  | 2, _ => exact wd_377
  | 3, _ => exact wd_379
  | 4, _ => exact wd_381
  | 5, _ => exact wd_383
  | 6, _ => exact wd_385
  | 7, _ => exact wd_387
  | 8, _ => exact wd_389
  | 9, _ => exact wd_391
  | 10, _ => exact wd_393
  | 11, _ => exact wd_395
  | 12, _ => exact wd_397
  | 13, _ => exact wd_399
  | 14, _ => exact wd_401
  | 15, _ => exact wd_403
  | 16, _ => exact wd_405
  | 17, _ => exact wd_407
  | n + 18, h => exact absurd h (by omega)
theorem co_X8 : CO 7 RX8 TX8 18 tyX8 := ⟨rfl, ci_X8, tyX8_ok, nmX8, rfl, by decide⟩
theorem df_X8 : ∀ j, j < 18 → defaultValue (tyX8 j) = dfl ((ft (7 + 1)).getD j 0) := by
  intro j hj
  match j, hj with
  | 0, _ => rfl
  | 1, _ => rfl
  | 2, _ => rfl
  | 3, _ => rfl
  | 4, _ => rfl
  | 5, _ => rfl
  | 6, _ => rfl
  | 7, _ => rfl
  | 8, _ => rfl
  | 9, _ => rfl
  | 10, _ => rfl
  | 11, _ => rfl
  | 12, _ => rfl
  | 13, _ => rfl
  | 14, _ => rfl
  | 15, _ => rfl
  | 16, _ => rfl
  | 17, _ => rfl
  | n + 18, h => exact absurd h (by omega)
theorem ci_J4 : ∀ w ∈ u_ws RJ4 TJ4 4, w ∈ TB := by
  intro w hw
  obtain ⟨k, hk, rfl⟩ := List.mem_map.mp hw
  have hk := List.mem_range.mp hk
  match k, hk with
  | 0, _ => exact wd_320
  | 1, _ => exact wd_322
  | 2, _ => exact wd_324
  | 3, _ => exact wd_326
  | n + 4, h => exact absurd h (by omega)
theorem co_J4 : CO 15 RJ4 TJ4 4 tyJ4 := ⟨rfl, ci_J4, tyJ4_ok, nmJ4, rfl, by decide⟩
theorem df_J4 : ∀ j, j < 4 → defaultValue (tyJ4 j) = dfl ((ft (15 + 1)).getD j 0) := by
  intro j hj
  match j, hj with
  | 0, _ => rfl
  | 1, _ => rfl
  | 2, _ => rfl
  | 3, _ => rfl
  | n + 4, h => exact absurd h (by omega)
theorem ci_J0 : ∀ w ∈ u_ws RJ0 TJ0 4, w ∈ TB := by
  intro w hw
  obtain ⟨k, hk, rfl⟩ := List.mem_map.mp hw
  have hk := List.mem_range.mp hk
  match k, hk with
  | 0, _ => exact wd_602
  | 1, _ => exact wd_604
  | 2, _ => exact wd_606
  | 3, _ => exact wd_608
  | n + 4, h => exact absurd h (by omega)
theorem co_J0 : CO 16 RJ0 TJ0 4 tyJ0 := ⟨rfl, ci_J0, tyJ0_ok, nmJ0, rfl, by decide⟩
theorem df_J0 : ∀ j, j < 4 → defaultValue (tyJ0 j) = dfl ((ft (16 + 1)).getD j 0) := by
  intro j hj
  match j, hj with
  | 0, _ => rfl
  | 1, _ => rfl
  | 2, _ => rfl
  | 3, _ => rfl
  | n + 4, h => exact absurd h (by omega)
theorem gf_X0_9 (C : Cx p l s m args meth c cc nL RX0 ret E) {a : Nat} {A : Nat → Prop} (d : decode cc pc = .ok (.getfield 9, 3)) (h : zk M a = 1 ∧ ∃ b, zR M a 0 = some b ∧ A b) (kk : ∀ b, A b → J p l e R s m args below meth c Q E nL M kc ks (pc + 3) lo (.ref b :: st)) : J p l e R s m args below meth c Q E nL M kc ks pc lo (.ref a :: st) := by
  obtain ⟨h1, b, h2, h3⟩ := h
  exact j_get (k := 0) (v := .ref b) C co_X0 (Or.inl wd_80) rfl h1 (by rw [fv_2, h2]; rfl) d (kk b h3)
theorem pf_X0_9 (C : Cx p l s m args meth c cc nL RX0 ret E) (hnm : meth.name = "<init>") {a : Nat} {x : Nat} {A : Mm → Prop} (d : decode cc pc = .ok (.putfield 9, 3)) (h : zk M a = 1 ∧ ∀ M', M' = sR M a 0 (some x) → A M') (kk : ∀ M', A M' → J p l e R s m args below meth c Q E nL M' kc ks (pc + 3) lo st) : J p l e R s m args below meth c Q E nL M kc ks pc lo (.ref x :: .ref a :: st) :=
  j_putF (M' := sR M a 0 (some x)) (k := 0) C hnm rfl co_X0 wd_80 rfl h.1 rfl rfl rfl rfl rfl (fun b hb => sR_o hb) fv_sR_eq fv_sR d (kk _ (h.2 _ rfl))
theorem gf_X0_15 (C : Cx p l s m args meth c cc nL RX0 ret E) {a : Nat} {A : Nat → Prop} (d : decode cc pc = .ok (.getfield 15, 3)) (h : zk M a = 1 ∧ ∃ b, zR M a 1 = some b ∧ A b) (kk : ∀ b, A b → J p l e R s m args below meth c Q E nL M kc ks (pc + 3) lo (.ref b :: st)) : J p l e R s m args below meth c Q E nL M kc ks pc lo (.ref a :: st) := by
  obtain ⟨h1, b, h2, h3⟩ := h
  exact j_get (k := 1) (v := .ref b) C co_X0 (Or.inl wd_82) rfl h1 (by rw [fv_2, h2]; rfl) d (kk b h3)
theorem pf_X0_15 (C : Cx p l s m args meth c cc nL RX0 ret E) (hnm : meth.name = "<init>") {a : Nat} {x : Nat} {A : Mm → Prop} (d : decode cc pc = .ok (.putfield 15, 3)) (h : zk M a = 1 ∧ ∀ M', M' = sR M a 1 (some x) → A M') (kk : ∀ M', A M' → J p l e R s m args below meth c Q E nL M' kc ks (pc + 3) lo st) : J p l e R s m args below meth c Q E nL M kc ks pc lo (.ref x :: .ref a :: st) :=
  j_putF (M' := sR M a 1 (some x)) (k := 1) C hnm rfl co_X0 wd_82 rfl h.1 rfl rfl rfl rfl rfl (fun b hb => sR_o hb) fv_sR_eq fv_sR d (kk _ (h.2 _ rfl))
theorem gf_X0_18 (C : Cx p l s m args meth c cc nL RX0 ret E) {a : Nat} {A : Nat → Prop} (d : decode cc pc = .ok (.getfield 18, 3)) (h : zk M a = 1 ∧ ∃ b, zR M a 2 = some b ∧ A b) (kk : ∀ b, A b → J p l e R s m args below meth c Q E nL M kc ks (pc + 3) lo (.ref b :: st)) : J p l e R s m args below meth c Q E nL M kc ks pc lo (.ref a :: st) := by
  obtain ⟨h1, b, h2, h3⟩ := h
  exact j_get (k := 2) (v := .ref b) C co_X0 (Or.inl wd_83) rfl h1 (by rw [fv_2, h2]; rfl) d (kk b h3)
theorem pf_X0_18 (C : Cx p l s m args meth c cc nL RX0 ret E) (hnm : meth.name = "<init>") {a : Nat} {x : Nat} {A : Mm → Prop} (d : decode cc pc = .ok (.putfield 18, 3)) (h : zk M a = 1 ∧ ∀ M', M' = sR M a 2 (some x) → A M') (kk : ∀ M', A M' → J p l e R s m args below meth c Q E nL M' kc ks (pc + 3) lo st) : J p l e R s m args below meth c Q E nL M kc ks pc lo (.ref x :: .ref a :: st) :=
  j_putF (M' := sR M a 2 (some x)) (k := 2) C hnm rfl co_X0 wd_83 rfl h.1 rfl rfl rfl rfl rfl (fun b hb => sR_o hb) fv_sR_eq fv_sR d (kk _ (h.2 _ rfl))
theorem gf_X0_21 (C : Cx p l s m args meth c cc nL RX0 ret E) {a : Nat} {A : Nat → Prop} (d : decode cc pc = .ok (.getfield 21, 3)) (h : zk M a = 6 ∧ ∃ b, zR M a 17 = some b ∧ A b) (kk : ∀ b, A b → J p l e R s m args below meth c Q E nL M kc ks (pc + 3) lo (.ref b :: st)) : J p l e R s m args below meth c Q E nL M kc ks pc lo (.ref a :: st) := by
  obtain ⟨h1, b, h2, h3⟩ := h
  exact j_get (k := 17) (v := .ref b) C co_X6 (Or.inr ⟨_, nw_214⟩) rfl h1 (by rw [fv_2, h2]; rfl) d (kk b h3)
theorem gf_X0_43 (C : Cx p l s m args meth c cc nL RX0 ret E) {a : Nat} {A : Nat → Prop} (d : decode cc pc = .ok (.getfield 43, 3)) (h : zk M a = 6 ∧ ∃ b, zR M a 5 = some b ∧ A b) (kk : ∀ b, A b → J p l e R s m args below meth c Q E nL M kc ks (pc + 3) lo (.ref b :: st)) : J p l e R s m args below meth c Q E nL M kc ks pc lo (.ref a :: st) := by
  obtain ⟨h1, b, h2, h3⟩ := h
  exact j_get (k := 5) (v := .ref b) C co_X6 (Or.inr ⟨_, nw_173⟩) rfl h1 (by rw [fv_2, h2]; rfl) d (kk b h3)
theorem gf_X0_47 (C : Cx p l s m args meth c cc nL RX0 ret E) {a : Nat} {A : Prop} (d : decode cc pc = .ok (.getfield 47, 3)) (h : zk M a = 2 ∧ A) (kk : A → J p l e R s m args below meth c Q E nL M kc ks (pc + 3) lo (.int (zI M a 1) :: st)) : J p l e R s m args below meth c Q E nL M kc ks pc lo (.ref a :: st) :=
  j_get (k := 1) C co_X2 (Or.inr ⟨_, nw_147⟩) rfl h.1 rfl d (kk h.2)
theorem gf_X0_57 (C : Cx p l s m args meth c cc nL RX0 ret E) {a : Nat} {A : Nat → Prop} (d : decode cc pc = .ok (.getfield 57, 3)) (h : zk M a = 6 ∧ ∃ b, zR M a 9 = some b ∧ A b) (kk : ∀ b, A b → J p l e R s m args below meth c Q E nL M kc ks (pc + 3) lo (.ref b :: st)) : J p l e R s m args below meth c Q E nL M kc ks pc lo (.ref a :: st) := by
  obtain ⟨h1, b, h2, h3⟩ := h
  exact j_get (k := 9) (v := .ref b) C co_X6 (Or.inr ⟨_, nw_188⟩) rfl h1 (by rw [fv_2, h2]; rfl) d (kk b h3)
theorem gf_X1_21 (C : Cx p l s m args meth c cc nL RX1 ret E) {a : Nat} {A : Nat → Prop} (d : decode cc pc = .ok (.getfield 21, 3)) (h : zk M a = 6 ∧ ∃ b, zR M a 12 = some b ∧ A b) (kk : ∀ b, A b → J p l e R s m args below meth c Q E nL M kc ks (pc + 3) lo (.ref b :: st)) : J p l e R s m args below meth c Q E nL M kc ks pc lo (.ref a :: st) := by
  obtain ⟨h1, b, h2, h3⟩ := h
  exact j_get (k := 12) (v := .ref b) C co_X6 (Or.inr ⟨_, nw_197⟩) rfl h1 (by rw [fv_2, h2]; rfl) d (kk b h3)
theorem gf_X1_27 (C : Cx p l s m args meth c cc nL RX1 ret E) {a : Nat} {A : Prop} (d : decode cc pc = .ok (.getfield 27, 3)) (h : zk M a = 2 ∧ A) (kk : A → J p l e R s m args below meth c Q E nL M kc ks (pc + 3) lo (.int (zI M a 1) :: st)) : J p l e R s m args below meth c Q E nL M kc ks pc lo (.ref a :: st) :=
  j_get (k := 1) C co_X2 (Or.inr ⟨_, nw_146⟩) rfl h.1 rfl d (kk h.2)
theorem gf_X1_37 (C : Cx p l s m args meth c cc nL RX1 ret E) {a : Nat} {A : Prop} (d : decode cc pc = .ok (.getfield 37, 3)) (h : zk M a = 4 ∧ A) (kk : A → J p l e R s m args below meth c Q E nL M kc ks (pc + 3) lo (.int (zI M a 0) :: st)) : J p l e R s m args below meth c Q E nL M kc ks pc lo (.ref a :: st) :=
  j_get (k := 0) C co_X4 (Or.inr ⟨_, nw_100⟩) rfl h.1 rfl d (kk h.2)
theorem gf_X1_40 (C : Cx p l s m args meth c cc nL RX1 ret E) {a : Nat} {A : Nat → Prop} (d : decode cc pc = .ok (.getfield 40, 3)) (h : zk M a = 4 ∧ ∃ b, zR M a 4 = some b ∧ A b) (kk : ∀ b, A b → J p l e R s m args below meth c Q E nL M kc ks (pc + 3) lo (.ref b :: st)) : J p l e R s m args below meth c Q E nL M kc ks pc lo (.ref a :: st) := by
  obtain ⟨h1, b, h2, h3⟩ := h
  exact j_get (k := 4) (v := .ref b) C co_X4 (Or.inr ⟨_, nw_110⟩) rfl h1 (by rw [fv_2, h2]; rfl) d (kk b h3)
theorem gf_X1_48 (C : Cx p l s m args meth c cc nL RX1 ret E) {a : Nat} {A : Nat → Prop} (d : decode cc pc = .ok (.getfield 48, 3)) (h : zk M a = 4 ∧ ∃ b, zR M a 1 = some b ∧ A b) (kk : ∀ b, A b → J p l e R s m args below meth c Q E nL M kc ks (pc + 3) lo (.ref b :: st)) : J p l e R s m args below meth c Q E nL M kc ks pc lo (.ref a :: st) := by
  obtain ⟨h1, b, h2, h3⟩ := h
  exact j_get (k := 1) (v := .ref b) C co_X4 (Or.inr ⟨_, nw_103⟩) rfl h1 (by rw [fv_2, h2]; rfl) d (kk b h3)
theorem gf_X1_51 (C : Cx p l s m args meth c cc nL RX1 ret E) {a : Nat} {A : Nat → Prop} (d : decode cc pc = .ok (.getfield 51, 3)) (h : zk M a = 6 ∧ ∃ b, zR M a 16 = some b ∧ A b) (kk : ∀ b, A b → J p l e R s m args below meth c Q E nL M kc ks (pc + 3) lo (.ref b :: st)) : J p l e R s m args below meth c Q E nL M kc ks pc lo (.ref a :: st) := by
  obtain ⟨h1, b, h2, h3⟩ := h
  exact j_get (k := 16) (v := .ref b) C co_X6 (Or.inr ⟨_, nw_210⟩) rfl h1 (by rw [fv_2, h2]; rfl) d (kk b h3)
theorem gf_X1_54 (C : Cx p l s m args meth c cc nL RX1 ret E) {a : Nat} {A : Nat → Prop} (d : decode cc pc = .ok (.getfield 54, 3)) (h : zk M a = 6 ∧ ∃ b, zR M a 5 = some b ∧ A b) (kk : ∀ b, A b → J p l e R s m args below meth c Q E nL M kc ks (pc + 3) lo (.ref b :: st)) : J p l e R s m args below meth c Q E nL M kc ks pc lo (.ref a :: st) := by
  obtain ⟨h1, b, h2, h3⟩ := h
  exact j_get (k := 5) (v := .ref b) C co_X6 (Or.inr ⟨_, nw_174⟩) rfl h1 (by rw [fv_2, h2]; rfl) d (kk b h3)
theorem gf_X1_60 (C : Cx p l s m args meth c cc nL RX1 ret E) {a : Nat} {A : Nat → Prop} (d : decode cc pc = .ok (.getfield 60, 3)) (h : zk M a = 6 ∧ ∃ b, zR M a 7 = some b ∧ A b) (kk : ∀ b, A b → J p l e R s m args below meth c Q E nL M kc ks (pc + 3) lo (.ref b :: st)) : J p l e R s m args below meth c Q E nL M kc ks pc lo (.ref a :: st) := by
  obtain ⟨h1, b, h2, h3⟩ := h
  exact j_get (k := 7) (v := .ref b) C co_X6 (Or.inr ⟨_, nw_181⟩) rfl h1 (by rw [fv_2, h2]; rfl) d (kk b h3)
theorem gf_X1_76 (C : Cx p l s m args meth c cc nL RX1 ret E) {a : Nat} {A : Prop} (d : decode cc pc = .ok (.getfield 76, 3)) (h : zk M a = 6 ∧ A) (kk : A → J p l e R s m args below meth c Q E nL M kc ks (pc + 3) lo (.int (zI M a 1) :: st)) : J p l e R s m args below meth c Q E nL M kc ks pc lo (.ref a :: st) :=
  j_get (k := 1) C co_X6 (Or.inr ⟨_, nw_161⟩) rfl h.1 rfl d (kk h.2)
theorem gf_X1_86 (C : Cx p l s m args meth c cc nL RX1 ret E) {a : Nat} {A : Nat → Prop} (d : decode cc pc = .ok (.getfield 86, 3)) (h : zk M a = 6 ∧ ∃ b, zR M a 17 = some b ∧ A b) (kk : ∀ b, A b → J p l e R s m args below meth c Q E nL M kc ks (pc + 3) lo (.ref b :: st)) : J p l e R s m args below meth c Q E nL M kc ks pc lo (.ref a :: st) := by
  obtain ⟨h1, b, h2, h3⟩ := h
  exact j_get (k := 17) (v := .ref b) C co_X6 (Or.inr ⟨_, nw_215⟩) rfl h1 (by rw [fv_2, h2]; rfl) d (kk b h3)
theorem gf_X2_9 (C : Cx p l s m args meth c cc nL RX2 ret E) {a : Nat} {A : Nat → Prop} (d : decode cc pc = .ok (.getfield 9, 3)) (h : zk M a = 2 ∧ ∃ b, zR M a 0 = some b ∧ A b) (kk : ∀ b, A b → J p l e R s m args below meth c Q E nL M kc ks (pc + 3) lo (.ref b :: st)) : J p l e R s m args below meth c Q E nL M kc ks pc lo (.ref a :: st) := by
  obtain ⟨h1, b, h2, h3⟩ := h
  exact j_get (k := 0) (v := .ref b) C co_X2 (Or.inl wd_143) rfl h1 (by rw [fv_2, h2]; rfl) d (kk b h3)
theorem pf_X2_9 (C : Cx p l s m args meth c cc nL RX2 ret E) (hnm : meth.name = "<init>") {a : Nat} {x : Nat} {A : Mm → Prop} (d : decode cc pc = .ok (.putfield 9, 3)) (h : zk M a = 2 ∧ ∀ M', M' = sR M a 0 (some x) → A M') (kk : ∀ M', A M' → J p l e R s m args below meth c Q E nL M' kc ks (pc + 3) lo st) : J p l e R s m args below meth c Q E nL M kc ks pc lo (.ref x :: .ref a :: st) :=
  j_putF (M' := sR M a 0 (some x)) (k := 0) C hnm rfl co_X2 wd_143 rfl h.1 rfl rfl rfl rfl rfl (fun b hb => sR_o hb) fv_sR_eq fv_sR d (kk _ (h.2 _ rfl))
theorem gf_X2_15 (C : Cx p l s m args meth c cc nL RX2 ret E) {a : Nat} {A : Prop} (d : decode cc pc = .ok (.getfield 15, 3)) (h : zk M a = 2 ∧ A) (kk : A → J p l e R s m args below meth c Q E nL M kc ks (pc + 3) lo (.int (zI M a 1) :: st)) : J p l e R s m args below meth c Q E nL M kc ks pc lo (.ref a :: st) :=
  j_get (k := 1) C co_X2 (Or.inl wd_144) rfl h.1 rfl d (kk h.2)
theorem pf_X2_15 (C : Cx p l s m args meth c cc nL RX2 ret E) {a : Nat} {x : Int32} {A : Mm → Prop} (d : decode cc pc = .ok (.putfield 15, 3)) (h : zk M a = 2 ∧ ∀ M', M' = sI M a 1 x → A M') (kk : ∀ M', A M' → J p l e R s m args below meth c Q E nL M' kc ks (pc + 3) lo st) : J p l e R s m args below meth c Q E nL M kc ks pc lo (.int x :: .ref a :: st) :=
  j_put (M' := sI M a 1 x) (k := 1) C co_X2 (Or.inl wd_144) rfl h.1 rfl rfl rfl rfl rfl (fun b hb => sI_o hb) fv_sI_eq fv_sI d (kk _ (h.2 _ rfl))
theorem pf_X3_9 (C : Cx p l s m args meth c cc nL RX3 ret E) {a : Nat} {x : Int32} {A : Mm → Prop} (d : decode cc pc = .ok (.putfield 9, 3)) (h : zk M a = 3 ∧ ∀ M', M' = sI M a 3 x → A M') (kk : ∀ M', A M' → J p l e R s m args below meth c Q E nL M' kc ks (pc + 3) lo st) : J p l e R s m args below meth c Q E nL M kc ks pc lo (.int x :: .ref a :: st) :=
  j_put (M' := sI M a 3 x) (k := 3) C co_X3 (Or.inl wd_807) rfl h.1 rfl rfl rfl rfl rfl (fun b hb => sI_o hb) fv_sI_eq fv_sI d (kk _ (h.2 _ rfl))
theorem gf_X3_15 (C : Cx p l s m args meth c cc nL RX3 ret E) {a : Nat} {A : Nat → Prop} (d : decode cc pc = .ok (.getfield 15, 3)) (h : zk M a = 3 ∧ ∃ b, zR M a 0 = some b ∧ A b) (kk : ∀ b, A b → J p l e R s m args below meth c Q E nL M kc ks (pc + 3) lo (.ref b :: st)) : J p l e R s m args below meth c Q E nL M kc ks pc lo (.ref a :: st) := by
  obtain ⟨h1, b, h2, h3⟩ := h
  exact j_get (k := 0) (v := .ref b) C co_X3 (Or.inl wd_803) rfl h1 (by rw [fv_2, h2]; rfl) d (kk b h3)
theorem pf_X3_15 (C : Cx p l s m args meth c cc nL RX3 ret E) (hnm : meth.name = "<init>") {a : Nat} {x : Nat} {A : Mm → Prop} (d : decode cc pc = .ok (.putfield 15, 3)) (h : zk M a = 3 ∧ ∀ M', M' = sR M a 0 (some x) → A M') (kk : ∀ M', A M' → J p l e R s m args below meth c Q E nL M' kc ks (pc + 3) lo st) : J p l e R s m args below meth c Q E nL M kc ks pc lo (.ref x :: .ref a :: st) :=
  j_putF (M' := sR M a 0 (some x)) (k := 0) C hnm rfl co_X3 wd_803 rfl h.1 rfl rfl rfl rfl rfl (fun b hb => sR_o hb) fv_sR_eq fv_sR d (kk _ (h.2 _ rfl))
theorem gf_X3_19 (C : Cx p l s m args meth c cc nL RX3 ret E) {a : Nat} {A : Nat → Prop} (d : decode cc pc = .ok (.getfield 19, 3)) (h : zk M a = 3 ∧ ∃ b, zR M a 1 = some b ∧ A b) (kk : ∀ b, A b → J p l e R s m args below meth c Q E nL M kc ks (pc + 3) lo (.ref b :: st)) : J p l e R s m args below meth c Q E nL M kc ks pc lo (.ref a :: st) := by
  obtain ⟨h1, b, h2, h3⟩ := h
  exact j_get (k := 1) (v := .ref b) C co_X3 (Or.inl wd_804) rfl h1 (by rw [fv_2, h2]; rfl) d (kk b h3)
theorem pf_X3_19 (C : Cx p l s m args meth c cc nL RX3 ret E) (hnm : meth.name = "<init>") {a : Nat} {x : Nat} {A : Mm → Prop} (d : decode cc pc = .ok (.putfield 19, 3)) (h : zk M a = 3 ∧ ∀ M', M' = sR M a 1 (some x) → A M') (kk : ∀ M', A M' → J p l e R s m args below meth c Q E nL M' kc ks (pc + 3) lo st) : J p l e R s m args below meth c Q E nL M kc ks pc lo (.ref x :: .ref a :: st) :=
  j_putF (M' := sR M a 1 (some x)) (k := 1) C hnm rfl co_X3 wd_804 rfl h.1 rfl rfl rfl rfl rfl (fun b hb => sR_o hb) fv_sR_eq fv_sR d (kk _ (h.2 _ rfl))
theorem gf_X3_37 (C : Cx p l s m args meth c cc nL RX3 ret E) {a : Nat} {A : Prop} (d : decode cc pc = .ok (.getfield 37, 3)) (h : zk M a = 5 ∧ A) (kk : A → J p l e R s m args below meth c Q E nL M kc ks (pc + 3) lo (.int (zI M a 3) :: st)) : J p l e R s m args below meth c Q E nL M kc ks pc lo (.ref a :: st) :=
  j_get (k := 3) C co_X5 (Or.inr ⟨_, nw_776⟩) rfl h.1 rfl d (kk h.2)
theorem gf_X3_46 (C : Cx p l s m args meth c cc nL RX3 ret E) {a : Nat} {A : Prop} (d : decode cc pc = .ok (.getfield 46, 3)) (h : zk M a = 5 ∧ A) (kk : A → J p l e R s m args below meth c Q E nL M kc ks (pc + 3) lo (.long (zJ M a 5) :: st)) : J p l e R s m args below meth c Q E nL M kc ks pc lo (.ref a :: st) :=
  j_get (k := 5) C co_X5 (Or.inr ⟨_, nw_781⟩) rfl h.1 rfl d (kk h.2)
theorem gf_X3_68 (C : Cx p l s m args meth c cc nL RX3 ret E) {a : Nat} {A : Prop} (d : decode cc pc = .ok (.getfield 68, 3)) (h : zk M a = 6 ∧ A) (kk : A → J p l e R s m args below meth c Q E nL M kc ks (pc + 3) lo (.int (zI M a 0) :: st)) : J p l e R s m args below meth c Q E nL M kc ks pc lo (.ref a :: st) :=
  j_get (k := 0) C co_X6 (Or.inr ⟨_, nw_158⟩) rfl h.1 rfl d (kk h.2)
theorem pf_X3_68 (C : Cx p l s m args meth c cc nL RX3 ret E) {a : Nat} {x : Int32} {A : Mm → Prop} (d : decode cc pc = .ok (.putfield 68, 3)) (h : zk M a = 6 ∧ ∀ M', M' = sI M a 0 x → A M') (kk : ∀ M', A M' → J p l e R s m args below meth c Q E nL M' kc ks (pc + 3) lo st) : J p l e R s m args below meth c Q E nL M kc ks pc lo (.int x :: .ref a :: st) :=
  j_put (M' := sI M a 0 x) (k := 0) C co_X6 (Or.inr ⟨_, nw_158⟩) rfl h.1 rfl rfl rfl rfl rfl (fun b hb => sI_o hb) fv_sI_eq fv_sI d (kk _ (h.2 _ rfl))
theorem gf_X3_95 (C : Cx p l s m args meth c cc nL RX3 ret E) {a : Nat} {A : Nat → Prop} (d : decode cc pc = .ok (.getfield 95, 3)) (h : zk M a = 6 ∧ ∃ b, zR M a 3 = some b ∧ A b) (kk : ∀ b, A b → J p l e R s m args below meth c Q E nL M kc ks (pc + 3) lo (.ref b :: st)) : J p l e R s m args below meth c Q E nL M kc ks pc lo (.ref a :: st) := by
  obtain ⟨h1, b, h2, h3⟩ := h
  exact j_get (k := 3) (v := .ref b) C co_X6 (Or.inr ⟨_, nw_167⟩) rfl h1 (by rw [fv_2, h2]; rfl) d (kk b h3)
theorem gf_X3_99 (C : Cx p l s m args meth c cc nL RX3 ret E) {a : Nat} {A : Prop} (d : decode cc pc = .ok (.getfield 99, 3)) (h : zk M a = 2 ∧ A) (kk : A → J p l e R s m args below meth c Q E nL M kc ks (pc + 3) lo (.int (zI M a 1) :: st)) : J p l e R s m args below meth c Q E nL M kc ks pc lo (.ref a :: st) :=
  j_get (k := 1) C co_X2 (Or.inr ⟨_, nw_148⟩) rfl h.1 rfl d (kk h.2)
theorem gf_X3_108 (C : Cx p l s m args meth c cc nL RX3 ret E) {a : Nat} {A : Nat → Prop} (d : decode cc pc = .ok (.getfield 108, 3)) (h : zk M a = 6 ∧ ∃ b, zR M a 4 = some b ∧ A b) (kk : ∀ b, A b → J p l e R s m args below meth c Q E nL M kc ks (pc + 3) lo (.ref b :: st)) : J p l e R s m args below meth c Q E nL M kc ks pc lo (.ref a :: st) := by
  obtain ⟨h1, b, h2, h3⟩ := h
  exact j_get (k := 4) (v := .ref b) C co_X6 (Or.inr ⟨_, nw_170⟩) rfl h1 (by rw [fv_2, h2]; rfl) d (kk b h3)
theorem gf_X3_112 (C : Cx p l s m args meth c cc nL RX3 ret E) {a : Nat} {A : Nat → Prop} (d : decode cc pc = .ok (.getfield 112, 3)) (h : zk M a = 6 ∧ ∃ b, zR M a 5 = some b ∧ A b) (kk : ∀ b, A b → J p l e R s m args below meth c Q E nL M kc ks (pc + 3) lo (.ref b :: st)) : J p l e R s m args below meth c Q E nL M kc ks pc lo (.ref a :: st) := by
  obtain ⟨h1, b, h2, h3⟩ := h
  exact j_get (k := 5) (v := .ref b) C co_X6 (Or.inr ⟨_, nw_175⟩) rfl h1 (by rw [fv_2, h2]; rfl) d (kk b h3)
theorem gf_X3_115 (C : Cx p l s m args meth c cc nL RX3 ret E) {a : Nat} {A : Nat → Prop} (d : decode cc pc = .ok (.getfield 115, 3)) (h : zk M a = 6 ∧ ∃ b, zR M a 6 = some b ∧ A b) (kk : ∀ b, A b → J p l e R s m args below meth c Q E nL M kc ks (pc + 3) lo (.ref b :: st)) : J p l e R s m args below meth c Q E nL M kc ks pc lo (.ref a :: st) := by
  obtain ⟨h1, b, h2, h3⟩ := h
  exact j_get (k := 6) (v := .ref b) C co_X6 (Or.inr ⟨_, nw_179⟩) rfl h1 (by rw [fv_2, h2]; rfl) d (kk b h3)
theorem gf_X3_118 (C : Cx p l s m args meth c cc nL RX3 ret E) {a : Nat} {A : Nat → Prop} (d : decode cc pc = .ok (.getfield 118, 3)) (h : zk M a = 6 ∧ ∃ b, zR M a 7 = some b ∧ A b) (kk : ∀ b, A b → J p l e R s m args below meth c Q E nL M kc ks (pc + 3) lo (.ref b :: st)) : J p l e R s m args below meth c Q E nL M kc ks pc lo (.ref a :: st) := by
  obtain ⟨h1, b, h2, h3⟩ := h
  exact j_get (k := 7) (v := .ref b) C co_X6 (Or.inr ⟨_, nw_182⟩) rfl h1 (by rw [fv_2, h2]; rfl) d (kk b h3)
theorem gf_X3_124 (C : Cx p l s m args meth c cc nL RX3 ret E) {a : Nat} {A : Nat → Prop} (d : decode cc pc = .ok (.getfield 124, 3)) (h : zk M a = 6 ∧ ∃ b, zR M a 11 = some b ∧ A b) (kk : ∀ b, A b → J p l e R s m args below meth c Q E nL M kc ks (pc + 3) lo (.ref b :: st)) : J p l e R s m args below meth c Q E nL M kc ks pc lo (.ref a :: st) := by
  obtain ⟨h1, b, h2, h3⟩ := h
  exact j_get (k := 11) (v := .ref b) C co_X6 (Or.inr ⟨_, nw_194⟩) rfl h1 (by rw [fv_2, h2]; rfl) d (kk b h3)
theorem gf_X3_131 (C : Cx p l s m args meth c cc nL RX3 ret E) {a : Nat} {A : Nat → Prop} (d : decode cc pc = .ok (.getfield 131, 3)) (h : zk M a = 6 ∧ ∃ b, zR M a 9 = some b ∧ A b) (kk : ∀ b, A b → J p l e R s m args below meth c Q E nL M kc ks (pc + 3) lo (.ref b :: st)) : J p l e R s m args below meth c Q E nL M kc ks pc lo (.ref a :: st) := by
  obtain ⟨h1, b, h2, h3⟩ := h
  exact j_get (k := 9) (v := .ref b) C co_X6 (Or.inr ⟨_, nw_189⟩) rfl h1 (by rw [fv_2, h2]; rfl) d (kk b h3)
theorem gf_X3_143 (C : Cx p l s m args meth c cc nL RX3 ret E) {a : Nat} {A : Nat → Prop} (d : decode cc pc = .ok (.getfield 143, 3)) (h : zk M a = 6 ∧ ∃ b, zR M a 8 = some b ∧ A b) (kk : ∀ b, A b → J p l e R s m args below meth c Q E nL M kc ks (pc + 3) lo (.ref b :: st)) : J p l e R s m args below meth c Q E nL M kc ks pc lo (.ref a :: st) := by
  obtain ⟨h1, b, h2, h3⟩ := h
  exact j_get (k := 8) (v := .ref b) C co_X6 (Or.inr ⟨_, nw_185⟩) rfl h1 (by rw [fv_2, h2]; rfl) d (kk b h3)
theorem gf_X3_146 (C : Cx p l s m args meth c cc nL RX3 ret E) {a : Nat} {A : Nat → Prop} (d : decode cc pc = .ok (.getfield 146, 3)) (h : zk M a = 6 ∧ ∃ b, zR M a 10 = some b ∧ A b) (kk : ∀ b, A b → J p l e R s m args below meth c Q E nL M kc ks (pc + 3) lo (.ref b :: st)) : J p l e R s m args below meth c Q E nL M kc ks pc lo (.ref a :: st) := by
  obtain ⟨h1, b, h2, h3⟩ := h
  exact j_get (k := 10) (v := .ref b) C co_X6 (Or.inr ⟨_, nw_192⟩) rfl h1 (by rw [fv_2, h2]; rfl) d (kk b h3)
theorem gf_X3_149 (C : Cx p l s m args meth c cc nL RX3 ret E) {a : Nat} {A : Prop} (d : decode cc pc = .ok (.getfield 149, 3)) (h : zk M a = 5 ∧ A) (kk : A → J p l e R s m args below meth c Q E nL M kc ks (pc + 3) lo (.int (zI M a 6) :: st)) : J p l e R s m args below meth c Q E nL M kc ks pc lo (.ref a :: st) :=
  j_get (k := 6) C co_X5 (Or.inr ⟨_, nw_783⟩) rfl h.1 rfl d (kk h.2)
theorem gf_X3_152 (C : Cx p l s m args meth c cc nL RX3 ret E) {a : Nat} {A : Nat → Prop} (d : decode cc pc = .ok (.getfield 152, 3)) (h : zk M a = 6 ∧ ∃ b, zR M a 12 = some b ∧ A b) (kk : ∀ b, A b → J p l e R s m args below meth c Q E nL M kc ks (pc + 3) lo (.ref b :: st)) : J p l e R s m args below meth c Q E nL M kc ks pc lo (.ref a :: st) := by
  obtain ⟨h1, b, h2, h3⟩ := h
  exact j_get (k := 12) (v := .ref b) C co_X6 (Or.inr ⟨_, nw_199⟩) rfl h1 (by rw [fv_2, h2]; rfl) d (kk b h3)
theorem gf_X3_155 (C : Cx p l s m args meth c cc nL RX3 ret E) {a : Nat} {A : Nat → Prop} (d : decode cc pc = .ok (.getfield 155, 3)) (h : zk M a = 6 ∧ ∃ b, zR M a 13 = some b ∧ A b) (kk : ∀ b, A b → J p l e R s m args below meth c Q E nL M kc ks (pc + 3) lo (.ref b :: st)) : J p l e R s m args below meth c Q E nL M kc ks pc lo (.ref a :: st) := by
  obtain ⟨h1, b, h2, h3⟩ := h
  exact j_get (k := 13) (v := .ref b) C co_X6 (Or.inr ⟨_, nw_201⟩) rfl h1 (by rw [fv_2, h2]; rfl) d (kk b h3)
theorem gf_X3_158 (C : Cx p l s m args meth c cc nL RX3 ret E) {a : Nat} {A : Nat → Prop} (d : decode cc pc = .ok (.getfield 158, 3)) (h : zk M a = 6 ∧ ∃ b, zR M a 14 = some b ∧ A b) (kk : ∀ b, A b → J p l e R s m args below meth c Q E nL M kc ks (pc + 3) lo (.ref b :: st)) : J p l e R s m args below meth c Q E nL M kc ks pc lo (.ref a :: st) := by
  obtain ⟨h1, b, h2, h3⟩ := h
  exact j_get (k := 14) (v := .ref b) C co_X6 (Or.inr ⟨_, nw_204⟩) rfl h1 (by rw [fv_2, h2]; rfl) d (kk b h3)
theorem gf_X3_161 (C : Cx p l s m args meth c cc nL RX3 ret E) {a : Nat} {A : Nat → Prop} (d : decode cc pc = .ok (.getfield 161, 3)) (h : zk M a = 6 ∧ ∃ b, zR M a 15 = some b ∧ A b) (kk : ∀ b, A b → J p l e R s m args below meth c Q E nL M kc ks (pc + 3) lo (.ref b :: st)) : J p l e R s m args below meth c Q E nL M kc ks pc lo (.ref a :: st) := by
  obtain ⟨h1, b, h2, h3⟩ := h
  exact j_get (k := 15) (v := .ref b) C co_X6 (Or.inr ⟨_, nw_207⟩) rfl h1 (by rw [fv_2, h2]; rfl) d (kk b h3)
theorem gf_X3_164 (C : Cx p l s m args meth c cc nL RX3 ret E) {a : Nat} {A : Nat → Prop} (d : decode cc pc = .ok (.getfield 164, 3)) (h : zk M a = 6 ∧ ∃ b, zR M a 16 = some b ∧ A b) (kk : ∀ b, A b → J p l e R s m args below meth c Q E nL M kc ks (pc + 3) lo (.ref b :: st)) : J p l e R s m args below meth c Q E nL M kc ks pc lo (.ref a :: st) := by
  obtain ⟨h1, b, h2, h3⟩ := h
  exact j_get (k := 16) (v := .ref b) C co_X6 (Or.inr ⟨_, nw_211⟩) rfl h1 (by rw [fv_2, h2]; rfl) d (kk b h3)
theorem gf_X3_170 (C : Cx p l s m args meth c cc nL RX3 ret E) {a : Nat} {A : Nat → Prop} (d : decode cc pc = .ok (.getfield 170, 3)) (h : zk M a = 6 ∧ ∃ b, zR M a 17 = some b ∧ A b) (kk : ∀ b, A b → J p l e R s m args below meth c Q E nL M kc ks (pc + 3) lo (.ref b :: st)) : J p l e R s m args below meth c Q E nL M kc ks pc lo (.ref a :: st) := by
  obtain ⟨h1, b, h2, h3⟩ := h
  exact j_get (k := 17) (v := .ref b) C co_X6 (Or.inr ⟨_, nw_216⟩) rfl h1 (by rw [fv_2, h2]; rfl) d (kk b h3)
theorem gf_X3_177 (C : Cx p l s m args meth c cc nL RX3 ret E) {a : Nat} {A : Prop} (d : decode cc pc = .ok (.getfield 177, 3)) (h : zk M a = 6 ∧ A) (kk : A → J p l e R s m args below meth c Q E nL M kc ks (pc + 3) lo (.int (zI M a 2) :: st)) : J p l e R s m args below meth c Q E nL M kc ks pc lo (.ref a :: st) :=
  j_get (k := 2) C co_X6 (Or.inr ⟨_, nw_165⟩) rfl h.1 rfl d (kk h.2)
theorem pf_X3_177 (C : Cx p l s m args meth c cc nL RX3 ret E) {a : Nat} {x : Int32} {A : Mm → Prop} (d : decode cc pc = .ok (.putfield 177, 3)) (h : zk M a = 6 ∧ (x = 0 ∨ x = 1) ∧ ∀ M', M' = sI M a 2 x → A M') (kk : ∀ M', A M' → J p l e R s m args below meth c Q E nL M' kc ks (pc + 3) lo st) : J p l e R s m args below meth c Q E nL M kc ks pc lo (.int x :: .ref a :: st) :=
  j_put (M' := sI M a 2 x) (k := 2) C co_X6 (Or.inr ⟨_, nw_165⟩) rfl h.1 rfl (by rcases h.2.1 with q | q <;> subst q <;> rfl) (by rcases h.2.1 with q | q <;> subst q <;> rfl) rfl rfl (fun b hb => sI_o hb) fv_sI_eq fv_sI d (kk _ (h.2.2 _ rfl))
theorem pf_X3_181 (C : Cx p l s m args meth c cc nL RX3 ret E) {a : Nat} {x : Int32} {A : Mm → Prop} (d : decode cc pc = .ok (.putfield 181, 3)) (h : zk M a = 6 ∧ ∀ M', M' = sI M a 1 x → A M') (kk : ∀ M', A M' → J p l e R s m args below meth c Q E nL M' kc ks (pc + 3) lo st) : J p l e R s m args below meth c Q E nL M kc ks pc lo (.int x :: .ref a :: st) :=
  j_put (M' := sI M a 1 x) (k := 1) C co_X6 (Or.inr ⟨_, nw_163⟩) rfl h.1 rfl rfl rfl rfl rfl (fun b hb => sI_o hb) fv_sI_eq fv_sI d (kk _ (h.2 _ rfl))
theorem pf_X3_184 (C : Cx p l s m args meth c cc nL RX3 ret E) {a : Nat} {x : Int32} {A : Mm → Prop} (d : decode cc pc = .ok (.putfield 184, 3)) (h : zk M a = 3 ∧ ∀ M', M' = sI M a 2 x → A M') (kk : ∀ M', A M' → J p l e R s m args below meth c Q E nL M' kc ks (pc + 3) lo st) : J p l e R s m args below meth c Q E nL M kc ks pc lo (.int x :: .ref a :: st) :=
  j_put (M' := sI M a 2 x) (k := 2) C co_X3 (Or.inl wd_806) rfl h.1 rfl rfl rfl rfl rfl (fun b hb => sI_o hb) fv_sI_eq fv_sI d (kk _ (h.2 _ rfl))
theorem gf_X3_187 (C : Cx p l s m args meth c cc nL RX3 ret E) {a : Nat} {A : Prop} (d : decode cc pc = .ok (.getfield 187, 3)) (h : zk M a = 5 ∧ A) (kk : A → J p l e R s m args below meth c Q E nL M kc ks (pc + 3) lo (.int (zI M a 4) :: st)) : J p l e R s m args below meth c Q E nL M kc ks pc lo (.ref a :: st) :=
  j_get (k := 4) C co_X5 (Or.inr ⟨_, nw_779⟩) rfl h.1 rfl d (kk h.2)
theorem gf_X4_9 (C : Cx p l s m args meth c cc nL RX4 ret E) {a : Nat} {A : Nat → Prop} (d : decode cc pc = .ok (.getfield 9, 3)) (h : zk M a = 4 ∧ ∃ b, zR M a 1 = some b ∧ A b) (kk : ∀ b, A b → J p l e R s m args below meth c Q E nL M kc ks (pc + 3) lo (.ref b :: st)) : J p l e R s m args below meth c Q E nL M kc ks pc lo (.ref a :: st) := by
  obtain ⟨h1, b, h2, h3⟩ := h
  exact j_get (k := 1) (v := .ref b) C co_X4 (Or.inl wd_102) rfl h1 (by rw [fv_2, h2]; rfl) d (kk b h3)
theorem pf_X4_9 (C : Cx p l s m args meth c cc nL RX4 ret E) (hnm : meth.name = "<init>") {a : Nat} {x : Nat} {A : Mm → Prop} (d : decode cc pc = .ok (.putfield 9, 3)) (h : zk M a = 4 ∧ ∀ M', M' = sR M a 1 (some x) → A M') (kk : ∀ M', A M' → J p l e R s m args below meth c Q E nL M' kc ks (pc + 3) lo st) : J p l e R s m args below meth c Q E nL M kc ks pc lo (.ref x :: .ref a :: st) :=
  j_putF (M' := sR M a 1 (some x)) (k := 1) C hnm rfl co_X4 wd_102 rfl h.1 rfl rfl rfl rfl rfl (fun b hb => sR_o hb) fv_sR_eq fv_sR d (kk _ (h.2 _ rfl))
theorem gf_X4_15 (C : Cx p l s m args meth c cc nL RX4 ret E) {a : Nat} {A : Nat → Prop} (d : decode cc pc = .ok (.getfield 15, 3)) (h : zk M a = 4 ∧ ∃ b, zR M a 2 = some b ∧ A b) (kk : ∀ b, A b → J p l e R s m args below meth c Q E nL M kc ks (pc + 3) lo (.ref b :: st)) : J p l e R s m args below meth c Q E nL M kc ks pc lo (.ref a :: st) := by
  obtain ⟨h1, b, h2, h3⟩ := h
  exact j_get (k := 2) (v := .ref b) C co_X4 (Or.inl wd_105) rfl h1 (by rw [fv_2, h2]; rfl) d (kk b h3)
theorem pf_X4_15 (C : Cx p l s m args meth c cc nL RX4 ret E) (hnm : meth.name = "<init>") {a : Nat} {x : Nat} {A : Mm → Prop} (d : decode cc pc = .ok (.putfield 15, 3)) (h : zk M a = 4 ∧ ∀ M', M' = sR M a 2 (some x) → A M') (kk : ∀ M', A M' → J p l e R s m args below meth c Q E nL M' kc ks (pc + 3) lo st) : J p l e R s m args below meth c Q E nL M kc ks pc lo (.ref x :: .ref a :: st) :=
  j_putF (M' := sR M a 2 (some x)) (k := 2) C hnm rfl co_X4 wd_105 rfl h.1 rfl rfl rfl rfl rfl (fun b hb => sR_o hb) fv_sR_eq fv_sR d (kk _ (h.2 _ rfl))
theorem gf_X4_18 (C : Cx p l s m args meth c cc nL RX4 ret E) {a : Nat} {A : Nat → Prop} (d : decode cc pc = .ok (.getfield 18, 3)) (h : zk M a = 4 ∧ ∃ b, zR M a 3 = some b ∧ A b) (kk : ∀ b, A b → J p l e R s m args below meth c Q E nL M kc ks (pc + 3) lo (.ref b :: st)) : J p l e R s m args below meth c Q E nL M kc ks pc lo (.ref a :: st) := by
  obtain ⟨h1, b, h2, h3⟩ := h
  exact j_get (k := 3) (v := .ref b) C co_X4 (Or.inl wd_107) rfl h1 (by rw [fv_2, h2]; rfl) d (kk b h3)
theorem pf_X4_18 (C : Cx p l s m args meth c cc nL RX4 ret E) (hnm : meth.name = "<init>") {a : Nat} {x : Nat} {A : Mm → Prop} (d : decode cc pc = .ok (.putfield 18, 3)) (h : zk M a = 4 ∧ ∀ M', M' = sR M a 3 (some x) → A M') (kk : ∀ M', A M' → J p l e R s m args below meth c Q E nL M' kc ks (pc + 3) lo st) : J p l e R s m args below meth c Q E nL M kc ks pc lo (.ref x :: .ref a :: st) :=
  j_putF (M' := sR M a 3 (some x)) (k := 3) C hnm rfl co_X4 wd_107 rfl h.1 rfl rfl rfl rfl rfl (fun b hb => sR_o hb) fv_sR_eq fv_sR d (kk _ (h.2 _ rfl))
theorem gf_X4_21 (C : Cx p l s m args meth c cc nL RX4 ret E) {a : Nat} {A : Nat → Prop} (d : decode cc pc = .ok (.getfield 21, 3)) (h : zk M a = 4 ∧ ∃ b, zR M a 4 = some b ∧ A b) (kk : ∀ b, A b → J p l e R s m args below meth c Q E nL M kc ks (pc + 3) lo (.ref b :: st)) : J p l e R s m args below meth c Q E nL M kc ks pc lo (.ref a :: st) := by
  obtain ⟨h1, b, h2, h3⟩ := h
  exact j_get (k := 4) (v := .ref b) C co_X4 (Or.inl wd_109) rfl h1 (by rw [fv_2, h2]; rfl) d (kk b h3)
theorem pf_X4_21 (C : Cx p l s m args meth c cc nL RX4 ret E) (hnm : meth.name = "<init>") {a : Nat} {x : Nat} {A : Mm → Prop} (d : decode cc pc = .ok (.putfield 21, 3)) (h : zk M a = 4 ∧ ∀ M', M' = sR M a 4 (some x) → A M') (kk : ∀ M', A M' → J p l e R s m args below meth c Q E nL M' kc ks (pc + 3) lo st) : J p l e R s m args below meth c Q E nL M kc ks pc lo (.ref x :: .ref a :: st) :=
  j_putF (M' := sR M a 4 (some x)) (k := 4) C hnm rfl co_X4 wd_109 rfl h.1 rfl rfl rfl rfl rfl (fun b hb => sR_o hb) fv_sR_eq fv_sR d (kk _ (h.2 _ rfl))
theorem gf_X4_24 (C : Cx p l s m args meth c cc nL RX4 ret E) {a : Nat} {A : Nat → Prop} (d : decode cc pc = .ok (.getfield 24, 3)) (h : zk M a = 4 ∧ ∃ b, zR M a 5 = some b ∧ A b) (kk : ∀ b, A b → J p l e R s m args below meth c Q E nL M kc ks (pc + 3) lo (.ref b :: st)) : J p l e R s m args below meth c Q E nL M kc ks pc lo (.ref a :: st) := by
  obtain ⟨h1, b, h2, h3⟩ := h
  exact j_get (k := 5) (v := .ref b) C co_X4 (Or.inl wd_112) rfl h1 (by rw [fv_2, h2]; rfl) d (kk b h3)
theorem pf_X4_24 (C : Cx p l s m args meth c cc nL RX4 ret E) (hnm : meth.name = "<init>") {a : Nat} {x : Nat} {A : Mm → Prop} (d : decode cc pc = .ok (.putfield 24, 3)) (h : zk M a = 4 ∧ ∀ M', M' = sR M a 5 (some x) → A M') (kk : ∀ M', A M' → J p l e R s m args below meth c Q E nL M' kc ks (pc + 3) lo st) : J p l e R s m args below meth c Q E nL M kc ks pc lo (.ref x :: .ref a :: st) :=
  j_putF (M' := sR M a 5 (some x)) (k := 5) C hnm rfl co_X4 wd_112 rfl h.1 rfl rfl rfl rfl rfl (fun b hb => sR_o hb) fv_sR_eq fv_sR d (kk _ (h.2 _ rfl))
theorem gf_X4_27 (C : Cx p l s m args meth c cc nL RX4 ret E) {a : Nat} {A : Nat → Prop} (d : decode cc pc = .ok (.getfield 27, 3)) (h : zk M a = 4 ∧ ∃ b, zR M a 6 = some b ∧ A b) (kk : ∀ b, A b → J p l e R s m args below meth c Q E nL M kc ks (pc + 3) lo (.ref b :: st)) : J p l e R s m args below meth c Q E nL M kc ks pc lo (.ref a :: st) := by
  obtain ⟨h1, b, h2, h3⟩ := h
  exact j_get (k := 6) (v := .ref b) C co_X4 (Or.inl wd_113) rfl h1 (by rw [fv_2, h2]; rfl) d (kk b h3)
theorem pf_X4_27 (C : Cx p l s m args meth c cc nL RX4 ret E) (hnm : meth.name = "<init>") {a : Nat} {x : Nat} {A : Mm → Prop} (d : decode cc pc = .ok (.putfield 27, 3)) (h : zk M a = 4 ∧ ∀ M', M' = sR M a 6 (some x) → A M') (kk : ∀ M', A M' → J p l e R s m args below meth c Q E nL M' kc ks (pc + 3) lo st) : J p l e R s m args below meth c Q E nL M kc ks pc lo (.ref x :: .ref a :: st) :=
  j_putF (M' := sR M a 6 (some x)) (k := 6) C hnm rfl co_X4 wd_113 rfl h.1 rfl rfl rfl rfl rfl (fun b hb => sR_o hb) fv_sR_eq fv_sR d (kk _ (h.2 _ rfl))
theorem gf_X4_30 (C : Cx p l s m args meth c cc nL RX4 ret E) {a : Nat} {A : Prop} (d : decode cc pc = .ok (.getfield 30, 3)) (h : zk M a = 4 ∧ A) (kk : A → J p l e R s m args below meth c Q E nL M kc ks (pc + 3) lo (.int (zI M a 0) :: st)) : J p l e R s m args below meth c Q E nL M kc ks pc lo (.ref a :: st) :=
  j_get (k := 0) C co_X4 (Or.inl wd_99) rfl h.1 rfl d (kk h.2)
theorem pf_X4_30 (C : Cx p l s m args meth c cc nL RX4 ret E) {a : Nat} {x : Int32} {A : Mm → Prop} (d : decode cc pc = .ok (.putfield 30, 3)) (h : zk M a = 4 ∧ ∀ M', M' = sI M a 0 x → A M') (kk : ∀ M', A M' → J p l e R s m args below meth c Q E nL M' kc ks (pc + 3) lo st) : J p l e R s m args below meth c Q E nL M kc ks pc lo (.int x :: .ref a :: st) :=
  j_put (M' := sI M a 0 x) (k := 0) C co_X4 (Or.inl wd_99) rfl h.1 rfl rfl rfl rfl rfl (fun b hb => sI_o hb) fv_sI_eq fv_sI d (kk _ (h.2 _ rfl))
theorem gf_X5_9 (C : Cx p l s m args meth c cc nL RX5 ret E) {a : Nat} {A : Nat → Prop} (d : decode cc pc = .ok (.getfield 9, 3)) (h : zk M a = 5 ∧ ∃ b, zR M a 0 = some b ∧ A b) (kk : ∀ b, A b → J p l e R s m args below meth c Q E nL M kc ks (pc + 3) lo (.ref b :: st)) : J p l e R s m args below meth c Q E nL M kc ks pc lo (.ref a :: st) := by
  obtain ⟨h1, b, h2, h3⟩ := h
  exact j_get (k := 0) (v := .ref b) C co_X5 (Or.inl wd_773) rfl h1 (by rw [fv_2, h2]; rfl) d (kk b h3)
theorem pf_X5_9 (C : Cx p l s m args meth c cc nL RX5 ret E) (hnm : meth.name = "<init>") {a : Nat} {x : Nat} {A : Mm → Prop} (d : decode cc pc = .ok (.putfield 9, 3)) (h : zk M a = 5 ∧ ∀ M', M' = sR M a 0 (some x) → A M') (kk : ∀ M', A M' → J p l e R s m args below meth c Q E nL M' kc ks (pc + 3) lo st) : J p l e R s m args below meth c Q E nL M kc ks pc lo (.ref x :: .ref a :: st) :=
  j_putF (M' := sR M a 0 (some x)) (k := 0) C hnm rfl co_X5 wd_773 rfl h.1 rfl rfl rfl rfl rfl (fun b hb => sR_o hb) fv_sR_eq fv_sR d (kk _ (h.2 _ rfl))
theorem gf_X5_15 (C : Cx p l s m args meth c cc nL RX5 ret E) {a : Nat} {A : Prop} (d : decode cc pc = .ok (.getfield 15, 3)) (h : zk M a = 5 ∧ A) (kk : A → J p l e R s m args below meth c Q E nL M kc ks (pc + 3) lo (.int (zI M a 1) :: st)) : J p l e R s m args below meth c Q E nL M kc ks pc lo (.ref a :: st) :=
  j_get (k := 1) C co_X5 (Or.inl wd_774) rfl h.1 rfl d (kk h.2)
theorem pf_X5_15 (C : Cx p l s m args meth c cc nL RX5 ret E) (hnm : meth.name = "<init>") {a : Nat} {x : Int32} {A : Mm → Prop} (d : decode cc pc = .ok (.putfield 15, 3)) (h : zk M a = 5 ∧ ∀ M', M' = sI M a 1 x → A M') (kk : ∀ M', A M' → J p l e R s m args below meth c Q E nL M' kc ks (pc + 3) lo st) : J p l e R s m args below meth c Q E nL M kc ks pc lo (.int x :: .ref a :: st) :=
  j_putF (M' := sI M a 1 x) (k := 1) C hnm rfl co_X5 wd_774 rfl h.1 rfl rfl rfl rfl rfl (fun b hb => sI_o hb) fv_sI_eq fv_sI d (kk _ (h.2 _ rfl))
theorem gf_X5_19 (C : Cx p l s m args meth c cc nL RX5 ret E) {a : Nat} {A : Prop} (d : decode cc pc = .ok (.getfield 19, 3)) (h : zk M a = 5 ∧ A) (kk : A → J p l e R s m args below meth c Q E nL M kc ks (pc + 3) lo (.int (zI M a 2) :: st)) : J p l e R s m args below meth c Q E nL M kc ks pc lo (.ref a :: st) :=
  j_get (k := 2) C co_X5 (Or.inl wd_775) rfl h.1 rfl d (kk h.2)
theorem pf_X5_19 (C : Cx p l s m args meth c cc nL RX5 ret E) {a : Nat} {x : Int32} {A : Mm → Prop} (d : decode cc pc = .ok (.putfield 19, 3)) (h : zk M a = 5 ∧ ∀ M', M' = sI M a 2 x → A M') (kk : ∀ M', A M' → J p l e R s m args below meth c Q E nL M' kc ks (pc + 3) lo st) : J p l e R s m args below meth c Q E nL M kc ks pc lo (.int x :: .ref a :: st) :=
  j_put (M' := sI M a 2 x) (k := 2) C co_X5 (Or.inl wd_775) rfl h.1 rfl rfl rfl rfl rfl (fun b hb => sI_o hb) fv_sI_eq fv_sI d (kk _ (h.2 _ rfl))
theorem gf_X5_22 (C : Cx p l s m args meth c cc nL RX5 ret E) {a : Nat} {A : Prop} (d : decode cc pc = .ok (.getfield 22, 3)) (h : zk M a = 5 ∧ A) (kk : A → J p l e R s m args below meth c Q E nL M kc ks (pc + 3) lo (.int (zI M a 4) :: st)) : J p l e R s m args below meth c Q E nL M kc ks pc lo (.ref a :: st) :=
  j_get (k := 4) C co_X5 (Or.inl wd_778) rfl h.1 rfl d (kk h.2)
theorem pf_X5_22 (C : Cx p l s m args meth c cc nL RX5 ret E) {a : Nat} {x : Int32} {A : Mm → Prop} (d : decode cc pc = .ok (.putfield 22, 3)) (h : zk M a = 5 ∧ ∀ M', M' = sI M a 4 x → A M') (kk : ∀ M', A M' → J p l e R s m args below meth c Q E nL M' kc ks (pc + 3) lo st) : J p l e R s m args below meth c Q E nL M kc ks pc lo (.int x :: .ref a :: st) :=
  j_put (M' := sI M a 4 x) (k := 4) C co_X5 (Or.inl wd_778) rfl h.1 rfl rfl rfl rfl rfl (fun b hb => sI_o hb) fv_sI_eq fv_sI d (kk _ (h.2 _ rfl))
theorem gf_X5_25 (C : Cx p l s m args meth c cc nL RX5 ret E) {a : Nat} {A : Prop} (d : decode cc pc = .ok (.getfield 25, 3)) (h : zk M a = 5 ∧ A) (kk : A → J p l e R s m args below meth c Q E nL M kc ks (pc + 3) lo (.long (zJ M a 5) :: st)) : J p l e R s m args below meth c Q E nL M kc ks pc lo (.ref a :: st) :=
  j_get (k := 5) C co_X5 (Or.inl wd_780) rfl h.1 rfl d (kk h.2)
theorem pf_X5_25 (C : Cx p l s m args meth c cc nL RX5 ret E) {a : Nat} {x : Int64} {A : Mm → Prop} (d : decode cc pc = .ok (.putfield 25, 3)) (h : zk M a = 5 ∧ ∀ M', M' = sJ M a 5 x → A M') (kk : ∀ M', A M' → J p l e R s m args below meth c Q E nL M' kc ks (pc + 3) lo st) : J p l e R s m args below meth c Q E nL M kc ks pc lo (.long x :: .ref a :: st) :=
  j_put (M' := sJ M a 5 x) (k := 5) C co_X5 (Or.inl wd_780) rfl h.1 rfl rfl rfl rfl rfl (fun b hb => sJ_o hb) fv_sJ_eq fv_sJ d (kk _ (h.2 _ rfl))
theorem gf_X5_29 (C : Cx p l s m args meth c cc nL RX5 ret E) {a : Nat} {A : Prop} (d : decode cc pc = .ok (.getfield 29, 3)) (h : zk M a = 5 ∧ A) (kk : A → J p l e R s m args below meth c Q E nL M kc ks (pc + 3) lo (.int (zI M a 6) :: st)) : J p l e R s m args below meth c Q E nL M kc ks pc lo (.ref a :: st) :=
  j_get (k := 6) C co_X5 (Or.inl wd_782) rfl h.1 rfl d (kk h.2)
theorem pf_X5_29 (C : Cx p l s m args meth c cc nL RX5 ret E) {a : Nat} {x : Int32} {A : Mm → Prop} (d : decode cc pc = .ok (.putfield 29, 3)) (h : zk M a = 5 ∧ ∀ M', M' = sI M a 6 x → A M') (kk : ∀ M', A M' → J p l e R s m args below meth c Q E nL M' kc ks (pc + 3) lo st) : J p l e R s m args below meth c Q E nL M kc ks pc lo (.int x :: .ref a :: st) :=
  j_put (M' := sI M a 6 x) (k := 6) C co_X5 (Or.inl wd_782) rfl h.1 rfl rfl rfl rfl rfl (fun b hb => sI_o hb) fv_sI_eq fv_sI d (kk _ (h.2 _ rfl))
theorem pf_X5_32 (C : Cx p l s m args meth c cc nL RX5 ret E) {a : Nat} {x : Int32} {A : Mm → Prop} (d : decode cc pc = .ok (.putfield 32, 3)) (h : zk M a = 5 ∧ ∀ M', M' = sI M a 3 x → A M') (kk : ∀ M', A M' → J p l e R s m args below meth c Q E nL M' kc ks (pc + 3) lo st) : J p l e R s m args below meth c Q E nL M kc ks pc lo (.int x :: .ref a :: st) :=
  j_put (M' := sI M a 3 x) (k := 3) C co_X5 (Or.inl wd_777) rfl h.1 rfl rfl rfl rfl rfl (fun b hb => sI_o hb) fv_sI_eq fv_sI d (kk _ (h.2 _ rfl))
theorem gf_X6_9 (C : Cx p l s m args meth c cc nL RX6 ret E) {a : Nat} {A : Prop} (d : decode cc pc = .ok (.getfield 9, 3)) (h : zk M a = 6 ∧ A) (kk : A → J p l e R s m args below meth c Q E nL M kc ks (pc + 3) lo (.int (zI M a 0) :: st)) : J p l e R s m args below meth c Q E nL M kc ks pc lo (.ref a :: st) :=
  j_get (k := 0) C co_X6 (Or.inl wd_157) rfl h.1 rfl d (kk h.2)
theorem pf_X6_9 (C : Cx p l s m args meth c cc nL RX6 ret E) {a : Nat} {x : Int32} {A : Mm → Prop} (d : decode cc pc = .ok (.putfield 9, 3)) (h : zk M a = 6 ∧ ∀ M', M' = sI M a 0 x → A M') (kk : ∀ M', A M' → J p l e R s m args below meth c Q E nL M' kc ks (pc + 3) lo st) : J p l e R s m args below meth c Q E nL M kc ks pc lo (.int x :: .ref a :: st) :=
  j_put (M' := sI M a 0 x) (k := 0) C co_X6 (Or.inl wd_157) rfl h.1 rfl rfl rfl rfl rfl (fun b hb => sI_o hb) fv_sI_eq fv_sI d (kk _ (h.2 _ rfl))
theorem gf_X6_20 (C : Cx p l s m args meth c cc nL RX6 ret E) {a : Nat} {A : Nat → Prop} (d : decode cc pc = .ok (.getfield 20, 3)) (h : zk M a = 6 ∧ ∃ b, zR M a 3 = some b ∧ A b) (kk : ∀ b, A b → J p l e R s m args below meth c Q E nL M kc ks (pc + 3) lo (.ref b :: st)) : J p l e R s m args below meth c Q E nL M kc ks pc lo (.ref a :: st) := by
  obtain ⟨h1, b, h2, h3⟩ := h
  exact j_get (k := 3) (v := .ref b) C co_X6 (Or.inl wd_166) rfl h1 (by rw [fv_2, h2]; rfl) d (kk b h3)
theorem pf_X6_20 (C : Cx p l s m args meth c cc nL RX6 ret E) (hnm : meth.name = "<init>") {a : Nat} {x : Nat} {A : Mm → Prop} (d : decode cc pc = .ok (.putfield 20, 3)) (h : zk M a = 6 ∧ ∀ M', M' = sR M a 3 (some x) → A M') (kk : ∀ M', A M' → J p l e R s m args below meth c Q E nL M' kc ks (pc + 3) lo st) : J p l e R s m args below meth c Q E nL M kc ks pc lo (.ref x :: .ref a :: st) :=
  j_putF (M' := sR M a 3 (some x)) (k := 3) C hnm rfl co_X6 wd_166 rfl h.1 rfl rfl rfl rfl rfl (fun b hb => sR_o hb) fv_sR_eq fv_sR d (kk _ (h.2 _ rfl))
theorem pf_X6_24 (C : Cx p l s m args meth c cc nL RX6 ret E) (hnm : meth.name = "<init>") {a : Nat} {x : Nat} {A : Mm → Prop} (d : decode cc pc = .ok (.putfield 24, 3)) (h : zk M a = 6 ∧ ∀ M', M' = sR M a 4 (some x) → A M') (kk : ∀ M', A M' → J p l e R s m args below meth c Q E nL M' kc ks (pc + 3) lo st) : J p l e R s m args below meth c Q E nL M kc ks pc lo (.ref x :: .ref a :: st) :=
  j_putF (M' := sR M a 4 (some x)) (k := 4) C hnm rfl co_X6 wd_169 rfl h.1 rfl rfl rfl rfl rfl (fun b hb => sR_o hb) fv_sR_eq fv_sR d (kk _ (h.2 _ rfl))
theorem gf_X6_28 (C : Cx p l s m args meth c cc nL RX6 ret E) {a : Nat} {A : Nat → Prop} (d : decode cc pc = .ok (.getfield 28, 3)) (h : zk M a = 6 ∧ ∃ b, zR M a 5 = some b ∧ A b) (kk : ∀ b, A b → J p l e R s m args below meth c Q E nL M kc ks (pc + 3) lo (.ref b :: st)) : J p l e R s m args below meth c Q E nL M kc ks pc lo (.ref a :: st) := by
  obtain ⟨h1, b, h2, h3⟩ := h
  exact j_get (k := 5) (v := .ref b) C co_X6 (Or.inl wd_172) rfl h1 (by rw [fv_2, h2]; rfl) d (kk b h3)
theorem pf_X6_28 (C : Cx p l s m args meth c cc nL RX6 ret E) (hnm : meth.name = "<init>") {a : Nat} {x : Nat} {A : Mm → Prop} (d : decode cc pc = .ok (.putfield 28, 3)) (h : zk M a = 6 ∧ ∀ M', M' = sR M a 5 (some x) → A M') (kk : ∀ M', A M' → J p l e R s m args below meth c Q E nL M' kc ks (pc + 3) lo st) : J p l e R s m args below meth c Q E nL M kc ks pc lo (.ref x :: .ref a :: st) :=
  j_putF (M' := sR M a 5 (some x)) (k := 5) C hnm rfl co_X6 wd_172 rfl h.1 rfl rfl rfl rfl rfl (fun b hb => sR_o hb) fv_sR_eq fv_sR d (kk _ (h.2 _ rfl))
theorem pf_X6_31 (C : Cx p l s m args meth c cc nL RX6 ret E) (hnm : meth.name = "<init>") {a : Nat} {x : Nat} {A : Mm → Prop} (d : decode cc pc = .ok (.putfield 31, 3)) (h : zk M a = 6 ∧ ∀ M', M' = sR M a 6 (some x) → A M') (kk : ∀ M', A M' → J p l e R s m args below meth c Q E nL M' kc ks (pc + 3) lo st) : J p l e R s m args below meth c Q E nL M kc ks pc lo (.ref x :: .ref a :: st) :=
  j_putF (M' := sR M a 6 (some x)) (k := 6) C hnm rfl co_X6 wd_177 rfl h.1 rfl rfl rfl rfl rfl (fun b hb => sR_o hb) fv_sR_eq fv_sR d (kk _ (h.2 _ rfl))
theorem pf_X6_34 (C : Cx p l s m args meth c cc nL RX6 ret E) (hnm : meth.name = "<init>") {a : Nat} {x : Nat} {A : Mm → Prop} (d : decode cc pc = .ok (.putfield 34, 3)) (h : zk M a = 6 ∧ ∀ M', M' = sR M a 7 (some x) → A M') (kk : ∀ M', A M' → J p l e R s m args below meth c Q E nL M' kc ks (pc + 3) lo st) : J p l e R s m args below meth c Q E nL M kc ks pc lo (.ref x :: .ref a :: st) :=
  j_putF (M' := sR M a 7 (some x)) (k := 7) C hnm rfl co_X6 wd_180 rfl h.1 rfl rfl rfl rfl rfl (fun b hb => sR_o hb) fv_sR_eq fv_sR d (kk _ (h.2 _ rfl))
theorem gf_X6_37 (C : Cx p l s m args meth c cc nL RX6 ret E) {a : Nat} {A : Nat → Prop} (d : decode cc pc = .ok (.getfield 37, 3)) (h : zk M a = 6 ∧ ∃ b, zR M a 8 = some b ∧ A b) (kk : ∀ b, A b → J p l e R s m args below meth c Q E nL M kc ks (pc + 3) lo (.ref b :: st)) : J p l e R s m args below meth c Q E nL M kc ks pc lo (.ref a :: st) := by
  obtain ⟨h1, b, h2, h3⟩ := h
  exact j_get (k := 8) (v := .ref b) C co_X6 (Or.inl wd_184) rfl h1 (by rw [fv_2, h2]; rfl) d (kk b h3)
theorem pf_X6_37 (C : Cx p l s m args meth c cc nL RX6 ret E) (hnm : meth.name = "<init>") {a : Nat} {x : Nat} {A : Mm → Prop} (d : decode cc pc = .ok (.putfield 37, 3)) (h : zk M a = 6 ∧ ∀ M', M' = sR M a 8 (some x) → A M') (kk : ∀ M', A M' → J p l e R s m args below meth c Q E nL M' kc ks (pc + 3) lo st) : J p l e R s m args below meth c Q E nL M kc ks pc lo (.ref x :: .ref a :: st) :=
  j_putF (M' := sR M a 8 (some x)) (k := 8) C hnm rfl co_X6 wd_184 rfl h.1 rfl rfl rfl rfl rfl (fun b hb => sR_o hb) fv_sR_eq fv_sR d (kk _ (h.2 _ rfl))
theorem gf_X6_40 (C : Cx p l s m args meth c cc nL RX6 ret E) {a : Nat} {A : Nat → Prop} (d : decode cc pc = .ok (.getfield 40, 3)) (h : zk M a = 6 ∧ ∃ b, zR M a 9 = some b ∧ A b) (kk : ∀ b, A b → J p l e R s m args below meth c Q E nL M kc ks (pc + 3) lo (.ref b :: st)) : J p l e R s m args below meth c Q E nL M kc ks pc lo (.ref a :: st) := by
  obtain ⟨h1, b, h2, h3⟩ := h
  exact j_get (k := 9) (v := .ref b) C co_X6 (Or.inl wd_187) rfl h1 (by rw [fv_2, h2]; rfl) d (kk b h3)
theorem pf_X6_40 (C : Cx p l s m args meth c cc nL RX6 ret E) (hnm : meth.name = "<init>") {a : Nat} {x : Nat} {A : Mm → Prop} (d : decode cc pc = .ok (.putfield 40, 3)) (h : zk M a = 6 ∧ ∀ M', M' = sR M a 9 (some x) → A M') (kk : ∀ M', A M' → J p l e R s m args below meth c Q E nL M' kc ks (pc + 3) lo st) : J p l e R s m args below meth c Q E nL M kc ks pc lo (.ref x :: .ref a :: st) :=
  j_putF (M' := sR M a 9 (some x)) (k := 9) C hnm rfl co_X6 wd_187 rfl h.1 rfl rfl rfl rfl rfl (fun b hb => sR_o hb) fv_sR_eq fv_sR d (kk _ (h.2 _ rfl))
theorem gf_X6_43 (C : Cx p l s m args meth c cc nL RX6 ret E) {a : Nat} {A : Nat → Prop} (d : decode cc pc = .ok (.getfield 43, 3)) (h : zk M a = 6 ∧ ∃ b, zR M a 10 = some b ∧ A b) (kk : ∀ b, A b → J p l e R s m args below meth c Q E nL M kc ks (pc + 3) lo (.ref b :: st)) : J p l e R s m args below meth c Q E nL M kc ks pc lo (.ref a :: st) := by
  obtain ⟨h1, b, h2, h3⟩ := h
  exact j_get (k := 10) (v := .ref b) C co_X6 (Or.inl wd_191) rfl h1 (by rw [fv_2, h2]; rfl) d (kk b h3)
theorem pf_X6_43 (C : Cx p l s m args meth c cc nL RX6 ret E) (hnm : meth.name = "<init>") {a : Nat} {x : Nat} {A : Mm → Prop} (d : decode cc pc = .ok (.putfield 43, 3)) (h : zk M a = 6 ∧ ∀ M', M' = sR M a 10 (some x) → A M') (kk : ∀ M', A M' → J p l e R s m args below meth c Q E nL M' kc ks (pc + 3) lo st) : J p l e R s m args below meth c Q E nL M kc ks pc lo (.ref x :: .ref a :: st) :=
  j_putF (M' := sR M a 10 (some x)) (k := 10) C hnm rfl co_X6 wd_191 rfl h.1 rfl rfl rfl rfl rfl (fun b hb => sR_o hb) fv_sR_eq fv_sR d (kk _ (h.2 _ rfl))
theorem gf_X6_46 (C : Cx p l s m args meth c cc nL RX6 ret E) {a : Nat} {A : Nat → Prop} (d : decode cc pc = .ok (.getfield 46, 3)) (h : zk M a = 6 ∧ ∃ b, zR M a 11 = some b ∧ A b) (kk : ∀ b, A b → J p l e R s m args below meth c Q E nL M kc ks (pc + 3) lo (.ref b :: st)) : J p l e R s m args below meth c Q E nL M kc ks pc lo (.ref a :: st) := by
  obtain ⟨h1, b, h2, h3⟩ := h
  exact j_get (k := 11) (v := .ref b) C co_X6 (Or.inl wd_193) rfl h1 (by rw [fv_2, h2]; rfl) d (kk b h3)
theorem pf_X6_46 (C : Cx p l s m args meth c cc nL RX6 ret E) (hnm : meth.name = "<init>") {a : Nat} {x : Nat} {A : Mm → Prop} (d : decode cc pc = .ok (.putfield 46, 3)) (h : zk M a = 6 ∧ ∀ M', M' = sR M a 11 (some x) → A M') (kk : ∀ M', A M' → J p l e R s m args below meth c Q E nL M' kc ks (pc + 3) lo st) : J p l e R s m args below meth c Q E nL M kc ks pc lo (.ref x :: .ref a :: st) :=
  j_putF (M' := sR M a 11 (some x)) (k := 11) C hnm rfl co_X6 wd_193 rfl h.1 rfl rfl rfl rfl rfl (fun b hb => sR_o hb) fv_sR_eq fv_sR d (kk _ (h.2 _ rfl))
theorem gf_X6_49 (C : Cx p l s m args meth c cc nL RX6 ret E) {a : Nat} {A : Nat → Prop} (d : decode cc pc = .ok (.getfield 49, 3)) (h : zk M a = 6 ∧ ∃ b, zR M a 12 = some b ∧ A b) (kk : ∀ b, A b → J p l e R s m args below meth c Q E nL M kc ks (pc + 3) lo (.ref b :: st)) : J p l e R s m args below meth c Q E nL M kc ks pc lo (.ref a :: st) := by
  obtain ⟨h1, b, h2, h3⟩ := h
  exact j_get (k := 12) (v := .ref b) C co_X6 (Or.inl wd_196) rfl h1 (by rw [fv_2, h2]; rfl) d (kk b h3)
theorem pf_X6_49 (C : Cx p l s m args meth c cc nL RX6 ret E) (hnm : meth.name = "<init>") {a : Nat} {x : Nat} {A : Mm → Prop} (d : decode cc pc = .ok (.putfield 49, 3)) (h : zk M a = 6 ∧ ∀ M', M' = sR M a 12 (some x) → A M') (kk : ∀ M', A M' → J p l e R s m args below meth c Q E nL M' kc ks (pc + 3) lo st) : J p l e R s m args below meth c Q E nL M kc ks pc lo (.ref x :: .ref a :: st) :=
  j_putF (M' := sR M a 12 (some x)) (k := 12) C hnm rfl co_X6 wd_196 rfl h.1 rfl rfl rfl rfl rfl (fun b hb => sR_o hb) fv_sR_eq fv_sR d (kk _ (h.2 _ rfl))
theorem pf_X6_52 (C : Cx p l s m args meth c cc nL RX6 ret E) (hnm : meth.name = "<init>") {a : Nat} {x : Nat} {A : Mm → Prop} (d : decode cc pc = .ok (.putfield 52, 3)) (h : zk M a = 6 ∧ ∀ M', M' = sR M a 13 (some x) → A M') (kk : ∀ M', A M' → J p l e R s m args below meth c Q E nL M' kc ks (pc + 3) lo st) : J p l e R s m args below meth c Q E nL M kc ks pc lo (.ref x :: .ref a :: st) :=
  j_putF (M' := sR M a 13 (some x)) (k := 13) C hnm rfl co_X6 wd_200 rfl h.1 rfl rfl rfl rfl rfl (fun b hb => sR_o hb) fv_sR_eq fv_sR d (kk _ (h.2 _ rfl))
theorem gf_X6_55 (C : Cx p l s m args meth c cc nL RX6 ret E) {a : Nat} {A : Nat → Prop} (d : decode cc pc = .ok (.getfield 55, 3)) (h : zk M a = 6 ∧ ∃ b, zR M a 14 = some b ∧ A b) (kk : ∀ b, A b → J p l e R s m args below meth c Q E nL M kc ks (pc + 3) lo (.ref b :: st)) : J p l e R s m args below meth c Q E nL M kc ks pc lo (.ref a :: st) := by
  obtain ⟨h1, b, h2, h3⟩ := h
  exact j_get (k := 14) (v := .ref b) C co_X6 (Or.inl wd_203) rfl h1 (by rw [fv_2, h2]; rfl) d (kk b h3)
theorem pf_X6_55 (C : Cx p l s m args meth c cc nL RX6 ret E) (hnm : meth.name = "<init>") {a : Nat} {x : Nat} {A : Mm → Prop} (d : decode cc pc = .ok (.putfield 55, 3)) (h : zk M a = 6 ∧ ∀ M', M' = sR M a 14 (some x) → A M') (kk : ∀ M', A M' → J p l e R s m args below meth c Q E nL M' kc ks (pc + 3) lo st) : J p l e R s m args below meth c Q E nL M kc ks pc lo (.ref x :: .ref a :: st) :=
  j_putF (M' := sR M a 14 (some x)) (k := 14) C hnm rfl co_X6 wd_203 rfl h.1 rfl rfl rfl rfl rfl (fun b hb => sR_o hb) fv_sR_eq fv_sR d (kk _ (h.2 _ rfl))
theorem gf_X6_58 (C : Cx p l s m args meth c cc nL RX6 ret E) {a : Nat} {A : Nat → Prop} (d : decode cc pc = .ok (.getfield 58, 3)) (h : zk M a = 6 ∧ ∃ b, zR M a 15 = some b ∧ A b) (kk : ∀ b, A b → J p l e R s m args below meth c Q E nL M kc ks (pc + 3) lo (.ref b :: st)) : J p l e R s m args below meth c Q E nL M kc ks pc lo (.ref a :: st) := by
  obtain ⟨h1, b, h2, h3⟩ := h
  exact j_get (k := 15) (v := .ref b) C co_X6 (Or.inl wd_206) rfl h1 (by rw [fv_2, h2]; rfl) d (kk b h3)
theorem pf_X6_58 (C : Cx p l s m args meth c cc nL RX6 ret E) (hnm : meth.name = "<init>") {a : Nat} {x : Nat} {A : Mm → Prop} (d : decode cc pc = .ok (.putfield 58, 3)) (h : zk M a = 6 ∧ ∀ M', M' = sR M a 15 (some x) → A M') (kk : ∀ M', A M' → J p l e R s m args below meth c Q E nL M' kc ks (pc + 3) lo st) : J p l e R s m args below meth c Q E nL M kc ks pc lo (.ref x :: .ref a :: st) :=
  j_putF (M' := sR M a 15 (some x)) (k := 15) C hnm rfl co_X6 wd_206 rfl h.1 rfl rfl rfl rfl rfl (fun b hb => sR_o hb) fv_sR_eq fv_sR d (kk _ (h.2 _ rfl))
theorem pf_X6_61 (C : Cx p l s m args meth c cc nL RX6 ret E) (hnm : meth.name = "<init>") {a : Nat} {x : Nat} {A : Mm → Prop} (d : decode cc pc = .ok (.putfield 61, 3)) (h : zk M a = 6 ∧ ∀ M', M' = sR M a 16 (some x) → A M') (kk : ∀ M', A M' → J p l e R s m args below meth c Q E nL M' kc ks (pc + 3) lo st) : J p l e R s m args below meth c Q E nL M kc ks pc lo (.ref x :: .ref a :: st) :=
  j_putF (M' := sR M a 16 (some x)) (k := 16) C hnm rfl co_X6 wd_209 rfl h.1 rfl rfl rfl rfl rfl (fun b hb => sR_o hb) fv_sR_eq fv_sR d (kk _ (h.2 _ rfl))
theorem gf_X6_64 (C : Cx p l s m args meth c cc nL RX6 ret E) {a : Nat} {A : Nat → Prop} (d : decode cc pc = .ok (.getfield 64, 3)) (h : zk M a = 6 ∧ ∃ b, zR M a 17 = some b ∧ A b) (kk : ∀ b, A b → J p l e R s m args below meth c Q E nL M kc ks (pc + 3) lo (.ref b :: st)) : J p l e R s m args below meth c Q E nL M kc ks pc lo (.ref a :: st) := by
  obtain ⟨h1, b, h2, h3⟩ := h
  exact j_get (k := 17) (v := .ref b) C co_X6 (Or.inl wd_213) rfl h1 (by rw [fv_2, h2]; rfl) d (kk b h3)
theorem pf_X6_64 (C : Cx p l s m args meth c cc nL RX6 ret E) (hnm : meth.name = "<init>") {a : Nat} {x : Nat} {A : Mm → Prop} (d : decode cc pc = .ok (.putfield 64, 3)) (h : zk M a = 6 ∧ ∀ M', M' = sR M a 17 (some x) → A M') (kk : ∀ M', A M' → J p l e R s m args below meth c Q E nL M' kc ks (pc + 3) lo st) : J p l e R s m args below meth c Q E nL M kc ks pc lo (.ref x :: .ref a :: st) :=
  j_putF (M' := sR M a 17 (some x)) (k := 17) C hnm rfl co_X6 wd_213 rfl h.1 rfl rfl rfl rfl rfl (fun b hb => sR_o hb) fv_sR_eq fv_sR d (kk _ (h.2 _ rfl))
theorem gf_X6_67 (C : Cx p l s m args meth c cc nL RX6 ret E) {a : Nat} {A : Nat → Prop} (d : decode cc pc = .ok (.getfield 67, 3)) (h : zk M a = 6 ∧ ∃ b, zR M a 18 = some b ∧ A b) (kk : ∀ b, A b → J p l e R s m args below meth c Q E nL M kc ks (pc + 3) lo (.ref b :: st)) : J p l e R s m args below meth c Q E nL M kc ks pc lo (.ref a :: st) := by
  obtain ⟨h1, b, h2, h3⟩ := h
  exact j_get (k := 18) (v := .ref b) C co_X6 (Or.inl wd_218) rfl h1 (by rw [fv_2, h2]; rfl) d (kk b h3)
theorem pf_X6_67 (C : Cx p l s m args meth c cc nL RX6 ret E) (hnm : meth.name = "<init>") {a : Nat} {x : Nat} {A : Mm → Prop} (d : decode cc pc = .ok (.putfield 67, 3)) (h : zk M a = 6 ∧ ∀ M', M' = sR M a 18 (some x) → A M') (kk : ∀ M', A M' → J p l e R s m args below meth c Q E nL M' kc ks (pc + 3) lo st) : J p l e R s m args below meth c Q E nL M kc ks pc lo (.ref x :: .ref a :: st) :=
  j_putF (M' := sR M a 18 (some x)) (k := 18) C hnm rfl co_X6 wd_218 rfl h.1 rfl rfl rfl rfl rfl (fun b hb => sR_o hb) fv_sR_eq fv_sR d (kk _ (h.2 _ rfl))
theorem pf_X6_70 (C : Cx p l s m args meth c cc nL RX6 ret E) {a : Nat} {x : Int32} {A : Mm → Prop} (d : decode cc pc = .ok (.putfield 70, 3)) (h : zk M a = 6 ∧ ∀ M', M' = sI M a 1 x → A M') (kk : ∀ M', A M' → J p l e R s m args below meth c Q E nL M' kc ks (pc + 3) lo st) : J p l e R s m args below meth c Q E nL M kc ks pc lo (.int x :: .ref a :: st) :=
  j_put (M' := sI M a 1 x) (k := 1) C co_X6 (Or.inl wd_160) rfl h.1 rfl rfl rfl rfl rfl (fun b hb => sI_o hb) fv_sI_eq fv_sI d (kk _ (h.2 _ rfl))
theorem pf_X6_73 (C : Cx p l s m args meth c cc nL RX6 ret E) {a : Nat} {x : Int32} {A : Mm → Prop} (d : decode cc pc = .ok (.putfield 73, 3)) (h : zk M a = 6 ∧ (x = 0 ∨ x = 1) ∧ ∀ M', M' = sI M a 2 x → A M') (kk : ∀ M', A M' → J p l e R s m args below meth c Q E nL M' kc ks (pc + 3) lo st) : J p l e R s m args below meth c Q E nL M kc ks pc lo (.int x :: .ref a :: st) :=
  j_put (M' := sI M a 2 x) (k := 2) C co_X6 (Or.inl wd_164) rfl h.1 rfl (by rcases h.2.1 with q | q <;> subst q <;> rfl) (by rcases h.2.1 with q | q <;> subst q <;> rfl) rfl rfl (fun b hb => sI_o hb) fv_sI_eq fv_sI d (kk _ (h.2.2 _ rfl))
theorem gf_X6_77 (C : Cx p l s m args meth c cc nL RX6 ret E) {a : Nat} {A : Prop} (d : decode cc pc = .ok (.getfield 77, 3)) (h : zk M a = 2 ∧ A) (kk : A → J p l e R s m args below meth c Q E nL M kc ks (pc + 3) lo (.int (zI M a 1) :: st)) : J p l e R s m args below meth c Q E nL M kc ks pc lo (.ref a :: st) :=
  j_get (k := 1) C co_X2 (Or.inr ⟨_, nw_145⟩) rfl h.1 rfl d (kk h.2)
theorem pf_X6_77 (C : Cx p l s m args meth c cc nL RX6 ret E) {a : Nat} {x : Int32} {A : Mm → Prop} (d : decode cc pc = .ok (.putfield 77, 3)) (h : zk M a = 2 ∧ ∀ M', M' = sI M a 1 x → A M') (kk : ∀ M', A M' → J p l e R s m args below meth c Q E nL M' kc ks (pc + 3) lo st) : J p l e R s m args below meth c Q E nL M kc ks pc lo (.int x :: .ref a :: st) :=
  j_put (M' := sI M a 1 x) (k := 1) C co_X2 (Or.inr ⟨_, nw_145⟩) rfl h.1 rfl rfl rfl rfl rfl (fun b hb => sI_o hb) fv_sI_eq fv_sI d (kk _ (h.2 _ rfl))
theorem gf_X7_9 (C : Cx p l s m args meth c cc nL RX7 ret E) {a : Nat} {A : Nat → Prop} (d : decode cc pc = .ok (.getfield 9, 3)) (h : zk M a = 7 ∧ ∃ b, zR M a 0 = some b ∧ A b) (kk : ∀ b, A b → J p l e R s m args below meth c Q E nL M kc ks (pc + 3) lo (.ref b :: st)) : J p l e R s m args below meth c Q E nL M kc ks pc lo (.ref a :: st) := by
  obtain ⟨h1, b, h2, h3⟩ := h
  exact j_get (k := 0) (v := .ref b) C co_X7 (Or.inl wd_258) rfl h1 (by rw [fv_2, h2]; rfl) d (kk b h3)
theorem pf_X7_9 (C : Cx p l s m args meth c cc nL RX7 ret E) (hnm : meth.name = "<init>") {a : Nat} {x : Nat} {A : Mm → Prop} (d : decode cc pc = .ok (.putfield 9, 3)) (h : zk M a = 7 ∧ ∀ M', M' = sR M a 0 (some x) → A M') (kk : ∀ M', A M' → J p l e R s m args below meth c Q E nL M' kc ks (pc + 3) lo st) : J p l e R s m args below meth c Q E nL M kc ks pc lo (.ref x :: .ref a :: st) :=
  j_putF (M' := sR M a 0 (some x)) (k := 0) C hnm rfl co_X7 wd_258 rfl h.1 rfl rfl rfl rfl rfl (fun b hb => sR_o hb) fv_sR_eq fv_sR d (kk _ (h.2 _ rfl))
theorem gf_X7_16 (C : Cx p l s m args meth c cc nL RX7 ret E) {a : Nat} {A : Nat → Prop} (d : decode cc pc = .ok (.getfield 16, 3)) (h : zk M a = 7 ∧ ∃ b, zR M a 1 = some b ∧ A b) (kk : ∀ b, A b → J p l e R s m args below meth c Q E nL M kc ks (pc + 3) lo (.ref b :: st)) : J p l e R s m args below meth c Q E nL M kc ks pc lo (.ref a :: st) := by
  obtain ⟨h1, b, h2, h3⟩ := h
  exact j_get (k := 1) (v := .ref b) C co_X7 (Or.inl wd_259) rfl h1 (by rw [fv_2, h2]; rfl) d (kk b h3)
theorem pf_X7_16 (C : Cx p l s m args meth c cc nL RX7 ret E) (hnm : meth.name = "<init>") {a : Nat} {x : Nat} {A : Mm → Prop} (d : decode cc pc = .ok (.putfield 16, 3)) (h : zk M a = 7 ∧ ∀ M', M' = sR M a 1 (some x) → A M') (kk : ∀ M', A M' → J p l e R s m args below meth c Q E nL M' kc ks (pc + 3) lo st) : J p l e R s m args below meth c Q E nL M kc ks pc lo (.ref x :: .ref a :: st) :=
  j_putF (M' := sR M a 1 (some x)) (k := 1) C hnm rfl co_X7 wd_259 rfl h.1 rfl rfl rfl rfl rfl (fun b hb => sR_o hb) fv_sR_eq fv_sR d (kk _ (h.2 _ rfl))
theorem gf_X7_23 (C : Cx p l s m args meth c cc nL RX7 ret E) {a : Nat} {A : Nat → Prop} (d : decode cc pc = .ok (.getfield 23, 3)) (h : zk M a = 7 ∧ ∃ b, zR M a 2 = some b ∧ A b) (kk : ∀ b, A b → J p l e R s m args below meth c Q E nL M kc ks (pc + 3) lo (.ref b :: st)) : J p l e R s m args below meth c Q E nL M kc ks pc lo (.ref a :: st) := by
  obtain ⟨h1, b, h2, h3⟩ := h
  exact j_get (k := 2) (v := .ref b) C co_X7 (Or.inl wd_260) rfl h1 (by rw [fv_2, h2]; rfl) d (kk b h3)
theorem pf_X7_23 (C : Cx p l s m args meth c cc nL RX7 ret E) (hnm : meth.name = "<init>") {a : Nat} {x : Nat} {A : Mm → Prop} (d : decode cc pc = .ok (.putfield 23, 3)) (h : zk M a = 7 ∧ ∀ M', M' = sR M a 2 (some x) → A M') (kk : ∀ M', A M' → J p l e R s m args below meth c Q E nL M' kc ks (pc + 3) lo st) : J p l e R s m args below meth c Q E nL M kc ks pc lo (.ref x :: .ref a :: st) :=
  j_putF (M' := sR M a 2 (some x)) (k := 2) C hnm rfl co_X7 wd_260 rfl h.1 rfl rfl rfl rfl rfl (fun b hb => sR_o hb) fv_sR_eq fv_sR d (kk _ (h.2 _ rfl))
theorem gf_X7_27 (C : Cx p l s m args meth c cc nL RX7 ret E) {a : Nat} {A : Nat → Prop} (d : decode cc pc = .ok (.getfield 27, 3)) (h : zk M a = 7 ∧ ∃ b, zR M a 3 = some b ∧ A b) (kk : ∀ b, A b → J p l e R s m args below meth c Q E nL M kc ks (pc + 3) lo (.ref b :: st)) : J p l e R s m args below meth c Q E nL M kc ks pc lo (.ref a :: st) := by
  obtain ⟨h1, b, h2, h3⟩ := h
  exact j_get (k := 3) (v := .ref b) C co_X7 (Or.inl wd_261) rfl h1 (by rw [fv_2, h2]; rfl) d (kk b h3)
theorem pf_X7_27 (C : Cx p l s m args meth c cc nL RX7 ret E) (hnm : meth.name = "<init>") {a : Nat} {x : Nat} {A : Mm → Prop} (d : decode cc pc = .ok (.putfield 27, 3)) (h : zk M a = 7 ∧ ∀ M', M' = sR M a 3 (some x) → A M') (kk : ∀ M', A M' → J p l e R s m args below meth c Q E nL M' kc ks (pc + 3) lo st) : J p l e R s m args below meth c Q E nL M kc ks pc lo (.ref x :: .ref a :: st) :=
  j_putF (M' := sR M a 3 (some x)) (k := 3) C hnm rfl co_X7 wd_261 rfl h.1 rfl rfl rfl rfl rfl (fun b hb => sR_o hb) fv_sR_eq fv_sR d (kk _ (h.2 _ rfl))
theorem gf_X7_30 (C : Cx p l s m args meth c cc nL RX7 ret E) {a : Nat} {A : Nat → Prop} (d : decode cc pc = .ok (.getfield 30, 3)) (h : zk M a = 7 ∧ ∃ b, zR M a 4 = some b ∧ A b) (kk : ∀ b, A b → J p l e R s m args below meth c Q E nL M kc ks (pc + 3) lo (.ref b :: st)) : J p l e R s m args below meth c Q E nL M kc ks pc lo (.ref a :: st) := by
  obtain ⟨h1, b, h2, h3⟩ := h
  exact j_get (k := 4) (v := .ref b) C co_X7 (Or.inl wd_262) rfl h1 (by rw [fv_2, h2]; rfl) d (kk b h3)
theorem pf_X7_30 (C : Cx p l s m args meth c cc nL RX7 ret E) (hnm : meth.name = "<init>") {a : Nat} {x : Nat} {A : Mm → Prop} (d : decode cc pc = .ok (.putfield 30, 3)) (h : zk M a = 7 ∧ ∀ M', M' = sR M a 4 (some x) → A M') (kk : ∀ M', A M' → J p l e R s m args below meth c Q E nL M' kc ks (pc + 3) lo st) : J p l e R s m args below meth c Q E nL M kc ks pc lo (.ref x :: .ref a :: st) :=
  j_putF (M' := sR M a 4 (some x)) (k := 4) C hnm rfl co_X7 wd_262 rfl h.1 rfl rfl rfl rfl rfl (fun b hb => sR_o hb) fv_sR_eq fv_sR d (kk _ (h.2 _ rfl))
theorem gf_X7_34 (C : Cx p l s m args meth c cc nL RX7 ret E) {a : Nat} {A : Nat → Prop} (d : decode cc pc = .ok (.getfield 34, 3)) (h : zk M a = 7 ∧ ∃ b, zR M a 5 = some b ∧ A b) (kk : ∀ b, A b → J p l e R s m args below meth c Q E nL M kc ks (pc + 3) lo (.ref b :: st)) : J p l e R s m args below meth c Q E nL M kc ks pc lo (.ref a :: st) := by
  obtain ⟨h1, b, h2, h3⟩ := h
  exact j_get (k := 5) (v := .ref b) C co_X7 (Or.inl wd_263) rfl h1 (by rw [fv_2, h2]; rfl) d (kk b h3)
theorem pf_X7_34 (C : Cx p l s m args meth c cc nL RX7 ret E) (hnm : meth.name = "<init>") {a : Nat} {x : Nat} {A : Mm → Prop} (d : decode cc pc = .ok (.putfield 34, 3)) (h : zk M a = 7 ∧ ∀ M', M' = sR M a 5 (some x) → A M') (kk : ∀ M', A M' → J p l e R s m args below meth c Q E nL M' kc ks (pc + 3) lo st) : J p l e R s m args below meth c Q E nL M kc ks pc lo (.ref x :: .ref a :: st) :=
  j_putF (M' := sR M a 5 (some x)) (k := 5) C hnm rfl co_X7 wd_263 rfl h.1 rfl rfl rfl rfl rfl (fun b hb => sR_o hb) fv_sR_eq fv_sR d (kk _ (h.2 _ rfl))
theorem gf_X7_37 (C : Cx p l s m args meth c cc nL RX7 ret E) {a : Nat} {A : Nat → Prop} (d : decode cc pc = .ok (.getfield 37, 3)) (h : zk M a = 7 ∧ ∃ b, zR M a 6 = some b ∧ A b) (kk : ∀ b, A b → J p l e R s m args below meth c Q E nL M kc ks (pc + 3) lo (.ref b :: st)) : J p l e R s m args below meth c Q E nL M kc ks pc lo (.ref a :: st) := by
  obtain ⟨h1, b, h2, h3⟩ := h
  exact j_get (k := 6) (v := .ref b) C co_X7 (Or.inl wd_264) rfl h1 (by rw [fv_2, h2]; rfl) d (kk b h3)
theorem pf_X7_37 (C : Cx p l s m args meth c cc nL RX7 ret E) (hnm : meth.name = "<init>") {a : Nat} {x : Nat} {A : Mm → Prop} (d : decode cc pc = .ok (.putfield 37, 3)) (h : zk M a = 7 ∧ ∀ M', M' = sR M a 6 (some x) → A M') (kk : ∀ M', A M' → J p l e R s m args below meth c Q E nL M' kc ks (pc + 3) lo st) : J p l e R s m args below meth c Q E nL M kc ks pc lo (.ref x :: .ref a :: st) :=
  j_putF (M' := sR M a 6 (some x)) (k := 6) C hnm rfl co_X7 wd_264 rfl h.1 rfl rfl rfl rfl rfl (fun b hb => sR_o hb) fv_sR_eq fv_sR d (kk _ (h.2 _ rfl))
theorem pf_X7_41 (C : Cx p l s m args meth c cc nL RX7 ret E) {a : Nat} {x : Int32} {A : Mm → Prop} (d : decode cc pc = .ok (.putfield 41, 3)) (h : zk M a = 7 ∧ ∀ M', M' = sI M a 8 x → A M') (kk : ∀ M', A M' → J p l e R s m args below meth c Q E nL M' kc ks (pc + 3) lo st) : J p l e R s m args below meth c Q E nL M kc ks pc lo (.int x :: .ref a :: st) :=
  j_put (M' := sI M a 8 x) (k := 8) C co_X7 (Or.inl wd_266) rfl h.1 rfl rfl rfl rfl rfl (fun b hb => sI_o hb) fv_sI_eq fv_sI d (kk _ (h.2 _ rfl))
theorem gf_X7_48 (C : Cx p l s m args meth c cc nL RX7 ret E) {a : Nat} {A : Nat → Prop} (d : decode cc pc = .ok (.getfield 48, 3)) (h : zk M a = 7 ∧ ∃ b, zR M a 10 = some b ∧ A b) (kk : ∀ b, A b → J p l e R s m args below meth c Q E nL M kc ks (pc + 3) lo (.ref b :: st)) : J p l e R s m args below meth c Q E nL M kc ks pc lo (.ref a :: st) := by
  obtain ⟨h1, b, h2, h3⟩ := h
  exact j_get (k := 10) (v := .ref b) C co_X7 (Or.inl wd_268) rfl h1 (by rw [fv_2, h2]; rfl) d (kk b h3)
theorem pf_X7_48 (C : Cx p l s m args meth c cc nL RX7 ret E) {a : Nat} {x : Nat} {A : Mm → Prop} (d : decode cc pc = .ok (.putfield 48, 3)) (h : zk M a = 7 ∧ ∀ M', M' = sR M a 10 (some x) → A M') (kk : ∀ M', A M' → J p l e R s m args below meth c Q E nL M' kc ks (pc + 3) lo st) : J p l e R s m args below meth c Q E nL M kc ks pc lo (.ref x :: .ref a :: st) :=
  j_put (M' := sR M a 10 (some x)) (k := 10) C co_X7 (Or.inl wd_268) rfl h.1 rfl rfl rfl rfl rfl (fun b hb => sR_o hb) fv_sR_eq fv_sR d (kk _ (h.2 _ rfl))
theorem gf_X7_52 (C : Cx p l s m args meth c cc nL RX7 ret E) {a : Nat} {A : Nat → Prop} (d : decode cc pc = .ok (.getfield 52, 3)) (h : zk M a = 7 ∧ ∃ b, zR M a 11 = some b ∧ A b) (kk : ∀ b, A b → J p l e R s m args below meth c Q E nL M kc ks (pc + 3) lo (.ref b :: st)) : J p l e R s m args below meth c Q E nL M kc ks pc lo (.ref a :: st) := by
  obtain ⟨h1, b, h2, h3⟩ := h
  exact j_get (k := 11) (v := .ref b) C co_X7 (Or.inl wd_269) rfl h1 (by rw [fv_2, h2]; rfl) d (kk b h3)
theorem pf_X7_52 (C : Cx p l s m args meth c cc nL RX7 ret E) {a : Nat} {x : Nat} {A : Mm → Prop} (d : decode cc pc = .ok (.putfield 52, 3)) (h : zk M a = 7 ∧ ∀ M', M' = sR M a 11 (some x) → A M') (kk : ∀ M', A M' → J p l e R s m args below meth c Q E nL M' kc ks (pc + 3) lo st) : J p l e R s m args below meth c Q E nL M kc ks pc lo (.ref x :: .ref a :: st) :=
  j_put (M' := sR M a 11 (some x)) (k := 11) C co_X7 (Or.inl wd_269) rfl h.1 rfl rfl rfl rfl rfl (fun b hb => sR_o hb) fv_sR_eq fv_sR d (kk _ (h.2 _ rfl))
theorem gf_X7_55 (C : Cx p l s m args meth c cc nL RX7 ret E) {a : Nat} {A : Prop} (d : decode cc pc = .ok (.getfield 55, 3)) (h : zk M a = 7 ∧ A) (kk : A → J p l e R s m args below meth c Q E nL M kc ks (pc + 3) lo (.int (zI M a 7) :: st)) : J p l e R s m args below meth c Q E nL M kc ks pc lo (.ref a :: st) :=
  j_get (k := 7) C co_X7 (Or.inl wd_265) rfl h.1 rfl d (kk h.2)
theorem pf_X7_55 (C : Cx p l s m args meth c cc nL RX7 ret E) {a : Nat} {x : Int32} {A : Mm → Prop} (d : decode cc pc = .ok (.putfield 55, 3)) (h : zk M a = 7 ∧ ∀ M', M' = sI M a 7 x → A M') (kk : ∀ M', A M' → J p l e R s m args below meth c Q E nL M' kc ks (pc + 3) lo st) : J p l e R s m args below meth c Q E nL M kc ks pc lo (.int x :: .ref a :: st) :=
  j_put (M' := sI M a 7 x) (k := 7) C co_X7 (Or.inl wd_265) rfl h.1 rfl rfl rfl rfl rfl (fun b hb => sI_o hb) fv_sI_eq fv_sI d (kk _ (h.2 _ rfl))
theorem gf_X7_79 (C : Cx p l s m args meth c cc nL RX7 ret E) {a : Nat} {A : Prop} (d : decode cc pc = .ok (.getfield 79, 3)) (h : zk M a = 3 ∧ A) (kk : A → J p l e R s m args below meth c Q E nL M kc ks (pc + 3) lo (.int (zI M a 3) :: st)) : J p l e R s m args below meth c Q E nL M kc ks pc lo (.ref a :: st) :=
  j_get (k := 3) C co_X3 (Or.inr ⟨_, nw_808⟩) rfl h.1 rfl d (kk h.2)
theorem gf_X7_82 (C : Cx p l s m args meth c cc nL RX7 ret E) {a : Nat} {A : Prop} (d : decode cc pc = .ok (.getfield 82, 3)) (h : zk M a = 3 ∧ A) (kk : A → J p l e R s m args below meth c Q E nL M kc ks (pc + 3) lo (.int (zI M a 2) :: st)) : J p l e R s m args below meth c Q E nL M kc ks pc lo (.ref a :: st) :=
  j_get (k := 2) C co_X3 (Or.inr ⟨_, nw_805⟩) rfl h.1 rfl d (kk h.2)
theorem gf_X7_88 (C : Cx p l s m args meth c cc nL RX7 ret E) {a : Nat} {A : Nat → Prop} (d : decode cc pc = .ok (.getfield 88, 3)) (h : zk M a = 6 ∧ ∃ b, zR M a 6 = some b ∧ A b) (kk : ∀ b, A b → J p l e R s m args below meth c Q E nL M kc ks (pc + 3) lo (.ref b :: st)) : J p l e R s m args below meth c Q E nL M kc ks pc lo (.ref a :: st) := by
  obtain ⟨h1, b, h2, h3⟩ := h
  exact j_get (k := 6) (v := .ref b) C co_X6 (Or.inr ⟨_, nw_178⟩) rfl h1 (by rw [fv_2, h2]; rfl) d (kk b h3)
theorem gf_X7_95 (C : Cx p l s m args meth c cc nL RX7 ret E) {a : Nat} {A : Prop} (d : decode cc pc = .ok (.getfield 95, 3)) (h : zk M a = 7 ∧ A) (kk : A → J p l e R s m args below meth c Q E nL M kc ks (pc + 3) lo (.int (zI M a 9) :: st)) : J p l e R s m args below meth c Q E nL M kc ks pc lo (.ref a :: st) :=
  j_get (k := 9) C co_X7 (Or.inl wd_267) rfl h.1 rfl d (kk h.2)
theorem pf_X7_95 (C : Cx p l s m args meth c cc nL RX7 ret E) {a : Nat} {x : Int32} {A : Mm → Prop} (d : decode cc pc = .ok (.putfield 95, 3)) (h : zk M a = 7 ∧ ∀ M', M' = sI M a 9 x → A M') (kk : ∀ M', A M' → J p l e R s m args below meth c Q E nL M' kc ks (pc + 3) lo st) : J p l e R s m args below meth c Q E nL M kc ks pc lo (.int x :: .ref a :: st) :=
  j_put (M' := sI M a 9 x) (k := 9) C co_X7 (Or.inl wd_267) rfl h.1 rfl rfl rfl rfl rfl (fun b hb => sI_o hb) fv_sI_eq fv_sI d (kk _ (h.2 _ rfl))
theorem gf_X7_98 (C : Cx p l s m args meth c cc nL RX7 ret E) {a : Nat} {A : Prop} (d : decode cc pc = .ok (.getfield 98, 3)) (h : zk M a = 6 ∧ A) (kk : A → J p l e R s m args below meth c Q E nL M kc ks (pc + 3) lo (.int (zI M a 0) :: st)) : J p l e R s m args below meth c Q E nL M kc ks pc lo (.ref a :: st) :=
  j_get (k := 0) C co_X6 (Or.inr ⟨_, nw_159⟩) rfl h.1 rfl d (kk h.2)
theorem gf_X7_101 (C : Cx p l s m args meth c cc nL RX7 ret E) {a : Nat} {A : Nat → Prop} (d : decode cc pc = .ok (.getfield 101, 3)) (h : zk M a = 6 ∧ ∃ b, zR M a 3 = some b ∧ A b) (kk : ∀ b, A b → J p l e R s m args below meth c Q E nL M kc ks (pc + 3) lo (.ref b :: st)) : J p l e R s m args below meth c Q E nL M kc ks pc lo (.ref a :: st) := by
  obtain ⟨h1, b, h2, h3⟩ := h
  exact j_get (k := 3) (v := .ref b) C co_X6 (Or.inr ⟨_, nw_168⟩) rfl h1 (by rw [fv_2, h2]; rfl) d (kk b h3)
theorem gf_X7_105 (C : Cx p l s m args meth c cc nL RX7 ret E) {a : Nat} {A : Prop} (d : decode cc pc = .ok (.getfield 105, 3)) (h : zk M a = 2 ∧ A) (kk : A → J p l e R s m args below meth c Q E nL M kc ks (pc + 3) lo (.int (zI M a 1) :: st)) : J p l e R s m args below meth c Q E nL M kc ks pc lo (.ref a :: st) :=
  j_get (k := 1) C co_X2 (Or.inr ⟨_, nw_149⟩) rfl h.1 rfl d (kk h.2)
theorem gf_X7_110 (C : Cx p l s m args meth c cc nL RX7 ret E) {a : Nat} {A : Nat → Prop} (d : decode cc pc = .ok (.getfield 110, 3)) (h : zk M a = 6 ∧ ∃ b, zR M a 5 = some b ∧ A b) (kk : ∀ b, A b → J p l e R s m args below meth c Q E nL M kc ks (pc + 3) lo (.ref b :: st)) : J p l e R s m args below meth c Q E nL M kc ks pc lo (.ref a :: st) := by
  obtain ⟨h1, b, h2, h3⟩ := h
  exact j_get (k := 5) (v := .ref b) C co_X6 (Or.inr ⟨_, nw_176⟩) rfl h1 (by rw [fv_2, h2]; rfl) d (kk b h3)
theorem gf_X7_113 (C : Cx p l s m args meth c cc nL RX7 ret E) {a : Nat} {A : Nat → Prop} (d : decode cc pc = .ok (.getfield 113, 3)) (h : zk M a = 6 ∧ ∃ b, zR M a 12 = some b ∧ A b) (kk : ∀ b, A b → J p l e R s m args below meth c Q E nL M kc ks (pc + 3) lo (.ref b :: st)) : J p l e R s m args below meth c Q E nL M kc ks pc lo (.ref a :: st) := by
  obtain ⟨h1, b, h2, h3⟩ := h
  exact j_get (k := 12) (v := .ref b) C co_X6 (Or.inr ⟨_, nw_198⟩) rfl h1 (by rw [fv_2, h2]; rfl) d (kk b h3)
theorem gf_X7_116 (C : Cx p l s m args meth c cc nL RX7 ret E) {a : Nat} {A : Nat → Prop} (d : decode cc pc = .ok (.getfield 116, 3)) (h : zk M a = 6 ∧ ∃ b, zR M a 11 = some b ∧ A b) (kk : ∀ b, A b → J p l e R s m args below meth c Q E nL M kc ks (pc + 3) lo (.ref b :: st)) : J p l e R s m args below meth c Q E nL M kc ks pc lo (.ref a :: st) := by
  obtain ⟨h1, b, h2, h3⟩ := h
  exact j_get (k := 11) (v := .ref b) C co_X6 (Or.inr ⟨_, nw_195⟩) rfl h1 (by rw [fv_2, h2]; rfl) d (kk b h3)
theorem gf_X7_119 (C : Cx p l s m args meth c cc nL RX7 ret E) {a : Nat} {A : Prop} (d : decode cc pc = .ok (.getfield 119, 3)) (h : zk M a = 4 ∧ A) (kk : A → J p l e R s m args below meth c Q E nL M kc ks (pc + 3) lo (.int (zI M a 0) :: st)) : J p l e R s m args below meth c Q E nL M kc ks pc lo (.ref a :: st) :=
  j_get (k := 0) C co_X4 (Or.inr ⟨_, nw_101⟩) rfl h.1 rfl d (kk h.2)
theorem gf_X7_120 (C : Cx p l s m args meth c cc nL RX7 ret E) {a : Nat} {A : Prop} (d : decode cc pc = .ok (.getfield 120, 3)) (h : zk M a = 6 ∧ A) (kk : A → J p l e R s m args below meth c Q E nL M kc ks (pc + 3) lo (.int (zI M a 1) :: st)) : J p l e R s m args below meth c Q E nL M kc ks pc lo (.ref a :: st) :=
  j_get (k := 1) C co_X6 (Or.inr ⟨_, nw_162⟩) rfl h.1 rfl d (kk h.2)
theorem gf_X7_145 (C : Cx p l s m args meth c cc nL RX7 ret E) {a : Nat} {A : Nat → Prop} (d : decode cc pc = .ok (.getfield 145, 3)) (h : zk M a = 6 ∧ ∃ b, zR M a 4 = some b ∧ A b) (kk : ∀ b, A b → J p l e R s m args below meth c Q E nL M kc ks (pc + 3) lo (.ref b :: st)) : J p l e R s m args below meth c Q E nL M kc ks pc lo (.ref a :: st) := by
  obtain ⟨h1, b, h2, h3⟩ := h
  exact j_get (k := 4) (v := .ref b) C co_X6 (Or.inr ⟨_, nw_171⟩) rfl h1 (by rw [fv_2, h2]; rfl) d (kk b h3)
theorem gf_X7_151 (C : Cx p l s m args meth c cc nL RX7 ret E) {a : Nat} {A : Nat → Prop} (d : decode cc pc = .ok (.getfield 151, 3)) (h : zk M a = 4 ∧ ∃ b, zR M a 6 = some b ∧ A b) (kk : ∀ b, A b → J p l e R s m args below meth c Q E nL M kc ks (pc + 3) lo (.ref b :: st)) : J p l e R s m args below meth c Q E nL M kc ks pc lo (.ref a :: st) := by
  obtain ⟨h1, b, h2, h3⟩ := h
  exact j_get (k := 6) (v := .ref b) C co_X4 (Or.inr ⟨_, nw_114⟩) rfl h1 (by rw [fv_2, h2]; rfl) d (kk b h3)
theorem gf_X7_152 (C : Cx p l s m args meth c cc nL RX7 ret E) {a : Nat} {A : Nat → Prop} (d : decode cc pc = .ok (.getfield 152, 3)) (h : zk M a = 6 ∧ ∃ b, zR M a 7 = some b ∧ A b) (kk : ∀ b, A b → J p l e R s m args below meth c Q E nL M kc ks (pc + 3) lo (.ref b :: st)) : J p l e R s m args below meth c Q E nL M kc ks pc lo (.ref a :: st) := by
  obtain ⟨h1, b, h2, h3⟩ := h
  exact j_get (k := 7) (v := .ref b) C co_X6 (Or.inr ⟨_, nw_183⟩) rfl h1 (by rw [fv_2, h2]; rfl) d (kk b h3)
theorem gf_X7_155 (C : Cx p l s m args meth c cc nL RX7 ret E) {a : Nat} {A : Nat → Prop} (d : decode cc pc = .ok (.getfield 155, 3)) (h : zk M a = 6 ∧ ∃ b, zR M a 8 = some b ∧ A b) (kk : ∀ b, A b → J p l e R s m args below meth c Q E nL M kc ks (pc + 3) lo (.ref b :: st)) : J p l e R s m args below meth c Q E nL M kc ks pc lo (.ref a :: st) := by
  obtain ⟨h1, b, h2, h3⟩ := h
  exact j_get (k := 8) (v := .ref b) C co_X6 (Or.inr ⟨_, nw_186⟩) rfl h1 (by rw [fv_2, h2]; rfl) d (kk b h3)
theorem gf_X7_158 (C : Cx p l s m args meth c cc nL RX7 ret E) {a : Nat} {A : Nat → Prop} (d : decode cc pc = .ok (.getfield 158, 3)) (h : zk M a = 6 ∧ ∃ b, zR M a 9 = some b ∧ A b) (kk : ∀ b, A b → J p l e R s m args below meth c Q E nL M kc ks (pc + 3) lo (.ref b :: st)) : J p l e R s m args below meth c Q E nL M kc ks pc lo (.ref a :: st) := by
  obtain ⟨h1, b, h2, h3⟩ := h
  exact j_get (k := 9) (v := .ref b) C co_X6 (Or.inr ⟨_, nw_190⟩) rfl h1 (by rw [fv_2, h2]; rfl) d (kk b h3)
theorem gf_X7_197 (C : Cx p l s m args meth c cc nL RX7 ret E) {a : Nat} {A : Nat → Prop} (d : decode cc pc = .ok (.getfield 197, 3)) (h : zk M a = 6 ∧ ∃ b, zR M a 13 = some b ∧ A b) (kk : ∀ b, A b → J p l e R s m args below meth c Q E nL M kc ks (pc + 3) lo (.ref b :: st)) : J p l e R s m args below meth c Q E nL M kc ks pc lo (.ref a :: st) := by
  obtain ⟨h1, b, h2, h3⟩ := h
  exact j_get (k := 13) (v := .ref b) C co_X6 (Or.inr ⟨_, nw_202⟩) rfl h1 (by rw [fv_2, h2]; rfl) d (kk b h3)
theorem gf_X7_200 (C : Cx p l s m args meth c cc nL RX7 ret E) {a : Nat} {A : Nat → Prop} (d : decode cc pc = .ok (.getfield 200, 3)) (h : zk M a = 6 ∧ ∃ b, zR M a 14 = some b ∧ A b) (kk : ∀ b, A b → J p l e R s m args below meth c Q E nL M kc ks (pc + 3) lo (.ref b :: st)) : J p l e R s m args below meth c Q E nL M kc ks pc lo (.ref a :: st) := by
  obtain ⟨h1, b, h2, h3⟩ := h
  exact j_get (k := 14) (v := .ref b) C co_X6 (Or.inr ⟨_, nw_205⟩) rfl h1 (by rw [fv_2, h2]; rfl) d (kk b h3)
theorem gf_X7_203 (C : Cx p l s m args meth c cc nL RX7 ret E) {a : Nat} {A : Nat → Prop} (d : decode cc pc = .ok (.getfield 203, 3)) (h : zk M a = 6 ∧ ∃ b, zR M a 15 = some b ∧ A b) (kk : ∀ b, A b → J p l e R s m args below meth c Q E nL M kc ks (pc + 3) lo (.ref b :: st)) : J p l e R s m args below meth c Q E nL M kc ks pc lo (.ref a :: st) := by
  obtain ⟨h1, b, h2, h3⟩ := h
  exact j_get (k := 15) (v := .ref b) C co_X6 (Or.inr ⟨_, nw_208⟩) rfl h1 (by rw [fv_2, h2]; rfl) d (kk b h3)
theorem gf_X7_206 (C : Cx p l s m args meth c cc nL RX7 ret E) {a : Nat} {A : Nat → Prop} (d : decode cc pc = .ok (.getfield 206, 3)) (h : zk M a = 6 ∧ ∃ b, zR M a 16 = some b ∧ A b) (kk : ∀ b, A b → J p l e R s m args below meth c Q E nL M kc ks (pc + 3) lo (.ref b :: st)) : J p l e R s m args below meth c Q E nL M kc ks pc lo (.ref a :: st) := by
  obtain ⟨h1, b, h2, h3⟩ := h
  exact j_get (k := 16) (v := .ref b) C co_X6 (Or.inr ⟨_, nw_212⟩) rfl h1 (by rw [fv_2, h2]; rfl) d (kk b h3)
theorem gf_X7_209 (C : Cx p l s m args meth c cc nL RX7 ret E) {a : Nat} {A : Nat → Prop} (d : decode cc pc = .ok (.getfield 209, 3)) (h : zk M a = 6 ∧ ∃ b, zR M a 17 = some b ∧ A b) (kk : ∀ b, A b → J p l e R s m args below meth c Q E nL M kc ks (pc + 3) lo (.ref b :: st)) : J p l e R s m args below meth c Q E nL M kc ks pc lo (.ref a :: st) := by
  obtain ⟨h1, b, h2, h3⟩ := h
  exact j_get (k := 17) (v := .ref b) C co_X6 (Or.inr ⟨_, nw_217⟩) rfl h1 (by rw [fv_2, h2]; rfl) d (kk b h3)
theorem gf_X7_233 (C : Cx p l s m args meth c cc nL RX7 ret E) {a : Nat} {A : Nat → Prop} (d : decode cc pc = .ok (.getfield 233, 3)) (h : zk M a = 4 ∧ ∃ b, zR M a 1 = some b ∧ A b) (kk : ∀ b, A b → J p l e R s m args below meth c Q E nL M kc ks (pc + 3) lo (.ref b :: st)) : J p l e R s m args below meth c Q E nL M kc ks pc lo (.ref a :: st) := by
  obtain ⟨h1, b, h2, h3⟩ := h
  exact j_get (k := 1) (v := .ref b) C co_X4 (Or.inr ⟨_, nw_104⟩) rfl h1 (by rw [fv_2, h2]; rfl) d (kk b h3)
theorem gf_X7_236 (C : Cx p l s m args meth c cc nL RX7 ret E) {a : Nat} {A : Nat → Prop} (d : decode cc pc = .ok (.getfield 236, 3)) (h : zk M a = 4 ∧ ∃ b, zR M a 2 = some b ∧ A b) (kk : ∀ b, A b → J p l e R s m args below meth c Q E nL M kc ks (pc + 3) lo (.ref b :: st)) : J p l e R s m args below meth c Q E nL M kc ks pc lo (.ref a :: st) := by
  obtain ⟨h1, b, h2, h3⟩ := h
  exact j_get (k := 2) (v := .ref b) C co_X4 (Or.inr ⟨_, nw_106⟩) rfl h1 (by rw [fv_2, h2]; rfl) d (kk b h3)
theorem gf_X7_238 (C : Cx p l s m args meth c cc nL RX7 ret E) {a : Nat} {A : Nat → Prop} (d : decode cc pc = .ok (.getfield 238, 3)) (h : zk M a = 4 ∧ ∃ b, zR M a 3 = some b ∧ A b) (kk : ∀ b, A b → J p l e R s m args below meth c Q E nL M kc ks (pc + 3) lo (.ref b :: st)) : J p l e R s m args below meth c Q E nL M kc ks pc lo (.ref a :: st) := by
  obtain ⟨h1, b, h2, h3⟩ := h
  exact j_get (k := 3) (v := .ref b) C co_X4 (Or.inr ⟨_, nw_108⟩) rfl h1 (by rw [fv_2, h2]; rfl) d (kk b h3)
theorem gf_X7_241 (C : Cx p l s m args meth c cc nL RX7 ret E) {a : Nat} {A : Nat → Prop} (d : decode cc pc = .ok (.getfield 241, 3)) (h : zk M a = 4 ∧ ∃ b, zR M a 4 = some b ∧ A b) (kk : ∀ b, A b → J p l e R s m args below meth c Q E nL M kc ks (pc + 3) lo (.ref b :: st)) : J p l e R s m args below meth c Q E nL M kc ks pc lo (.ref a :: st) := by
  obtain ⟨h1, b, h2, h3⟩ := h
  exact j_get (k := 4) (v := .ref b) C co_X4 (Or.inr ⟨_, nw_111⟩) rfl h1 (by rw [fv_2, h2]; rfl) d (kk b h3)
theorem gf_X7_324 (C : Cx p l s m args meth c cc nL RX7 ret E) {a : Nat} {A : Nat → Prop} (d : decode cc pc = .ok (.getfield 324, 3)) (h : zk M a = 1 ∧ ∃ b, zR M a 0 = some b ∧ A b) (kk : ∀ b, A b → J p l e R s m args below meth c Q E nL M kc ks (pc + 3) lo (.ref b :: st)) : J p l e R s m args below meth c Q E nL M kc ks pc lo (.ref a :: st) := by
  obtain ⟨h1, b, h2, h3⟩ := h
  exact j_get (k := 0) (v := .ref b) C co_X0 (Or.inr ⟨_, nw_81⟩) rfl h1 (by rw [fv_2, h2]; rfl) d (kk b h3)
theorem th_X7_125 : ∀ w ∈ vx_at0 RX7 125 "java/lang/IllegalArgumentException" ["java/lang/RuntimeException", "java/lang/Exception"], w ∈ TB ∨ w ∈ NW := th_of (by decide +kernel)
theorem th_X7_361 : ∀ w ∈ vx_at0 RX7 361 "java/lang/IndexOutOfBoundsException" ["java/lang/RuntimeException", "java/lang/Exception"], w ∈ TB ∨ w ∈ NW := th_of (by decide +kernel)
theorem th_X7_364 : ∀ w ∈ vx_at0 RX7 364 "java/lang/IllegalStateException" ["java/lang/RuntimeException", "java/lang/Exception"], w ∈ TB ∨ w ∈ NW := th_of (by decide +kernel)
theorem gf_J0_9 (C : Cx p l s m args meth c cc nL RJ0 ret E) {a : Nat} {A : Nat → Prop} (d : decode cc pc = .ok (.getfield 9, 3)) (h : zk M a = 17 ∧ ∃ b, zR M a 0 = some b ∧ A b) (kk : ∀ b, A b → J p l e R s m args below meth c Q E nL M kc ks (pc + 3) lo (.ref b :: st)) : J p l e R s m args below meth c Q E nL M kc ks pc lo (.ref a :: st) := by
  obtain ⟨h1, b, h2, h3⟩ := h
  exact j_get (k := 0) (v := .ref b) C co_J0 (Or.inl wd_600) rfl h1 (by rw [fv_2, h2]; rfl) d (kk b h3)
theorem pf_J0_9 (C : Cx p l s m args meth c cc nL RJ0 ret E) (hnm : meth.name = "<init>") {a : Nat} {x : Nat} {A : Mm → Prop} (d : decode cc pc = .ok (.putfield 9, 3)) (h : zk M a = 17 ∧ ∀ M', M' = sR M a 0 (some x) → A M') (kk : ∀ M', A M' → J p l e R s m args below meth c Q E nL M' kc ks (pc + 3) lo st) : J p l e R s m args below meth c Q E nL M kc ks pc lo (.ref x :: .ref a :: st) :=
  j_putF (M' := sR M a 0 (some x)) (k := 0) C hnm rfl co_J0 wd_600 rfl h.1 rfl rfl rfl rfl rfl (fun b hb => sR_o hb) fv_sR_eq fv_sR d (kk _ (h.2 _ rfl))
theorem gf_J0_15 (C : Cx p l s m args meth c cc nL RJ0 ret E) {a : Nat} {A : Prop} (d : decode cc pc = .ok (.getfield 15, 3)) (h : zk M a = 17 ∧ A) (kk : A → J p l e R s m args below meth c Q E nL M kc ks (pc + 3) lo (.int (zI M a 1) :: st)) : J p l e R s m args below meth c Q E nL M kc ks pc lo (.ref a :: st) :=
  j_get (k := 1) C co_J0 (Or.inl wd_601) rfl h.1 rfl d (kk h.2)
theorem pf_J0_15 (C : Cx p l s m args meth c cc nL RJ0 ret E) (hnm : meth.name = "<init>") {a : Nat} {x : Int32} {A : Mm → Prop} (d : decode cc pc = .ok (.putfield 15, 3)) (h : zk M a = 17 ∧ (narrow .byte (.int x) = .int x ∧ fits .byte (.int x) = true) ∧ ∀ M', M' = sI M a 1 x → A M') (kk : ∀ M', A M' → J p l e R s m args below meth c Q E nL M' kc ks (pc + 3) lo st) : J p l e R s m args below meth c Q E nL M kc ks pc lo (.int x :: .ref a :: st) :=
  j_putF (M' := sI M a 1 x) (k := 1) C hnm rfl co_J0 wd_601 rfl h.1 rfl h.2.1.1 h.2.1.2 rfl rfl (fun b hb => sI_o hb) fv_sI_eq fv_sI d (kk _ (h.2.2 _ rfl))
theorem gf_J0_1048 (C : Cx p l s m args meth c cc nL RJ0 ret E) {a : Nat} {A : Prop} (d : decode cc pc = .ok (.getfield 1048, 3)) (h : zk M a = 16 ∧ A) (kk : A → J p l e R s m args below meth c Q E nL M kc ks (pc + 3) lo (.int (zI M a 2) :: st)) : J p l e R s m args below meth c Q E nL M kc ks pc lo (.ref a :: st) :=
  j_get (k := 2) C co_J4 (Or.inl wd_318) rfl h.1 rfl d (kk h.2)
theorem gf_J5_15 (C : Cx p l s m args meth c cc nL RJ5 ret E) {a : Nat} {A : Nat → Prop} (d : decode cc pc = .ok (.getfield 15, 3)) (h : zk M a = 16 ∧ ∃ b, zR M a 0 = some b ∧ A b) (kk : ∀ b, A b → J p l e R s m args below meth c Q E nL M kc ks (pc + 3) lo (.ref b :: st)) : J p l e R s m args below meth c Q E nL M kc ks pc lo (.ref a :: st) := by
  obtain ⟨h1, b, h2, h3⟩ := h
  exact j_get (k := 0) (v := .ref b) C co_J4 (Or.inl wd_316) rfl h1 (by rw [fv_2, h2]; rfl) d (kk b h3)
theorem pf_J5_15 (C : Cx p l s m args meth c cc nL RJ5 ret E) {a : Nat} {x : Nat} {A : Mm → Prop} (d : decode cc pc = .ok (.putfield 15, 3)) (h : zk M a = 16 ∧ ∀ M', M' = sR M a 0 (some x) → A M') (kk : ∀ M', A M' → J p l e R s m args below meth c Q E nL M' kc ks (pc + 3) lo st) : J p l e R s m args below meth c Q E nL M kc ks pc lo (.ref x :: .ref a :: st) :=
  j_put (M' := sR M a 0 (some x)) (k := 0) C co_J4 (Or.inl wd_316) rfl h.1 rfl rfl rfl rfl rfl (fun b hb => sR_o hb) fv_sR_eq fv_sR d (kk _ (h.2 _ rfl))
theorem gf_J5_22 (C : Cx p l s m args meth c cc nL RJ5 ret E) {a : Nat} {A : Prop} (d : decode cc pc = .ok (.getfield 22, 3)) (h : zk M a = 16 ∧ A) (kk : A → J p l e R s m args below meth c Q E nL M kc ks (pc + 3) lo (.int (zI M a 1) :: st)) : J p l e R s m args below meth c Q E nL M kc ks pc lo (.ref a :: st) :=
  j_get (k := 1) C co_J4 (Or.inl wd_317) rfl h.1 rfl d (kk h.2)
theorem pf_J5_22 (C : Cx p l s m args meth c cc nL RJ5 ret E) {a : Nat} {x : Int32} {A : Mm → Prop} (d : decode cc pc = .ok (.putfield 22, 3)) (h : zk M a = 16 ∧ (narrow .byte (.int x) = .int x ∧ fits .byte (.int x) = true) ∧ ∀ M', M' = sI M a 1 x → A M') (kk : ∀ M', A M' → J p l e R s m args below meth c Q E nL M' kc ks (pc + 3) lo st) : J p l e R s m args below meth c Q E nL M kc ks pc lo (.int x :: .ref a :: st) :=
  j_put (M' := sI M a 1 x) (k := 1) C co_J4 (Or.inl wd_317) rfl h.1 rfl h.2.1.1 h.2.1.2 rfl rfl (fun b hb => sI_o hb) fv_sI_eq fv_sI d (kk _ (h.2.2 _ rfl))
theorem gf_J5_79 (C : Cx p l s m args meth c cc nL RJ5 ret E) {a : Nat} {A : Prop} (d : decode cc pc = .ok (.getfield 79, 3)) (h : zk M a = 16 ∧ A) (kk : A → J p l e R s m args below meth c Q E nL M kc ks (pc + 3) lo (.int (zI M a 3) :: st)) : J p l e R s m args below meth c Q E nL M kc ks pc lo (.ref a :: st) :=
  j_get (k := 3) C co_J4 (Or.inl wd_319) rfl h.1 rfl d (kk h.2)
theorem pf_J5_79 (C : Cx p l s m args meth c cc nL RJ5 ret E) {a : Nat} {x : Int32} {A : Mm → Prop} (d : decode cc pc = .ok (.putfield 79, 3)) (h : zk M a = 16 ∧ ∀ M', M' = sI M a 3 x → A M') (kk : ∀ M', A M' → J p l e R s m args below meth c Q E nL M' kc ks (pc + 3) lo st) : J p l e R s m args below meth c Q E nL M kc ks pc lo (.int x :: .ref a :: st) :=
  j_put (M' := sI M a 3 x) (k := 3) C co_J4 (Or.inl wd_319) rfl h.1 rfl rfl rfl rfl rfl (fun b hb => sI_o hb) fv_sI_eq fv_sI d (kk _ (h.2 _ rfl))
theorem gf_L_43 (C : Cx p l s m args meth c cc nL RL ret E) {a : Nat} {A : Prop} (d : decode cc pc = .ok (.getfield 43, 3)) (h : zk M a = 8 ∧ A) (kk : A → J p l e R s m args below meth c Q E nL M kc ks (pc + 3) lo (.int (zI M a 0) :: st)) : J p l e R s m args below meth c Q E nL M kc ks pc lo (.ref a :: st) :=
  j_get (k := 0) C co_X8 (Or.inr ⟨_, nw_342⟩) rfl h.1 rfl d (kk h.2)
theorem pf_L_43 (C : Cx p l s m args meth c cc nL RL ret E) {a : Nat} {x : Int32} {A : Mm → Prop} (d : decode cc pc = .ok (.putfield 43, 3)) (h : zk M a = 8 ∧ ∀ M', M' = sI M a 0 x → A M') (kk : ∀ M', A M' → J p l e R s m args below meth c Q E nL M' kc ks (pc + 3) lo st) : J p l e R s m args below meth c Q E nL M kc ks pc lo (.int x :: .ref a :: st) :=
  j_put (M' := sI M a 0 x) (k := 0) C co_X8 (Or.inr ⟨_, nw_342⟩) rfl h.1 rfl rfl rfl rfl rfl (fun b hb => sI_o hb) fv_sI_eq fv_sI d (kk _ (h.2 _ rfl))
theorem gf_L_60 (C : Cx p l s m args meth c cc nL RL ret E) {a : Nat} {A : Prop} (d : decode cc pc = .ok (.getfield 60, 3)) (h : zk M a = 8 ∧ A) (kk : A → J p l e R s m args below meth c Q E nL M kc ks (pc + 3) lo (.int (zI M a 1) :: st)) : J p l e R s m args below meth c Q E nL M kc ks pc lo (.ref a :: st) :=
  j_get (k := 1) C co_X8 (Or.inr ⟨_, nw_343⟩) rfl h.1 rfl d (kk h.2)
theorem pf_L_60 (C : Cx p l s m args meth c cc nL RL ret E) {a : Nat} {x : Int32} {A : Mm → Prop} (d : decode cc pc = .ok (.putfield 60, 3)) (h : zk M a = 8 ∧ ∀ M', M' = sI M a 1 x → A M') (kk : ∀ M', A M' → J p l e R s m args below meth c Q E nL M' kc ks (pc + 3) lo st) : J p l e R s m args below meth c Q E nL M kc ks pc lo (.int x :: .ref a :: st) :=
  j_put (M' := sI M a 1 x) (k := 1) C co_X8 (Or.inr ⟨_, nw_343⟩) rfl h.1 rfl rfl rfl rfl rfl (fun b hb => sI_o hb) fv_sI_eq fv_sI d (kk _ (h.2 _ rfl))
theorem gf_L_63 (C : Cx p l s m args meth c cc nL RL ret E) {a : Nat} {A : Nat → Prop} (d : decode cc pc = .ok (.getfield 63, 3)) (h : zk M a = 8 ∧ ∃ b, zR M a 7 = some b ∧ A b) (kk : ∀ b, A b → J p l e R s m args below meth c Q E nL M kc ks (pc + 3) lo (.ref b :: st)) : J p l e R s m args below meth c Q E nL M kc ks pc lo (.ref a :: st) := by
  obtain ⟨h1, b, h2, h3⟩ := h
  exact j_get (k := 7) (v := .ref b) C co_X8 (Or.inr ⟨_, nw_354⟩) rfl h1 (by rw [fv_2, h2]; rfl) d (kk b h3)
theorem gf_L_73 (C : Cx p l s m args meth c cc nL RL ret E) {a : Nat} {A : Prop} (d : decode cc pc = .ok (.getfield 73, 3)) (h : zk M a = 8 ∧ A) (kk : A → J p l e R s m args below meth c Q E nL M kc ks (pc + 3) lo (.int (zI M a 2) :: st)) : J p l e R s m args below meth c Q E nL M kc ks pc lo (.ref a :: st) :=
  j_get (k := 2) C co_X8 (Or.inr ⟨_, nw_345⟩) rfl h.1 rfl d (kk h.2)
theorem pf_L_73 (C : Cx p l s m args meth c cc nL RL ret E) {a : Nat} {x : Int32} {A : Mm → Prop} (d : decode cc pc = .ok (.putfield 73, 3)) (h : zk M a = 8 ∧ ∀ M', M' = sI M a 2 x → A M') (kk : ∀ M', A M' → J p l e R s m args below meth c Q E nL M' kc ks (pc + 3) lo st) : J p l e R s m args below meth c Q E nL M kc ks pc lo (.int x :: .ref a :: st) :=
  j_put (M' := sI M a 2 x) (k := 2) C co_X8 (Or.inr ⟨_, nw_345⟩) rfl h.1 rfl rfl rfl rfl rfl (fun b hb => sI_o hb) fv_sI_eq fv_sI d (kk _ (h.2 _ rfl))
theorem gf_L_76 (C : Cx p l s m args meth c cc nL RL ret E) {a : Nat} {A : Nat → Prop} (d : decode cc pc = .ok (.getfield 76, 3)) (h : zk M a = 8 ∧ ∃ b, zR M a 9 = some b ∧ A b) (kk : ∀ b, A b → J p l e R s m args below meth c Q E nL M kc ks (pc + 3) lo (.ref b :: st)) : J p l e R s m args below meth c Q E nL M kc ks pc lo (.ref a :: st) := by
  obtain ⟨h1, b, h2, h3⟩ := h
  exact j_get (k := 9) (v := .ref b) C co_X8 (Or.inr ⟨_, nw_358⟩) rfl h1 (by rw [fv_2, h2]; rfl) d (kk b h3)
theorem gf_L_79 (C : Cx p l s m args meth c cc nL RL ret E) {a : Nat} {A : Nat → Prop} (d : decode cc pc = .ok (.getfield 79, 3)) (h : zk M a = 8 ∧ ∃ b, zR M a 8 = some b ∧ A b) (kk : ∀ b, A b → J p l e R s m args below meth c Q E nL M kc ks (pc + 3) lo (.ref b :: st)) : J p l e R s m args below meth c Q E nL M kc ks pc lo (.ref a :: st) := by
  obtain ⟨h1, b, h2, h3⟩ := h
  exact j_get (k := 8) (v := .ref b) C co_X8 (Or.inr ⟨_, nw_356⟩) rfl h1 (by rw [fv_2, h2]; rfl) d (kk b h3)
theorem gf_L_84 (C : Cx p l s m args meth c cc nL RL ret E) {a : Nat} {A : Prop} (d : decode cc pc = .ok (.getfield 84, 3)) (h : zk M a = 8 ∧ A) (kk : A → J p l e R s m args below meth c Q E nL M kc ks (pc + 3) lo (.int (zI M a 4) :: st)) : J p l e R s m args below meth c Q E nL M kc ks pc lo (.ref a :: st) :=
  j_get (k := 4) C co_X8 (Or.inr ⟨_, nw_348⟩) rfl h.1 rfl d (kk h.2)
theorem pf_L_84 (C : Cx p l s m args meth c cc nL RL ret E) {a : Nat} {x : Int32} {A : Mm → Prop} (d : decode cc pc = .ok (.putfield 84, 3)) (h : zk M a = 8 ∧ ∀ M', M' = sI M a 4 x → A M') (kk : ∀ M', A M' → J p l e R s m args below meth c Q E nL M' kc ks (pc + 3) lo st) : J p l e R s m args below meth c Q E nL M kc ks pc lo (.int x :: .ref a :: st) :=
  j_put (M' := sI M a 4 x) (k := 4) C co_X8 (Or.inr ⟨_, nw_348⟩) rfl h.1 rfl rfl rfl rfl rfl (fun b hb => sI_o hb) fv_sI_eq fv_sI d (kk _ (h.2 _ rfl))
theorem gf_L_96 (C : Cx p l s m args meth c cc nL RL ret E) {a : Nat} {A : Nat → Prop} (d : decode cc pc = .ok (.getfield 96, 3)) (h : zk M a = 8 ∧ ∃ b, zR M a 11 = some b ∧ A b) (kk : ∀ b, A b → J p l e R s m args below meth c Q E nL M kc ks (pc + 3) lo (.ref b :: st)) : J p l e R s m args below meth c Q E nL M kc ks pc lo (.ref a :: st) := by
  obtain ⟨h1, b, h2, h3⟩ := h
  exact j_get (k := 11) (v := .ref b) C co_X8 (Or.inr ⟨_, nw_362⟩) rfl h1 (by rw [fv_2, h2]; rfl) d (kk b h3)
theorem gf_L_100 (C : Cx p l s m args meth c cc nL RL ret E) {a : Nat} {A : Prop} (d : decode cc pc = .ok (.getfield 100, 3)) (h : zk M a = 8 ∧ A) (kk : A → J p l e R s m args below meth c Q E nL M kc ks (pc + 3) lo (.int (zI M a 3) :: st)) : J p l e R s m args below meth c Q E nL M kc ks pc lo (.ref a :: st) :=
  j_get (k := 3) C co_X8 (Or.inr ⟨_, nw_346⟩) rfl h.1 rfl d (kk h.2)
theorem pf_L_100 (C : Cx p l s m args meth c cc nL RL ret E) {a : Nat} {x : Int32} {A : Mm → Prop} (d : decode cc pc = .ok (.putfield 100, 3)) (h : zk M a = 8 ∧ ∀ M', M' = sI M a 3 x → A M') (kk : ∀ M', A M' → J p l e R s m args below meth c Q E nL M' kc ks (pc + 3) lo st) : J p l e R s m args below meth c Q E nL M kc ks pc lo (.int x :: .ref a :: st) :=
  j_put (M' := sI M a 3 x) (k := 3) C co_X8 (Or.inr ⟨_, nw_346⟩) rfl h.1 rfl rfl rfl rfl rfl (fun b hb => sI_o hb) fv_sI_eq fv_sI d (kk _ (h.2 _ rfl))
theorem gf_L_103 (C : Cx p l s m args meth c cc nL RL ret E) {a : Nat} {A : Nat → Prop} (d : decode cc pc = .ok (.getfield 103, 3)) (h : zk M a = 8 ∧ ∃ b, zR M a 12 = some b ∧ A b) (kk : ∀ b, A b → J p l e R s m args below meth c Q E nL M kc ks (pc + 3) lo (.ref b :: st)) : J p l e R s m args below meth c Q E nL M kc ks pc lo (.ref a :: st) := by
  obtain ⟨h1, b, h2, h3⟩ := h
  exact j_get (k := 12) (v := .ref b) C co_X8 (Or.inr ⟨_, nw_364⟩) rfl h1 (by rw [fv_2, h2]; rfl) d (kk b h3)
theorem gf_L_106 (C : Cx p l s m args meth c cc nL RL ret E) {a : Nat} {A : Nat → Prop} (d : decode cc pc = .ok (.getfield 106, 3)) (h : zk M a = 8 ∧ ∃ b, zR M a 13 = some b ∧ A b) (kk : ∀ b, A b → J p l e R s m args below meth c Q E nL M kc ks (pc + 3) lo (.ref b :: st)) : J p l e R s m args below meth c Q E nL M kc ks pc lo (.ref a :: st) := by
  obtain ⟨h1, b, h2, h3⟩ := h
  exact j_get (k := 13) (v := .ref b) C co_X8 (Or.inr ⟨_, nw_366⟩) rfl h1 (by rw [fv_2, h2]; rfl) d (kk b h3)
theorem gf_L_111 (C : Cx p l s m args meth c cc nL RL ret E) {a : Nat} {A : Nat → Prop} (d : decode cc pc = .ok (.getfield 111, 3)) (h : zk M a = 8 ∧ ∃ b, zR M a 10 = some b ∧ A b) (kk : ∀ b, A b → J p l e R s m args below meth c Q E nL M kc ks (pc + 3) lo (.ref b :: st)) : J p l e R s m args below meth c Q E nL M kc ks pc lo (.ref a :: st) := by
  obtain ⟨h1, b, h2, h3⟩ := h
  exact j_get (k := 10) (v := .ref b) C co_X8 (Or.inr ⟨_, nw_360⟩) rfl h1 (by rw [fv_2, h2]; rfl) d (kk b h3)
theorem gf_L_116 (C : Cx p l s m args meth c cc nL RL ret E) {a : Nat} {A : Prop} (d : decode cc pc = .ok (.getfield 116, 3)) (h : zk M a = 8 ∧ A) (kk : A → J p l e R s m args below meth c Q E nL M kc ks (pc + 3) lo (.int (zI M a 5) :: st)) : J p l e R s m args below meth c Q E nL M kc ks pc lo (.ref a :: st) :=
  j_get (k := 5) C co_X8 (Or.inr ⟨_, nw_349⟩) rfl h.1 rfl d (kk h.2)
theorem pf_L_116 (C : Cx p l s m args meth c cc nL RL ret E) {a : Nat} {x : Int32} {A : Mm → Prop} (d : decode cc pc = .ok (.putfield 116, 3)) (h : zk M a = 8 ∧ ∀ M', M' = sI M a 5 x → A M') (kk : ∀ M', A M' → J p l e R s m args below meth c Q E nL M' kc ks (pc + 3) lo st) : J p l e R s m args below meth c Q E nL M kc ks pc lo (.int x :: .ref a :: st) :=
  j_put (M' := sI M a 5 x) (k := 5) C co_X8 (Or.inr ⟨_, nw_349⟩) rfl h.1 rfl rfl rfl rfl rfl (fun b hb => sI_o hb) fv_sI_eq fv_sI d (kk _ (h.2 _ rfl))
theorem gf_L_155 (C : Cx p l s m args meth c cc nL RL ret E) {a : Nat} {A : Prop} (d : decode cc pc = .ok (.getfield 155, 3)) (h : zk M a = 8 ∧ A) (kk : A → J p l e R s m args below meth c Q E nL M kc ks (pc + 3) lo (.int (zI M a 6) :: st)) : J p l e R s m args below meth c Q E nL M kc ks pc lo (.ref a :: st) :=
  j_get (k := 6) C co_X8 (Or.inr ⟨_, nw_352⟩) rfl h.1 rfl d (kk h.2)
theorem pf_L_155 (C : Cx p l s m args meth c cc nL RL ret E) {a : Nat} {x : Int32} {A : Mm → Prop} (d : decode cc pc = .ok (.putfield 155, 3)) (h : zk M a = 8 ∧ ∀ M', M' = sI M a 6 x → A M') (kk : ∀ M', A M' → J p l e R s m args below meth c Q E nL M' kc ks (pc + 3) lo st) : J p l e R s m args below meth c Q E nL M kc ks pc lo (.int x :: .ref a :: st) :=
  j_put (M' := sI M a 6 x) (k := 6) C co_X8 (Or.inr ⟨_, nw_352⟩) rfl h.1 rfl rfl rfl rfl rfl (fun b hb => sI_o hb) fv_sI_eq fv_sI d (kk _ (h.2 _ rfl))
theorem gf_L_158 (C : Cx p l s m args meth c cc nL RL ret E) {a : Nat} {A : Nat → Prop} (d : decode cc pc = .ok (.getfield 158, 3)) (h : zk M a = 8 ∧ ∃ b, zR M a 15 = some b ∧ A b) (kk : ∀ b, A b → J p l e R s m args below meth c Q E nL M kc ks (pc + 3) lo (.ref b :: st)) : J p l e R s m args below meth c Q E nL M kc ks pc lo (.ref a :: st) := by
  obtain ⟨h1, b, h2, h3⟩ := h
  exact j_get (k := 15) (v := .ref b) C co_X8 (Or.inr ⟨_, nw_370⟩) rfl h1 (by rw [fv_2, h2]; rfl) d (kk b h3)
theorem gf_L_173 (C : Cx p l s m args meth c cc nL RL ret E) {a : Nat} {A : Nat → Prop} (d : decode cc pc = .ok (.getfield 173, 3)) (h : zk M a = 8 ∧ ∃ b, zR M a 14 = some b ∧ A b) (kk : ∀ b, A b → J p l e R s m args below meth c Q E nL M kc ks (pc + 3) lo (.ref b :: st)) : J p l e R s m args below meth c Q E nL M kc ks pc lo (.ref a :: st) := by
  obtain ⟨h1, b, h2, h3⟩ := h
  exact j_get (k := 14) (v := .ref b) C co_X8 (Or.inr ⟨_, nw_368⟩) rfl h1 (by rw [fv_2, h2]; rfl) d (kk b h3)
theorem gf_X8_7 (C : Cx p l s m args meth c cc nL RX8 ret E) {a : Nat} {A : Nat → Prop} (d : decode cc pc = .ok (.getfield 7, 3)) (h : zk M a = 8 ∧ ∃ b, zR M a 7 = some b ∧ A b) (kk : ∀ b, A b → J p l e R s m args below meth c Q E nL M kc ks (pc + 3) lo (.ref b :: st)) : J p l e R s m args below meth c Q E nL M kc ks pc lo (.ref a :: st) := by
  obtain ⟨h1, b, h2, h3⟩ := h
  exact j_get (k := 7) (v := .ref b) C co_X8 (Or.inl wd_353) rfl h1 (by rw [fv_2, h2]; rfl) d (kk b h3)
theorem pf_X8_7 (C : Cx p l s m args meth c cc nL RX8 ret E) (hnm : meth.name = "<init>") {a : Nat} {x : Nat} {A : Mm → Prop} (d : decode cc pc = .ok (.putfield 7, 3)) (h : zk M a = 8 ∧ ∀ M', M' = sR M a 7 (some x) → A M') (kk : ∀ M', A M' → J p l e R s m args below meth c Q E nL M' kc ks (pc + 3) lo st) : J p l e R s m args below meth c Q E nL M kc ks pc lo (.ref x :: .ref a :: st) :=
  j_putF (M' := sR M a 7 (some x)) (k := 7) C hnm rfl co_X8 wd_353 rfl h.1 rfl rfl rfl rfl rfl (fun b hb => sR_o hb) fv_sR_eq fv_sR d (kk _ (h.2 _ rfl))
theorem gf_X8_13 (C : Cx p l s m args meth c cc nL RX8 ret E) {a : Nat} {A : Nat → Prop} (d : decode cc pc = .ok (.getfield 13, 3)) (h : zk M a = 8 ∧ ∃ b, zR M a 8 = some b ∧ A b) (kk : ∀ b, A b → J p l e R s m args below meth c Q E nL M kc ks (pc + 3) lo (.ref b :: st)) : J p l e R s m args below meth c Q E nL M kc ks pc lo (.ref a :: st) := by
  obtain ⟨h1, b, h2, h3⟩ := h
  exact j_get (k := 8) (v := .ref b) C co_X8 (Or.inl wd_355) rfl h1 (by rw [fv_2, h2]; rfl) d (kk b h3)
theorem pf_X8_13 (C : Cx p l s m args meth c cc nL RX8 ret E) (hnm : meth.name = "<init>") {a : Nat} {x : Nat} {A : Mm → Prop} (d : decode cc pc = .ok (.putfield 13, 3)) (h : zk M a = 8 ∧ ∀ M', M' = sR M a 8 (some x) → A M') (kk : ∀ M', A M' → J p l e R s m args below meth c Q E nL M' kc ks (pc + 3) lo st) : J p l e R s m args below meth c Q E nL M kc ks pc lo (.ref x :: .ref a :: st) :=
  j_putF (M' := sR M a 8 (some x)) (k := 8) C hnm rfl co_X8 wd_355 rfl h.1 rfl rfl rfl rfl rfl (fun b hb => sR_o hb) fv_sR_eq fv_sR d (kk _ (h.2 _ rfl))
theorem gf_X8_16 (C : Cx p l s m args meth c cc nL RX8 ret E) {a : Nat} {A : Nat → Prop} (d : decode cc pc = .ok (.getfield 16, 3)) (h : zk M a = 8 ∧ ∃ b, zR M a 9 = some b ∧ A b) (kk : ∀ b, A b → J p l e R s m args below meth c Q E nL M kc ks (pc + 3) lo (.ref b :: st)) : J p l e R s m args below meth c Q E nL M kc ks pc lo (.ref a :: st) := by
  obtain ⟨h1, b, h2, h3⟩ := h
  exact j_get (k := 9) (v := .ref b) C co_X8 (Or.inl wd_357) rfl h1 (by rw [fv_2, h2]; rfl) d (kk b h3)
theorem pf_X8_16 (C : Cx p l s m args meth c cc nL RX8 ret E) (hnm : meth.name = "<init>") {a : Nat} {x : Nat} {A : Mm → Prop} (d : decode cc pc = .ok (.putfield 16, 3)) (h : zk M a = 8 ∧ ∀ M', M' = sR M a 9 (some x) → A M') (kk : ∀ M', A M' → J p l e R s m args below meth c Q E nL M' kc ks (pc + 3) lo st) : J p l e R s m args below meth c Q E nL M kc ks pc lo (.ref x :: .ref a :: st) :=
  j_putF (M' := sR M a 9 (some x)) (k := 9) C hnm rfl co_X8 wd_357 rfl h.1 rfl rfl rfl rfl rfl (fun b hb => sR_o hb) fv_sR_eq fv_sR d (kk _ (h.2 _ rfl))
theorem gf_X8_19 (C : Cx p l s m args meth c cc nL RX8 ret E) {a : Nat} {A : Nat → Prop} (d : decode cc pc = .ok (.getfield 19, 3)) (h : zk M a = 8 ∧ ∃ b, zR M a 10 = some b ∧ A b) (kk : ∀ b, A b → J p l e R s m args below meth c Q E nL M kc ks (pc + 3) lo (.ref b :: st)) : J p l e R s m args below meth c Q E nL M kc ks pc lo (.ref a :: st) := by
  obtain ⟨h1, b, h2, h3⟩ := h
  exact j_get (k := 10) (v := .ref b) C co_X8 (Or.inl wd_359) rfl h1 (by rw [fv_2, h2]; rfl) d (kk b h3)
theorem pf_X8_19 (C : Cx p l s m args meth c cc nL RX8 ret E) (hnm : meth.name = "<init>") {a : Nat} {x : Nat} {A : Mm → Prop} (d : decode cc pc = .ok (.putfield 19, 3)) (h : zk M a = 8 ∧ ∀ M', M' = sR M a 10 (some x) → A M') (kk : ∀ M', A M' → J p l e R s m args below meth c Q E nL M' kc ks (pc + 3) lo st) : J p l e R s m args below meth c Q E nL M kc ks pc lo (.ref x :: .ref a :: st) :=
  j_putF (M' := sR M a 10 (some x)) (k := 10) C hnm rfl co_X8 wd_359 rfl h.1 rfl rfl rfl rfl rfl (fun b hb => sR_o hb) fv_sR_eq fv_sR d (kk _ (h.2 _ rfl))
theorem gf_X8_23 (C : Cx p l s m args meth c cc nL RX8 ret E) {a : Nat} {A : Nat → Prop} (d : decode cc pc = .ok (.getfield 23, 3)) (h : zk M a = 8 ∧ ∃ b, zR M a 11 = some b ∧ A b) (kk : ∀ b, A b → J p l e R s m args below meth c Q E nL M kc ks (pc + 3) lo (.ref b :: st)) : J p l e R s m args below meth c Q E nL M kc ks pc lo (.ref a :: st) := by
  obtain ⟨h1, b, h2, h3⟩ := h
  exact j_get (k := 11) (v := .ref b) C co_X8 (Or.inl wd_361) rfl h1 (by rw [fv_2, h2]; rfl) d (kk b h3)
theorem pf_X8_23 (C : Cx p l s m args meth c cc nL RX8 ret E) (hnm : meth.name = "<init>") {a : Nat} {x : Nat} {A : Mm → Prop} (d : decode cc pc = .ok (.putfield 23, 3)) (h : zk M a = 8 ∧ ∀ M', M' = sR M a 11 (some x) → A M') (kk : ∀ M', A M' → J p l e R s m args below meth c Q E nL M' kc ks (pc + 3) lo st) : J p l e R s m args below meth c Q E nL M kc ks pc lo (.ref x :: .ref a :: st) :=
  j_putF (M' := sR M a 11 (some x)) (k := 11) C hnm rfl co_X8 wd_361 rfl h.1 rfl rfl rfl rfl rfl (fun b hb => sR_o hb) fv_sR_eq fv_sR d (kk _ (h.2 _ rfl))
theorem gf_X8_27 (C : Cx p l s m args meth c cc nL RX8 ret E) {a : Nat} {A : Nat → Prop} (d : decode cc pc = .ok (.getfield 27, 3)) (h : zk M a = 8 ∧ ∃ b, zR M a 12 = some b ∧ A b) (kk : ∀ b, A b → J p l e R s m args below meth c Q E nL M kc ks (pc + 3) lo (.ref b :: st)) : J p l e R s m args below meth c Q E nL M kc ks pc lo (.ref a :: st) := by
  obtain ⟨h1, b, h2, h3⟩ := h
  exact j_get (k := 12) (v := .ref b) C co_X8 (Or.inl wd_363) rfl h1 (by rw [fv_2, h2]; rfl) d (kk b h3)
theorem pf_X8_27 (C : Cx p l s m args meth c cc nL RX8 ret E) (hnm : meth.name = "<init>") {a : Nat} {x : Nat} {A : Mm → Prop} (d : decode cc pc = .ok (.putfield 27, 3)) (h : zk M a = 8 ∧ ∀ M', M' = sR M a 12 (some x) → A M') (kk : ∀ M', A M' → J p l e R s m args below meth c Q E nL M' kc ks (pc + 3) lo st) : J p l e R s m args below meth c Q E nL M kc ks pc lo (.ref x :: .ref a :: st) :=
  j_putF (M' := sR M a 12 (some x)) (k := 12) C hnm rfl co_X8 wd_363 rfl h.1 rfl rfl rfl rfl rfl (fun b hb => sR_o hb) fv_sR_eq fv_sR d (kk _ (h.2 _ rfl))
theorem gf_X8_30 (C : Cx p l s m args meth c cc nL RX8 ret E) {a : Nat} {A : Nat → Prop} (d : decode cc pc = .ok (.getfield 30, 3)) (h : zk M a = 8 ∧ ∃ b, zR M a 13 = some b ∧ A b) (kk : ∀ b, A b → J p l e R s m args below meth c Q E nL M kc ks (pc + 3) lo (.ref b :: st)) : J p l e R s m args below meth c Q E nL M kc ks pc lo (.ref a :: st) := by
  obtain ⟨h1, b, h2, h3⟩ := h
  exact j_get (k := 13) (v := .ref b) C co_X8 (Or.inl wd_365) rfl h1 (by rw [fv_2, h2]; rfl) d (kk b h3)
theorem pf_X8_30 (C : Cx p l s m args meth c cc nL RX8 ret E) (hnm : meth.name = "<init>") {a : Nat} {x : Nat} {A : Mm → Prop} (d : decode cc pc = .ok (.putfield 30, 3)) (h : zk M a = 8 ∧ ∀ M', M' = sR M a 13 (some x) → A M') (kk : ∀ M', A M' → J p l e R s m args below meth c Q E nL M' kc ks (pc + 3) lo st) : J p l e R s m args below meth c Q E nL M kc ks pc lo (.ref x :: .ref a :: st) :=
  j_putF (M' := sR M a 13 (some x)) (k := 13) C hnm rfl co_X8 wd_365 rfl h.1 rfl rfl rfl rfl rfl (fun b hb => sR_o hb) fv_sR_eq fv_sR d (kk _ (h.2 _ rfl))
theorem gf_X8_33 (C : Cx p l s m args meth c cc nL RX8 ret E) {a : Nat} {A : Nat → Prop} (d : decode cc pc = .ok (.getfield 33, 3)) (h : zk M a = 8 ∧ ∃ b, zR M a 14 = some b ∧ A b) (kk : ∀ b, A b → J p l e R s m args below meth c Q E nL M kc ks (pc + 3) lo (.ref b :: st)) : J p l e R s m args below meth c Q E nL M kc ks pc lo (.ref a :: st) := by
  obtain ⟨h1, b, h2, h3⟩ := h
  exact j_get (k := 14) (v := .ref b) C co_X8 (Or.inl wd_367) rfl h1 (by rw [fv_2, h2]; rfl) d (kk b h3)
theorem pf_X8_33 (C : Cx p l s m args meth c cc nL RX8 ret E) {a : Nat} {x : Nat} {A : Mm → Prop} (d : decode cc pc = .ok (.putfield 33, 3)) (h : zk M a = 8 ∧ ∀ M', M' = sR M a 14 (some x) → A M') (kk : ∀ M', A M' → J p l e R s m args below meth c Q E nL M' kc ks (pc + 3) lo st) : J p l e R s m args below meth c Q E nL M kc ks pc lo (.ref x :: .ref a :: st) :=
  j_put (M' := sR M a 14 (some x)) (k := 14) C co_X8 (Or.inl wd_367) rfl h.1 rfl rfl rfl rfl rfl (fun b hb => sR_o hb) fv_sR_eq fv_sR d (kk _ (h.2 _ rfl))
theorem gf_X8_37 (C : Cx p l s m args meth c cc nL RX8 ret E) {a : Nat} {A : Nat → Prop} (d : decode cc pc = .ok (.getfield 37, 3)) (h : zk M a = 8 ∧ ∃ b, zR M a 15 = some b ∧ A b) (kk : ∀ b, A b → J p l e R s m args below meth c Q E nL M kc ks (pc + 3) lo (.ref b :: st)) : J p l e R s m args below meth c Q E nL M kc ks pc lo (.ref a :: st) := by
  obtain ⟨h1, b, h2, h3⟩ := h
  exact j_get (k := 15) (v := .ref b) C co_X8 (Or.inl wd_369) rfl h1 (by rw [fv_2, h2]; rfl) d (kk b h3)
theorem pf_X8_37 (C : Cx p l s m args meth c cc nL RX8 ret E) {a : Nat} {x : Nat} {A : Mm → Prop} (d : decode cc pc = .ok (.putfield 37, 3)) (h : zk M a = 8 ∧ ∀ M', M' = sR M a 15 (some x) → A M') (kk : ∀ M', A M' → J p l e R s m args below meth c Q E nL M' kc ks (pc + 3) lo st) : J p l e R s m args below meth c Q E nL M kc ks pc lo (.ref x :: .ref a :: st) :=
  j_put (M' := sR M a 15 (some x)) (k := 15) C co_X8 (Or.inl wd_369) rfl h.1 rfl rfl rfl rfl rfl (fun b hb => sR_o hb) fv_sR_eq fv_sR d (kk _ (h.2 _ rfl))
theorem gf_X8_41 (C : Cx p l s m args meth c cc nL RX8 ret E) {a : Nat} {A : Prop} (d : decode cc pc = .ok (.getfield 41, 3)) (h : zk M a = 8 ∧ A) (kk : A → J p l e R s m args below meth c Q E nL M kc ks (pc + 3) lo (.int (zI M a 6) :: st)) : J p l e R s m args below meth c Q E nL M kc ks pc lo (.ref a :: st) :=
  j_get (k := 6) C co_X8 (Or.inl wd_351) rfl h.1 rfl d (kk h.2)
theorem pf_X8_41 (C : Cx p l s m args meth c cc nL RX8 ret E) {a : Nat} {x : Int32} {A : Mm → Prop} (d : decode cc pc = .ok (.putfield 41, 3)) (h : zk M a = 8 ∧ ∀ M', M' = sI M a 6 x → A M') (kk : ∀ M', A M' → J p l e R s m args below meth c Q E nL M' kc ks (pc + 3) lo st) : J p l e R s m args below meth c Q E nL M kc ks pc lo (.int x :: .ref a :: st) :=
  j_put (M' := sI M a 6 x) (k := 6) C co_X8 (Or.inl wd_351) rfl h.1 rfl rfl rfl rfl rfl (fun b hb => sI_o hb) fv_sI_eq fv_sI d (kk _ (h.2 _ rfl))
theorem gn_X8_53 (C : Cx p l s m args meth c cc nL RX8 ret E) {a : Nat} {A : Nat → Prop} {B0 : Prop} (d : decode cc pc = .ok (.getfield 53, 3)) (h : zk M a = 8 ∧ (∀ b, zR M a 16 = some b → A b) ∧ (zR M a 16 = none → B0)) (kk : ∀ b, A b → J p l e R s m args below meth c Q E nL M kc ks (pc + 3) lo (.ref b :: st)) (k0 : B0 → J p l e R s m args below meth c Q E nL M kc ks (pc + 3) lo (.null :: st)) : J p l e R s m args below meth c Q E nL M kc ks pc lo (.ref a :: st) := by
  obtain ⟨h1, h2, h3⟩ := h
  cases hz : zR M a 16 with
  | none => exact j_get (k := 16) (v := .null) C co_X8 (Or.inl wd_371) rfl h1 (by rw [fv_2, hz]; rfl) d (k0 (h3 hz))
  | some b => exact j_get (k := 16) (v := .ref b) C co_X8 (Or.inl wd_371) rfl h1 (by rw [fv_2, hz]; rfl) d (kk b (h2 b hz))
theorem pf_X8_53 (C : Cx p l s m args meth c cc nL RX8 ret E) {a : Nat} {x : Nat} {A : Mm → Prop} (d : decode cc pc = .ok (.putfield 53, 3)) (h : zk M a = 8 ∧ ∀ M', M' = sR M a 16 (some x) → A M') (kk : ∀ M', A M' → J p l e R s m args below meth c Q E nL M' kc ks (pc + 3) lo st) : J p l e R s m args below meth c Q E nL M kc ks pc lo (.ref x :: .ref a :: st) :=
  j_put (M' := sR M a 16 (some x)) (k := 16) C co_X8 (Or.inl wd_371) rfl h.1 rfl rfl rfl rfl rfl (fun b hb => sR_o hb) fv_sR_eq fv_sR d (kk _ (h.2 _ rfl))
theorem pn_X8_53 (C : Cx p l s m args meth c cc nL RX8 ret E) {a : Nat}  {A : Mm → Prop} (d : decode cc pc = .ok (.putfield 53, 3)) (h : zk M a = 8 ∧ ∀ M', M' = sR M a 16 none → A M') (kk : ∀ M', A M' → J p l e R s m args below meth c Q E nL M' kc ks (pc + 3) lo st) : J p l e R s m args below meth c Q E nL M kc ks pc lo (.null :: .ref a :: st) :=
  j_put (M' := sR M a 16 none) (k := 16) C co_X8 (Or.inl wd_371) rfl h.1 rfl rfl rfl rfl rfl (fun b hb => sR_o hb) fv_sR_eq fv_sR d (kk _ (h.2 _ rfl))
theorem gf_X8_56 (C : Cx p l s m args meth c cc nL RX8 ret E) {a : Nat} {A : Prop} (d : decode cc pc = .ok (.getfield 56, 3)) (h : zk M a = 8 ∧ A) (kk : A → J p l e R s m args below meth c Q E nL M kc ks (pc + 3) lo (.int (zI M a 17) :: st)) : J p l e R s m args below meth c Q E nL M kc ks pc lo (.ref a :: st) :=
  j_get (k := 17) C co_X8 (Or.inl wd_372) rfl h.1 rfl d (kk h.2)
theorem pf_X8_56 (C : Cx p l s m args meth c cc nL RX8 ret E) {a : Nat} {x : Int32} {A : Mm → Prop} (d : decode cc pc = .ok (.putfield 56, 3)) (h : zk M a = 8 ∧ ∀ M', M' = sI M a 17 x → A M') (kk : ∀ M', A M' → J p l e R s m args below meth c Q E nL M' kc ks (pc + 3) lo st) : J p l e R s m args below meth c Q E nL M kc ks pc lo (.int x :: .ref a :: st) :=
  j_put (M' := sI M a 17 x) (k := 17) C co_X8 (Or.inl wd_372) rfl h.1 rfl rfl rfl rfl rfl (fun b hb => sI_o hb) fv_sI_eq fv_sI d (kk _ (h.2 _ rfl))
theorem gf_X8_63 (C : Cx p l s m args meth c cc nL RX8 ret E) {a : Nat} {A : Prop} (d : decode cc pc = .ok (.getfield 63, 3)) (h : zk M a = 8 ∧ A) (kk : A → J p l e R s m args below meth c Q E nL M kc ks (pc + 3) lo (.int (zI M a 2) :: st)) : J p l e R s m args below meth c Q E nL M kc ks pc lo (.ref a :: st) :=
  j_get (k := 2) C co_X8 (Or.inl wd_344) rfl h.1 rfl d (kk h.2)
theorem gf_X8_77 (C : Cx p l s m args meth c cc nL RX8 ret E) {a : Nat} {A : Prop} (d : decode cc pc = .ok (.getfield 77, 3)) (h : zk M a = 8 ∧ A) (kk : A → J p l e R s m args below meth c Q E nL M kc ks (pc + 3) lo (.int (zI M a 3) :: st)) : J p l e R s m args below meth c Q E nL M kc ks pc lo (.ref a :: st) :=
  j_get (k := 3) C co_X8 (Or.inl wd_347) rfl h.1 rfl d (kk h.2)
theorem gf_X8_110 (C : Cx p l s m args meth c cc nL RX8 ret E) {a : Nat} {A : Prop} (d : decode cc pc = .ok (.getfield 110, 3)) (h : zk M a = 8 ∧ A) (kk : A → J p l e R s m args below meth c Q E nL M kc ks (pc + 3) lo (.int (zI M a 5) :: st)) : J p l e R s m args below meth c Q E nL M kc ks pc lo (.ref a :: st) :=
  j_get (k := 5) C co_X8 (Or.inl wd_350) rfl h.1 rfl d (kk h.2)
end GF
