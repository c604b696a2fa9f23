/-! THE START: what is known of the machine at the law's entry -/
theorem cls_start {s : State} {b : Nat} (hts : ∀ w ∈ lw_tbl, w.before #[Value.ref b] s = true) : ∃ D : va_G, ∀ (c : Nat) (q : vw_C), vwCl[c]? = some q → u_Kn s q.1 q.2.1 q.2.2 (D.1 c) (D.2 c) := by
  have hT : ∀ w ∈ TB, w.before #[Value.ref b] s = true := fun w hw => hts w (List.mem_filter.mp hw).1
  obtain ⟨c0, i0, h0⟩ := u_known (C := RX0) (T := TX0) (N := 3) (n := 3) hT co_X0.2.1 (hts (.instantiable RX0 3) (by decide +kernel))
  obtain ⟨c1, i1, h1⟩ := u_known (C := RX2) (T := TX2) (N := 2) (n := 2) hT co_X2.2.1 (hts (.instantiable RX2 2) (by decide +kernel))
  obtain ⟨c2, i2, h2⟩ := u_known (C := RX3) (T := TX3) (N := 4) (n := 4) hT co_X3.2.1 (hts (.instantiable RX3 4) (by decide +kernel))
  obtain ⟨c3, i3, h3⟩ := u_known (C := RX4) (T := TX4) (N := 7) (n := 7) hT co_X4.2.1 (hts (.instantiable RX4 7) (by decide +kernel))
  obtain ⟨c4, i4, h4⟩ := u_known (C := RX5) (T := TX5) (N := 7) (n := 7) hT co_X5.2.1 (hts (.instantiable RX5 7) (by decide +kernel))
  obtain ⟨c5_, i5, h5⟩ := u_known (C := RX6) (T := TX6) (N := 19) (n := 19) hT co_X6.2.1 (hts (.instantiable RX6 19) (by decide +kernel))
  obtain ⟨c6, i6, h6⟩ := u_known (C := RX7) (T := TX7) (N := 12) (n := 12) hT co_X7.2.1 (hts (.instantiable RX7 12) (by decide +kernel))
  obtain ⟨c7, i7, h7⟩ := u_known (C := RX8) (T := TX8) (N := 28) (n := 28) hT co_X8.2.1 (hts (.instantiable RX8 28) (by decide +kernel))
  refine ⟨(fun k => if k = 0 then c0 else if k = 1 then c1 else if k = 2 then c2 else if k = 3 then c3 else if k = 4 then c4 else if k = 5 then c5_ else if k = 6 then c6 else c7, fun k => if k = 0 then i0 else if k = 1 then i1 else if k = 2 then i2 else if k = 3 then i3 else if k = 4 then i4 else if k = 5 then i5 else if k = 6 then i6 else i7), ?_⟩
  intro c q hq
  match c, hq with
  | 0, hq => cases hq; exact h0
  | 1, hq => cases hq; exact h1
  | 2, hq => cases hq; exact h2
  | 3, hq => cases hq; exact h3
  | 4, hq => cases hq; exact h4
  | 5, hq => cases hq; exact h5
  | 6, hq => cases hq; exact h6
  | 7, hq => cases hq; exact h7
  | k + 8, hq => cases hq
theorem arr_start {s : State} {b : Nat} (hts : ∀ w ∈ lw_tbl, w.before #[Value.ref b] s = true) : ∃ cy : Nat → ClassId, ∀ (k : Nat) (q : ClassId × FieldType), (zTy cy)[k]? = some q → ArrOfT s q.1 q.2 ∧ va_RA s q.1 q.2 := by
  obtain ⟨c9, k9, p9, a9, b9, d9⟩ := Cond.arrayClass_spec (hts (.arrayClass .byte) (by decide +kernel))
  obtain ⟨c10, k10, p10, a10, b10, d10⟩ := Cond.arrayClass_spec (hts (.arrayClass .int) (by decide +kernel))
  obtain ⟨c11, k11, p11, a11, b11, d11⟩ := Cond.arrayClass_spec (hts (.arrayClass .long) (by decide +kernel))
  obtain ⟨c12, k12, p12, a12, b12, d12⟩ := Cond.arrayClass_spec (hts (.arrayClass .boolean) (by decide +kernel))
  obtain ⟨p13, c13, k13, e13, f13, b13, d13, a13⟩ := Cond.arrayOver_spec (hts (.arrayOver (.object RX4)) (by decide +kernel))
  refine ⟨fun k => if k = 9 then c9 else if k = 10 then c10 else if k = 11 then c11 else if k = 12 then c12 else c13, ?_⟩
  intro k q hq
  match k, hq with
  | 0, hq => cases hq; exact ⟨fun n z => ⟨fun k h => (by cases h), k9, b9, p9, d9⟩, a9⟩
  | 1, hq => cases hq; exact ⟨fun n z => ⟨fun k h => (by cases h), k10, b10, p10, d10⟩, a10⟩
  | 2, hq => cases hq; exact ⟨fun n z => ⟨fun k h => (by cases h), k11, b11, p11, d11⟩, a11⟩
  | 3, hq => cases hq; exact ⟨fun n z => ⟨fun k h => (by cases h), k12, b12, p12, d12⟩, a12⟩
  | 4, hq => cases hq; exact ⟨fun n z => ⟨fun k h => (by cases h), k13, b13, p13, d13⟩, k13, p13, b13, d13, e13, a13⟩
  | k + 5, hq => cases hq
def tmS (i : Nat) : Term := .string RX3 ([50, 70, 75, 80, 85, 90].getD i 0)
abbrev FLT : List Cond := flatC (Jvm.Cond.and given_1 narrow_1)
theorem fl_ex : ∀ i, i < 6 → (Cond.exactly (tmS i) "java/lang/String") ∈ FLT := by decide +kernel
theorem fl_co : ∀ i, i < 6 → (Cond.eq (.field (tmS i) "java/lang/String" "coder" "B") (.int 0)) ∈ FLT := by decide +kernel
theorem fl_ar : ∀ i, i < 6 → (Cond.arrayOf (.field (tmS i) "java/lang/String" "value" "[B") .byte) ∈ FLT := by decide +kernel
theorem fl_le : ∀ i, i < 6 → (Cond.eq (.length (.field (tmS i) "java/lang/String" "value" "[B")) (.int (Int32.ofNat (zLen.getD i 0)))) ∈ FLT := by decide +kernel
theorem fl_el : ∀ i, i < 6 → ∀ j, j < zLen.getD i 0 → (Cond.eq (.elem (.field (tmS i) "java/lang/String" "value" "[B") (.int (Int32.ofNat j))) (.int ((zByt.getD i []).getD j 0))) ∈ FLT := by decide +kernel
theorem fl_ne : ∀ i, i < 6 → ∀ j, j < 6 → i ≠ j → (Cond.not (Cond.eq (tmS i) (tmS j))) ∈ FLT ∨ (Cond.not (Cond.eq (tmS j) (tmS i))) ∈ FLT := by decide +kernel
theorem str_start {s : State} {b : Nat} (hts : ∀ w ∈ lw_tbl, w.before #[Value.ref b] s = true) (hs : ∀ c ∈ FLT, c.before #[Value.ref b] s = true) : ∃ adK adV : Nat → Nat, vk_S 6 zLen zByt adK adV (fun q => s.heap.size ≤ q) s s.heap ∧ ∀ q ∈ zRefs, vk_R q.1 q.2.1 q.2.2.2 (adK q.2.2.1) s := by
  obtain ⟨adK, adV, h1, h2⟩ := vk_Sof (args := #[Value.ref b]) (s := s) (N := 6) (tm := tmS) (len := zLen) (byt := zByt) (A := fun q => s.heap.size ≤ q) (by decide) (fun i hi => hs _ (fl_ex i hi)) (fun i hi => hs _ (fl_co i hi)) (fun i hi => hs _ (fl_ar i hi)) (fun i hi => hs _ (fl_le i hi)) (fun i hi j hj => hs _ (fl_el i hi j hj)) (fun i j hi hj hij => (fl_ne i hi j hj hij).imp (hs _) (hs _)) (fun a ha => Nat.not_le.mpr ha)
  refine ⟨adK, adV, h1, ?_⟩
  unfold zRefs
  refine List.forall_mem_cons.mpr ⟨vk_R.of (hts (.stringRef RX3 50 "days") (by decide +kernel)) (h2 0 (by decide)), ?_⟩
  refine List.forall_mem_cons.mpr ⟨vk_R.of (hts (.stringRef RX3 70 "hall") (by decide +kernel)) (h2 1 (by decide)), ?_⟩
  refine List.forall_mem_cons.mpr ⟨vk_R.of (hts (.stringRef RX3 75 "player") (by decide +kernel)) (h2 2 (by decide)), ?_⟩
  refine List.forall_mem_cons.mpr ⟨vk_R.of (hts (.stringRef RX3 80 "absent") (by decide +kernel)) (h2 3 (by decide)), ?_⟩
  refine List.forall_mem_cons.mpr ⟨vk_R.of (hts (.stringRef RX3 85 "work") (by decide +kernel)) (h2 4 (by decide)), ?_⟩
  refine List.forall_mem_cons.mpr ⟨vk_R.of (hts (.stringRef RX3 90 "double") (by decide +kernel)) (h2 5 (by decide)), ?_⟩
  refine List.forall_mem_cons.mpr ⟨vk_R.of (hts (.stringRef RX8 180 "days") (by decide +kernel)) (va_eqR (hs (.eq (.string RX3 50) (.string RX8 180)) (by decide +kernel)) (h2 0 (by decide))), ?_⟩
  refine List.forall_mem_cons.mpr ⟨vk_R.of (hts (.stringRef RX8 146 "hall") (by decide +kernel)) (va_eqR (hs (.eq (.string RX3 70) (.string RX8 146)) (by decide +kernel)) (h2 1 (by decide))), ?_⟩
  refine List.forall_mem_cons.mpr ⟨vk_R.of (hts (.stringRef RX8 156 "player") (by decide +kernel)) (va_eqR (hs (.eq (.string RX3 75) (.string RX8 156)) (by decide +kernel)) (h2 2 (by decide))), ?_⟩
  refine List.forall_mem_cons.mpr ⟨vk_R.of (hts (.stringRef RX8 161 "absent") (by decide +kernel)) (va_eqR (hs (.eq (.string RX3 80) (.string RX8 161)) (by decide +kernel)) (h2 3 (by decide))), ?_⟩
  refine List.forall_mem_cons.mpr ⟨vk_R.of (hts (.stringRef RX8 166 "work") (by decide +kernel)) (va_eqR (hs (.eq (.string RX3 85) (.string RX8 166)) (by decide +kernel)) (h2 4 (by decide))), ?_⟩
  refine List.forall_mem_cons.mpr ⟨vk_R.of (hts (.stringRef RX8 171 "double") (by decide +kernel)) (va_eqR (hs (.eq (.string RX3 90) (.string RX8 171)) (by decide +kernel)) (h2 5 (by decide))), fun _ h => absurd h List.not_mem_nil⟩
theorem kn_start {s : State} {b : Nat} (l : Launch) (hflags : l.flags = flags0) (hts : ∀ w ∈ lw_tbl, w.before #[Value.ref b] s = true) (hs : ∀ c ∈ FLT, c.before #[Value.ref b] s = true) : ∃ E : EV, E.2.2.1 = s.heap.size ∧ Kn l E s := by
  obtain ⟨D, hD⟩ := cls_start hts
  obtain ⟨cy, hcy⟩ := arr_start hts
  obtain ⟨adK, adV, hK, hR⟩ := str_start hts hs
  have hA : ∀ a : Nat, a < s.heap.size → ¬ (fun q => s.heap.size ≤ q) a := fun a ha => Nat.not_le.mpr ha
  refine ⟨(D, cy, s.heap.size, adK, adV), rfl, ?_, ⟨hD, hcy⟩, va_AO.of (hts (.arrayOver (.object RX4)) (by decide +kernel)), fun w hw => va_Nw.of (zNest_tab (List.mem_filter.mp hw).2) (hts w (List.mem_filter.mp hw).1), ⟨?_, ?_⟩, ⟨hK, hR, ?_, ?_⟩, ?_⟩
  · unfold Launch.stackTraces
    rw [hflags]; decide
  · exact vx_Zqof (hts (.laysStatic Bundle.tN "UNASSIGNED_STACK" Bundle.steD) (by decide +kernel)) (hts (.initialized Bundle.tN) (by decide +kernel)) (hs (.isRef (.static Bundle.tN "UNASSIGNED_STACK" Bundle.steD)) (by decide +kernel)) hA
  · exact vx_Zqof (hts (.laysStatic Bundle.tN "SUPPRESSED_SENTINEL" Bundle.listD) (by decide +kernel)) (hts (.initialized Bundle.tN) (by decide +kernel)) (hs (.isRef (.static Bundle.tN "SUPPRESSED_SENTINEL" Bundle.listD)) (by decide +kernel)) hA
  · exact va_Zof (hts (.laysStatic "java/lang/String" "COMPACT_STRINGS" "Z") (by decide +kernel)) (hts (.initialized "java/lang/String") (by decide +kernel)) (va_eqi (hs (.eq (.static "java/lang/String" "COMPACT_STRINGS" "Z") (.int 1)) (by decide +kernel))) hA
  · exact va_Zqof (hts (.laysStatic "jdk/internal/util/Preconditions" "SIOOBE_FORMATTER" "Ljava/util/function/BiFunction;") (by decide +kernel)) (hts (.initialized "jdk/internal/util/Preconditions") (by decide +kernel)) (hs (.isRef (.static "jdk/internal/util/Preconditions" "SIOOBE_FORMATTER" "Ljava/util/function/BiFunction;")) (by decide +kernel)) hA
  · unfold zPairs
    refine List.forall_mem_cons.mpr ⟨va_Nc.of (hs (.not (.castable "java/lang/IllegalArgumentException" "java/lang/IndexOutOfBoundsException")) (by decide +kernel)), ?_⟩
    refine List.forall_mem_cons.mpr ⟨va_Nc.of (hs (.not (.castable "java/lang/IllegalStateException" "java/lang/IndexOutOfBoundsException")) (by decide +kernel)), ?_⟩
    exact List.forall_mem_cons.mpr ⟨va_Nc.of (hs (.not (.castable "java/lang/IllegalStateException" "java/lang/IllegalArgumentException")) (by decide +kernel)), fun _ h => absurd h List.not_mem_nil⟩
/-- THE LAW, from its entry -/
theorem whole_start {p : Program} {e : Env} {s : State} {m : MethodId} {below : List Frame} {meth : Method} {c : Code} (l : Launch) (hflags : l.flags = flags0) {b L : Nat} {xs : Nat → Int32} (hL : L ≤ 3072) (C0 : lw_At p s m meth c b L xs) : W p l e room_1 s m #[Value.ref b] below meth c s.heap [] 0 0 (lw_Z below #[Value.ref b] s) (entryFrame m ([Value.ref b] : List Value).toArray 7) := by
  obtain ⟨hx, hb, hr, hml, hown, hts, hX, hbl, hlocks, hgv⟩ := id C0
  obtain ⟨E, hE, hK⟩ := kn_start l hflags hts (flat_of_before _ hgv)
  have C : Cx p l s m #[Value.ref b] meth c code 7 RL retL E := ⟨hx, hb, hml, hown, fun w hw => hts w (List.mem_filter.mp hw).1, hlocks, hK, Nat.le_of_eq hE, hr⟩
  have hR : Rp E (s.heap.size, fun _ => 0, fun _ => 0, fun _ _ => 0, fun _ _ => 0, fun _ _ => none) s.heap := ⟨rfl, Nat.le_of_eq hE, fun a ha => absurd rfl ha⟩
  exact j_entry (Nat.le_of_ble_eq_true rfl) hR (j_law C hX hbl hE (fun r M h => h) _ (law_ok hL fun M => rfl))
