/-! more rows: remainders, null, arrays of arrays, clone, references as answers -/
section JT
variable {p : Program} {l : Launch} {e : Env} {R : Room} {s : State} {m : MethodId} {args : Array Value} {below : List Frame} {meth : Method} {c : Code} {Q : State → Prop} {cc : ByteArray} {nL : Nat} {own : String} {ret : Option FieldType} {E : EV} {M : Mm} {kc ks mc ms pc : Nat} {lo : List (Nat × Value)} {st rest : List Value}
theorem j_irem (C : Cx p l s m args meth c cc nL own ret E) {x y : Int32} {A : Prop} (d : decode cc pc = .ok (.irem, 1)) (h : ¬ y = 0 ∧ A) (kk : A → J p l e R s m args below meth c Q E nL M kc ks (pc + 1) lo (.int (x - x / y * y) :: st)) : J p l e R s m args below meth c Q E nL M kc ks pc lo (.int y :: .int x :: st) :=
  fun H locs ls hR hS hl => lv_irem C.1 C.2.1 d h.1 (kk h.2 H locs ls hR hS hl)
theorem j_dup_x1 (C : Cx p l s m args meth c cc nL own ret E) {v w : Value} (d : decode cc pc = .ok (.dup_x1, 1)) (hv : v.category = 1) (hw : w.category = 1) (kk : J p l e R s m args below meth c Q E nL M kc ks (pc + 1) lo (v :: w :: v :: st)) : J p l e R s m args below meth c Q E nL M kc ks pc lo (v :: w :: st) :=
  fun H locs ls hR hS hl => lv_dup_x1 C.1 C.2.1 d hv hw (kk H locs ls hR hS hl)
theorem j_null (C : Cx p l s m args meth c cc nL own ret E) (d : decode cc pc = .ok (.aconst_null, 1)) (kk : J p l e R s m args below meth c Q E nL M kc ks (pc + 1) lo (.null :: st)) : J p l e R s m args below meth c Q E nL M kc ks pc lo st :=
  fun H locs ls hR hS hl => lv_null C.1 C.2.1 d (kk H locs ls hR hS hl)
theorem j_ifnullA (C : Cx p l s m args meth c cc nL own ret E) {x : Nat} {off : Int} (d : decode cc pc = .ok (.ifnull off, 3)) (kk : J p l e R s m args below meth c Q E nL M kc ks (pc + 3) lo st) : J p l e R s m args below meth c Q E nL M kc ks pc lo (.ref x :: st) :=
  fun H locs ls hR hS hl => lv_ifnull C.1 C.2.1 d (kk H locs ls hR hS hl)
theorem j_ifnullN (C : Cx p l s m args meth c cc nL own ret E) {off : Int} (tgt : Nat) (d : decode cc pc = .ok (.ifnull off, 3)) (ht : (pc : Int) + off = (tgt : Int)) (kk : J p l e R s m args below meth c Q E nL M kc ks tgt lo st) : J p l e R s m args below meth c Q E nL M kc ks pc lo (.null :: st) :=
  fun H locs ls hR hS hl => lv_ifnullN C.1 C.2.1 d ht (kk H locs ls hR hS hl)
theorem j_ifnnA (C : Cx p l s m args meth c cc nL own ret E) {x : Nat} {off : Int} (tgt : Nat) (d : decode cc pc = .ok (.ifnonnull off, 3)) (ht : (pc : Int) + off = (tgt : Int)) (kk : J p l e R s m args below meth c Q E nL M kc ks tgt lo st) : J p l e R s m args below meth c Q E nL M kc ks pc lo (.ref x :: st) :=
  fun H locs ls hR hS hl => lv_ifnonnull C.1 C.2.1 d ht (kk H locs ls hR hS hl)
theorem j_ifnnN (C : Cx p l s m args meth c cc nL own ret E) {off : Int} (d : decode cc pc = .ok (.ifnonnull off, 3)) (kk : J p l e R s m args below meth c Q E nL M kc ks (pc + 3) lo st) : J p l e R s m args below meth c Q E nL M kc ks pc lo (.null :: st) :=
  fun H locs ls hR hS hl => lv_ifnonnullN C.1 C.2.1 d (kk H locs ls hR hS hl)
/-- arrays of references are read: 14 int[][], 15 int[][][] -/
theorem j_aalq (C : Cx p l s m args meth c cc nL own ret E) {a k : Nat} {i : Int32} (hk : k = 14 ∨ k = 15) (d : decode cc pc = .ok (.aaload, 1)) (h : zk M a = k) (hin : vp_in i (zl M a)) (kk : J p l e R s m args below meth c Q E nL M kc ks (pc + 1) lo (va_rf (zR M a i.toNatClampNeg) :: st)) : J p l e R s m args below meth c Q E nL M kc ks pc lo (.int i :: .ref a :: st) := by
  intro H locs ls hR hS hl
  have hat := hR.cell h (by omega)
  rw [zC_q2 h (by omega)] at hat
  have hK := C.2.2.2.2.2.2.1.2.1
  have hlt : i.toNatClampNeg < zl M a := Nat.not_le.mp fun q => hin (Or.inr q)
  rcases hk with rfl | rfl
  · exact W.aald (v := va_rf (zR M a i.toNatClampNeg)) (ty := .array .int) C.1 C.2.1 hat ((hK.2 5 _ rfl).1 (zl M a) (fun j => va_rf (zR M a j))) rfl (fun q => by cases q) (by show ¬ (i < 0 ∨ (arrV _ _ _).slots.size ≤ _); rw [arrV_size]; exact hin) (by show (arrV _ _ _).slots[_]? = _; rw [arrV_read _ _ hlt]) rfl rfl d (kk H locs ls hR hS hl)
  · exact W.aald (v := va_rf (zR M a i.toNatClampNeg)) (ty := .array (.array .int)) C.1 C.2.1 hat ((hK.2 6 _ rfl).1 (zl M a) (fun j => va_rf (zR M a j))) rfl (fun q => by cases q) (by show ¬ (i < 0 ∨ (arrV _ _ _).slots.size ≤ _); rw [arrV_size]; exact hin) (by show (arrV _ _ _).slots[_]? = _; rw [arrV_read _ _ hlt]) rfl rfl d (kk H locs ls hR hS hl)
theorem j_aals (C : Cx p l s m args meth c cc nL own ret E) {a k : Nat} {i : Int32} {A : Nat → Prop} (hk : k = 14 ∨ k = 15) (d : decode cc pc = .ok (.aaload, 1)) (h : zk M a = k ∧ vp_in i (zl M a) ∧ ∃ b, zR M a i.toNatClampNeg = some b ∧ A b) (kk : ∀ b, A b → J p l e R s m args below meth c Q E nL M kc ks (pc + 1) lo (.ref b :: st)) : J p l e R s m args below meth c Q E nL M kc ks pc lo (.int i :: .ref a :: st) := by
  obtain ⟨h1, h2, b, hb, hA⟩ := h
  refine j_aalq C hk d h1 h2 ?_
  rw [hb]
  exact kk b hA
theorem j_aaln (C : Cx p l s m args meth c cc nL own ret E) {a k : Nat} {i : Int32} {A : Nat → Prop} {B : Prop} (hk : k = 14 ∨ k = 15) (d : decode cc pc = .ok (.aaload, 1)) (h : zk M a = k ∧ vp_in i (zl M a) ∧ (∀ b, zR M a i.toNatClampNeg = some b → A b) ∧ (zR M a i.toNatClampNeg = none → B)) (kk : ∀ b, A b → J p l e R s m args below meth c Q E nL M kc ks (pc + 1) lo (.ref b :: st)) (k0 : B → J p l e R s m args below meth c Q E nL M kc ks (pc + 1) lo (.null :: st)) : J p l e R s m args below meth c Q E nL M kc ks pc lo (.int i :: .ref a :: st) := by
  obtain ⟨h1, h2, h3, h4⟩ := h
  refine j_aalq C hk d h1 h2 ?_
  cases hz : zR M a i.toNatClampNeg with
  | none => exact k0 (h4 hz)
  | some b => exact kk b (h3 b hz)
theorem zAA_k (C : Cx p l s m args meth c cc nL own ret E) : (∃ kA comp, s.vm.classes[E.2.1 14]? = some kA ∧ kA.kind = .array comp (.array .int) ∧ comp = E.2.1 10) ∧ ∃ kA comp, s.vm.classes[E.2.1 15]? = some kA ∧ kA.kind = .array comp (.array (.array .int)) ∧ comp = E.2.1 14 := by
  have hK := C.2.2.2.2.2.2.1.2.1
  obtain ⟨hA, hB⟩ := C.2.2.2.2.2.2.1.2.2.2.2.2.2.1
  refine ⟨?_, ?_⟩
  · obtain ⟨comp, c1, k1, f1, -, f3, f4, f5⟩ := arrayOverA_spec (args := #[]) hA
    have e1 : s.vm.findClass ("[" ++ (FieldType.array .int).toString) = some (E.2.1 14) := (hK.2 5 _ rfl).2
    have e2 : s.vm.findClass ("[" ++ FieldType.int.toString) = some (E.2.1 10) := (hK.2 1 _ rfl).2
    have q1 : c1 = E.2.1 14 := Option.some.inj (f5.symm.trans e1)
    have q2 : comp = E.2.1 10 := Option.some.inj (f1.symm.trans e2)
    subst q1
    exact ⟨k1, comp, f3, f4, q2⟩
  · obtain ⟨comp, c1, k1, f1, -, f3, f4, f5⟩ := arrayOverA_spec (args := #[]) hB
    have e1 : s.vm.findClass ("[" ++ (FieldType.array (.array .int)).toString) = some (E.2.1 15) := (hK.2 6 _ rfl).2
    have e2 : s.vm.findClass ("[" ++ (FieldType.array .int).toString) = some (E.2.1 14) := (hK.2 5 _ rfl).2
    have q1 : c1 = E.2.1 15 := Option.some.inj (f5.symm.trans e1)
    have q2 : comp = E.2.1 14 := Option.some.inj (f1.symm.trans e2)
    subst q1
    exact ⟨k1, comp, f3, f4, q2⟩
/-- a row into an array of rows -/
theorem n_aas2 (C : Cx p l s m args meth c cc nL own ret E) {a v k kv : Nat} {i : Int32} {A : Mm → Prop} (hk : (k = 14 ∧ kv = 10) ∨ (k = 15 ∧ kv = 14)) (d : decode cc pc = .ok (.aastore, 1)) (h : zk M a = k ∧ zk M v = kv ∧ vp_in i (zl M a) ∧ ∀ M', M' = sR M a i.toNatClampNeg (some v) → A M') (kk : ∀ M', A M' → J p l e R s m args below meth c Q E nL M' kc ks (pc + 1) lo st) : J p l e R s m args below meth c Q E nL M kc ks pc lo (.ref v :: .int i :: .ref a :: st) := by
  intro H locs ls hR hS hl
  obtain ⟨h1, h4, hin, hA⟩ := h
  have hbs := (hR.2.2 a (by rw [h1]; omega)).1
  have hlt : i.toNatClampNeg < zl M a := Nat.not_le.mp fun q => hin (Or.inr q)
  have h0 : ¬ i < 0 := fun q => hin (Or.inl q)
  have hK := C.2.2.2.2.2.2.1.2.1
  obtain ⟨⟨kA1, c1, g1, g2, g3⟩, kA2, c2, g4, g5, g6⟩ := zAA_k C
  have hat := hR.cell h1 (by omega)
  rw [zC_q2 h1 (by omega)] at hat
  have hv := hR.cell h4 (by omega)
  have fin : ∀ H1 : Heap, H1[a]? = some ((vp_cell (E.2.1 k) (zl M a, .inr (.inr (.inr (.inr (zR M a)))))).setSlot i.toNatClampNeg (.ref v)) → H1.size = H.size → (∀ q, q ≠ a → H1[q]? = H[q]?) → W p l e R s m args below meth c H1 (locs ++ [⟨a, i.toNatClampNeg⟩]) kc ks Q (F0 m (pc + 1) ls st) := fun H1 e1 z oq => by
    refine kk _ (hA _ rfl) H1 _ ls (hR.put z oq rfl rfl (fun b hb => sR_o hb) ?_) (hS.put z oq hbs) hl
    rw [zC_q2 (show zk (sR M a i.toNatClampNeg (some v)) a = k from h1) (by omega), sR_ref]
    show H1[a]? = some (vp_cell _ _)
    rw [e1, vp_cell_q, vp_cell_q, arrV_store]
    congr 2
    funext q
    by_cases hq : q = i.toNatClampNeg
    · subst hq; simp [updV, va_up, va_rf]
    · simp [updV, va_up, hq]
  rcases hk with ⟨rfl, rfl⟩ | ⟨rfl, rfl⟩
  · rw [zC_i h4 (by omega)] at hv
    obtain ⟨-, k0, hk0, -⟩ := (hK.2 1 _ rfl).1 (zl M v) (fun j => .int (zI M v j))
    exact W.aast (cv := vp_cell (E.2.1 10) (zl M v, .inl (zI M v))) (comp := E.2.1 10) C.1 C.2.1 hat (fun q h => by cases h) (fun h => by cases h) g1 (by rw [g2, g3]) rfl hk0 ⟨h0, by show _ < (arrV _ _ _).slots.size; rw [arrV_size]; exact hlt⟩ hv (fun q h => by cases h) hk0 (vb_asgS (C := "[" ++ FieldType.int.toString) _ _ (hK.2 1 _ rfl).2 (hK.2 1 _ rfl).2) rfl rfl d fin
  · rw [zC_q2 h4 (by omega)] at hv
    exact W.aast (cv := vp_cell (E.2.1 14) (zl M v, .inr (.inr (.inr (.inr (zR M v)))))) (comp := E.2.1 14) C.1 C.2.1 hat (fun q h => by cases h) (fun h => by cases h) g4 (by rw [g5, g6]) rfl g1 ⟨h0, by show _ < (arrV _ _ _).slots.size; rw [arrV_size]; exact hlt⟩ hv (fun q h => by cases h) g1 (vb_asgS (C := "[" ++ (FieldType.array .int).toString) _ _ (hK.2 5 _ rfl).2 (hK.2 5 _ rfl).2) rfl rfl d fin
/-- a new array of rows -/
theorem n_newA (C : Cx p l s m args meth c cc nL own ret E) {v : Int32} {idx : Nat} {A : Nat → Mm → Prop} (nb k : Nat) {ty : FieldType} (hty : (k = 14 ∧ ty = .int) ∨ (k = 15 ∧ ty = .array .int)) (hcl : (Cond.classLink own idx (FieldType.array ty).toString) ∈ TB) (d : decode cc pc = .ok (.anewarray idx, 3)) (hnb : nb * 8 ≤ 536870912) (hcells : kc + 1 ≤ R.cells) (hslots : ks + nb ≤ R.slots) (h : ¬ v < 0 ∧ v.toNatClampNeg ≤ nb ∧ ∀ a M', a = zn M → M' = sN M k v.toNatClampNeg → A a M')
    (kk : ∀ a M', A a M' → J p l e R s m args below meth c Q E nL M' (kc + 1) (ks + nb) (pc + 3) lo (.ref a :: st)) : J p l e R s m args below meth c Q E nL M kc ks pc lo (.int v :: st) := by
  intro H locs ls hR hS hl
  have C0 := C
  obtain ⟨hx, hb, hml, hown, hts, hlk, hKn, hbs, -⟩ := C
  obtain ⟨h0, h1, hA⟩ := h
  have hK := hKn.2.1
  have hov : (Cond.arrayOver (.array ty)).before args s = true := by
    obtain ⟨q1, q2⟩ := hKn.2.2.2.2.2.2.1
    rcases hty with ⟨rfl, rfl⟩ | ⟨rfl, rfl⟩
    · exact q1
    · exact q2
  have hnm : s.vm.findClass ("[" ++ (FieldType.array ty).toString) = some (E.2.1 k) := by
    rcases hty with ⟨rfl, rfl⟩ | ⟨rfl, rfl⟩
    · exact (hK.2 5 _ rfl).2
    · exact (hK.2 6 _ rfl).2
  refine W.anewA hx hb hown (hts _ hcl) hov rfl d rfl h0 (by omega) hcells (by omega) fun cA kA comp f1 f2 f3 f4 => ?_
  generalize hH1 : H.push ({ cls := cA, slots := Array.replicate v.toNatClampNeg .null, vm := .none } : Cell) = H1
  have z1 : H1.size = H.size + 1 := by rw [← hH1, Array.size_push]
  have e1 : H1[H.size]? = some (arrV cA v.toNatClampNeg (fun _ => .null)) := by rw [← hH1, Array.getElem?_push_size, ← arrV_new]
  have o1 : ∀ q : Nat, q < H.size → H1[q]? = H[q]? := fun q hq => by rw [← hH1, Array.getElem?_push, if_neg (Nat.ne_of_lt hq)]
  have e : cA = E.2.1 k := Option.some.inj (f1.symm.trans hnm)
  subst e
  refine W.widen (Nat.le_refl _) (show ks + v.toNatClampNeg ≤ ks + nb by omega) ?_
  have hz := hR.1
  rw [show Value.ref H.size = Value.ref (zn M) by rw [hz]]
  refine kk _ _ (hA _ _ rfl rfl) H1 locs ls (hR.new z1 o1 ?_) ⟨Nat.le_trans hS.1 (by omega), fun x g1 g2 => (o1 x (Nat.lt_of_lt_of_le g1 hS.1)).trans (hS.2.1 x g1 g2), hS.2.2⟩ hl
  rw [zC_q2 (show zk (sN M k v.toNatClampNeg) (zn M) = k from if_pos rfl) (by omega)]
  show H1[zn M]? = some (vp_cell _ _)
  rw [← hz, e1, hz]
  have q1 : zl (sN M k v.toNatClampNeg) (zn M) = v.toNatClampNeg := if_pos rfl
  have q2 : zR (sN M k v.toNatClampNeg) (zn M) = fun _ => none := by funext j; exact if_pos rfl
  rw [q1, q2, vp_cell_q]
  rfl
end JT
section JW
variable {p : Program} {l : Launch} {e : Env} {R : Room} {s : State} {m : MethodId} {args : Array Value} {below : List Frame} {meth : Method} {c : Code} {Q : State → Prop} {cc : ByteArray} {nL : Nat} {own : String} {ret : Option FieldType} {E : EV} {M : Mm} {kc ks mc ms pc : Nat} {lo : List (Nat × Value)} {st rest : List Value}
theorem j_astoreN_n (C : Cx p l s m args meth c cc nL own ret E) {k : Fin 4} (lo' : List (Nat × Value)) (d : decode cc pc = .ok (.astore_n k, 1)) (hn : (k : Nat) < nL) (hl : lset1 lo k .null = lo') (kk : J p l e R s m args below meth c Q E nL M kc ks (pc + 1) lo' st) : J p l e R s m args below meth c Q E nL M kc ks pc lo (.null :: st) :=
  fun H locs ls hR hS h => lv_astore_nN C.1 C.2.1 d rfl h hn hl (fun ls' h' => kk H locs ls' hR hS h')
theorem j_astoreN (C : Cx p l s m args meth c cc nL own ret E) {i : Nat} (lo' : List (Nat × Value)) (d : decode cc pc = .ok (.astore i, 2)) (hn : i < nL) (hl : lset1 lo i .null = lo') (kk : J p l e R s m args below meth c Q E nL M kc ks (pc + 2) lo' st) : J p l e R s m args below meth c Q E nL M kc ks pc lo (.null :: st) :=
  fun H locs ls hR hS h => lv_astoreN C.1 C.2.1 d h hn hl (fun ls' h' => kk H locs ls' hR hS h')
theorem j_aloadN_n (C : Cx p l s m args meth c cc nL own ret E) {k : Fin 4} (q : Nat) (d : decode cc pc = .ok (.aload_n k, 1)) (hk : lo[q]? = some ((k : Nat), .null)) (kk : J p l e R s m args below meth c Q E nL M kc ks (pc + 1) lo (.null :: st)) : J p l e R s m args below meth c Q E nL M kc ks pc lo st :=
  fun H locs ls hR hS hl => lv_aload_nN C.1 C.2.1 d rfl (lv_at hl q hk) (kk H locs ls hR hS hl)
theorem j_aloadN (C : Cx p l s m args meth c cc nL own ret E) {i : Nat} (q : Nat) (d : decode cc pc = .ok (.aload i, 2)) (hk : lo[q]? = some (i, .null)) (kk : J p l e R s m args below meth c Q E nL M kc ks (pc + 2) lo (.null :: st)) : J p l e R s m args below meth c Q E nL M kc ks pc lo st :=
  fun H locs ls hR hS hl => lv_aloadN C.1 C.2.1 d (lv_at hl q hk) (kk H locs ls hR hS hl)
theorem j_alenA (C : Cx p l s m args meth c cc nL own ret E) {a k : Nat} {A : Prop} (hk : k = 14 ∨ k = 15) (d : decode cc pc = .ok (.arraylength, 1)) (h : zk M a = k ∧ A) (kk : A → J p l e R s m args below meth c Q E nL M kc ks (pc + 1) lo (.int (nI (zl M a)) :: st)) : J p l e R s m args below meth c Q E nL M kc ks pc lo (.ref a :: st) := by
  intro H locs ls hR hS hl
  have hat := hR.cell h.1 (by omega)
  rw [zC_q2 h.1 (by omega)] at hat
  rcases hk with rfl | rfl
  · exact va_alen C.1 C.2.1 C.2.2.2.2.2.2.1.2.1 (Rp.one hat) 0 5 rfl rfl rfl d (kk h.2 H locs ls hR hS hl)
  · exact va_alen C.1 C.2.1 C.2.2.2.2.2.2.1.2.1 (Rp.one hat) 0 6 rfl rfl rfl d (kk h.2 H locs ls hR hS hl)
end JW
