/-! rows for the JDK's text: bytes copied, bytes of String constants, digits; methods of AbstractStringBuilder on a StringBuilder -/
/-- n bytes of a String constant from place sp to place dp of d -/
def sS (M : Mm) (i sp d dp n : Nat) : Mm := (M.1, M.2.1, M.2.2.1, fun b j => if b = d ∧ dp ≤ j ∧ j < dp + n then (zByt.getD i []).getD (sp + (j - dp)) 0 else zI M b j, M.2.2.2.2.1, M.2.2.2.2.2)
theorem sS_o {cy : Nat → ClassId} {M : Mm} {i sp d dp n b : Nat} (h : b ≠ d) : zC cy (sS M i sp d dp n) b = zC cy M b :=
  zC_same rfl rfl (by funext j; show (if b = d ∧ dp ≤ j ∧ j < dp + n then (zByt.getD i []).getD (sp + (j - dp)) 0 else zI M b j) = _; rw [if_neg (fun q => h q.1)]) rfl rfl
theorem sS_int (M : Mm) (i sp d dp n : Nat) : zI (sS M i sp d dp n) d = va_cpy (fun j => (zByt.getD i []).getD j 0) (zI M d) sp dp n := by
  funext j; show (if d = d ∧ dp ≤ j ∧ j < dp + n then (zByt.getD i []).getD (sp + (j - dp)) 0 else zI M d j) = _; simp [va_cpy]
theorem zByt_fit : ∀ i, i < 12 → ∀ j, j < 16 → fits .byte (.int ((zByt.getD i []).getD j 0)) = true := by decide +kernel
theorem zLen_le : ∀ i, i < 12 → zLen.getD i 0 ≤ 16 := by decide +kernel
section JX
variable {p : Program} {l : Launch} {e : Env} {R : Room} {s : State} {m : MethodId} {args : Array Value} {below : List Frame} {meth : Method} {c : Code} {Q : State → Prop} {cc : ByteArray} {nL : Nat} {own : String} {ret : Option FieldType} {E : EV} {M : Mm} {kc ks mc ms pc : Nat} {lo : List (Nat × Value)} {st rest : List Value}
theorem nn32 : ∀ z : Int32, ¬ z < 0 → z.toInt = (z.toNatClampNeg : Int) := by
  intro z hz
  have hz0 : (0 : Int) ≤ z.toInt := by
    have := Int32.not_lt.mp hz
    simpa using Int32.le_iff_toInt_le.mp this
  show z.toInt = ((z.toInt.toNat : Nat) : Int)
  omega
/-- System.arraycopy of bytes -/
theorem n_copyb (C : Cx p l s m args meth c cc nL own ret E) {idx a0 a : Nat} {sp dp n : Int32} {A : Mm → Prop} (hL : (Cond.methodLink own idx arraycopyName) ∈ TB) (hnat : (Cond.native arraycopyName) ∈ TB) (hstat : (Cond.static arraycopyName) ∈ TB) (hini : (Cond.initialized "java/lang/System") ∈ TB)
    (d : decode cc pc = .ok (.invokestatic idx, 3)) (hframes : 1 ≤ R.frames) (hlocals : (st.map fun v => v.category).sum + (nativeFrameWords "java/lang/System" "arraycopy" 5 + 11) ≤ R.locals)
    (h : zk M a0 = 9 ∧ zk M a = 9 ∧ ¬ sp < 0 ∧ ¬ dp < 0 ∧ ¬ n < 0 ∧ sp.toNatClampNeg + n.toNatClampNeg ≤ zl M a0 ∧ dp.toNatClampNeg + n.toNatClampNeg ≤ zl M a ∧ (∀ i, i < n.toNatClampNeg → fits .byte (.int (zI M a0 (sp.toNatClampNeg + i))) = true) ∧ ∀ M', M' = sC M a0 sp.toNatClampNeg a dp.toNatClampNeg n.toNatClampNeg → A M')
    (kk : ∀ M', A M' → J p l e R s m args below meth c Q E nL M' kc ks (pc + 3) lo st) : J p l e R s m args below meth c Q E nL M kc ks pc lo (.int n :: .int dp :: .ref a :: .int sp :: .ref a0 :: st) := by
  intro H locs ls hR hS hl
  obtain ⟨g1, g2, h1, h2, h3, h4, h5, hfit, hA⟩ := h
  have ha0 := hR.cell g1 (by decide)
  have ha1 := hR.cell g2 (by decide)
  have hbs := (hR.2.2 a (by rw [g2]; decide)).1
  rw [zC_i g1 (by omega)] at ha0
  rw [zC_i g2 (by omega)] at ha1
  have hK := C.2.2.2.2.2.2.1.2.1
  have hts := C.2.2.2.2.1
  intro T hT X
  have hc0 : H[a0]? = some (vp_cell (E.2.1 9) (zl M a0, .inl (zI M a0))) := ha0
  have hc1 : H[a]? = some (vp_cell (E.2.1 9) (zl M a, .inl (zI M a))) := ha1
  obtain ⟨-, k0, hk0, cm0, hkk0⟩ := (hK.2 0 _ rfl).1 (zl M a0) (fun j => .int (zI M a0 j))
  obtain ⟨-, k1, hk1, cm1, hkk1⟩ := (hK.2 0 _ rfl).1 (zl M a) (fun j => .int (zI M a j))
  obtain ⟨vm', X', step⟩ := X.arraycopy C.1 C.2.2.2.1 (hts _ hL) (hts _ hnat) (hts _ hstat) (hts _ hini) (src := a0) (dst := a) (cs := vp_cell (E.2.1 9) (zl M a0, .inl (zI M a0))) (cd := vp_cell (E.2.1 9) (zl M a, .inl (zI M a))) (srcPos := sp) (destPos := dp) (n := n) (by rw [hT]; exact hc0) (by rw [hT]; exact hc1)
    (fun _ h => by cases h) (fun _ h => by cases h) (fun h => by cases h) (fun h => by cases h) hk0 hk1 hkk0 hkk1 (by simp [refKind]) h1 h2 h3
    (by rw [nn32 sp h1, nn32 n h3]; show ¬ _ > ((arrV (E.2.1 9) (zl M a0) (fun j => .int (zI M a0 j))).slots.size : Int); rw [arrV_size]; omega)
    (by rw [nn32 dp h2, nn32 n h3]; show ¬ _ > ((arrV (E.2.1 9) (zl M a) (fun j => .int (zI M a j))).slots.size : Int); rw [arrV_size]; omega)
    (fun vm₁ _ i hi => by
      have e : (vp_cell (E.2.1 9) (zl M a0, .inl (zI M a0))).slots.getD (sp.toNatClampNeg + i) .null = .int (zI M a0 (sp.toNatClampNeg + i)) := by
        show (arrV (E.2.1 9) (zl M a0) (fun j => .int (zI M a0 j))).slots.getD _ _ = _
        rw [Array.getD_eq_getD_getElem?, arrV_read _ _ (by omega)]
        rfl
      refine ⟨?_, ?_⟩
      · rw [e]; exact hfit i hi
      · rw [e]; exact trivial)
    (g := F0 m pc ls (.int n :: .int dp :: .ref a :: .int sp :: .ref a0 :: st)) rfl (by rw [C.2.2.1]; exact hl.1) (rest := st) rfl (by rw [C.2.1]; exact d) hframes (by show 2 * 0 + _ + _ ≤ _; omega)
  have e1 : copied (vp_cell (E.2.1 9) (zl M a0, .inl (zI M a0))) (vp_cell (E.2.1 9) (zl M a, .inl (zI M a))) sp dp n = vp_cell (E.2.1 9) (zl M a, .inl (va_cpy (zI M a0) (zI M a) sp.toNatClampNeg dp.toNatClampNeg n.toNatClampNeg)) := va_copied (fun z => .int z) (E.2.1 9) (E.2.1 9) (zI M a0) (zI M a) h4
  rw [e1] at X' step
  have hlt : a < H.size := (Array.getElem?_eq_some_iff.mp hc1).1
  have hheap : ((T.setVm vm').setCell a (vp_cell (E.2.1 9) (zl M a, .inl (va_cpy (zI M a0) (zI M a) sp.toNatClampNeg dp.toNatClampNeg n.toNatClampNeg)))).heap = H.setIfInBounds a (vp_cell (E.2.1 9) (zl M a, .inl (va_cpy (zI M a0) (zI M a) sp.toNatClampNeg dp.toNatClampNeg n.toNatClampNeg))) := by rw [← hT]; rfl
  have oq : ∀ q : Nat, q ≠ a → (H.setIfInBounds a (vp_cell (E.2.1 9) (zl M a, .inl (va_cpy (zI M a0) (zI M a) sp.toNatClampNeg dp.toNatClampNeg n.toNatClampNeg))))[q]? = H[q]? := fun q hq => by simp [Array.getElem?_setIfInBounds, Ne.symm hq]
  obtain ⟨t, a1, b1⟩ := kk _ (hA _ rfl) _ _ ls (hR.put (by simp) oq rfl rfl (fun b hb => sC_o hb) (by
      rw [zC_i (show zk (sC M a0 sp.toNatClampNeg a dp.toNatClampNeg n.toNatClampNeg) a = 9 from g2) (by omega), sC_int]
      show (H.setIfInBounds a _)[a]? = some _
      rw [Array.getElem?_setIfInBounds, if_pos rfl, if_pos hlt]
      rfl)) ⟨by simp; exact hS.1, fun q q1 q2 => by
      rw [oq q (fun e => q2 (by rw [e]; exact hbs))]
      exact hS.2.1 q q1 q2, fun q hq => by
      rcases List.mem_append.mp hq with h | h
      · exact hS.2.2 q h
      · obtain ⟨z, -, hz⟩ := List.mem_map.mp h
        rw [← hz]
        exact hbs⟩ hl _ hheap X'
  exact ⟨t, step t a1, b1⟩
/-- System.arraycopy out of a String constant's bytes -/
theorem n_copyS (C : Cx p l s m args meth c cc nL own ret E) {idx i0 a : Nat} {sp dp n : Int32} {A : Mm → Prop} (hL : (Cond.methodLink own idx arraycopyName) ∈ TB) (hnat : (Cond.native arraycopyName) ∈ TB) (hstat : (Cond.static arraycopyName) ∈ TB) (hini : (Cond.initialized "java/lang/System") ∈ TB)
    (d : decode cc pc = .ok (.invokestatic idx, 3)) (hframes : 1 ≤ R.frames) (hlocals : (st.map fun v => v.category).sum + (nativeFrameWords "java/lang/System" "arraycopy" 5 + 11) ≤ R.locals)
    (h : i0 < 12 ∧ zk M a = 9 ∧ ¬ sp < 0 ∧ ¬ dp < 0 ∧ ¬ n < 0 ∧ sp.toNatClampNeg + n.toNatClampNeg ≤ zLen.getD i0 0 ∧ dp.toNatClampNeg + n.toNatClampNeg ≤ zl M a ∧ ∀ M', M' = sS M i0 sp.toNatClampNeg a dp.toNatClampNeg n.toNatClampNeg → A M')
    (kk : ∀ M', A M' → J p l e R s m args below meth c Q E nL M' kc ks (pc + 3) lo st) : J p l e R s m args below meth c Q E nL M kc ks pc lo (.int n :: .int dp :: .ref a :: .int sp :: .ref (E.2.2.2.2 i0) :: st) := by
  intro H locs ls hR hS hl
  obtain ⟨g1, g2, h1, h2, h3, h4, h5, hA⟩ := h
  have ha1 := hR.cell g2 (by decide)
  have hbs := (hR.2.2 a (by rw [g2]; decide)).1
  rw [zC_i g2 (by omega)] at ha1
  have hK := C.2.2.2.2.2.2.1.2.1
  have hts := C.2.2.2.2.1
  have hX := (C.2.2.2.2.2.2.1.2.2.2.2.2.1.1.1 i0 g1).2.2.2
  intro T hT X
  obtain ⟨scr, hs1, hs2, hs3, hs4, -, hs5, hs7⟩ := hX
  have hc0 : H[E.2.2.2.2 i0]? = some scr := by rw [hS.2.1 _ (Array.getElem?_eq_some_iff.mp hs1).1 hs7]; exact hs1
  have hc1 : H[a]? = some (vp_cell (E.2.1 9) (zl M a, .inl (zI M a))) := ha1
  obtain ⟨hs6, k0, hk0, cm0, hkk0⟩ := hs2
  obtain ⟨-, k1, hk1, cm1, hkk1⟩ := (hK.2 0 _ rfl).1 (zl M a) (fun j => .int (zI M a j))
  have hle := zLen_le i0 g1
  obtain ⟨vm', X', step⟩ := X.arraycopy C.1 C.2.2.2.1 (hts _ hL) (hts _ hnat) (hts _ hstat) (hts _ hini) (src := E.2.2.2.2 i0) (dst := a) (cs := scr) (cd := vp_cell (E.2.1 9) (zl M a, .inl (zI M a))) (srcPos := sp) (destPos := dp) (n := n) (by rw [hT]; exact hc0) (by rw [hT]; exact hc1)
    hs6 (fun _ h => by cases h) hs3 (fun h => by cases h) hk0 hk1 hkk0 hkk1 (by simp [refKind]) h1 h2 h3
    (by rw [nn32 sp h1, nn32 n h3]; omega)
    (by rw [nn32 dp h2, nn32 n h3]; show ¬ _ > ((arrV (E.2.1 9) (zl M a) (fun j => .int (zI M a j))).slots.size : Int); rw [arrV_size]; omega)
    (fun vm₁ _ i hi => by
      have e : scr.slots.getD (sp.toNatClampNeg + i) .null = .int ((zByt.getD i0 []).getD (sp.toNatClampNeg + i) 0) := by
        rw [Array.getD_eq_getD_getElem?, hs5 _ (by omega)]
        rfl
      refine ⟨?_, ?_⟩
      · rw [e]
        exact zByt_fit i0 g1 _ (by omega)
      · rw [e]
        exact trivial)
    (g := F0 m pc ls (.int n :: .int dp :: .ref a :: .int sp :: .ref (E.2.2.2.2 i0) :: st)) rfl (by rw [C.2.2.1]; exact hl.1) (rest := st) rfl (by rw [C.2.1]; exact d) hframes (by show 2 * 0 + _ + _ ≤ _; omega)
  have e1 : copied scr (vp_cell (E.2.1 9) (zl M a, .inl (zI M a))) sp dp n = vp_cell (E.2.1 9) (zl M a, .inl (va_cpy (fun j => (zByt.getD i0 []).getD j 0) (zI M a) sp.toNatClampNeg dp.toNatClampNeg n.toNatClampNeg)) := va_copiedX (fun z => .int z) scr (E.2.1 9) (fun j => (zByt.getD i0 []).getD j 0) (zI M a) hs5 h4
  rw [e1] at X' step
  have hlt : a < H.size := (Array.getElem?_eq_some_iff.mp hc1).1
  generalize hcell : vp_cell (E.2.1 9) (zl M a, .inl (va_cpy (fun j => (zByt.getD i0 []).getD j 0) (zI M a) sp.toNatClampNeg dp.toNatClampNeg n.toNatClampNeg)) = cellN at X' step
  have hheap : ((T.setVm vm').setCell a cellN).heap = H.setIfInBounds a cellN := by rw [← hT]; rfl
  have oq : ∀ q : Nat, q ≠ a → (H.setIfInBounds a cellN)[q]? = H[q]? := fun q hq => by simp [Array.getElem?_setIfInBounds, Ne.symm hq]
  obtain ⟨t, a1, b1⟩ := kk _ (hA _ rfl) _ _ ls (hR.put (by simp) oq rfl rfl (fun b hb => sS_o hb) (by
      rw [zC_i (show zk (sS M i0 sp.toNatClampNeg a dp.toNatClampNeg n.toNatClampNeg) a = 9 from g2) (by omega), sS_int]
      show (H.setIfInBounds a cellN)[a]? = some _
      rw [Array.getElem?_setIfInBounds, if_pos rfl, if_pos hlt, ← hcell]
      rfl)) ⟨by simp; exact hS.1, fun q q1 q2 => by
      rw [oq q (fun e => q2 (by rw [e]; exact hbs))]
      exact hS.2.1 q q1 q2, fun q hq => by
      rcases List.mem_append.mp hq with h | h
      · exact hS.2.2 q h
      · obtain ⟨z, -, hz⟩ := List.mem_map.mp h
        rw [← hz]
        exact hbs⟩ hl _ hheap X'
  exact ⟨t, step t a1, b1⟩
theorem n_cloneb (C : Cx p l s m args meth c cc nL own ret E) {idx a : Nat} {A : Nat → Mm → Prop} (nb : Nat)
    (hlink : (Cond.methodLink own idx ⟨"[B", "clone", "()Ljava/lang/Object;"⟩) ∈ TB) (hsame : (Cond.sameMethod "[B" "java/lang/Object" "clone" "()Ljava/lang/Object;") ∈ TB)
    (hnat : (Cond.native ⟨"java/lang/Object", "clone", "()Ljava/lang/Object;"⟩) ∈ TB) (hinst : (Cond.instanceMethod ⟨"java/lang/Object", "clone", "()Ljava/lang/Object;"⟩) ∈ TB)
    (hsel : (Cond.selects "[B" ⟨"[B", "clone", "()Ljava/lang/Object;"⟩ ⟨"java/lang/Object", "clone", "()Ljava/lang/Object;"⟩) ∈ TB) (hcl : (Cond.castable "[B" "java/lang/Cloneable") ∈ NW)
    (d : decode cc pc = .ok (.invokevirtual idx, 3)) (hframes : 1 ≤ R.frames) (hlocals : (st.map fun v => v.category).sum + 14 ≤ R.locals) (hcells : kc + 1 ≤ R.cells) (hslots : ks + nb ≤ R.slots)
    (h : zk M a = 9 ∧ zl M a ≤ nb ∧ (∀ i, i < zl M a → fits .byte (.int (zI M a i)) = true) ∧ ∀ b M', b = zn M → M' = sK M a → A b M')
    (kk : ∀ b M', A b M' → J p l e R s m args below meth c Q E nL M' (kc + 1) (ks + nb) (pc + 3) lo (.ref b :: st)) : J p l e R s m args below meth c Q E nL M kc ks pc lo (.ref a :: st) := by
  intro H locs ls hR hS hl
  obtain ⟨h1, h2, hfit, hA⟩ := h
  have hts := C.2.2.2.2.1
  have hK := C.2.2.2.2.2.2.1.2.1
  have hNw := C.2.2.2.2.2.2.1.2.2.2.1 _ hcl
  have hat := hR.cell h1 (by decide)
  have hzc : zC E.2.1 M a = .inl (E.2.1 9, zl M a, .inl (zI M a)) := zC_i h1 (by omega)
  rw [hzc] at hat
  have hcell : H[a]? = some (vp_cell (E.2.1 9) (zl M a, .inl (zI M a))) := hat
  have hnm : s.vm.findClass "[B" = some (E.2.1 9) := (hK.2 0 _ rfl).2
  obtain ⟨c0, t0', f1, f2, f3⟩ := Cond.castable_spec (va_Nw.use (A := args) rfl hNw)
  have e0 : c0 = E.2.1 9 := Option.some.inj (f1.symm.trans hnm)
  subst e0
  have hsz : (vp_cell (E.2.1 9) (zl M a, .inl (zI M a))).slots.size = zl M a := arrV_size _ _ _
  intro T hT X
  have hcellT : T.heap[a]? = some (vp_cell (E.2.1 9) (zl M a, .inl (zI M a))) := by rw [hT]; exact hcell
  obtain ⟨-, kA, hkA, comp, hkind⟩ := State.isArrayOf_alike X.warmed.alike ((hK.2 0 _ rfl).1 0 (fun _ => .null))
  obtain ⟨-, kS, hkS, compS, hkindS⟩ := (hK.2 0 _ rfl).1 0 (fun _ => .null)
  obtain ⟨vm', X', st9⟩ := X.cloneArray C.1 C.2.2.2.1 (hts _ hlink) (hts _ hsame) (hts _ hnat) (hts _ hinst) (hts _ hsel) (a := a) (cell := vp_cell (E.2.1 9) (zl M a, .inl (zI M a))) hcellT (fun k h => by cases h) (fun h => by cases h) hnm f2 f3
    (fun i v hv => by
      have hk' : T.vm.classes[E.2.1 9]? = some kA := hkA
      have hfit2 : fits .byte v = true := by
        have hlt : i < zl M a := by
          have := (Array.getElem?_eq_some_iff.mp hv).1
          rw [hsz] at this; exact this
        have hv2 : (arrV (E.2.1 9) (zl M a) (fun j => Value.int (zI M a j))).slots[i]? = some v := hv
        rw [arrV_read _ _ hlt] at hv2
        cases hv2
        exact hfit i hlt
      have hkc : (vp_cell (E.2.1 9) (zl M a, .inl (zI M a))).cls = E.2.1 9 := rfl
      rw [hkc]
      simpa [State.fitsSlot, State.slotType?, hk', hkind] using hfit2)
    (g := F0 m pc ls (.ref a :: st)) rfl (by rw [C.2.2.1]; exact hl.1) rfl (by rw [C.2.1]; exact d) hframes (by show 2 * 0 + _ + 14 ≤ _; omega) hcells (by rw [hsz]; omega) (hloader := Vm.clonesLoader_of_array hkS hkindS)
  have hcellE : ({ cls := (vp_cell (E.2.1 9) (zl M a, .inl (zI M a))).cls, slots := (vp_cell (E.2.1 9) (zl M a, .inl (zI M a))).slots } : Cell) = vp_cell (E.2.1 9) (zl M a, .inl (zI M a)) := rfl
  rw [hcellE, hsz] at X'
  generalize hH1 : H.push (vp_cell (E.2.1 9) (zl M a, .inl (zI M a))) = H1
  have z1 : H1.size = H.size + 1 := by rw [← hH1, Array.size_push]
  have e1 : H1[H.size]? = some (vp_cell (E.2.1 9) (zl M a, .inl (zI M a))) := by rw [← hH1, Array.getElem?_push_size]
  have o1 : ∀ q : Nat, q < H.size → H1[q]? = H[q]? := fun q hq => by rw [← hH1, Array.getElem?_push, if_neg (Nat.ne_of_lt hq)]
  have hz := hR.1
  have hW : W p l e R s m args below meth c H1 locs (kc + 1) (ks + zl M a) Q (F0 m (pc + 3) ls (.ref H.size :: st)) := by
    refine W.widen (Nat.le_refl _) (show ks + zl M a ≤ ks + nb by omega) ?_
    rw [show Value.ref H.size = Value.ref (zn M) by rw [hz]]
    refine kk _ _ (hA _ _ rfl rfl) H1 locs ls (hR.newG z1 o1 rfl (fun b hb => if_neg hb) (fun b hb => sK_o hb) ?_) ⟨Nat.le_trans hS.1 (by omega), fun x g1 g2 => (o1 x (Nat.lt_of_lt_of_le g1 hS.1)).trans (hS.2.1 x g1 g2), hS.2.2⟩ hl
    rw [sK_n, hzc]
    show H1[zn M]? = some _
    rw [← hz]; exact e1
  obtain ⟨t, b1, b2⟩ := hW ((T.setVm vm').pushCell (vp_cell (E.2.1 9) (zl M a, .inl (zI M a)))) (by rw [← hH1, ← hT]; rfl) X'
  refine ⟨t, st9 t ?_, b2⟩
  rw [hcellE, hT]
  exact b1
theorem j_castB (C : Cx p l s m args meth c cc nL own ret E) {idx a : Nat} {A : Prop} (hlink : (Cond.classLink own idx "[B") ∈ TB) (d : decode cc pc = .ok (.checkcast idx, 3)) (h : zk M a = 9 ∧ A) (kk : A → J p l e R s m args below meth c Q E nL M kc ks (pc + 3) lo (.ref a :: st)) : J p l e R s m args below meth c Q E nL M kc ks pc lo (.ref a :: st) := by
  intro H locs ls hR hS hl
  have hat := hR.cell h.1 (by decide)
  rw [zC_i h.1 (by omega)] at hat
  exact va_castA C.1 C.2.1 C.2.2.2.1 (C.2.2.2.2.1 _ hlink) (Rp.one hat) 0 rfl (C.2.2.2.2.2.2.1.2.1.2 0 _ rfl).2 d (kk h.2 H locs ls hR hS hl)
theorem j_gdig1 (C : Cx p l s m args meth c cc nL own ret E) {idx : Nat} (hL : (Cond.fieldLink own idx "java/lang/Integer" "DigitOnes" "[B") ∈ TB) (d : decode cc pc = .ok (.getstatic idx, 3)) (kk : ∀ t, va_T .byte t 100 (fun j => .int (zDig true j)) (fun q => E.2.2.1 ≤ q) s s.heap → J p l e R s m args below meth c Q E nL M kc ks (pc + 3) lo (.ref t :: st)) : J p l e R s m args below meth c Q E nL M kc ks pc lo st := by
  intro H locs ls hR hS hl
  obtain ⟨t, hz, hT⟩ := C.2.2.2.2.2.2.1.2.2.2.2.2.2.2.1.1
  exact va_gets C.1 C.2.1 hz hS C.2.2.2.1 (C.2.2.2.2.1 _ hL) (fun _ h => h) d (kk t hT H locs ls hR hS hl)
theorem j_gdig0 (C : Cx p l s m args meth c cc nL own ret E) {idx : Nat} (hL : (Cond.fieldLink own idx "java/lang/Integer" "DigitTens" "[B") ∈ TB) (d : decode cc pc = .ok (.getstatic idx, 3)) (kk : ∀ t, va_T .byte t 100 (fun j => .int (zDig false j)) (fun q => E.2.2.1 ≤ q) s s.heap → J p l e R s m args below meth c Q E nL M kc ks (pc + 3) lo (.ref t :: st)) : J p l e R s m args below meth c Q E nL M kc ks pc lo st := by
  intro H locs ls hR hS hl
  obtain ⟨t, hz, hT⟩ := C.2.2.2.2.2.2.1.2.2.2.2.2.2.2.1.2
  exact va_gets C.1 C.2.1 hz hS C.2.2.2.1 (C.2.2.2.2.1 _ hL) (fun _ h => h) d (kk t hT H locs ls hR hS hl)
theorem j_dbald (C : Cx p l s m args meth c cc nL own ret E) {t : Nat} {b : Bool} {k : Int32} {A : Prop} (hT : va_T .byte t 100 (fun j => .int (zDig b j)) (fun q => E.2.2.1 ≤ q) s s.heap) (d : decode cc pc = .ok (.baload, 1)) (h : vp_in k 100 ∧ A) (kk : A → J p l e R s m args below meth c Q E nL M kc ks (pc + 1) lo (.int (zDig b k.toNatClampNeg) :: st)) : J p l e R s m args below meth c Q E nL M kc ks pc lo (.int k :: .ref t :: st) :=
  fun H locs ls hR hS hl => va_tb C.1 C.2.1 hT hS h.1 rfl d (kk h.2 H locs ls hR hS hl)
theorem j_sval2 (C : Cx p l s m args meth c cc nL own ret E) {idx i : Nat} {A : Prop} (hL : (Cond.fieldLink own idx "java/lang/String" "value" "[B") ∈ TB) (d : decode cc pc = .ok (.getfield idx, 3)) (h : i < 12 ∧ A) (kk : A → J p l e R s m args below meth c Q E nL M kc ks (pc + 3) lo (.ref (E.2.2.2.2 i) :: st)) : J p l e R s m args below meth c Q E nL M kc ks pc lo (.ref (E.2.2.2.1 i) :: st) := j_sval C h.1 hL d (kk h.2)
theorem j_scod2 (C : Cx p l s m args meth c cc nL own ret E) {idx i : Nat} {A : Prop} (hL : (Cond.fieldLink own idx "java/lang/String" "coder" "B") ∈ TB) (d : decode cc pc = .ok (.getfield idx, 3)) (h : i < 12 ∧ A) (kk : A → J p l e R s m args below meth c Q E nL M kc ks (pc + 3) lo (.int 0 :: st)) : J p l e R s m args below meth c Q E nL M kc ks pc lo (.ref (E.2.2.2.1 i) :: st) := j_scod C h.1 hL d (kk h.2)
theorem j_slen2 (C : Cx p l s m args meth c cc nL own ret E) {i : Nat} {A : Prop} (d : decode cc pc = .ok (.arraylength, 1)) (h : i < 12 ∧ A) (kk : A → J p l e R s m args below meth c Q E nL M kc ks (pc + 1) lo (.int (nI (zLen.getD i 0)) :: st)) : J p l e R s m args below meth c Q E nL M kc ks pc lo (.ref (E.2.2.2.2 i) :: st) := j_slen C h.1 d (kk h.2)
/-- a private method of AbstractStringBuilder is selected whatever the receiver is -/
theorem selP {y : MethodName} {s : State} {args : Array Value} (h0 : (Cond.selects "java/lang/StringBuilder" ⟨"java/lang/AbstractStringBuilder", "isLatin1", "()Z"⟩ ⟨"java/lang/AbstractStringBuilder", "isLatin1", "()Z"⟩).before args s = true) (hpriv : (Cond.privateMethod y).before args s = true) (hinst : (Cond.instanceMethod y).before args s = true) (hy : y.cls = "java/lang/AbstractStringBuilder") : (Cond.selects "java/lang/StringBuilder" y y).before args s = true := by
  simp only [Cond.before, Cond.holds, Cond.value] at h0
  obtain ⟨mk, methM, hnamed, hmethM, -, -⟩ := Cond.instanceMethod_spec hinst
  have hfound : s.methodFound? y.cls y.name y.desc = some mk := State.methodFound?_of_named hnamed (by rw [hy]; decide)
  have hsel : ∀ c9, selectMethod {} s.vm c9 mk = .method mk := fun c9 => selectMethod_private hmethM (Cond.privateMethod_at hpriv mk methM hnamed hmethM)
  have hcls := findClass_of_methodNamed hnamed
  rw [hy] at hcls
  cases hc : s.vm.findClass "java/lang/StringBuilder" with
  | none => rw [hc] at h0; simp at h0
  | some c9 =>
    cases hn : s.methodNamed? ⟨"java/lang/AbstractStringBuilder", "isLatin1", "()Z"⟩ with
    | none => rw [hc, hn] at h0; simp at h0
    | some m9 =>
      have hcls2 := findClass_of_methodNamed hn
      have hmm : m9.cls = mk.cls := Option.some.inj (hcls2.symm.trans hcls)
      cases hf : s.methodFound? "java/lang/AbstractStringBuilder" "isLatin1" "()Z" with
      | none => rw [hc, hn, hf] at h0; simp at h0
      | some r9 =>
        rw [hc, hn, hf] at h0
        simp only [Cond.before, Cond.holds, Cond.value, hc, hfound, hnamed, hsel]
        have h2 : (s.vm.classes[mk.cls]?).any (fun k => !k.isInterface) = true := by
          rw [← hmm]
          simp at h0
          split at h0
          · exact (Bool.and_eq_true_iff.mp h0).2
          · cases h0
        simp [h2]
theorem zPv_use (C : Cx p l s m args meth c cc nL own ret E) {w : Cond} (k : Nat) (h : zPvL[k]? = some w) : w.before args s = true :=
  va_tabs (zPvL_ok w (List.mem_of_getElem? h)).2 rfl (C.2.2.2.2.2.2.1.2.2.2.2.2.2.2.2 w (List.mem_of_getElem? h))
theorem k_cu {idx n nY m0 : Nat} {x y : MethodName} {cY b0 : ByteArray} {rY r0 : Option FieldType} {rm : Room} (C : Cx p l s m args meth c cc nL own ret E) (h1 : (Cond.code y cY nY rY) ∈ TB) (h2 : (Cond.methodLink own idx x) ∈ TB) (h3 : (Cond.sameMethod x.cls "java/lang/AbstractStringBuilder" x.name x.desc) ∈ TB) (h4 : (Cond.initialized y.cls) ∈ TB) (h5 : (Cond.instanceMethod y) ∈ TB) (hsel : (Cond.selects "java/lang/StringBuilder" x y).before args s = true) (hx : x.cls = "java/lang/AbstractStringBuilder") (h6 : (Cond.instanceMethod x) ∈ TB) (h7 : (Cond.code x b0 m0 r0) ∈ TB) (h8 : (parseMethodDescriptor x.desc).map (fun d => d.parameters.length) = some n)
    (hrc : rm.cells = mc) (hrs : rm.slots = ms) (hR : rm.frames + 1 ≤ R.frames ∧ 8 + (nY + 11) + rm.locals ≤ R.locals) : va_CU R s args own "java/lang/StringBuilder" "java/lang/AbstractStringBuilder" idx x y cY nY rY (Cond.code y cY nY rY :: TB) rm mc ms n := by
  have hts := C.2.2.2.2.1
  have hG : GoodIn TB (Cond.code y cY nY rY :: TB) := TB_in h1 rfl (fun _ h => h)
  have hxe : (⟨"java/lang/AbstractStringBuilder", x.name, x.desc⟩ : MethodName) = x := by cases x; simp at hx; subst hx; rfl
  refine ⟨⟨hrc, hrs, hR.1, hR.2, pay_in hts hG, List.mem_cons_self⟩, hts _ h1, hts _ h4, ⟨by decide, by decide⟩, fun sig h => ?_, hts _ h2, hts _ h3, by rw [hxe]; exact va_Decl.of (hts _ h6) (hts _ h7), hsel, hts _ h5⟩
  rw [h] at h8
  exact (Option.some.inj h8).symm
theorem k_recB {H : Heap} {b : Nat} (C : Cx p l s m args meth c cc nL own ret E) (K : CO 15 RJ4 TJ4 4 tyJ4) (hR : Rp E M H) (hk : zk M b = 16) : ∃ cell : Cell, H[b]? = some cell ∧ cell.vm.isStatics = false ∧ s.vm.findClass "java/lang/StringBuilder" = some cell.cls := k_recv C K hR hk
theorem j_cU_I {idx n nY : Nat} {x y : MethodName} {cY : ByteArray} {rt : FieldType} {P : Int32 → Mm → Prop} {rm : Room} {b : Nat} {As : List Value} (C : Cx p l s m args meth c cc nL own ret E) (K : CO 15 RJ4 TJ4 4 tyJ4) (hk : zk M b = 16) (hM : CtI l E y cY nY rt rm mc ms (Value.ref b :: As) M P) (cu : va_CU R s args own "java/lang/StringBuilder" "java/lang/AbstractStringBuilder" idx x y cY nY (some rt) (Cond.code y cY nY (some rt) :: TB) rm mc ms n) (hf : kc + mc ≤ R.cells ∧ ks + ms ≤ R.slots) (hn : As.length = n) (hst : (rest.map fun v => v.category).sum ≤ 8) (d : decode cc pc = .ok (.invokevirtual idx, 3))
    (kk : ∀ r M', P r M' → J p l e R s m args below meth c Q E nL M' (kc + mc) (ks + ms) (pc + 3) lo (.int r :: rest)) : J p l e R s m args below meth c Q E nL M kc ks pc lo (As.reverse ++ .ref b :: rest) := by
  intro H locs ls hRp hS hl
  have hr := va_runU (b := b) (As := As) (rest := rest) (g := F0 m pc ls (As.reverse ++ .ref b :: rest)) (H := H) (locs := locs) (cells := kc) (slots := ks) (p := p) (e := e) (below := below) (meth := meth) (k_fix C) hM cu ⟨k_blind, k_recB C K hRp hk, k_pre C hRp hS⟩ rfl hn hl.1 rfl (lv_room hst) d hf
  exact va_calli hr hS (fun q _ h => h) (fun q h => h) (fun r u t H1 locs1 ht ha hw hB hz hk1 hS1 => kk r u hw H1 locs1 ls (by rw [← ht]; exact hB) hS1 hl)
theorem j_cU_V {idx n nY : Nat} {x y : MethodName} {cY : ByteArray} {P : Mm → Prop} {rm : Room} {b : Nat} {As : List Value} (C : Cx p l s m args meth c cc nL own ret E) (K : CO 15 RJ4 TJ4 4 tyJ4) (hk : zk M b = 16) (hM : CtV l E y cY nY rm mc ms (Value.ref b :: As) M P) (cu : va_CU R s args own "java/lang/StringBuilder" "java/lang/AbstractStringBuilder" idx x y cY nY none (Cond.code y cY nY none :: TB) rm mc ms n) (hf : kc + mc ≤ R.cells ∧ ks + ms ≤ R.slots) (hn : As.length = n) (hst : (rest.map fun v => v.category).sum ≤ 8) (d : decode cc pc = .ok (.invokevirtual idx, 3))
    (kk : ∀ M', P M' → J p l e R s m args below meth c Q E nL M' (kc + mc) (ks + ms) (pc + 3) lo rest) : J p l e R s m args below meth c Q E nL M kc ks pc lo (As.reverse ++ .ref b :: rest) := by
  intro H locs ls hRp hS hl
  have hr := va_runU (b := b) (As := As) (rest := rest) (g := F0 m pc ls (As.reverse ++ .ref b :: rest)) (H := H) (locs := locs) (cells := kc) (slots := ks) (p := p) (e := e) (below := below) (meth := meth) (k_fix C) hM cu ⟨k_blind, k_recB C K hRp hk, k_pre C hRp hS⟩ rfl hn hl.1 rfl (lv_room hst) d hf
  exact va_callv hr hS (fun q _ h => h) (fun q h => h) (fun u t H1 locs1 ht ha hw hB hz hk1 hS1 => kk u hw H1 locs1 ls (by rw [← ht]; exact hB) hS1 hl)
theorem j_cU_N {idx n nY : Nat} {x y : MethodName} {cY : ByteArray} {rt : FieldType} {P : Option Nat → Mm → Prop} {rm : Room} {b : Nat} {As : List Value} (C : Cx p l s m args meth c cc nL own ret E) (K : CO 15 RJ4 TJ4 4 tyJ4) (hk : zk M b = 16) (hM : CtN l E y cY nY rt rm mc ms (Value.ref b :: As) M P) (cu : va_CU R s args own "java/lang/StringBuilder" "java/lang/AbstractStringBuilder" idx x y cY nY (some rt) (Cond.code y cY nY (some rt) :: TB) rm mc ms n) (hf : kc + mc ≤ R.cells ∧ ks + ms ≤ R.slots) (hn : As.length = n) (hst : (rest.map fun v => v.category).sum ≤ 8) (d : decode cc pc = .ok (.invokevirtual idx, 3))
    (kk : ∀ r M', P r M' → J p l e R s m args below meth c Q E nL M' (kc + mc) (ks + ms) (pc + 3) lo (va_rf r :: rest)) : J p l e R s m args below meth c Q E nL M kc ks pc lo (As.reverse ++ .ref b :: rest) := by
  intro H locs ls hRp hS hl
  have hr := va_runU (b := b) (As := As) (rest := rest) (g := F0 m pc ls (As.reverse ++ .ref b :: rest)) (H := H) (locs := locs) (cells := kc) (slots := ks) (p := p) (e := e) (below := below) (meth := meth) (k_fix C) hM cu ⟨k_blind, k_recB C K hRp hk, k_pre C hRp hS⟩ rfl hn hl.1 rfl (lv_room hst) d hf
  exact va_calln hr hS (fun q _ h => h) (fun q h => h) (fun r u t H1 locs1 ht ha hw hB hz hk1 hS1 => kk r u hw H1 locs1 ls (by rw [← ht]; exact hB) hS1 hl)
/-- super.m(..) -/
theorem k_cs {idx n nY : Nat} {y : MethodName} {cY : ByteArray} {rY : Option FieldType} {rm : Room} (C : Cx p l s m args meth c cc nL own ret E) (h1 : (Cond.code y cY nY rY) ∈ TB) (h2 : (Cond.methodLink own idx y) ∈ TB) (h3 : (Cond.sameMethod y.cls y.cls y.name y.desc) ∈ TB) (h4 : (Cond.superclass own y.cls) ∈ TB) (h5 : (Cond.instanceMethod y) ∈ TB) (h6 : (Cond.initialized y.cls) ∈ TB) (h7 : y.name ≠ "<init>") (h8 : (parseMethodDescriptor y.desc).map (fun d => d.parameters.length) = some n)
    (hrc : rm.cells = mc) (hrs : rm.slots = ms) (hR : rm.frames + 1 ≤ R.frames ∧ 8 + (nY + 11) + rm.locals ≤ R.locals) : va_CS R s args own idx y cY nY rY (Cond.code y cY nY rY :: TB) rm mc ms n := by
  have hts := C.2.2.2.2.1
  have hG : GoodIn TB (Cond.code y cY nY rY :: TB) := TB_in h1 rfl (fun _ h => h)
  refine ⟨⟨hrc, hrs, hR.1, hR.2, pay_in hts hG, List.mem_cons_self⟩, hts _ h2, hts _ h3, hts _ h4, hts _ h5, hts _ h6, hts _ h1, h7, fun sig h => ?_⟩
  rw [h] at h8
  exact (Option.some.inj h8).symm
theorem j_cSU_I {idx n nY : Nat} {y : MethodName} {cY : ByteArray} {rt : FieldType} {P : Int32 → Mm → Prop} {rm : Room} {b : Nat} {As : List Value} (C : Cx p l s m args meth c cc nL own ret E) (K : CO 15 RJ4 TJ4 4 tyJ4) (hk : zk M b = 16) (hM : CtI l E y cY nY rt rm mc ms (Value.ref b :: As) M P) (cs : va_CS R s args own idx y cY nY (some rt) (Cond.code y cY nY (some rt) :: TB) rm mc ms n) (hf : kc + mc ≤ R.cells ∧ ks + ms ≤ R.slots) (hn : As.length = n) (hst : (rest.map fun v => v.category).sum ≤ 8) (d : decode cc pc = .ok (.invokespecial idx, 3))
    (kk : ∀ r M', P r M' → J p l e R s m args below meth c Q E nL M' (kc + mc) (ks + ms) (pc + 3) lo (.int r :: rest)) : J p l e R s m args below meth c Q E nL M kc ks pc lo (As.reverse ++ .ref b :: rest) := by
  intro H locs ls hRp hS hl
  have hr := va_runSU (b := b) (As := As) (rest := rest) (g := F0 m pc ls (As.reverse ++ .ref b :: rest)) (H := H) (locs := locs) (cells := kc) (slots := ks) (p := p) (e := e) (below := below) (meth := meth) (C.2.2.2.2.2.2.1.2.1.1 15 _ K.1).2 (k_fix C) hM cs ⟨k_blind, k_recB C K hRp hk, k_pre C hRp hS⟩ rfl hn hl.1 rfl (lv_room hst) d hf
  exact va_calli hr hS (fun q _ h => h) (fun q h => h) (fun r u t H1 locs1 ht ha hw hB hz hk1 hS1 => kk r u hw H1 locs1 ls (by rw [← ht]; exact hB) hS1 hl)
theorem j_cSU_N {idx n nY : Nat} {y : MethodName} {cY : ByteArray} {rt : FieldType} {P : Option Nat → Mm → Prop} {rm : Room} {b : Nat} {As : List Value} (C : Cx p l s m args meth c cc nL own ret E) (K : CO 15 RJ4 TJ4 4 tyJ4) (hk : zk M b = 16) (hM : CtN l E y cY nY rt rm mc ms (Value.ref b :: As) M P) (cs : va_CS R s args own idx y cY nY (some rt) (Cond.code y cY nY (some rt) :: TB) rm mc ms n) (hf : kc + mc ≤ R.cells ∧ ks + ms ≤ R.slots) (hn : As.length = n) (hst : (rest.map fun v => v.category).sum ≤ 8) (d : decode cc pc = .ok (.invokespecial idx, 3))
    (kk : ∀ r M', P r M' → J p l e R s m args below meth c Q E nL M' (kc + mc) (ks + ms) (pc + 3) lo (va_rf r :: rest)) : J p l e R s m args below meth c Q E nL M kc ks pc lo (As.reverse ++ .ref b :: rest) := by
  intro H locs ls hRp hS hl
  have hr := va_runSU (b := b) (As := As) (rest := rest) (g := F0 m pc ls (As.reverse ++ .ref b :: rest)) (H := H) (locs := locs) (cells := kc) (slots := ks) (p := p) (e := e) (below := below) (meth := meth) (C.2.2.2.2.2.2.1.2.1.1 15 _ K.1).2 (k_fix C) hM cs ⟨k_blind, k_recB C K hRp hk, k_pre C hRp hS⟩ rfl hn hl.1 rfl (lv_room hst) d hf
  exact va_calln hr hS (fun q _ h => h) (fun q h => h) (fun r u t H1 locs1 ht ha hw hB hz hk1 hS1 => kk r u hw H1 locs1 ls (by rw [← ht]; exact hB) hS1 hl)
end JX
section JY
variable {p : Program} {l : Launch} {e : Env} {R : Room} {s : State} {m : MethodId} {args : Array Value} {below : List Frame} {meth : Method} {c : Code} {Q : State → Prop} {cc : ByteArray} {nL : Nat} {own : String} {ret : Option FieldType} {E : EV} {M : Mm} {kc ks mc ms pc : Nat} {lo : List (Nat × Value)} {st rest : List Value}
theorem j_cVs_V {idx n nY i : Nat} {y : MethodName} {cY : ByteArray} {P : Mm → Prop} {rm : Room} {As : List Value} (C : Cx p l s m args meth c cc nL own ret E) (hi : i < 12) (hin : (Cond.instanceMethod y) ∈ TB) (hse : (Cond.selects y.cls y y) ∈ TB) (hM : CtV l E y cY nY rm mc ms (Value.ref (E.2.2.2.1 i) :: As) M P) (kb : KB own idx y cY nY none n) (hrc : rm.cells = mc) (hrs : rm.slots = ms) (hR : rm.frames + 1 ≤ R.frames ∧ 8 + (nY + 11) + rm.locals ≤ R.locals) (hf : kc + mc ≤ R.cells ∧ ks + ms ≤ R.slots) (hn : As.length = n) (hst : (rest.map fun v => v.category).sum ≤ 8) (d : decode cc pc = .ok (.invokevirtual idx, 3))
    (kk : ∀ M', P M' → J p l e R s m args below meth c Q E nL M' (kc + mc) (ks + ms) (pc + 3) lo rest) (hy : y.cls = "java/lang/String" := by rfl) : J p l e R s m args below meth c Q E nL M kc ks pc lo (As.reverse ++ .ref (E.2.2.2.1 i) :: rest) := by
  intro H locs ls hRp hS hl
  have hrv : ∃ cell : Cell, H[E.2.2.2.1 i]? = some cell ∧ cell.vm.isStatics = false ∧ s.vm.findClass y.cls = some cell.cls := by rw [hy]; exact vk_recv C.2.2.2.2.2.2.1.2.2.2.2.2.1.1 hi hS
  have hr := va_runV (C := y.cls) (b := E.2.2.2.1 i) (As := As) (rest := rest) (g := F0 m pc ls (As.reverse ++ .ref (E.2.2.2.1 i) :: rest)) (H := H) (locs := locs) (cells := kc) (slots := ks) (p := p) (e := e) (below := below) (meth := meth) (k_fix C) hM ⟨k_cb C kb hrc hrs hR, C.2.2.2.2.1 _ hin, C.2.2.2.2.1 _ hse⟩ ⟨k_blind, hrv, k_pre C hRp hS⟩ rfl hn hl.1 rfl (lv_room hst) d hf
  exact va_callv hr hS (fun q _ h => h) (fun q h => h) (fun u t H1 locs1 ht ha hw hB hz hk1 hS1 => kk u hw H1 locs1 ls (by rw [← ht]; exact hB) hS1 hl)
end JY
abbrev rm_J0_checkIndex_df160 : Room := rm_S1
def w_J0_checkIndex_df160 (M : Mm) (a b : Int32) (P : Mm → Prop) : Prop := ¬ a < 0 ∧ a < b ∧ P M
theorem c_J0_checkIndex_df160 (l : Launch) (E : EV) (M : Mm) (a b : Int32) (P : Mm → Prop) (h : w_J0_checkIndex_df160 M a b P) : CtV l E yJ0_checkIndex_df160 cJ0_checkIndex_df160 2 rm_J0_checkIndex_df160 0 0 [.int a, .int b] M P := c_scheck l E M a b P h.1 h.2.1 h.2.2
