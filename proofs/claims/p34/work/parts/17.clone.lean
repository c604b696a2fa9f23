/-! clone of an int array; methods that answer a reference or null -/
/-- a new cell that is a copy of cell a -/
def sK (M : Mm) (a : Nat) : Mm := (M.1 + 1, fun b => if b = M.1 then zk M a else zk M b, fun b => if b = M.1 then zl M a else zl M b, fun b j => if b = M.1 then zI M a j else zI M b j, fun b j => if b = M.1 then zJ M a j else zJ M b j, fun b j => if b = M.1 then zR M a j else zR M b j)
theorem sK_o {cy : Nat → ClassId} {M : Mm} {a b : Nat} (h : b ≠ zn M) : zC cy (sK M a) b = zC cy M b :=
  zC_same (if_neg h) (if_neg h) (by funext j; exact if_neg h) (by funext j; exact if_neg h) (by funext j; exact if_neg h)
theorem sK_n {cy : Nat → ClassId} {M : Mm} {a : Nat} : zC cy (sK M a) (zn M) = zC cy M a := by
  have e1 : zk (sK M a) (zn M) = zk M a := if_pos rfl
  have e2 : zl (sK M a) (zn M) = zl M a := if_pos rfl
  have e3 : zI (sK M a) (zn M) = zI M a := by funext j; exact if_pos rfl
  have e4 : zJ (sK M a) (zn M) = zJ M a := by funext j; exact if_pos rfl
  have e5 : zR (sK M a) (zn M) = zR M a := by funext j; exact if_pos rfl
  have hf : ∀ tl, fvs (sK M a) (zn M) tl = fvs M a tl := fun tl => List.map_congr_left fun i _ => by unfold fv; rw [e3, e4, e5]
  unfold zC
  rw [e1, e2, e3, e4, e5, hf]
theorem Rp.newG {E : EV} {M M' : Mm} {H H1 : Heap} (h : Rp E M H) (hz : H1.size = H.size + 1) (ho : ∀ q : Nat, q < H.size → H1[q]? = H[q]?) (hn : zn M' = zn M + 1) (hk : ∀ b, b ≠ zn M → zk M' b = zk M b) (hc : ∀ b, b ≠ zn M → zC E.2.1 M' b = zC E.2.1 M b) (hat : va_at E.1 vwCl (zn M, zC E.2.1 M' (zn M)) H1) : Rp E M' H1 := by
  obtain ⟨h1, h2, h3⟩ := h
  refine ⟨by rw [hz, h1, hn], by rw [hn]; exact Nat.le_succ_of_le h2, fun b hb => ?_⟩
  by_cases e : b = zn M
  · subst e; exact ⟨h2, hat⟩
  · rw [hk b e] at hb
    refine ⟨(h3 b hb).1, ?_⟩
    rw [hc b e]
    exact (h3 b hb).2.kept (ho b (h3 b hb).2.lt)
section JU
variable {p : Program} {l : Launch} {e : Env} {R : Room} {s : State} {m : MethodId} {args : Array Value} {below : List Frame} {meth : Method} {c : Code} {Q : State → Prop} {cc : ByteArray} {nL : Nat} {own : String} {ret : Option FieldType} {E : EV} {M : Mm} {kc ks mc ms pc : Nat} {lo : List (Nat × Value)} {st rest : List Value}
theorem n_clonei (C : Cx p l s m args meth c cc nL own ret E) {idx a : Nat} {A : Nat → Mm → Prop} (nb : Nat)
    (hlink : (Cond.methodLink own idx ⟨"[I", "clone", "()Ljava/lang/Object;"⟩) ∈ TB) (hsame : (Cond.sameMethod "[I" "java/lang/Object" "clone" "()Ljava/lang/Object;") ∈ TB)
    (hnat : (Cond.native ⟨"java/lang/Object", "clone", "()Ljava/lang/Object;"⟩) ∈ TB) (hinst : (Cond.instanceMethod ⟨"java/lang/Object", "clone", "()Ljava/lang/Object;"⟩) ∈ TB)
    (hsel : (Cond.selects "[I" ⟨"[I", "clone", "()Ljava/lang/Object;"⟩ ⟨"java/lang/Object", "clone", "()Ljava/lang/Object;"⟩) ∈ TB) (hcl : (Cond.castable "[I" "java/lang/Cloneable") ∈ NW)
    (d : decode cc pc = .ok (.invokevirtual idx, 3)) (hframes : 1 ≤ R.frames) (hlocals : (st.map fun v => v.category).sum + 14 ≤ R.locals) (hcells : kc + 1 ≤ R.cells) (hslots : ks + nb ≤ R.slots)
    (h : zk M a = 10 ∧ zl M a ≤ nb ∧ ∀ b M', b = zn M → M' = sK M a → A b M')
    (kk : ∀ b M', A b M' → J p l e R s m args below meth c Q E nL M' (kc + 1) (ks + nb) (pc + 3) lo (.ref b :: st)) : J p l e R s m args below meth c Q E nL M kc ks pc lo (.ref a :: st) := by
  intro H locs ls hR hS hl
  obtain ⟨h1, h2, hA⟩ := h
  have hts := C.2.2.2.2.1
  have hK := C.2.2.2.2.2.2.1.2.1
  have hNw := C.2.2.2.2.2.2.1.2.2.2.1 _ hcl
  have hat := hR.cell h1 (by decide)
  have hzc : zC E.2.1 M a = .inl (E.2.1 10, zl M a, .inl (zI M a)) := zC_i h1 (by omega)
  rw [hzc] at hat
  have hcell : H[a]? = some (vp_cell (E.2.1 10) (zl M a, .inl (zI M a))) := hat
  have hnm : s.vm.findClass "[I" = some (E.2.1 10) := (hK.2 1 _ rfl).2
  obtain ⟨c0, t0', f1, f2, f3⟩ := Cond.castable_spec (va_Nw.use (A := args) rfl hNw)
  have e0 : c0 = E.2.1 10 := Option.some.inj (f1.symm.trans hnm)
  subst e0
  have hsz : (vp_cell (E.2.1 10) (zl M a, .inl (zI M a))).slots.size = zl M a := arrV_size _ _ _
  intro T hT X
  have hcellT : T.heap[a]? = some (vp_cell (E.2.1 10) (zl M a, .inl (zI M a))) := by rw [hT]; exact hcell
  obtain ⟨-, kA, hkA, comp, hkind⟩ := State.isArrayOf_alike X.warmed.alike ((hK.2 1 _ rfl).1 0 (fun _ => .null))
  obtain ⟨-, kS, hkS, compS, hkindS⟩ := (hK.2 1 _ rfl).1 0 (fun _ => .null)
  obtain ⟨vm', X', st9⟩ := X.cloneArray C.1 C.2.2.2.1 (hts _ hlink) (hts _ hsame) (hts _ hnat) (hts _ hinst) (hts _ hsel) (a := a) (cell := vp_cell (E.2.1 10) (zl M a, .inl (zI M a))) hcellT (fun k h => by cases h) (fun h => by cases h) hnm f2 f3
    (fun i v hv => by
      have hk' : T.vm.classes[E.2.1 10]? = some kA := hkA
      have hfit : fits .int v = true := by
        have hlt : i < zl M a := by
          have := (Array.getElem?_eq_some_iff.mp hv).1
          rw [hsz] at this; exact this
        have hv2 : (arrV (E.2.1 10) (zl M a) (fun j => Value.int (zI M a j))).slots[i]? = some v := hv
        rw [arrV_read _ _ hlt] at hv2
        cases hv2
        rfl
      have hkc : (vp_cell (E.2.1 10) (zl M a, .inl (zI M a))).cls = E.2.1 10 := rfl
      rw [hkc]
      simpa [State.fitsSlot, State.slotType?, hk', hkind] using hfit)
    (g := F0 m pc ls (.ref a :: st)) rfl (by rw [C.2.2.1]; exact hl.1) rfl (by rw [C.2.1]; exact d) hframes (by show 2 * 0 + _ + 14 ≤ _; omega) hcells (by rw [hsz]; omega) (hloader := Vm.clonesLoader_of_array hkS hkindS)
  have hcellE : ({ cls := (vp_cell (E.2.1 10) (zl M a, .inl (zI M a))).cls, slots := (vp_cell (E.2.1 10) (zl M a, .inl (zI M a))).slots } : Cell) = vp_cell (E.2.1 10) (zl M a, .inl (zI M a)) := rfl
  rw [hcellE, hsz] at X'
  generalize hH1 : H.push (vp_cell (E.2.1 10) (zl M a, .inl (zI M a))) = H1
  have z1 : H1.size = H.size + 1 := by rw [← hH1, Array.size_push]
  have e1 : H1[H.size]? = some (vp_cell (E.2.1 10) (zl M a, .inl (zI M a))) := by rw [← hH1, Array.getElem?_push_size]
  have o1 : ∀ q : Nat, q < H.size → H1[q]? = H[q]? := fun q hq => by rw [← hH1, Array.getElem?_push, if_neg (Nat.ne_of_lt hq)]
  have hz := hR.1
  have hW : W p l e R s m args below meth c H1 locs (kc + 1) (ks + zl M a) Q (F0 m (pc + 3) ls (.ref H.size :: st)) := by
    refine W.widen (Nat.le_refl _) (show ks + zl M a ≤ ks + nb by omega) ?_
    rw [show Value.ref H.size = Value.ref (zn M) by rw [hz]]
    refine kk _ _ (hA _ _ rfl rfl) H1 locs ls (hR.newG z1 o1 rfl (fun b hb => if_neg hb) (fun b hb => sK_o hb) ?_) ⟨Nat.le_trans hS.1 (by omega), fun x g1 g2 => (o1 x (Nat.lt_of_lt_of_le g1 hS.1)).trans (hS.2.1 x g1 g2), hS.2.2⟩ hl
    rw [sK_n, hzc]
    show H1[zn M]? = some _
    rw [← hz]; exact e1
  obtain ⟨t, b1, b2⟩ := hW ((T.setVm vm').pushCell (vp_cell (E.2.1 10) (zl M a, .inl (zI M a)))) (by rw [← hH1, ← hT]; rfl) X'
  refine ⟨t, st9 t ?_, b2⟩
  rw [hcellE, hT]
  exact b1
theorem j_castI (C : Cx p l s m args meth c cc nL own ret E) {idx a : Nat} {A : Prop} (hlink : (Cond.classLink own idx "[I") ∈ TB) (d : decode cc pc = .ok (.checkcast idx, 3)) (h : zk M a = 10 ∧ A) (kk : A → J p l e R s m args below meth c Q E nL M kc ks (pc + 3) lo (.ref a :: st)) : J p l e R s m args below meth c Q E nL M kc ks pc lo (.ref a :: st) := by
  intro H locs ls hR hS hl
  have hat := hR.cell h.1 (by decide)
  rw [zC_i h.1 (by omega)] at hat
  exact va_castA C.1 C.2.1 C.2.2.2.1 (C.2.2.2.2.1 _ hlink) (Rp.one hat) 0 rfl (C.2.2.2.2.2.2.1.2.1.2 1 _ rfl).2 d (kk h.2 H locs ls hR hS hl)
end JU
/-- a method that answers a reference, or null -/
def va_Qn {S : Type} (post : Option Nat → S → Prop) (B : S → State → Prop) (A : Nat → Prop) : Array Value → State → Outcome → State → Prop := fun _ st oc t => (∃ (r : Option Nat) (u : S), oc = .returned (some (va_rf r)) ∧ post r u ∧ B u t) ∧ va_F A st t
section VAN
variable {p : Program} {l : Launch} {e : Env} {R : Room} {s : State} {m : MethodId} {args : Array Value} {below : List Frame} {meth : Method} {c : Code} {H : Heap} {locs : List Loc} {cells slots : Nat} {Q : State → Prop}
variable {pc : Nat} {ls : Array Slot} {rest st0 : List Value} {a : Array Value} {A0 A1 : Nat → Prop} {H0 : Heap} {mc ms : Nat} {free : Addr → Prop}
theorem va_calln {S : Type} {post : Option Nat → S → Prop} {B : S → State → Prop} (hr : va_Run p l e R s m args below meth c H locs cells slots mc ms (F0 m pc ls st0) rest (va_Qn post B A1 a) free) (hS : va_S A0 H0 H locs) (hA : ∀ q, q < H.size → A1 q → A0 q) (hf : ∀ q, free q → A0 q)
    (kk : ∀ (r : Option Nat) (u : S) (t : State) (H1 : Heap) (locs1 : List Loc), t.heap = H1 → s.vm.Alike t.vm → post r u → B u t → H.size ≤ H1.size → (∀ q : Nat, q < H.size → ¬ A1 q → H1[q]? = H[q]?) → va_S A0 H0 H1 locs1 → W p l e R s m args below meth c H1 locs1 (cells + mc) (slots + ms) Q (F0 m (pc + 3) ls (va_rf r :: rest))) : W p l e R s m args below meth c H locs cells slots Q (F0 m pc ls st0) := by
  intro T hT X
  obtain ⟨v, st₀, t, T', L, h0, X', hL, e1, e2, ⟨⟨r, u, hv, hp, hb⟩, hz, hk⟩, st⟩ := hr T hT X
  cases hv
  rw [h0] at hz hk
  obtain ⟨t2, a1, b1⟩ := kk r u t T'.heap (locs ++ L) e1.symm (by rw [← e2]; exact X'.warmed.alike) hp hb (by rw [e1]; exact hz) (fun q h1 h2 => by rw [e1]; exact hk q h1 h2)
    ⟨Nat.le_trans hS.1 (by rw [e1]; exact hz), fun q h1 h2 => by rw [e1, hk q (Nat.lt_of_lt_of_le h1 hS.1) (fun z => h2 (hA q (Nat.lt_of_lt_of_le h1 hS.1) z))]; exact hS.2.1 q h1 h2, fun q hq => by
      rcases List.mem_append.mp hq with h | h
      · exact hS.2.2 q h
      · exact hf _ (hL q h)⟩ T' rfl X'
  exact ⟨t2, st t2 a1, b1⟩
end VAN
def CtN (l : Launch) (E : EV) (y : MethodName) (cY : ByteArray) (nY : Nat) (rt : FieldType) (rm : Room) (mc ms : Nat) (av : List Value) (M : Mm) (P : Option Nat → Mm → Prop) : Prop :=
  Met l y (Cond.code y cY nY (some rt) :: TB) rm (va_Pc av (fun U => Rp E M U.heap ∧ Kn l E U)) (va_Qn P (fun M' t => Rp E M' t.heap) (fun q => E.2.2.1 ≤ q)) mc ms (fun q => E.2.2.1 ≤ q)
abbrev QN (below : List Frame) (E : EV) (P : Option Nat → Mm → Prop) (args : Array Value) (s : State) (mc ms : Nat) : State → Prop := MQ below (va_Qn P (fun M' t => Rp E M' t.heap) (fun q => E.2.2.1 ≤ q)) args s mc ms (fun q => E.2.2.1 ≤ q)
theorem ctN_of {l : Launch} {E : EV} {y : MethodName} {cY : ByteArray} {n : Nat} {rt : FieldType} {rm : Room} {mc ms : Nat} {av : List Value} {M : Mm} {P : Option Nat → Mm → Prop} (hy : plainName y.cls = true) (hn : (lg_sl av).length ≤ n)
    (body : ∀ (p : Program) (e : Env) (s : State) (m : MethodId) (args : Array Value) (below : List Frame) (meth : Method) (c : Code), Cx p l s m args meth c cY n y.cls (some rt) E → J p l e rm s m args below meth c (QN below E P args s mc ms) E n M 0 0 0 (lv_args 0 av) []) : CtN l E y cY n rt rm mc ms av M P := by
  refine Met.ofW (cc := cY) (maxL := n) (ret := some rt) hy rfl ?_
  intro p e s m args below meth c s₁ B hml hv
  have C := ct_start (ws := TB) B hml hv
  obtain ⟨rfl, hR, hK⟩ := hv
  exact j_entry hn hR (body p e s m _ below meth c C)
section JV
variable {p : Program} {l : Launch} {e : Env} {R : Room} {s : State} {m : MethodId} {args : Array Value} {below : List Frame} {meth : Method} {c : Code} {Q : State → Prop} {cc : ByteArray} {nL : Nat} {own : String} {ret : Option FieldType} {E : EV} {M : Mm} {kc ks mc ms pc : Nat} {lo : List (Nat × Value)} {st rest : List Value}
theorem j_nret {rt : FieldType} {P : Option Nat → Mm → Prop} (r : Option Nat) (hrt : (∃ n, rt = .object n) ∨ ∃ t, rt = .array t) (C : Cx p l s m args meth c cc nL own (some rt) E) (d : decode cc pc = .ok (.areturn, 1)) (hc : kc ≤ mc) (hs : ks ≤ ms) (h : P r M) : J p l e R s m args below meth c (QN below E P args s mc ms) E nL M kc ks pc lo [va_rf r] := by
  intro H locs ls hR hS hl
  refine W.widen hc hs ?_
  exact W.aret (Qc := va_Qn P (fun M' t => Rp E M' t.heap) (fun q => E.2.2.1 ≤ q)) C.1 C.2.1 C.2.2.2.2.2.2.2.2 hrt (by cases r with | none => exact Or.inl rfl | some a => exact Or.inr ⟨a, rfl⟩) (fun t ht _ => ⟨⟨r, M, rfl, h, (show Rp E M t.heap by rw [ht]; exact hR)⟩, hS.F ht⟩) hS.2.2 d C.2.2.2.2.2.1
theorem j_cV_N {idx n nY : Nat} {y : MethodName} {cY : ByteArray} {rt : FieldType} {P : Option Nat → Mm → Prop} {rm : Room} {b : Nat} {As : List Value} (C : Cx p l s m args meth c cc nL own ret E) {ci N : Nat} {Cn : String} {T : u_T} {ty : Nat → FieldType} (K : CO ci Cn T N ty) (hy : y.cls = Cn) (hin : (Cond.instanceMethod y) ∈ TB) (hse : (Cond.selects y.cls y y) ∈ TB) (hk : zk M b = ci + 1) (hM : CtN l E y cY nY rt rm mc ms (Value.ref b :: As) M P) (kb : KB own idx y cY nY (some rt) n) (hrc : rm.cells = mc) (hrs : rm.slots = ms) (hR : rm.frames + 1 ≤ R.frames ∧ 8 + (nY + 11) + rm.locals ≤ R.locals) (hf : kc + mc ≤ R.cells ∧ ks + ms ≤ R.slots) (hn : As.length = n) (hst : (rest.map fun v => v.category).sum ≤ 8) (d : decode cc pc = .ok (.invokevirtual idx, 3))
    (kk : ∀ r M', P r M' → J p l e R s m args below meth c Q E nL M' (kc + mc) (ks + ms) (pc + 3) lo (va_rf r :: rest)) : J p l e R s m args below meth c Q E nL M kc ks pc lo (As.reverse ++ .ref b :: rest) := by
  intro H locs ls hRp hS hl
  subst hy
  have hr := va_runV (C := y.cls) (b := b) (As := As) (rest := rest) (g := F0 m pc ls (As.reverse ++ .ref b :: rest)) (H := H) (locs := locs) (cells := kc) (slots := ks) (p := p) (e := e) (below := below) (meth := meth) (k_fix C) hM ⟨k_cb C kb hrc hrs hR, C.2.2.2.2.1 _ hin, C.2.2.2.2.1 _ hse⟩ ⟨k_blind, k_recv C K hRp hk, k_pre C hRp hS⟩ rfl hn hl.1 rfl (lv_room hst) d hf
  exact va_calln hr hS (fun q _ h => h) (fun q h => h) (fun r u t H1 locs1 ht ha hw hB hz hk1 hS1 => kk r u hw H1 locs1 ls (by rw [← ht]; exact hB) hS1 hl)
theorem j_cS_N {idx n nY : Nat} {y : MethodName} {cY : ByteArray} {rt : FieldType} {P : Option Nat → Mm → Prop} {rm : Room} {As : List Value} (C : Cx p l s m args meth c cc nL own ret E) (hsta : (Cond.static y) ∈ TB) (hM : CtN l E y cY nY rt rm mc ms As M P) (kb : KB own idx y cY nY (some rt) n) (hrc : rm.cells = mc) (hrs : rm.slots = ms) (hR : rm.frames + 1 ≤ R.frames ∧ 8 + (nY + 11) + rm.locals ≤ R.locals) (hf : kc + mc ≤ R.cells ∧ ks + ms ≤ R.slots) (hn : As.length = n) (hst : (rest.map fun v => v.category).sum ≤ 8) (d : decode cc pc = .ok (.invokestatic idx, 3))
    (kk : ∀ r M', P r M' → J p l e R s m args below meth c Q E nL M' (kc + mc) (ks + ms) (pc + 3) lo (va_rf r :: rest)) : J p l e R s m args below meth c Q E nL M kc ks pc lo (As.reverse ++ rest) := by
  intro H locs ls hRp hS hl
  have hr := va_runS (As := As) (rest := rest) (g := F0 m pc ls (As.reverse ++ rest)) (H := H) (locs := locs) (cells := kc) (slots := ks) (p := p) (e := e) (below := below) (meth := meth) (k_fix C) hM ⟨k_cb C kb hrc hrs hR, C.2.2.2.2.1 _ hsta⟩ ⟨k_blind, k_pre C hRp hS⟩ rfl hn hl.1 rfl (lv_room hst) d hf
  exact va_calln hr hS (fun q _ h => h) (fun q h => h) (fun r u t H1 locs1 ht ha hw hB hz hk1 hS1 => kk r u hw H1 locs1 ls (by rw [← ht]; exact hB) hS1 hl)
end JV
