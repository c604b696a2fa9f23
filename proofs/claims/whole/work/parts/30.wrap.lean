/-! methods with an exception table, called by the law; the law's own script -/
def CtIW (l : Launch) (E : EV) (y : MethodName) (cY : ByteArray) (nY : Nat) (hh : List (Nat × Nat × Nat × Nat)) (rm : Room) (mc ms : Nat) (av : List Value) (M : Mm) (P : Int32 → Mm → Prop) : Prop :=
  Met l y (Cond.codeWith y cY nY (some .int) hh :: TB) rm (va_Pc av (fun U => Rp E M U.heap ∧ Kn l E U)) (va_Qi P (fun M' t => Rp E M' t.heap) (fun q => E.2.2.1 ≤ q)) mc ms (fun q => E.2.2.1 ≤ q)
theorem ctIW_of {l : Launch} {E : EV} {y : MethodName} {cY : ByteArray} {n : Nat} {hh : List (Nat × Nat × Nat × Nat)} {rm : Room} {mc ms : Nat} {av : List Value} {M : Mm} {P : Int32 → Mm → Prop} (hy : plainName y.cls = true) (hn : (lg_sl av).length ≤ n)
    (body : ∀ (p : Program) (e : Env) (s : State) (m : MethodId) (args : Array Value) (below : List Frame) (meth : Method) (c : Code), Cx p l s m args meth c cY n y.cls (some .int) E → c.exceptionTable.toList = tableOf hh → J p l e rm s m args below meth c (QI below E P args s mc ms) E n M 0 0 0 (lv_args 0 av) []) : CtIW l E y cY n hh rm mc ms av M P := by
  unfold CtIW Met
  refine MetFree.of_bodyS (code := cY) (maxLocals := n) (ret := some .int) hy ?_ ?_
  · intro args s m h hn9
    obtain ⟨m9, meth, c, hn8, h1, h2, h3, h4, -, h5, h6, -⟩ := Cond.codeWith_spec (atoms_spec (ws := Cond.codeWith y cY n (some .int) hh :: TB) h _ List.mem_cons_self)
    cases hn9.symm.trans hn8
    exact ⟨meth, c, h1, h2, h3, h4, h5, h6⟩
  · intro p e s m args below meth c s₁ B hml0 hv _
    have hts := atoms_spec (ws := Cond.codeWith y cY n (some .int) hh :: TB) B.pre
    have htab := vx_table (x := y) B (hts _ List.mem_cons_self)
    have hml : c.maxLocals = n := hml0
    obtain ⟨rfl, hR, hK⟩ := hv
    have C : Cx p l s m av.toArray meth c cY n y.cls (some .int) E := ⟨B.exec, B.bytes, hml, findClass_of_methodNamed B.named, fun w hw => hts w (List.mem_cons_of_mem _ hw), B.notSynchronized, hK, by rw [hR.1]; exact hR.2.1, B.returns⟩
    have hh0 : s₁.heap = s.heap := by rw [B.state]; rfl
    obtain ⟨t, a1, o, b1, b2, b3⟩ := j_entry hn hR (body p e s m _ below meth c C htab) s₁ hh0 (Stand.of_body B)
    exact ⟨t, o, a1, b1, b2, ⟨b3.1, b3.2⟩⟩
section JW
variable {p : Program} {l : Launch} {e : Env} {R : Room} {s : State} {m : MethodId} {args : Array Value} {below : List Frame} {meth : Method} {c : Code} {Q : State → Prop} {cc : ByteArray} {nL : Nat} {own : String} {ret : Option FieldType} {E : EV} {M : Mm} {kc ks mc ms pc : Nat} {lo : List (Nat × Value)} {st rest : List Value}
/-- a wrapper is called -/
theorem j_cSW {idx n nY : Nat} {y : MethodName} {cY : ByteArray} {hh : List (Nat × Nat × Nat × Nat)} {P : Int32 → Mm → Prop} {rm : Room} {As : List Value} (C : Cx p l s m args meth c cc nL own ret E) (hM : CtIW l E y cY nY hh rm mc ms As M P) (k1 : (Cond.codeWith y cY nY (some .int) hh) ∈ TB) (k2 : (Cond.methodLink own idx y) ∈ TB) (k3 : (Cond.initialized y.cls) ∈ TB) (k4 : (Cond.static y) ∈ TB) (k5 : y.cls ≠ "java/lang/invoke/MethodHandle" ∧ y.cls ≠ "java/lang/invoke/VarHandle" ∧ (parseMethodDescriptor y.desc).map (fun d => d.parameters.length) = some n) (hrc : rm.cells = mc) (hrs : rm.slots = ms) (hR : rm.frames + 1 ≤ R.frames ∧ 8 + (nY + 11) + rm.locals ≤ R.locals) (hf : kc + mc ≤ R.cells ∧ ks + ms ≤ R.slots) (hn : As.length = n) (hst : (rest.map fun v => v.category).sum ≤ 8) (d : decode cc pc = .ok (.invokestatic idx, 3))
    (kk : ∀ r M', P r M' → J p l e R s m args below meth c Q E nL M' (kc + mc) (ks + ms) (pc + 3) lo (.int r :: rest)) : J p l e R s m args below meth c Q E nL M kc ks pc lo (As.reverse ++ rest) := by
  intro H locs ls hRp hS hl
  have hts := C.2.2.2.2.1
  have hG : GoodIn TB (Cond.codeWith y cY nY (some .int) hh :: TB) := TB_in k1 rfl (fun _ h => h)
  have hr := vx_runSW (As := As) (rest := rest) (g := F0 m pc ls (As.reverse ++ rest)) (H := H) (locs := locs) (cells := kc) (slots := ks) (p := p) (e := e) (below := below) (meth := meth) (own := own) (index := idx) (maxL := nY) (bytes := cY) (ret := some .int) (hh := hh) (n := n) (k_fix C) hM
    ⟨⟨hrc, hrs, hR.1, hR.2, pay_in hts hG, List.mem_cons_self⟩, hts _ k1, hts _ k3, ⟨k5.1, k5.2.1⟩, fun sig h => by
      have h2 := k5.2.2
      rw [h] at h2
      exact (Option.some.inj h2).symm, hts _ k2, hts _ k4⟩ ⟨k_blind, k_pre C hRp hS⟩ rfl hn hl.1 rfl (lv_room hst) d hf
  exact va_calli hr hS (fun q _ h => h) (fun q h => h) (fun r u t H1 locs1 ht ha hw hB hz hk1 hS1 => kk r u hw H1 locs1 ls (by rw [← ht]; exact hB) hS1 hl)
/-- the row of the table that catches F at pc -/
def KX (own : String) (hh : List (Nat × Nat × Nat × Nat)) (pc : Nat) (F : String) (tgt : Nat) : Prop := ∃ (pre : List ExceptionTableEntry) (x : ExceptionTableEntry) (suf : List ExceptionTableEntry), tableOf hh = pre ++ x :: suf ∧ (∀ z ∈ pre, covers z pc = false ∨ (z.catchType ≠ 0 ∧ ∃ nm : String, (Cond.classLink own z.catchType nm) ∈ TB ∧ (F, nm) ∈ zPairs)) ∧ covers x pc = true ∧ x.catchType ≠ 0 ∧ (∃ nm : String, (Cond.classLink own x.catchType nm) ∈ TB ∧ (Cond.castable F nm) ∈ NW) ∧ x.handlerPc = tgt
/-- a callee that may throw, in a method that catches -/
theorem j_xW {X : String → Mm → Prop} {hh : List (Nat × Nat × Nat × Nat)} {idx n nY : Nat} {y : MethodName} {cY : ByteArray} {rt : FieldType} {P : Int32 → Mm → Prop} {rm : Room} {b : Nat} {As : List Value} (C : Cx p l s m args meth c cc nL own ret E) (htab : c.exceptionTable.toList = tableOf hh) {ci N : Nat} {Cn : String} {T : u_T} {ty : Nat → FieldType} (K : CO ci Cn T N ty) (hy : y.cls = Cn) (hin : (Cond.instanceMethod y) ∈ TB) (hse : (Cond.selects y.cls y y) ∈ TB) (hk : zk M b = ci + 1) (hM : CtIX l E y cY nY rt rm mc ms (Value.ref b :: As) M P X) (kb : KB own idx y cY nY (some rt) n) (hrc : rm.cells = mc) (hrs : rm.slots = ms) (hR : rm.frames + 1 ≤ R.frames ∧ 8 + (nY + 11) + rm.locals ≤ R.locals) (hf : kc + mc ≤ R.cells ∧ ks + ms ≤ R.slots) (hn : As.length = n) (hst : (rest.map fun v => v.category).sum ≤ 8) (d : decode cc pc = .ok (.invokevirtual idx, 3))
    (kx : ∀ F M', X F M' → ∃ tgt, KX own hh pc F tgt ∧ ∀ q, J p l e R s m args below meth c Q E nL M' (kc + mc) (ks + ms) tgt lo [.ref q])
    (kk : ∀ r M', P r M' → J p l e R s m args below meth c Q E nL M' (kc + mc) (ks + ms) (pc + 3) lo (.int r :: rest)) : J p l e R s m args below meth c Q E nL M kc ks pc lo (As.reverse ++ .ref b :: rest) := by
  intro H locs ls hRp hS hl
  subst hy
  have hts := C.2.2.2.2.1
  have hN := C.2.2.2.2.2.2.1.2.2.2.1
  have hZ := C.2.2.2.2.2.2.1.2.2.2.2.2.2
  have hr := vx_runV (C := y.cls) (b := b) (As := As) (rest := rest) (g := F0 m pc ls (As.reverse ++ .ref b :: rest)) (H := H) (locs := locs) (cells := kc) (slots := ks) (p := p) (e := e) (below := below) (meth := meth) (k_fix C) hM ⟨k_cb C kb hrc hrs hR, hts _ hin, hts _ hse⟩ ⟨k_blind, k_recv C K hRp hk, k_pre C hRp hS⟩ rfl hn hl.1 rfl (lv_room hst) d hf
  refine vx_calli hr hS (fun q _ h => h) (fun q h => h) (fun q _ h => h) (fun F ce q9 u t H1 locs1 ht ha hw hB hz hk1 hS1 hce hv hcl => ?_) (fun r u t H1 locs1 ht ha hw hB hz hk1 hS1 => kk r u hw H1 locs1 ls (by rw [← ht]; exact hB) hS1 hl)
  obtain ⟨tgt, ⟨pre, x, suf, h1, h2, h3, h4, ⟨nm, h5, h6⟩, h7⟩, kJ⟩ := kx F u hB.1
  subst h7
  refine vx_catch C.2.2.2.1 pre x suf (htab.trans h1) (fun z hz2 => ?_) h3 h4 (hts _ h5) (va_Nw.use rfl (hN _ h6)) hce hv hcl (kJ q9 H1 locs1 ls (by rw [← ht]; exact hB.2) hS1 hl)
  rcases h2 z hz2 with q | ⟨q1, nm2, q2, q3⟩
  · exact Or.inl q
  · exact Or.inr ⟨q1, nm2, hts _ q2, hZ _ q3⟩
/-- the script is read -/
theorem j_sld {b L : Nat} {xs : Nat → Int32} {i : Int32} {A : Prop} (C : Cx p l s m args meth c cc nL own ret E) (hX : va_X b L xs s s.heap) (hbl : b < s.heap.size) (hbA : ¬ E.2.2.1 ≤ b) (d : decode cc pc = .ok (.iaload, 1)) (h : vp_in i L ∧ A) (kk : A → J p l e R s m args below meth c Q E nL M kc ks (pc + 1) lo (.int (xs i.toNatClampNeg) :: st)) : J p l e R s m args below meth c Q E nL M kc ks pc lo (.int i :: .ref b :: st) :=
  fun H locs ls hR hS hl => va_sld C.1 C.2.1 hX hbl hbA hS h.1 d (kk h.2 H locs ls hR hS hl)
theorem j_slL {b L : Nat} {xs : Nat → Int32} (C : Cx p l s m args meth c cc nL own ret E) (hX : va_X b L xs s s.heap) (hbl : b < s.heap.size) (hbA : ¬ E.2.2.1 ≤ b) (d : decode cc pc = .ok (.arraylength, 1)) (kk : J p l e R s m args below meth c Q E nL M kc ks (pc + 1) lo (.int (nI L) :: st)) : J p l e R s m args below meth c Q E nL M kc ks pc lo (.ref b :: st) :=
  fun H locs ls hR hS hl => va_slen C.1 C.2.1 hX hbl hbA hS d (kk H locs ls hR hS hl)
end JW
