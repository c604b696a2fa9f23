/-! how a method starts and ends; calls of methods by their contracts -/
section JE
variable {p : Program} {l : Launch} {e : Env} {R : Room} {s : State} {m : MethodId} {args : Array Value} {below : List Frame} {meth : Method} {c : Code} {Q : State → Prop} {cc : ByteArray} {nL : Nat} {own : String} {E : EV} {M : Mm} {kc ks mc ms pc : Nat} {lo : List (Nat × Value)} {st : List Value}
/-- the end that a body owes: it returns an int .. -/
abbrev QI (below : List Frame) (E : EV) (P : Int32 → Mm → Prop) (args : Array Value) (s : State) (mc ms : Nat) : State → Prop := MQ below (va_Qi P (fun M' t => Rp E M' t.heap) (fun q => E.2.2.1 ≤ q)) args s mc ms (fun q => E.2.2.1 ≤ q)
abbrev QL (below : List Frame) (E : EV) (P : Int64 → Mm → Prop) (args : Array Value) (s : State) (mc ms : Nat) : State → Prop := MQ below (va_Ql P (fun M' t => Rp E M' t.heap) (fun q => E.2.2.1 ≤ q)) args s mc ms (fun q => E.2.2.1 ≤ q)
abbrev QV (below : List Frame) (E : EV) (P : Mm → Prop) (args : Array Value) (s : State) (mc ms : Nat) : State → Prop := MQ below (va_Qv P (fun M' t => Rp E M' t.heap) (fun q => E.2.2.1 ≤ q)) args s mc ms (fun q => E.2.2.1 ≤ q)
abbrev QIX (below : List Frame) (E : EV) (P : Int32 → Mm → Prop) (X : String → Mm → Prop) (args : Array Value) (s : State) (mc ms : Nat) : State → Prop := vx_MQ below (va_Qi P (fun M' t => Rp E M' t.heap) (fun q => E.2.2.1 ≤ q)) (XX E X) args s mc ms (fun q => E.2.2.1 ≤ q)
abbrev QVX (below : List Frame) (E : EV) (P : Mm → Prop) (X : String → Mm → Prop) (args : Array Value) (s : State) (mc ms : Nat) : State → Prop := vx_MQ below (va_Qv P (fun M' t => Rp E M' t.heap) (fun q => E.2.2.1 ≤ q)) (XX E X) args s mc ms (fun q => E.2.2.1 ≤ q)
theorem j_iret {P : Int32 → Mm → Prop} {v : Int32} (C : Cx p l s m args meth c cc nL own (some .int) E) (d : decode cc pc = .ok (.ireturn, 1)) (hc : kc ≤ mc) (hs : ks ≤ ms) (h : P v M) : J p l e R s m args below meth c (QI below E P args s mc ms) E nL M kc ks pc lo [.int v] := by
  intro H locs ls hR hS hl
  refine W.widen hc hs ?_
  exact W.iret C.1 C.2.1 C.2.2.2.2.2.2.2.2 (fun t ht hW => ⟨⟨v, M, rfl, h, (show Rp E M t.heap by rw [ht]; exact hR)⟩, hS.F ht⟩) hS.2.2 d C.2.2.2.2.2.1
theorem j_zret {P : Int32 → Mm → Prop} {v : Int32} (C : Cx p l s m args meth c cc nL own (some .boolean) E) (d : decode cc pc = .ok (.ireturn, 1)) (hc : kc ≤ mc) (hs : ks ≤ ms) (h : (v = 0 ∨ v = 1) ∧ P v M) : J p l e R s m args below meth c (QI below E P args s mc ms) E nL M kc ks pc lo [.int v] := by
  intro H locs ls hR hS hl
  refine W.widen hc hs ?_
  exact W.zret C.1 C.2.1 C.2.2.2.2.2.2.2.2 (by rcases h.1 with q | q <;> subst q <;> rfl) (fun t ht hW => ⟨⟨v, M, rfl, h.2, (show Rp E M t.heap by rw [ht]; exact hR)⟩, hS.F ht⟩) hS.2.2 d C.2.2.2.2.2.1
theorem j_cret {P : Int32 → Mm → Prop} {v : Int32} (C : Cx p l s m args meth c cc nL own (some .char) E) (d : decode cc pc = .ok (.ireturn, 1)) (hc : kc ≤ mc) (hs : ks ≤ ms) (h : narrow .char (.int v) = .int v ∧ P v M) : J p l e R s m args below meth c (QI below E P args s mc ms) E nL M kc ks pc lo [.int v] := by
  intro H locs ls hR hS hl
  refine W.widen hc hs ?_
  exact W.zret C.1 C.2.1 C.2.2.2.2.2.2.2.2 h.1 (fun t ht hW => ⟨⟨v, M, rfl, h.2, (show Rp E M t.heap by rw [ht]; exact hR)⟩, hS.F ht⟩) hS.2.2 d C.2.2.2.2.2.1
theorem j_bret {P : Int32 → Mm → Prop} {v : Int32} (C : Cx p l s m args meth c cc nL own (some .byte) E) (d : decode cc pc = .ok (.ireturn, 1)) (hc : kc ≤ mc) (hs : ks ≤ ms) (h : narrow .byte (.int v) = .int v ∧ P v M) : J p l e R s m args below meth c (QI below E P args s mc ms) E nL M kc ks pc lo [.int v] := by
  intro H locs ls hR hS hl
  refine W.widen hc hs ?_
  exact W.zret C.1 C.2.1 C.2.2.2.2.2.2.2.2 h.1 (fun t ht hW => ⟨⟨v, M, rfl, h.2, (show Rp E M t.heap by rw [ht]; exact hR)⟩, hS.F ht⟩) hS.2.2 d C.2.2.2.2.2.1
theorem j_lret {P : Int64 → Mm → Prop} {v : Int64} (C : Cx p l s m args meth c cc nL own (some .long) E) (d : decode cc pc = .ok (.lreturn, 1)) (hc : kc ≤ mc) (hs : ks ≤ ms) (h : P v M) : J p l e R s m args below meth c (QL below E P args s mc ms) E nL M kc ks pc lo [.long v] := by
  intro H locs ls hR hS hl
  refine W.widen hc hs ?_
  exact W.lret C.1 C.2.1 C.2.2.2.2.2.2.2.2 (fun t ht hW => ⟨⟨v, M, rfl, h, (show Rp E M t.heap by rw [ht]; exact hR)⟩, hS.F ht⟩) hS.2.2 d C.2.2.2.2.2.1
theorem j_vret {P : Mm → Prop} (C : Cx p l s m args meth c cc nL own none E) (d : decode cc pc = .ok (.return_, 1)) (hc : kc ≤ mc) (hs : ks ≤ ms) (h : P M) : J p l e R s m args below meth c (QV below E P args s mc ms) E nL M kc ks pc lo [] := by
  intro H locs ls hR hS hl
  refine W.widen hc hs ?_
  exact W.vret C.1 C.2.1 C.2.2.2.2.2.2.2.2 (fun t ht hW => ⟨⟨M, rfl, h, (show Rp E M t.heap by rw [ht]; exact hR)⟩, hS.F ht⟩) hS.2.2 d C.2.2.2.2.2.1
theorem j_iretX {P : Int32 → Mm → Prop} {X : String → Mm → Prop} {v : Int32} (C : Cx p l s m args meth c cc nL own (some .int) E) (d : decode cc pc = .ok (.ireturn, 1)) (hc : kc ≤ mc) (hs : ks ≤ ms) (h : P v M) : J p l e R s m args below meth c (QIX below E P X args s mc ms) E nL M kc ks pc lo [.int v] :=
  fun H locs ls hR hS hl => vx_ret (j_iret C d hc hs h H locs ls hR hS hl)
theorem j_zretX {P : Int32 → Mm → Prop} {X : String → Mm → Prop} {v : Int32} (C : Cx p l s m args meth c cc nL own (some .boolean) E) (d : decode cc pc = .ok (.ireturn, 1)) (hc : kc ≤ mc) (hs : ks ≤ ms) (h : (v = 0 ∨ v = 1) ∧ P v M) : J p l e R s m args below meth c (QIX below E P X args s mc ms) E nL M kc ks pc lo [.int v] :=
  fun H locs ls hR hS hl => vx_ret (j_zret C d hc hs h H locs ls hR hS hl)
theorem j_vretX {P : Mm → Prop} {X : String → Mm → Prop} (C : Cx p l s m args meth c cc nL own none E) (d : decode cc pc = .ok (.return_, 1)) (hc : kc ≤ mc) (hs : ks ≤ ms) (h : P M) : J p l e R s m args below meth c (QVX below E P X args s mc ms) E nL M kc ks pc lo [] :=
  fun H locs ls hR hS hl => vx_ret (j_vret C d hc hs h H locs ls hR hS hl)
/-- throw new F() -/
theorem j_throw {Qc : Array Value → State → Outcome → State → Prop} {X : String → Mm → Prop} {ret : Option FieldType} {ik ic : Nat} {F : String} {names : List String} (C : Cx p l s m args meth c cc nL own ret E) (hex : ∀ x ∈ c.exceptionTable.toList, False) (hF : Bundle.fit F = true) (hnames : ∀ n ∈ names, Bundle.fit n = true)
    (hk : (Cond.classLink own ik F) ∈ TB) (hini : (Cond.initialized F) ∈ TB) (hat : ∀ w ∈ vx_at0 own ic F names, w ∈ TB ∨ w ∈ NW)
    (d0 : decode cc pc = .ok (.new ik, 3)) (d3 : decode cc (pc + 3) = .ok (.dup, 1)) (d4 : decode cc (pc + 4) = .ok (.invokespecial ic, 3)) (d7 : decode cc (pc + 7) = .ok (.athrow, 1))
    (hRf : names.length + 3 < R.frames) (hRl : (st.map fun v => v.category).sum + (13 * (names.length + 1) + 42) ≤ R.locals) (hRc : kc + 1 ≤ R.cells) (hRs : ks + 6 ≤ R.slots) (hc : kc + 1 ≤ mc) (hs : ks + 6 ≤ ms)
    (h : ∀ n, zn M ≤ n → X F (sZ M n)) : J p l e R s m args below meth c (vx_MQ below Qc (XX E X) args s mc ms (fun q => E.2.2.1 ≤ q)) E nL M kc ks pc lo st := by
  intro H locs ls hR hS hl
  obtain ⟨hx, hb, hml, hown, hts, hlk, hKn, hbs, -⟩ := C
  obtain ⟨hst, hK, hAO, hN, ⟨hU, hV⟩, -⟩ := hKn
  refine vx_throw0 (names := names) (A := fun q => E.2.2.1 ≤ q) hx hb hst hown hF hnames (hts _ hk) (hts _ hini) (fun w hw => ?_) ?_ hU hV hS (by rw [hml]; exact hl.1) d0 d3 d4 d7 (fun x hx => (hex x hx).elim) hRf hRl hRc hRs hlk (fun t ha hz hq => ?_) hS.2.2 hc hs
  · rcases hat w hw with q | q
    · exact hts _ q
    · exact va_Nw.use (zNest_tab (List.mem_filter.mp q).2) (hN _ q)
  · intro w hw
    have g1 : ∀ w, w ∈ TB → vx_ot w = true := fun w h => by unfold vx_ot; rw [TB_good h, Bool.or_true]
    have g2 : ∀ w, w ∈ NW → vx_ot w = true := fun w h => by unfold vx_ot; rw [zNest_tab (List.mem_filter.mp h).2, Bool.true_or]
    rcases List.mem_cons.mp hw with q | hw
    · rw [q]; exact g1 _ hk
    · rcases List.mem_cons.mp hw with q | hw
      · rw [q]; exact g1 _ hini
      · exact (hat w hw).elim (g1 w) (g2 w)
  · refine ⟨sZ M t.heap.size, trivial, ⟨h _ (by rw [← hR.1]; exact hz), hR.grow hz hq⟩, Nat.le_trans hS.1 hz, fun q q1 q2 => ?_⟩
    rw [hq q (Nat.lt_of_lt_of_le q1 hS.1)]
    exact hS.2.1 q q1 q2
/-- a method's start -/
theorem ct_start {y : MethodName} {ws : List Cond} {rm : Room} {cY : ByteArray} {n : Nat} {rt : Option FieldType} {av : List Value} {s₁ : State} (B : BodyLoose p l y (headSpec (Cond.code y cY n rt :: TB) rm) cY n rt e s m args below meth c s₁) (hml : c.maxLocals = n) (hv : va_Pc av (fun U => Rp E M U.heap ∧ Kn l E U) args s) : Cx p l s m args meth c cY n y.cls rt E := by
  obtain ⟨-, hR, hK⟩ := hv
  have hts := atoms_spec (ws := Cond.code y cY n rt :: TB) B.pre
  exact ⟨B.exec, B.bytes, hml, findClass_of_methodNamed B.named, fun w hw => hts w (List.mem_cons_of_mem _ hw), B.notSynchronized, hK, by rw [hR.1]; exact hR.2.1, B.returns⟩
theorem j_entry {av : List Value} {n : Nat} {kc ks : Nat} (hn : (lg_sl av).length ≤ n) (hR : Rp E M s.heap) (hJ : J p l e R s m args below meth c Q E n M kc ks 0 (lv_args 0 av) []) : W p l e R s m args below meth c s.heap [] kc ks Q (entryFrame m av.toArray n) := by
  have hl := lv_entry av (n := n) hn
  rw [lg_entry_eq]
  exact hJ s.heap [] _ hR va_S.rf hl
end JE
theorem ctI_of {l : Launch} {E : EV} {y : MethodName} {cY : ByteArray} {n : Nat} {rt : FieldType} {rm : Room} {mc ms : Nat} {av : List Value} {M : Mm} {P : Int32 → Mm → Prop} (hy : plainName y.cls = true) (hn : (lg_sl av).length ≤ n)
    (body : ∀ (p : Program) (e : Env) (s : State) (m : MethodId) (args : Array Value) (below : List Frame) (meth : Method) (c : Code), Cx p l s m args meth c cY n y.cls (some rt) E → J p l e rm s m args below meth c (QI below E P args s mc ms) E n M 0 0 0 (lv_args 0 av) []) : CtI l E y cY n rt rm mc ms av M P := by
  refine Met.ofW (cc := cY) (maxL := n) (ret := some rt) hy rfl ?_
  intro p e s m args below meth c s₁ B hml hv
  have C := ct_start (ws := TB) B hml hv
  obtain ⟨rfl, hR, hK⟩ := hv
  exact j_entry hn hR (body p e s m _ below meth c C)
theorem ctL_of {l : Launch} {E : EV} {y : MethodName} {cY : ByteArray} {n : Nat} {rm : Room} {mc ms : Nat} {av : List Value} {M : Mm} {P : Int64 → Mm → Prop} (hy : plainName y.cls = true) (hn : (lg_sl av).length ≤ n)
    (body : ∀ (p : Program) (e : Env) (s : State) (m : MethodId) (args : Array Value) (below : List Frame) (meth : Method) (c : Code), Cx p l s m args meth c cY n y.cls (some .long) E → J p l e rm s m args below meth c (QL below E P args s mc ms) E n M 0 0 0 (lv_args 0 av) []) : CtL l E y cY n rm mc ms av M P := by
  refine Met.ofW (cc := cY) (maxL := n) (ret := some .long) hy rfl ?_
  intro p e s m args below meth c s₁ B hml hv
  have C := ct_start (ws := TB) B hml hv
  obtain ⟨rfl, hR, hK⟩ := hv
  exact j_entry hn hR (body p e s m _ below meth c C)
theorem ctV_of {l : Launch} {E : EV} {y : MethodName} {cY : ByteArray} {n : Nat} {rm : Room} {mc ms : Nat} {av : List Value} {M : Mm} {P : Mm → Prop} (hy : plainName y.cls = true) (hn : (lg_sl av).length ≤ n)
    (body : ∀ (p : Program) (e : Env) (s : State) (m : MethodId) (args : Array Value) (below : List Frame) (meth : Method) (c : Code), Cx p l s m args meth c cY n y.cls none E → meth.name = y.name → J p l e rm s m args below meth c (QV below E P args s mc ms) E n M 0 0 0 (lv_args 0 av) []) : CtV l E y cY n rm mc ms av M P := by
  refine Met.ofW (cc := cY) (maxL := n) (ret := none) hy rfl ?_
  intro p e s m args below meth c s₁ B hml hv
  have C := ct_start (ws := TB) B hml hv
  obtain ⟨rfl, hR, hK⟩ := hv
  exact j_entry hn hR (body p e s m _ below meth c C (name_of_methodNamed B.named B.method).1)
theorem ctIX_of {l : Launch} {E : EV} {y : MethodName} {cY : ByteArray} {n : Nat} {rt : FieldType} {rm : Room} {mc ms : Nat} {av : List Value} {M : Mm} {P : Int32 → Mm → Prop} {X : String → Mm → Prop} (hy : plainName y.cls = true) (hn : (lg_sl av).length ≤ n)
    (body : ∀ (p : Program) (e : Env) (s : State) (m : MethodId) (args : Array Value) (below : List Frame) (meth : Method) (c : Code), Cx p l s m args meth c cY n y.cls (some rt) E → (∀ x ∈ c.exceptionTable.toList, False) → J p l e rm s m args below meth c (QIX below E P X args s mc ms) E n M 0 0 0 (lv_args 0 av) []) : CtIX l E y cY n rt rm mc ms av M P X := by
  refine vx_ofW (cc := cY) (maxL := n) (ret := some rt) hy rfl ?_
  intro p e s m args below meth c s₁ B hml hex hv
  have C := ct_start (ws := TB) B hml hv
  obtain ⟨rfl, hR, hK⟩ := hv
  exact j_entry hn hR (body p e s m _ below meth c C hex)
theorem ctVX_of {l : Launch} {E : EV} {y : MethodName} {cY : ByteArray} {n : Nat} {rm : Room} {mc ms : Nat} {av : List Value} {M : Mm} {P : Mm → Prop} {X : String → Mm → Prop} (hy : plainName y.cls = true) (hn : (lg_sl av).length ≤ n)
    (body : ∀ (p : Program) (e : Env) (s : State) (m : MethodId) (args : Array Value) (below : List Frame) (meth : Method) (c : Code), Cx p l s m args meth c cY n y.cls none E → (∀ x ∈ c.exceptionTable.toList, False) → J p l e rm s m args below meth c (QVX below E P X args s mc ms) E n M 0 0 0 (lv_args 0 av) []) : CtVX l E y cY n rm mc ms av M P X := by
  refine vx_ofW (cc := cY) (maxL := n) (ret := none) hy rfl ?_
  intro p e s m args below meth c s₁ B hml hex hv
  have C := ct_start (ws := TB) B hml hv
  obtain ⟨rfl, hR, hK⟩ := hv
  exact j_entry hn hR (body p e s m _ below meth c C hex)
