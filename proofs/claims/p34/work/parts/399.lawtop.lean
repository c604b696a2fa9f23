/-! from the skeleton: the law's own end, and what holds at its entry -/
def R_law : String := "OrchestraSeasonLaw"
def lw_P (b : Addr) (xs : List Int32) (args : Array Value) (s : State) : Prop := args = #[.ref b] ∧ s.IntsAt b xs ∧ xs.length ≤ 260 ∧ (Jvm.Cond.and given_1 narrow_1).before args s = true
def lw_Q (_ : Array Value) (s : State) (o : Outcome) (t : State) : Prop := o = .returned (some (.int 1)) ∧ Framed s o t [] room_1.cells room_1.slots
def lw_Z (below : List Frame) (a : Array Value) (s : State) : State → Prop := fun t => ∃ o, t.status = .running ∧ Ended t below o ∧ lw_Q a s o t
/-- the law's own end, with 1 on the stack, nothing written that was there before, its room as the claim has it -/
theorem lw_ret {p : Program} {l : Launch} {e : Env} {s : State} {m : MethodId} {below : List Frame} {meth : Method} {c : Code} {b : Nat} (hx : p.tables.exec = Jvm.exec) (hb : c.code = code) (hr : meth.sig.returnType = ret) (hlocks : meth.locks = false) {pc : Nat} {H : Heap} {ls : Array Slot} (hdg : decode code pc = .ok (.ireturn, 1)) : W p l e room_1 s m #[Value.ref b] below meth c H [] room_1.cells room_1.slots (lw_Z below #[Value.ref b] s) (F0 m pc ls [.int 1]) := by
  intro T hT X
  obtain ⟨fs, hret, hrun, hended, hW, hframe⟩ := X.leave (v := some (.int 1)) (hlocks := hlocks) (fun h => by rw [hr] at h; cases h)
  have hmeth' : T.vm.method? m = some meth := X.method'
  refine ⟨T.setFrames fs, ?_, .returned (some (.int 1)), hrun, hended, rfl, ⟨_, rfl⟩, hW, hframe⟩
  jvm_step X.here [X.here.top, hx, hb, hdg, hmeth', hr, ret, narrow_b1]
  (try refine ⟨rfl, ?_⟩); (try refine ⟨rfl, ?_⟩)
  first | (intro acts; rw [hret _ acts rfl rfl rfl]) | rw [hret _ _ rfl rfl rfl]
  exact Steps.refl _
/-- what holds at the law's entry: the machine, the code, the tables' words (any of lw_tbl by 'hts w (by decide +kernel)'), the script of L ints xs at the cell b, what the Statement gives of the start (any of its parts by flat_of_before) -/
def lw_At (p : Program) (s : State) (m : MethodId) (meth : Method) (c : Code) (b L : Nat) (xs : Nat → Int32) : Prop :=
  p.tables.exec = Jvm.exec ∧ c.code = code ∧ meth.sig.returnType = ret ∧ c.maxLocals = 4 ∧ s.vm.findClass R_law = some m.cls ∧ (∀ w ∈ lw_tbl, w.before #[Value.ref b] s = true) ∧ va_X b L xs s s.heap ∧ b < s.heap.size ∧ meth.locks = false ∧ (Jvm.Cond.and given_1 narrow_1).before #[Value.ref b] s = true
abbrev codeL : ByteArray := code
abbrev retL : Option FieldType := ret
theorem j_lawret {p : Program} {l : Launch} {e : Env} {s : State} {m : MethodId} {below : List Frame} {meth : Method} {c : Code} {E : EV} {b : Nat} {M : Mm} {kc ks pc : Nat} {lo : List (Nat × Value)} {v : Int32} (C : Cx p l s m #[Value.ref b] meth c code 4 RL retL E) (hbs : E.2.2.1 = s.heap.size) (d : decode code pc = .ok (.ireturn, 1)) (hkc : kc ≤ room_1.cells ∧ ks ≤ room_1.slots) (h : v = 1) : J p l e room_1 s m #[Value.ref b] below meth c (lw_Z below #[Value.ref b] s) E 4 M kc ks pc lo [.int v] := by
  subst h
  intro H locs ls hR hS hl
  refine va_forget (fun q hq => ?_) ?_
  · have h1 := hS.2.2 q hq
    rw [← hbs]; exact h1
  · refine W.widen hkc.1 hkc.2 ?_
    exact lw_ret C.1 C.2.1 C.2.2.2.2.2.2.2.2 C.2.2.2.2.2.1 d
section JLW
variable {p : Program} {l : Launch} {e : Env} {R : Room} {s : State} {m : MethodId} {args : Array Value} {below : List Frame} {meth : Method} {c : Code} {Q : State → Prop} {cc : ByteArray} {nL : Nat} {own : String} {ret : Option FieldType} {E : EV} {M : Mm} {kc ks mc ms pc : Nat} {lo : List (Nat × Value)} {st rest : List Value}
theorem j_sld {b L : Nat} {xs : Nat → Int32} {i : Int32} {A : Prop} (C : Cx p l s m args meth c cc nL own ret E) (hX : va_X b L xs s s.heap) (hbl : b < s.heap.size) (hbA : ¬ E.2.2.1 ≤ b) (d : decode cc pc = .ok (.iaload, 1)) (h : vp_in i L ∧ A) (kk : A → J p l e R s m args below meth c Q E nL M kc ks (pc + 1) lo (.int (xs i.toNatClampNeg) :: st)) : J p l e R s m args below meth c Q E nL M kc ks pc lo (.int i :: .ref b :: st) :=
  fun H locs ls hR hS hl => va_sld C.1 C.2.1 hX hbl hbA hS h.1 d (kk h.2 H locs ls hR hS hl)
theorem j_slL {b L : Nat} {xs : Nat → Int32} (C : Cx p l s m args meth c cc nL own ret E) (hX : va_X b L xs s s.heap) (hbl : b < s.heap.size) (hbA : ¬ E.2.2.1 ≤ b) (d : decode cc pc = .ok (.arraylength, 1)) (kk : J p l e R s m args below meth c Q E nL M kc ks (pc + 1) lo (.int (nI L) :: st)) : J p l e R s m args below meth c Q E nL M kc ks pc lo (.ref b :: st) :=
  fun H locs ls hR hS hl => va_slen C.1 C.2.1 hX hbl hbA hS d (kk H locs ls hR hS hl)
end JLW
