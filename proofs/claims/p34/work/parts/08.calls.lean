/-! new cells, ends of methods, calls -/
def dfl (t : Nat) : Value := if t = 0 then .int 0 else if t = 1 then .long 0 else .null
theorem fv_new (M : Mm) (k n t i : Nat) : fv (sN M k n) (zn M) t i = dfl t := by
  unfold fv dfl
  have h1 : zI (sN M k n) (zn M) i = 0 := if_pos rfl
  have h2 : zJ (sN M k n) (zn M) i = 0 := if_pos rfl
  have h3 : zR (sN M k n) (zn M) i = none := if_pos rfl
  rw [h1, h2, h3]; rfl
theorem fvs_newD (M : Mm) (k n : Nat) (tl : List Nat) (j : Nat) (h : j < tl.length) : (fvs (sN M k n) (zn M) tl).getD j .null = dfl (tl.getD j 0) := by
  have h1 := fvs_get (sN M k n) (zn M) tl (List.getElem?_eq_getElem h)
  have h2 : tl.getD j 0 = tl[j] := by rw [List.getD_eq_getElem?_getD, List.getElem?_eq_getElem h]; rfl
  rw [h2, List.getD_eq_getElem?_getD, h1, fv_new]; rfl
def CtI (l : Launch) (E : EV) (y : MethodName) (cY : ByteArray) (nY : Nat) (rt : FieldType) (rm : Room) (mc ms : Nat) (av : List Value) (M : Mm) (P : Int32 → Mm → Prop) : Prop :=
  Met l y (Cond.code y cY nY (some rt) :: TB) rm (va_Pc av (fun U => Rp E M U.heap ∧ Kn l E U)) (va_Qi P (fun M' t => Rp E M' t.heap) (fun q => E.2.2.1 ≤ q)) mc ms (fun q => E.2.2.1 ≤ q)
def CtL (l : Launch) (E : EV) (y : MethodName) (cY : ByteArray) (nY : Nat) (rm : Room) (mc ms : Nat) (av : List Value) (M : Mm) (P : Int64 → Mm → Prop) : Prop :=
  Met l y (Cond.code y cY nY (some .long) :: TB) rm (va_Pc av (fun U => Rp E M U.heap ∧ Kn l E U)) (va_Ql P (fun M' t => Rp E M' t.heap) (fun q => E.2.2.1 ≤ q)) mc ms (fun q => E.2.2.1 ≤ q)
def CtV (l : Launch) (E : EV) (y : MethodName) (cY : ByteArray) (nY : Nat) (rm : Room) (mc ms : Nat) (av : List Value) (M : Mm) (P : Mm → Prop) : Prop :=
  Met l y (Cond.code y cY nY none :: TB) rm (va_Pc av (fun U => Rp E M U.heap ∧ Kn l E U)) (va_Qv P (fun M' t => Rp E M' t.heap) (fun q => E.2.2.1 ≤ q)) mc ms (fun q => E.2.2.1 ≤ q)
/-- what holds behind a throw: X of the class and the store -/
def XX (E : EV) (X : String → Mm → Prop) : String → State → State → Prop := vx_X (fun _ : Mm => True) (fun e M' t => X e M' ∧ Rp E M' t.heap) (fun q => E.2.2.1 ≤ q)
def CtIX (l : Launch) (E : EV) (y : MethodName) (cY : ByteArray) (nY : Nat) (rt : FieldType) (rm : Room) (mc ms : Nat) (av : List Value) (M : Mm) (P : Int32 → Mm → Prop) (X : String → Mm → Prop) : Prop :=
  vx_Met l y (Cond.code y cY nY (some rt) :: TB) rm (va_Pc av (fun U => Rp E M U.heap ∧ Kn l E U)) (va_Qi P (fun M' t => Rp E M' t.heap) (fun q => E.2.2.1 ≤ q)) (XX E X) mc ms (fun q => E.2.2.1 ≤ q)
def CtVX (l : Launch) (E : EV) (y : MethodName) (cY : ByteArray) (nY : Nat) (rm : Room) (mc ms : Nat) (av : List Value) (M : Mm) (P : Mm → Prop) (X : String → Mm → Prop) : Prop :=
  vx_Met l y (Cond.code y cY nY none :: TB) rm (va_Pc av (fun U => Rp E M U.heap ∧ Kn l E U)) (va_Qv P (fun M' t => Rp E M' t.heap) (fun q => E.2.2.1 ≤ q)) (XX E X) mc ms (fun q => E.2.2.1 ≤ q)
/-- what a call's instruction needs of the tables -/
def KB (own : String) (idx : Nat) (y : MethodName) (cY : ByteArray) (nY : Nat) (rY : Option FieldType) (n : Nat) : Prop := (Cond.code y cY nY rY) ∈ TB ∧ (Cond.methodLink own idx y) ∈ TB ∧ (Cond.initialized y.cls) ∈ TB ∧ y.cls ≠ "java/lang/invoke/MethodHandle" ∧ y.cls ≠ "java/lang/invoke/VarHandle" ∧ (parseMethodDescriptor y.desc).map (fun d => d.parameters.length) = some n
def KN (own : String) (idx : Nat) (y : MethodName) (host : String) (cY : ByteArray) (nY : Nat) (rY : Option FieldType) (n : Nat) : Prop := (Cond.code y cY nY rY) ∈ TB ∧ (Cond.methodLinkNest own idx y host) ∈ NW ∧ (Cond.initialized y.cls) ∈ TB ∧ y.cls ≠ "java/lang/invoke/MethodHandle" ∧ y.cls ≠ "java/lang/invoke/VarHandle" ∧ (parseMethodDescriptor y.desc).map (fun d => d.parameters.length) = some n
section JC
variable {p : Program} {l : Launch} {e : Env} {R : Room} {s : State} {m : MethodId} {args : Array Value} {below : List Frame} {meth : Method} {c : Code} {Q : State → Prop} {cc : ByteArray} {nL : Nat} {own : String} {ret : Option FieldType} {E : EV} {M : Mm} {kc ks pc : Nat} {lo : List (Nat × Value)} {st : List Value}
theorem j_objInit (C : Cx p l s m args meth c cc nL own ret E) {idx a : Nat} (hL : (Cond.methodLink own idx objectInit) ∈ TB) (hI : (Cond.instanceMethod objectInit) ∈ TB) (hC : (Cond.code objectInit ⟨#[0xb1]⟩ 1 none) ∈ TB) (d : decode cc pc = .ok (.invokespecial idx, 3)) (hf : 1 ≤ R.frames) (hlo : (st.map fun v => v.category).sum + 12 ≤ R.locals)
    (kk : J p l e R s m args below meth c Q E nL M kc ks (pc + 3) lo st) : J p l e R s m args below meth c Q E nL M kc ks pc lo (.ref a :: st) := by
  intro H locs ls hR hS hl
  have hts := C.2.2.2.2.1
  refine W.objInit C.1 C.2.1 C.2.2.2.1 (hts _ hL) (hts _ hI) (hts _ hC) rfl (by rw [C.2.2.1]; exact hl.1) rfl d hf (by show 2 * 0 + _ + 12 ≤ _; omega) ?_
  exact W.eq (g2 := F0 m (pc + 3) ls st) rfl (kk H locs ls hR hS hl)
theorem j_new (C : Cx p l s m args meth c cc nL own ret E) {ci N idx : Nat} {Cn : String} {T : u_T} {ty : Nat → FieldType} (K : CO ci Cn T N ty) (hdf : ∀ j, j < N → defaultValue (ty j) = dfl ((ft (ci + 1)).getD j 0)) (hcl : (Cond.classLink own idx Cn) ∈ TB) (hins : (Cond.instantiable Cn N) ∈ TB) (hini : (Cond.initialized Cn) ∈ TB)
    (d : decode cc pc = .ok (.new idx, 3)) (hcells : kc + 1 ≤ R.cells) (hslots : ks + N ≤ R.slots)
    (kk : J p l e R s m args below meth c Q E nL (sN M (ci + 1) 0) (kc + 1) (ks + N) (pc + 3) lo (.ref (zn M) :: st)) : J p l e R s m args below meth c Q E nL M kc ks pc lo st := by
  intro H locs ls hR hS hl
  obtain ⟨hx, hb, hml, hown, hts, hlk, hKn, hbs, -⟩ := C
  obtain ⟨-, hK, -⟩ := hKn
  obtain ⟨hc, hin, hty, hnm, hlen, h8⟩ := K
  have hKc := hK.1 ci _ hc
  refine W.newcK hx hb hown (hts _ hcl) (hts _ hins) (hts _ hini) rfl d hcells hslots hKc.2.1 hR.1 fun H1 kC hkC e1 z1 o1 => ?_
  rw [← hR.1] at z1 o1
  refine kk H1 locs ls (hR.new z1 o1 ?_) ⟨Nat.le_trans hS.1 (by omega), fun x h1 h2 => (o1 x (Nat.lt_of_lt_of_le h1 hS.1)).trans (hS.2.1 x h1 h2), hS.2.2⟩ hl
  rw [zC_o (show zk (sN M (ci + 1) 0) (zn M) = ci + 1 from if_pos rfl) h8]
  refine ⟨_, hc, (u_born ty hts hin hKc hkC e1 hty).to fun j hj => ?_⟩
  rw [hdf j hj]
  exact (fvs_newD M (ci + 1) 0 (ft (ci + 1)) j (by rw [hlen]; exact hj)).symm
theorem j_newa (C : Cx p l s m args meth c cc nL own ret E) {atype : ArrayType} {v : Int32} {A : Prop} (k t0 nb : Nat) (ht : (zTy E.2.1)[t0]? = some (E.2.1 k, newarray.typeOf atype)) (hfc : s.vm.findClass ("[" ++ (newarray.typeOf atype).toString) = some (E.2.1 k)) (hcell : vp_cell (E.2.1 k) (v.toNatClampNeg, .inl (fun _ => 0)) = arrV (E.2.1 k) v.toNatClampNeg (fun _ => defaultValue (newarray.typeOf atype))) (hkk : k = 9 ∨ k = 10 ∨ k = 12) (hcb : componentBytes (newarray.typeOf atype) ≤ 8)
    (harr : (Cond.arrayClass (newarray.typeOf atype)) ∈ TB) (d : decode cc pc = .ok (.newarray atype, 2)) (hnb : nb * 8 ≤ 536870912) (hcells : kc + 1 ≤ R.cells) (hslots : ks + nb ≤ R.slots) (h : ¬ v < 0 ∧ v.toNatClampNeg ≤ nb ∧ A)
    (kk : A → J p l e R s m args below meth c Q E nL (sN M k v.toNatClampNeg) (kc + 1) (ks + nb) (pc + 2) lo (.ref (zn M) :: st)) : J p l e R s m args below meth c Q E nL M kc ks pc lo (.int v :: st) := by
  intro H locs ls hR hS hl
  obtain ⟨hx, hb, hml, hown, hts, hlk, hKn, hbs, -⟩ := C
  obtain ⟨h0, h1, hA⟩ := h
  have hby : v.toNatClampNeg * componentBytes (newarray.typeOf atype) ≤ 536870912 := Nat.le_trans (Nat.mul_le_mul h1 hcb) hnb
  refine va_newaK hx hb (hts _ harr) rfl d rfl h0 rfl hby hcells (by omega) hR.1 fun H1 cA e1 z1 o1 hAr hNm => ?_
  have e : cA = E.2.1 k := Option.some.inj (hNm.symm.trans hfc)
  subst e
  rw [← hR.1] at z1 o1
  refine W.widen (Nat.le_refl _) (show ks + v.toNatClampNeg ≤ ks + nb by omega) ?_
  refine kk hA H1 locs ls (hR.new z1 o1 ?_) ⟨Nat.le_trans hS.1 (by omega), fun x g1 g2 => (o1 x (Nat.lt_of_lt_of_le g1 hS.1)).trans (hS.2.1 x g1 g2), hS.2.2⟩ hl
  rw [zC_i (show zk (sN M k v.toNatClampNeg) (zn M) = k from if_pos rfl) hkk]
  show H1[zn M]? = some (vp_cell _ _)
  rw [e1, ← hcell]
  have q1 : zl (sN M k v.toNatClampNeg) (zn M) = v.toNatClampNeg := if_pos rfl
  have q2 : zI (sN M k v.toNatClampNeg) (zn M) = fun _ => 0 := by funext j; exact if_pos rfl
  rw [q1, q2]
theorem j_newl (C : Cx p l s m args meth c cc nL own ret E) {v : Int32} {A : Prop} (nb : Nat)
    (harr : (Cond.arrayClass .long) ∈ TB) (d : decode cc pc = .ok (.newarray .long, 2)) (hnb : nb * 8 ≤ 536870912) (hcells : kc + 1 ≤ R.cells) (hslots : ks + nb ≤ R.slots) (h : ¬ v < 0 ∧ v.toNatClampNeg ≤ nb ∧ A)
    (kk : A → J p l e R s m args below meth c Q E nL (sN M 11 v.toNatClampNeg) (kc + 1) (ks + nb) (pc + 2) lo (.ref (zn M) :: st)) : J p l e R s m args below meth c Q E nL M kc ks pc lo (.int v :: st) := by
  intro H locs ls hR hS hl
  obtain ⟨hx, hb, hml, hown, hts, hlk, hKn, hbs, -⟩ := C
  obtain ⟨-, hK, -⟩ := hKn
  obtain ⟨h0, h1, hA⟩ := h
  have hby : v.toNatClampNeg * componentBytes (newarray.typeOf .long) ≤ 536870912 := Nat.le_trans (Nat.mul_le_mul h1 (show componentBytes (newarray.typeOf .long) ≤ 8 by decide)) hnb
  refine va_newaK (atype := .long) hx hb (hts _ harr) rfl d rfl h0 rfl hby hcells (by omega) hR.1 fun H1 cA e1 z1 o1 hAr hNm => ?_
  have e : cA = E.2.1 11 := Option.some.inj (hNm.symm.trans (hK.2 2 _ rfl).2)
  subst e
  rw [← hR.1] at z1 o1
  refine W.widen (Nat.le_refl _) (show ks + v.toNatClampNeg ≤ ks + nb by omega) ?_
  refine kk hA H1 locs ls (hR.new z1 o1 ?_) ⟨Nat.le_trans hS.1 (by omega), fun x g1 g2 => (o1 x (Nat.lt_of_lt_of_le g1 hS.1)).trans (hS.2.1 x g1 g2), hS.2.2⟩ hl
  rw [zC_l (show zk (sN M 11 v.toNatClampNeg) (zn M) = 11 from if_pos rfl)]
  show H1[zn M]? = some (vp_cell _ _)
  rw [e1]
  have q1 : zl (sN M 11 v.toNatClampNeg) (zn M) = v.toNatClampNeg := if_pos rfl
  have q2 : zJ (sN M 11 v.toNatClampNeg) (zn M) = fun _ => 0 := by funext j; exact if_pos rfl
  rw [q1, q2, vp_cell_l]
  rfl
theorem j_newi (C : Cx p l s m args meth c cc nL own ret E) {v : Int32} {A : Prop} (nb : Nat) (harr : (Cond.arrayClass .int) ∈ TB) (d : decode cc pc = .ok (.newarray .int, 2)) (hnb : nb * 8 ≤ 536870912) (hcells : kc + 1 ≤ R.cells) (hslots : ks + nb ≤ R.slots) (h : ¬ v < 0 ∧ v.toNatClampNeg ≤ nb ∧ A)
    (kk : A → J p l e R s m args below meth c Q E nL (sN M 10 v.toNatClampNeg) (kc + 1) (ks + nb) (pc + 2) lo (.ref (zn M) :: st)) : J p l e R s m args below meth c Q E nL M kc ks pc lo (.int v :: st) :=
  j_newa (atype := .int) C 10 1 nb rfl (C.2.2.2.2.2.2.1.2.1.2 1 _ rfl).2 rfl (by decide) (by decide) harr d hnb hcells hslots h kk
theorem j_newb (C : Cx p l s m args meth c cc nL own ret E) {v : Int32} {A : Prop} (nb : Nat) (harr : (Cond.arrayClass .byte) ∈ TB) (d : decode cc pc = .ok (.newarray .byte, 2)) (hnb : nb * 8 ≤ 536870912) (hcells : kc + 1 ≤ R.cells) (hslots : ks + nb ≤ R.slots) (h : ¬ v < 0 ∧ v.toNatClampNeg ≤ nb ∧ A)
    (kk : A → J p l e R s m args below meth c Q E nL (sN M 9 v.toNatClampNeg) (kc + 1) (ks + nb) (pc + 2) lo (.ref (zn M) :: st)) : J p l e R s m args below meth c Q E nL M kc ks pc lo (.int v :: st) :=
  j_newa (atype := .byte) C 9 0 nb rfl (C.2.2.2.2.2.2.1.2.1.2 0 _ rfl).2 rfl (by decide) (by decide) harr d hnb hcells hslots h kk
theorem j_newz (C : Cx p l s m args meth c cc nL own ret E) {v : Int32} {A : Prop} (nb : Nat) (harr : (Cond.arrayClass .boolean) ∈ TB) (d : decode cc pc = .ok (.newarray .boolean, 2)) (hnb : nb * 8 ≤ 536870912) (hcells : kc + 1 ≤ R.cells) (hslots : ks + nb ≤ R.slots) (h : ¬ v < 0 ∧ v.toNatClampNeg ≤ nb ∧ A)
    (kk : A → J p l e R s m args below meth c Q E nL (sN M 12 v.toNatClampNeg) (kc + 1) (ks + nb) (pc + 2) lo (.ref (zn M) :: st)) : J p l e R s m args below meth c Q E nL M kc ks pc lo (.int v :: st) :=
  j_newa (atype := .boolean) C 12 3 nb rfl (C.2.2.2.2.2.2.1.2.1.2 3 _ rfl).2 rfl (by decide) (by decide) harr d hnb hcells hslots h kk
theorem j_newq (C : Cx p l s m args meth c cc nL own ret E) {v : Int32} {A : Prop} {idx : Nat} (nb : Nat)
    (hcl : (Cond.classLink own idx RX4) ∈ TB) (d : decode cc pc = .ok (.anewarray idx, 3)) (hnb : nb * 8 ≤ 536870912) (hcells : kc + 1 ≤ R.cells) (hslots : ks + nb ≤ R.slots) (h : ¬ v < 0 ∧ v.toNatClampNeg ≤ nb ∧ A)
    (kk : A → J p l e R s m args below meth c Q E nL (sN M 13 v.toNatClampNeg) (kc + 1) (ks + nb) (pc + 3) lo (.ref (zn M) :: st)) : J p l e R s m args below meth c Q E nL M kc ks pc lo (.int v :: st) := by
  intro H locs ls hR hS hl
  obtain ⟨hx, hb, hml, hown, hts, hlk, hKn, hbs, -⟩ := C
  obtain ⟨-, hK, hAO, -⟩ := hKn
  obtain ⟨h0, h1, hA⟩ := h
  refine W.anew hx hb hown (hts _ hcl) (va_AO.use hAO) rfl d rfl h0 (by omega) hcells (by omega) fun cA kA comp f1 f2 f3 f4 => ?_
  generalize hH1 : H.push ({ cls := cA, slots := Array.replicate v.toNatClampNeg .null, vm := .none } : Cell) = H1
  have z1 : H1.size = H.size + 1 := by rw [← hH1, Array.size_push]
  have e1 : H1[H.size]? = some (arrV cA v.toNatClampNeg (fun _ => .null)) := by rw [← hH1, Array.getElem?_push_size, ← arrV_new]
  have o1 : ∀ q : Nat, q < H.size → H1[q]? = H[q]? := fun q hq => by rw [← hH1, Array.getElem?_push, if_neg (Nat.ne_of_lt hq)]
  obtain ⟨kA', comp', g1, g2, g3, g4⟩ := (hK.2 4 _ rfl).2
  have e : cA = E.2.1 13 := Option.some.inj (f1.symm.trans g4)
  subst e
  refine W.widen (Nat.le_refl _) (show ks + v.toNatClampNeg ≤ ks + nb by omega) ?_
  have hz := hR.1
  rw [show Value.ref H.size = Value.ref (zn M) by rw [hz]]
  refine kk hA H1 locs ls (hR.new z1 o1 ?_) ⟨Nat.le_trans hS.1 (by omega), fun x g1 g2 => (o1 x (Nat.lt_of_lt_of_le g1 hS.1)).trans (hS.2.1 x g1 g2), hS.2.2⟩ hl
  rw [zC_q (show zk (sN M 13 v.toNatClampNeg) (zn M) = 13 from if_pos rfl)]
  show H1[zn M]? = some (vp_cell _ _)
  rw [← hz, e1, hz]
  have q1 : zl (sN M 13 v.toNatClampNeg) (zn M) = v.toNatClampNeg := if_pos rfl
  have q2 : zR (sN M 13 v.toNatClampNeg) (zn M) = fun _ => none := by funext j; exact if_pos rfl
  rw [q1, q2, vp_cell_q]
  rfl
/-- System.arraycopy of ints -/
theorem j_copyi (C : Cx p l s m args meth c cc nL own ret E) {idx a0 a : Nat} {sp dp n : Int32} {A : Prop} (hL : (Cond.methodLink own idx arraycopyName) ∈ TB) (hnat : (Cond.native arraycopyName) ∈ TB) (hstat : (Cond.static arraycopyName) ∈ TB) (hini : (Cond.initialized "java/lang/System") ∈ TB)
    (d : decode cc pc = .ok (.invokestatic idx, 3)) (hframes : 1 ≤ R.frames) (hlocals : (st.map fun v => v.category).sum + (nativeFrameWords "java/lang/System" "arraycopy" 5 + 11) ≤ R.locals)
    (h : zk M a0 = 10 ∧ zk M a = 10 ∧ ¬ sp < 0 ∧ ¬ dp < 0 ∧ ¬ n < 0 ∧ sp.toNatClampNeg + n.toNatClampNeg ≤ zl M a0 ∧ dp.toNatClampNeg + n.toNatClampNeg ≤ zl M a ∧ A)
    (kk : A → J p l e R s m args below meth c Q E nL (sC M a0 sp.toNatClampNeg a dp.toNatClampNeg n.toNatClampNeg) kc ks (pc + 3) lo st) : J p l e R s m args below meth c Q E nL M kc ks pc lo (.int n :: .int dp :: .ref a :: .int sp :: .ref a0 :: st) := by
  intro H locs ls hR hS hl
  obtain ⟨g1, g2, h1, h2, h3, h4, h5, hA⟩ := h
  have ha0 := hR.cell g1 (by decide)
  have ha1 := hR.cell g2 (by decide)
  have hbs := (hR.2.2 a (by rw [g2]; decide)).1
  rw [zC_i g1 (by omega)] at ha0
  rw [zC_i g2 (by omega)] at ha1
  have hK := C.2.2.2.2.2.2.1.2.1
  have hts := C.2.2.2.2.1
  have nn : ∀ z : Int32, ¬ z < 0 → z.toInt = (z.toNatClampNeg : Int) := by
    intro z hz
    have hz0 : (0 : Int) ≤ z.toInt := by
      have := Int32.not_lt.mp hz
      simpa using Int32.le_iff_toInt_le.mp this
    show z.toInt = ((z.toInt.toNat : Nat) : Int)
    omega
  intro T hT X
  have hc0 : H[a0]? = some (vp_cell (E.2.1 10) (zl M a0, .inl (zI M a0))) := ha0
  have hc1 : H[a]? = some (vp_cell (E.2.1 10) (zl M a, .inl (zI M a))) := ha1
  obtain ⟨-, k0, hk0, cm0, hkk0⟩ := (hK.2 1 _ rfl).1 (zl M a0) (fun j => .int (zI M a0 j))
  obtain ⟨-, k1, hk1, cm1, hkk1⟩ := (hK.2 1 _ rfl).1 (zl M a) (fun j => .int (zI M a j))
  obtain ⟨vm', X', step⟩ := X.arraycopy C.1 C.2.2.2.1 (hts _ hL) (hts _ hnat) (hts _ hstat) (hts _ hini) (src := a0) (dst := a) (cs := vp_cell (E.2.1 10) (zl M a0, .inl (zI M a0))) (cd := vp_cell (E.2.1 10) (zl M a, .inl (zI M a))) (srcPos := sp) (destPos := dp) (n := n) (by rw [hT]; exact hc0) (by rw [hT]; exact hc1)
    (fun _ h => by cases h) (fun _ h => by cases h) (fun h => by cases h) (fun h => by cases h) hk0 hk1 hkk0 hkk1 (by simp [refKind]) h1 h2 h3
    (by rw [nn sp h1, nn n h3]; show ¬ _ > ((arrV (E.2.1 10) (zl M a0) (fun j => .int (zI M a0 j))).slots.size : Int); rw [arrV_size]; omega)
    (by rw [nn dp h2, nn n h3]; show ¬ _ > ((arrV (E.2.1 10) (zl M a) (fun j => .int (zI M a j))).slots.size : Int); rw [arrV_size]; omega)
    (fun vm₁ _ i hi => by
      have e : (vp_cell (E.2.1 10) (zl M a0, .inl (zI M a0))).slots.getD (sp.toNatClampNeg + i) .null = .int (zI M a0 (sp.toNatClampNeg + i)) := by
        show (arrV (E.2.1 10) (zl M a0) (fun j => .int (zI M a0 j))).slots.getD _ _ = _
        rw [Array.getD_eq_getD_getElem?, arrV_read _ _ (by omega)]
        rfl
      refine ⟨?_, ?_⟩
      · rw [e]; rfl
      · rw [e]; exact trivial)
    (g := F0 m pc ls (.int n :: .int dp :: .ref a :: .int sp :: .ref a0 :: st)) rfl (by rw [C.2.2.1]; exact hl.1) (rest := st) rfl (by rw [C.2.1]; exact d) hframes (by show 2 * 0 + _ + _ ≤ _; omega)
  have e1 : copied (vp_cell (E.2.1 10) (zl M a0, .inl (zI M a0))) (vp_cell (E.2.1 10) (zl M a, .inl (zI M a))) sp dp n = vp_cell (E.2.1 10) (zl M a, .inl (va_cpy (zI M a0) (zI M a) sp.toNatClampNeg dp.toNatClampNeg n.toNatClampNeg)) := va_copied (fun z => .int z) (E.2.1 10) (E.2.1 10) (zI M a0) (zI M a) h4
  rw [e1] at X' step
  have hlt : a < H.size := (Array.getElem?_eq_some_iff.mp hc1).1
  have hheap : ((T.setVm vm').setCell a (vp_cell (E.2.1 10) (zl M a, .inl (va_cpy (zI M a0) (zI M a) sp.toNatClampNeg dp.toNatClampNeg n.toNatClampNeg)))).heap = H.setIfInBounds a (vp_cell (E.2.1 10) (zl M a, .inl (va_cpy (zI M a0) (zI M a) sp.toNatClampNeg dp.toNatClampNeg n.toNatClampNeg))) := by rw [← hT]; rfl
  have oq : ∀ q : Nat, q ≠ a → (H.setIfInBounds a (vp_cell (E.2.1 10) (zl M a, .inl (va_cpy (zI M a0) (zI M a) sp.toNatClampNeg dp.toNatClampNeg n.toNatClampNeg))))[q]? = H[q]? := fun q hq => by simp [Array.getElem?_setIfInBounds, Ne.symm hq]
  obtain ⟨t, a1, b1⟩ := kk hA _ _ ls (hR.put (by simp) oq rfl rfl (fun b hb => sC_o hb) (by
      rw [zC_i (show zk (sC M a0 sp.toNatClampNeg a dp.toNatClampNeg n.toNatClampNeg) a = 10 from g2) (by omega), sC_int]
      show (H.setIfInBounds a _)[a]? = some _
      rw [Array.getElem?_setIfInBounds, if_pos rfl, if_pos hlt]
      rfl)) ⟨by simp; exact hS.1, fun q q1 q2 => by
      rw [oq q (fun e => q2 (by rw [e]; exact hbs))]
      exact hS.2.1 q q1 q2, fun q hq => by
      rcases List.mem_append.mp hq with h | h
      · exact hS.2.2 q h
      · obtain ⟨z, -, hz⟩ := List.mem_map.mp h
        rw [← hz]
        exact hbs⟩ hl _ hheap X'
  exact ⟨t, step t a1, b1⟩
end JC
