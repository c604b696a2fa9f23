/-! rows of the heap: fields, arrays, new cells -/
section JH
variable {p : Program} {l : Launch} {e : Env} {R : Room} {s : State} {m : MethodId} {args : Array Value} {below : List Frame} {meth : Method} {c : Code} {Q : State → Prop} {cc : ByteArray} {nL : Nat} {own : String} {ret : Option FieldType} {E : EV} {M : Mm} {kc ks pc : Nat} {lo : List (Nat × Value)} {st : List Value}
theorem Rp.cell {H : Heap} {a k : Nat} (h : Rp E M H) (hk : zk M a = k) (h0 : k ≠ 0) : va_at E.1 vwCl (a, zC E.2.1 M a) H := (h.2.2 a (by rw [hk]; exact h0)).2
theorem Rp.one {D : va_G} {H : Heap} {a : Nat} {x : va_E} (h : va_at D vwCl (a, x) H) : va_P D vwCl [(a, x)] H := by
  intro k q hq
  cases k with
  | zero => cases hq; exact h
  | succ n => simp at hq
theorem fv_0 (M : Mm) (a i : Nat) : fv M a 0 i = .int (zI M a i) := rfl
theorem fv_1 (M : Mm) (a i : Nat) : fv M a 1 i = .long (zJ M a i) := rfl
theorem fv_2 (M : Mm) (a i : Nat) : fv M a 2 i = va_rf (zR M a i) := rfl
/-- a field is read; the word is a plain one or that of nest mates -/
def FL (own : String) (idx : Nat) (T : u_T) (k : Nat) : Prop := (Cond.fieldLink own idx (T k).1 (T k).2.1 (T k).2.2.1) ∈ TB ∨ ∃ host : String, (Cond.fieldLinkNest own idx (T k).1 (T k).2.1 (T k).2.2.1 host) ∈ NW
theorem j_get (C : Cx p l s m args meth c cc nL own ret E) {ci N idx k t a : Nat} {Cn : String} {T : u_T} {ty : Nat → FieldType} {v : Value} (K : CO ci Cn T N ty) (hL : FL own idx T k) (ht : (ft (ci + 1))[k]? = some t) (hk : zk M a = ci + 1) (hv : fv M a t k = v) (d : decode cc pc = .ok (.getfield idx, 3))
    (kk : J p l e R s m args below meth c Q E nL M kc ks (pc + 3) lo (v :: st)) : J p l e R s m args below meth c Q E nL M kc ks pc lo (.ref a :: st) := by
  intro H locs ls hR hS hl
  obtain ⟨hx, hb, hml, hown, hts, hlk, hKn, -⟩ := C
  obtain ⟨-, hK, -, hN, -, -⟩ := hKn
  obtain ⟨hc, hin, hty, hnm, hlen, h8⟩ := K
  have hkN : k < N := by rw [← hlen]; exact (List.getElem?_eq_some_iff.mp ht).1
  have hat := hR.cell hk (by omega)
  rw [zC_o hk h8] at hat
  have hf := fvs_get M a _ ht
  rw [hv] at hf
  rcases hL with h | ⟨host, h⟩
  · exact va_get hx hb hts hin hown hK (Rp.one hat) 0 rfl hc k hkN (hts _ h) (fun _ h9 => h9) hf d (kk H locs ls hR hS hl)
  · exact va_getN hx hb hts hin hown hK (Rp.one hat) 0 rfl hc k hkN (va_Nw.use rfl (hN _ h)) (fun _ h9 => h9) hf d (kk H locs ls hR hS hl)
theorem j_put (C : Cx p l s m args meth c cc nL own ret E) {ci N idx k t a : Nat} {Cn : String} {T : u_T} {ty : Nat → FieldType} {v : Value} {M' : Mm} (K : CO ci Cn T N ty) (hL : FL own idx T k) (ht : (ft (ci + 1))[k]? = some t) (hk : zk M a = ci + 1) (hfin : (T k).2.2.2 = false) (hn : narrow (ty k) v = v) (hfit : fits (ty k) v = true)
    (e1 : zn M' = zn M) (e2 : zk M' = zk M) (e3 : ∀ b, b ≠ a → zC E.2.1 M' b = zC E.2.1 M b) (e4 : fv M' a t k = v) (e5 : ∀ i u, i ≠ k → fv M' a u i = fv M a u i) (d : decode cc pc = .ok (.putfield idx, 3))
    (kk : J p l e R s m args below meth c Q E nL M' kc ks (pc + 3) lo st) : J p l e R s m args below meth c Q E nL M kc ks pc lo (v :: .ref a :: st) := by
  intro H locs ls hR hS hl
  obtain ⟨hx, hb, hml, hown, hts, hlk, hKn, -⟩ := C
  obtain ⟨-, hK, -, hN, -, -⟩ := hKn
  obtain ⟨hc, hin, hty, hnm, hlen, h8⟩ := K
  have hkN : k < N := by rw [← hlen]; exact (List.getElem?_eq_some_iff.mp ht).1
  have hat := hR.cell hk (by omega)
  have hbs := (hR.2.2 a (by rw [hk]; omega)).1
  rw [zC_o hk h8] at hat
  have hset := fvs_set (M := M) (M' := M') (a := a) ht e4 e5
  have hk' : zk M' a = ci + 1 := by rw [e2]; exact hk
  have hap := va_apart (own := own) hts hin ty hty hnm hK hc
  obtain ⟨r, h1, cell, q1, q2, q3, q4⟩ := hat
  have hr : r = (Cn, T, N) := Option.some.inj (h1.symm.trans hc)
  subst hr
  obtain ⟨hSl, hfc, kC, hkC, hkind⟩ := hK.1 ci _ hc
  obtain ⟨cf, kf, fi, f, hi, hsl⟩ := hSl k hkN
  have hlay := hts _ (hin _ (u_in_lay hkN))
  unfold u_lay at hlay
  rw [if_neg (by rw [hfin]; decide)] at hlay
  have hst := (u_facts hfc hkC (u_lays hts hin hkN) hi).1
  have h6 := u_store hfc hkC hkind hlay hi (hty k hkN) hn hfit
  have hll : k < (fvs M a (ft (ci + 1))).length := by rw [fvs_len, hlen]; exact hkN
  have fin : ∀ H' : Heap, H'[a]? = some (cell.setSlot (E.1.2 ci k) v) → H'.size = H.size → (∀ q, q ≠ a → H'[q]? = H[q]?) → W p l e R s m args below meth c H' (locs ++ [⟨a, E.1.2 ci k⟩]) kc ks Q (F0 m (pc + 3) ls st) := by
    intro H' e1' e2' e3'
    refine kk H' _ ls (hR.put e2' e3' e1 e2 e3 ?_) (hS.put e2' e3' hbs) hl
    rw [zC_o hk' h8, hset]
    exact ⟨_, hc, t_OB.to (V := updV (vp_V (fvs M a (ft (ci + 1)))) k v) ⟨_, e1', q2, q3, t_set q4 hap hkN v⟩ (fun j _ => vp_updV_set hll v j)⟩
  rcases hL with h | ⟨host, h⟩
  · refine W.putK hx hb (f := f) ⟨hown, hts _ h, ⟨_, _, _, hi⟩, hst⟩ (by rw [q2]; exact h6) q1 q3 (by rw [hsl]; exact k2_hasslot (q4 k hkN)) rfl rfl d fun H' e1' e2' e3' => ?_
    rw [hsl] at e1' ⊢
    exact fin H' e1' e2' e3'
  · refine va_WputK hx hb (f := f) hown (va_Nw.use rfl (hN _ h)) hi hst (by rw [q2]; exact h6) q1 q3 (by rw [hsl]; exact k2_hasslot (q4 k hkN)) rfl rfl d fun H' e1' e2' e3' => ?_
    rw [hsl] at e1' ⊢
    exact fin H' e1' e2' e3'
/-- a final field, in the constructor -/
theorem j_putF (C : Cx p l s m args meth c cc nL own ret E) {ci N idx k t a : Nat} {Cn : String} {T : u_T} {ty : Nat → FieldType} {v : Value} {M' : Mm} (hin2 : meth.name = "<init>") (hdecl : (T k).1 = own) (K : CO ci Cn T N ty) (hL : (Cond.fieldLink own idx (T k).1 (T k).2.1 (T k).2.2.1) ∈ TB) (ht : (ft (ci + 1))[k]? = some t) (hk : zk M a = ci + 1) (hfin : (T k).2.2.2 = true) (hn : narrow (ty k) v = v) (hfit : fits (ty k) v = true)
    (e1 : zn M' = zn M) (e2 : zk M' = zk M) (e3 : ∀ b, b ≠ a → zC E.2.1 M' b = zC E.2.1 M b) (e4 : fv M' a t k = v) (e5 : ∀ i u, i ≠ k → fv M' a u i = fv M a u i) (d : decode cc pc = .ok (.putfield idx, 3))
    (kk : J p l e R s m args below meth c Q E nL M' kc ks (pc + 3) lo st) : J p l e R s m args below meth c Q E nL M kc ks pc lo (v :: .ref a :: st) := by
  intro H locs ls hR hS hl
  obtain ⟨hx, hb, hml, hown, hts, hlk, hKn, -⟩ := C
  obtain ⟨-, hK, -, hN, -, -⟩ := hKn
  obtain ⟨hc, hin, hty, hnm, hlen, h8⟩ := K
  have hkN : k < N := by rw [← hlen]; exact (List.getElem?_eq_some_iff.mp ht).1
  have hat := hR.cell hk (by omega)
  have hbs := (hR.2.2 a (by rw [hk]; omega)).1
  rw [zC_o hk h8] at hat
  have hset := fvs_set (M := M) (M' := M') (a := a) ht e4 e5
  have hk' : zk M' a = ci + 1 := by rw [e2]; exact hk
  have hap := va_apart (own := own) hts hin ty hty hnm hK hc
  obtain ⟨r, h1, cell, q1, q2, q3, q4⟩ := hat
  have hr : r = (Cn, T, N) := Option.some.inj (h1.symm.trans hc)
  subst hr
  obtain ⟨hSl, hfc, kC, hkC, hkind⟩ := hK.1 ci _ hc
  obtain ⟨cf, kf, fi, f, hi, hsl⟩ := hSl k hkN
  have hlay := hts _ (hin _ (u_in_lay hkN))
  unfold u_lay at hlay
  rw [if_pos hfin] at hlay
  have hst := (u_facts hfc hkC (u_lays hts hin hkN) hi).1
  have hcf : m.cls = cf := by
    obtain ⟨_, _, c', _, _, _, -, -, hf', -, -, -, hown2, -⟩ := Cond.laysFinal_spec hlay
    have e1 : c' = cf := by have := hi.symm.trans hf'; simp at this; exact this.1.symm
    rw [hdecl] at hown2
    rw [← e1]; exact Option.some.inj (hown.symm.trans hown2)
  have h6 := u_fits hfc hkC hkind (Or.inr hlay) hi (hty k hkN) hn hfit
  have hll : k < (fvs M a (ft (ci + 1))).length := by rw [fvs_len, hlen]; exact hkN
  refine W.putFinK hx hb hown (hts _ hL) hi hst hcf hin2 (by rw [q2]; exact h6) q1 q3 (by rw [hsl]; exact k2_hasslot (q4 k hkN)) rfl rfl d fun H' e1' e2' e3' => ?_
  rw [hsl] at e1' ⊢
  refine kk H' _ ls (hR.put e2' e3' e1 e2 e3 ?_) (hS.put e2' e3' hbs) hl
  rw [zC_o hk' h8, hset]
  exact ⟨_, hc, t_OB.to (V := updV (vp_V (fvs M a (ft (ci + 1)))) k v) ⟨_, e1', q2, q3, t_set q4 hap hkN v⟩ (fun j _ => vp_updV_set hll v j)⟩
theorem fv_sI {a k : Nat} {x : Int32} : ∀ i u, i ≠ k → fv (sI M a k x) a u i = fv M a u i := by
  intro i u h
  unfold fv
  have : zI (sI M a k x) a i = zI M a i := by show (if a = a ∧ i = k then x else zI M a i) = _; rw [if_neg (fun q => h q.2)]
  rw [this]; rfl
theorem fv_sI_eq {a k : Nat} {x : Int32} : fv (sI M a k x) a 0 k = .int x := by
  show Value.int (if a = a ∧ k = k then x else zI M a k) = _; rw [if_pos ⟨rfl, rfl⟩]
theorem fv_sJ {a k : Nat} {x : Int64} : ∀ i u, i ≠ k → fv (sJ M a k x) a u i = fv M a u i := by
  intro i u h
  unfold fv
  have : zJ (sJ M a k x) a i = zJ M a i := by show (if a = a ∧ i = k then x else zJ M a i) = _; rw [if_neg (fun q => h q.2)]
  rw [this]; rfl
theorem fv_sJ_eq {a k : Nat} {x : Int64} : fv (sJ M a k x) a 1 k = .long x := by
  show Value.long (if a = a ∧ k = k then x else zJ M a k) = _; rw [if_pos ⟨rfl, rfl⟩]
theorem fv_sR {a k : Nat} {x : Option Nat} : ∀ i u, i ≠ k → fv (sR M a k x) a u i = fv M a u i := by
  intro i u h
  unfold fv
  have : zR (sR M a k x) a i = zR M a i := by show (if a = a ∧ i = k then x else zR M a i) = _; rw [if_neg (fun q => h q.2)]
  rw [this]; rfl
theorem fv_sR_eq {a k : Nat} {x : Option Nat} : fv (sR M a k x) a 2 k = va_rf x := by
  show va_rf (if a = a ∧ k = k then x else zR M a k) = _; rw [if_pos ⟨rfl, rfl⟩]
/-- arrays are read -/
theorem j_iald (C : Cx p l s m args meth c cc nL own ret E) {a : Nat} {i : Int32} {A : Prop} (d : decode cc pc = .ok (.iaload, 1)) (h : zk M a = 10 ∧ vp_in i (zl M a) ∧ A) (kk : A → J p l e R s m args below meth c Q E nL M kc ks (pc + 1) lo (.int (zI M a i.toNatClampNeg) :: st)) : J p l e R s m args below meth c Q E nL M kc ks pc lo (.int i :: .ref a :: st) := by
  intro H locs ls hR hS hl
  have hat := hR.cell h.1 (by decide)
  rw [zC_i h.1 (by omega)] at hat
  exact va_iald C.1 C.2.1 C.2.2.2.2.2.2.1.2.1 (Rp.one hat) 0 1 rfl rfl h.2.1 d (kk h.2.2 H locs ls hR hS hl)
theorem j_bald (C : Cx p l s m args meth c cc nL own ret E) {a : Nat} {i : Int32} {A : Prop} (d : decode cc pc = .ok (.baload, 1)) (h : zk M a = 9 ∧ vp_in i (zl M a) ∧ A) (kk : A → J p l e R s m args below meth c Q E nL M kc ks (pc + 1) lo (.int (zI M a i.toNatClampNeg) :: st)) : J p l e R s m args below meth c Q E nL M kc ks pc lo (.int i :: .ref a :: st) := by
  intro H locs ls hR hS hl
  have hat := hR.cell h.1 (by decide)
  rw [zC_i h.1 (by omega)] at hat
  exact va_bald C.1 C.2.1 C.2.2.2.2.2.2.1.2.1 (Rp.one hat) 0 0 rfl rfl h.2.1 d (kk h.2.2 H locs ls hR hS hl)
theorem j_zald (C : Cx p l s m args meth c cc nL own ret E) {a : Nat} {i : Int32} {A : Prop} (d : decode cc pc = .ok (.baload, 1)) (h : zk M a = 12 ∧ vp_in i (zl M a) ∧ A) (kk : A → J p l e R s m args below meth c Q E nL M kc ks (pc + 1) lo (.int (zI M a i.toNatClampNeg) :: st)) : J p l e R s m args below meth c Q E nL M kc ks pc lo (.int i :: .ref a :: st) := by
  intro H locs ls hR hS hl
  have hat := hR.cell h.1 (by decide)
  rw [zC_i h.1 (by omega)] at hat
  exact va_zald C.1 C.2.1 C.2.2.2.2.2.2.1.2.1 (Rp.one hat) 0 3 rfl rfl h.2.1 d (kk h.2.2 H locs ls hR hS hl)
theorem j_lald (C : Cx p l s m args meth c cc nL own ret E) {a : Nat} {i : Int32} {A : Prop} (d : decode cc pc = .ok (.laload, 1)) (h : zk M a = 11 ∧ vp_in i (zl M a) ∧ A) (kk : A → J p l e R s m args below meth c Q E nL M kc ks (pc + 1) lo (.long (zJ M a i.toNatClampNeg) :: st)) : J p l e R s m args below meth c Q E nL M kc ks pc lo (.int i :: .ref a :: st) := by
  intro H locs ls hR hS hl
  have hat := hR.cell h.1 (by decide)
  rw [zC_l h.1] at hat
  exact va_lald C.1 C.2.1 C.2.2.2.2.2.2.1.2.1 (Rp.one hat) 0 2 rfl rfl h.2.1 d (kk h.2.2 H locs ls hR hS hl)
theorem j_aald (C : Cx p l s m args meth c cc nL own ret E) {a : Nat} {i : Int32} {A : Nat → Prop} (d : decode cc pc = .ok (.aaload, 1)) (h : zk M a = 13 ∧ vp_in i (zl M a) ∧ ∃ b, zR M a i.toNatClampNeg = some b ∧ A b) (kk : ∀ b, A b → J p l e R s m args below meth c Q E nL M kc ks (pc + 1) lo (.ref b :: st)) : J p l e R s m args below meth c Q E nL M kc ks pc lo (.int i :: .ref a :: st) := by
  intro H locs ls hR hS hl
  have hat := hR.cell h.1 (by decide)
  rw [zC_q h.1] at hat
  obtain ⟨h1, h2, b, hb, hA⟩ := h
  refine va_aldq C.1 C.2.1 C.2.2.2.2.2.2.1.2.1 (Rp.one hat) 0 4 rfl rfl h2 d ?_
  rw [hb]
  exact kk b hA H locs ls hR hS hl
theorem j_alen (C : Cx p l s m args meth c cc nL own ret E) {a k : Nat} {A : Prop} (hk : k = 9 ∨ k = 10 ∨ k = 11 ∨ k = 12 ∨ k = 13) (d : decode cc pc = .ok (.arraylength, 1)) (h : zk M a = k ∧ A) (kk : A → J p l e R s m args below meth c Q E nL M kc ks (pc + 1) lo (.int (nI (zl M a)) :: st)) : J p l e R s m args below meth c Q E nL M kc ks pc lo (.ref a :: st) := by
  intro H locs ls hR hS hl
  have hat := hR.cell h.1 (by omega)
  rcases hk with e | e | e | e | e <;> subst e
  · rw [zC_i h.1 (by omega)] at hat
    exact va_alen C.1 C.2.1 C.2.2.2.2.2.2.1.2.1 (Rp.one hat) 0 0 rfl rfl rfl d (kk h.2 H locs ls hR hS hl)
  · rw [zC_i h.1 (by omega)] at hat
    exact va_alen C.1 C.2.1 C.2.2.2.2.2.2.1.2.1 (Rp.one hat) 0 1 rfl rfl rfl d (kk h.2 H locs ls hR hS hl)
  · rw [zC_l h.1] at hat
    exact va_alen C.1 C.2.1 C.2.2.2.2.2.2.1.2.1 (Rp.one hat) 0 2 rfl rfl rfl d (kk h.2 H locs ls hR hS hl)
  · rw [zC_i h.1 (by omega)] at hat
    exact va_alen C.1 C.2.1 C.2.2.2.2.2.2.1.2.1 (Rp.one hat) 0 3 rfl rfl rfl d (kk h.2 H locs ls hR hS hl)
  · rw [zC_q h.1] at hat
    exact va_alen C.1 C.2.1 C.2.2.2.2.2.2.1.2.1 (Rp.one hat) 0 4 rfl rfl rfl d (kk h.2 H locs ls hR hS hl)
/-- arrays are written -/
theorem j_iast (C : Cx p l s m args meth c cc nL own ret E) {a : Nat} {i x : Int32} {A : Prop} (d : decode cc pc = .ok (.iastore, 1)) (h : zk M a = 10 ∧ vp_in i (zl M a) ∧ A) (kk : A → J p l e R s m args below meth c Q E nL (sI M a i.toNatClampNeg x) kc ks (pc + 1) lo st) : J p l e R s m args below meth c Q E nL M kc ks pc lo (.int x :: .int i :: .ref a :: st) := by
  intro H locs ls hR hS hl
  have hat := hR.cell h.1 (by decide)
  have hbs := (hR.2.2 a (by rw [h.1]; decide)).1
  rw [zC_i h.1 (by omega)] at hat
  have hK := C.2.2.2.2.2.2.1.2.1
  refine W.iast C.1 C.2.1 hat ((hK.2 1 _ rfl).1 (zl M a) (fun j => .int (zI M a j))) (fun q => by cases q) (by show ¬ (i < 0 ∨ (arrV _ _ _).slots.size ≤ _); rw [arrV_size]; exact h.2.1) rfl rfl d fun H1 e1 z oq => ?_
  refine kk h.2.2 H1 _ ls (hR.put z oq rfl rfl (fun b hb => sI_o hb) ?_) (hS.put z oq hbs) hl
  rw [zC_i (show zk (sI M a i.toNatClampNeg x) a = 10 from h.1) (by omega), sI_int]
  show H1[a]? = some (vp_cell _ _)
  rw [e1, vp_cell_i, vp_cell_i, arrV_store]
  congr 2
  funext q
  by_cases hq : q = i.toNatClampNeg
  · subst hq; simp [updV, upd]
  · simp [updV, upd, hq]
theorem j_bast (C : Cx p l s m args meth c cc nL own ret E) {a : Nat} {i x : Int32} {A : Prop} (d : decode cc pc = .ok (.bastore, 1)) (h : zk M a = 9 ∧ vp_in i (zl M a) ∧ A) (kk : A → J p l e R s m args below meth c Q E nL (sI M a i.toNatClampNeg (vp_nar .byte x)) kc ks (pc + 1) lo st) : J p l e R s m args below meth c Q E nL M kc ks pc lo (.int x :: .int i :: .ref a :: st) := by
  intro H locs ls hR hS hl
  have hat := hR.cell h.1 (by decide)
  have hbs := (hR.2.2 a (by rw [h.1]; decide)).1
  rw [zC_i h.1 (by omega)] at hat
  have hK := C.2.2.2.2.2.2.1.2.1
  refine W.bast C.1 C.2.1 hat ((hK.2 0 _ rfl).1 (zl M a) (fun j => .int (zI M a j))) (fun q => by cases q) (by show ¬ (i < 0 ∨ (arrV _ _ _).slots.size ≤ _); rw [arrV_size]; exact h.2.1) rfl rfl d fun H1 e1 z oq => ?_
  refine kk h.2.2 H1 _ ls (hR.put z oq rfl rfl (fun b hb => sI_o hb) ?_) (hS.put z oq hbs) hl
  rw [zC_i (show zk (sI M a i.toNatClampNeg (vp_nar .byte x)) a = 9 from h.1) (by omega), sI_int]
  show H1[a]? = some (vp_cell _ _)
  rw [e1, vp_cell_i, vp_cell_i, arrV_store]
  congr 2
  funext q
  by_cases hq : q = i.toNatClampNeg
  · subst hq; simp [updV, upd, vp_nar, narrow]
  · simp [updV, upd, hq]
theorem j_zast (C : Cx p l s m args meth c cc nL own ret E) {a : Nat} {i x : Int32} {A : Prop} (d : decode cc pc = .ok (.bastore, 1)) (h : zk M a = 12 ∧ vp_in i (zl M a) ∧ A) (kk : A → J p l e R s m args below meth c Q E nL (sI M a i.toNatClampNeg (vp_nar .boolean x)) kc ks (pc + 1) lo st) : J p l e R s m args below meth c Q E nL M kc ks pc lo (.int x :: .int i :: .ref a :: st) := by
  intro H locs ls hR hS hl
  have hat := hR.cell h.1 (by decide)
  have hbs := (hR.2.2 a (by rw [h.1]; decide)).1
  rw [zC_i h.1 (by omega)] at hat
  have hK := C.2.2.2.2.2.2.1.2.1
  refine W.zast C.1 C.2.1 hat ((hK.2 3 _ rfl).1 (zl M a) (fun j => .int (zI M a j))) (fun q => by cases q) (by show ¬ (i < 0 ∨ (arrV _ _ _).slots.size ≤ _); rw [arrV_size]; exact h.2.1) rfl rfl d fun H1 e1 z oq => ?_
  refine kk h.2.2 H1 _ ls (hR.put z oq rfl rfl (fun b hb => sI_o hb) ?_) (hS.put z oq hbs) hl
  rw [zC_i (show zk (sI M a i.toNatClampNeg (vp_nar .boolean x)) a = 12 from h.1) (by omega), sI_int]
  show H1[a]? = some (vp_cell _ _)
  rw [e1, vp_cell_i, vp_cell_i, arrV_store]
  congr 2
  funext q
  by_cases hq : q = i.toNatClampNeg
  · subst hq; simp [updV, upd, vp_nar, narrow]
  · simp [updV, upd, hq]
theorem j_last (C : Cx p l s m args meth c cc nL own ret E) {a : Nat} {i : Int32} {x : Int64} {A : Prop} (d : decode cc pc = .ok (.lastore, 1)) (h : zk M a = 11 ∧ vp_in i (zl M a) ∧ A) (kk : A → J p l e R s m args below meth c Q E nL (sJ M a i.toNatClampNeg x) kc ks (pc + 1) lo st) : J p l e R s m args below meth c Q E nL M kc ks pc lo (.long x :: .int i :: .ref a :: st) := by
  intro H locs ls hR hS hl
  have hat := hR.cell h.1 (by decide)
  have hbs := (hR.2.2 a (by rw [h.1]; decide)).1
  rw [zC_l h.1] at hat
  have hK := C.2.2.2.2.2.2.1.2.1
  refine W.last C.1 C.2.1 hat ((hK.2 2 _ rfl).1 (zl M a) (fun j => .long (zJ M a j))) (fun q => by cases q) (by show ¬ (i < 0 ∨ (arrV _ _ _).slots.size ≤ _); rw [arrV_size]; exact h.2.1) rfl rfl d fun H1 e1 z oq => ?_
  refine kk h.2.2 H1 _ ls (hR.put z oq rfl rfl (fun b hb => sJ_o hb) ?_) (hS.put z oq hbs) hl
  rw [zC_l (show zk (sJ M a i.toNatClampNeg x) a = 11 from h.1), sJ_long]
  show H1[a]? = some (vp_cell _ _)
  rw [e1, vp_cell_l, vp_cell_l, arrV_store]
  congr 2
  funext q
  by_cases hq : q = i.toNatClampNeg
  · subst hq; simp [updV, vp_updL]
  · simp [updV, vp_updL, hq]
/-- a Plan into an array of them -/
theorem j_aast (C : Cx p l s m args meth c cc nL own ret E) {a v : Nat} {i : Int32} {A : Prop} (d : decode cc pc = .ok (.aastore, 1)) (h : zk M a = 13 ∧ zk M v = 4 ∧ vp_in i (zl M a) ∧ A) (kk : A → J p l e R s m args below meth c Q E nL (sR M a i.toNatClampNeg (some v)) kc ks (pc + 1) lo st) : J p l e R s m args below meth c Q E nL M kc ks pc lo (.ref v :: .int i :: .ref a :: st) := by
  intro H locs ls hR hS hl
  obtain ⟨h1, h4, hin, hA⟩ := h
  have hat := hR.cell h1 (by decide)
  have hv := hR.cell h4 (by decide)
  have hbs := (hR.2.2 a (by rw [h1]; decide)).1
  rw [zC_q h1] at hat
  rw [zC_o (ci := 3) h4 (by decide)] at hv
  have hK := C.2.2.2.2.2.2.1.2.1
  have hlt : i.toNatClampNeg < zl M a := Nat.not_le.mp fun q => hin (Or.inr q)
  have h0 : ¬ i < 0 := fun q => hin (Or.inl q)
  obtain ⟨r', hr', cellV, g1, g2, g3, -⟩ := hv
  have hcls := (hK.1 3 _ rfl).2
  obtain ⟨kA, comp, k1, k2, k3, -⟩ := (hK.2 4 _ rfl).2
  have hcomp : comp = E.1.1 3 := Option.some.inj (k3.symm.trans hcls.1)
  subst hcomp
  obtain ⟨kC, hkC, -⟩ := hcls.2
  refine W.aast C.1 C.2.1 hat (fun q h => by cases h) (fun h => by cases h) k1 k2 rfl hkC ⟨h0, by show _ < (arrV _ _ _).slots.size; rw [arrV_size]; exact hlt⟩ g1 (fun q h => by rw [g3] at h; cases h) (by rw [g2]; exact hkC) (by rw [g2]; exact va_assign hcls) rfl rfl d fun H1 e1 z oq => ?_
  refine kk hA H1 _ ls (hR.put z oq rfl rfl (fun b hb => sR_o hb) ?_) (hS.put z oq hbs) hl
  rw [zC_q (show zk (sR M a i.toNatClampNeg (some v)) a = 13 from h1), sR_ref]
  show H1[a]? = some (vp_cell _ _)
  rw [e1, vp_cell_q, vp_cell_q, arrV_store]
  congr 2
  funext q
  by_cases hq : q = i.toNatClampNeg
  · subst hq; simp [updV, va_up, va_rf]
  · simp [updV, va_up, hq]
end JH
