/-! THE STORE: what the heap's own cells hold, as functions of the address; the rows of one instruction over it. -/
abbrev vwCl : List vw_C := [(RX0, TX0, 3), (RX2, TX2, 2), (RX3, TX3, 4), (RX4, TX4, 7), (RX5, TX5, 7), (RX6, TX6, 19), (RX7, TX7, 12), (RX8, TX8, 18), (RX0, TX0, 3), (RX0, TX0, 3), (RX0, TX0, 3), (RX0, TX0, 3), (RX0, TX0, 3), (RX0, TX0, 3), (RX0, TX0, 3), (RJ4, TJ4, 4), (RJ0, TJ0, 4)]
/-- the kinds of fields of a class: 0 int-like, 1 long, 2 reference; kinds 1 to 8: the classes -/
def ft (k : Nat) : List Nat := match k with
  | 1 => [2, 2, 2]
  | 2 => [2, 0]
  | 3 => [2, 2, 0, 0]
  | 4 => [0, 2, 2, 2, 2, 2, 2]
  | 5 => [2, 0, 0, 0, 0, 1, 0]
  | 6 => [0, 0, 0, 2, 2, 2, 2, 2, 2, 2, 2, 2, 2, 2, 2, 2, 2, 2, 2]
  | 7 => [2, 2, 2, 2, 2, 2, 2, 0, 0, 0, 2, 2]
  | 8 => [0, 0, 0, 0, 0, 0, 0, 2, 2, 2, 2, 2, 2, 2, 2, 2, 2, 0]
  | 16 => [2, 0, 0, 0]
  | 17 => [2, 0, 0, 0]
  | _ => []
/-- the store: the heap's size, kinds, lengths, ints, longs, references -/
abbrev Mm : Type := Nat × (Nat → Nat) × (Nat → Nat) × (Nat → Nat → Int32) × (Nat → Nat → Int64) × (Nat → Nat → Option Nat)
def zn (M : Mm) : Nat := M.1
def zk (M : Mm) : Nat → Nat := M.2.1
def zl (M : Mm) : Nat → Nat := M.2.2.1
def zI (M : Mm) : Nat → Nat → Int32 := M.2.2.2.1
def zJ (M : Mm) : Nat → Nat → Int64 := M.2.2.2.2.1
def zR (M : Mm) : Nat → Nat → Option Nat := M.2.2.2.2.2
def sI (M : Mm) (a i : Nat) (x : Int32) : Mm := (M.1, M.2.1, M.2.2.1, fun b j => if b = a ∧ j = i then x else zI M b j, M.2.2.2.2.1, M.2.2.2.2.2)
def sJ (M : Mm) (a i : Nat) (x : Int64) : Mm := (M.1, M.2.1, M.2.2.1, M.2.2.2.1, fun b j => if b = a ∧ j = i then x else zJ M b j, M.2.2.2.2.2)
def sR (M : Mm) (a i : Nat) (x : Option Nat) : Mm := (M.1, M.2.1, M.2.2.1, M.2.2.2.1, M.2.2.2.2.1, fun b j => if b = a ∧ j = i then x else zR M b j)
/-- n ints from place sp of a to place dp of d -/
def sC (M : Mm) (a sp d dp n : Nat) : Mm := (M.1, M.2.1, M.2.2.1, fun b j => if b = d ∧ dp ≤ j ∧ j < dp + n then zI M a (sp + (j - dp)) else zI M b j, M.2.2.2.2.1, M.2.2.2.2.2)
/-- a new cell of kind k and length n, all zero -/
def sN (M : Mm) (k n : Nat) : Mm := (M.1 + 1, fun b => if b = M.1 then k else zk M b, fun b => if b = M.1 then n else zl M b, fun b j => if b = M.1 then 0 else zI M b j, fun b j => if b = M.1 then 0 else zJ M b j, fun b j => if b = M.1 then none else zR M b j)
/-- other cells, that nobody looks at, came: the heap's size is n -/
def sZ (M : Mm) (n : Nat) : Mm := (n, M.2)
def fv (M : Mm) (a t i : Nat) : Value := if t = 0 then .int (zI M a i) else if t = 1 then .long (zJ M a i) else va_rf (zR M a i)
def fvs (M : Mm) (a : Nat) (tl : List Nat) : List Value := (List.range tl.length).map fun i => fv M a (tl.getD i 0) i
def zC (cy : Nat → ClassId) (M : Mm) (a : Nat) : va_E :=
  if zk M a ≤ 8 ∨ 16 ≤ zk M a then .inr (zk M a - 1, fvs M a (ft (zk M a))) else if zk M a = 11 then .inl (cy (zk M a), zl M a, .inr (.inl (zJ M a))) else if zk M a = 13 ∨ zk M a = 14 ∨ zk M a = 15 then .inl (cy (zk M a), zl M a, .inr (.inr (.inr (.inr (zR M a))))) else .inl (cy (zk M a), zl M a, .inl (zI M a))
theorem zC_o {cy : Nat → ClassId} {M : Mm} {a ci : Nat} (hk : zk M a = ci + 1) (h : ci + 1 ≤ 8 ∨ 16 ≤ ci + 1) : zC cy M a = .inr (ci, fvs M a (ft (ci + 1))) := by
  unfold zC; rw [hk, if_pos h]; rfl
theorem zC_i {cy : Nat → ClassId} {M : Mm} {a k : Nat} (hk : zk M a = k) (h : k = 9 ∨ k = 10 ∨ k = 12) : zC cy M a = .inl (cy k, zl M a, .inl (zI M a)) := by
  unfold zC; rw [hk, if_neg (by omega), if_neg (by omega), if_neg (by omega)]
theorem zC_l {cy : Nat → ClassId} {M : Mm} {a : Nat} (hk : zk M a = 11) : zC cy M a = .inl (cy 11, zl M a, .inr (.inl (zJ M a))) := by
  unfold zC; rw [hk]; rfl
theorem zC_q {cy : Nat → ClassId} {M : Mm} {a : Nat} (hk : zk M a = 13) : zC cy M a = .inl (cy 13, zl M a, .inr (.inr (.inr (.inr (zR M a))))) := by
  unfold zC; rw [hk]; rfl
theorem zC_q2 {cy : Nat → ClassId} {M : Mm} {a k : Nat} (hk : zk M a = k) (h : k = 13 ∨ k = 14 ∨ k = 15) : zC cy M a = .inl (cy k, zl M a, .inr (.inr (.inr (.inr (zR M a))))) := by
  unfold zC; rw [hk, if_neg (by omega), if_neg (by omega), if_pos h]
theorem fvs_get (M : Mm) (a : Nat) (tl : List Nat) {k t : Nat} (h : tl[k]? = some t) : (fvs M a tl)[k]? = some (fv M a t k) := by
  have hk : k < tl.length := (List.getElem?_eq_some_iff.mp h).1
  unfold fvs
  rw [List.getElem?_map, List.getElem?_range hk]
  show some (fv M a (tl.getD k 0) k) = _
  rw [List.getD_eq_getElem?_getD, h]; rfl
theorem fvs_len (M : Mm) (a : Nat) (tl : List Nat) : (fvs M a tl).length = tl.length := by simp [fvs]
theorem fvs_set {M M' : Mm} {a : Nat} {tl : List Nat} {k t : Nat} {v : Value} (h : tl[k]? = some t) (hv : fv M' a t k = v) (ho : ∀ i u, i ≠ k → fv M' a u i = fv M a u i) : fvs M' a tl = (fvs M a tl).set k v := by
  apply List.ext_getElem?
  intro j
  by_cases hj : j = k
  · subst hj
    rw [fvs_get _ _ _ h, hv, List.getElem?_set_self (by rw [fvs_len]; exact (List.getElem?_eq_some_iff.mp h).1)]
  · rw [List.getElem?_set_ne (Ne.symm hj)]
    cases hq : tl[j]? with
    | none =>
      have hl : tl.length ≤ j := List.getElem?_eq_none_iff.mp hq
      rw [List.getElem?_eq_none_iff.mpr (by rw [fvs_len]; exact hl), List.getElem?_eq_none_iff.mpr (by rw [fvs_len]; exact hl)]
    | some u => rw [fvs_get _ _ _ hq, fvs_get _ _ _ hq, ho j u hj]
theorem fvs_same {M M' : Mm} {a : Nat} {tl : List Nat} (ho : ∀ i u, fv M' a u i = fv M a u i) : fvs M' a tl = fvs M a tl := by
  unfold fvs
  exact List.map_congr_left fun i _ => ho i _
theorem zC_same {cy : Nat → ClassId} {M M' : Mm} {b : Nat} (hk : zk M' b = zk M b) (hl : zl M' b = zl M b) (hI : zI M' b = zI M b) (hJ : zJ M' b = zJ M b) (hR : zR M' b = zR M b) : zC cy M' b = zC cy M b := by
  have hf : ∀ tl, fvs M' b tl = fvs M b tl := fun tl => fvs_same fun i u => by unfold fv; rw [hI, hJ, hR]
  unfold zC
  rw [hk, hl, hI, hJ, hR, hf]
theorem sI_o {cy : Nat → ClassId} {M : Mm} {a i b : Nat} {x : Int32} (h : b ≠ a) : zC cy (sI M a i x) b = zC cy M b :=
  zC_same rfl rfl (by funext j; show (if b = a ∧ j = i then x else zI M b j) = _; rw [if_neg (fun q => h q.1)]) rfl rfl
theorem sJ_o {cy : Nat → ClassId} {M : Mm} {a i b : Nat} {x : Int64} (h : b ≠ a) : zC cy (sJ M a i x) b = zC cy M b :=
  zC_same rfl rfl rfl (by funext j; show (if b = a ∧ j = i then x else zJ M b j) = _; rw [if_neg (fun q => h q.1)]) rfl
theorem sR_o {cy : Nat → ClassId} {M : Mm} {a i b : Nat} {x : Option Nat} (h : b ≠ a) : zC cy (sR M a i x) b = zC cy M b :=
  zC_same rfl rfl rfl rfl (by funext j; show (if b = a ∧ j = i then x else zR M b j) = _; rw [if_neg (fun q => h q.1)])
theorem sC_o {cy : Nat → ClassId} {M : Mm} {a sp d dp n b : Nat} (h : b ≠ d) : zC cy (sC M a sp d dp n) b = zC cy M b :=
  zC_same rfl rfl (by funext j; show (if b = d ∧ dp ≤ j ∧ j < dp + n then zI M a (sp + (j - dp)) else zI M b j) = _; rw [if_neg (fun q => h q.1)]) rfl rfl
theorem sN_o {cy : Nat → ClassId} {M : Mm} {k n b : Nat} (h : b ≠ zn M) : zC cy (sN M k n) b = zC cy M b :=
  zC_same (if_neg h) (if_neg h) (by funext j; exact if_neg h) (by funext j; exact if_neg h) (by funext j; exact if_neg h)
theorem sI_int (M : Mm) (a i : Nat) (x : Int32) : zI (sI M a i x) a = upd (zI M a) i x := by
  funext j; show (if a = a ∧ j = i then x else zI M a j) = _; simp [upd]
theorem sJ_long (M : Mm) (a i : Nat) (x : Int64) : zJ (sJ M a i x) a = vp_updL (zJ M a) i x := by
  funext j; show (if a = a ∧ j = i then x else zJ M a j) = _; simp [vp_updL]
theorem sR_ref (M : Mm) (a i : Nat) (x : Option Nat) : zR (sR M a i x) a = va_up (zR M a) i x := by
  funext j; show (if a = a ∧ j = i then x else zR M a j) = _; simp [va_up]
theorem sC_int (M : Mm) (a sp d dp n : Nat) : zI (sC M a sp d dp n) d = va_cpy (zI M a) (zI M d) sp dp n := by
  funext j; show (if d = d ∧ dp ≤ j ∧ j < dp + n then zI M a (sp + (j - dp)) else zI M d j) = _; simp [va_cpy]
/-- the surroundings: where classes and their slots lie, the classes of arrays, from which address on cells are ours, the String constants and their rows -/
abbrev EV : Type := va_G × (Nat → ClassId) × Nat × (Nat → Nat) × (Nat → Nat)
/-- the heap holds the store: the cells of a kind other than 0 -/
def Rp (E : EV) (M : Mm) (H : Heap) : Prop := H.size = zn M ∧ E.2.2.1 ≤ zn M ∧ ∀ a, zk M a ≠ 0 → E.2.2.1 ≤ a ∧ va_at E.1 vwCl (a, zC E.2.1 M a) H
theorem Rp.put {E : EV} {M M' : Mm} {H H1 : Heap} {a : Nat} (h : Rp E M H) (hz : H1.size = H.size) (ho : ∀ q : Nat, q ≠ a → H1[q]? = H[q]?) (hn : zn M' = zn M) (hk : zk M' = zk M)
    (hoth : ∀ b, b ≠ a → zC E.2.1 M' b = zC E.2.1 M b) (hat : va_at E.1 vwCl (a, zC E.2.1 M' a) H1) : Rp E M' H1 := by
  obtain ⟨h1, h2, h3⟩ := h
  refine ⟨by rw [hz, h1, hn], by rw [hn]; exact h2, fun b hb => ?_⟩
  rw [hk] at hb
  refine ⟨(h3 b hb).1, ?_⟩
  by_cases e : b = a
  · subst e; exact hat
  · rw [hoth b e]; exact (h3 b hb).2.kept (ho b e)
theorem Rp.new {E : EV} {M : Mm} {H H1 : Heap} {k n : Nat} (h : Rp E M H) (hz : H1.size = H.size + 1) (ho : ∀ q : Nat, q < H.size → H1[q]? = H[q]?) (hat : va_at E.1 vwCl (zn M, zC E.2.1 (sN M k n) (zn M)) H1) : Rp E (sN M k n) H1 := by
  obtain ⟨h1, h2, h3⟩ := h
  refine ⟨by rw [hz, h1]; rfl, Nat.le_succ_of_le h2, fun b hb => ?_⟩
  by_cases e : b = zn M
  · subst e; exact ⟨h2, hat⟩
  · have hb' : zk M b ≠ 0 := by
      have : zk (sN M k n) b = zk M b := if_neg e
      rw [this] at hb; exact hb
    refine ⟨(h3 b hb').1, ?_⟩
    rw [sN_o e]
    exact (h3 b hb').2.kept (ho b (h3 b hb').2.lt)
theorem Rp.grow {E : EV} {M : Mm} {H H1 : Heap} (h : Rp E M H) (hz : H.size ≤ H1.size) (ho : ∀ q : Nat, q < H.size → H1[q]? = H[q]?) : Rp E (sZ M H1.size) H1 := by
  obtain ⟨h1, h2, h3⟩ := h
  refine ⟨rfl, Nat.le_trans (by rw [h1]; exact h2) hz, fun b hb => ?_⟩
  have hb' : zk M b ≠ 0 := hb
  refine ⟨(h3 b hb').1, ?_⟩
  exact (h3 b hb').2.kept (ho b (h3 b hb').2.lt)
/-- the words: those that stay, and those of nest mates -/
def TB : List Cond := lw_tbl.filter goodWord
def zNest (w : Cond) : Bool := match w with
  | .fieldLinkNest _ _ _ _ _ _ => true
  | .methodLinkNest _ _ _ _ => true
  | .castable _ _ => true
  | .declares _ => true
  | _ => false
theorem zNest_tab {w : Cond} (h : zNest w = true) : w.onTables = true := by
  unfold zNest at h
  split at h
  · rfl
  · rfl
  · rfl
  · rfl
  · cases h
def NW : List Cond := lw_tbl.filter zNest
theorem tbw (k : Nat) {w : Cond} (h : lw_tbl[k]? = some w) (g : goodWord w = true) : w ∈ TB := List.mem_filter.mpr ⟨List.mem_of_getElem? h, g⟩
theorem nww (k : Nat) {w : Cond} (h : lw_tbl[k]? = some w) (g : zNest w = true) : w ∈ NW := List.mem_filter.mpr ⟨List.mem_of_getElem? h, g⟩
theorem TB_good {w : Cond} (h : w ∈ TB) : goodWord w = true := (List.mem_filter.mp h).2
theorem TB_in {y : Cond} {ws : List Cond} (h : y ∈ TB) (hw : ws = y :: TB) {big : List Cond} (hb : ∀ w ∈ TB, w ∈ big) : GoodIn big ws := by
  subst hw
  intro w hw
  rcases List.mem_cons.mp hw with e | e
  · rw [e]; exact ⟨hb _ h, good_of_word (TB_good h)⟩
  · exact ⟨hb _ e, good_of_word (TB_good e)⟩
theorem NW_warm {s U : State} (hW : s.WarmedH U.vm) (h : ∀ w ∈ NW, va_Nw w s) : ∀ w ∈ NW, va_Nw w U := by
  intro w hw
  have h1 := h w hw
  have h2 := (List.mem_filter.mp hw).2
  unfold zNest at h2
  split at h2
  · exact va_Nw.warmF hW h1
  · exact va_Nw.warmM hW h1
  · exact va_Nw.warmC hW h1
  · exact va_Nw.warmD hW h1
  · cases h2
def zTy (cy : Nat → ClassId) : List (ClassId × FieldType) := [(cy 9, .byte), (cy 10, .int), (cy 11, .long), (cy 12, .boolean), (cy 13, .object RX4), (cy 14, .array .int), (cy 15, .array (.array .int))]
def zUS (E : EV) (U : State) : Prop := vx_Zq Bundle.tN "UNASSIGNED_STACK" Bundle.steD (fun q => E.2.2.1 ≤ q) U U.heap ∧ vx_Zq Bundle.tN "SUPPRESSED_SENTINEL" Bundle.listD (fun q => E.2.2.1 ≤ q) U U.heap
/-- the String constants, by their places -/
def zLen : List Nat := [4, 4, 6, 6, 4, 6, 5, 5, 7, 5, 7, 7]
def zByt : List (List Int32) := [[100, 97, 121, 115], [104, 97, 108, 108], [112, 108, 97, 121, 101, 114], [97, 98, 115, 101, 110, 116], [119, 111, 114, 107], [100, 111, 117, 98, 108, 101], [100, 97, 121, 115, 32], [104, 97, 108, 108, 32], [112, 108, 97, 121, 101, 114, 32], [119, 111, 114, 107, 32], [97, 98, 115, 101, 110, 116, 32], [100, 111, 117, 98, 108, 101, 32]]
def zRefs : List (String × Nat × Nat × String) := [(RX3, 50, 0, "days"), (RX3, 70, 1, "hall"), (RX3, 75, 2, "player"), (RX3, 80, 3, "absent"), (RX3, 85, 4, "work"), (RX3, 90, 5, "double"), (RL, 47, 6, "days "), (RL, 67, 7, "hall "), (RL, 82, 8, "player "), (RL, 109, 9, "work "), (RL, 114, 10, "absent "), (RL, 119, 11, "double ")]
def zStr (E : EV) (U : State) : Prop := vk_S 12 zLen zByt E.2.2.2.1 E.2.2.2.2 (fun q => E.2.2.1 ≤ q) U U.heap ∧ (∀ q ∈ zRefs, vk_R q.1 q.2.1 q.2.2.2 (E.2.2.2.1 q.2.2.1) U) ∧ va_Z "java/lang/String" "COMPACT_STRINGS" "Z" (.int 1) (fun q => E.2.2.1 ≤ q) U U.heap ∧ va_Zq "jdk/internal/util/Preconditions" "SIOOBE_FORMATTER" "Ljava/util/function/BiFunction;" (fun q => E.2.2.1 ≤ q) U U.heap
/-- the class of arrays of arrays is there -/
def zAA (ty : FieldType) (U : State) : Prop := (Cond.arrayOver (.array ty)).before #[] U = true
theorem zAA.moved {ty : FieldType} {u U : State} (hvm : u.vm.Alike U.vm) (h : zAA ty u) : zAA ty U := by
  obtain ⟨comp, c, k, h1, h2, h3, h4, h5⟩ := arrayOverA_spec h
  obtain ⟨k', hk', he⟩ := hvm.2.2 _ _ h3
  have hi : (U.vm.classes.findIdx? fun (x : Class) => match x.kind with | .array component _ => component == comp | _ => false) = some c := by
    refine (va_idx_bare U.vm comp).symm.trans ?_
    first | rw [hvm.bare_eq] | rw [← hvm.bare_eq]
    exact (va_idx_bare u.vm comp).trans h2
  have hkind : k'.kind = .array comp (.array ty) := by rw [he]; exact h4
  have f1 : U.vm.findClass (FieldType.array ty).toString = some comp := by rw [hvm.findClass]; exact h1
  have f2 : U.vm.findClass ("[" ++ (FieldType.array ty).toString) = some c := by rw [hvm.findClass]; exact h5
  unfold zAA Cond.before Cond.holds
  simp only [Cond.value]
  rw [f1, Option.bind_some]
  refine (congrArg (fun o : Option Nat => (o.bind (fun c => (U.vm.classes[c]?).map fun (k : Class) => match k.kind with | .array _ t9 => decide (t9 = FieldType.array ty) && decide (U.vm.findClass ("[" ++ (FieldType.array ty).toString) = some c) | _ => false) == some true)) hi).trans ?_
  simp [hk', hkind, f2]
/-- which exceptions are not of which class -/
def zPairs : List (String × String) := [("java/lang/IllegalArgumentException", "java/lang/IndexOutOfBoundsException"), ("java/lang/IllegalStateException", "java/lang/IndexOutOfBoundsException"), ("java/lang/IllegalStateException", "java/lang/IllegalArgumentException")]
/-- the digits of the numbers below 100, as Integer's tables have them -/
def zDig (one : Bool) (k : Nat) : Int32 := if one then Int32.ofNat (48 + k % 10) else Int32.ofNat (48 + k / 10)
def zDgT (E : EV) (one : Bool) (nm : String) (U : State) (H : Heap) : Prop := ∃ t, va_Z "java/lang/Integer" nm "[B" (.ref t) (fun q => E.2.2.1 ≤ q) U H ∧ va_T .byte t 100 (fun j => .int (zDig one j)) (fun q => E.2.2.1 ≤ q) U H
def zDg (E : EV) (U : State) : Prop := zDgT E true "DigitOnes" U U.heap ∧ zDgT E false "DigitTens" U U.heap
theorem zDgT.moved {E : EV} {one : Bool} {nm : String} {u U : State} {H : Heap} (hvm : u.vm.Alike U.vm) (h : zDgT E one nm u H) : zDgT E one nm U H := by
  obtain ⟨t, h1, h2⟩ := h
  exact ⟨t, va_Z.moved hvm h1, va_T.moved hvm h2⟩
theorem zDgT.kept {E : EV} {one : Bool} {nm : String} {U : State} {H H1 : Heap} (h : zDgT E one nm U H) (hq : ∀ a : Nat, a < H.size → ¬ (E.2.2.1 ≤ a) → H1[a]? = H[a]?) : zDgT E one nm U H1 := by
  obtain ⟨t, h1, h2⟩ := h
  exact ⟨t, h1.kept hq, h2.kept hq⟩
/-- private methods of AbstractStringBuilder, on a StringBuilder -/
def zPvL : List Cond := [Cond.selects "java/lang/StringBuilder" yJ5_ensureCapacityInternal_d00df yJ5_ensureCapacityInternal_d00df, Cond.selects "java/lang/StringBuilder" yJ5_newCapacity_0f7a4 yJ5_newCapacity_0f7a4, Cond.selects "java/lang/StringBuilder" yJ5_putStringAt_47b60 yJ5_putStringAt_47b60, Cond.selects "java/lang/StringBuilder" yJ5_inflateIfNeededFor_a7421 yJ5_inflateIfNeededFor_a7421]
def zPv (U : State) : Prop := ∀ w ∈ zPvL, w.before #[] U = true
theorem zPvL_ok : ∀ w ∈ zPvL, goodWord w = true ∧ w.onTables = true := by
  intro w hw
  simp only [zPvL, List.mem_cons, List.not_mem_nil, or_false] at hw
  rcases hw with rfl | rfl | rfl | rfl <;> exact ⟨rfl, rfl⟩
theorem zPv.warm {s U : State} (hW : s.WarmedH U.vm) (h : zPv s) : zPv U := fun w hw => word_at hW (good_of_word (zPvL_ok w hw).1) (h w hw)
theorem zPv.same {s U : State} (hv : s.vm = U.vm) (h : zPv s) : zPv U := fun w hw => va_tabs (zPvL_ok w hw).2 hv (h w hw)
/-- what stays known of the machine: classes, words of nest mates, the statics that a throw reads, the String constants -/
def Kn (l : Launch) (E : EV) (U : State) : Prop := l.stackTraces = false ∧ va_K E.1 vwCl (zTy E.2.1) U ∧ va_AO RX4 U ∧ (∀ w ∈ NW, va_Nw w U) ∧ zUS E U ∧ zStr E U ∧ (zAA .int U ∧ zAA (.array .int) U) ∧ zDg E U ∧ zPv U
theorem Kn.moved {l : Launch} {E : EV} {s U : State} {H : Heap} {locs : List Loc} (h : Kn l E s) (hS : va_S (fun q => E.2.2.1 ≤ q) s.heap H locs) (hU : U.heap = H) (hW : s.WarmedH U.vm) : Kn l E U := by
  obtain ⟨h0, h1, h2, h3, ⟨h4, h5⟩, ⟨h6, h7, h8, h9⟩, ⟨h10, h11⟩, h12, h13⟩ := h
  subst hU
  exact ⟨h0, va_K.moved hW.alike h1, va_AO.moved hW.alike h2, NW_warm hW h3, ⟨vx_Zq.moved hW.alike (h4.kept hS.2.1), vx_Zq.moved hW.alike (h5.kept hS.2.1)⟩, ⟨vk_S.moved hW.alike (h6.kept hS.2.1), fun q hq => vk_R.warm hW (h7 q hq), va_Z.moved hW.alike (h8.kept hS.2.1), va_Zq.moved hW.alike (h9.kept hS.2.1)⟩, ⟨zAA.moved hW.alike h10, zAA.moved hW.alike h11⟩, ⟨zDgT.moved hW.alike (h12.1.kept hS.2.1), zDgT.moved hW.alike (h12.2.kept hS.2.1)⟩, zPv.warm hW h13⟩
theorem Kn.calling {l : Launch} {E : EV} {U : State} {g : JFrame} {mk : MethodId} {a : Array Value} (h : Kn l E U) : Kn l E (U.calling g mk a) := by
  obtain ⟨h0, h1, h2, h3, ⟨h4, h5⟩, ⟨h6, h7, h8, h9⟩, ⟨h10, h11⟩, h12, h13⟩ := h
  have hr : U.vm.Alike (U.calling g mk a).vm := Vm.Alike.refl U.vm
  exact ⟨h0, va_K.moved hr h1, va_AO.moved hr h2, fun w hw => va_Nw.same (zNest_tab (List.mem_filter.mp hw).2) (rfl : U.vm = (U.calling g mk a).vm) (h3 w hw), ⟨vx_Zq.moved hr h4, vx_Zq.moved hr h5⟩, ⟨vk_S.moved hr h6, fun q hq => vk_R.same rfl (h7 q hq), va_Z.moved hr h8, va_Zq.moved hr h9⟩, ⟨zAA.moved hr h10, zAA.moved hr h11⟩, ⟨zDgT.moved hr h12.1, zDgT.moved hr h12.2⟩, zPv.same (rfl : U.vm = (U.calling g mk a).vm) h13⟩
