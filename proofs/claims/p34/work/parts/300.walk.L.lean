/-! written by a program (wip/p34/gen.py) out of the decode rows and the tables: walks of the law -/

section GL0
variable {p : Program} {l : Launch} {e : Env} {R : Room} {s : State} {m : MethodId} {args : Array Value} {below : List Frame} {meth : Method} {c : Code} {Q : State → Prop} {cc : ByteArray} {nL : Nat} {ret : Option FieldType} {E : EV} {M : Mm} {kc ks pc : Nat} {lo : List (Nat × Value)} {st : List Value}
abbrev rm_X8_init (B S : Nat) : Room := { frames := 1, cells := B, slots := S, locals := 20 }
def w_X8_init (M : Mm) (x0 : Nat) (P : Mm → Prop) (B S : Nat) : Prop := 0 + 1 ≤ B ∧ 0 + 3 ≤ S ∧ ¬ (3 : Int32) < 0 ∧ (3 : Int32).toNatClampNeg ≤ 3 ∧ (∀ a1 M1, a1 = zn M → M1 = sN M 10 (3 : Int32).toNatClampNeg → zk M1 x0 = 8 ∧ (∀ M2, M2 = sR M1 x0 7 (some a1) → (0 + 1) + 1 ≤ B ∧ (0 + 3) + 8 ≤ S ∧ ¬ (8 : Int32) < 0 ∧ (8 : Int32).toNatClampNeg ≤ 8 ∧ (∀ a3 M3, a3 = zn M2 → M3 = sN M2 10 (8 : Int32).toNatClampNeg → zk M3 x0 = 8 ∧ (∀ M4, M4 = sR M3 x0 8 (some a3) → ((0 + 1) + 1) + 1 ≤ B ∧ ((0 + 3) + 8) + 8 ≤ S ∧ ¬ (8 : Int32) < 0 ∧ (8 : Int32).toNatClampNeg ≤ 8 ∧ (∀ a5 M5, a5 = zn M4 → M5 = sN M4 10 (8 : Int32).toNatClampNeg → zk M5 x0 = 8 ∧ (∀ M6, M6 = sR M5 x0 9 (some a5) → (((0 + 1) + 1) + 1) + 1 ≤ B ∧ (((0 + 3) + 8) + 8) + 8 ≤ S ∧ ¬ (8 : Int32) < 0 ∧ (8 : Int32).toNatClampNeg ≤ 8 ∧ (∀ a7 M7, a7 = zn M6 → M7 = sN M6 10 (8 : Int32).toNatClampNeg → zk M7 x0 = 8 ∧ (∀ M8, M8 = sR M7 x0 10 (some a7) → ((((0 + 1) + 1) + 1) + 1) + 1 ≤ B ∧ ((((0 + 3) + 8) + 8) + 8) + 8 ≤ S ∧ ¬ (8 : Int32) < 0 ∧ (8 : Int32).toNatClampNeg ≤ 8 ∧ (∀ a9 M9, a9 = zn M8 → M9 = sN M8 14 (8 : Int32).toNatClampNeg → zk M9 x0 = 8 ∧ (∀ M10, M10 = sR M9 x0 11 (some a9) → (((((0 + 1) + 1) + 1) + 1) + 1) + 1 ≤ B ∧ (((((0 + 3) + 8) + 8) + 8) + 8) + 5 ≤ S ∧ ¬ (5 : Int32) < 0 ∧ (5 : Int32).toNatClampNeg ≤ 5 ∧ (∀ a11 M11, a11 = zn M10 → M11 = sN M10 14 (5 : Int32).toNatClampNeg → zk M11 x0 = 8 ∧ (∀ M12, M12 = sR M11 x0 12 (some a11) → ((((((0 + 1) + 1) + 1) + 1) + 1) + 1) + 1 ≤ B ∧ ((((((0 + 3) + 8) + 8) + 8) + 8) + 5) + 5 ≤ S ∧ ¬ (5 : Int32) < 0 ∧ (5 : Int32).toNatClampNeg ≤ 5 ∧ (∀ a13 M13, a13 = zn M12 → M13 = sN M12 14 (5 : Int32).toNatClampNeg → zk M13 x0 = 8 ∧ (∀ M14, M14 = sR M13 x0 13 (some a13) → (((((((0 + 1) + 1) + 1) + 1) + 1) + 1) + 1) + 1 ≤ B ∧ (((((((0 + 3) + 8) + 8) + 8) + 8) + 5) + 5) + 20 ≤ S ∧ ¬ (20 : Int32) < 0 ∧ (20 : Int32).toNatClampNeg ≤ 20 ∧ (∀ a15 M15, a15 = zn M14 → M15 = sN M14 14 (20 : Int32).toNatClampNeg → zk M15 x0 = 8 ∧ (∀ M16, M16 = sR M15 x0 14 (some a15) → ((((((((0 + 1) + 1) + 1) + 1) + 1) + 1) + 1) + 1) + 1 ≤ B ∧ ((((((((0 + 3) + 8) + 8) + 8) + 8) + 5) + 5) + 20) + 20 ≤ S ∧ ¬ (20 : Int32) < 0 ∧ (20 : Int32).toNatClampNeg ≤ 20 ∧ (∀ a17 M17, a17 = zn M16 → M17 = sN M16 15 (20 : Int32).toNatClampNeg → zk M17 x0 = 8 ∧ (∀ M18, M18 = sR M17 x0 15 (some a17) → P M18))))))))))))))))))
set_option maxHeartbeats 4000000 in
set_option maxRecDepth 100000 in
theorem c_X8_init (l : Launch) (E : EV) (M : Mm) (x0 : Nat) (P : Mm → Prop) (B S : Nat) (h : w_X8_init M x0 P B S) : CtV l E yX8_init cX8_init 1 (rm_X8_init B S) B S [.ref x0] M P := by
  refine ctV_of (by decide +kernel) (Nat.le_of_ble_eq_true rfl) ?_
  intro p e s m args below meth c C hnm
  rw [w_X8_init] at h
  have hb : 0 ≤ B := Nat.zero_le _
  have hs : 0 ≤ S := Nat.zero_le _
  show J p l e (rm_X8_init B S) s m args below meth c (QV below E P args s B S) E 1 M 0 0 0 [(0, .ref x0)] []
  refine j_aload_n (pc := 0) C 0 dX8_init_0 rfl ?_
  refine j_objInit (pc := 1) C wd_337 wd_72 wd_73 dX8_init_1 (Nat.le_of_ble_eq_true rfl) (Nat.le_of_ble_eq_true rfl) ?_
  refine j_aload_n (pc := 4) C 0 dX8_init_4 rfl ?_
  refine j_iconst (pc := 5) (v := (3 : Int32)) C dX8_init_5 rfl ?_
  obtain ⟨hb, hs, h⟩ := h
  refine n_newi (pc := 6) C 3 wd_92 dX8_init_6 (Nat.le_of_ble_eq_true rfl) hb hs h (fun a1 M1 h => ?_)
  refine pf_X8_7 (pc := 8) C hnm dX8_init_8 h (fun M2 h => ?_)
  refine j_aload_n (pc := 11) C 0 dX8_init_11 rfl ?_
  refine j_bipush (pc := 12) (v := (8 : Int32)) C dX8_init_12 rfl ?_
  obtain ⟨hb, hs, h⟩ := h
  refine n_newi (pc := 14) C 8 wd_92 dX8_init_14 (Nat.le_of_ble_eq_true rfl) hb hs h (fun a3 M3 h => ?_)
  refine pf_X8_13 (pc := 16) C hnm dX8_init_16 h (fun M4 h => ?_)
  refine j_aload_n (pc := 19) C 0 dX8_init_19 rfl ?_
  refine j_bipush (pc := 20) (v := (8 : Int32)) C dX8_init_20 rfl ?_
  obtain ⟨hb, hs, h⟩ := h
  refine n_newi (pc := 22) C 8 wd_92 dX8_init_22 (Nat.le_of_ble_eq_true rfl) hb hs h (fun a5 M5 h => ?_)
  refine pf_X8_16 (pc := 24) C hnm dX8_init_24 h (fun M6 h => ?_)
  refine j_aload_n (pc := 27) C 0 dX8_init_27 rfl ?_
  refine j_bipush (pc := 28) (v := (8 : Int32)) C dX8_init_28 rfl ?_
  obtain ⟨hb, hs, h⟩ := h
  refine n_newi (pc := 30) C 8 wd_92 dX8_init_30 (Nat.le_of_ble_eq_true rfl) hb hs h (fun a7 M7 h => ?_)
  refine pf_X8_19 (pc := 32) C hnm dX8_init_32 h (fun M8 h => ?_)
  refine j_aload_n (pc := 35) C 0 dX8_init_35 rfl ?_
  refine j_bipush (pc := 36) (v := (8 : Int32)) C dX8_init_36 rfl ?_
  obtain ⟨hb, hs, h⟩ := h
  refine n_newA (pc := 38) (ty := .int) C 8 14 (Or.inl ⟨rfl, rfl⟩) wd_338 dX8_init_38 (Nat.le_of_ble_eq_true rfl) hb hs h (fun a9 M9 h => ?_)
  refine pf_X8_23 (pc := 41) C hnm dX8_init_41 h (fun M10 h => ?_)
  refine j_aload_n (pc := 44) C 0 dX8_init_44 rfl ?_
  refine j_iconst (pc := 45) (v := (5 : Int32)) C dX8_init_45 rfl ?_
  obtain ⟨hb, hs, h⟩ := h
  refine n_newA (pc := 46) (ty := .int) C 5 14 (Or.inl ⟨rfl, rfl⟩) wd_338 dX8_init_46 (Nat.le_of_ble_eq_true rfl) hb hs h (fun a11 M11 h => ?_)
  refine pf_X8_27 (pc := 49) C hnm dX8_init_49 h (fun M12 h => ?_)
  refine j_aload_n (pc := 52) C 0 dX8_init_52 rfl ?_
  refine j_iconst (pc := 53) (v := (5 : Int32)) C dX8_init_53 rfl ?_
  obtain ⟨hb, hs, h⟩ := h
  refine n_newA (pc := 54) (ty := .int) C 5 14 (Or.inl ⟨rfl, rfl⟩) wd_338 dX8_init_54 (Nat.le_of_ble_eq_true rfl) hb hs h (fun a13 M13 h => ?_)
  refine pf_X8_30 (pc := 57) C hnm dX8_init_57 h (fun M14 h => ?_)
  refine j_aload_n (pc := 60) C 0 dX8_init_60 rfl ?_
  refine j_bipush (pc := 61) (v := (20 : Int32)) C dX8_init_61 rfl ?_
  obtain ⟨hb, hs, h⟩ := h
  refine n_newA (pc := 63) (ty := .int) C 20 14 (Or.inl ⟨rfl, rfl⟩) wd_338 dX8_init_63 (Nat.le_of_ble_eq_true rfl) hb hs h (fun a15 M15 h => ?_)
  refine pf_X8_33 (pc := 66) C dX8_init_66 h (fun M16 h => ?_)
  refine j_aload_n (pc := 69) C 0 dX8_init_69 rfl ?_
  refine j_bipush (pc := 70) (v := (20 : Int32)) C dX8_init_70 rfl ?_
  obtain ⟨hb, hs, h⟩ := h
  refine n_newA (pc := 72) (ty := .array .int) C 20 15 (Or.inr ⟨rfl, rfl⟩) wd_340 dX8_init_72 (Nat.le_of_ble_eq_true rfl) hb hs h (fun a17 M17 h => ?_)
  refine pf_X8_37 (pc := 75) C dX8_init_75 h (fun M18 h => ?_)
  exact j_vret (pc := 78) C dX8_init_78 hb hs h
abbrev rm_X8_plays : Room := { frames := 0, cells := 0, slots := 0, locals := 0 }
def l_X8_plays_14 (P : Int32 → Mm → Prop) (K33 : Mm → Prop) (K41 : Mm → Prop) : Nat → Mm → Int32 → Nat → Int32 → Int32 → Prop
  | 0, _, _, _, _, _ => False
  | n + 1, M, x2, x3, x4, x5 => (if x4 ≤ x5 then K41 M else zk M x3 = 10 ∧ vp_in x5 (zl M x3) ∧ (if (zI M x3 x5.toNatClampNeg) = x2 then K33 M else l_X8_plays_14 P K33 K41 n M x2 x3 x4 (x5 + (1 : Int32))))
set_option maxHeartbeats 4000000 in
set_option maxRecDepth 100000 in
theorem jl_X8_plays_14 {P : Int32 → Mm → Prop} {K33 : Mm → Prop} {K41 : Mm → Prop} (C : Cx p l s m args meth c cX8_plays 7 RX8 (some .boolean) E) (hkc : kc ≤ rm_X8_plays.cells ∧ ks ≤ rm_X8_plays.slots) (k33 : ∀ M, K33 M → J p l e rm_X8_plays s m args below meth c (QI below E P args s rm_X8_plays.cells rm_X8_plays.slots) E 7 M kc ks 33 [] []) (k41 : ∀ M, K41 M → J p l e rm_X8_plays s m args below meth c (QI below E P args s rm_X8_plays.cells rm_X8_plays.slots) E 7 M kc ks 41 [] []) : ∀ n M x2 x3 x4 x5, l_X8_plays_14 P K33 K41 n M x2 x3 x4 x5 → J p l e rm_X8_plays s m args below meth c (QI below E P args s rm_X8_plays.cells rm_X8_plays.slots) E 7 M kc ks 14 [(2, .int x2), (3, .ref x3), (4, .int x4), (5, .int x5)] [] := by
  intro n
  induction n with
  | zero => intro M x2 x3 x4 x5 h; exact h.elim
  | succ n ih =>
    intro M x2 x3 x4 x5 h
    rw [l_X8_plays_14] at h
    refine j_iload (pc := 14) C 3 dX8_plays_14 rfl ?_
    refine j_iload (pc := 16) C 2 dX8_plays_16 rfl ?_
    refine j_icmp_ge (pc := 18) C 41 dX8_plays_18 (by decide) h (fun h => ?_) (fun h => ?_)
    · exact j_weak [] rfl (k41 _ h)
    · refine j_aload_n (pc := 21) C 1 dX8_plays_21 rfl ?_
      refine j_iload (pc := 22) C 3 dX8_plays_22 rfl ?_
      refine j_iald (pc := 24) C dX8_plays_24 h (fun h => ?_)
      refine j_istore (pc := 25) C [(6, _), (2, _), (3, _), (4, _), (5, _)] dX8_plays_25 (by decide) rfl ?_
      refine j_iload (pc := 27) C 0 dX8_plays_27 rfl ?_
      refine j_iload_n (pc := 29) C 1 dX8_plays_29 rfl ?_
      refine j_icmp_ne (pc := 30) C 35 dX8_plays_30 (by decide) h (fun h => ?_) (fun h => ?_)
      · refine j_iinc (pc := 35) (v := (1 : Int32)) C 4 [(5, _), (6, _), (2, _), (3, _), (4, _)] dX8_plays_35 rfl rfl (by decide) rfl ?_
        refine j_goto (pc := 38) C 14 dX8_plays_38 (by decide) ?_
        exact j_weak [2, 3, 4, 0] rfl (ih _ _ _ _ _ h)
      · exact j_weak [] rfl (k33 _ h)
def w_X8_plays (M : Mm) (x0 : Nat) (x1 : Int32) (x2 : Int32) (P : Int32 → Mm → Prop) : Prop := (zk M x0 = 8 ∧ ∃ a1, zR M x0 11 = some a1 ∧ (zk M a1 = 14 ∧ vp_in x1 (zl M a1) ∧ ∃ a2, zR M a1 x1.toNatClampNeg = some a2 ∧ zk M a2 = 10 ∧ (∃ n14, l_X8_plays_14 P (fun M3 => ((1 : Int32) = 0 ∨ (1 : Int32) = 1) ∧ P (1 : Int32) M3) (fun M4 => ((0 : Int32) = 0 ∨ (0 : Int32) = 1) ∧ P (0 : Int32) M4) n14 M x2 a2 (nI (zl M a2)) (0 : Int32))))
set_option maxHeartbeats 4000000 in
set_option maxRecDepth 100000 in
theorem c_X8_plays (l : Launch) (E : EV) (M : Mm) (x0 : Nat) (x1 : Int32) (x2 : Int32) (P : Int32 → Mm → Prop) (h : w_X8_plays M x0 x1 x2 P) : CtI l E yX8_plays cX8_plays 7 .boolean rm_X8_plays 0 0 [.ref x0, .int x1, .int x2] M P := by
  refine ctI_of (by decide +kernel) (Nat.le_of_ble_eq_true rfl) ?_
  intro p e s m args below meth c C
  rw [w_X8_plays] at h
  show J p l e rm_X8_plays s m args below meth c (QI below E P args s 0 0) E 7 M 0 0 0 [(0, .ref x0), (1, .int x1), (2, .int x2)] []
  refine j_aload_n (pc := 0) C 0 dX8_plays_0 rfl ?_
  refine gf_X8_23 (pc := 1) C dX8_plays_1 h (fun a1 h => ?_)
  refine j_iload_n (pc := 4) C 1 dX8_plays_4 rfl ?_
  refine j_aals (pc := 5) C (by decide) dX8_plays_5 h (fun a2 h => ?_)
  refine j_astore_n (pc := 6) C [(3, _), (0, _), (1, _), (2, _)] dX8_plays_6 (by decide) rfl ?_
  refine j_aload_n (pc := 7) C 0 dX8_plays_7 rfl ?_
  refine j_alen (pc := 8) (k := 10) C (by decide) dX8_plays_8 h (fun h => ?_)
  refine j_istore (pc := 9) C [(4, _), (3, _), (0, _), (1, _), (2, _)] dX8_plays_9 (by decide) rfl ?_
  refine j_iconst (pc := 11) (v := (0 : Int32)) C dX8_plays_11 rfl ?_
  refine j_istore (pc := 12) C [(5, _), (4, _), (3, _), (0, _), (1, _), (2, _)] dX8_plays_12 (by decide) rfl ?_
  obtain ⟨n14, h⟩ := h
  refine j_weak [5, 2, 1, 0] rfl (jl_X8_plays_14 C ⟨Nat.le_of_ble_eq_true rfl, Nat.le_of_ble_eq_true rfl⟩ (fun M3 h => ?_) (fun M4 h => ?_) n14 _ _ _ _ _ h)
  · refine j_iconst (pc := 33) (v := (1 : Int32)) C dX8_plays_33 rfl ?_
    exact j_zret (pc := 34) C dX8_plays_34 (Nat.le_of_ble_eq_true rfl) (Nat.le_of_ble_eq_true rfl) h
  · refine j_iconst (pc := 41) (v := (0 : Int32)) C dX8_plays_41 rfl ?_
    exact j_zret (pc := 42) C dX8_plays_42 (Nat.le_of_ble_eq_true rfl) (Nat.le_of_ble_eq_true rfl) h
abbrev rm_X8_isIn : Room := { frames := 0, cells := 0, slots := 0, locals := 0 }
def l_X8_isIn_30 (P : Int32 → Mm → Prop) (K52 : Mm → Prop) (K60 : Mm → Int32 → Nat → Int32 → Int32 → Prop) : Nat → Mm → Int32 → Nat → Int32 → Int32 → Nat → Int32 → Prop
  | 0, _, _, _, _, _, _, _ => False
  | n + 1, M, x1, x3, x4, x5, x6, x7 => zk M x6 = 10 ∧ (if (nI (zl M x6)) ≤ x7 then K60 M x1 x3 x4 x5 else zk M x6 = 10 ∧ vp_in x7 (zl M x6) ∧ (if (zI M x6 x7.toNatClampNeg) = x1 then K52 M else l_X8_isIn_30 P K52 K60 n M x1 x3 x4 x5 x6 (x7 + (1 : Int32))))
set_option maxHeartbeats 4000000 in
set_option maxRecDepth 100000 in
theorem jl_X8_isIn_30 {P : Int32 → Mm → Prop} {K52 : Mm → Prop} {K60 : Mm → Int32 → Nat → Int32 → Int32 → Prop} (C : Cx p l s m args meth c cX8_isIn 8 RX8 (some .boolean) E) (hkc : kc ≤ rm_X8_isIn.cells ∧ ks ≤ rm_X8_isIn.slots) (k52 : ∀ M, K52 M → J p l e rm_X8_isIn s m args below meth c (QI below E P args s rm_X8_isIn.cells rm_X8_isIn.slots) E 8 M kc ks 52 [] []) (k60 : ∀ M x1 x3 x4 x5, K60 M x1 x3 x4 x5 → J p l e rm_X8_isIn s m args below meth c (QI below E P args s rm_X8_isIn.cells rm_X8_isIn.slots) E 8 M kc ks 60 [(1, .int x1), (3, .ref x3), (4, .int x4), (5, .int x5)] []) : ∀ n M x1 x3 x4 x5 x6 x7, l_X8_isIn_30 P K52 K60 n M x1 x3 x4 x5 x6 x7 → J p l e rm_X8_isIn s m args below meth c (QI below E P args s rm_X8_isIn.cells rm_X8_isIn.slots) E 8 M kc ks 30 [(1, .int x1), (3, .ref x3), (4, .int x4), (5, .int x5), (6, .ref x6), (7, .int x7)] [] := by
  intro n
  induction n with
  | zero => intro M x1 x3 x4 x5 x6 x7 h; exact h.elim
  | succ n ih =>
    intro M x1 x3 x4 x5 x6 x7 h
    rw [l_X8_isIn_30] at h
    refine j_aload (pc := 30) C 4 dX8_isIn_30 rfl ?_
    refine j_ifnullA (pc := 32) C dX8_isIn_32 ?_
    refine j_iload (pc := 35) C 5 dX8_isIn_35 rfl ?_
    refine j_aload (pc := 37) C 4 dX8_isIn_37 rfl ?_
    refine j_alen (pc := 39) (k := 10) C (by decide) dX8_isIn_39 h (fun h => ?_)
    refine j_icmp_ge (pc := 40) C 60 dX8_isIn_40 (by decide) h (fun h => ?_) (fun h => ?_)
    · exact j_weak [0, 1, 2, 3] rfl (k60 _ _ _ _ _ h)
    · refine j_aload (pc := 43) C 4 dX8_isIn_43 rfl ?_
      refine j_iload (pc := 45) C 5 dX8_isIn_45 rfl ?_
      refine j_iald (pc := 47) C dX8_isIn_47 h (fun h => ?_)
      refine j_iload_n (pc := 48) C 0 dX8_isIn_48 rfl ?_
      refine j_icmp_ne (pc := 49) C 54 dX8_isIn_49 (by decide) h (fun h => ?_) (fun h => ?_)
      · refine j_iinc (pc := 54) (v := (1 : Int32)) C 5 [(7, _), (1, _), (3, _), (4, _), (5, _), (6, _)] dX8_isIn_54 rfl rfl (by decide) rfl ?_
        refine j_goto (pc := 57) C 30 dX8_isIn_57 (by decide) ?_
        exact j_weak [1, 2, 3, 4, 5, 0] rfl (ih _ _ _ _ _ _ _ h)
      · exact j_weak [] rfl (k52 _ h)
def l_X8_isIn_14 (P : Int32 → Mm → Prop) (K52 : Mm → Prop) (K66 : Mm → Prop) : Nat → Mm → Int32 → Nat → Int32 → Int32 → Prop
  | 0, _, _, _, _, _ => False
  | n + 1, M, x1, x3, x4, x5 => (if x4 ≤ x5 then K66 M else zk M x3 = 14 ∧ vp_in x5 (zl M x3) ∧ (∀ a3, zR M x3 x5.toNatClampNeg = some a3 → (∃ n30, l_X8_isIn_30 P (fun M4 => K52 M4) (fun M5 x1_5 x3_5 x4_5 x5_5 => l_X8_isIn_14 P K52 K66 n M5 x1_5 x3_5 x4_5 (x5_5 + (1 : Int32))) n30 M x1 x3 x4 x5 a3 (0 : Int32))) ∧ (zR M x3 x5.toNatClampNeg = none → l_X8_isIn_14 P K52 K66 n M x1 x3 x4 (x5 + (1 : Int32))))
set_option maxHeartbeats 4000000 in
set_option maxRecDepth 100000 in
theorem jl_X8_isIn_14 {P : Int32 → Mm → Prop} {K52 : Mm → Prop} {K66 : Mm → Prop} (C : Cx p l s m args meth c cX8_isIn 8 RX8 (some .boolean) E) (hkc : kc ≤ rm_X8_isIn.cells ∧ ks ≤ rm_X8_isIn.slots) (k52 : ∀ M, K52 M → J p l e rm_X8_isIn s m args below meth c (QI below E P args s rm_X8_isIn.cells rm_X8_isIn.slots) E 8 M kc ks 52 [] []) (k66 : ∀ M, K66 M → J p l e rm_X8_isIn s m args below meth c (QI below E P args s rm_X8_isIn.cells rm_X8_isIn.slots) E 8 M kc ks 66 [] []) : ∀ n M x1 x3 x4 x5, l_X8_isIn_14 P K52 K66 n M x1 x3 x4 x5 → J p l e rm_X8_isIn s m args below meth c (QI below E P args s rm_X8_isIn.cells rm_X8_isIn.slots) E 8 M kc ks 14 [(1, .int x1), (3, .ref x3), (4, .int x4), (5, .int x5)] [] := by
  intro n
  induction n with
  | zero => intro M x1 x3 x4 x5 h; exact h.elim
  | succ n ih =>
    intro M x1 x3 x4 x5 h
    rw [l_X8_isIn_14] at h
    refine j_iload (pc := 14) C 3 dX8_isIn_14 rfl ?_
    refine j_iload (pc := 16) C 2 dX8_isIn_16 rfl ?_
    refine j_icmp_ge (pc := 18) C 66 dX8_isIn_18 (by decide) h (fun h => ?_) (fun h => ?_)
    · exact j_weak [] rfl (k66 _ h)
    · refine j_aload_n (pc := 21) C 1 dX8_isIn_21 rfl ?_
      refine j_iload (pc := 22) C 3 dX8_isIn_22 rfl ?_
      refine j_aaln (pc := 24) C (by decide) dX8_isIn_24 h (fun a3 h => ?_) (fun h => ?_)
      · refine j_astore (pc := 25) C [(6, _), (1, _), (3, _), (4, _), (5, _)] dX8_isIn_25 (by decide) rfl ?_
        refine j_iconst (pc := 27) (v := (0 : Int32)) C dX8_isIn_27 rfl ?_
        refine j_istore (pc := 28) C [(7, _), (6, _), (1, _), (3, _), (4, _), (5, _)] dX8_isIn_28 (by decide) rfl ?_
        obtain ⟨n30, h⟩ := h
        refine j_weak [2, 3, 4, 5, 1, 0] rfl (jl_X8_isIn_30 C hkc (fun M4 h => ?_) (fun M5 x1_5 x3_5 x4_5 x5_5 h => ?_) n30 _ _ _ _ _ _ _ h)
        · exact j_weak [] rfl (k52 _ h)
        · refine j_iinc (pc := 60) (v := (1 : Int32)) C 3 [(5, _), (1, _), (3, _), (4, _)] dX8_isIn_60 rfl rfl (by decide) rfl ?_
          refine j_goto (pc := 63) C 14 dX8_isIn_63 (by decide) ?_
          exact j_weak [1, 2, 3, 0] rfl (ih _ _ _ _ _ h)
      · refine j_astoreN (pc := 25) C [(6, _), (1, _), (3, _), (4, _), (5, _)] dX8_isIn_25 (by decide) rfl ?_
        refine j_iconst (pc := 27) (v := (0 : Int32)) C dX8_isIn_27 rfl ?_
        refine j_istore (pc := 28) C [(7, _), (6, _), (1, _), (3, _), (4, _), (5, _)] dX8_isIn_28 (by decide) rfl ?_
        refine j_aloadN (pc := 30) C 1 dX8_isIn_30 rfl ?_
        refine j_ifnullN (pc := 32) C 60 dX8_isIn_32 (by decide) ?_
        refine j_iinc (pc := 60) (v := (1 : Int32)) C 5 [(5, _), (7, _), (6, _), (1, _), (3, _), (4, _)] dX8_isIn_60 rfl rfl (by decide) rfl ?_
        refine j_goto (pc := 63) C 14 dX8_isIn_63 (by decide) ?_
        exact j_weak [3, 4, 5, 0] rfl (ih _ _ _ _ _ h)
def w_X8_isIn (M : Mm) (x0 : Nat) (x1 : Int32) (x2 : Int32) (P : Int32 → Mm → Prop) : Prop := (zk M x0 = 8 ∧ ∃ a1, zR M x0 15 = some a1 ∧ (zk M a1 = 15 ∧ vp_in x2 (zl M a1) ∧ ∃ a2, zR M a1 x2.toNatClampNeg = some a2 ∧ zk M a2 = 14 ∧ (∃ n14, l_X8_isIn_14 P (fun M6 => ((1 : Int32) = 0 ∨ (1 : Int32) = 1) ∧ P (1 : Int32) M6) (fun M7 => ((0 : Int32) = 0 ∨ (0 : Int32) = 1) ∧ P (0 : Int32) M7) n14 M x1 a2 (nI (zl M a2)) (0 : Int32))))
set_option maxHeartbeats 4000000 in
set_option maxRecDepth 100000 in
theorem c_X8_isIn (l : Launch) (E : EV) (M : Mm) (x0 : Nat) (x1 : Int32) (x2 : Int32) (P : Int32 → Mm → Prop) (h : w_X8_isIn M x0 x1 x2 P) : CtI l E yX8_isIn cX8_isIn 8 .boolean rm_X8_isIn 0 0 [.ref x0, .int x1, .int x2] M P := by
  refine ctI_of (by decide +kernel) (Nat.le_of_ble_eq_true rfl) ?_
  intro p e s m args below meth c C
  rw [w_X8_isIn] at h
  show J p l e rm_X8_isIn s m args below meth c (QI below E P args s 0 0) E 8 M 0 0 0 [(0, .ref x0), (1, .int x1), (2, .int x2)] []
  refine j_aload_n (pc := 0) C 0 dX8_isIn_0 rfl ?_
  refine gf_X8_37 (pc := 1) C dX8_isIn_1 h (fun a1 h => ?_)
  refine j_iload_n (pc := 4) C 2 dX8_isIn_4 rfl ?_
  refine j_aals (pc := 5) C (by decide) dX8_isIn_5 h (fun a2 h => ?_)
  refine j_astore_n (pc := 6) C [(3, _), (0, _), (1, _), (2, _)] dX8_isIn_6 (by decide) rfl ?_
  refine j_aload_n (pc := 7) C 0 dX8_isIn_7 rfl ?_
  refine j_alenA (pc := 8) (k := 14) C (by decide) dX8_isIn_8 h (fun h => ?_)
  refine j_istore (pc := 9) C [(4, _), (3, _), (0, _), (1, _), (2, _)] dX8_isIn_9 (by decide) rfl ?_
  refine j_iconst (pc := 11) (v := (0 : Int32)) C dX8_isIn_11 rfl ?_
  refine j_istore (pc := 12) C [(5, _), (4, _), (3, _), (0, _), (1, _), (2, _)] dX8_isIn_12 (by decide) rfl ?_
  obtain ⟨n14, h⟩ := h
  refine j_weak [4, 2, 1, 0] rfl (jl_X8_isIn_14 C ⟨Nat.le_of_ble_eq_true rfl, Nat.le_of_ble_eq_true rfl⟩ (fun M6 h => ?_) (fun M7 h => ?_) n14 _ _ _ _ _ h)
  · refine j_iconst (pc := 52) (v := (1 : Int32)) C dX8_isIn_52 rfl ?_
    exact j_zret (pc := 53) C dX8_isIn_53 (Nat.le_of_ble_eq_true rfl) (Nat.le_of_ble_eq_true rfl) h
  · refine j_iconst (pc := 66) (v := (0 : Int32)) C dX8_isIn_66 rfl ?_
    exact j_zret (pc := 67) C dX8_isIn_67 (Nat.le_of_ble_eq_true rfl) (Nat.le_of_ble_eq_true rfl) h
theorem c2_X8_45 (C : Cx p l s m args meth c cc nL RX8 ret E) {b : Nat} {y0 : Int32} {y1 : Int32} {P : Int32 → Mm → Prop} (hR : rm_X8_isIn.frames + 1 ≤ R.frames ∧ 8 + (8 + 11) + rm_X8_isIn.locals ≤ R.locals) (hf : kc ≤ R.cells ∧ ks ≤ R.slots) (hst : (st.map fun v => v.category).sum ≤ 8) (d : decode cc pc = .ok (.invokevirtual 45, 3)) (h : zk M b = 8 ∧ w_X8_isIn M b y0 y1 P) (kk : ∀ r M', P r M' → J p l e R s m args below meth c Q E nL M' kc ks (pc + 3) lo (.int r :: st)) : J p l e R s m args below meth c Q E nL M kc ks pc lo (.int y1 :: .int y0 :: .ref b :: st) :=
  j_cV_I (n := 2) (As := [.int y0, .int y1]) C co_X8 rfl wd_1080 wd_1081 h.1 (c_X8_isIn l E M b y0 y1 P h.2) ⟨wd_1082, wd_1079, wd_49, by decide +kernel, by decide +kernel, by decide +kernel⟩ rfl rfl hR hf rfl hst d kk
abbrev rm_X8_isFree : Room := { frames := 1, cells := 0, slots := 0, locals := 27 }
def l_X8_isFree_21 (P : Int32 → Mm → Prop) (K59 : Mm → Prop) (K67 : Mm → Prop) : Nat → Mm → Nat → Int32 → Int32 → Int32 → Int32 → Prop
  | 0, _, _, _, _, _, _ => False
  | n + 1, M, x0, x1, x2, x3, x4 => zk M x0 = 8 ∧ (if (zI M x0 6) ≤ x4 then K67 M else (if x4 = x3 then l_X8_isFree_21 P K59 K67 n M x0 x1 x2 x3 (x4 + (1 : Int32)) else (zk M x0 = 8 ∧ ∃ a3, zR M x0 14 = some a3 ∧ (zk M a3 = 14 ∧ vp_in x4 (zl M a3) ∧ ∃ a4, zR M a3 x4.toNatClampNeg = some a4 ∧ zk M a4 = 10 ∧ vp_in (0 : Int32) (zl M a4) ∧ (if (zI M a4 (0 : Int32).toNatClampNeg) = x2 then zk M x0 = 8 ∧ w_X8_isIn M x0 x1 x4 (fun r5 M5 => (if r5 = 0 then l_X8_isFree_21 P K59 K67 n M5 x0 x1 x2 x3 (x4 + (1 : Int32)) else K59 M5)) else l_X8_isFree_21 P K59 K67 n M x0 x1 x2 x3 (x4 + (1 : Int32)))))))
set_option maxHeartbeats 4000000 in
set_option maxRecDepth 100000 in
theorem jl_X8_isFree_21 {P : Int32 → Mm → Prop} {K59 : Mm → Prop} {K67 : Mm → Prop} (C : Cx p l s m args meth c cX8_isFree 5 RX8 (some .boolean) E) (hkc : kc ≤ rm_X8_isFree.cells ∧ ks ≤ rm_X8_isFree.slots) (k59 : ∀ M, K59 M → J p l e rm_X8_isFree s m args below meth c (QI below E P args s rm_X8_isFree.cells rm_X8_isFree.slots) E 5 M kc ks 59 [] []) (k67 : ∀ M, K67 M → J p l e rm_X8_isFree s m args below meth c (QI below E P args s rm_X8_isFree.cells rm_X8_isFree.slots) E 5 M kc ks 67 [] []) : ∀ n M x0 x1 x2 x3 x4, l_X8_isFree_21 P K59 K67 n M x0 x1 x2 x3 x4 → J p l e rm_X8_isFree s m args below meth c (QI below E P args s rm_X8_isFree.cells rm_X8_isFree.slots) E 5 M kc ks 21 [(0, .ref x0), (1, .int x1), (2, .int x2), (3, .int x3), (4, .int x4)] [] := by
  intro n
  induction n with
  | zero => intro M x0 x1 x2 x3 x4 h; exact h.elim
  | succ n ih =>
    intro M x0 x1 x2 x3 x4 h
    rw [l_X8_isFree_21] at h
    refine j_iload (pc := 21) C 4 dX8_isFree_21 rfl ?_
    refine j_aload_n (pc := 23) C 0 dX8_isFree_23 rfl ?_
    refine gf_X8_41 (pc := 24) C dX8_isFree_24 h (fun h => ?_)
    refine j_icmp_ge (pc := 27) C 67 dX8_isFree_27 (by decide) h (fun h => ?_) (fun h => ?_)
    · exact j_weak [] rfl (k67 _ h)
    · refine j_iload (pc := 30) C 4 dX8_isFree_30 rfl ?_
      refine j_iload_n (pc := 32) C 3 dX8_isFree_32 rfl ?_
      refine j_icmp_eq (pc := 33) C 61 dX8_isFree_33 (by decide) h (fun h => ?_) (fun h => ?_)
      · refine j_iinc (pc := 61) (v := (1 : Int32)) C 4 [(4, _), (0, _), (1, _), (2, _), (3, _)] dX8_isFree_61 rfl rfl (by decide) rfl ?_
        refine j_goto (pc := 64) C 21 dX8_isFree_64 (by decide) ?_
        exact j_weak [1, 2, 3, 4, 0] rfl (ih _ _ _ _ _ _ h)
      · refine j_aload_n (pc := 36) C 0 dX8_isFree_36 rfl ?_
        refine gf_X8_33 (pc := 37) C dX8_isFree_37 h (fun a3 h => ?_)
        refine j_iload (pc := 40) C 4 dX8_isFree_40 rfl ?_
        refine j_aals (pc := 42) C (by decide) dX8_isFree_42 h (fun a4 h => ?_)
        refine j_iconst (pc := 43) (v := (0 : Int32)) C dX8_isFree_43 rfl ?_
        refine j_iald (pc := 44) C dX8_isFree_44 h (fun h => ?_)
        refine j_iload_n (pc := 45) C 2 dX8_isFree_45 rfl ?_
        refine j_icmp_ne (pc := 46) C 61 dX8_isFree_46 (by decide) h (fun h => ?_) (fun h => ?_)
        · refine j_iinc (pc := 61) (v := (1 : Int32)) C 4 [(4, _), (0, _), (1, _), (2, _), (3, _)] dX8_isFree_61 rfl rfl (by decide) rfl ?_
          refine j_goto (pc := 64) C 21 dX8_isFree_64 (by decide) ?_
          exact j_weak [1, 2, 3, 4, 0] rfl (ih _ _ _ _ _ _ h)
        · refine j_aload_n (pc := 49) C 0 dX8_isFree_49 rfl ?_
          refine j_iload_n (pc := 50) C 1 dX8_isFree_50 rfl ?_
          refine j_iload (pc := 51) C 4 dX8_isFree_51 rfl ?_
          refine c2_X8_45 (pc := 53) C ⟨(Nat.le_of_ble_eq_true rfl), (Nat.le_of_ble_eq_true rfl)⟩ hkc (Nat.le_of_ble_eq_true rfl) dX8_isFree_53 h (fun r5 M5 h => ?_)
          refine j_if_eq (pc := 56) C 61 dX8_isFree_56 (by decide) h (fun h => ?_) (fun h => ?_)
          · refine j_iinc (pc := 61) (v := (1 : Int32)) C 4 [(4, _), (0, _), (1, _), (2, _), (3, _)] dX8_isFree_61 rfl rfl (by decide) rfl ?_
            refine j_goto (pc := 64) C 21 dX8_isFree_64 (by decide) ?_
            exact j_weak [1, 2, 3, 4, 0] rfl (ih _ _ _ _ _ _ h)
          · exact j_weak [] rfl (k59 _ h)
def w_X8_isFree (M : Mm) (x0 : Nat) (x1 : Int32) (x2 : Int32) (x3 : Int32) (P : Int32 → Mm → Prop) : Prop := (zk M x0 = 8 ∧ ∃ a1, zR M x0 10 = some a1 ∧ zk M a1 = 10 ∧ vp_in x1 (zl M a1) ∧ ¬ (3 : Int32) = 0 ∧ (if (((zI M a1 x1.toNatClampNeg) >>> ((x2 / (3 : Int32)) &&& 31)) &&& (1 : Int32)) = (1 : Int32) then ((0 : Int32) = 0 ∨ (0 : Int32) = 1) ∧ P (0 : Int32) M else (∃ n21, l_X8_isFree_21 P (fun M6 => ((0 : Int32) = 0 ∨ (0 : Int32) = 1) ∧ P (0 : Int32) M6) (fun M7 => ((1 : Int32) = 0 ∨ (1 : Int32) = 1) ∧ P (1 : Int32) M7) n21 M x0 x1 x2 x3 (0 : Int32))))
set_option maxHeartbeats 4000000 in
set_option maxRecDepth 100000 in
theorem c_X8_isFree (l : Launch) (E : EV) (M : Mm) (x0 : Nat) (x1 : Int32) (x2 : Int32) (x3 : Int32) (P : Int32 → Mm → Prop) (h : w_X8_isFree M x0 x1 x2 x3 P) : CtI l E yX8_isFree cX8_isFree 5 .boolean rm_X8_isFree 0 0 [.ref x0, .int x1, .int x2, .int x3] M P := by
  refine ctI_of (by decide +kernel) (Nat.le_of_ble_eq_true rfl) ?_
  intro p e s m args below meth c C
  rw [w_X8_isFree] at h
  show J p l e rm_X8_isFree s m args below meth c (QI below E P args s 0 0) E 5 M 0 0 0 [(0, .ref x0), (1, .int x1), (2, .int x2), (3, .int x3)] []
  refine j_aload_n (pc := 0) C 0 dX8_isFree_0 rfl ?_
  refine gf_X8_19 (pc := 1) C dX8_isFree_1 h (fun a1 h => ?_)
  refine j_iload_n (pc := 4) C 1 dX8_isFree_4 rfl ?_
  refine j_iald (pc := 5) C dX8_isFree_5 h (fun h => ?_)
  refine j_iload_n (pc := 6) C 2 dX8_isFree_6 rfl ?_
  refine j_iconst (pc := 7) (v := (3 : Int32)) C dX8_isFree_7 rfl ?_
  refine j_idiv (pc := 8) C dX8_isFree_8 h (fun h => ?_)
  refine j_ishr (pc := 9) C dX8_isFree_9 ?_
  refine j_iconst (pc := 10) (v := (1 : Int32)) C dX8_isFree_10 rfl ?_
  refine j_iand (pc := 11) C dX8_isFree_11 ?_
  refine j_iconst (pc := 12) (v := (1 : Int32)) C dX8_isFree_12 rfl ?_
  refine j_icmp_ne (pc := 13) C 18 dX8_isFree_13 (by decide) h (fun h => ?_) (fun h => ?_)
  · refine j_iconst (pc := 18) (v := (0 : Int32)) C dX8_isFree_18 rfl ?_
    refine j_istore (pc := 19) C [(4, _), (0, _), (1, _), (2, _), (3, _)] dX8_isFree_19 (by decide) rfl ?_
    obtain ⟨n21, h⟩ := h
    refine j_weak [1, 2, 3, 4, 0] rfl (jl_X8_isFree_21 C ⟨Nat.le_of_ble_eq_true rfl, Nat.le_of_ble_eq_true rfl⟩ (fun M6 h => ?_) (fun M7 h => ?_) n21 _ _ _ _ _ _ h)
    · refine j_iconst (pc := 59) (v := (0 : Int32)) C dX8_isFree_59 rfl ?_
      exact j_zret (pc := 60) C dX8_isFree_60 (Nat.le_of_ble_eq_true rfl) (Nat.le_of_ble_eq_true rfl) h
    · refine j_iconst (pc := 67) (v := (1 : Int32)) C dX8_isFree_67 rfl ?_
      exact j_zret (pc := 68) C dX8_isFree_68 (Nat.le_of_ble_eq_true rfl) (Nat.le_of_ble_eq_true rfl) h
  · refine j_iconst (pc := 16) (v := (0 : Int32)) C dX8_isFree_16 rfl ?_
    exact j_zret (pc := 17) C dX8_isFree_17 (Nat.le_of_ble_eq_true rfl) (Nat.le_of_ble_eq_true rfl) h
abbrev rm_X8_doublings : Room := { frames := 0, cells := 0, slots := 0, locals := 0 }
def l_X8_doublings_5 (P : Int32 → Mm → Prop) (K44 : Mm → Int32 → Prop) : Nat → Mm → Nat → Int32 → Nat → Int32 → Int32 → Prop
  | 0, _, _, _, _, _, _ => False
  | n + 1, M, x0, x1, x2, x3, x4 => zk M x2 = 10 ∧ (if (nI (zl M x2)) ≤ x4 then K44 M x3 else (zk M x0 = 8 ∧ ∃ a1, zR M x0 11 = some a1 ∧ zk M x2 = 10 ∧ vp_in x4 (zl M x2) ∧ (zk M a1 = 14 ∧ vp_in (zI M x2 x4.toNatClampNeg) (zl M a1) ∧ ∃ a2, zR M a1 (zI M x2 x4.toNatClampNeg).toNatClampNeg = some a2 ∧ zk M a2 = 10 ∧ vp_in (0 : Int32) (zl M a2) ∧ (zk M x0 = 8 ∧ ∃ a3, zR M x0 13 = some a3 ∧ (zk M a3 = 14 ∧ vp_in x1 (zl M a3) ∧ ∃ a4, zR M a3 x1.toNatClampNeg = some a4 ∧ zk M a4 = 10 ∧ vp_in x4 (zl M a4) ∧ (if (zI M a2 (0 : Int32).toNatClampNeg) = (zI M a4 x4.toNatClampNeg) then l_X8_doublings_5 P K44 n M x0 x1 x2 x3 (x4 + (1 : Int32)) else l_X8_doublings_5 P K44 n M x0 x1 x2 (x3 + (1 : Int32)) (x4 + (1 : Int32))))))))
set_option maxHeartbeats 4000000 in
set_option maxRecDepth 100000 in
theorem jl_X8_doublings_5 {P : Int32 → Mm → Prop} {K44 : Mm → Int32 → Prop} (C : Cx p l s m args meth c cX8_doublings 5 RX8 (some .int) E) (hkc : kc ≤ rm_X8_doublings.cells ∧ ks ≤ rm_X8_doublings.slots) (k44 : ∀ M x3, K44 M x3 → J p l e rm_X8_doublings s m args below meth c (QI below E P args s rm_X8_doublings.cells rm_X8_doublings.slots) E 5 M kc ks 44 [(3, .int x3)] []) : ∀ n M x0 x1 x2 x3 x4, l_X8_doublings_5 P K44 n M x0 x1 x2 x3 x4 → J p l e rm_X8_doublings s m args below meth c (QI below E P args s rm_X8_doublings.cells rm_X8_doublings.slots) E 5 M kc ks 5 [(0, .ref x0), (1, .int x1), (2, .ref x2), (3, .int x3), (4, .int x4)] [] := by
  intro n
  induction n with
  | zero => intro M x0 x1 x2 x3 x4 h; exact h.elim
  | succ n ih =>
    intro M x0 x1 x2 x3 x4 h
    rw [l_X8_doublings_5] at h
    refine j_iload (pc := 5) C 4 dX8_doublings_5 rfl ?_
    refine j_aload_n (pc := 7) C 2 dX8_doublings_7 rfl ?_
    refine j_alen (pc := 8) (k := 10) C (by decide) dX8_doublings_8 h (fun h => ?_)
    refine j_icmp_ge (pc := 9) C 44 dX8_doublings_9 (by decide) h (fun h => ?_) (fun h => ?_)
    · exact j_weak [3] rfl (k44 _ _ h)
    · refine j_aload_n (pc := 12) C 0 dX8_doublings_12 rfl ?_
      refine gf_X8_23 (pc := 13) C dX8_doublings_13 h (fun a1 h => ?_)
      refine j_aload_n (pc := 16) C 2 dX8_doublings_16 rfl ?_
      refine j_iload (pc := 17) C 4 dX8_doublings_17 rfl ?_
      refine j_iald (pc := 19) C dX8_doublings_19 h (fun h => ?_)
      refine j_aals (pc := 20) C (by decide) dX8_doublings_20 h (fun a2 h => ?_)
      refine j_iconst (pc := 21) (v := (0 : Int32)) C dX8_doublings_21 rfl ?_
      refine j_iald (pc := 22) C dX8_doublings_22 h (fun h => ?_)
      refine j_aload_n (pc := 23) C 0 dX8_doublings_23 rfl ?_
      refine gf_X8_30 (pc := 24) C dX8_doublings_24 h (fun a3 h => ?_)
      refine j_iload_n (pc := 27) C 1 dX8_doublings_27 rfl ?_
      refine j_aals (pc := 28) C (by decide) dX8_doublings_28 h (fun a4 h => ?_)
      refine j_iload (pc := 29) C 4 dX8_doublings_29 rfl ?_
      refine j_iald (pc := 31) C dX8_doublings_31 h (fun h => ?_)
      refine j_icmp_eq (pc := 32) C 38 dX8_doublings_32 (by decide) h (fun h => ?_) (fun h => ?_)
      · refine j_iinc (pc := 38) (v := (1 : Int32)) C 4 [(4, _), (0, _), (1, _), (2, _), (3, _)] dX8_doublings_38 rfl rfl (by decide) rfl ?_
        refine j_goto (pc := 41) C 5 dX8_doublings_41 (by decide) ?_
        exact j_weak [1, 2, 3, 4, 0] rfl (ih _ _ _ _ _ _ h)
      · refine j_iinc (pc := 35) (v := (1 : Int32)) C 3 [(3, _), (0, _), (1, _), (2, _), (4, _)] dX8_doublings_35 rfl rfl (by decide) rfl ?_
        refine j_iinc (pc := 38) (v := (1 : Int32)) C 4 [(4, _), (3, _), (0, _), (1, _), (2, _)] dX8_doublings_38 rfl rfl (by decide) rfl ?_
        refine j_goto (pc := 41) C 5 dX8_doublings_41 (by decide) ?_
        exact j_weak [2, 3, 4, 1, 0] rfl (ih _ _ _ _ _ _ h)
def w_X8_doublings (M : Mm) (x0 : Nat) (x1 : Int32) (x2 : Nat) (P : Int32 → Mm → Prop) : Prop := (∃ n5, l_X8_doublings_5 P (fun M5 x3_5 => P x3_5 M5) n5 M x0 x1 x2 (0 : Int32) (0 : Int32))
set_option maxHeartbeats 4000000 in
set_option maxRecDepth 100000 in
theorem c_X8_doublings (l : Launch) (E : EV) (M : Mm) (x0 : Nat) (x1 : Int32) (x2 : Nat) (P : Int32 → Mm → Prop) (h : w_X8_doublings M x0 x1 x2 P) : CtI l E yX8_doublings cX8_doublings 5 .int rm_X8_doublings 0 0 [.ref x0, .int x1, .ref x2] M P := by
  refine ctI_of (by decide +kernel) (Nat.le_of_ble_eq_true rfl) ?_
  intro p e s m args below meth c C
  rw [w_X8_doublings] at h
  show J p l e rm_X8_doublings s m args below meth c (QI below E P args s 0 0) E 5 M 0 0 0 [(0, .ref x0), (1, .int x1), (2, .ref x2)] []
  refine j_iconst (pc := 0) (v := (0 : Int32)) C dX8_doublings_0 rfl ?_
  refine j_istore_n (pc := 1) C [(3, _), (0, _), (1, _), (2, _)] dX8_doublings_1 (by decide) rfl ?_
  refine j_iconst (pc := 2) (v := (0 : Int32)) C dX8_doublings_2 rfl ?_
  refine j_istore (pc := 3) C [(4, _), (3, _), (0, _), (1, _), (2, _)] dX8_doublings_3 (by decide) rfl ?_
  obtain ⟨n5, h⟩ := h
  refine j_weak [2, 3, 4, 1, 0] rfl (jl_X8_doublings_5 C ⟨Nat.le_of_ble_eq_true rfl, Nat.le_of_ble_eq_true rfl⟩ (fun M5 x3_5 h => ?_) n5 _ _ _ _ _ _ h)
  · refine j_iload_n (pc := 44) C 0 dX8_doublings_44 rfl ?_
    exact j_iret (pc := 45) C dX8_doublings_45 (Nat.le_of_ble_eq_true rfl) (Nat.le_of_ble_eq_true rfl) h
theorem c2_X8_49 (C : Cx p l s m args meth c cc nL RX8 ret E) {b : Nat} {y0 : Int32} {y1 : Nat} {P : Int32 → Mm → Prop} (hR : rm_X8_doublings.frames + 1 ≤ R.frames ∧ 8 + (5 + 11) + rm_X8_doublings.locals ≤ R.locals) (hf : kc ≤ R.cells ∧ ks ≤ R.slots) (hst : (st.map fun v => v.category).sum ≤ 8) (d : decode cc pc = .ok (.invokevirtual 49, 3)) (h : zk M b = 8 ∧ w_X8_doublings M b y0 y1 P) (kk : ∀ r M', P r M' → J p l e R s m args below meth c Q E nL M' kc ks (pc + 3) lo (.int r :: st)) : J p l e R s m args below meth c Q E nL M kc ks pc lo (.ref y1 :: .int y0 :: .ref b :: st) :=
  j_cV_I (n := 2) (As := [.int y0, .ref y1]) C co_X8 rfl wd_1064 wd_1065 h.1 (c_X8_doublings l E M b y0 y1 P h.2) ⟨wd_1066, wd_1063, wd_49, by decide +kernel, by decide +kernel, by decide +kernel⟩ rfl rfl hR hf rfl hst d kk
theorem c2_X8_66 (C : Cx p l s m args meth c cc nL RX8 ret E) {b : Nat} {y0 : Int32} {y1 : Int32} {P : Int32 → Mm → Prop} (hR : rm_X8_plays.frames + 1 ≤ R.frames ∧ 8 + (7 + 11) + rm_X8_plays.locals ≤ R.locals) (hf : kc ≤ R.cells ∧ ks ≤ R.slots) (hst : (st.map fun v => v.category).sum ≤ 8) (d : decode cc pc = .ok (.invokevirtual 66, 3)) (h : zk M b = 8 ∧ w_X8_plays M b y0 y1 P) (kk : ∀ r M', P r M' → J p l e R s m args below meth c Q E nL M' kc ks (pc + 3) lo (.int r :: st)) : J p l e R s m args below meth c Q E nL M kc ks pc lo (.int y1 :: .int y0 :: .ref b :: st) :=
  j_cV_I (n := 2) (As := [.int y0, .int y1]) C co_X8 rfl wd_1072 wd_1073 h.1 (c_X8_plays l E M b y0 y1 P h.2) ⟨wd_1074, wd_1071, wd_49, by decide +kernel, by decide +kernel, by decide +kernel⟩ rfl rfl hR hf rfl hst d kk
theorem c2_X8_69 (C : Cx p l s m args meth c cc nL RX8 ret E) {b : Nat} {y0 : Int32} {y1 : Int32} {y2 : Int32} {P : Int32 → Mm → Prop} (hR : rm_X8_isFree.frames + 1 ≤ R.frames ∧ 8 + (5 + 11) + rm_X8_isFree.locals ≤ R.locals) (hf : kc ≤ R.cells ∧ ks ≤ R.slots) (hst : (st.map fun v => v.category).sum ≤ 8) (d : decode cc pc = .ok (.invokevirtual 69, 3)) (h : zk M b = 8 ∧ w_X8_isFree M b y0 y1 y2 P) (kk : ∀ r M', P r M' → J p l e R s m args below meth c Q E nL M' kc ks (pc + 3) lo (.int r :: st)) : J p l e R s m args below meth c Q E nL M kc ks pc lo (.int y2 :: .int y1 :: .int y0 :: .ref b :: st) :=
  j_cV_I (n := 3) (As := [.int y0, .int y1, .int y2]) C co_X8 rfl wd_1076 wd_1077 h.1 (c_X8_isFree l E M b y0 y1 y2 P h.2) ⟨wd_1078, wd_1075, wd_49, by decide +kernel, by decide +kernel, by decide +kernel⟩ rfl rfl hR hf rfl hst d kk
abbrev rmT_X8_all (d B S : Nat) : Room := { frames := 2 + d, cells := B, slots := S, locals := 51 + d * 28 }
theorem cr_X8_73 {d B S : Nat} {T : Mm → Nat → Int32 → Int32 → Int32 → Nat → Int32 → (Mm → Prop) → Nat → Nat → Prop} (C : Cx p l s m args meth c cc nL RX8 ret E) (hT : ∀ (M : Mm) (y0 : Nat) (y1 : Int32) (y2 : Int32) (y3 : Int32) (y4 : Nat) (y5 : Int32) (P : Mm → Prop) (b s : Nat), T M y0 y1 y2 y3 y4 y5 P b s → CtV l E yX8_all cX8_all 9 (rmT_X8_all d b s) b s [.ref y0, .int y1, .int y2, .int y3, .ref y4, .int y5] M P) {y0 : Nat} {y1 : Int32} {y2 : Int32} {y3 : Int32} {y4 : Nat} {y5 : Int32} {P : Mm → Prop} {b1 s1 : Nat} (hf : kc + b1 ≤ B ∧ ks + s1 ≤ S) (hst : (st.map fun v => v.category).sum ≤ 8) (d0 : decode cc pc = .ok (.invokevirtual 73, 3)) (h : zk M y0 = 8 ∧ T M y0 y1 y2 y3 y4 y5 P b1 s1) (kk : ∀ M', P M' → J p l e (rmT_X8_all (d + 1) B S) s m args below meth c Q E nL M' (kc + b1) (ks + s1) (pc + 3) lo st) : J p l e (rmT_X8_all (d + 1) B S) s m args below meth c Q E nL M kc ks pc lo (.int y5 :: .ref y4 :: .int y3 :: .int y2 :: .int y1 :: .ref y0 :: st) :=
  j_cV_V (n := 5) (As := [.int y1, .int y2, .int y3, .ref y4, .int y5]) C co_X8 rfl wd_1061 wd_24 h.1 (hT _ _ _ _ _ _ _ _ _ _ h.2) ⟨wd_1062, wd_1059, wd_49, by decide +kernel, by decide +kernel, by decide +kernel⟩ rfl rfl ⟨show 2 + d + 1 ≤ 2 + (d + 1) by omega, show 8 + (9 + 11) + (51 + d * 28) ≤ 51 + (d + 1) * 28 by omega⟩ hf rfl hst d0 kk
def l_X8_all_105 (T : Mm → Nat → Int32 → Int32 → Int32 → Nat → Int32 → (Mm → Prop) → Nat → Nat → Prop) (B S : Nat) (P : Mm → Prop) (K140 : Mm → Nat → Nat → Nat → Int32 → Int32 → Int32 → Nat → Int32 → Int32 → Int32 → Prop) : Nat → Mm → Nat → Nat → Nat → Int32 → Int32 → Int32 → Nat → Int32 → Int32 → Int32 → Int32 → Prop
  | 0, _, _, _, _, _, _, _, _, _, _, _, _ => False
  | n + 1, M, b, s, x0, x1, x2, x3, x4, x5, x6, x7, x8 => (if x5 ≤ x8 then K140 M b s x0 x1 x2 x3 x4 x5 x6 x7 else (if x7 = 0 then l_X8_all_105 T B S P K140 n M b s x0 x1 x2 x3 x4 x5 x6 (0 : Int32) (x8 + (1 : Int32)) else zk M x4 = 10 ∧ vp_in x8 (zl M x4) ∧ (if (zI M x4 x8.toNatClampNeg) = x6 then l_X8_all_105 T B S P K140 n M b s x0 x1 x2 x3 x4 x5 x6 (0 : Int32) (x8 + (1 : Int32)) else l_X8_all_105 T B S P K140 n M b s x0 x1 x2 x3 x4 x5 x6 (1 : Int32) (x8 + (1 : Int32)))))
set_option maxHeartbeats 4000000 in
set_option maxRecDepth 100000 in
theorem jl_X8_all_105 {s0 : State} {d : Nat} {T : Mm → Nat → Int32 → Int32 → Int32 → Nat → Int32 → (Mm → Prop) → Nat → Nat → Prop} {B S : Nat} {P : Mm → Prop} {K140 : Mm → Nat → Nat → Nat → Int32 → Int32 → Int32 → Nat → Int32 → Int32 → Int32 → Prop} (C : Cx p l s0 m args meth c cX8_all 9 RX8 none E) (hT : ∀ (M : Mm) (y0 : Nat) (y1 : Int32) (y2 : Int32) (y3 : Int32) (y4 : Nat) (y5 : Int32) (P : Mm → Prop) (b s : Nat), T M y0 y1 y2 y3 y4 y5 P b s → CtV l E yX8_all cX8_all 9 (rmT_X8_all d b s) b s [.ref y0, .int y1, .int y2, .int y3, .ref y4, .int y5] M P) (k140 : ∀ M b s x0 x1 x2 x3 x4 x5 x6 x7, b ≤ B → s ≤ S → K140 M b s x0 x1 x2 x3 x4 x5 x6 x7 → J p l e (rmT_X8_all (d + 1) B S) s0 m args below meth c (QV below E P args s0 B S) E 9 M b s 140 [(0, .ref x0), (1, .int x1), (2, .int x2), (3, .int x3), (4, .ref x4), (5, .int x5), (6, .int x6), (7, .int x7)] []) : ∀ n M b s x0 x1 x2 x3 x4 x5 x6 x7 x8, b ≤ B → s ≤ S → l_X8_all_105 T B S P K140 n M b s x0 x1 x2 x3 x4 x5 x6 x7 x8 → J p l e (rmT_X8_all (d + 1) B S) s0 m args below meth c (QV below E P args s0 B S) E 9 M b s 105 [(0, .ref x0), (1, .int x1), (2, .int x2), (3, .int x3), (4, .ref x4), (5, .int x5), (6, .int x6), (7, .int x7), (8, .int x8)] [] := by
  intro n
  induction n with
  | zero => intro M b s x0 x1 x2 x3 x4 x5 x6 x7 x8 hb hs h; exact h.elim
  | succ n ih =>
    intro M b s x0 x1 x2 x3 x4 x5 x6 x7 x8 hb hs h
    rw [l_X8_all_105] at h
    refine j_iload (pc := 105) C 8 dX8_all_105 rfl ?_
    refine j_iload (pc := 107) C 5 dX8_all_107 rfl ?_
    refine j_icmp_ge (pc := 109) C 140 dX8_all_109 (by decide) h (fun h => ?_) (fun h => ?_)
    · exact j_weak [0, 1, 2, 3, 4, 5, 6, 7] rfl (k140 _ _ _ _ _ _ _ _ _ _ _ hb hs h)
    · refine j_iload (pc := 112) C 7 dX8_all_112 rfl ?_
      refine j_if_eq (pc := 114) C 131 dX8_all_114 (by decide) h (fun h => ?_) (fun h => ?_)
      · refine j_iconst (pc := 131) (v := (0 : Int32)) C dX8_all_131 rfl ?_
        refine j_istore (pc := 132) C [(7, _), (0, _), (1, _), (2, _), (3, _), (4, _), (5, _), (6, _), (8, _)] dX8_all_132 (by decide) rfl ?_
        refine j_iinc (pc := 134) (v := (1 : Int32)) C 8 [(8, _), (7, _), (0, _), (1, _), (2, _), (3, _), (4, _), (5, _), (6, _)] dX8_all_134 rfl rfl (by decide) rfl ?_
        refine j_goto (pc := 137) C 105 dX8_all_137 (by decide) ?_
        exact j_weak [2, 3, 4, 5, 6, 7, 8, 1, 0] rfl (ih _ _ _ _ _ _ _ _ _ _ _ _ hb hs h)
      · refine j_aload (pc := 117) C 4 dX8_all_117 rfl ?_
        refine j_iload (pc := 119) C 8 dX8_all_119 rfl ?_
        refine j_iald (pc := 121) C dX8_all_121 h (fun h => ?_)
        refine j_iload (pc := 122) C 6 dX8_all_122 rfl ?_
        refine j_icmp_eq (pc := 124) C 131 dX8_all_124 (by decide) h (fun h => ?_) (fun h => ?_)
        · refine j_iconst (pc := 131) (v := (0 : Int32)) C dX8_all_131 rfl ?_
          refine j_istore (pc := 132) C [(7, _), (0, _), (1, _), (2, _), (3, _), (4, _), (5, _), (6, _), (8, _)] dX8_all_132 (by decide) rfl ?_
          refine j_iinc (pc := 134) (v := (1 : Int32)) C 8 [(8, _), (7, _), (0, _), (1, _), (2, _), (3, _), (4, _), (5, _), (6, _)] dX8_all_134 rfl rfl (by decide) rfl ?_
          refine j_goto (pc := 137) C 105 dX8_all_137 (by decide) ?_
          exact j_weak [2, 3, 4, 5, 6, 7, 8, 1, 0] rfl (ih _ _ _ _ _ _ _ _ _ _ _ _ hb hs h)
        · refine j_iconst (pc := 127) (v := (1 : Int32)) C dX8_all_127 rfl ?_
          refine j_goto (pc := 128) C 132 dX8_all_128 (by decide) ?_
          refine j_istore (pc := 132) C [(7, _), (0, _), (1, _), (2, _), (3, _), (4, _), (5, _), (6, _), (8, _)] dX8_all_132 (by decide) rfl ?_
          refine j_iinc (pc := 134) (v := (1 : Int32)) C 8 [(8, _), (7, _), (0, _), (1, _), (2, _), (3, _), (4, _), (5, _), (6, _)] dX8_all_134 rfl rfl (by decide) rfl ?_
          refine j_goto (pc := 137) C 105 dX8_all_137 (by decide) ?_
          exact j_weak [2, 3, 4, 5, 6, 7, 8, 1, 0] rfl (ih _ _ _ _ _ _ _ _ _ _ _ _ hb hs h)
def l_X8_all_61 (T : Mm → Nat → Int32 → Int32 → Int32 → Nat → Int32 → (Mm → Prop) → Nat → Nat → Prop) (B S : Nat) (P : Mm → Prop) (K174 : Mm → Nat → Nat → Prop) : Nat → Mm → Nat → Nat → Nat → Int32 → Int32 → Int32 → Nat → Int32 → Int32 → Prop
  | 0, _, _, _, _, _, _, _, _, _, _ => False
  | n + 1, M, b, s, x0, x1, x2, x3, x4, x5, x6 => (if x6 < 0 then K174 M b s else (zk M x0 = 8 ∧ ∃ a2, zR M x0 13 = some a2 ∧ (zk M a2 = 14 ∧ vp_in x1 (zl M a2) ∧ ∃ a3, zR M a2 x1.toNatClampNeg = some a3 ∧ zk M a3 = 10 ∧ vp_in x5 (zl M a3) ∧ zk M x0 = 8 ∧ w_X8_plays M x0 x6 (zI M a3 x5.toNatClampNeg) (fun r4 M4 => (if r4 = 0 then (∃ n105, l_X8_all_105 T B S P (fun M5 b5 s5 x0_5 x1_5 x2_5 x3_5 x4_5 x5_5 x6_5 x7_5 => (if x7_5 = 0 then l_X8_all_61 T B S P K174 n M5 b5 s5 x0_5 x1_5 x2_5 x3_5 x4_5 x5_5 (x6_5 + (-1 : Int32)) else zk M5 x4_5 = 10 ∧ vp_in x5_5 (zl M5 x4_5) ∧ (∀ M6, M6 = sI M5 x4_5 x5_5.toNatClampNeg x6_5 → ∃ b7 s7, b5 + b7 ≤ B ∧ s5 + s7 ≤ S ∧ zk M6 x0_5 = 8 ∧ T M6 x0_5 x1_5 x2_5 x3_5 x4_5 (x5_5 + (1 : Int32)) (fun M7 => l_X8_all_61 T B S P K174 n M7 (b5 + b7) (s5 + s7) x0_5 x1_5 x2_5 x3_5 x4_5 x5_5 (x6_5 + (-1 : Int32))) b7 s7))) n105 M4 b s x0 x1 x2 x3 x4 x5 x6 (0 : Int32) (0 : Int32)) else zk M4 x0 = 8 ∧ w_X8_isFree M4 x0 x6 x2 x3 (fun r8 M8 => (if r8 = 0 then (∃ n105, l_X8_all_105 T B S P (fun M9 b9 s9 x0_9 x1_9 x2_9 x3_9 x4_9 x5_9 x6_9 x7_9 => (if x7_9 = 0 then l_X8_all_61 T B S P K174 n M9 b9 s9 x0_9 x1_9 x2_9 x3_9 x4_9 x5_9 (x6_9 + (-1 : Int32)) else zk M9 x4_9 = 10 ∧ vp_in x5_9 (zl M9 x4_9) ∧ (∀ M10, M10 = sI M9 x4_9 x5_9.toNatClampNeg x6_9 → ∃ b11 s11, b9 + b11 ≤ B ∧ s9 + s11 ≤ S ∧ zk M10 x0_9 = 8 ∧ T M10 x0_9 x1_9 x2_9 x3_9 x4_9 (x5_9 + (1 : Int32)) (fun M11 => l_X8_all_61 T B S P K174 n M11 (b9 + b11) (s9 + s11) x0_9 x1_9 x2_9 x3_9 x4_9 x5_9 (x6_9 + (-1 : Int32))) b11 s11))) n105 M8 b s x0 x1 x2 x3 x4 x5 x6 (0 : Int32) (0 : Int32)) else (∃ n105, l_X8_all_105 T B S P (fun M12 b12 s12 x0_12 x1_12 x2_12 x3_12 x4_12 x5_12 x6_12 x7_12 => (if x7_12 = 0 then l_X8_all_61 T B S P K174 n M12 b12 s12 x0_12 x1_12 x2_12 x3_12 x4_12 x5_12 (x6_12 + (-1 : Int32)) else zk M12 x4_12 = 10 ∧ vp_in x5_12 (zl M12 x4_12) ∧ (∀ M13, M13 = sI M12 x4_12 x5_12.toNatClampNeg x6_12 → ∃ b14 s14, b12 + b14 ≤ B ∧ s12 + s14 ≤ S ∧ zk M13 x0_12 = 8 ∧ T M13 x0_12 x1_12 x2_12 x3_12 x4_12 (x5_12 + (1 : Int32)) (fun M14 => l_X8_all_61 T B S P K174 n M14 (b12 + b14) (s12 + s14) x0_12 x1_12 x2_12 x3_12 x4_12 x5_12 (x6_12 + (-1 : Int32))) b14 s14))) n105 M8 b s x0 x1 x2 x3 x4 x5 x6 (1 : Int32) (0 : Int32)))))))))
set_option maxHeartbeats 4000000 in
set_option maxRecDepth 100000 in
theorem jl_X8_all_61 {s0 : State} {d : Nat} {T : Mm → Nat → Int32 → Int32 → Int32 → Nat → Int32 → (Mm → Prop) → Nat → Nat → Prop} {B S : Nat} {P : Mm → Prop} {K174 : Mm → Nat → Nat → Prop} (C : Cx p l s0 m args meth c cX8_all 9 RX8 none E) (hT : ∀ (M : Mm) (y0 : Nat) (y1 : Int32) (y2 : Int32) (y3 : Int32) (y4 : Nat) (y5 : Int32) (P : Mm → Prop) (b s : Nat), T M y0 y1 y2 y3 y4 y5 P b s → CtV l E yX8_all cX8_all 9 (rmT_X8_all d b s) b s [.ref y0, .int y1, .int y2, .int y3, .ref y4, .int y5] M P) (k174 : ∀ M b s, b ≤ B → s ≤ S → K174 M b s → J p l e (rmT_X8_all (d + 1) B S) s0 m args below meth c (QV below E P args s0 B S) E 9 M b s 174 [] []) : ∀ n M b s x0 x1 x2 x3 x4 x5 x6, b ≤ B → s ≤ S → l_X8_all_61 T B S P K174 n M b s x0 x1 x2 x3 x4 x5 x6 → J p l e (rmT_X8_all (d + 1) B S) s0 m args below meth c (QV below E P args s0 B S) E 9 M b s 61 [(0, .ref x0), (1, .int x1), (2, .int x2), (3, .int x3), (4, .ref x4), (5, .int x5), (6, .int x6)] [] := by
  intro n
  induction n with
  | zero => intro M b s x0 x1 x2 x3 x4 x5 x6 hb hs h; exact h.elim
  | succ n ih =>
    intro M b s x0 x1 x2 x3 x4 x5 x6 hb hs h
    rw [l_X8_all_61] at h
    refine j_iload (pc := 61) C 6 dX8_all_61 rfl ?_
    refine j_if_lt (pc := 63) C 174 dX8_all_63 (by decide) h (fun h => ?_) (fun h => ?_)
    · exact j_weak [] rfl (k174 _ _ _  hb hs h)
    · refine j_aload_n (pc := 66) C 0 dX8_all_66 rfl ?_
      refine j_iload (pc := 67) C 6 dX8_all_67 rfl ?_
      refine j_aload_n (pc := 69) C 0 dX8_all_69 rfl ?_
      refine gf_X8_30 (pc := 70) C dX8_all_70 h (fun a2 h => ?_)
      refine j_iload_n (pc := 73) C 1 dX8_all_73 rfl ?_
      refine j_aals (pc := 74) C (by decide) dX8_all_74 h (fun a3 h => ?_)
      refine j_iload (pc := 75) C 5 dX8_all_75 rfl ?_
      refine j_iald (pc := 77) C dX8_all_77 h (fun h => ?_)
      refine c2_X8_66 (pc := 78) C ⟨(Nat.le_trans (Nat.le_of_ble_eq_true rfl) (Nat.le_add_right 2 _)), (Nat.le_trans (Nat.le_of_ble_eq_true rfl) (Nat.le_add_right 51 _))⟩ ⟨hb, hs⟩ (Nat.le_of_ble_eq_true rfl) dX8_all_78 h (fun r4 M4 h => ?_)
      refine j_if_eq (pc := 81) C 99 dX8_all_81 (by decide) h (fun h => ?_) (fun h => ?_)
      · refine j_iconst (pc := 99) (v := (0 : Int32)) C dX8_all_99 rfl ?_
        refine j_istore (pc := 100) C [(7, _), (0, _), (1, _), (2, _), (3, _), (4, _), (5, _), (6, _)] dX8_all_100 (by decide) rfl ?_
        refine j_iconst (pc := 102) (v := (0 : Int32)) C dX8_all_102 rfl ?_
        refine j_istore (pc := 103) C [(8, _), (7, _), (0, _), (1, _), (2, _), (3, _), (4, _), (5, _), (6, _)] dX8_all_103 (by decide) rfl ?_
        obtain ⟨n105, h⟩ := h
        refine j_weak [2, 3, 4, 5, 6, 7, 8, 1, 0] rfl (jl_X8_all_105 C hT (fun M5 b5 s5 x0_5 x1_5 x2_5 x3_5 x4_5 x5_5 x6_5 x7_5 hb hs h => ?_) n105 _ _ _ _ _ _ _ _ _ _ _ _ hb hs h)
        · refine j_iload (pc := 140) C 7 dX8_all_140 rfl ?_
          refine j_if_ne (pc := 142) C 148 dX8_all_142 (by decide) h (fun h => ?_) (fun h => ?_)
          · refine j_aload (pc := 148) C 4 dX8_all_148 rfl ?_
            refine j_iload (pc := 150) C 5 dX8_all_150 rfl ?_
            refine j_iload (pc := 152) C 6 dX8_all_152 rfl ?_
            refine n_iast (pc := 154) C dX8_all_154 h (fun M6 h => ?_)
            refine j_aload_n (pc := 155) C 0 dX8_all_155 rfl ?_
            refine j_iload_n (pc := 156) C 1 dX8_all_156 rfl ?_
            refine j_iload_n (pc := 157) C 2 dX8_all_157 rfl ?_
            refine j_iload_n (pc := 158) C 3 dX8_all_158 rfl ?_
            refine j_aload (pc := 159) C 4 dX8_all_159 rfl ?_
            refine j_iload (pc := 161) C 5 dX8_all_161 rfl ?_
            refine j_iconst (pc := 163) (v := (1 : Int32)) C dX8_all_163 rfl ?_
            refine j_iadd (pc := 164) C dX8_all_164 ?_
            obtain ⟨b7, s7, hb, hs, h⟩ := h
            refine cr_X8_73 (pc := 165) C hT  ⟨hb, hs⟩ (Nat.le_of_ble_eq_true rfl) dX8_all_165 h (fun M7 h => ?_)
            refine j_iinc (pc := 168) (v := (-1 : Int32)) C 6 [(6, _), (0, _), (1, _), (2, _), (3, _), (4, _), (5, _), (7, _)] dX8_all_168 rfl rfl (by decide) rfl ?_
            refine j_goto (pc := 171) C 61 dX8_all_171 (by decide) ?_
            exact j_weak [1, 2, 3, 4, 5, 6, 0] rfl (ih _ _ _ _ _ _ _ _ _ _ hb hs h)
          · refine j_goto (pc := 145) C 168 dX8_all_145 (by decide) ?_
            refine j_iinc (pc := 168) (v := (-1 : Int32)) C 6 [(6, _), (0, _), (1, _), (2, _), (3, _), (4, _), (5, _), (7, _)] dX8_all_168 rfl rfl (by decide) rfl ?_
            refine j_goto (pc := 171) C 61 dX8_all_171 (by decide) ?_
            exact j_weak [1, 2, 3, 4, 5, 6, 0] rfl (ih _ _ _ _ _ _ _ _ _ _ hb hs h)
      · refine j_aload_n (pc := 84) C 0 dX8_all_84 rfl ?_
        refine j_iload (pc := 85) C 6 dX8_all_85 rfl ?_
        refine j_iload_n (pc := 87) C 2 dX8_all_87 rfl ?_
        refine j_iload_n (pc := 88) C 3 dX8_all_88 rfl ?_
        refine c2_X8_69 (pc := 89) C ⟨(Nat.le_trans (Nat.le_of_ble_eq_true rfl) (Nat.le_add_right 2 _)), (Nat.le_trans (Nat.le_of_ble_eq_true rfl) (Nat.le_add_right 51 _))⟩ ⟨hb, hs⟩ (Nat.le_of_ble_eq_true rfl) dX8_all_89 h (fun r8 M8 h => ?_)
        refine j_if_eq (pc := 92) C 99 dX8_all_92 (by decide) h (fun h => ?_) (fun h => ?_)
        · refine j_iconst (pc := 99) (v := (0 : Int32)) C dX8_all_99 rfl ?_
          refine j_istore (pc := 100) C [(7, _), (0, _), (1, _), (2, _), (3, _), (4, _), (5, _), (6, _)] dX8_all_100 (by decide) rfl ?_
          refine j_iconst (pc := 102) (v := (0 : Int32)) C dX8_all_102 rfl ?_
          refine j_istore (pc := 103) C [(8, _), (7, _), (0, _), (1, _), (2, _), (3, _), (4, _), (5, _), (6, _)] dX8_all_103 (by decide) rfl ?_
          obtain ⟨n105, h⟩ := h
          refine j_weak [2, 3, 4, 5, 6, 7, 8, 1, 0] rfl (jl_X8_all_105 C hT (fun M9 b9 s9 x0_9 x1_9 x2_9 x3_9 x4_9 x5_9 x6_9 x7_9 hb hs h => ?_) n105 _ _ _ _ _ _ _ _ _ _ _ _ hb hs h)
          · refine j_iload (pc := 140) C 7 dX8_all_140 rfl ?_
            refine j_if_ne (pc := 142) C 148 dX8_all_142 (by decide) h (fun h => ?_) (fun h => ?_)
            · refine j_aload (pc := 148) C 4 dX8_all_148 rfl ?_
              refine j_iload (pc := 150) C 5 dX8_all_150 rfl ?_
              refine j_iload (pc := 152) C 6 dX8_all_152 rfl ?_
              refine n_iast (pc := 154) C dX8_all_154 h (fun M10 h => ?_)
              refine j_aload_n (pc := 155) C 0 dX8_all_155 rfl ?_
              refine j_iload_n (pc := 156) C 1 dX8_all_156 rfl ?_
              refine j_iload_n (pc := 157) C 2 dX8_all_157 rfl ?_
              refine j_iload_n (pc := 158) C 3 dX8_all_158 rfl ?_
              refine j_aload (pc := 159) C 4 dX8_all_159 rfl ?_
              refine j_iload (pc := 161) C 5 dX8_all_161 rfl ?_
              refine j_iconst (pc := 163) (v := (1 : Int32)) C dX8_all_163 rfl ?_
              refine j_iadd (pc := 164) C dX8_all_164 ?_
              obtain ⟨b11, s11, hb, hs, h⟩ := h
              refine cr_X8_73 (pc := 165) C hT  ⟨hb, hs⟩ (Nat.le_of_ble_eq_true rfl) dX8_all_165 h (fun M11 h => ?_)
              refine j_iinc (pc := 168) (v := (-1 : Int32)) C 6 [(6, _), (0, _), (1, _), (2, _), (3, _), (4, _), (5, _), (7, _)] dX8_all_168 rfl rfl (by decide) rfl ?_
              refine j_goto (pc := 171) C 61 dX8_all_171 (by decide) ?_
              exact j_weak [1, 2, 3, 4, 5, 6, 0] rfl (ih _ _ _ _ _ _ _ _ _ _ hb hs h)
            · refine j_goto (pc := 145) C 168 dX8_all_145 (by decide) ?_
              refine j_iinc (pc := 168) (v := (-1 : Int32)) C 6 [(6, _), (0, _), (1, _), (2, _), (3, _), (4, _), (5, _), (7, _)] dX8_all_168 rfl rfl (by decide) rfl ?_
              refine j_goto (pc := 171) C 61 dX8_all_171 (by decide) ?_
              exact j_weak [1, 2, 3, 4, 5, 6, 0] rfl (ih _ _ _ _ _ _ _ _ _ _ hb hs h)
        · refine j_iconst (pc := 95) (v := (1 : Int32)) C dX8_all_95 rfl ?_
          refine j_goto (pc := 96) C 100 dX8_all_96 (by decide) ?_
          refine j_istore (pc := 100) C [(7, _), (0, _), (1, _), (2, _), (3, _), (4, _), (5, _), (6, _)] dX8_all_100 (by decide) rfl ?_
          refine j_iconst (pc := 102) (v := (0 : Int32)) C dX8_all_102 rfl ?_
          refine j_istore (pc := 103) C [(8, _), (7, _), (0, _), (1, _), (2, _), (3, _), (4, _), (5, _), (6, _)] dX8_all_103 (by decide) rfl ?_
          obtain ⟨n105, h⟩ := h
          refine j_weak [2, 3, 4, 5, 6, 7, 8, 1, 0] rfl (jl_X8_all_105 C hT (fun M12 b12 s12 x0_12 x1_12 x2_12 x3_12 x4_12 x5_12 x6_12 x7_12 hb hs h => ?_) n105 _ _ _ _ _ _ _ _ _ _ _ _ hb hs h)
          · refine j_iload (pc := 140) C 7 dX8_all_140 rfl ?_
            refine j_if_ne (pc := 142) C 148 dX8_all_142 (by decide) h (fun h => ?_) (fun h => ?_)
            · refine j_aload (pc := 148) C 4 dX8_all_148 rfl ?_
              refine j_iload (pc := 150) C 5 dX8_all_150 rfl ?_
              refine j_iload (pc := 152) C 6 dX8_all_152 rfl ?_
              refine n_iast (pc := 154) C dX8_all_154 h (fun M13 h => ?_)
              refine j_aload_n (pc := 155) C 0 dX8_all_155 rfl ?_
              refine j_iload_n (pc := 156) C 1 dX8_all_156 rfl ?_
              refine j_iload_n (pc := 157) C 2 dX8_all_157 rfl ?_
              refine j_iload_n (pc := 158) C 3 dX8_all_158 rfl ?_
              refine j_aload (pc := 159) C 4 dX8_all_159 rfl ?_
              refine j_iload (pc := 161) C 5 dX8_all_161 rfl ?_
              refine j_iconst (pc := 163) (v := (1 : Int32)) C dX8_all_163 rfl ?_
              refine j_iadd (pc := 164) C dX8_all_164 ?_
              obtain ⟨b14, s14, hb, hs, h⟩ := h
              refine cr_X8_73 (pc := 165) C hT  ⟨hb, hs⟩ (Nat.le_of_ble_eq_true rfl) dX8_all_165 h (fun M14 h => ?_)
              refine j_iinc (pc := 168) (v := (-1 : Int32)) C 6 [(6, _), (0, _), (1, _), (2, _), (3, _), (4, _), (5, _), (7, _)] dX8_all_168 rfl rfl (by decide) rfl ?_
              refine j_goto (pc := 171) C 61 dX8_all_171 (by decide) ?_
              exact j_weak [1, 2, 3, 4, 5, 6, 0] rfl (ih _ _ _ _ _ _ _ _ _ _ hb hs h)
            · refine j_goto (pc := 145) C 168 dX8_all_145 (by decide) ?_
              refine j_iinc (pc := 168) (v := (-1 : Int32)) C 6 [(6, _), (0, _), (1, _), (2, _), (3, _), (4, _), (5, _), (7, _)] dX8_all_168 rfl rfl (by decide) rfl ?_
              refine j_goto (pc := 171) C 61 dX8_all_171 (by decide) ?_
              exact j_weak [1, 2, 3, 4, 5, 6, 0] rfl (ih _ _ _ _ _ _ _ _ _ _ hb hs h)
def wf_X8_all (T : Mm → Nat → Int32 → Int32 → Int32 → Nat → Int32 → (Mm → Prop) → Nat → Nat → Prop) (M : Mm) (x0 : Nat) (x1 : Int32) (x2 : Int32) (x3 : Int32) (x4 : Nat) (x5 : Int32) (P : Mm → Prop) (B S : Nat) : Prop := zk M x4 = 10 ∧ (if x5 = (nI (zl M x4)) then zk M x0 = 8 ∧ w_X8_doublings M x0 x1 x4 (fun r16 M16 => zk M16 x0 = 8 ∧ (∀ a17, zR M16 x0 16 = some a17 → zk M16 x0 = 8 ∧ (if r16 ≤ (zI M16 x0 17) then zk M16 x0 = 8 ∧ (∀ M19, M19 = sI M16 x0 17 r16 → 0 + 1 ≤ B ∧ 0 + 5 ≤ S ∧ zk M19 x4 = 10 ∧ zl M19 x4 ≤ 5 ∧ (∀ a20 M20, a20 = zn M19 → M20 = sK M19 x4 → zk M20 a20 = 10 ∧ zk M20 x0 = 8 ∧ (∀ M21, M21 = sR M20 x0 16 (some a20) → P M21))) else P M16)) ∧ (zR M16 x0 16 = none → zk M16 x0 = 8 ∧ (∀ M22, M22 = sI M16 x0 17 r16 → 0 + 1 ≤ B ∧ 0 + 5 ≤ S ∧ zk M22 x4 = 10 ∧ zl M22 x4 ≤ 5 ∧ (∀ a23 M23, a23 = zn M22 → M23 = sK M22 x4 → zk M23 a23 = 10 ∧ zk M23 x0 = 8 ∧ (∀ M24, M24 = sR M23 x0 16 (some a23) → P M24))))) else zk M x0 = 8 ∧ (∃ n61, l_X8_all_61 T B S P (fun M15 b15 s15 => P M15) n61 M 0 0 x0 x1 x2 x3 x4 x5 ((zI M x0 2) - (1 : Int32))))
def w_X8_all : Nat → Mm → Nat → Int32 → Int32 → Int32 → Nat → Int32 → (Mm → Prop) → Nat → Nat → Prop
  | 0 => fun _ _ _ _ _ _ _ _ _ _ => False
  | d + 1 => wf_X8_all (w_X8_all d)
set_option maxHeartbeats 4000000 in
set_option maxRecDepth 100000 in
theorem cf_X8_all (l : Launch) (E : EV) {d : Nat} {T : Mm → Nat → Int32 → Int32 → Int32 → Nat → Int32 → (Mm → Prop) → Nat → Nat → Prop} (hT : ∀ (M : Mm) (y0 : Nat) (y1 : Int32) (y2 : Int32) (y3 : Int32) (y4 : Nat) (y5 : Int32) (P : Mm → Prop) (b s : Nat), T M y0 y1 y2 y3 y4 y5 P b s → CtV l E yX8_all cX8_all 9 (rmT_X8_all d b s) b s [.ref y0, .int y1, .int y2, .int y3, .ref y4, .int y5] M P) (M : Mm) (x0 : Nat) (x1 : Int32) (x2 : Int32) (x3 : Int32) (x4 : Nat) (x5 : Int32) (P : Mm → Prop) (B S : Nat) (h : wf_X8_all T M x0 x1 x2 x3 x4 x5 P B S) : CtV l E yX8_all cX8_all 9 (rmT_X8_all (d + 1) B S) B S [.ref x0, .int x1, .int x2, .int x3, .ref x4, .int x5] M P := by
  refine ctV_of (by decide +kernel) (Nat.le_of_ble_eq_true rfl) ?_
  intro p e s m args below meth c C hnm
  rw [wf_X8_all] at h
  have hb : 0 ≤ B := Nat.zero_le _
  have hs : 0 ≤ S := Nat.zero_le _
  show J p l e (rmT_X8_all (d + 1) B S) s m args below meth c (QV below E P args s B S) E 9 M 0 0 0 [(0, .ref x0), (1, .int x1), (2, .int x2), (3, .int x3), (4, .ref x4), (5, .int x5)] []
  refine j_iload (pc := 0) C 5 dX8_all_0 rfl ?_
  refine j_aload (pc := 2) C 4 dX8_all_2 rfl ?_
  refine j_alen (pc := 4) (k := 10) C (by decide) dX8_all_4 h (fun h => ?_)
  refine j_icmp_ne (pc := 5) C 53 dX8_all_5 (by decide) h (fun h => ?_) (fun h => ?_)
  · refine j_aload_n (pc := 53) C 0 dX8_all_53 rfl ?_
    refine gf_X8_63 (pc := 54) C dX8_all_54 h (fun h => ?_)
    refine j_iconst (pc := 57) (v := (1 : Int32)) C dX8_all_57 rfl ?_
    refine j_isub (pc := 58) C dX8_all_58 ?_
    refine j_istore (pc := 59) C [(6, _), (0, _), (1, _), (2, _), (3, _), (4, _), (5, _)] dX8_all_59 (by decide) rfl ?_
    obtain ⟨n61, h⟩ := h
    refine j_weak [1, 2, 3, 4, 5, 6, 0] rfl (jl_X8_all_61 C hT (fun M15 b15 s15 hb hs h => ?_) n61 _ _ _ _ _ _ _ _ _ _ hb hs h)
    · exact j_vret (pc := 174) C dX8_all_174 hb hs h
  · refine j_aload_n (pc := 8) C 0 dX8_all_8 rfl ?_
    refine j_iload_n (pc := 9) C 1 dX8_all_9 rfl ?_
    refine j_aload (pc := 10) C 4 dX8_all_10 rfl ?_
    refine c2_X8_49 (pc := 12) C ⟨(Nat.le_trans (Nat.le_of_ble_eq_true rfl) (Nat.le_add_right 2 _)), (Nat.le_trans (Nat.le_of_ble_eq_true rfl) (Nat.le_add_right 51 _))⟩ ⟨hb, hs⟩ (Nat.le_of_ble_eq_true rfl) dX8_all_12 h (fun r16 M16 h => ?_)
    refine j_istore (pc := 15) C [(6, _), (0, _), (1, _), (2, _), (3, _), (4, _), (5, _)] dX8_all_15 (by decide) rfl ?_
    refine j_aload_n (pc := 17) C 1 dX8_all_17 rfl ?_
    refine gn_X8_53 (pc := 18) C dX8_all_18 h (fun a17 h => ?_) (fun h => ?_)
    · refine j_ifnullA (pc := 21) C dX8_all_21 ?_
      refine j_iload (pc := 24) C 0 dX8_all_24 rfl ?_
      refine j_aload_n (pc := 26) C 1 dX8_all_26 rfl ?_
      refine gf_X8_56 (pc := 27) C dX8_all_27 h (fun h => ?_)
      refine j_icmp_le (pc := 30) C 34 dX8_all_30 (by decide) h (fun h => ?_) (fun h => ?_)
      · refine j_aload_n (pc := 34) C 1 dX8_all_34 rfl ?_
        refine j_iload (pc := 35) C 0 dX8_all_35 rfl ?_
        refine pf_X8_56 (pc := 37) C dX8_all_37 h (fun M19 h => ?_)
        refine j_aload_n (pc := 40) C 1 dX8_all_40 rfl ?_
        refine j_aload (pc := 41) C 5 dX8_all_41 rfl ?_
        obtain ⟨hb, hs, h⟩ := h
        refine n_clonei (pc := 43) C 5 wd_1067 wd_1068 wd_451 wd_452 wd_1069 nw_1070 dX8_all_43 (Nat.le_trans (Nat.le_of_ble_eq_true rfl) (Nat.le_add_right 2 _)) (Nat.le_trans (Nat.le_of_ble_eq_true rfl) (Nat.le_add_right 51 _)) hb hs h (fun a20 M20 h => ?_)
        refine j_castI (pc := 46) C wd_338 dX8_all_46 h (fun h => ?_)
        refine pf_X8_53 (pc := 49) C dX8_all_49 h (fun M21 h => ?_)
        exact j_vret (pc := 52) C dX8_all_52 hb hs h
      · exact j_vret (pc := 33) C dX8_all_33 hb hs h
    · refine j_ifnullN (pc := 21) C 34 dX8_all_21 (by decide) ?_
      refine j_aload_n (pc := 34) C 1 dX8_all_34 rfl ?_
      refine j_iload (pc := 35) C 0 dX8_all_35 rfl ?_
      refine pf_X8_56 (pc := 37) C dX8_all_37 h (fun M22 h => ?_)
      refine j_aload_n (pc := 40) C 1 dX8_all_40 rfl ?_
      refine j_aload (pc := 41) C 5 dX8_all_41 rfl ?_
      obtain ⟨hb, hs, h⟩ := h
      refine n_clonei (pc := 43) C 5 wd_1067 wd_1068 wd_451 wd_452 wd_1069 nw_1070 dX8_all_43 (Nat.le_trans (Nat.le_of_ble_eq_true rfl) (Nat.le_add_right 2 _)) (Nat.le_trans (Nat.le_of_ble_eq_true rfl) (Nat.le_add_right 51 _)) hb hs h (fun a23 M23 h => ?_)
      refine j_castI (pc := 46) C wd_338 dX8_all_46 h (fun h => ?_)
      refine pf_X8_53 (pc := 49) C dX8_all_49 h (fun M24 h => ?_)
      exact j_vret (pc := 52) C dX8_all_52 hb hs h
theorem c_X8_all (l : Launch) (E : EV) : ∀ (d : Nat) (M : Mm) (x0 : Nat) (x1 : Int32) (x2 : Int32) (x3 : Int32) (x4 : Nat) (x5 : Int32) (P : Mm → Prop) (B S : Nat), w_X8_all d M x0 x1 x2 x3 x4 x5 P B S → CtV l E yX8_all cX8_all 9 (rmT_X8_all d B S) B S [.ref x0, .int x1, .int x2, .int x3, .ref x4, .int x5] M P := by
  intro d
  induction d with
  | zero => intro M x0 x1 x2 x3 x4 x5 P B S h; exact h.elim
  | succ d ih => intro M x0 x1 x2 x3 x4 x5 P B S h; exact cf_X8_all l E ih M x0 x1 x2 x3 x4 x5 P B S h
abbrev rm_X8_all (B S : Nat) : Room := rmT_X8_all 6 B S
def w_X8_all_6 (M : Mm) (x0 : Nat) (x1 : Int32) (x2 : Int32) (x3 : Int32) (x4 : Nat) (x5 : Int32) (P : Mm → Prop) (B S : Nat) : Prop := w_X8_all 6 M x0 x1 x2 x3 x4 x5 P B S
theorem c_X8_all_6 (l : Launch) (E : EV) (M : Mm) (x0 : Nat) (x1 : Int32) (x2 : Int32) (x3 : Int32) (x4 : Nat) (x5 : Int32) (P : Mm → Prop) (B S : Nat) (h : w_X8_all_6 M x0 x1 x2 x3 x4 x5 P B S) : CtV l E yX8_all cX8_all 9 (rm_X8_all B S) B S [.ref x0, .int x1, .int x2, .int x3, .ref x4, .int x5] M P := c_X8_all l E 6 M x0 x1 x2 x3 x4 x5 P B S h
theorem c2_X8_73 (C : Cx p l s m args meth c cc nL RX8 ret E) {b : Nat} {y0 : Int32} {y1 : Int32} {y2 : Int32} {y3 : Nat} {y4 : Int32} {P : Mm → Prop} {b1 s1 : Nat} (hR : 8 + 1 ≤ R.frames ∧ 8 + (9 + 11) + 219 ≤ R.locals) (hf : kc + b1 ≤ R.cells ∧ ks + s1 ≤ R.slots) (hst : (st.map fun v => v.category).sum ≤ 8) (d : decode cc pc = .ok (.invokevirtual 73, 3)) (h : zk M b = 8 ∧ w_X8_all_6 M b y0 y1 y2 y3 y4 P b1 s1) (kk : ∀ M', P M' → J p l e R s m args below meth c Q E nL M' (kc + b1) (ks + s1) (pc + 3) lo st) : J p l e R s m args below meth c Q E nL M kc ks pc lo (.int y4 :: .ref y3 :: .int y2 :: .int y1 :: .int y0 :: .ref b :: st) :=
  j_cV_V (n := 5) (As := [.int y0, .int y1, .int y2, .ref y3, .int y4]) C co_X8 rfl wd_1061 wd_24 h.1 (c_X8_all_6 l E M b y0 y1 y2 y3 y4 P b1 s1 h.2) ⟨wd_1062, wd_1059, wd_49, by decide +kernel, by decide +kernel, by decide +kernel⟩ rfl rfl hR hf rfl hst d kk
abbrev rm_X8_cast (B S : Nat) : Room := { frames := 9, cells := B, slots := S, locals := 247 }
def w_X8_cast (M : Mm) (x0 : Nat) (x1 : Int32) (x2 : Int32) (x3 : Int32) (P : Option Nat → Mm → Prop) (B S : Nat) : Prop := zk M x0 = 8 ∧ (∀ M1, M1 = sR M x0 16 none → (zk M1 x0 = 8 ∧ ∃ a2, zR M1 x0 13 = some a2 ∧ (zk M1 a2 = 14 ∧ vp_in x1 (zl M1 a2) ∧ ∃ a3, zR M1 a2 x1.toNatClampNeg = some a3 ∧ zk M1 a3 = 10 ∧ 0 + 1 ≤ B ∧ 0 + 5 ≤ S ∧ ¬ (nI (zl M1 a3)) < 0 ∧ (nI (zl M1 a3)).toNatClampNeg ≤ 5 ∧ (∀ a4 M4, a4 = zn M1 → M4 = sN M1 10 (nI (zl M1 a3)).toNatClampNeg → ∃ b5 s5, (0 + 1) + b5 ≤ B ∧ (0 + 5) + s5 ≤ S ∧ zk M4 x0 = 8 ∧ w_X8_all_6 M4 x0 x1 x2 x3 a4 (0 : Int32) (fun M5 => zk M5 x0 = 8 ∧ (∀ a6, zR M5 x0 16 = some a6 → P (some a6) M5) ∧ (zR M5 x0 16 = none → P none M5)) b5 s5))))
set_option maxHeartbeats 4000000 in
set_option maxRecDepth 100000 in
theorem c_X8_cast (l : Launch) (E : EV) (M : Mm) (x0 : Nat) (x1 : Int32) (x2 : Int32) (x3 : Int32) (P : Option Nat → Mm → Prop) (B S : Nat) (h : w_X8_cast M x0 x1 x2 x3 P B S) : CtN l E yX8_cast cX8_cast 4 (.array .int) (rm_X8_cast B S) B S [.ref x0, .int x1, .int x2, .int x3] M P := by
  refine ctN_of (by decide +kernel) (Nat.le_of_ble_eq_true rfl) ?_
  intro p e s m args below meth c C
  rw [w_X8_cast] at h
  have hb : 0 ≤ B := Nat.zero_le _
  have hs : 0 ≤ S := Nat.zero_le _
  show J p l e (rm_X8_cast B S) s m args below meth c (QN below E P args s B S) E 4 M 0 0 0 [(0, .ref x0), (1, .int x1), (2, .int x2), (3, .int x3)] []
  refine j_aload_n (pc := 0) C 0 dX8_cast_0 rfl ?_
  refine j_null (pc := 1) C dX8_cast_1 ?_
  refine pn_X8_53 (pc := 2) C dX8_cast_2 h (fun M1 h => ?_)
  refine j_aload_n (pc := 5) C 0 dX8_cast_5 rfl ?_
  refine j_iload_n (pc := 6) C 1 dX8_cast_6 rfl ?_
  refine j_iload_n (pc := 7) C 2 dX8_cast_7 rfl ?_
  refine j_iload_n (pc := 8) C 3 dX8_cast_8 rfl ?_
  refine j_aload_n (pc := 9) C 0 dX8_cast_9 rfl ?_
  refine gf_X8_30 (pc := 10) C dX8_cast_10 h (fun a2 h => ?_)
  refine j_iload_n (pc := 13) C 1 dX8_cast_13 rfl ?_
  refine j_aals (pc := 14) C (by decide) dX8_cast_14 h (fun a3 h => ?_)
  refine j_alen (pc := 15) (k := 10) C (by decide) dX8_cast_15 h (fun h => ?_)
  obtain ⟨hb, hs, h⟩ := h
  refine n_newi (pc := 16) C 5 wd_92 dX8_cast_16 (Nat.le_of_ble_eq_true rfl) hb hs h (fun a4 M4 h => ?_)
  refine j_iconst (pc := 18) (v := (0 : Int32)) C dX8_cast_18 rfl ?_
  obtain ⟨b5, s5, hb, hs, h⟩ := h
  refine c2_X8_73 (pc := 19) C ⟨(Nat.le_of_ble_eq_true rfl), (Nat.le_of_ble_eq_true rfl)⟩ ⟨hb, hs⟩ (Nat.le_of_ble_eq_true rfl) dX8_cast_19 h (fun M5 h => ?_)
  refine j_aload_n (pc := 22) C 0 dX8_cast_22 rfl ?_
  refine gn_X8_53 (pc := 23) C dX8_cast_23 h (fun a6 h => ?_) (fun h => ?_)
  · exact j_nret (pc := 26) (some a6) (Or.inr ⟨_, rfl⟩) C dX8_cast_26 hb hs h
  · exact j_nret (pc := 26) none (Or.inr ⟨_, rfl⟩) C dX8_cast_26 hb hs h
abbrev rm_X8_rehearsals : Room := { frames := 0, cells := 0, slots := 0, locals := 0 }
def l_X8_rehearsals_6 (P : Int32 → Mm → Prop) (K72 : Mm → Int32 → Prop) : Nat → Mm → Nat → Int32 → Int32 → Int32 → Int32 → Int32 → Prop
  | 0, _, _, _, _, _, _, _ => False
  | n + 1, M, x0, x1, x2, x3, x4, x5 => zk M x0 = 8 ∧ (if (zI M x0 6) ≤ x5 then K72 M x4 else (if x5 = x3 then l_X8_rehearsals_6 P K72 n M x0 x1 x2 x3 x4 (x5 + (1 : Int32)) else (zk M x0 = 8 ∧ ∃ a2, zR M x0 14 = some a2 ∧ (zk M a2 = 14 ∧ vp_in x5 (zl M a2) ∧ ∃ a3, zR M a2 x5.toNatClampNeg = some a3 ∧ zk M a3 = 10 ∧ vp_in (2 : Int32) (zl M a3) ∧ (if (zI M a3 (2 : Int32).toNatClampNeg) = 0 then (zk M x0 = 8 ∧ ∃ a4, zR M x0 14 = some a4 ∧ (zk M a4 = 14 ∧ vp_in x5 (zl M a4) ∧ ∃ a5, zR M a4 x5.toNatClampNeg = some a5 ∧ zk M a5 = 10 ∧ vp_in (3 : Int32) (zl M a5) ∧ (if (((zI M a5 (3 : Int32).toNatClampNeg) >>> (x1 &&& 31)) &&& (1 : Int32)) = (1 : Int32) then (zk M x0 = 8 ∧ ∃ a6, zR M x0 14 = some a6 ∧ (zk M a6 = 14 ∧ vp_in x5 (zl M a6) ∧ ∃ a7, zR M a6 x5.toNatClampNeg = some a7 ∧ zk M a7 = 10 ∧ vp_in (0 : Int32) (zl M a7) ∧ (if x2 ≤ (zI M a7 (0 : Int32).toNatClampNeg) then l_X8_rehearsals_6 P K72 n M x0 x1 x2 x3 x4 (x5 + (1 : Int32)) else l_X8_rehearsals_6 P K72 n M x0 x1 x2 x3 (x4 + (1 : Int32)) (x5 + (1 : Int32))))) else l_X8_rehearsals_6 P K72 n M x0 x1 x2 x3 x4 (x5 + (1 : Int32))))) else l_X8_rehearsals_6 P K72 n M x0 x1 x2 x3 x4 (x5 + (1 : Int32)))))))
set_option maxHeartbeats 4000000 in
set_option maxRecDepth 100000 in
theorem jl_X8_rehearsals_6 {P : Int32 → Mm → Prop} {K72 : Mm → Int32 → Prop} (C : Cx p l s m args meth c cX8_rehearsals 6 RX8 (some .int) E) (hkc : kc ≤ rm_X8_rehearsals.cells ∧ ks ≤ rm_X8_rehearsals.slots) (k72 : ∀ M x4, K72 M x4 → J p l e rm_X8_rehearsals s m args below meth c (QI below E P args s rm_X8_rehearsals.cells rm_X8_rehearsals.slots) E 6 M kc ks 72 [(4, .int x4)] []) : ∀ n M x0 x1 x2 x3 x4 x5, l_X8_rehearsals_6 P K72 n M x0 x1 x2 x3 x4 x5 → J p l e rm_X8_rehearsals s m args below meth c (QI below E P args s rm_X8_rehearsals.cells rm_X8_rehearsals.slots) E 6 M kc ks 6 [(0, .ref x0), (1, .int x1), (2, .int x2), (3, .int x3), (4, .int x4), (5, .int x5)] [] := by
  intro n
  induction n with
  | zero => intro M x0 x1 x2 x3 x4 x5 h; exact h.elim
  | succ n ih =>
    intro M x0 x1 x2 x3 x4 x5 h
    rw [l_X8_rehearsals_6] at h
    refine j_iload (pc := 6) C 5 dX8_rehearsals_6 rfl ?_
    refine j_aload_n (pc := 8) C 0 dX8_rehearsals_8 rfl ?_
    refine gf_X8_41 (pc := 9) C dX8_rehearsals_9 h (fun h => ?_)
    refine j_icmp_ge (pc := 12) C 72 dX8_rehearsals_12 (by decide) h (fun h => ?_) (fun h => ?_)
    · exact j_weak [4] rfl (k72 _ _ h)
    · refine j_iload (pc := 15) C 5 dX8_rehearsals_15 rfl ?_
      refine j_iload_n (pc := 17) C 3 dX8_rehearsals_17 rfl ?_
      refine j_icmp_eq (pc := 18) C 66 dX8_rehearsals_18 (by decide) h (fun h => ?_) (fun h => ?_)
      · refine j_iinc (pc := 66) (v := (1 : Int32)) C 5 [(5, _), (0, _), (1, _), (2, _), (3, _), (4, _)] dX8_rehearsals_66 rfl rfl (by decide) rfl ?_
        refine j_goto (pc := 69) C 6 dX8_rehearsals_69 (by decide) ?_
        exact j_weak [1, 2, 3, 4, 5, 0] rfl (ih _ _ _ _ _ _ _ h)
      · refine j_aload_n (pc := 21) C 0 dX8_rehearsals_21 rfl ?_
        refine gf_X8_33 (pc := 22) C dX8_rehearsals_22 h (fun a2 h => ?_)
        refine j_iload (pc := 25) C 5 dX8_rehearsals_25 rfl ?_
        refine j_aals (pc := 27) C (by decide) dX8_rehearsals_27 h (fun a3 h => ?_)
        refine j_iconst (pc := 28) (v := (2 : Int32)) C dX8_rehearsals_28 rfl ?_
        refine j_iald (pc := 29) C dX8_rehearsals_29 h (fun h => ?_)
        refine j_if_ne (pc := 30) C 66 dX8_rehearsals_30 (by decide) h (fun h => ?_) (fun h => ?_)
        · refine j_iinc (pc := 66) (v := (1 : Int32)) C 5 [(5, _), (0, _), (1, _), (2, _), (3, _), (4, _)] dX8_rehearsals_66 rfl rfl (by decide) rfl ?_
          refine j_goto (pc := 69) C 6 dX8_rehearsals_69 (by decide) ?_
          exact j_weak [1, 2, 3, 4, 5, 0] rfl (ih _ _ _ _ _ _ _ h)
        · refine j_aload_n (pc := 33) C 0 dX8_rehearsals_33 rfl ?_
          refine gf_X8_33 (pc := 34) C dX8_rehearsals_34 h (fun a4 h => ?_)
          refine j_iload (pc := 37) C 5 dX8_rehearsals_37 rfl ?_
          refine j_aals (pc := 39) C (by decide) dX8_rehearsals_39 h (fun a5 h => ?_)
          refine j_iconst (pc := 40) (v := (3 : Int32)) C dX8_rehearsals_40 rfl ?_
          refine j_iald (pc := 41) C dX8_rehearsals_41 h (fun h => ?_)
          refine j_iload_n (pc := 42) C 1 dX8_rehearsals_42 rfl ?_
          refine j_ishr (pc := 43) C dX8_rehearsals_43 ?_
          refine j_iconst (pc := 44) (v := (1 : Int32)) C dX8_rehearsals_44 rfl ?_
          refine j_iand (pc := 45) C dX8_rehearsals_45 ?_
          refine j_iconst (pc := 46) (v := (1 : Int32)) C dX8_rehearsals_46 rfl ?_
          refine j_icmp_ne (pc := 47) C 66 dX8_rehearsals_47 (by decide) h (fun h => ?_) (fun h => ?_)
          · refine j_iinc (pc := 66) (v := (1 : Int32)) C 5 [(5, _), (0, _), (1, _), (2, _), (3, _), (4, _)] dX8_rehearsals_66 rfl rfl (by decide) rfl ?_
            refine j_goto (pc := 69) C 6 dX8_rehearsals_69 (by decide) ?_
            exact j_weak [1, 2, 3, 4, 5, 0] rfl (ih _ _ _ _ _ _ _ h)
          · refine j_aload_n (pc := 50) C 0 dX8_rehearsals_50 rfl ?_
            refine gf_X8_33 (pc := 51) C dX8_rehearsals_51 h (fun a6 h => ?_)
            refine j_iload (pc := 54) C 5 dX8_rehearsals_54 rfl ?_
            refine j_aals (pc := 56) C (by decide) dX8_rehearsals_56 h (fun a7 h => ?_)
            refine j_iconst (pc := 57) (v := (0 : Int32)) C dX8_rehearsals_57 rfl ?_
            refine j_iald (pc := 58) C dX8_rehearsals_58 h (fun h => ?_)
            refine j_iload_n (pc := 59) C 2 dX8_rehearsals_59 rfl ?_
            refine j_icmp_ge (pc := 60) C 66 dX8_rehearsals_60 (by decide) h (fun h => ?_) (fun h => ?_)
            · refine j_iinc (pc := 66) (v := (1 : Int32)) C 5 [(5, _), (0, _), (1, _), (2, _), (3, _), (4, _)] dX8_rehearsals_66 rfl rfl (by decide) rfl ?_
              refine j_goto (pc := 69) C 6 dX8_rehearsals_69 (by decide) ?_
              exact j_weak [1, 2, 3, 4, 5, 0] rfl (ih _ _ _ _ _ _ _ h)
            · refine j_iinc (pc := 63) (v := (1 : Int32)) C 4 [(4, _), (0, _), (1, _), (2, _), (3, _), (5, _)] dX8_rehearsals_63 rfl rfl (by decide) rfl ?_
              refine j_iinc (pc := 66) (v := (1 : Int32)) C 5 [(5, _), (4, _), (0, _), (1, _), (2, _), (3, _)] dX8_rehearsals_66 rfl rfl (by decide) rfl ?_
              refine j_goto (pc := 69) C 6 dX8_rehearsals_69 (by decide) ?_
              exact j_weak [2, 3, 4, 5, 1, 0] rfl (ih _ _ _ _ _ _ _ h)
def w_X8_rehearsals (M : Mm) (x0 : Nat) (x1 : Int32) (x2 : Int32) (x3 : Int32) (P : Int32 → Mm → Prop) : Prop := (∃ n6, l_X8_rehearsals_6 P (fun M8 x4_8 => P x4_8 M8) n6 M x0 x1 x2 x3 (0 : Int32) (0 : Int32))
set_option maxHeartbeats 4000000 in
set_option maxRecDepth 100000 in
theorem c_X8_rehearsals (l : Launch) (E : EV) (M : Mm) (x0 : Nat) (x1 : Int32) (x2 : Int32) (x3 : Int32) (P : Int32 → Mm → Prop) (h : w_X8_rehearsals M x0 x1 x2 x3 P) : CtI l E yX8_rehearsals cX8_rehearsals 6 .int rm_X8_rehearsals 0 0 [.ref x0, .int x1, .int x2, .int x3] M P := by
  refine ctI_of (by decide +kernel) (Nat.le_of_ble_eq_true rfl) ?_
  intro p e s m args below meth c C
  rw [w_X8_rehearsals] at h
  show J p l e rm_X8_rehearsals s m args below meth c (QI below E P args s 0 0) E 6 M 0 0 0 [(0, .ref x0), (1, .int x1), (2, .int x2), (3, .int x3)] []
  refine j_iconst (pc := 0) (v := (0 : Int32)) C dX8_rehearsals_0 rfl ?_
  refine j_istore (pc := 1) C [(4, _), (0, _), (1, _), (2, _), (3, _)] dX8_rehearsals_1 (by decide) rfl ?_
  refine j_iconst (pc := 3) (v := (0 : Int32)) C dX8_rehearsals_3 rfl ?_
  refine j_istore (pc := 4) C [(5, _), (4, _), (0, _), (1, _), (2, _), (3, _)] dX8_rehearsals_4 (by decide) rfl ?_
  obtain ⟨n6, h⟩ := h
  refine j_weak [2, 3, 4, 5, 1, 0] rfl (jl_X8_rehearsals_6 C ⟨Nat.le_of_ble_eq_true rfl, Nat.le_of_ble_eq_true rfl⟩ (fun M8 x4_8 h => ?_) n6 _ _ _ _ _ _ _ h)
  · refine j_iload (pc := 72) C 0 dX8_rehearsals_72 rfl ?_
    exact j_iret (pc := 74) C dX8_rehearsals_74 (Nat.le_of_ble_eq_true rfl) (Nat.le_of_ble_eq_true rfl) h
theorem c2_X8_86 (C : Cx p l s m args meth c cc nL RX8 ret E) {b : Nat} {y0 : Int32} {y1 : Int32} {y2 : Int32} {P : Int32 → Mm → Prop} (hR : rm_X8_rehearsals.frames + 1 ≤ R.frames ∧ 8 + (6 + 11) + rm_X8_rehearsals.locals ≤ R.locals) (hf : kc ≤ R.cells ∧ ks ≤ R.slots) (hst : (st.map fun v => v.category).sum ≤ 8) (d : decode cc pc = .ok (.invokevirtual 86, 3)) (h : zk M b = 8 ∧ w_X8_rehearsals M b y0 y1 y2 P) (kk : ∀ r M', P r M' → J p l e R s m args below meth c Q E nL M' kc ks (pc + 3) lo (.int r :: st)) : J p l e R s m args below meth c Q E nL M kc ks pc lo (.int y2 :: .int y1 :: .int y0 :: .ref b :: st) :=
  j_cV_I (n := 3) (As := [.int y0, .int y1, .int y2]) C co_X8 rfl wd_989 wd_990 h.1 (c_X8_rehearsals l E M b y0 y1 y2 P h.2) ⟨wd_991, wd_988, wd_49, by decide +kernel, by decide +kernel, by decide +kernel⟩ rfl rfl hR hf rfl hst d kk
theorem c2_X8_90 (C : Cx p l s m args meth c cc nL RX8 ret E) {b : Nat} {y0 : Int32} {y1 : Int32} {y2 : Int32} {P : Option Nat → Mm → Prop} {b1 s1 : Nat} (hR : 9 + 1 ≤ R.frames ∧ 8 + (4 + 11) + 247 ≤ R.locals) (hf : kc + b1 ≤ R.cells ∧ ks + s1 ≤ R.slots) (hst : (st.map fun v => v.category).sum ≤ 8) (d : decode cc pc = .ok (.invokevirtual 90, 3)) (h : zk M b = 8 ∧ w_X8_cast M b y0 y1 y2 P b1 s1) (kk : ∀ r M', P r M' → J p l e R s m args below meth c Q E nL M' (kc + b1) (ks + s1) (pc + 3) lo (va_rf r :: st)) : J p l e R s m args below meth c Q E nL M kc ks pc lo (.int y2 :: .int y1 :: .int y0 :: .ref b :: st) :=
  j_cV_N (n := 3) (As := [.int y0, .int y1, .int y2]) C co_X8 rfl wd_1056 wd_1057 h.1 (c_X8_cast l E M b y0 y1 y2 P b1 s1 h.2) ⟨wd_1058, wd_1055, wd_49, by decide +kernel, by decide +kernel, by decide +kernel⟩ rfl rfl hR hf rfl hst d kk
abbrev rm_X8_why (B S : Nat) : Room := { frames := 10, cells := B, slots := S, locals := 270 }
def l_X8_why_25 (B S : Nat) (P : Int32 → Mm → Prop) (K74 : Mm → Nat → Nat → Prop) (K82 : Mm → Nat → Nat → Nat → Int32 → Int32 → Int32 → Int32 → Int32 → Prop) : Nat → Mm → Nat → Nat → Nat → Int32 → Int32 → Int32 → Int32 → Int32 → Int32 → Prop
  | 0, _, _, _, _, _, _, _, _, _, _ => False
  | n + 1, M, b, s, x0, x1, x2, x3, x4, x5, x6 => zk M x0 = 8 ∧ (if (zI M x0 3) ≤ x6 then K82 M b s x0 x1 x2 x3 x4 x5 else (if ((x3 >>> (x6 &&& 31)) &&& (1 : Int32)) = (1 : Int32) then ¬ (3 : Int32) = 0 ∧ (zk M x0 = 8 ∧ ∃ a3, zR M x0 12 = some a3 ∧ (zk M a3 = 14 ∧ vp_in x6 (zl M a3) ∧ ∃ a4, zR M a3 x6.toNatClampNeg = some a4 ∧ zk M a4 = 10 ∧ vp_in (1 : Int32) (zl M a4) ∧ (if (x2 / (3 : Int32)) < (zI M a4 (1 : Int32).toNatClampNeg) then K74 M b s else ¬ (3 : Int32) = 0 ∧ (zk M x0 = 8 ∧ ∃ a5, zR M x0 12 = some a5 ∧ (zk M a5 = 14 ∧ vp_in x6 (zl M a5) ∧ ∃ a6, zR M a5 x6.toNatClampNeg = some a6 ∧ zk M a6 = 10 ∧ vp_in (2 : Int32) (zl M a6) ∧ (if (x2 / (3 : Int32)) ≤ (zI M a6 (2 : Int32).toNatClampNeg) then l_X8_why_25 B S P K74 K82 n M b s x0 x1 x2 x3 x4 x5 (x6 + (1 : Int32)) else K74 M b s)))))) else l_X8_why_25 B S P K74 K82 n M b s x0 x1 x2 x3 x4 x5 (x6 + (1 : Int32))))
set_option maxHeartbeats 4000000 in
set_option maxRecDepth 100000 in
theorem jl_X8_why_25 {s0 : State} {B S : Nat} {P : Int32 → Mm → Prop} {K74 : Mm → Nat → Nat → Prop} {K82 : Mm → Nat → Nat → Nat → Int32 → Int32 → Int32 → Int32 → Int32 → Prop} (C : Cx p l s0 m args meth c cX8_why 7 RX8 (some .int) E) (k74 : ∀ M b s, b ≤ B → s ≤ S → K74 M b s → J p l e (rm_X8_why B S) s0 m args below meth c (QI below E P args s0 B S) E 7 M b s 74 [] []) (k82 : ∀ M b s x0 x1 x2 x3 x4 x5, b ≤ B → s ≤ S → K82 M b s x0 x1 x2 x3 x4 x5 → J p l e (rm_X8_why B S) s0 m args below meth c (QI below E P args s0 B S) E 7 M b s 82 [(0, .ref x0), (1, .int x1), (2, .int x2), (3, .int x3), (4, .int x4), (5, .int x5)] []) : ∀ n M b s x0 x1 x2 x3 x4 x5 x6, b ≤ B → s ≤ S → l_X8_why_25 B S P K74 K82 n M b s x0 x1 x2 x3 x4 x5 x6 → J p l e (rm_X8_why B S) s0 m args below meth c (QI below E P args s0 B S) E 7 M b s 25 [(0, .ref x0), (1, .int x1), (2, .int x2), (3, .int x3), (4, .int x4), (5, .int x5), (6, .int x6)] [] := by
  intro n
  induction n with
  | zero => intro M b s x0 x1 x2 x3 x4 x5 x6 hb hs h; exact h.elim
  | succ n ih =>
    intro M b s x0 x1 x2 x3 x4 x5 x6 hb hs h
    rw [l_X8_why_25] at h
    refine j_iload (pc := 25) C 6 dX8_why_25 rfl ?_
    refine j_aload_n (pc := 27) C 0 dX8_why_27 rfl ?_
    refine gf_X8_77 (pc := 28) C dX8_why_28 h (fun h => ?_)
    refine j_icmp_ge (pc := 31) C 82 dX8_why_31 (by decide) h (fun h => ?_) (fun h => ?_)
    · exact j_weak [0, 1, 2, 3, 4, 5] rfl (k82 _ _ _ _ _ _ _ _ _ hb hs h)
    · refine j_iload_n (pc := 34) C 3 dX8_why_34 rfl ?_
      refine j_iload (pc := 35) C 6 dX8_why_35 rfl ?_
      refine j_ishr (pc := 37) C dX8_why_37 ?_
      refine j_iconst (pc := 38) (v := (1 : Int32)) C dX8_why_38 rfl ?_
      refine j_iand (pc := 39) C dX8_why_39 ?_
      refine j_iconst (pc := 40) (v := (1 : Int32)) C dX8_why_40 rfl ?_
      refine j_icmp_ne (pc := 41) C 76 dX8_why_41 (by decide) h (fun h => ?_) (fun h => ?_)
      · refine j_iinc (pc := 76) (v := (1 : Int32)) C 6 [(6, _), (0, _), (1, _), (2, _), (3, _), (4, _), (5, _)] dX8_why_76 rfl rfl (by decide) rfl ?_
        refine j_goto (pc := 79) C 25 dX8_why_79 (by decide) ?_
        exact j_weak [1, 2, 3, 4, 5, 6, 0] rfl (ih _ _ _ _ _ _ _ _ _ _ hb hs h)
      · refine j_iload_n (pc := 44) C 2 dX8_why_44 rfl ?_
        refine j_iconst (pc := 45) (v := (3 : Int32)) C dX8_why_45 rfl ?_
        refine j_idiv (pc := 46) C dX8_why_46 h (fun h => ?_)
        refine j_aload_n (pc := 47) C 0 dX8_why_47 rfl ?_
        refine gf_X8_27 (pc := 48) C dX8_why_48 h (fun a3 h => ?_)
        refine j_iload (pc := 51) C 6 dX8_why_51 rfl ?_
        refine j_aals (pc := 53) C (by decide) dX8_why_53 h (fun a4 h => ?_)
        refine j_iconst (pc := 54) (v := (1 : Int32)) C dX8_why_54 rfl ?_
        refine j_iald (pc := 55) C dX8_why_55 h (fun h => ?_)
        refine j_icmp_lt (pc := 56) C 74 dX8_why_56 (by decide) h (fun h => ?_) (fun h => ?_)
        · exact j_weak [] rfl (k74 _ _ _  hb hs h)
        · refine j_iload_n (pc := 59) C 2 dX8_why_59 rfl ?_
          refine j_iconst (pc := 60) (v := (3 : Int32)) C dX8_why_60 rfl ?_
          refine j_idiv (pc := 61) C dX8_why_61 h (fun h => ?_)
          refine j_aload_n (pc := 62) C 0 dX8_why_62 rfl ?_
          refine gf_X8_27 (pc := 63) C dX8_why_63 h (fun a5 h => ?_)
          refine j_iload (pc := 66) C 6 dX8_why_66 rfl ?_
          refine j_aals (pc := 68) C (by decide) dX8_why_68 h (fun a6 h => ?_)
          refine j_iconst (pc := 69) (v := (2 : Int32)) C dX8_why_69 rfl ?_
          refine j_iald (pc := 70) C dX8_why_70 h (fun h => ?_)
          refine j_icmp_le (pc := 71) C 76 dX8_why_71 (by decide) h (fun h => ?_) (fun h => ?_)
          · refine j_iinc (pc := 76) (v := (1 : Int32)) C 6 [(6, _), (0, _), (1, _), (2, _), (3, _), (4, _), (5, _)] dX8_why_76 rfl rfl (by decide) rfl ?_
            refine j_goto (pc := 79) C 25 dX8_why_79 (by decide) ?_
            exact j_weak [1, 2, 3, 4, 5, 6, 0] rfl (ih _ _ _ _ _ _ _ _ _ _ hb hs h)
          · exact j_weak [] rfl (k74 _ _ _  hb hs h)
def l_X8_why_85 (B S : Nat) (P : Int32 → Mm → Prop) (K137 : Mm → Nat → Nat → Prop) (K145 : Mm → Nat → Nat → Nat → Int32 → Int32 → Int32 → Int32 → Prop) : Nat → Mm → Nat → Nat → Nat → Int32 → Int32 → Int32 → Int32 → Int32 → Int32 → Prop
  | 0, _, _, _, _, _, _, _, _, _, _ => False
  | n + 1, M, b, s, x0, x1, x2, x3, x4, x5, x6 => zk M x0 = 8 ∧ (if (zI M x0 6) ≤ x6 then K145 M b s x0 x2 x3 x4 x5 else (if x6 = x5 then l_X8_why_85 B S P K137 K145 n M b s x0 x1 x2 x3 x4 x5 (x6 + (1 : Int32)) else (zk M x0 = 8 ∧ ∃ a10, zR M x0 14 = some a10 ∧ (zk M a10 = 14 ∧ vp_in x6 (zl M a10) ∧ ∃ a11, zR M a10 x6.toNatClampNeg = some a11 ∧ zk M a11 = 10 ∧ vp_in (1 : Int32) (zl M a11) ∧ (if (zI M a11 (1 : Int32).toNatClampNeg) = x1 then (zk M x0 = 8 ∧ ∃ a12, zR M x0 14 = some a12 ∧ (zk M a12 = 14 ∧ vp_in x6 (zl M a12) ∧ ∃ a13, zR M a12 x6.toNatClampNeg = some a13 ∧ zk M a13 = 10 ∧ vp_in (0 : Int32) (zl M a13) ∧ (zk M x0 = 8 ∧ ∃ a14, zR M x0 7 = some a14 ∧ zk M a14 = 10 ∧ vp_in x1 (zl M a14) ∧ (if (zI M a14 x1.toNatClampNeg) < (if 0 ≤ ((zI M a13 (0 : Int32).toNatClampNeg) - x2) then ((zI M a13 (0 : Int32).toNatClampNeg) - x2) else 0 - ((zI M a13 (0 : Int32).toNatClampNeg) - x2)) then l_X8_why_85 B S P K137 K145 n M b s x0 x1 x2 x3 x4 x5 (x6 + (1 : Int32)) else K137 M b s)))) else l_X8_why_85 B S P K137 K145 n M b s x0 x1 x2 x3 x4 x5 (x6 + (1 : Int32)))))))
set_option maxHeartbeats 4000000 in
set_option maxRecDepth 100000 in
theorem jl_X8_why_85 {s0 : State} {B S : Nat} {P : Int32 → Mm → Prop} {K137 : Mm → Nat → Nat → Prop} {K145 : Mm → Nat → Nat → Nat → Int32 → Int32 → Int32 → Int32 → Prop} (C : Cx p l s0 m args meth c cX8_why 7 RX8 (some .int) E) (k137 : ∀ M b s, b ≤ B → s ≤ S → K137 M b s → J p l e (rm_X8_why B S) s0 m args below meth c (QI below E P args s0 B S) E 7 M b s 137 [] []) (k145 : ∀ M b s x0 x2 x3 x4 x5, b ≤ B → s ≤ S → K145 M b s x0 x2 x3 x4 x5 → J p l e (rm_X8_why B S) s0 m args below meth c (QI below E P args s0 B S) E 7 M b s 145 [(0, .ref x0), (2, .int x2), (3, .int x3), (4, .int x4), (5, .int x5)] []) : ∀ n M b s x0 x1 x2 x3 x4 x5 x6, b ≤ B → s ≤ S → l_X8_why_85 B S P K137 K145 n M b s x0 x1 x2 x3 x4 x5 x6 → J p l e (rm_X8_why B S) s0 m args below meth c (QI below E P args s0 B S) E 7 M b s 85 [(0, .ref x0), (1, .int x1), (2, .int x2), (3, .int x3), (4, .int x4), (5, .int x5), (6, .int x6)] [] := by
  intro n
  induction n with
  | zero => intro M b s x0 x1 x2 x3 x4 x5 x6 hb hs h; exact h.elim
  | succ n ih =>
    intro M b s x0 x1 x2 x3 x4 x5 x6 hb hs h
    rw [l_X8_why_85] at h
    refine j_iload (pc := 85) C 6 dX8_why_85 rfl ?_
    refine j_aload_n (pc := 87) C 0 dX8_why_87 rfl ?_
    refine gf_X8_41 (pc := 88) C dX8_why_88 h (fun h => ?_)
    refine j_icmp_ge (pc := 91) C 145 dX8_why_91 (by decide) h (fun h => ?_) (fun h => ?_)
    · exact j_weak [0, 2, 3, 4, 5] rfl (k145 _ _ _ _ _ _ _ _ hb hs h)
    · refine j_iload (pc := 94) C 6 dX8_why_94 rfl ?_
      refine j_iload (pc := 96) C 5 dX8_why_96 rfl ?_
      refine j_icmp_eq (pc := 98) C 139 dX8_why_98 (by decide) h (fun h => ?_) (fun h => ?_)
      · refine j_iinc (pc := 139) (v := (1 : Int32)) C 6 [(6, _), (0, _), (1, _), (2, _), (3, _), (4, _), (5, _)] dX8_why_139 rfl rfl (by decide) rfl ?_
        refine j_goto (pc := 142) C 85 dX8_why_142 (by decide) ?_
        exact j_weak [1, 2, 3, 4, 5, 6, 0] rfl (ih _ _ _ _ _ _ _ _ _ _ hb hs h)
      · refine j_aload_n (pc := 101) C 0 dX8_why_101 rfl ?_
        refine gf_X8_33 (pc := 102) C dX8_why_102 h (fun a10 h => ?_)
        refine j_iload (pc := 105) C 6 dX8_why_105 rfl ?_
        refine j_aals (pc := 107) C (by decide) dX8_why_107 h (fun a11 h => ?_)
        refine j_iconst (pc := 108) (v := (1 : Int32)) C dX8_why_108 rfl ?_
        refine j_iald (pc := 109) C dX8_why_109 h (fun h => ?_)
        refine j_iload_n (pc := 110) C 1 dX8_why_110 rfl ?_
        refine j_icmp_ne (pc := 111) C 139 dX8_why_111 (by decide) h (fun h => ?_) (fun h => ?_)
        · refine j_iinc (pc := 139) (v := (1 : Int32)) C 6 [(6, _), (0, _), (1, _), (2, _), (3, _), (4, _), (5, _)] dX8_why_139 rfl rfl (by decide) rfl ?_
          refine j_goto (pc := 142) C 85 dX8_why_142 (by decide) ?_
          exact j_weak [1, 2, 3, 4, 5, 6, 0] rfl (ih _ _ _ _ _ _ _ _ _ _ hb hs h)
        · refine j_aload_n (pc := 114) C 0 dX8_why_114 rfl ?_
          refine gf_X8_33 (pc := 115) C dX8_why_115 h (fun a12 h => ?_)
          refine j_iload (pc := 118) C 6 dX8_why_118 rfl ?_
          refine j_aals (pc := 120) C (by decide) dX8_why_120 h (fun a13 h => ?_)
          refine j_iconst (pc := 121) (v := (0 : Int32)) C dX8_why_121 rfl ?_
          refine j_iald (pc := 122) C dX8_why_122 h (fun h => ?_)
          refine j_iload_n (pc := 123) C 2 dX8_why_123 rfl ?_
          refine j_isub (pc := 124) C dX8_why_124 ?_
          refine j_mabs (pc := 125) C wd_1052 wd_1053 wd_51 wd_1054 dX8_why_125 (Nat.le_of_ble_eq_true rfl) (Nat.le_of_ble_eq_true rfl) ⟨hb, hs⟩ ?_
          refine j_aload_n (pc := 128) C 0 dX8_why_128 rfl ?_
          refine gf_X8_7 (pc := 129) C dX8_why_129 h (fun a14 h => ?_)
          refine j_iload_n (pc := 132) C 1 dX8_why_132 rfl ?_
          refine j_iald (pc := 133) C dX8_why_133 h (fun h => ?_)
          refine j_icmp_gt (pc := 134) C 139 dX8_why_134 (by decide) h (fun h => ?_) (fun h => ?_)
          · refine j_iinc (pc := 139) (v := (1 : Int32)) C 6 [(6, _), (0, _), (1, _), (2, _), (3, _), (4, _), (5, _)] dX8_why_139 rfl rfl (by decide) rfl ?_
            refine j_goto (pc := 142) C 85 dX8_why_142 (by decide) ?_
            exact j_weak [1, 2, 3, 4, 5, 6, 0] rfl (ih _ _ _ _ _ _ _ _ _ _ hb hs h)
          · exact j_weak [] rfl (k137 _ _ _  hb hs h)
def l_X8_why_148 (B S : Nat) (P : Int32 → Mm → Prop) (K193 : Mm → Nat → Nat → Prop) (K201 : Mm → Nat → Nat → Nat → Int32 → Int32 → Int32 → Prop) : Nat → Mm → Nat → Nat → Nat → Int32 → Int32 → Int32 → Int32 → Int32 → Prop
  | 0, _, _, _, _, _, _, _, _, _ => False
  | n + 1, M, b, s, x0, x2, x3, x4, x5, x6 => zk M x0 = 8 ∧ (if (zI M x0 3) ≤ x6 then K201 M b s x0 x2 x3 x5 else (if ((x3 >>> (x6 &&& 31)) &&& (1 : Int32)) = (1 : Int32) then (if x4 = 0 then l_X8_why_148 B S P K193 K201 n M b s x0 x2 x3 x4 x5 (x6 + (1 : Int32)) else zk M x0 = 8 ∧ w_X8_rehearsals M x0 x6 x2 x5 (fun r18 M18 => (zk M18 x0 = 8 ∧ ∃ a19, zR M18 x0 12 = some a19 ∧ (zk M18 a19 = 14 ∧ vp_in x6 (zl M18 a19) ∧ ∃ a20, zR M18 a19 x6.toNatClampNeg = some a20 ∧ zk M18 a20 = 10 ∧ vp_in (0 : Int32) (zl M18 a20) ∧ (if (zI M18 a20 (0 : Int32).toNatClampNeg) ≤ r18 then l_X8_why_148 B S P K193 K201 n M18 b s x0 x2 x3 x4 x5 (x6 + (1 : Int32)) else K193 M18 b s))))) else l_X8_why_148 B S P K193 K201 n M b s x0 x2 x3 x4 x5 (x6 + (1 : Int32))))
set_option maxHeartbeats 4000000 in
set_option maxRecDepth 100000 in
theorem jl_X8_why_148 {s0 : State} {B S : Nat} {P : Int32 → Mm → Prop} {K193 : Mm → Nat → Nat → Prop} {K201 : Mm → Nat → Nat → Nat → Int32 → Int32 → Int32 → Prop} (C : Cx p l s0 m args meth c cX8_why 7 RX8 (some .int) E) (k193 : ∀ M b s, b ≤ B → s ≤ S → K193 M b s → J p l e (rm_X8_why B S) s0 m args below meth c (QI below E P args s0 B S) E 7 M b s 193 [] []) (k201 : ∀ M b s x0 x2 x3 x5, b ≤ B → s ≤ S → K201 M b s x0 x2 x3 x5 → J p l e (rm_X8_why B S) s0 m args below meth c (QI below E P args s0 B S) E 7 M b s 201 [(0, .ref x0), (2, .int x2), (3, .int x3), (5, .int x5)] []) : ∀ n M b s x0 x2 x3 x4 x5 x6, b ≤ B → s ≤ S → l_X8_why_148 B S P K193 K201 n M b s x0 x2 x3 x4 x5 x6 → J p l e (rm_X8_why B S) s0 m args below meth c (QI below E P args s0 B S) E 7 M b s 148 [(0, .ref x0), (2, .int x2), (3, .int x3), (4, .int x4), (5, .int x5), (6, .int x6)] [] := by
  intro n
  induction n with
  | zero => intro M b s x0 x2 x3 x4 x5 x6 hb hs h; exact h.elim
  | succ n ih =>
    intro M b s x0 x2 x3 x4 x5 x6 hb hs h
    rw [l_X8_why_148] at h
    refine j_iload (pc := 148) C 5 dX8_why_148 rfl ?_
    refine j_aload_n (pc := 150) C 0 dX8_why_150 rfl ?_
    refine gf_X8_77 (pc := 151) C dX8_why_151 h (fun h => ?_)
    refine j_icmp_ge (pc := 154) C 201 dX8_why_154 (by decide) h (fun h => ?_) (fun h => ?_)
    · exact j_weak [0, 1, 2, 4] rfl (k201 _ _ _ _ _ _ _ hb hs h)
    · refine j_iload_n (pc := 157) C 2 dX8_why_157 rfl ?_
      refine j_iload (pc := 158) C 5 dX8_why_158 rfl ?_
      refine j_ishr (pc := 160) C dX8_why_160 ?_
      refine j_iconst (pc := 161) (v := (1 : Int32)) C dX8_why_161 rfl ?_
      refine j_iand (pc := 162) C dX8_why_162 ?_
      refine j_iconst (pc := 163) (v := (1 : Int32)) C dX8_why_163 rfl ?_
      refine j_icmp_ne (pc := 164) C 195 dX8_why_164 (by decide) h (fun h => ?_) (fun h => ?_)
      · refine j_iinc (pc := 195) (v := (1 : Int32)) C 5 [(6, _), (0, _), (2, _), (3, _), (4, _), (5, _)] dX8_why_195 rfl rfl (by decide) rfl ?_
        refine j_goto (pc := 198) C 148 dX8_why_198 (by decide) ?_
        exact j_weak [1, 2, 3, 4, 5, 0] rfl (ih _ _ _ _ _ _ _ _ _ hb hs h)
      · refine j_iload (pc := 167) C 3 dX8_why_167 rfl ?_
        refine j_if_eq (pc := 169) C 195 dX8_why_169 (by decide) h (fun h => ?_) (fun h => ?_)
        · refine j_iinc (pc := 195) (v := (1 : Int32)) C 5 [(6, _), (0, _), (2, _), (3, _), (4, _), (5, _)] dX8_why_195 rfl rfl (by decide) rfl ?_
          refine j_goto (pc := 198) C 148 dX8_why_198 (by decide) ?_
          exact j_weak [1, 2, 3, 4, 5, 0] rfl (ih _ _ _ _ _ _ _ _ _ hb hs h)
        · refine j_aload_n (pc := 172) C 0 dX8_why_172 rfl ?_
          refine j_iload (pc := 173) C 5 dX8_why_173 rfl ?_
          refine j_iload_n (pc := 175) C 1 dX8_why_175 rfl ?_
          refine j_iload (pc := 176) C 4 dX8_why_176 rfl ?_
          refine c2_X8_86 (pc := 178) C ⟨(Nat.le_of_ble_eq_true rfl), (Nat.le_of_ble_eq_true rfl)⟩ ⟨hb, hs⟩ (Nat.le_of_ble_eq_true rfl) dX8_why_178 h (fun r18 M18 h => ?_)
          refine j_aload_n (pc := 181) C 0 dX8_why_181 rfl ?_
          refine gf_X8_27 (pc := 182) C dX8_why_182 h (fun a19 h => ?_)
          refine j_iload (pc := 185) C 5 dX8_why_185 rfl ?_
          refine j_aals (pc := 187) C (by decide) dX8_why_187 h (fun a20 h => ?_)
          refine j_iconst (pc := 188) (v := (0 : Int32)) C dX8_why_188 rfl ?_
          refine j_iald (pc := 189) C dX8_why_189 h (fun h => ?_)
          refine j_icmp_ge (pc := 190) C 195 dX8_why_190 (by decide) h (fun h => ?_) (fun h => ?_)
          · refine j_iinc (pc := 195) (v := (1 : Int32)) C 5 [(6, _), (0, _), (2, _), (3, _), (4, _), (5, _)] dX8_why_195 rfl rfl (by decide) rfl ?_
            refine j_goto (pc := 198) C 148 dX8_why_198 (by decide) ?_
            exact j_weak [1, 2, 3, 4, 5, 0] rfl (ih _ _ _ _ _ _ _ _ _ hb hs h)
          · exact j_weak [] rfl (k193 _ _ _  hb hs h)
def l_X8_why_204 (B S : Nat) (P : Int32 → Mm → Prop) (K235 : Mm → Nat → Nat → Prop) (K243 : Mm → Nat → Nat → Prop) : Nat → Mm → Nat → Nat → Nat → Int32 → Int32 → Int32 → Int32 → Prop
  | 0, _, _, _, _, _, _, _, _ => False
  | n + 1, M, b, s, x0, x2, x3, x5, x6 => zk M x0 = 8 ∧ (if (zI M x0 3) ≤ x6 then K243 M b s else (if ((x3 >>> (x6 &&& 31)) &&& (1 : Int32)) = (1 : Int32) then ∃ b24 s24, b + b24 ≤ B ∧ s + s24 ≤ S ∧ zk M x0 = 8 ∧ w_X8_cast M x0 x6 x2 x5 (fun r24 M24 => (∀ a24, r24 = some a24 → l_X8_why_204 B S P K235 K243 n M24 (b + b24) (s + s24) x0 x2 x3 x5 (x6 + (1 : Int32))) ∧ (r24 = none → K235 M24 (b + b24) (s + s24))) b24 s24 else l_X8_why_204 B S P K235 K243 n M b s x0 x2 x3 x5 (x6 + (1 : Int32))))
set_option maxHeartbeats 4000000 in
set_option maxRecDepth 100000 in
theorem jl_X8_why_204 {s0 : State} {B S : Nat} {P : Int32 → Mm → Prop} {K235 : Mm → Nat → Nat → Prop} {K243 : Mm → Nat → Nat → Prop} (C : Cx p l s0 m args meth c cX8_why 7 RX8 (some .int) E) (k235 : ∀ M b s, b ≤ B → s ≤ S → K235 M b s → J p l e (rm_X8_why B S) s0 m args below meth c (QI below E P args s0 B S) E 7 M b s 235 [] []) (k243 : ∀ M b s, b ≤ B → s ≤ S → K243 M b s → J p l e (rm_X8_why B S) s0 m args below meth c (QI below E P args s0 B S) E 7 M b s 243 [] []) : ∀ n M b s x0 x2 x3 x5 x6, b ≤ B → s ≤ S → l_X8_why_204 B S P K235 K243 n M b s x0 x2 x3 x5 x6 → J p l e (rm_X8_why B S) s0 m args below meth c (QI below E P args s0 B S) E 7 M b s 204 [(0, .ref x0), (2, .int x2), (3, .int x3), (5, .int x5), (6, .int x6)] [] := by
  intro n
  induction n with
  | zero => intro M b s x0 x2 x3 x5 x6 hb hs h; exact h.elim
  | succ n ih =>
    intro M b s x0 x2 x3 x5 x6 hb hs h
    rw [l_X8_why_204] at h
    refine j_iload (pc := 204) C 4 dX8_why_204 rfl ?_
    refine j_aload_n (pc := 206) C 0 dX8_why_206 rfl ?_
    refine gf_X8_77 (pc := 207) C dX8_why_207 h (fun h => ?_)
    refine j_icmp_ge (pc := 210) C 243 dX8_why_210 (by decide) h (fun h => ?_) (fun h => ?_)
    · exact j_weak [] rfl (k243 _ _ _  hb hs h)
    · refine j_iload_n (pc := 213) C 2 dX8_why_213 rfl ?_
      refine j_iload (pc := 214) C 4 dX8_why_214 rfl ?_
      refine j_ishr (pc := 216) C dX8_why_216 ?_
      refine j_iconst (pc := 217) (v := (1 : Int32)) C dX8_why_217 rfl ?_
      refine j_iand (pc := 218) C dX8_why_218 ?_
      refine j_iconst (pc := 219) (v := (1 : Int32)) C dX8_why_219 rfl ?_
      refine j_icmp_ne (pc := 220) C 237 dX8_why_220 (by decide) h (fun h => ?_) (fun h => ?_)
      · refine j_iinc (pc := 237) (v := (1 : Int32)) C 4 [(6, _), (0, _), (2, _), (3, _), (5, _)] dX8_why_237 rfl rfl (by decide) rfl ?_
        refine j_goto (pc := 240) C 204 dX8_why_240 (by decide) ?_
        exact j_weak [1, 2, 3, 4, 0] rfl (ih _ _ _ _ _ _ _ _ hb hs h)
      · refine j_aload_n (pc := 223) C 0 dX8_why_223 rfl ?_
        refine j_iload (pc := 224) C 4 dX8_why_224 rfl ?_
        refine j_iload_n (pc := 226) C 1 dX8_why_226 rfl ?_
        refine j_iload (pc := 227) C 3 dX8_why_227 rfl ?_
        obtain ⟨b24, s24, hb, hs, h⟩ := h
        refine c2_X8_90 (pc := 229) C ⟨(Nat.le_of_ble_eq_true rfl), (Nat.le_of_ble_eq_true rfl)⟩ ⟨hb, hs⟩ (Nat.le_of_ble_eq_true rfl) dX8_why_229 h (fun r24 M24 h => ?_)
        obtain ⟨h1_24, h0_24⟩ := h
        rcases r24 with _ | a24
        · have h := h0_24 rfl
          refine j_ifnnN (pc := 232) C dX8_why_232 ?_
          exact j_weak [] rfl (k235 _ _ _  hb hs h)
        · have h := h1_24 a24 rfl
          refine j_ifnnA (pc := 232) C 237 dX8_why_232 (by decide) ?_
          refine j_iinc (pc := 237) (v := (1 : Int32)) C 4 [(6, _), (0, _), (2, _), (3, _), (5, _)] dX8_why_237 rfl rfl (by decide) rfl ?_
          refine j_goto (pc := 240) C 204 dX8_why_240 (by decide) ?_
          exact j_weak [1, 2, 3, 4, 0] rfl (ih _ _ _ _ _ _ _ _ hb hs h)
def w_X8_why (M : Mm) (x0 : Nat) (x1 : Int32) (x2 : Int32) (x3 : Int32) (x4 : Int32) (x5 : Int32) (P : Int32 → Mm → Prop) (B S : Nat) : Prop := zk M x0 = 8 ∧ (if x5 < 0 then (if ((zI M x0 6) - (0 : Int32)) = (20 : Int32) then P (1 : Int32) M else (∃ n25, l_X8_why_25 B S P (fun M7 b7 s7 => P (2 : Int32) M7) (fun M8 b8 s8 x0_8 x1_8 x2_8 x3_8 x4_8 x5_8 => (∃ n85, l_X8_why_85 B S P (fun M15 b15 s15 => P (3 : Int32) M15) (fun M16 b16 s16 x0_16 x2_16 x3_16 x4_16 x5_16 => (∃ n148, l_X8_why_148 B S P (fun M21 b21 s21 => P (4 : Int32) M21) (fun M22 b22 s22 x0_22 x2_22 x3_22 x5_22 => (∃ n204, l_X8_why_204 B S P (fun M25 b25 s25 => P (5 : Int32) M25) (fun M26 b26 s26 => P (0 : Int32) M26) n204 M22 b22 s22 x0_22 x2_22 x3_22 x5_22 (0 : Int32))) n148 M16 b16 s16 x0_16 x2_16 x3_16 x4_16 x5_16 (0 : Int32))) n85 M8 b8 s8 x0_8 x1_8 x2_8 x3_8 x4_8 x5_8 (0 : Int32))) n25 M 0 0 x0 x1 x2 x3 x4 x5 (0 : Int32))) else (if ((zI M x0 6) - (1 : Int32)) = (20 : Int32) then P (1 : Int32) M else (∃ n25, l_X8_why_25 B S P (fun M27 b27 s27 => P (2 : Int32) M27) (fun M28 b28 s28 x0_28 x1_28 x2_28 x3_28 x4_28 x5_28 => (∃ n85, l_X8_why_85 B S P (fun M29 b29 s29 => P (3 : Int32) M29) (fun M30 b30 s30 x0_30 x2_30 x3_30 x4_30 x5_30 => (∃ n148, l_X8_why_148 B S P (fun M31 b31 s31 => P (4 : Int32) M31) (fun M32 b32 s32 x0_32 x2_32 x3_32 x5_32 => (∃ n204, l_X8_why_204 B S P (fun M33 b33 s33 => P (5 : Int32) M33) (fun M34 b34 s34 => P (0 : Int32) M34) n204 M32 b32 s32 x0_32 x2_32 x3_32 x5_32 (0 : Int32))) n148 M30 b30 s30 x0_30 x2_30 x3_30 x4_30 x5_30 (0 : Int32))) n85 M28 b28 s28 x0_28 x1_28 x2_28 x3_28 x4_28 x5_28 (0 : Int32))) n25 M 0 0 x0 x1 x2 x3 x4 x5 (0 : Int32))))
set_option maxHeartbeats 4000000 in
set_option maxRecDepth 100000 in
theorem c_X8_why (l : Launch) (E : EV) (M : Mm) (x0 : Nat) (x1 : Int32) (x2 : Int32) (x3 : Int32) (x4 : Int32) (x5 : Int32) (P : Int32 → Mm → Prop) (B S : Nat) (h : w_X8_why M x0 x1 x2 x3 x4 x5 P B S) : CtI l E yX8_why cX8_why 7 .int (rm_X8_why B S) B S [.ref x0, .int x1, .int x2, .int x3, .int x4, .int x5] M P := by
  refine ctI_of (by decide +kernel) (Nat.le_of_ble_eq_true rfl) ?_
  intro p e s m args below meth c C
  rw [w_X8_why] at h
  have hb : 0 ≤ B := Nat.zero_le _
  have hs : 0 ≤ S := Nat.zero_le _
  show J p l e (rm_X8_why B S) s m args below meth c (QI below E P args s B S) E 7 M 0 0 0 [(0, .ref x0), (1, .int x1), (2, .int x2), (3, .int x3), (4, .int x4), (5, .int x5)] []
  refine j_aload_n (pc := 0) C 0 dX8_why_0 rfl ?_
  refine gf_X8_41 (pc := 1) C dX8_why_1 h (fun h => ?_)
  refine j_iload (pc := 4) C 5 dX8_why_4 rfl ?_
  refine j_if_lt (pc := 6) C 13 dX8_why_6 (by decide) h (fun h => ?_) (fun h => ?_)
  · refine j_iconst (pc := 13) (v := (0 : Int32)) C dX8_why_13 rfl ?_
    refine j_isub (pc := 14) C dX8_why_14 ?_
    refine j_bipush (pc := 15) (v := (20 : Int32)) C dX8_why_15 rfl ?_
    refine j_icmp_ne (pc := 17) C 22 dX8_why_17 (by decide) h (fun h => ?_) (fun h => ?_)
    · refine j_iconst (pc := 22) (v := (0 : Int32)) C dX8_why_22 rfl ?_
      refine j_istore (pc := 23) C [(6, _), (0, _), (1, _), (2, _), (3, _), (4, _), (5, _)] dX8_why_23 (by decide) rfl ?_
      obtain ⟨n25, h⟩ := h
      refine j_weak [1, 2, 3, 4, 5, 6, 0] rfl (jl_X8_why_25 C (fun M7 b7 s7 hb hs h => ?_) (fun M8 b8 s8 x0_8 x1_8 x2_8 x3_8 x4_8 x5_8 hb hs h => ?_) n25 _ _ _ _ _ _ _ _ _ _ hb hs h)
      · refine j_iconst (pc := 74) (v := (2 : Int32)) C dX8_why_74 rfl ?_
        exact j_iret (pc := 75) C dX8_why_75 hb hs h
      · refine j_iconst (pc := 82) (v := (0 : Int32)) C dX8_why_82 rfl ?_
        refine j_istore (pc := 83) C [(6, _), (0, _), (1, _), (2, _), (3, _), (4, _), (5, _)] dX8_why_83 (by decide) rfl ?_
        obtain ⟨n85, h⟩ := h
        refine j_weak [1, 2, 3, 4, 5, 6, 0] rfl (jl_X8_why_85 C (fun M15 b15 s15 hb hs h => ?_) (fun M16 b16 s16 x0_16 x2_16 x3_16 x4_16 x5_16 hb hs h => ?_) n85 _ _ _ _ _ _ _ _ _ _ hb hs h)
        · refine j_iconst (pc := 137) (v := (3 : Int32)) C dX8_why_137 rfl ?_
          exact j_iret (pc := 138) C dX8_why_138 hb hs h
        · refine j_iconst (pc := 145) (v := (0 : Int32)) C dX8_why_145 rfl ?_
          refine j_istore (pc := 146) C [(6, _), (0, _), (2, _), (3, _), (4, _), (5, _)] dX8_why_146 (by decide) rfl ?_
          obtain ⟨n148, h⟩ := h
          refine j_weak [1, 2, 3, 4, 5, 0] rfl (jl_X8_why_148 C (fun M21 b21 s21 hb hs h => ?_) (fun M22 b22 s22 x0_22 x2_22 x3_22 x5_22 hb hs h => ?_) n148 _ _ _ _ _ _ _ _ _ hb hs h)
          · refine j_iconst (pc := 193) (v := (4 : Int32)) C dX8_why_193 rfl ?_
            exact j_iret (pc := 194) C dX8_why_194 hb hs h
          · refine j_iconst (pc := 201) (v := (0 : Int32)) C dX8_why_201 rfl ?_
            refine j_istore (pc := 202) C [(6, _), (0, _), (2, _), (3, _), (5, _)] dX8_why_202 (by decide) rfl ?_
            obtain ⟨n204, h⟩ := h
            refine j_weak [1, 2, 3, 4, 0] rfl (jl_X8_why_204 C (fun M25 b25 s25 hb hs h => ?_) (fun M26 b26 s26 hb hs h => ?_) n204 _ _ _ _ _ _ _ _ hb hs h)
            · refine j_iconst (pc := 235) (v := (5 : Int32)) C dX8_why_235 rfl ?_
              exact j_iret (pc := 236) C dX8_why_236 hb hs h
            · refine j_iconst (pc := 243) (v := (0 : Int32)) C dX8_why_243 rfl ?_
              exact j_iret (pc := 244) C dX8_why_244 hb hs h
    · refine j_iconst (pc := 20) (v := (1 : Int32)) C dX8_why_20 rfl ?_
      exact j_iret (pc := 21) C dX8_why_21 hb hs h
  · refine j_iconst (pc := 9) (v := (1 : Int32)) C dX8_why_9 rfl ?_
    refine j_goto (pc := 10) C 14 dX8_why_10 (by decide) ?_
    refine j_isub (pc := 14) C dX8_why_14 ?_
    refine j_bipush (pc := 15) (v := (20 : Int32)) C dX8_why_15 rfl ?_
    refine j_icmp_ne (pc := 17) C 22 dX8_why_17 (by decide) h (fun h => ?_) (fun h => ?_)
    · refine j_iconst (pc := 22) (v := (0 : Int32)) C dX8_why_22 rfl ?_
      refine j_istore (pc := 23) C [(6, _), (0, _), (1, _), (2, _), (3, _), (4, _), (5, _)] dX8_why_23 (by decide) rfl ?_
      obtain ⟨n25, h⟩ := h
      refine j_weak [1, 2, 3, 4, 5, 6, 0] rfl (jl_X8_why_25 C (fun M27 b27 s27 hb hs h => ?_) (fun M28 b28 s28 x0_28 x1_28 x2_28 x3_28 x4_28 x5_28 hb hs h => ?_) n25 _ _ _ _ _ _ _ _ _ _ hb hs h)
      · refine j_iconst (pc := 74) (v := (2 : Int32)) C dX8_why_74 rfl ?_
        exact j_iret (pc := 75) C dX8_why_75 hb hs h
      · refine j_iconst (pc := 82) (v := (0 : Int32)) C dX8_why_82 rfl ?_
        refine j_istore (pc := 83) C [(6, _), (0, _), (1, _), (2, _), (3, _), (4, _), (5, _)] dX8_why_83 (by decide) rfl ?_
        obtain ⟨n85, h⟩ := h
        refine j_weak [1, 2, 3, 4, 5, 6, 0] rfl (jl_X8_why_85 C (fun M29 b29 s29 hb hs h => ?_) (fun M30 b30 s30 x0_30 x2_30 x3_30 x4_30 x5_30 hb hs h => ?_) n85 _ _ _ _ _ _ _ _ _ _ hb hs h)
        · refine j_iconst (pc := 137) (v := (3 : Int32)) C dX8_why_137 rfl ?_
          exact j_iret (pc := 138) C dX8_why_138 hb hs h
        · refine j_iconst (pc := 145) (v := (0 : Int32)) C dX8_why_145 rfl ?_
          refine j_istore (pc := 146) C [(6, _), (0, _), (2, _), (3, _), (4, _), (5, _)] dX8_why_146 (by decide) rfl ?_
          obtain ⟨n148, h⟩ := h
          refine j_weak [1, 2, 3, 4, 5, 0] rfl (jl_X8_why_148 C (fun M31 b31 s31 hb hs h => ?_) (fun M32 b32 s32 x0_32 x2_32 x3_32 x5_32 hb hs h => ?_) n148 _ _ _ _ _ _ _ _ _ hb hs h)
          · refine j_iconst (pc := 193) (v := (4 : Int32)) C dX8_why_193 rfl ?_
            exact j_iret (pc := 194) C dX8_why_194 hb hs h
          · refine j_iconst (pc := 201) (v := (0 : Int32)) C dX8_why_201 rfl ?_
            refine j_istore (pc := 202) C [(6, _), (0, _), (2, _), (3, _), (5, _)] dX8_why_202 (by decide) rfl ?_
            obtain ⟨n204, h⟩ := h
            refine j_weak [1, 2, 3, 4, 0] rfl (jl_X8_why_204 C (fun M33 b33 s33 hb hs h => ?_) (fun M34 b34 s34 hb hs h => ?_) n204 _ _ _ _ _ _ _ _ hb hs h)
            · refine j_iconst (pc := 235) (v := (5 : Int32)) C dX8_why_235 rfl ?_
              exact j_iret (pc := 236) C dX8_why_236 hb hs h
            · refine j_iconst (pc := 243) (v := (0 : Int32)) C dX8_why_243 rfl ?_
              exact j_iret (pc := 244) C dX8_why_244 hb hs h
    · refine j_iconst (pc := 20) (v := (1 : Int32)) C dX8_why_20 rfl ?_
      exact j_iret (pc := 21) C dX8_why_21 hb hs h
end GL0
