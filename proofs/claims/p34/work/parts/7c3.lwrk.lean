/-! THE ROOM: the works of a class: where they are drawn, their seats in one number -/
section WRK
theorem nxn_add (G a : Nat) : ∀ b, nxn (nxn G a) b = nxn G (a + b)
  | 0 => rfl
  | b + 1 => by rw [nxn_s, nxn_add G a b, ← Nat.add_assoc, nxn_s]
/-- a state far ahead at once -/
def Ajr (j : Nat) : Nat := Nat.rec (motive := fun _ => Nat) 1 (fun _ y => Nat.mod (Nat.mul y 1664525) 4294967296) j
def Bjr (j : Nat) : Nat := Nat.rec (motive := fun _ => Nat) 0 (fun _ y => nxr y) j
def jmp (T j : Nat) : Nat := Nat.mod (Nat.add (Nat.mul T (Ajr j)) (Bjr j)) 4294967296
theorem Ajr_s (j : Nat) : Ajr (j + 1) = Ajr j * 1664525 % 4294967296 := rfl
theorem Bjr_s (j : Nat) : Bjr (j + 1) = (Bjr j * 1664525 + 1013904223) % 4294967296 := rfl
theorem jmp_m (T a b : Nat) : ((T * a + b) % 4294967296 * 1664525 + 1013904223) % 4294967296 = (T * (a * 1664525 % 4294967296) + (b * 1664525 + 1013904223) % 4294967296) % 4294967296 := by
  have e : T * (a * 1664525 % 4294967296) % 4294967296 = (T * a) * 1664525 % 4294967296 := by
    rw [Nat.mul_mod, Nat.mod_mod, ← Nat.mul_mod, Nat.mul_assoc]
  generalize T * (a * 1664525 % 4294967296) = X at e ⊢
  generalize T * a = Y at e ⊢
  omega
theorem jmp_e {T : Nat} (hT : T < 4294967296) : ∀ j, jmp T j = nxn T j
  | 0 => by
    show (T * 1 + 0) % 4294967296 = T
    omega
  | j + 1 => by
    rw [nxn_s, ← jmp_e hT j, nx_e2]
    show (T * Ajr (j + 1) + Bjr (j + 1)) % 4294967296 = ((T * Ajr j + Bjr j) % 4294967296 * 1664525 + 1013904223) % 4294967296
    rw [Ajr_s, Bjr_s, jmp_m]
/-- where work w is drawn, the works behind position e -/
def jwk (c e w : Nat) : Nat := Nat.rec (motive := fun _ => Nat) e (fun _ y => Nat.add (Nat.add y 6) (db c (Nat.add y 5) 4)) w
theorem jwk_s (c e w : Nat) : jwk c e (w + 1) = jwk c e w + 6 + db c (jwk c e w + 5) 4 := rfl
theorem wLn_T {T c : Nat} (hc : T % 1024 = c) (y : Nat) : wLn (nxn T y) = 1 + db c (y + 5) 4 := by
  rw [← db_4 hc (y + 5)]; rfl
theorem itw_T {T c : Nat} (hc : T % 1024 = c) (e : Nat) : ∀ w, itw w (nxn T e) = nxn T (jwk c e w)
  | 0 => rfl
  | w + 1 => by
    rw [itw_s, itw_T hc e w, jwk_s]
    show nxn (nxn T (jwk c e w + 5)) (wLn (nxn T (jwk c e w))) = _
    rw [wLn_T hc, nxn_add]
    congr 1
    omega
theorem wFi_T {T c : Nat} (hc : T % 1024 = c) (y : Nat) : wFi (nxn T y) = db c (y + 1) 2 := db_2 hc (y + 1)
theorem wLa_T {T c : Nat} (hc : T % 1024 = c) (d y : Nat) : wLa d (nxn T y) = if db c (y + 1) 2 < d - 1 - db c (y + 2) 2 then d - 1 - db c (y + 2) 2 else db c (y + 1) 2 := by
  rw [← db_2 hc (y + 1), ← db_2 hc (y + 2)]; rfl
theorem wNd_T (T y : Nat) : wNd (nxn T y) = dvr (nxn T (y + 3)) 3 := rfl
/-- a list of seats in one number -/
def cdl : List Nat → Nat
  | [] => 0
  | k :: l => 8 ^ k + cdl l
theorem cdl_app (k : Nat) : ∀ l, cdl (l ++ [k]) = cdl l + 8 ^ k
  | [] => by
    show 8 ^ k + 0 = 0 + 8 ^ k
    omega
  | x :: l => by
    show 8 ^ x + cdl (l ++ [k]) = 8 ^ x + cdl l + 8 ^ k
    rw [cdl_app k l]; omega
def cdS (dg : Nat → Nat) (y len : Nat) : Nat := Nat.rec (motive := fun _ => Nat) 0 (fun i x => Nat.add x (Nat.pow 8 (dg (Nat.add (Nat.add y 6) i)))) len
theorem cdS_s (dg : Nat → Nat) (y i : Nat) : cdS dg y (i + 1) = cdS dg y i + 8 ^ dg (y + 6 + i) := rfl
theorem cdS_e {dg : Nat → Nat} {T kc y : Nat} : ∀ len, (∀ i, i < len → dvr (nxn T (y + 6 + i)) kc = dg (y + 6 + i)) → cdS dg y len = cdl (sts (nxn T (y + 5)) kc len)
  | 0, _ => rfl
  | i + 1, h => by
    rw [cdS_s, cdS_e i fun k hk => h k (by omega)]
    show _ = cdl (sts (nxn T (y + 5)) kc i ++ [drw (nxn (nxn T (y + 5)) i) kc])
    rw [cdl_app, nxn_add, ← h i (by omega), show y + 6 + i = y + 5 + i + 1 by omega]; rfl
/-- the list of a number -/
def rpl (k n : Nat) (t : List Nat) : List Nat := Nat.rec (motive := fun _ => List Nat) t (fun _ l => k :: l) n
theorem rpl_s (k n : Nat) (t : List Nat) : rpl k (n + 1) t = k :: rpl k n t := rfl
theorem rpl_mid (k x : Nat) (t : List Nat) : ∀ n, List.Perm (rpl k n (x :: t)) (x :: rpl k n t)
  | 0 => List.Perm.refl _
  | n + 1 => (List.Perm.cons k (rpl_mid k x t n)).trans (List.Perm.swap x k _)
theorem rpl_perm (k : Nat) {t u : List Nat} (h : List.Perm t u) : ∀ n, List.Perm (rpl k n t) (rpl k n u)
  | 0 => h
  | n + 1 => List.Perm.cons k (rpl_perm k h n)
def uls (C : Nat) : List Nat := rpl 0 (un C 0) (rpl 1 (un C 1) (rpl 2 (un C 2) (rpl 3 (un C 3) [])))
theorem uls_add {C q k : Nat} (h : Bd C q) (hq : q ≤ 6) (hk : k < 4) : List.Perm (k :: uls C) (uls (C + 8 ^ k)) := by
  obtain ⟨u, -⟩ := un_add (Bd_s h) (by omega) hk (by have := un_le h k hk; omega)
  unfold uls
  rw [u 0, u 1, u 2, u 3]
  have c : k = 0 ∨ k = 1 ∨ k = 2 ∨ k = 3 := by omega
  rcases c with rfl | rfl | rfl | rfl
  · rw [if_pos rfl, if_neg (by omega), if_neg (by omega), if_neg (by omega)]
    exact List.Perm.refl _
  · rw [if_neg (by omega), if_pos rfl, if_neg (by omega), if_neg (by omega)]
    exact (rpl_mid 0 1 _ _).symm
  · rw [if_neg (by omega), if_neg (by omega), if_pos rfl, if_neg (by omega)]
    exact ((rpl_perm 0 (rpl_mid 1 2 _ _) _).trans (rpl_mid 0 2 _ _)).symm
  · rw [if_neg (by omega), if_neg (by omega), if_neg (by omega), if_pos rfl]
    exact ((rpl_perm 0 ((rpl_perm 1 (rpl_mid 2 3 _ _) _).trans (rpl_mid 1 3 _ _)) _).trans (rpl_mid 0 3 _ _)).symm
theorem Bd_cdl : ∀ l : List Nat, l.length ≤ 7 → (∀ x, x ∈ l → x < 4) → Bd (cdl l) l.length
  | [], _, _ => ⟨by show 0 % 8 ≤ 0; omega, by show 0 / 8 % 8 ≤ 0; omega, by show 0 / 64 % 8 ≤ 0; omega, by show 0 / 512 ≤ 0; omega⟩
  | k :: l, h, hm => by
    have hl : l.length + 1 ≤ 7 := h
    have ih := Bd_cdl l (by omega) fun x hx => hm x (List.mem_cons_of_mem _ hx)
    have k4 := hm k List.mem_cons_self
    obtain ⟨-, b⟩ := un_add (Bd_s ih) hl k4 (by have := un_le ih k k4; omega)
    show Bd (8 ^ k + cdl l) (l.length + 1)
    rw [Nat.add_comm]
    exact b
theorem uls_perm : ∀ l : List Nat, l.length ≤ 7 → (∀ x, x ∈ l → x < 4) → List.Perm l (uls (cdl l))
  | [], _, _ => List.Perm.refl _
  | k :: l, h, hm => by
    have hl : l.length + 1 ≤ 7 := h
    have hm2 : ∀ x, x ∈ l → x < 4 := fun x hx => hm x (List.mem_cons_of_mem _ hx)
    have ih := uls_perm l (by omega) hm2
    show List.Perm (k :: l) (uls (8 ^ k + cdl l))
    rw [Nat.add_comm]
    exact (List.Perm.cons k ih).trans (uls_add (Bd_cdl l (by omega) hm2) (by omega) (hm k List.mem_cons_self))
theorem sts_mem {G kc : Nat} (h : 1 ≤ kc) : ∀ n x, x ∈ sts G kc n → x < kc
  | 0, _, hx => absurd hx List.not_mem_nil
  | n + 1, x, hx => by
    have hx : x ∈ sts G kc n ++ [drw (nxn G n) kc] := hx
    rcases List.mem_append.mp hx with q | q
    · exact sts_mem h n x q
    · rw [List.mem_singleton.mp q]
      exact drw_lt _ h
/-- the lists that K and M are made of -/
def Ls (N : Nat) (C : Nat) : List Nat := isS (un N) (uls C)
variable {sg : Nat → Nat}
theorem SeR_LWc {Ge d P T kc N j c : Nat} {cw : Nat → Nat} (hc : T % 1024 = c) (hs : PSy T P kc N j) (hk : 1 ≤ kc) (h : SeR sg Ge d P (itp P (0, fun _ => 0, T))) (hw : ∀ w, w < sg 3 → cw w = cdl (sts (nxn T (jwk c (j + 1) w + 5)) kc (1 + db c (jwk c (j + 1) w + 5) 4))) : LW sg (fun w => Ls N (cw w)) := by
  obtain ⟨e, -, hk4⟩ := hs
  rw [e] at h
  intro w w3
  obtain ⟨l1, l2⟩ := h.LW w w3
  refine ⟨l1, l2.trans ?_⟩
  have e1 : wSe (kc, un N, nxn T j).1 (itw w (nx (kc, un N, nxn T j).2.2)) = sts (nxn T (jwk c (j + 1) w + 5)) kc (1 + db c (jwk c (j + 1) w + 5) 4) := by
    show wSe kc (itw w (nxn T (j + 1))) = _
    rw [itw_T hc]
    show sts (nxn T (jwk c (j + 1) w + 5)) kc (wLn (nxn T (jwk c (j + 1) w))) = _
    rw [wLn_T hc]
  show List.Perm (wSe (kc, un N, nxn T j).1 (itw w (nx (kc, un N, nxn T j).2.2))) _
  rw [e1]
  have d4 : db c (jwk c (j + 1) w + 5) 4 < 4 := Nat.mod_lt _ (by omega)
  have p := uls_perm (sts (nxn T (jwk c (j + 1) w + 5)) kc (1 + db c (jwk c (j + 1) w + 5) 4)) (by rw [sts_l]; omega) (fun x hx => Nat.lt_of_lt_of_le (sts_mem hk _ x hx) hk4)
  rw [← hw w w3] at p
  exact p.trans (isS_p _ _)
end WRK
