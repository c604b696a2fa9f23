/-! THE ROOM: what a class says of its seasons; what one start says more -/
section CLA
def WcR (c e : Nat) : Nat := Nat.add 1 (db c e 4)
def fiC (c e w : Nat) : Nat := fzN w fun w => db c (Nat.add (jwk c e w) 1) 2
def laC (c e d w : Nat) : Nat := fzN w fun w => mxR (db c (Nat.add (jwk c e w) 1) 2) (Nat.sub (Nat.sub d 1) (db c (Nat.add (jwk c e w) 2) 2))
def lnC (c e w : Nat) : Nat := fzN w fun w => Nat.add 1 (db c (Nat.add (jwk c e w) 5) 4)
def ndT (T c e w : Nat) : Nat := fzN w fun w => dvr (jmp T (Nat.add (jwk c e w) 3)) 3
def cwC (c kc e w : Nat) : Nat := fzN w fun w => cdS (fun q => db c q kc) (jwk c e w) (lnC c e w)
def cwT (T c e w : Nat) : Nat := fzN w fun w => cdS (fun q => dvr (jmp T q) 3) (jwk c e w) (lnC c e w)
/-- where the absences are drawn, where the play begins -/
def apk (c s p : Nat) : Nat := Nat.rec (motive := fun _ => Nat) s (fun _ y => bif Nat.beq (db c (Nat.add y 1) 4) 0 then Nat.add y 2 else Nat.add y 1) p
def jgk (c e W P : Nat) : Nat := bif Nat.beq (db c (Nat.add (apk c (jwk c e W) P) 1) 2) 0 then Nat.add (apk c (jwk c e W) P) 2 else Nat.add (apk c (jwk c e W) P) 1
theorem apk_s (c s p : Nat) : apk c s (p + 1) = bif Nat.beq (db c (apk c s p + 1) 4) 0 then apk c s p + 2 else apk c s p + 1 := rfl
theorem ita_T {T c : Nat} (hc : T % 1024 = c) (s : Nat) : ∀ p, ita p (nxn T s) = nxn T (apk c s p)
  | 0 => rfl
  | p + 1 => by
    rw [ita_s, ita_T hc s p, apk_s, ← db_4 hc]
    show (if dvr (nxn T (apk c s p + 1)) 4 = 0 then nxn T (apk c s p + 2) else nxn T (apk c s p + 1)) = _
    by_cases q : dvr (nxn T (apk c s p + 1)) 4 = 0
    · rw [if_pos q, beq_t q, cond_true]
    · rw [if_neg q, beq_f q, cond_false]
theorem itf_T {T c : Nat} (hc : T % 1024 = c) (a : Nat) : itf (nxn T a) = nxn T (bif Nat.beq (db c (a + 1) 2) 0 then a + 2 else a + 1) := by
  rw [← db_2 hc]
  show (if dvr (nxn T (a + 1)) 2 = 0 then nxn T (a + 2) else nxn T (a + 1)) = _
  by_cases q : dvr (nxn T (a + 1)) 2 = 0
  · rw [if_pos q, beq_t q, cond_true]
  · rw [if_neg q, beq_f q, cond_false]
def narT (T c s d dd P : Nat) : Nat := Nat.rec (motive := fun _ => Nat) 0 (fun p x => bif Nat.beq (db c (Nat.add (apk c s p) 1) 4) 0 then (bif Nat.beq (dvr (jmp T (Nat.add (apk c s p) 2)) d) dd then Nat.add x 1 else x) else x) P
theorem narT_s (T c s d dd P : Nat) : narT T c s d dd (P + 1) = bif Nat.beq (db c (apk c s P + 1) 4) 0 then (bif Nat.beq (dvr (jmp T (apk c s P + 2)) d) dd then narT T c s d dd P + 1 else narT T c s d dd P) else narT T c s d dd P := rfl
theorem narT_e {T c : Nat} (hT : T < 4294967296) (hc : T % 1024 = c) (s d dd : Nat) : ∀ P, narT T c s d dd P = naC d (nxn T s) P dd
  | 0 => rfl
  | P + 1 => by
    unfold naC
    rw [su_s, narT_s, narT_e hT hc s d dd P, ita_T hc, jmp_e hT, ← db_4 hc]
    have e : abN d (nxn T (apk c s P)) = if dvr (nxn T (apk c s P + 1)) 4 = 0 then 2 ^ dvr (nxn T (apk c s P + 2)) d else 0 := rfl
    rw [e]
    show _ = naC d (nxn T s) P dd + _
    by_cases q : dvr (nxn T (apk c s P + 1)) 4 = 0
    · rw [beq_t q, cond_true, if_pos q, Nat.testBit_two_pow]
      by_cases r : dvr (nxn T (apk c s P + 2)) d = dd
      · rw [beq_t r, cond_true, if_pos (decide_eq_true r)]
      · rw [beq_f r, cond_false, if_neg (by rw [decide_eq_false r]; decide), Nat.add_zero]
    · rw [beq_f q, cond_false, if_neg q, if_neg (by rw [Nat.zero_testBit]; decide), Nat.add_zero]
variable {sg : Nat → Nat}
/-- what counts, by class and start -/
theorem SeR_T {T c P kc N j Ge d : Nat} (hc : T % 1024 = c) (hs : PSy T P kc N j) (h : SeR sg Ge d P (itp P (0, fun _ => 0, T))) : (sg 0 = d ∧ sg 2 = P ∧ sg 3 = WcR c (j + 1)) ∧ NP sg = un N ∧ (∀ w, w < WcR c (j + 1) → oW sg w 0 = dvr (nxn T (jwk c (j + 1) w + 3)) 3 ∧ oW sg w 1 = fiC c (j + 1) w ∧ oW sg w 2 = laC c (j + 1) d w) ∧ (∀ dd, nab sg dd = naC d (nxn T (jwk c (j + 1) (WcR c (j + 1)))) P dd) ∧ Ge = nxn T (jgk c (j + 1) (WcR c (j + 1)) P) := by
  obtain ⟨e, -, -⟩ := hs
  have na := naC_ok h
  rw [e] at h na
  obtain ⟨⟨r0, r2, r3⟩, rN, rW, -, rG⟩ := h
  have eW : 1 + drw (kc, un N, nxn T j).2.2 4 = WcR c (j + 1) := by
    show 1 + dvr (nxn T (j + 1)) 4 = 1 + db c (j + 1) 4
    rw [db_4 hc]
  have eg : ∀ w, itw w (nx (kc, un N, nxn T j).2.2) = nxn T (jwk c (j + 1) w) := fun w => itw_T hc (j + 1) w
  rw [eW] at r3 rW rG na
  simp only [eg] at rW rG na
  refine ⟨⟨r0, r2, r3⟩, funext rN, fun w hw => ?_, na, ?_⟩
  · obtain ⟨⟨w0, w1, w2⟩, -, -⟩ := rW w hw
    refine ⟨w0, ?_, ?_⟩
    · rw [w1, wFi_T hc]
      unfold fiC
      rw [fzN_e]
    · rw [w2, wLa_T hc]
      unfold laC
      rw [fzN_e, mxR_e]; rfl
  · rw [rG, ita_T hc, itf_T hc]; rfl
theorem Wc_le (c e : Nat) : 1 ≤ WcR c e ∧ WcR c e ≤ 4 := by
  have q : db c e 4 < 4 := Nat.mod_lt _ (by omega)
  show 1 ≤ 1 + db c e 4 ∧ 1 + db c e 4 ≤ 4
  omega
theorem fiC_1 (c e w : Nat) : fiC c e w ≤ 1 := by
  unfold fiC
  rw [fzN_e]
  have q : db c (Nat.add (jwk c e w) 1) 2 < 2 := Nat.mod_lt _ (by omega)
  omega
theorem laC_d (c e w : Nat) {d : Nat} (hd : d ≤ 7) : laC c e d w ≤ laC c e 7 w ∧ laC c e d w ≤ 6 := by
  unfold laC
  rw [fzN_e, fzN_e, mxR_e, mxR_e]
  have q : db c (Nat.add (jwk c e w) 1) 2 < 2 := Nat.mod_lt _ (by omega)
  show mxN _ (d - 1 - _) ≤ mxN _ (7 - 1 - _) ∧ _
  generalize db c (Nat.add (jwk c e w) 1) 2 = x at q ⊢
  generalize db c (Nat.add (jwk c e w) 2) 2 = y
  show mxN x (d - 1 - y) ≤ mxN x (7 - 1 - y) ∧ mxN x (d - 1 - y) ≤ 6
  unfold mxN
  split <;> split <;> omega
/-- the seats of a work, in one number -/
theorem cwC_e {T c kc e w : Nat} (hc : T % 1024 = c) (hk : kc ≤ 4) (h1 : 1 ≤ kc) (h3 : kc ≠ 3) : cwC c kc e w = cdl (sts (nxn T (jwk c e w + 5)) kc (1 + db c (jwk c e w + 5) 4)) := by
  unfold cwC
  rw [fzN_e]
  have l : lnC c e w = 1 + db c (jwk c e w + 5) 4 := by
    unfold lnC
    rw [fzN_e]; rfl
  rw [l]
  refine cdS_e _ fun i _ => ?_
  have q : kc = 1 ∨ kc = 2 ∨ kc = 4 := by omega
  rcases q with rfl | rfl | rfl
  · exact db_1 _
  · exact db_2 hc _
  · exact db_4 hc _
theorem cwT_e {T c e w : Nat} (hT : T < 4294967296) : cwT T c e w = cdl (sts (nxn T (jwk c e w + 5)) 3 (1 + db c (jwk c e w + 5) 4)) := by
  unfold cwT
  rw [fzN_e]
  have l : lnC c e w = 1 + db c (jwk c e w + 5) 4 := by
    unfold lnC
    rw [fzN_e]; rfl
  rw [l]
  refine cdS_e _ fun i _ => ?_
  rw [jmp_e hT]
theorem itp_1 (q : PSt) : ∀ p, 1 ≤ (itp (p + 1) q).1 := fun p => by
  rw [itp_s]
  generalize itp p q = r
  have k1 : ∀ a b, 1 ≤ kdN a b := fun a b => by
    unfold kdN
    split <;> omega
  unfold pstp
  show 1 ≤ (if pBo r.1 r.2.2 = true then kdN (kdN r.1 (pMn r.1 r.2.2)) (pOt r.1 r.2.2) else kdN r.1 (pMn r.1 r.2.2))
  split
  · exact k1 _ _
  · exact k1 _ _
theorem PSy_1 {T P kc N j : Nat} (hP : 1 ≤ P) (hs : PSy T P kc N j) : 1 ≤ kc := by
  obtain ⟨e, -, -⟩ := hs
  obtain ⟨p, rfl⟩ : ∃ p, P = p + 1 := ⟨P - 1, by omega⟩
  have q := itp_1 (0, fun _ => 0, T) p
  rw [e] at q
  exact q
/-- casts, in fast numbers -/
noncomputable def kfR (N P : Nat) (cw : Nat → Nat) (w : Nat) : Nat := fzN w fun w => fzN (cw w) fun C => Nat.add (Kc N P C) 0
noncomputable def mfR (N P : Nat) (cw : Nat → Nat) (a c : Nat) : Nat := fzN a fun a => fzN c fun c => fzN (cw a) fun x => fzN (cw c) fun y => Nat.add (Mc N P x y) 0
theorem kfR_e (N P : Nat) (cw : Nat → Nat) : kfR N P cw = fun w => Kc N P (cw w) := funext fun w => by
  unfold kfR
  rewrite [fzN_e, fzN_e]
  rfl
theorem mfR_e (N P : Nat) (cw : Nat → Nat) : mfR N P cw = fun a c => Mc N P (cw a) (cw c) := funext fun a => funext fun c => by
  unfold mfR
  rewrite [fzN_e, fzN_e, fzN_e, fzN_e]
  rfl
end CLA
