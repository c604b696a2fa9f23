/-! THE ROOM: one start looked at, in fast numbers -/
section CHT
noncomputable def okT (T c e N P W d : Nat) (cw : Nat → Nat) (t x cc : Nat) : Nat := fzN x fun x => okC (fiC c e) (laC c e d) (ndT T c e) (kfR N P cw) (fun y => LsR N (cw y)) (unR N) (fun dd => fzN dd fun dd => narT T c (jwk c e W) d dd P) t x cc
noncomputable def chkTd (T c e N P W : Nat) (cw : Nat → Nat) (d : Nat) : Bool := wkR (kfR N P cw) (mfR N P cw) (fiC c e) (laC c e d) (ndT T c e) (okT T c e N P W d cw) W d (jmp T (jgk c e W P))
def SafeD (T P d : Nat) : Prop := ∀ (sg ct : Nat → Nat) (Ge : Nat), SeR sg Ge d P (itp P (0, fun _ => 0, T)) → stS sg (plC ct, Ge) 26 ≤ 149400
def CwR (T c kc e W : Nat) (cw : Nat → Nat) : Prop := ∀ w, w < W → cw w = cdl (sts (nxn T (jwk c e w + 5)) kc (1 + db c (jwk c e w + 5) 4))
theorem chkTd_ok {T c P kc N j d : Nat} {cw : Nat → Nat} (hT : T < 4294967296) (hc : T % 1024 = c) (hs : PSy T P kc N j) (hP : 1 ≤ P ∧ P ≤ 7) (hcw : CwR T c kc (j + 1) (WcR c (j + 1)) cw) (hd : 1 ≤ d ∧ d ≤ 7) (h : chkTd T c (j + 1) N P (WcR c (j + 1)) cw d = true) : SafeD T P d := by
  intro sg ct Ge hS
  have k1 := PSy_1 hP.1 hs
  obtain ⟨⟨r0, r2, r3⟩, rN, rW, rA, rG⟩ := SeR_T hc hs hS
  have lw := SeR_LWc hc hs k1 hS (cw := cw) (by rw [r3]; exact hcw)
  have hb := hs.2.1
  have hK := Kc_ok lw rN r2 hP.2 hb
  have hM := Mc_ok lw rN r2 hP.2 hb
  rw [← kfR_e] at hK
  rw [← mfR_e] at hM
  have w4 := Wc_le c (j + 1)
  have hA : ∀ x, x < sg 3 → oW sg x 1 = fiC c (j + 1) x := fun x hx => (rW x (by rw [← r3]; exact hx)).2.1
  have hB : ∀ x, x < sg 3 → oW sg x 2 = laC c (j + 1) d x := fun x hx => (rW x (by rw [← r3]; exact hx)).2.2
  have hN : ∀ x, x < sg 3 → oW sg x 0 = ndT T c (j + 1) x := fun x hx => by
    rw [(rW x (by rw [← r3]; exact hx)).1]
    unfold ndT
    rw [fzN_e, jmp_e hT]
  have ho : OkS sg (okT T c (j + 1) N P (WcR c (j + 1)) d cw) := by
    have q := okC_ok (sg := sg) (A := fiC c (j + 1)) (B := laC c (j + 1) d) (Nd := ndT T c (j + 1)) (K := kfR N P cw) (L := fun y => LsR N (cw y)) (N := unR N) (na := fun dd => fzN dd fun dd => narT T c (jwk c (j + 1) (WcR c (j + 1))) d dd P) hA hB hN hK (by
      have e : (fun y => LsR N (cw y)) = fun y => Ls N (cw y) := funext fun y => LsR_e _ _
      rw [e]; exact lw) (fun k => by rw [rN]; rfl) (fun dd => by
      rw [rA dd, fzN_e, narT_e hT hc]) (by omega)
    have e : okT T c (j + 1) N P (WcR c (j + 1)) d cw = okC (fiC c (j + 1)) (laC c (j + 1) d) (ndT T c (j + 1)) (kfR N P cw) (fun y => LsR N (cw y)) (unR N) (fun dd => fzN dd fun dd => narT T c (jwk c (j + 1) (WcR c (j + 1))) d dd P) := funext fun t => funext fun x => funext fun cc => by
      unfold okT
      rw [fzN_e]
    rw [e]; exact q
  refine chk_g (K := kfR N P cw) (M := mfR N P cw) (A := fiC c (j + 1)) (B := laC c (j + 1) d) (Nd := ndT T c (j + 1)) r3 w4 r0 hd.1 (by omega) hK hM (fun x hx => hA x (by rw [r3]; exact hx)) (fun x hx => Nat.le_of_eq (hB x (by rw [r3]; exact hx))) (fun x hx => Nat.le_of_eq (hN x (by rw [r3]; exact hx)).symm) (fun x _ => (laC_d c (j + 1) x hd.2).2) ho ?_
  rw [rG, ← jmp_e hT]
  exact h
/-- all numbers of halls -/
def hlT (T : Nat) (f : Nat → Bool) : Bool := bif (bif Nat.beq (dvr (pvr (pvr T)) 3) 0 then fzB (Nat.add 2 (dvr (pvr (pvr (pvr T))) 6)) f else true) then (bif (bif Nat.beq (dvr (pvr (pvr (pvr T))) 3) 1 then fzB (Nat.add 2 (dvr (pvr (pvr (pvr (pvr T)))) 6)) f else true) then (bif Nat.beq (dvr (pvr (pvr (pvr (pvr T)))) 3) 2 then fzB (Nat.add 2 (dvr (pvr (pvr (pvr (pvr (pvr T))))) 6)) f else true) else false) else false
def GlT (T : Nat) : Prop := ∀ h, 1 ≤ h → h ≤ 3 → dvr (pvn (h + 1) T) 3 = h - 1 → ChkT T h
theorem pvn_2 (T : Nat) : pvn 2 T = pvr (pvr T) := by rw [pvn_s 1, pvn_s 0, pvn_0]
theorem pvn_3 (T : Nat) : pvn 3 T = pvr (pvr (pvr T)) := by rw [pvn_s 2, pvn_2]
theorem pvn_4 (T : Nat) : pvn 4 T = pvr (pvr (pvr (pvr T))) := by rw [pvn_s 3, pvn_3]
theorem pvn_5 (T : Nat) : pvn 5 T = pvr (pvr (pvr (pvr (pvr T)))) := by rw [pvn_s 4, pvn_4]
theorem d6_le (S : Nat) : 1 ≤ 2 + dvr S 6 ∧ 2 + dvr S 6 ≤ 7 := by
  have q := dvr_lt S (show 1 ≤ 6 by omega)
  omega
theorem GlT_s {T P : Nat} (hP : P = 2 + dvr T 6) (h : ∀ d, 1 ≤ d → d ≤ 7 → SafeD T P d) : GlT T := fun k _ _ _ sg ct Ge hS => by
  have q := d6_le (pvn (k + 2) T)
  rw [← hP] at hS
  exact h _ q.1 q.2 sg ct Ge hS
theorem hlT_1 {T : Nat} {f : Nat → Bool} (h : hlT T f = true) : (dvr (pvr (pvr T)) 3 = 0 → f (2 + dvr (pvr (pvr (pvr T))) 6) = true) ∧ (dvr (pvr (pvr (pvr T))) 3 = 1 → f (2 + dvr (pvr (pvr (pvr (pvr T)))) 6) = true) ∧ (dvr (pvr (pvr (pvr (pvr T)))) 3 = 2 → f (2 + dvr (pvr (pvr (pvr (pvr (pvr T))))) 6) = true) := by
  unfold hlT at h
  generalize pvr (pvr T) = s2 at h ⊢
  generalize pvr s2 = s3 at h ⊢
  generalize pvr s3 = s4 at h ⊢
  generalize pvr s4 = s5 at h ⊢
  obtain ⟨h1, h⟩ := and_b h
  obtain ⟨h2, h3⟩ := and_b h
  refine ⟨fun e => ?_, fun e => ?_, fun e => ?_⟩
  · rw [beq_t e, cond_true, fzB_e] at h1; exact h1
  · rw [beq_t e, cond_true, fzB_e] at h2; exact h2
  · rw [beq_t e, cond_true, fzB_e] at h3; exact h3
theorem GlT_h {T P : Nat} {f : Nat → Bool} (hP : P = 2 + dvr T 6) (h : hlT T f = true) (hf : ∀ d, 1 ≤ d → d ≤ 7 → f d = true → SafeD T P d) : GlT T := by
  intro k k1 k3 hv sg ct Ge hS
  have q := d6_le (pvn (k + 2) T)
  rw [← hP] at hS
  refine hf _ q.1 q.2 ?_ sg ct Ge hS
  obtain ⟨a1, a2, a3⟩ := hlT_1 h
  have c : k = 1 ∨ k = 2 ∨ k = 3 := by omega
  rcases c with rfl | rfl | rfl
  · rw [pvn_3]
    rw [pvn_2] at hv
    exact a1 hv
  · rw [pvn_4]
    rw [pvn_3] at hv
    exact a2 hv
  · rw [pvn_5]
    rw [pvn_4] at hv
    exact a3 hv
end CHT
