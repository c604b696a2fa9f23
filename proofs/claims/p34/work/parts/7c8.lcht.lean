/-! THE ROOM: one start looked at, in fast numbers -/
section CHT
/-- the works' seats in one number, who needs rehearsals in one number -/
def cwP (C w : Nat) : Nat := Nat.mod (Nat.div C (Nat.pow 4096 w)) 4096
def nzF (z w : Nat) : Nat := Nat.mod (Nat.div z (Nat.pow 2 w)) 2
def pkP (b : Nat) (f : Nat → Nat) (W : Nat) : Nat := Nat.rec (motive := fun _ => Nat) 0 (fun w x => Nat.add x (Nat.mul (f w) (Nat.pow b w))) W
theorem pkP_s (b : Nat) (f : Nat → Nat) (W : Nat) : pkP b f (W + 1) = pkP b f W + f W * b ^ W := rfl
theorem pkP_lt {b : Nat} {f : Nat → Nat} (hb : 1 ≤ b) : ∀ W, (∀ w, w < W → f w < b) → pkP b f W < b ^ W
  | 0, _ => by
    show 0 < b ^ 0
    rw [Nat.pow_zero]; omega
  | W + 1, h => by
    have ih := pkP_lt hb W fun w hw => h w (by omega)
    have q : f W * b ^ W ≤ (b - 1) * b ^ W := Nat.mul_le_mul_right _ (by have := h W (by omega); omega)
    rw [pkP_s, Nat.pow_succ, Nat.mul_comm (b ^ W) b]
    have e : b * b ^ W = (b - 1) * b ^ W + b ^ W := by
      have e1 : b = (b - 1) + 1 := by omega
      conv => lhs; lhs; rw [e1]
      rw [Nat.add_mul, Nat.one_mul]
    omega
theorem pkP_e {b : Nat} {f : Nat → Nat} (hb : 1 ≤ b) : ∀ W, (∀ w, w < W → f w < b) → ∀ w, w < W → pkP b f W / b ^ w % b = f w
  | 0, _, w, hw => absurd hw (Nat.not_lt_zero _)
  | W + 1, h, w, hw => by
    have l := pkP_lt hb W fun w hw => h w (by omega)
    rw [pkP_s]
    have pw : 0 < b ^ W := Nat.pow_pos hb
    by_cases e : w = W
    · subst e
      rw [Nat.add_mul_div_right _ _ pw, Nat.div_eq_of_lt l, Nat.zero_add, Nat.mod_eq_of_lt (h w (by omega))]
    · obtain ⟨d, rfl⟩ : ∃ d, W = w + (d + 1) := ⟨W - w - 1, by omega⟩
      rw [Nat.pow_add, Nat.mul_comm (b ^ w), ← Nat.mul_assoc, Nat.add_mul_div_right _ _ (Nat.pow_pos hb), Nat.pow_succ, ← Nat.mul_assoc, Nat.add_mul_mod_self_right]
      exact pkP_e hb _ (fun w hw => h w (by omega)) w (by omega)
theorem blt_pos {a b : Nat} (h : a = 0 ↔ b = 0) : Nat.blt 0 (Nat.mul 1 a) = Nat.blt 0 (Nat.mul 1 b) := by
  show Nat.blt 0 (1 * a) = Nat.blt 0 (1 * b)
  rw [Nat.one_mul, Nat.one_mul]
  by_cases c : a = 0
  · rw [c, h.mp c]
  · have d : ¬ b = 0 := fun z => c (h.mpr z)
    rw [blt_t (show 0 < a by omega), blt_t (show 0 < b by omega)]
theorem okC_c {A B Nd Nd2 K : Nat → Nat} {L : Nat → List Nat} {N na : Nat → Nat} {t x cc : Nat} (h : Nd x = 0 ↔ Nd2 x = 0) : okC A B Nd K L N na t x cc = okC A B Nd2 K L N na t x cc := by
  unfold okC
  rw [blt_pos h]
def ndP (T c e w : Nat) : Nat := bif Nat.beq (dvr (jmp T (Nat.add (jwk c e w) 3)) 3) 0 then 0 else 1
noncomputable def okT (T c e N P W C z d : Nat) (t x cc : Nat) : Nat := fzN x fun x => okC (fiC c e) (laC c e d) (nzF z) (kfR N P (cwP C)) (fun y => LsR N (cwP C y)) (unR N) (fun dd => fzN dd fun dd => narT T c (jwk c e W) d dd P) t x cc
noncomputable def chkTd (T c e N P W C z d : Nat) : Bool := wkR (kfR N P (cwP C)) (mfR N P (cwP C)) (fiC c e) (laC c e d) (nzF z) (okT T c e N P W C z d) W d (jmp T (jgk c e W P))
def SafeD (T P d : Nat) : Prop := ∀ (sg ct : Nat → Nat) (Ge : Nat), SeR sg Ge d P (itp P (0, fun _ => 0, T)) → stS sg (plC ct, Ge) 26 ≤ 149400
def CwR (T c kc e W : Nat) (cw : Nat → Nat) : Prop := ∀ w, w < W → cw w = cdl (sts (nxn T (jwk c e w + 5)) kc (1 + db c (jwk c e w + 5) 4))
theorem cdl_lt {l : List Nat} (hl : l.length ≤ 4) (hm : ∀ x, x ∈ l → x < 4) : cdl l < 4096 := by
  obtain ⟨h0, h1, h2, h3⟩ := Bd_cdl l (by omega) hm
  omega
theorem chkTd_ok {T c P kc N j d : Nat} {cw : Nat → Nat} (hT : T < 4294967296) (hc : T % 1024 = c) (hs : PSy T P kc N j) (hP : 1 ≤ P ∧ P ≤ 7) (hcw : CwR T c kc (j + 1) (WcR c (j + 1)) cw) (hd : 1 ≤ d ∧ d ≤ 7) (h : chkTd T c (j + 1) N P (WcR c (j + 1)) (pkP 4096 cw (WcR c (j + 1))) (pkP 2 (ndP T c (j + 1)) (WcR c (j + 1))) d = true) : SafeD T P d := by
  intro sg ct Ge hS
  have k1 := PSy_1 hP.1 hs
  have k4 := hs.2.2
  obtain ⟨⟨r0, r2, r3⟩, rN, rW, rA, rG⟩ := SeR_T hc hs hS
  have w4 := Wc_le c (j + 1)
  have c4 : ∀ w, w < WcR c (j + 1) → cw w < 4096 := fun w hw => by
    rw [hcw w hw]
    have d4 : db c (jwk c (j + 1) w + 5) 4 < 4 := Nat.mod_lt _ (by omega)
    exact cdl_lt (by rw [sts_l]; omega) (fun x hx => Nat.lt_of_lt_of_le (sts_mem k1 _ x hx) k4)
  have eC : ∀ w, w < WcR c (j + 1) → cwP (pkP 4096 cw (WcR c (j + 1))) w = cw w := fun w hw => pkP_e (by omega) _ c4 w hw
  have n2 : ∀ w, ndP T c (j + 1) w < 2 := fun w => by
    unfold ndP
    cases Nat.beq (dvr (jmp T (Nat.add (jwk c (j + 1) w) 3)) 3) 0 with
    | true => rw [cond_true]; omega
    | false => rw [cond_false]; omega
  have eN : ∀ w, w < WcR c (j + 1) → nzF (pkP 2 (ndP T c (j + 1)) (WcR c (j + 1))) w = ndP T c (j + 1) w := fun w hw => pkP_e (by omega) _ (fun w _ => n2 w) w hw
  generalize pkP 4096 cw (WcR c (j + 1)) = C at h eC
  generalize pkP 2 (ndP T c (j + 1)) (WcR c (j + 1)) = z at h eN
  have lw := SeR_LWc hc hs k1 hS (cw := cwP C) (fun w hw => by
    rw [r3] at hw
    rw [eC w hw]
    exact hcw w hw)
  have hb := hs.2.1
  have hK := Kc_ok lw rN r2 hP.2 hb
  have hM := Mc_ok lw rN r2 hP.2 hb
  rw [← kfR_e] at hK
  rw [← mfR_e] at hM
  have hA : ∀ x, x < sg 3 → oW sg x 1 = fiC c (j + 1) x := fun x hx => (rW x (by rw [← r3]; exact hx)).2.1
  have hB : ∀ x, x < sg 3 → oW sg x 2 = laC c (j + 1) d x := fun x hx => (rW x (by rw [← r3]; exact hx)).2.2
  have hN : ∀ x, x < sg 3 → (nzF z x = 0 ↔ oW sg x 0 = 0) ∧ nzF z x ≤ oW sg x 0 := fun x hx => by
    have hx : x < WcR c (j + 1) := by rw [← r3]; exact hx
    rw [eN x hx, (rW x hx).1, ← jmp_e hT]
    unfold ndP
    by_cases q : dvr (jmp T (jwk c (j + 1) x + 3)) 3 = 0
    · rw [show Nat.add (jwk c (j + 1) x) 3 = jwk c (j + 1) x + 3 from rfl, beq_t q, cond_true, q]
      exact ⟨Iff.rfl, Nat.le_refl _⟩
    · rw [show Nat.add (jwk c (j + 1) x) 3 = jwk c (j + 1) x + 3 from rfl, beq_f q, cond_false]
      omega
  have ho : OkS sg (okT T c (j + 1) N P (WcR c (j + 1)) C z d) := by
    have q := okC_ok (sg := sg) (A := fiC c (j + 1)) (B := laC c (j + 1) d) (Nd := fun x => oW sg x 0) (K := kfR N P (cwP C)) (L := fun y => LsR N (cwP C y)) (N := unR N) (na := fun dd => fzN dd fun dd => narT T c (jwk c (j + 1) (WcR c (j + 1))) d dd P) hA hB (fun _ _ => rfl) hK (by
      have e : (fun y => LsR N (cwP C y)) = fun y => Ls N (cwP C y) := funext fun y => LsR_e _ _
      rw [e]; exact lw) (fun k => by rw [rN]; rfl) (fun dd => by
      rw [rA dd, fzN_e, narT_e hT hc]) (by omega)
    intro t x cc hx hcc
    have q := q t x cc hx hcc
    have e : okT T c (j + 1) N P (WcR c (j + 1)) C z d t x cc = okC (fiC c (j + 1)) (laC c (j + 1) d) (fun x => oW sg x 0) (kfR N P (cwP C)) (fun y => LsR N (cwP C y)) (unR N) (fun dd => fzN dd fun dd => narT T c (jwk c (j + 1) (WcR c (j + 1))) d dd P) t x cc := by
      unfold okT
      rw [fzN_e]
      exact okC_c (hN x hx).1
    rw [e]; exact q
  refine chk_g (K := kfR N P (cwP C)) (M := mfR N P (cwP C)) (A := fiC c (j + 1)) (B := laC c (j + 1) d) (Nd := nzF z) r3 w4 r0 hd.1 (by omega) hK hM (fun x hx => hA x (by rw [r3]; exact hx)) (fun x hx => Nat.le_of_eq (hB x (by rw [r3]; exact hx))) (fun x hx => (hN x (by rw [r3]; exact hx)).2) (fun x _ => (laC_d c (j + 1) x hd.2).2) ho ?_
  rw [rG, ← jmp_e hT]
  exact h
/-- all numbers of halls -/
def hlT (T : Nat) (f : Nat → Bool) : Bool := bif (bif Nat.beq (dvr (pvr (pvr T)) 3) 0 then fzB (Nat.add 2 (dvr (pvr (pvr (pvr T))) 6)) f else true) then (bif (bif Nat.beq (dvr (pvr (pvr (pvr T))) 3) 1 then fzB (Nat.add 2 (dvr (pvr (pvr (pvr (pvr T)))) 6)) f else true) then (bif Nat.beq (dvr (pvr (pvr (pvr (pvr T)))) 3) 2 then fzB (Nat.add 2 (dvr (pvr (pvr (pvr (pvr (pvr T))))) 6)) f else true) else false) else false
def GlT (T : Nat) : Prop := ∀ h, 1 ≤ h → h ≤ 3 → dvr (pvn (h + 1) T) 3 = h - 1 → ChkT T h
theorem pvn_2 (T : Nat) : pvn 2 T = pvr (pvr T) := by rw [pvn_s 1, pvn_s 0, pvn_0]
theorem pvn_3 (T : Nat) : pvn 3 T = pvr (pvr (pvr T)) := by rw [pvn_s 2, pvn_2]
theorem pvn_4 (T : Nat) : pvn 4 T = pvr (pvr (pvr (pvr T))) := by rw [pvn_s 3, pvn_3]
theorem pvn_5 (T : Nat) : pvn 5 T = pvr (pvr (pvr (pvr (pvr T)))) := by rw [pvn_s 4, pvn_4]
theorem d6_le (S : Nat) : 1 ≤ 2 + dvr S 6 ∧ 2 + dvr S 6 ≤ 7 := by
  have q := dvr_lt S (show 1 ≤ 6 by omega)
  omega
theorem GlT_s {T P : Nat} (hP : P = 2 + dvr T 6) (h : ∀ d, 1 ≤ d → d ≤ 7 → SafeD T P d) : GlT T := fun k _ _ _ sg ct Ge hS => by
  have q := d6_le (pvn (k + 2) T)
  rw [← hP] at hS
  exact h _ q.1 q.2 sg ct Ge hS
theorem hlT_1 {T : Nat} {f : Nat → Bool} (h : hlT T f = true) : (dvr (pvr (pvr T)) 3 = 0 → f (2 + dvr (pvr (pvr (pvr T))) 6) = true) ∧ (dvr (pvr (pvr (pvr T))) 3 = 1 → f (2 + dvr (pvr (pvr (pvr (pvr T)))) 6) = true) ∧ (dvr (pvr (pvr (pvr (pvr T)))) 3 = 2 → f (2 + dvr (pvr (pvr (pvr (pvr (pvr T))))) 6) = true) := by
  unfold hlT at h
  generalize pvr (pvr T) = s2 at h ⊢
  generalize pvr s2 = s3 at h ⊢
  generalize pvr s3 = s4 at h ⊢
  generalize pvr s4 = s5 at h ⊢
  obtain ⟨h1, h⟩ := and_b h
  obtain ⟨h2, h3⟩ := and_b h
  refine ⟨fun e => ?_, fun e => ?_, fun e => ?_⟩
  · rw [beq_t e, cond_true, fzB_e] at h1; exact h1
  · rw [beq_t e, cond_true, fzB_e] at h2; exact h2
  · rw [beq_t e, cond_true, fzB_e] at h3; exact h3
theorem GlT_h {T P : Nat} {f : Nat → Bool} (hP : P = 2 + dvr T 6) (h : hlT T f = true) (hf : ∀ d, 1 ≤ d → d ≤ 7 → f d = true → SafeD T P d) : GlT T := by
  intro k k1 k3 hv sg ct Ge hS
  have q := d6_le (pvn (k + 2) T)
  rw [← hP] at hS
  refine hf _ q.1 q.2 ?_ sg ct Ge hS
  obtain ⟨a1, a2, a3⟩ := hlT_1 h
  have c : k = 1 ∨ k = 2 ∨ k = 3 := by omega
  rcases c with rfl | rfl | rfl
  · rw [pvn_3]
    rw [pvn_2] at hv
    exact a1 hv
  · rw [pvn_4]
    rw [pvn_3] at hv
    exact a2 hv
  · rw [pvn_5]
    rw [pvn_4] at hv
    exact a3 hv
end CHT
