/-! THE ROOM: all starts of a class -/
section RUN
/-- all bits of a mask -/
def alb (f : Nat → Bool) (F : Nat) : Nat → Bool := Nat.rec (motive := fun _ => Nat → Bool) (fun m => Nat.beq m 0) (fun _ ih m => bif Nat.beq m 0 then true else fzB (lbT m) fun l => bif f l then ih (Nat.xor m (Nat.pow 2 l)) else false) F
theorem alb_ok {f : Nat → Bool} : ∀ F m k, alb f F m = true → m.testBit k = true → f k = true
  | 0, m, k, h, hk => by
    have e := Nat.eq_of_beq_eq_true h
    rw [e, Nat.zero_testBit] at hk
    exact absurd hk (by decide)
  | F + 1, m, k, h, hk => by
    have h : (bif Nat.beq m 0 then true else fzB (lbT m) fun l => bif f l then alb f F (m ^^^ 2 ^ l) else false) = true := h
    rw [beq_f (tb_0 hk), cond_false, fzB_e] at h
    obtain ⟨h1, h2⟩ := and_b h
    generalize lbT m = l at h1 h2
    by_cases e : l = k
    · rw [← e]; exact h1
    · refine alb_ok F _ k h2 ?_
      rw [Nat.testBit_xor, hk, Nat.testBit_two_pow, decide_eq_false e]; rfl
/-- the mask cut into pieces first -/
def spl (f : Nat → Bool) (d : Nat) : Nat → Nat → Bool := Nat.rec (motive := fun _ => Nat → Nat → Bool) (fun off m => alb (fun l => f (Nat.add off l)) 100000 m) (fun d ih off m => bif Nat.beq m 0 then true else bif ih off (Nat.land m (fulN (Nat.pow 2 (Nat.add 12 d)))) then ih (Nat.add off (Nat.pow 2 (Nat.add 12 d))) (Nat.shiftRight m (Nat.pow 2 (Nat.add 12 d))) else false) d
theorem spl_0 (f : Nat → Bool) (off m : Nat) : spl f 0 off m = alb (fun l => f (Nat.add off l)) 100000 m := rfl
theorem spl_s (f : Nat → Bool) (d off m : Nat) : spl f (d + 1) off m = bif Nat.beq m 0 then true else bif spl f d off (m &&& fulN (2 ^ (12 + d))) then spl f d (off + 2 ^ (12 + d)) (m >>> (2 ^ (12 + d))) else false := rfl
theorem spl_ok {f : Nat → Bool} : ∀ d off m k, spl f d off m = true → m.testBit k = true → f (off + k) = true
  | 0, off, m, k, h, hk => by
    rw [spl_0] at h
    exact alb_ok _ m k h hk
  | d + 1, off, m, k, h, hk => by
    rw [spl_s, beq_f (tb_0 hk), cond_false] at h
    obtain ⟨h1, h2⟩ := and_b h
    rcases Nat.lt_or_ge k (2 ^ (12 + d)) with c | c
    · refine spl_ok d off _ k h1 ?_
      rw [Nat.testBit_and, hk, fulN_tb, decide_eq_true c]; rfl
    · have q := spl_ok d _ _ (k - 2 ^ (12 + d)) h2 (by
        rw [Nat.testBit_shiftRight, Nat.add_sub_cancel' c]; exact hk)
      rw [Nat.add_assoc, Nat.add_sub_cancel' c] at q
      exact q
def TkR (t k : Nat) : Nat := Nat.mod (Nat.add (Nat.mul 3072 k) t) 4294967296
noncomputable def lfR (c P kc N j : Nat) : Bool := fzB (Nat.succ j) fun e => fzB (WcR c e) fun W => bif Nat.beq kc 3 then sf3 c P N e W else lfC c P kc N e W
noncomputable def evT (c t P N e W k : Nat) : Bool := fzB (TkR t k) fun T => fzB (pkP 4096 (cwT T c e) W) fun C => fzB (pkP 2 (ndP T c e) W) fun z => hlT T (chkTd T c e N P W C z)
noncomputable def evC (c t P N e W C k : Nat) : Bool := fzB (TkR t k) fun T => fzB (pkP 2 (ndP T c e) W) fun z => hlT T (chkTd T c e N P W C z)
noncomputable def evR (c n t P kc N j m : Nat) : Bool := fzB (Nat.succ j) fun e => fzB (WcR c e) fun W => bif Nat.beq kc 3 then spl (evT c t P N e W) 8 0 (Nat.land m (pmR c n t e N P W)) else fzB (pkP 4096 (cwC c kc e) W) fun C => spl (evC c t P N e W C) 8 0 m
theorem lfR_ok {T c P kc N j : Nat} (hc : T % 1024 = c) (hP : 1 ≤ P ∧ P ≤ 7) (hT : P = 2 + dvr T 6) (hs : PSy T P kc N j) (h : lfR c P kc N j = true) : GlT T := by
  unfold lfR at h
  rw [fzB_e, fzB_e] at h
  refine GlT_s hT fun d d1 d7 => ?_
  by_cases k3 : kc = 3
  · subst k3
    rw [beq_t rfl, cond_true] at h
    exact Pok_s hc hs hP ⟨d1, d7⟩ fun w1 => sf3_P h w1
  · rw [beq_f k3, cond_false] at h
    exact lfC_ok hc hs hP k3 ⟨d1, d7⟩ h
theorem evR_ok {t k c n P kc N j m : Nat} (hn : n ≤ 32768) (ht : t < 4294967296) (hk : k < 24 * n) (hc : Tk t k % 1024 = c) (hP : 1 ≤ P ∧ P ≤ 7) (hT : P = 2 + dvr (Tk t k) 6) (hs : PSy (Tk t k) P kc N j) (hm : m.testBit k = true) (h : evR c n t P kc N j m = true) : GlT (Tk t k) := by
  have tl : Tk t k < 4294967296 := Nat.mod_lt _ (by omega)
  unfold evR at h
  rw [fzB_e, fzB_e] at h
  by_cases k3 : kc = 3
  · subst k3
    rw [beq_t rfl, cond_true] at h
    cases q : (pmR c n t (j + 1) N P (WcR c (j + 1))).testBit k with
    | true =>
      have r := spl_ok _ _ _ k h (by
        show (m &&& pmR c n t (j + 1) N P (WcR c (j + 1))).testBit k = true
        rw [Nat.testBit_and, hm, q]; rfl)
      unfold evT at r
      rw [Nat.zero_add, fzB_e, fzB_e, fzB_e] at r
      exact GlT_h hT r fun d d1 d7 hd => chkTd_ok tl hc hs hP (fun w _ => cwT_e tl) ⟨d1, d7⟩ hd
    | false => exact GlT_s hT fun d d1 d7 => Pok_s hc hs hP ⟨d1, d7⟩ fun _ => pmR_P hn ht hk q
  · rw [beq_f k3, cond_false, fzB_e] at h
    have r := spl_ok _ _ _ k h hm
    unfold evC at r
    rw [Nat.zero_add, fzB_e, fzB_e] at r
    have k1 := PSy_1 hP.1 hs
    exact GlT_h hT r fun d d1 d7 hd => chkTd_ok tl hc hs hP (fun w _ => cwC_e hc hs.2.2 k1 k3) ⟨d1, d7⟩ hd
/-- back to the draws of the halls -/
def pvA (i : Nat) : Nat := Nat.rec (motive := fun _ => Nat) 1 (fun _ y => Nat.mod (Nat.mul y 4276115653) 4194304) i
theorem pvA_s (i : Nat) : pvA (i + 1) = pvA i * 4276115653 % 4194304 := rfl
theorem pvA_lt : ∀ i, pvA i < 4194304
  | 0 => by decide
  | i + 1 => by
    rw [pvA_s]
    exact Nat.mod_lt _ (by omega)
theorem mulI (I a k : Nat) : (a * I % 4194304 * k) % 4194304 = (I * (a * k % 4194304)) % 4194304 := by
  rw [Nat.mul_mod (a * I % 4194304), Nat.mod_mod, ← Nat.mul_mod, Nat.mul_mod I (a * k % 4194304), Nat.mod_mod, ← Nat.mul_mod, Nat.mul_comm a I, Nat.mul_assoc]
theorem pv_step (z u : Nat) : ((3072 * z + u) % 4294967296 + 3281063073) * 4276115653 % 4294967296 = (3072 * ((4276115653 * z) % 4194304) + (u + 3281063073) * 4276115653 % 4294967296) % 4294967296 := by omega
theorem Tk_p (t k : Nat) : ∀ i, pvn i (Tk t k) = (3072 * ((pvA i * k) % 4194304) + pvn i t) % 4294967296
  | 0 => by
    rw [pvn_0, pvn_0]
    show (3072 * k + t) % 4294967296 = (3072 * ((1 * k) % 4194304) + t) % 4294967296
    omega
  | i + 1 => by
    rw [pvn_s, pvn_s, Tk_p t k i, pvA_s, mulI, pvr_e, pvr_e]
    exact pv_step _ _
theorem pvn_lt {S : Nat} : ∀ i, pvn (i + 1) S < 4294967296 := fun i => by
  rw [pvn_s, pvr_e]
  exact Nat.mod_lt _ (by omega)
def m0R (n t L : Nat) : Nat := Nat.land (fulN L) (Nat.lor (dmk n (pvA 2) (pvr (pvr t)) 0) (Nat.lor (dmk n (pvA 3) (pvr (pvr (pvr t))) 1) (dmk n (pvA 4) (pvr (pvr (pvr (pvr t)))) 2)))
theorem m0_ok {n t L k : Nat} (hn : n ≤ 32768) (hk : k < 24 * n) (hL : k < L) (h : (m0R n t L).testBit k = false) : GlT (Tk t k) := by
  intro i i1 i3 hv
  exfalso
  have one : ∀ i v, v < 3 → dvr (pvn (i + 1) (Tk t k)) 3 = v → (dmk n (pvA (i + 1)) (pvn (i + 1) t) v).testBit k = true := fun i v hv h => by
    rw [Tk_p] at h
    exact dmk_ok hn (pvA_lt _) (pvn_lt i) hv hk h
  have e : m0R n t L = fulN L &&& (dmk n (pvA 2) (pvn 2 t) 0 ||| (dmk n (pvA 3) (pvn 3 t) 1 ||| dmk n (pvA 4) (pvn 4 t) 2)) := by
    rw [pvn_2, pvn_3, pvn_4]; rfl
  rw [e, Nat.testBit_and, Nat.testBit_or, Nat.testBit_or, fulN_tb, decide_eq_true hL, Bool.true_and] at h
  have c : i = 1 ∨ i = 2 ∨ i = 3 := by omega
  rcases c with rfl | rfl | rfl
  · rw [one 1 0 (by omega) hv, Bool.true_or] at h
    exact absurd h (by decide)
  · rw [one 2 1 (by omega) hv, Bool.true_or, Bool.or_true] at h
    exact absurd h (by decide)
  · rw [one 3 2 (by omega) hv, Bool.or_true, Bool.or_true] at h
    exact absurd h (by decide)
noncomputable def runC (c n t L P : Nat) : Bool := bif sf (lfR c P) c P 0 0 0 then true else goQ (lfR c P) (evR c n t P) c n t P [(0, m0R n t L)]
theorem runC_ok {c n t L P k : Nat} (hn : n ≤ 32768) (ht : t < 4294967296) (hc : Tk t k % 1024 = c) (hk : k < 24 * n) (hL : k < L) (hP : 1 ≤ P ∧ P ≤ 7) (hT : P = 2 + dvr (Tk t k) 6) (h : runC c n t L P = true) : GlT (Tk t k) := by
  unfold runC at h
  cases r : sf (lfR c P) c P 0 0 0 with
  | true => exact sf_ok hc hP.2 (fun kc N j hs hl => lfR_ok hc hP hT hs hl) P 0 0 0 0 (by omega) (PSy_0 _) r
  | false =>
    rw [r, cond_false] at h
    cases q : (m0R n t L).testBit k with
    | false => exact m0_ok hn hk hL q
    | true => exact goQ_ok (P := P) (Gl := GlT (Tk t k)) hn ht hk hc hP.2 (fun kc N j hs hl => lfR_ok hc hP hT hs hl) (fun kc N j m hs hm he => evR_ok hn ht hk hc hP hT hs hm he) P 0 0 0 0 _ (by omega) (PSy_0 _) ⟨m0R n t L, List.mem_cons_self, q⟩ h
/-- a class, in two halves -/
noncomputable def runA (c : Nat) : Bool := fzB (Nat.add 6 (Nat.mod (Nat.div c 256) 2)) fun P => fzB (Nat.add (Nat.mul 1024 (Nat.mod (Nat.add (Nat.add 1 (Nat.mod (Nat.div c 256) 2)) (Nat.mul 2 (Nat.div c 256))) 3)) c) fun t => bif runC c 29128 t 699072 P then fzB (Nat.add t 2147549184) fun t2 => runC c 29128 t2 699030 P else false
theorem runA_ok {c : Nat} (hc : c < 1024) (h : runA c = true) : ∀ T, T < 4294967296 → T % 1024 = c → 6 ≤ 2 + dvr T 6 → GlT T := by
  intro T hT he h6
  have d6 := dvr_lt T (show 1 ≤ 6 by omega)
  have hP : 6 + c / 256 % 2 = 2 + dvr T 6 := by
    unfold dvr at *
    show _ = 2 + T / 256 % 6
    have h6 : 6 ≤ 2 + T / 256 % 6 := h6
    have d6 : T / 256 % 6 < 6 := d6
    omega
  have hr : T / 1024 % 3 = (1 + c / 256 % 2 + 2 * (c / 256)) % 3 := by
    have h6 : 6 ≤ 2 + T / 256 % 6 := h6
    have d6 : T / 256 % 6 < 6 := d6
    have hP : 6 + c / 256 % 2 = 2 + T / 256 % 6 := hP
    omega
  unfold runA at h
  rw [fzB_e, fzB_e] at h
  have h : (bif runC c 29128 (1024 * ((1 + c / 256 % 2 + 2 * (c / 256)) % 3) + c) 699072 (6 + c / 256 % 2) then fzB (1024 * ((1 + c / 256 % 2 + 2 * (c / 256)) % 3) + c + 2147549184) fun t2 => runC c 29128 t2 699030 (6 + c / 256 % 2) else false) = true := h
  obtain ⟨h1, h2⟩ := and_b h
  rw [fzB_e] at h2
  clear h
  have r3 := Nat.mod_lt (1 + c / 256 % 2 + 2 * (c / 256)) (show 3 > 0 by omega)
  generalize (1 + c / 256 % 2 + 2 * (c / 256)) % 3 = r at hr h1 h2 r3
  have p7 : 1 ≤ 6 + c / 256 % 2 ∧ 6 + c / 256 % 2 ≤ 7 := by omega
  generalize 6 + c / 256 % 2 = P at hP h1 h2 p7
  by_cases q : T / 1024 / 3 < 699072
  · have e : Tk (1024 * r + c) (T / 1024 / 3) = T := by
      unfold Tk
      omega
    have g := runC_ok (k := T / 1024 / 3) (show 29128 ≤ 32768 by omega) (by omega) (by rw [e]; exact he) (by omega) q p7 (by rw [e]; exact hP) h1
    rw [e] at g
    exact g
  · have e : Tk (1024 * r + c + 2147549184) (T / 1024 / 3 - 699072) = T := by
      unfold Tk
      omega
    have g := runC_ok (k := T / 1024 / 3 - 699072) (show 29128 ≤ 32768 by omega) (by omega) (by rw [e]; exact he) (by omega) (by omega) p7 (by rw [e]; exact hP) h2
    rw [e] at g
    exact g
/-- classes one after the other -/
noncomputable def runB (a n : Nat) : Bool := Nat.rec (motive := fun _ => Bool) true (fun i x => bif fzB (Nat.add a i) runA then x else false) n
theorem runB_ok {a : Nat} : ∀ {n}, runB a n = true → ∀ c, a ≤ c → c < a + n → runA c = true
  | 0, _, c, h1, h2 => absurd h1 (by omega)
  | n + 1, h, c, h1, h2 => by
    have h : (bif fzB (a + n) runA then runB a n else false) = true := h
    obtain ⟨q1, q2⟩ := and_b h
    rw [fzB_e] at q1
    by_cases e : c = a + n
    · rw [e]; exact q1
    · exact runB_ok q2 c h1 (by omega)
theorem run_all (h : ∀ c, c < 1024 → runA c = true) : RoomBig := room_big fun T i hT i1 i3 hv h6 _ => runA_ok (Nat.mod_lt _ (by omega)) (h (T % 1024) (Nat.mod_lt _ (by omega))) T hT rfl h6 i i1 i3 hv
end RUN
