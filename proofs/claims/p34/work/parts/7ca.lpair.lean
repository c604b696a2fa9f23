/-! THE ROOM: three kinds: pairs of works that may be dear -/
section PAI
noncomputable def dpR (c e N P a Ca b Cb : Nat) : Nat := fzN (Kc N P Ca) fun x => fzN (Kc N P Cb) fun y => fzN (Nat.add (Nat.add x y) 2) fun g => bif Nat.blt 500 g then 2 else bif Nat.ble (mqR (cqR (fiC c e) (laC c e 7) a b 0) (Nat.add 2 (bif Nat.blt a b then Mc N P Ca Cb else Mc N P Cb Ca)) g) 4243 then 0 else bif Nat.beq y 0 then 1 else 2
def alN (f : Nat → Bool) (n : Nat) : Bool := Nat.rec (motive := fun _ => Bool) true (fun i x => bif f i then x else false) n
noncomputable def alL (f : Nat → Bool) (l : List Nat) : Bool := List.rec (motive := fun _ => Bool) true (fun k _ x => bif f k then x else false) l
def orz (x y : Nat) : Nat := bif Nat.beq x 0 then y else bif Nat.beq y 0 then x else Nat.lor x y
def orN (f : Nat → Nat) (n : Nat) : Nat := Nat.rec (motive := fun _ => Nat) 0 (fun i x => orz (f i) x) n
noncomputable def orL (f : Nat → Nat) (l : List Nat) : Nat := List.rec (motive := fun _ => Nat) 0 (fun k _ x => orz (f k) x) l
theorem alN_ok {f : Nat → Bool} : ∀ {n i}, alN f n = true → i < n → f i = true
  | 0, _, _, h => absurd h (Nat.not_lt_zero _)
  | n + 1, i, h, hi => by
    have h : (bif f n then alN f n else false) = true := h
    obtain ⟨h1, h2⟩ := and_b h
    by_cases e : i = n
    · rw [e]; exact h1
    · exact alN_ok h2 (by omega)
theorem alL_ok {f : Nat → Bool} : ∀ {l : List Nat} {x}, alL f l = true → x ∈ l → f x = true
  | [], _, _, h => absurd h List.not_mem_nil
  | k :: l, x, h, hx => by
    have h : (bif f k then alL f l else false) = true := h
    obtain ⟨h1, h2⟩ := and_b h
    rcases List.mem_cons.mp hx with q | q
    · rw [q]; exact h1
    · exact alL_ok h2 q
theorem orz_e (x y : Nat) : orz x y = x ||| y := by
  unfold orz
  by_cases e : x = 0
  · rw [beq_t e, cond_true, e, Nat.zero_or]
  · rw [beq_f e, cond_false]
    by_cases z : y = 0
    · rw [beq_t z, cond_true, z, Nat.or_zero]
    · rw [beq_f z, cond_false]; rfl
theorem orN_tb {f : Nat → Nat} {k : Nat} : ∀ {n i}, i < n → (f i).testBit k = true → (orN f n).testBit k = true
  | 0, _, h, _ => absurd h (Nat.not_lt_zero _)
  | n + 1, i, hi, h => by
    show (orz (f n) (orN f n)).testBit k = true
    rw [orz_e, Nat.testBit_or]
    by_cases e : i = n
    · rw [← e, h, Bool.true_or]
    · rw [orN_tb (show i < n by omega) h, Bool.or_true]
theorem orL_tb {f : Nat → Nat} {k : Nat} : ∀ {l : List Nat} {x}, x ∈ l → (f x).testBit k = true → (orL f l).testBit k = true
  | [], _, h, _ => absurd h List.not_mem_nil
  | y :: l, x, hx, h => by
    show (orz (f y) (orL f l)).testBit k = true
    rw [orz_e, Nat.testBit_or]
    rcases List.mem_cons.mp hx with q | q
    · rw [← q, h, Bool.true_or]
    · rw [orL_tb q h, Bool.or_true]
/-- all pairs cost little -/
noncomputable def sf3 (c P N e W : Nat) : Bool := bif Nat.beq W 1 then true else alN (fun a => alL (fun Ca => fzB Ca fun Ca => bif Nat.ble (Kc N P Ca) 182 then true else alN (fun b => bif Nat.beq a b then true else alL (fun Cb => fzB Cb fun Cb => Nat.beq (dpR c e N P a Ca b Cb) 0) (cdsL (lnC c e b))) W) (cdsL (lnC c e a))) W
/-- who has a pair that costs much -/
noncomputable def ppR (c n t e N P W a Ca : Nat) : Nat := orN (fun b => bif Nat.beq a b then 0 else fzN (jwk c e b) fun y => fzN (lnC c e b) fun l => orL (fun Cb => fzN Cb fun Cb => fzN (dpR c e N P a Ca b Cb) fun r => bif Nat.beq r 0 then 0 else bif Nat.beq r 1 then (fzN (Nat.add y 3) fun q => Nat.land (smk n t y l Cb) (dmk n (ajr q) (tjr t q) 0)) else smk n t y l Cb) (cdsL l)) W
noncomputable def pmR (c n t e N P W : Nat) : Nat := orN (fun a => fzN (jwk c e a) fun y => fzN (lnC c e a) fun l => orL (fun Ca => fzN Ca fun Ca => bif Nat.ble (Kc N P Ca) 182 then 0 else bif Nat.beq (ppR c n t e N P W a Ca) 0 then 0 else Nat.land (smk n t y l Ca) (ppR c n t e N P W a Ca)) (cdsL l)) W
theorem ble_f {a b : Nat} (h : ¬ a ≤ b) : Nat.ble a b = false := Bool.eq_false_iff.mpr fun z => h (Nat.le_of_ble_eq_true z)
theorem dp_0 {c e N P a Ca b Cb : Nat} (h : dpR c e N P a Ca b Cb = 0) : Kc N P Ca + Kc N P Cb + 2 ≤ 500 ∧ mqR (cqR (fiC c e) (laC c e 7) a b 0) (2 + (bif Nat.blt a b then Mc N P Ca Cb else Mc N P Cb Ca)) (Kc N P Ca + Kc N P Cb + 2) ≤ 4243 := by
  unfold dpR at h
  rw [fzN_e, fzN_e, fzN_e] at h
  have h : (bif Nat.blt 500 (Kc N P Ca + Kc N P Cb + 2) then 2 else bif Nat.ble (mqR (cqR (fiC c e) (laC c e 7) a b 0) (2 + (bif Nat.blt a b then Mc N P Ca Cb else Mc N P Cb Ca)) (Kc N P Ca + Kc N P Cb + 2)) 4243 then 0 else bif Nat.beq (Kc N P Cb) 0 then 1 else 2) = 0 := h
  generalize mqR (cqR (fiC c e) (laC c e 7) a b 0) (2 + (bif Nat.blt a b then Mc N P Ca Cb else Mc N P Cb Ca)) (Kc N P Ca + Kc N P Cb + 2) = X at h ⊢
  generalize hg : Kc N P Ca + Kc N P Cb + 2 = g at h ⊢
  by_cases c1 : 500 < g
  · rw [blt_t c1, cond_true] at h
    exact absurd h (by omega)
  · rw [blt_n c1, cond_false] at h
    by_cases c2 : X ≤ 4243
    · exact ⟨by omega, c2⟩
    · rw [ble_f c2, cond_false] at h
      by_cases c3 : Kc N P Cb = 0
      · rw [beq_t c3, cond_true] at h
        exact absurd h (by omega)
      · rw [beq_f c3, cond_false] at h
        exact absurd h (by omega)
theorem dp_1 {c e N P a Ca b Cb : Nat} (h : dpR c e N P a Ca b Cb = 1) : Kc N P Ca + Kc N P Cb + 2 ≤ 500 ∧ Kc N P Cb = 0 := by
  unfold dpR at h
  rw [fzN_e, fzN_e, fzN_e] at h
  have h : (bif Nat.blt 500 (Kc N P Ca + Kc N P Cb + 2) then 2 else bif Nat.ble (mqR (cqR (fiC c e) (laC c e 7) a b 0) (2 + (bif Nat.blt a b then Mc N P Ca Cb else Mc N P Cb Ca)) (Kc N P Ca + Kc N P Cb + 2)) 4243 then 0 else bif Nat.beq (Kc N P Cb) 0 then 1 else 2) = 1 := h
  generalize mqR (cqR (fiC c e) (laC c e 7) a b 0) (2 + (bif Nat.blt a b then Mc N P Ca Cb else Mc N P Cb Ca)) (Kc N P Ca + Kc N P Cb + 2) = X at h ⊢
  generalize hg : Kc N P Ca + Kc N P Cb + 2 = g at h ⊢
  by_cases c1 : 500 < g
  · rw [blt_t c1, cond_true] at h
    exact absurd h (by omega)
  · rw [blt_n c1, cond_false] at h
    by_cases c2 : X ≤ 4243
    · rw [Nat.ble_eq_true_of_le c2, cond_true] at h
      exact absurd h (by omega)
    · rw [ble_f c2, cond_false] at h
      by_cases c3 : Kc N P Cb = 0
      · exact ⟨by omega, c3⟩
      · rw [beq_f c3, cond_false] at h
        exact absurd h (by omega)
theorem dp_012 (c e N P a Ca b Cb : Nat) : dpR c e N P a Ca b Cb = 0 ∨ dpR c e N P a Ca b Cb = 1 ∨ dpR c e N P a Ca b Cb = 2 := by
  unfold dpR
  rw [fzN_e, fzN_e, fzN_e]
  generalize Nat.blt 500 (Nat.add (Nat.add (Kc N P Ca) (Kc N P Cb)) 2) = b1
  generalize Nat.ble (mqR (cqR (fiC c e) (laC c e 7) a b 0) (Nat.add 2 (bif Nat.blt a b then Mc N P Ca Cb else Mc N P Cb Ca)) (Nat.add (Nat.add (Kc N P Ca) (Kc N P Cb)) 2)) 4243 = b2
  generalize Nat.beq (Kc N P Cb) 0 = b3
  cases b1 <;> cases b2 <;> cases b3 <;> first | exact Or.inl rfl | exact Or.inr (Or.inl rfl) | exact Or.inr (Or.inr rfl)
/-- the seats' numbers of a start over three kinds -/
def cw3 (T c e w : Nat) : Nat := cdl (sts (nxn T (jwk c e w + 5)) 3 (1 + db c (jwk c e w + 5) 4))
theorem lnC_e (c e w : Nat) : lnC c e w = 1 + db c (jwk c e w + 5) 4 := by
  unfold lnC
  rw [fzN_e]; rfl
theorem lnC_le (c e w : Nat) : 1 ≤ lnC c e w ∧ lnC c e w ≤ 4 := by
  rw [lnC_e]
  have q : db c (jwk c e w + 5) 4 < 4 := Nat.mod_lt _ (by omega)
  omega
theorem cw3_mem (T c e w : Nat) : cw3 T c e w ∈ cdsL (lnC c e w) := by
  have l := lnC_le c e w
  rw [lnC_e] at l ⊢
  have q := cds_mem (sts (nxn T (jwk c e w + 5)) 3 (1 + db c (jwk c e w + 5) 4)) (fun x hx => sts_mem (show 1 ≤ 3 by omega) _ x hx) (by rw [sts_l]; exact l.1) (by rw [sts_l]; exact l.2)
  rw [sts_l] at q
  exact q
/-- pairs of a start cost little -/
def Pok (T c e N P W : Nat) : Prop := ∀ a b, a < W → b < W → a ≠ b → 182 < Kc N P (cw3 T c e a) → dpR c e N P a (cw3 T c e a) b (cw3 T c e b) = 0 ∨ (dpR c e N P a (cw3 T c e a) b (cw3 T c e b) = 1 ∧ 0 < dvr (nxn T (jwk c e b + 3)) 3)
theorem sf3_P {T c e N P W : Nat} (h : sf3 c P N e W = true) (hW : W ≠ 1) : Pok T c e N P W := by
  intro a b ha hb hab hK
  unfold sf3 at h
  rw [beq_f hW, cond_false] at h
  have h1 := alL_ok (alN_ok h ha) (cw3_mem T c e a)
  rw [fzB_e, ble_f (by omega), cond_false] at h1
  have h2 := alN_ok h1 hb
  rw [beq_f hab, cond_false] at h2
  have h3 := alL_ok h2 (cw3_mem T c e b)
  rw [fzB_e] at h3
  exact Or.inl (Nat.eq_of_beq_eq_true h3)
theorem pmR_P {n t k c e N P W : Nat} (hn : n ≤ 32768) (ht : t < 4294967296) (hk : k < 24 * n) (h : (pmR c n t e N P W).testBit k = false) : Pok (Tk t k) c e N P W := by
  intro a b ha hb hab hK
  have sa := smk_ok hn ht hk (y := jwk c e a) (lnC c e a) (lnC_le c e a).2
  have sb := smk_ok hn ht hk (y := jwk c e b) (lnC c e b) (lnC_le c e b).2
  have ea : cdl (sts (nxn (Tk t k) (jwk c e a + 5)) 3 (lnC c e a)) = cw3 (Tk t k) c e a := by rw [lnC_e]; rfl
  have eb : cdl (sts (nxn (Tk t k) (jwk c e b + 5)) 3 (lnC c e b)) = cw3 (Tk t k) c e b := by rw [lnC_e]; rfl
  rw [ea] at sa
  rw [eb] at sb
  have key : ∀ r, dpR c e N P a (cw3 (Tk t k) c e a) b (cw3 (Tk t k) c e b) = r → r ≠ 0 → (r = 1 → dvr (nxn (Tk t k) (jwk c e b + 3)) 3 = 0) → False := fun r hr r0 r1 => by
    have pb : (ppR c n t e N P W a (cw3 (Tk t k) c e a)).testBit k = true := by
      unfold ppR
      refine orN_tb hb ?_
      rw [beq_f hab, cond_false, fzN_e, fzN_e]
      refine orL_tb (cw3_mem (Tk t k) c e b) ?_
      rw [fzN_e, fzN_e, hr, beq_f r0, cond_false]
      by_cases q : r = 1
      · rw [beq_t q, cond_true, fzN_e]
        show (smk n t (jwk c e b) (lnC c e b) (cw3 (Tk t k) c e b) &&& dmk n (ajr (jwk c e b + 3)) (tjr t (jwk c e b + 3)) 0).testBit k = true
        rw [Nat.testBit_and, sb, Bool.true_and]
        refine dmk_ok hn (ajr_lt _) ?_ (by omega) hk ?_
        · rw [tjr_e]; exact nxn_lt ht _
        · have z := r1 q
          rw [Tk_n] at z
          rw [tjr_e]; exact z
      · rw [beq_f q, cond_false]
        exact sb
    have pa : (pmR c n t e N P W).testBit k = true := by
      unfold pmR
      refine orN_tb ha ?_
      rw [fzN_e, fzN_e]
      refine orL_tb (cw3_mem (Tk t k) c e a) ?_
      rw [fzN_e, ble_f (by omega), cond_false, beq_f (tb_0 pb), cond_false]
      show (smk n t (jwk c e a) (lnC c e a) (cw3 (Tk t k) c e a) &&& ppR c n t e N P W a (cw3 (Tk t k) c e a)).testBit k = true
      rw [Nat.testBit_and, sa, pb]; rfl
    rw [pa] at h
    exact absurd h (by decide)
  rcases dp_012 c e N P a (cw3 (Tk t k) c e a) b (cw3 (Tk t k) c e b) with r | r | r
  · exact Or.inl r
  · refine Or.inr ⟨r, ?_⟩
    rcases Nat.eq_zero_or_pos (dvr (nxn (Tk t k) (jwk c e b + 3)) 3) with z | z
    · exact absurd (key 1 r (by omega) fun _ => z) (fun f => f)
    · exact z
  · exact absurd (key 2 r (by omega) fun z => absurd z (by omega)) (fun f => f)
end PAI
