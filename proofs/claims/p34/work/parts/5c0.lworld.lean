/-! THE LAW'S WORLD: the class's object at x, the drawing's cell at ga, the law's season at e -/
def nx (G : Nat) : Nat := (G * 1664525 + 1013904223) % 4294967296
def drw (G m : Nat) : Nat := nx G / 256 % m
theorem nx_lt (G : Nat) : nx G < 4294967296 := Nat.mod_lt _ (by decide)
theorem drw_lt (G : Nat) {m : Nat} (h : 1 ≤ m) : drw G m < m := Nat.mod_lt _ h
theorem ushr8 (n : Nat) (h : n < 4294967296) : ((nI n).toUInt32 >>> ((8 : Int32).toUInt32 &&& Int32.toUInt32 31)).toInt32 = nI (n / 256) := by
  have e : ((8 : Int32).toUInt32 &&& Int32.toUInt32 31) = 8 := by decide
  rw [e]
  apply Int32.toBitVec_inj.mp
  apply BitVec.eq_of_toNat_eq
  show (BitVec.ofNat 32 n >>> (8 : Nat)).toNat = (BitVec.ofNat 32 (n / 256)).toNat
  rw [BitVec.toNat_ushiftRight, BitVec.toNat_ofNat, BitVec.toNat_ofNat, Nat.shiftRight_eq_div_pow, Nat.mod_eq_of_lt (show n < 2 ^ 32 from h), Nat.mod_eq_of_lt (show n / 256 < 2 ^ 32 by omega)]
theorem nI_nx (G : Nat) : nI G * (1664525 : Int32) + (1013904223 : Int32) = nI (nx G) := by
  have a : (1664525 : Int32) = nI 1664525 := rfl
  have b : (1013904223 : Int32) = nI 1013904223 := rfl
  rw [a, b, pk_mul, nI_add]
  apply Int32.toBitVec_inj.mp
  apply BitVec.eq_of_toNat_eq
  show (BitVec.ofNat 32 (G * 1664525 + 1013904223)).toNat = (BitVec.ofNat 32 (nx G)).toNat
  rw [BitVec.toNat_ofNat, BitVec.toNat_ofNat, Nat.mod_eq_of_lt (show nx G < 2 ^ 32 from nx_lt G)]
  rfl
theorem nI_mod {a m : Nat} (ha : a < 2 ^ 31) (h0 : 0 < m) (hm : m < 2 ^ 31) : nI a - nI a / nI m * nI m = nI (a % m) := by
  have h := Nat.div_mul_le_self a m
  rw [n_div ha h0 hm, pk_mul, n_sub h]
  congr 1
  have := Nat.div_add_mod a m
  rw [Nat.mul_comm] at this
  omega
/-- the drawing's cell -/
def GA (ga G : Nat) (M : Mm) : Prop := (zk M ga = 10 ∧ zl M ga = 1) ∧ zI M ga 0 = nI G
theorem s_L_draw {ga G m : Nat} {M : Mm} (h : GA ga G M) (h1 : 1 ≤ m) (hm : m < 2 ^ 31) (P : Int32 → Mm → Prop) (K : GA ga (nx G) (sI M ga 0 (nI (nx G))) → P (nI (drw G m)) (sI M ga 0 (nI (nx G)))) : w_L_draw M ga (nI m) P := by
  obtain ⟨⟨h2, h3⟩, h4⟩ := h
  have v : vp_in (0 : Int32) (zl M ga) := by rw [h3]; exact vp_in_nI (n := 0) (by omega) (by omega)
  have nz := nx_lt G
  refine ⟨h2, v, h2, v, fun M1 hM => ?_⟩
  rw [show (0 : Int32).toNatClampNeg = 0 from rfl, h4, nI_nx] at hM
  subst hM
  refine ⟨h2, v, ?_, ?_⟩
  · rw [l_0, n_eqF (by omega) (by omega) (by omega)]; exact not_false
  · rw [show (0 : Int32).toNatClampNeg = 0 from rfl, zI_sI1, ushr8 _ nz, nI_mod (by omega) (by omega) hm]
    exact K ⟨⟨h2, h3⟩, zI_sI1 _ _ _ _⟩
/-- what a drawn season keeps to -/
def LB (sg : Nat → Nat) : Prop := (1 ≤ sg 1 ∧ 1 ≤ sg 2 ∧ 1 ≤ sg 3 ∧ sg 3 ≤ 4) ∧ (∀ w, w < sg 3 → oW sg w 4 ≤ 4) ∧ sg 0 ≤ 7 ∧ sg 2 ≤ 7
def WD (x ga e : Nat) (s : ST) (pl : Nat → Nat) (G : Nat) (M : Mm) : Prop := (CI x s M ∧ OKs s) ∧ (x + 149 ≤ ga ∧ ga < e) ∧ GA ga G M ∧ SI e s.1 pl M
section WD
variable {x ga e G : Nat} {s s2 : ST} {pl pl2 : Nat → Nat} {M M' : Mm}
theorem WD.ci (h : WD x ga e s pl G M) : CI x s M := h.1.1
theorem WD.ok (h : WD x ga e s pl G M) : OKs s := h.1.2
theorem WD.si (h : WD x ga e s pl G M) : SI e s.1 pl M := h.2.2.2
theorem WD.ls (h : WD x ga e s pl G M) : LSt e s.1 M := h.2.2.2.2.1
theorem WD.ld (h : WD x ga e s pl G M) : LDy e s.1 pl M := h.2.2.2.2.2
theorem WD.gc (h : WD x ga e s pl G M) : GA ga G M := h.2.2.1
theorem WD.xk (h : WD x ga e s pl G M) : zk M x = 7 := by
  obtain ⟨sg, pl, hn, hl, sv, sl, bl, bf, ep, nm⟩ := s
  obtain ⟨c10, sa, sp, hps, hx, -⟩ := h.1.1
  exact hx.s.1.1
theorem GA.fr {lo hi : Nat} (h : GA ga G M) (f : FrG lo hi M M') (hz : ga < zn M) (hh : ¬ (lo ≤ ga ∧ ga < hi)) : GA ga G M' := by
  obtain ⟨a1, a2, a3, -⟩ := f.sm hz hh
  unfold GA at h ⊢
  rw [a1, a2, a3]; exact h
/-- a call of the class -/
theorem WD.cl (h : WD x ga e s pl G M) (f : FrG x (x + 149) M M') (c : CI x s2 M') (ok : OKs s2) (e1 : s2.1 = s.1) : WD x ga e s2 pl G M' := by
  obtain ⟨-, ⟨h3, h4⟩, h5, h6⟩ := h
  have hz := h6.1
  refine ⟨⟨c, ok⟩, ⟨h3, h4⟩, h5.fr f (by omega) (by omega), ?_⟩
  rw [e1]; exact h6.fr f (by omega)
theorem WD.c (h : WD x ga e s pl G M) (f : FrG x (x + 149) M M') (c : CI x s M') : WD x ga e s pl G M' := h.cl f c h.ok rfl
/-- a change of the law's season -/
theorem WD.l (h : WD x ga e s pl G M) (f : KpS e M M') (c : SI e s.1 pl2 M') : WD x ga e s pl2 G M' := by
  obtain ⟨⟨h1, h2⟩, ⟨h3, h4⟩, h5, h6⟩ := h
  have hz := h6.1
  exact ⟨⟨h1.frg f.1 (by omega) (by omega), h2⟩, ⟨h3, h4⟩, h5.fr f.1 (by omega) (by omega), c⟩
theorem WD.k (h : WD x ga e s pl G M) (f : KpC e M M') : WD x ga e s pl G M' := h.l f.1 (h.si.kp f)
/-- a draw -/
theorem WD.d (h : WD x ga e s pl G M) {m : Nat} (h1 : 1 ≤ m) (hm : m < 2 ^ 31) (P : Int32 → Mm → Prop) (K : ∀ M', WD x ga e s pl (nx G) M' → P (nI (drw G m)) M') : w_L_draw M ga (nI m) P := by
  have h0 := h
  obtain ⟨⟨c1, c2⟩, ⟨h3, h4⟩, h5, h6⟩ := h
  have hz := h6.1
  refine s_L_draw h5 h1 hm P fun g => K _ ⟨⟨c1.frg (lo := ga) (hi := ga + 1) (frg_I (by omega)) (by omega) (by omega), c2⟩, ⟨h3, h4⟩, g, h6.fr (lo := ga) (hi := ga + 1) (frg_I (by omega)) (by omega)⟩
end WD
theorem WD.lt {x ga e G : Nat} {sg pl : Nat → Nat} {hn : Nat} {hl : Nat → Nat → Nat} {sv : Nat → Bool} {sl : Nat → Nat → Nat} {bl : Nat} {bf : Nat → Int32} {ep : Nat} {nm : Nat → List Nat} {pl2 : Nat → Nat} {M : Mm} (h : WD x ga e (sg, pl, hn, hl, sv, sl, bl, bf, ep, nm) pl2 G M) : LSt e sg M := h.2.2.2.2.1
theorem WD.dt {x ga e G : Nat} {sg pl : Nat → Nat} {hn : Nat} {hl : Nat → Nat → Nat} {sv : Nat → Bool} {sl : Nat → Nat → Nat} {bl : Nat} {bf : Nat → Int32} {ep : Nat} {nm : Nat → List Nat} {pl2 : Nat → Nat} {M : Mm} (h : WD x ga e (sg, pl, hn, hl, sv, sl, bl, bf, ep, nm) pl2 G M) : LDy e sg pl2 M := h.2.2.2.2.2
theorem WD.st {x ga e G : Nat} {sg pl : Nat → Nat} {hn : Nat} {hl : Nat → Nat → Nat} {sv : Nat → Bool} {sl : Nat → Nat → Nat} {bl : Nat} {bf : Nat → Int32} {ep : Nat} {nm : Nat → List Nat} {pl2 : Nat → Nat} {M : Mm} (h : WD x ga e (sg, pl, hn, hl, sv, sl, bl, bf, ep, nm) pl2 G M) : SI e sg pl2 M := h.2.2.2
/-- the players of a set of all -/
theorem dW_255 {sg pl : Nat → Nat} (hs : SB sg) (hp : PB sg pl) {s w : Nat} (hsn : s < pl 0) (hw : w < sg 3) (t : (oS pl s 3).testBit w = true) (n : Nat) : dW sg pl s 255 w n = n + dbl sg w (fun j => oS pl s (4 + 6 * w + j)) (oW sg w 4) := by
  have b9 := hs.b
  unfold dW dbl
  rw [if_pos t, fo_plus (d := fun j => dbo sg (oS pl s (4 + 6 * w + j)) (oW sg w (5 + j))) (fun j c => rfl) 0, Nat.zero_add]
  have key : ∀ k, k ≤ oW sg w 4 → fo (fun j c => if (255 : Nat).testBit (oS pl s (4 + 6 * w + j)) = true then c + dbo sg (oS pl s (4 + 6 * w + j)) (oW sg w (5 + j)) else c) k n = n + su (fun j => dbo sg (oS pl s (4 + 6 * w + j)) (oW sg w (5 + j))) k := by
    intro k
    induction k with
    | zero => intro _; rfl
    | succ k ih =>
      intro hk
      have d := hp.c hsn hw t (show k < oW sg w 4 by omega)
      rw [fo_s, if_pos (tb255 (by omega)), ih (by omega), su_s, Nat.add_assoc]
  exact key _ (Nat.le_refl _)
theorem dW_no {sg pl : Nat → Nat} {s w T : Nat} (t : ¬ (oS pl s 3).testBit w = true) (n : Nat) : dW sg pl s T w n = n := if_neg t
theorem nAt_me {sg pl : Nat → Nat} (hp : PV sg pl) {s : Nat} (hs : s < pl 0) : nAt pl (oS pl s 1) (oS pl s 0) = s := by
  have e : fi (fun q => decide (oS pl q 1 = oS pl s 1 ∧ oS pl q 0 = oS pl s 0)) (pl 0) = s := fi_eq hs (decide_eq_true ⟨rfl, rfl⟩) fun j hj => decide_eq_false fun z => by
    have l := hp.1 j s hj hs
    unfold lx at l
    omega
  unfold nAt
  rw [e, if_pos hs]
