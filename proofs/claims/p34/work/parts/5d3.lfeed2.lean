/-! THE TEXT IS FED, twenty bytes by twenty -/
theorem pk_st {Z d : Nat} (hZ : Z < 2 ^ 23) (hd : d < 128) : (nI Z <<< ((8 : Int32) &&& 31)) ||| nI d = nI (Z * 256 + d) := by
  rw [pk_shlN ((8 : Int32) &&& 31) 8 (by decide) (by omega), fa_orq]
  congr 1
  have := Nat.two_pow_add_eq_or_of_lt (i := 8) (b := d) (by omega) Z
  rw [Nat.mul_comm Z, ← this]
theorem pk_4 {f : Nat → Nat} (h : ∀ j, f j < 128) (i : Nat) : pk4 f i 4 = nI (((f (4 * i) * 256 + f (4 * i + 1)) * 256 + f (4 * i + 2)) * 256 + f (4 * i + 3)) := by
  have h0 := h (4 * i)
  have h1 := h (4 * i + 1)
  have h2 := h (4 * i + 2)
  have h3 := h (4 * i + 3)
  have e0 : pk4 f i 0 = nI 0 := rfl
  rw [pk4_s, pk4_s, pk4_s, pk4_s, e0, Nat.add_zero, pk_st (by omega) h0, pk_st (by omega) h1, pk_st (by omega) h2, pk_st (by omega) h3]
  exact congrArg nI (by omega)
theorem to8 (Y : Nat) : (nI Y).toInt8 = (nI (Y % 256)).toInt8 := by
  rw [n_ofN, n_ofN, Int32.toInt8_ofNat', Int32.toInt8_ofNat']
  apply Int8.toBitVec_inj.mp
  apply BitVec.eq_of_toNat_eq
  show (BitVec.ofNat 8 Y).toNat = (BitVec.ofNat 8 (Y % 256)).toNat
  rw [BitVec.toNat_ofNat, BitVec.toNat_ofNat, Nat.mod_mod]
theorem by4_pk {f : Nat → Nat} (h : ∀ j, f j < 128) (i q : Nat) (hq : q < 4) : by4 (pk4 f i 4) q = nI (f (4 * i + q)) := by
  have h0 := h (4 * i)
  have h1 := h (4 * i + 1)
  have h2 := h (4 * i + 2)
  have h3 := h (4 * i + 3)
  have sh : ∀ q, q < 4 → ((sh4 q &&& 31).toBitVec.smod 32).toNat = 24 - 8 * q := by decide
  unfold by4
  rw [pk_4 h, pk_shrN (by omega) (sh4 q &&& 31) _ (sh q hq), to8]
  have k : ((((f (4 * i) * 256 + f (4 * i + 1)) * 256 + f (4 * i + 2)) * 256 + f (4 * i + 3)) / 2 ^ (24 - 8 * q)) % 256 = f (4 * i + q) := by
    have q4 : q = 0 ∨ q = 1 ∨ q = 2 ∨ q = 3 := by omega
    rcases q4 with e | e | e | e <;> subst e
    · show ((((f (4 * i) * 256 + f (4 * i + 1)) * 256 + f (4 * i + 2)) * 256 + f (4 * i + 3)) / 16777216) % 256 = f (4 * i)
      omega
    · show ((((f (4 * i) * 256 + f (4 * i + 1)) * 256 + f (4 * i + 2)) * 256 + f (4 * i + 3)) / 65536) % 256 = f (4 * i + 1)
      omega
    · show ((((f (4 * i) * 256 + f (4 * i + 1)) * 256 + f (4 * i + 2)) * 256 + f (4 * i + 3)) / 256) % 256 = f (4 * i + 2)
      omega
    · show ((((f (4 * i) * 256 + f (4 * i + 1)) * 256 + f (4 * i + 2)) * 256 + f (4 * i + 3)) / 1) % 256 = f (4 * i + 3)
      omega
  rw [k, nar_b _ (h _)]
theorem ap20_pk {f : Nat → Nat} (h : ∀ j, f j < 128) (bl : Nat) (bf : Nat → Int32) (j : Nat) (hj : j < bl + 20) : ap20 bl bf (pk4 f 0 4) (pk4 f 1 4) (pk4 f 2 4) (pk4 f 3 4) (pk4 f 4 4) j = if j < bl then bf j else nI (f (j - bl)) := by
  unfold ap20 ap4
  by_cases c0 : j < bl
  · rw [if_neg (by omega), if_neg (by omega), if_neg (by omega), if_neg (by omega), if_neg (by omega), if_pos c0]
  · rw [if_neg c0]
    by_cases c4 : bl + 16 ≤ j
    · rw [if_pos (by omega), by4_pk h 4 _ (by omega)]; congr 2; omega
    · rw [if_neg (by omega)]
      by_cases c3 : bl + 12 ≤ j
      · rw [if_pos (by omega), by4_pk h 3 _ (by omega)]; congr 2; omega
      · rw [if_neg (by omega)]
        by_cases c2 : bl + 8 ≤ j
        · rw [if_pos (by omega), by4_pk h 2 _ (by omega)]; congr 2; omega
        · rw [if_neg (by omega)]
          by_cases c1 : bl + 4 ≤ j
          · rw [if_pos (by omega), by4_pk h 1 _ (by omega)]; congr 2; omega
          · rw [if_neg (by omega), if_pos (by omega), by4_pk h 0 _ (by omega)]; congr 2; omega
theorem pk4_sh (f : Nat → Nat) (k i m : Nat) : pk4 (fun j => f (k + j)) i m = pk4 (fun j => (fun j => f (k + j)) j) i m := rfl
section FD
variable {x bl : Nat} {sg pl : Nat → Nat} {hn : Nat} {hl : Nat → Nat → Nat} {sv : Nat → Bool} {sl : Nat → Nat → Nat} {bf : Nat → Int32} {ep : Nat} {nm : Nat → List Nat} {M : Mm}
theorem s_L_feeds (ok : OKs (sg, pl, hn, hl, sv, sl, 0, bf, ep, nm)) (h : CI x (sg, pl, hn, hl, sv, sl, 0, bf, ep, nm) M) {c : Nat} {t : List Nat} (hs : STr c t M) (ht : t.length ≤ 600) (hx : x + 149 ≤ c ∧ c < zn M) (hu : ∀ u, zR M c 0 = some u → x + 149 ≤ u ∧ u < zn M) {B S1 : Nat} (hB : (t.length + 19) / 20 ≤ B) (hS1 : 5 * ((t.length + 19) / 20) ≤ S1) (P : Int32 → Mm → Prop)
    (K : ∀ M' bf', CI x (sg, pl, hn, hl, sv, sl, 20 * ((t.length + 19) / 20), bf', ep, nm) M' → OKs (sg, pl, hn, hl, sv, sl, 20 * ((t.length + 19) / 20), bf', ep, nm) → (∀ j, j < 20 * ((t.length + 19) / 20) → bf' j = nI (pad t j)) → FrG x (x + 149) M M' → P (nI 1) M') : w_L_feeds_AA M x c P B S1 := by
  have h128 : ∀ k, k ∈ t → k < 128 := by obtain ⟨u, -, -, -, z⟩ := hs; exact z
  unfold w_L_feeds_AA
  refine lpI (fun n (z : Mm × Nat × Nat × Int32 × Int32) => l_L_feeds_AA_4 B S1 P (fun M9 b9 s9 => ((0 : Int32) = 0 ∨ (0 : Int32) = 1) ∧ P (0 : Int32) M9) (fun M10 b10 s10 => ((1 : Int32) = 0 ∨ (1 : Int32) = 1) ∧ P (1 : Int32) M10) n z.1 z.2.1 z.2.2.1 x c z.2.2.2.1 z.2.2.2.2) (fun q z => (FrG x (x + 149) M z.1 ∧ ∃ bf', CI x (sg, pl, hn, hl, sv, sl, 20 * q, bf', ep, nm) z.1 ∧ OKs (sg, pl, hn, hl, sv, sl, 20 * q, bf', ep, nm) ∧ ∀ j, j < 20 * q → bf' j = nI (pad t j)) ∧ z.2.1 = q ∧ z.2.2.1 = 5 * q ∧ z.2.2.2.1 = nI (20 * q) ∧ z.2.2.2.2 = nI (20 * q)) ((t.length + 19) / 20) (fun n z hz => ?_) (fun n q z hq hz LL => ?_) (M, 0, 0, (0 : Int32), (0 : Int32)) ⟨⟨FrG.rf, bf, h, ok, fun j hj => absurd hj (by omega)⟩, rfl, rfl, rfl, rfl⟩
  · obtain ⟨M1, b, s, x2, x3⟩ := z
    obtain ⟨⟨f1, bf1, w1, o1, v1⟩, e1, e2, e3, e4⟩ := hz
    simp only at f1 w1 e1 e2 e3 e4
    subst e1 e2 e3 e4
    have s1 : STr c t M1 := hs.fr f1 hx.2 (by omega) fun u hu2 => by have := hu u hu2; omega
    show l_L_feeds_AA_4 B S1 P _ _ (n + 1) M1 _ _ x c (nI (20 * ((t.length + 19) / 20))) (nI (20 * ((t.length + 19) / 20)))
    rw [l_L_feeds_AA_4]
    refine ⟨by obtain ⟨u, ⟨y1, -⟩, -⟩ := s1; exact y1, s_len_A s1 (by omega) _ (ifp (nI_le (by omega) (by omega)) ⟨Or.inr rfl, K M1 bf1 w1 o1 v1 f1⟩)⟩
  · obtain ⟨M1, b, s, x2, x3⟩ := z
    obtain ⟨⟨f1, bf1, w1, o1, v1⟩, e1, e2, e3, e4⟩ := hz
    simp only at f1 w1 e1 e2 e3 e4
    have e1 := e1.symm
    subst e1 e2 e3 e4
    have s1 : STr c t M1 := hs.fr f1 hx.2 (by omega) fun u hu2 => by have := hu u hu2; omega
    have cz : zn M ≤ zn M1 := f1.1
    have r1 : zR M1 c = zR M c := (f1.2 c hx.2 (by omega)).2.2.2.2
    show l_L_feeds_AA_4 B S1 P _ _ (n + 1) M1 q (5 * q) x c (nI (20 * q)) (nI (20 * q))
    rw [l_L_feeds_AA_4]
    refine ⟨by obtain ⟨u, ⟨y1, -⟩, -⟩ := s1; exact y1, s_len_A s1 (by omega) _ (ifn (by rw [n_leF (by omega) (by omega)]; exact not_false) ⟨by omega, by omega, by decide, by decide, fun v M2 hv hM2 => ?_⟩)⟩
    rw [show (5 : Int32).toNatClampNeg = 5 from rfl] at hM2
    have f2 : FrG (zn M1) (zn M1 + 1) M1 M2 := by subst hM2; exact frg_N
    have n2 : zn M2 = zn M1 + 1 := by subst hM2; rfl
    have u1 : ∀ u, zR M1 c 0 = some u → u < zn M1 := fun u hu2 => by rw [r1] at hu2; have := hu u hu2; omega
    have s2 : STr c t M2 := s1.fr f2 (by omega) (by omega) fun u hu2 => by have := u1 u hu2; omega
    have r2 : zR M2 c = zR M1 c := (f2.2 c (by omega) (by omega)).2.2.2.2
    refine s_feeds_20 (B := B) (S1 := S1) (P := P) (x0 := x) (x2 := nI (20 * q)) s2 ht (by omega) ⟨by subst hM2; exact ⟨kN_n hv, lN_n hv⟩, by omega⟩ (fun i hi => by subst hM2; exact iN_n hv) ⟨by omega, by omega, fun u hu2 => by rw [r2] at hu2; have := u1 u hu2; omega⟩ fun M3 f3 k3 v3 s3 => ?_
    have vp : ∀ i, i < 5 → vp_in (nI i) (zl M3 v) := fun i hi => by rw [k3.2]; exact vp_in_nI hi (by omega)
    have w2 := w1.frg f2 (by omega) (by omega)
    have w3 := w2.frg (lo := v) (hi := v + 1) f3 (by omega) (by omega)
    have xk : zk M3 x = 7 := by
      obtain ⟨c10, sa, sp, hps, hx7, -⟩ := w3
      exact hx7.s.1.1
    refine ⟨k3.1, vp 0 (by omega), k3.1, vp 1 (by omega), k3.1, vp 2 (by omega), k3.1, vp 3 (by omega), k3.1, vp 4 (by omega), xk, ?_⟩
    rw [show (0 : Int32).toNatClampNeg = 0 from rfl, show (1 : Int32).toNatClampNeg = 1 from rfl, show (2 : Int32).toNatClampNeg = 2 from rfl, show (3 : Int32).toNatClampNeg = 3 from rfl, show (4 : Int32).toNatClampNeg = 4 from rfl, v3 0 (by omega), v3 1 (by omega), v3 2 (by omega), v3 3 (by omega), v3 4 (by omega)]
    refine cc_append o1 _ _ _ _ _ (by omega) M3 _ w3 fun M4 c4 f4 => ?_
    have o4 := ok_append (x := x) o1 (pk4 (fun j => pad t (20 * q + j)) 0 4) (pk4 (fun j => pad t (20 * q + j)) 1 4) (pk4 (fun j => pad t (20 * q + j)) 2 4) (pk4 (fun j => pad t (20 * q + j)) 3 4) (pk4 (fun j => pad t (20 * q + j)) 4 4) (by omega)
    have e20 : 20 * q + 4 + 4 + 4 + 4 + 4 = 20 * (q + 1) := by omega
    rw [e20] at c4 o4
    have fx : FrG x (x + 149) M1 M4 := by
      refine FrG.trans ⟨by have := f3.1; omega, fun b hb hn => ?_⟩ f4
      obtain ⟨a1, a2, a3, a4, a5⟩ := f2.2 b hb (by omega)
      obtain ⟨b1, b2, b3, b4, b5⟩ := f3.2 b (by omega) (by omega)
      exact ⟨b1.trans a1, b2.trans a2, b3.trans a3, b4.trans a4, b5.trans a5⟩
    refine ifp ?_ (LL (M4, _, _, _, _) ⟨⟨f1.trans fx, _, c4, o4, fun j hj => ?_⟩, rfl, ?_, ?_, ?_⟩)
    · rw [l_20, nI_add]
    · rw [ap20_pk (f := fun j => pad t (20 * q + j)) (fun j => pad_lt h128 _) (20 * q) bf1 j (by omega)]
      by_cases e : j < 20 * q
      · rw [if_pos e, v1 j e]
      · rw [if_neg e]; exact congrArg (fun z => nI (pad t z)) (by omega)
    · show 5 * q + 5 = 5 * (q + 1); omega
    · show nI (20 * q) + (20 : Int32) = nI (20 * (q + 1)); rw [l_20, nI_add]; exact congrArg nI (by omega)
    · show nI (20 * q) + (20 : Int32) = nI (20 * (q + 1)); rw [l_20, nI_add]; exact congrArg nI (by omega)
end FD
