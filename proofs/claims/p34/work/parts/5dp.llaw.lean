/-! THE LAW'S LOOP OF FOUR SEASONS -/
section LAWL
/-- every drawn season's steps stay in the room -/
def RoomOK : Prop := ∀ G, G < 4294967296 → stS (dS5 G).1 (plC (dS5 G).2.2.1, dG (dS5 G)) 26 ≤ 149400
theorem dD0_1 (G : Nat) : (dD0 G).1 = sgi (2 + drw G 6) := rfl
theorem dD0_c (G : Nat) : (dD0 G).2.2.1 = fun _ => 0 := rfl
theorem dD0_t (G : Nat) : (dD0 G).2.2.2.1 = daysT (2 + drw G 6) := rfl
theorem dD0_G (G : Nat) : dG (dD0 G) = nx (nx G) := dG_mk _ _ _ _ _
theorem dS1_e (G : Nat) : dN dH (1 + drw (nx G) 3) (dD0 G) = dS1 G := rfl
theorem dS2_e (G : Nat) : dN dP (2 + drw (dG (dS1 G)) 6) (dnx (dS1 G)) = dS2 G := rfl
theorem dS3_e (G : Nat) : dN dW_ (1 + drw (dG (dS2 G)) 4) (dnx (dS2 G)) = dS3 G := rfl
theorem dS4_e (G : Nat) : dAs (2 + drw (dG (dS1 G)) 6) (dS3 G) = dS4 G := rfl
theorem dS5_e (G : Nat) : dE (dS4 G) = dS5 G := rfl
theorem room_c : 600000 ≤ room_1.cells := by decide
theorem room_s : 7200000 ≤ room_1.slots := by decide
/-- where the class stands between seasons -/
def BtS (x : Nat) (M : Mm) : Prop := (∃ (sg pl : Nat → Nat) (hn : Nat) (hl : Nat → Nat → Nat) (sv : Nat → Bool) (sl : Nat → Nat → Nat) (bf : Nat → Int32) (ep : Nat) (nm : Nat → List Nat), CI x (sg, pl, hn, hl, sv, sl, 0, bf, ep, nm) M ∧ OKs (sg, pl, hn, hl, sv, sl, 0, bf, ep, nm)) ∧ x + 149 ≤ zn M
theorem s_L_plays (hD : RoomOK) {x ga G : Nat} {M : Mm} (hG4 : G < 4294967296) (h : BtS x M) {M1 : Mm} (e1 : FrG (zn M) (zn M) M M1) (h2 : zn M = ga) (h3 : zn M1 = ga + 1) (hG : GA ga G M1) {B S1 : Nat} (hB : 149763 ≤ B) (hS1 : 1041000 ≤ S1) {P : Int32 → Mm → Prop} (K : ∀ M', BtS x M' → P (1 : Int32) M') : w_L_plays M1 x ga P B S1 := by
  obtain ⟨⟨sg, pl, hn, hl, sv, sl, bf, ep, nm, hC, ok⟩, hz⟩ := h
  exact s_L_plays_g (s0 := dD0 G) (fun bf => (dD0_j (dS5 G).2.2.2.1 bf G).1) (dD0_j (dS5 G).2.2.2.1 (fun _ => 0) G).2 rfl (dD0_1 G) (dD0_c G) (dD0_t G) (dD0_G G) rfl (dS1_e G) rfl (dS2_e G) rfl (dS3_e G) (dS4_e G) (dS5_e G) (hC.frg e1 hz hz) ok (by omega) (by omega) hG (hD G hG4) (by omega) (by omega) fun M' w z => K M' ⟨w, z⟩
theorem law_loop (hD : RoomOK) {x L : Nat} {xs : Nat → Int32} {P : Int32 → Mm → Prop} (hL : L ≤ 260) (hP : ∀ M, P (1 : Int32) M) {M : Mm} {b s : Nat} (h : BtS x M) (hb : b = 163) (hs : s = 12581) : ∃ n13, l_L_law_13 L xs P (fun M6 b6 s6 => P (1 : Int32) M6) n13 M b s x (nI L) (0 : Int32) := by
  have rc := room_c
  have rs := room_s
  refine lpI (fun n (y : Mm × Nat × Nat × Int32) => l_L_law_13 L xs P (fun M6 b6 s6 => P (1 : Int32) M6) n y.1 y.2.1 y.2.2.1 x (nI L) y.2.2.2) (fun k y => BtS x y.1 ∧ y.2.1 = 163 + 149764 * k ∧ y.2.2.1 = 12581 + 1041001 * k ∧ y.2.2.2 = nI k) (if L ≤ 4 then L else 4) (fun n y hy => ?_) (fun n k y hk hy LL => ?_) (M, b, s, (0 : Int32)) ⟨h, hb, hs, rfl⟩
  · obtain ⟨M1, b1, s1, x3⟩ := y
    obtain ⟨w, e1, e2, e3⟩ := hy
    simp only at w e1 e2 e3
    show l_L_law_13 L xs P _ (n + 1) M1 b1 s1 x (nI L) x3
    rw [l_L_law_13, e3]
    by_cases c : L ≤ 4
    · rw [if_pos c]
      exact ifp (nI_le (Nat.le_refl _) (by omega)) (hP M1)
    · rw [if_neg c]
      exact ifn (nI_ge (by omega) (by omega)) (ifp (by decide) (hP M1))
  · obtain ⟨M1, b1, s1, x3⟩ := y
    obtain ⟨w, e1, e2, e3⟩ := hy
    simp only at w e1 e2 e3
    have hk4 : k < 4 := by split at hk <;> omega
    have hkL : k < L := by split at hk <;> omega
    show l_L_law_13 L xs P _ (n + 1) M1 b1 s1 x (nI L) x3
    rw [l_L_law_13, e3]
    refine ifn (nI_ge hkL (by omega)) (ifn (by rw [show (4 : Int32) = nI 4 from rfl]; exact nI_ge hk4 (by omega)) ⟨by omega, by omega, by decide, by decide, fun a3 M3 ea eM => ⟨vp_in_nI hkL (by omega), ?_, ?_, fun M4 eM4 => ⟨149763, 1041000, by omega, by omega, ?_⟩⟩⟩)
    · rw [eM]; exact kN_n ea
    · rw [eM, lN_n ea]; exact vp_in_nI (n := 0) (by decide) (by decide)
    rw [show (1 : Int32).toNatClampNeg = 1 from rfl] at eM
    rw [show (0 : Int32).toNatClampNeg = 0 from rfl] at eM4
    obtain ⟨G, hG4, hG⟩ := of32 (xs (nI k).toNatClampNeg)
    have n3 : zn M3 = a3 + 1 := by rw [eM, zn_sN, ea]
    have n4 : zn M4 = a3 + 1 := by rw [eM4]; exact n3
    have f3 : FrG (zn M1) (zn M1) M1 M3 := by rw [eM]; exact frg_N
    have f4' : FrG (zn M1) (zn M1) M1 M4 := ⟨by omega, fun b0 hb0 hn0 => by
      have q := f3.2 b0 hb0 hn0
      rw [eM4]
      exact ⟨q.1, q.2.1, by rw [zI_sIo _ _ _ _ (by omega)]; exact q.2.2.1, q.2.2.2.1, q.2.2.2.2⟩⟩
    have ga : GA a3 G M4 := by
      rw [eM4]
      refine ⟨⟨?_, ?_⟩, ?_⟩
      · rw [zk_sI, eM]; exact kN_n ea
      · rw [zl_sI, eM]; exact lN_n ea
      · rw [zI_sI1]; exact hG
    refine s_L_plays hD hG4 w f4' ea.symm n4 ga (Nat.le_refl _) (Nat.le_refl _) fun M5 w5 => ifn (by decide) ?_
    refine LL (M5, _, _, _) ⟨w5, ?_, ?_, ?_⟩
    · show b1 + 1 + 149763 = 163 + 149764 * (k + 1)
      omega
    · show s1 + 1 + 1041000 = 12581 + 1041001 * (k + 1)
      omega
    · show nI k + (1 : Int32) = nI (k + 1)
      rw [l_1, nI_add]
theorem law_ok (hD : RoomOK) {M : Mm} {L : Nat} {xs : Nat → Int32} {P : Int32 → Mm → Prop} (hL : L ≤ 260) (hP : ∀ M, P (1 : Int32) M) : w_L_law M L xs P := by
  have rc := room_c
  have rs := room_s
  unfold w_L_law
  refine ⟨by omega, by omega, fun a1 M1 ea e1 => ⟨by omega, by omega, ?_⟩⟩
  have n1 : zn M1 = a1 + 1 := by rw [e1, zn_sN, ea]
  refine s_X7_init (by rw [e1]; exact kN_n ea) n1 (fun j => by rw [e1]; exact iN_n ea) fun M2 n2 f2 c2 => ?_
  obtain ⟨sg, pl, hn, hl, sv, sl, bl, bf, ep, nm, e0⟩ : ∃ sg pl hn hl sv sl bl bf ep nm, st0 = (sg, pl, hn, hl, sv, sl, bl, bf, ep, nm) := ⟨_, _, _, _, _, _, _, _, _, _, rfl⟩
  have bl0 : bl = 0 := by
    have q : st0.2.2.2.2.2.2.1 = bl := by rw [e0]
    rw [← q]; rfl
  have ok := st0_ok
  rw [e0] at c2 ok
  subst bl0
  exact law_loop hD hL hP ⟨⟨sg, pl, hn, hl, sv, sl, bf, ep, nm, c2, ok⟩, by omega⟩ rfl rfl
end LAWL
