/-! THE ROOM: seasons whose works have few casts -/
section RMA
variable {sg : Nat → Nat}
theorem drop_c : ∀ (l : List Nat) (i : Nat), i < l.length → l.drop i = l.getD i 0 :: l.drop (i + 1)
  | [], i, h => absurd h (Nat.not_lt_zero _)
  | x :: l, 0, _ => rfl
  | x :: l, i + 1, h => by
    show l.drop i = l.getD i 0 :: l.drop (i + 1)
    exact drop_c l i (Nat.lt_of_succ_lt_succ h)
theorem stl_e {w : Nat} {l : List Nat} (hl : l.length = oW sg w 4) (h : ∀ j, j < l.length → oW sg w (5 + j) = l.getD j 0) : ∀ r, r ≤ l.length → stl sg w r = l.drop (l.length - r)
  | 0, _ => by
    rw [Nat.sub_zero, List.drop_length]; rfl
  | r + 1, hr => by
    have ih := stl_e hl h r (by omega)
    show kr sg w r :: stl sg w r = _
    rw [ih, drop_c l (l.length - (r + 1)) (by omega), show l.length - (r + 1) + 1 = l.length - r by omega]
    congr 1
    unfold kr
    rw [← hl]
    exact h _ (by omega)
theorem stl_w {w : Nat} {l : List Nat} (hl : l.length = oW sg w 4) (h : ∀ j, j < l.length → oW sg w (5 + j) = l.getD j 0) : stl sg w (oW sg w 4) = l := by
  have q := stl_e hl h l.length (Nat.le_refl _)
  rw [Nat.sub_self, List.drop_zero, hl] at q
  exact q
theorem SeR.LW {Ge d P : Nat} {q : PSt} (h : SeR sg Ge d P q) : LW sg (fun w => wSe q.1 (itw w (nx q.2.2))) := fun w hw => by
  rw [h.1.2.2] at hw
  obtain ⟨-, h4, h5⟩ := h.2.2.1 w hw
  have l := wLn_le (itw w (nx q.2.2))
  have sl := wSe_l q.1 (itw w (nx q.2.2))
  refine ⟨by omega, ?_⟩
  rw [stl_w (l := wSe q.1 (itw w (nx q.2.2))) (by omega) fun j hj => h5 j (by omega)]
/-- falling products -/
def ffP : Nat → Nat → Nat
  | _, 0 => 1
  | P, n + 1 => P * ffP (P - 1) n
theorem Ul_P : ∀ (l : List Nat) (N : Nat → Nat) (P : Nat), Ul l N P ≤ ffP P l.length
  | [], _, _ => Nat.le_refl _
  | k :: l, N, P => by
    show (if N k < P then N k else P) * Ul l (ups N k (N k - 1)) (P - 1) ≤ P * ffP (P - 1) l.length
    exact Nat.mul_le_mul (by split <;> omega) (Ul_P l _ _)
theorem ffP_5 : ∀ P, P < 6 → ∀ n, n < 5 → ffP P n ≤ 203 := by decide
theorem Ul_5 {l : List Nat} {N : Nat → Nat} {P : Nat} (hP : P ≤ 5) (hl : l.length ≤ 4) : Ul l N P ≤ 203 := Nat.le_trans (Ul_P l N P) (ffP_5 P (by omega) _ (by omega))
theorem Ul_cong : ∀ (l : List Nat) {N N2 : Nat → Nat} {P : Nat}, (∀ k, N k = N2 k) → Ul l N P = Ul l N2 P
  | [], _, _, _, _ => rfl
  | k :: l, N, N2, P, h => by
    have e : N = N2 := funext h
    rw [e]
/-- few casts: in the room -/
theorem room_A {X : Nat} (hK : KBn sg (fun _ => X)) (hX : X ≤ 203) {z : Sz} (hP : PT sg z.1) (h3 : 1 ≤ sg 3) (h2 : 1 ≤ sg 2 ∧ sg 2 ≤ 8) (h0 : 1 ≤ sg 0 ∧ sg 0 ≤ 7) : stS sg z 26 ≤ 149400 := by
  have hM : MBn sg (fun _ _ => X) := fun a c hac hc F _ => (hK a (by omega)).2 F
  have b : Bds sg (fun _ => X) 408 205 203 := ⟨hK, fun a c _ _ => by
    have q := gS_2 (sg := sg) (fun _ => X) a c
    split at q <;> omega, fun a c ha hc F hF => by
    have q := fb_2 hK hM ha hc F hF
    split at q
    · omega
    · split at q <;> omega, fun _ _ => hX⟩
  have q := b.all hP h3 h2 h0 26
  have e : 26 * (2 * 408 + 2 + (mxA 205 408 + 1 + 203)) ≤ 149400 := by decide
  exact Nat.le_trans q e
theorem PT_0 (sg ct : Nat → Nat) : PT sg (plC ct) := by
  have p0 : plC ct 0 = 0 := if_neg (by omega)
  refine ⟨by omega, fun s hs => ?_⟩
  rw [p0] at hs
  exact absurd hs (Nat.not_lt_zero _)
/-- what is left: six or seven players, a work of more than 203 casts -/
def RoomBig : Prop := ∀ (T d Ge : Nat) (sg ct : Nat → Nat) (G : Nat), G < 4294967296 → (d = 2 + drw G 6 ∧ T = nxn (nx (nx G)) (2 + drw (nx G) 3)) → SeR sg Ge d (2 + dvr T 6) (itp (2 + dvr T 6) (0, fun _ => 0, T)) → 6 ≤ 2 + dvr T 6 → (∃ w, w < sg 3 ∧ 203 < Ul (wSe (itp (2 + dvr T 6) (0, fun _ => 0, T)).1 (itw w (nx (itp (2 + dvr T 6) (0, fun _ => 0, T)).2.2))) (NP sg) (sg 2)) → stS sg (plC ct, Ge) 26 ≤ 149400
theorem dG_halls (s : DS) : ∀ k, dG (dN dH k s) = nxn (dG s) k
  | 0 => rfl
  | k + 1 => by
    rw [dN_s, nxn_s, ← dG_halls s k]
    generalize dN dH k s = s1
    obtain ⟨sg, nm, ct, t, G⟩ := s1
    rw [dH_eq, dG_mk, dG_mk]
theorem dvr_drw (G m : Nat) : drw G m = dvr (nx G) m := rfl
theorem room_small (hB : RoomBig) : RoomOK := by
  intro G hG
  have d6 := drw_lt G (show 1 ≤ 6 by omega)
  have d3 := drw_lt (nx G) (show 1 ≤ 3 by omega)
  have d6b := drw_lt (dG (dS1 G)) (show 1 ≤ 6 by omega)
  have o0 : ∀ k, k ≠ 0 → (dD0 G).1 k = 0 := fun k hk => by rw [dD0_1]; exact sgi_o _ hk
  have z0 : (dD0 G).1 0 = 2 + drw G 6 := by rw [dD0_1]; rfl
  have J := dD0_j [] (fun _ => 0) G
  have r := dS5_g J.1 J.2 z0 (o0 1 (by omega)) (o0 2 (by omega)) (o0 3 (by omega)) (o0 4 (by omega)) (o0 5 (by omega)) (by omega) (by omega) (by omega) rfl (dS1_e G) (dS2_e G) (dS3_e G) (dS4_e G) (dS5_e G)
  have eT : dG (dS1 G) = nxn (nx (nx G)) (1 + drw (nx G) 3) := by
    rw [← dS1_e, dG_halls, dD0_G]
  have eT2 : nx (dG (dS1 G)) = nxn (nx (nx G)) (2 + drw (nx G) 3) := by
    rw [eT, show 2 + drw (nx G) 3 = (1 + drw (nx G) 3) + 1 by omega, nxn_s]
  rw [dvr_drw (dG (dS1 G)) 6] at r d6b
  generalize hT : nx (dG (dS1 G)) = T at r eT2 d6b
  generalize (dS5 G).1 = sg at r ⊢
  generalize dG (dS5 G) = Ge at r ⊢
  generalize (dS5 G).2.2.1 = ct
  obtain ⟨⟨r0, r2, r3⟩, rN, -⟩ := id r
  have PT0 := PT_0 sg ct
  have hW : 1 ≤ sg 3 := by rw [r3]; omega
  by_cases c : ∃ w, w < sg 3 ∧ 203 < Ul (wSe (itp (2 + dvr T 6) (0, fun _ => 0, T)).1 (itw w (nx (itp (2 + dvr T 6) (0, fun _ => 0, T)).2.2))) (NP sg) (sg 2)
  · by_cases p6 : 6 ≤ 2 + dvr T 6
    · exact hB T (2 + drw G 6) Ge sg ct G hG ⟨rfl, eT2⟩ r p6 c
    · obtain ⟨w, -, h2⟩ := c
      have l := wLn_le (itw w (nx (itp (2 + dvr T 6) (0, fun _ => 0, T)).2.2))
      have sl := wSe_l (itp (2 + dvr T 6) (0, fun _ => 0, T)).1 (itw w (nx (itp (2 + dvr T 6) (0, fun _ => 0, T)).2.2))
      have u := Ul_5 (l := wSe (itp (2 + dvr T 6) (0, fun _ => 0, T)).1 (itw w (nx (itp (2 + dvr T 6) (0, fun _ => 0, T)).2.2))) (N := NP sg) (P := sg 2) (by omega) (by omega)
      omega
  · refine room_A (X := 203) (fun w hw => ?_) (Nat.le_refl _) (z := (plC ct, Ge)) PT0 hW (by omega) (by omega)
    obtain ⟨k1, k2⟩ := r.LW.K (by omega) w hw
    refine ⟨k1, fun F => Nat.le_trans (k2 F) ?_⟩
    rcases Nat.lt_or_ge 203 (Ul (wSe (itp (2 + dvr T 6) (0, fun _ => 0, T)).1 (itw w (nx (itp (2 + dvr T 6) (0, fun _ => 0, T)).2.2))) (NP sg) (sg 2)) with y | y
    · exact absurd ⟨w, hw, y⟩ c
    · exact y
end RMA
