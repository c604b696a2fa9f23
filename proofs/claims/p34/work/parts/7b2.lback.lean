/-! THE ROOM: back from the draw of the players' number to the halls and the days -/
def pvr (S : Nat) : Nat := Nat.mod (Nat.mul (Nat.add S 3281063073) 4276115653) 4294967296
def pvn : Nat → Nat → Nat
  | 0, S => S
  | n + 1, S => pvr (pvn n S)
section BCK
variable {sg : Nat → Nat}
theorem pvn_s (n S : Nat) : pvn (n + 1) S = pvr (pvn n S) := rfl
theorem pvr_e (S : Nat) : pvr S = (S + 3281063073) * 4276115653 % 4294967296 := rfl
theorem nx_e2 (x : Nat) : nx x = (x * 1664525 + 1013904223) % 4294967296 := rfl
theorem inv_A {x y : Nat} (h : x < 4294967296) (e : y = (x * 1664525 + 1013904223) % 4294967296) : (y + 3281063073) * 4276115653 % 4294967296 = x := by
  omega
theorem pvr_nx {x : Nat} (h : x < 4294967296) : pvr (nx x) = x := by
  rw [pvr_e]
  exact inv_A h (nx_e2 x)
theorem nx_ltK (x : Nat) : nx x < 4294967296 := by
  rw [nx_e2]
  exact Nat.mod_lt _ (by omega)
theorem nxn_lt {x : Nat} (h : x < 4294967296) : ∀ n, nxn x n < 4294967296
  | 0 => h
  | n + 1 => by rw [nxn_s]; exact nx_ltK _
theorem pvn_0 (S : Nat) : pvn 0 S = S := rfl
theorem pvn_sh : ∀ n S, pvn (n + 1) S = pvn n (pvr S)
  | 0, _ => by rw [pvn_s, pvn_0, pvn_0]
  | n + 1, S => by
    rw [pvn_s, pvn_sh n S, ← pvn_s]
theorem pvn_nxn {x : Nat} (h : x < 4294967296) : ∀ n, pvn n (nxn x n) = x
  | 0 => by rw [pvn_0, nxn_0]
  | n + 1 => by
    rw [pvn_sh, nxn_s, pvr_nx (nxn_lt h n)]
    exact pvn_nxn h n
theorem nxn_sh (x : Nat) : ∀ n, nxn (nx x) n = nxn x (n + 1)
  | 0 => by rw [nxn_s, nxn_0, nxn_0]
  | n + 1 => by rw [nxn_s, nxn_sh x n, ← nxn_s]
/-- the players away on a day -/
def naC (d ga P dd : Nat) : Nat := su (fun p => if (abN d (ita p ga)).testBit dd = true then 1 else 0) P
theorem naC_ok {Ge d P : Nat} {q : PSt} (h : SeR sg Ge d P q) (dd : Nat) : nab sg dd = naC d (itw (1 + drw q.2.2 4) (nx q.2.2)) P dd := by
  obtain ⟨⟨r0, r2, r3⟩, rN, rW, rA, -⟩ := h
  unfold nab naC
  rw [r2]
  exact su_ext fun p hp => by rw [rA p hp]
/-- what is to be shown of a state T of the draw of the players' number, behind h halls -/
def ChkT (T h : Nat) : Prop := ∀ (sg ct : Nat → Nat) (Ge : Nat), SeR sg Ge (2 + dvr (pvn (h + 2) T) 6) (2 + dvr T 6) (itp (2 + dvr T 6) (0, fun _ => 0, T)) → stS sg (plC ct, Ge) 26 ≤ 149400
/-- a work of more than 203 casts -/
def BigT (T : Nat) : Prop := ∃ w, w < 1 + drw (itp (2 + dvr T 6) (0, fun _ => 0, T)).2.2 4 ∧ 203 < Ul (wSe (itp (2 + dvr T 6) (0, fun _ => 0, T)).1 (itw w (nx (itp (2 + dvr T 6) (0, fun _ => 0, T)).2.2))) (itp (2 + dvr T 6) (0, fun _ => 0, T)).2.1 (2 + dvr T 6)
theorem room_big (hc : ∀ T h, T < 4294967296 → 1 ≤ h → h ≤ 3 → dvr (pvn (h + 1) T) 3 = h - 1 → 6 ≤ 2 + dvr T 6 → BigT T → ChkT T h) : RoomBig := by
  intro T d Ge sg ct G hG hT hS h6 hw
  obtain ⟨hd, hT⟩ := hT
  have d3 := drw_lt (nx G) (show 1 ≤ 3 by omega)
  rw [dvr_drw] at hT d3
  rw [dvr_drw] at hd
  have g1 := nx_ltK G
  have g2 := nx_ltK (nx G)
  generalize hx : nx (nx G) = x2 at hT d3 g2
  have p1 : pvr x2 = nx G := by rw [← hx]; exact pvr_nx g1
  generalize nx G = x1 at hd g1 p1
  generalize hv : dvr x2 3 = v at hT d3
  have e1 : pvn (2 + v) T = x2 := by rw [hT]; exact pvn_nxn g2 _
  have e2 : pvn (2 + v + 1) T = x1 := by rw [pvn_s, e1, p1]
  have tl : T < 4294967296 := by rw [hT]; exact nxn_lt g2 _
  have q := hc T (1 + v) tl (by omega) (by omega) (by rw [show 1 + v + 1 = 2 + v by omega, e1, hv]; omega) h6
  obtain ⟨⟨r0, r2, r3⟩, rN, -⟩ := id hS
  refine q ?_ sg ct Ge ?_
  · obtain ⟨w, w1, w2⟩ := hw
    refine ⟨w, by rw [← r3]; exact w1, ?_⟩
    rw [show NP sg = (itp (2 + dvr T 6) (0, fun _ => 0, T)).2.1 from funext rN, r2] at w2
    exact w2
  · rw [show 1 + v + 2 = 2 + v + 1 by omega, e2, ← hd]
    exact hS
end BCK
