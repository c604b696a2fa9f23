/-! THE ROOM: a class in more pieces -/
section PIE
/-- all starts of a class -/
def ClsOK (c : Nat) : Prop := ∀ T, T < 4294967296 → T % 1024 = c → 6 ≤ 2 + dvr T 6 → GlT T
/-- piece i of class c, n lanes each -/
noncomputable def runP (c n i : Nat) : Bool := fzB (Nat.add 6 (Nat.mod (Nat.div c 256) 2)) fun P => fzB (Nat.add (Nat.add (Nat.mul 1024 (Nat.mod (Nat.add (Nat.add 1 (Nat.mod (Nat.div c 256) 2)) (Nat.mul 2 (Nat.div c 256))) 3)) c) (Nat.mul 3072 (Nat.mul (Nat.mul 24 n) i))) fun t => bif Nat.blt t 4294967296 then runC c n t (Nat.sub 1398102 (Nat.mul (Nat.mul 24 n) i)) P else false
theorem runP_ok {c n i : Nat} (hc : c < 1024) (hn : n ≤ 32768) (h : runP c n i = true) : ∀ T, T < 4294967296 → T % 1024 = c → 6 ≤ 2 + dvr T 6 → 24 * n * i ≤ T / 1024 / 3 → T / 1024 / 3 < 24 * n * i + 24 * n → GlT T := by
  intro T hT he h6 hi1 hi2
  have d6 := dvr_lt T (show 1 ≤ 6 by omega)
  have h6 : 6 ≤ 2 + T / 256 % 6 := h6
  have d6 : T / 256 % 6 < 6 := d6
  have hP : 6 + c / 256 % 2 = 2 + dvr T 6 := by
    show _ = 2 + T / 256 % 6
    omega
  have hr : T / 1024 % 3 = (1 + c / 256 % 2 + 2 * (c / 256)) % 3 := by
    have hP : 6 + c / 256 % 2 = 2 + T / 256 % 6 := hP
    omega
  unfold runP at h
  rw [fzB_e, fzB_e] at h
  have h : (bif Nat.blt (1024 * ((1 + c / 256 % 2 + 2 * (c / 256)) % 3) + c + 3072 * (24 * n * i)) 4294967296 then runC c n (1024 * ((1 + c / 256 % 2 + 2 * (c / 256)) % 3) + c + 3072 * (24 * n * i)) (1398102 - 24 * n * i) (6 + c / 256 % 2) else false) = true := h
  obtain ⟨h1, h2⟩ := and_b h
  have h1 : 1024 * ((1 + c / 256 % 2 + 2 * (c / 256)) % 3) + c + 3072 * (24 * n * i) < 4294967296 := Nat.le_of_ble_eq_true h1
  clear h
  have r3 := Nat.mod_lt (1 + c / 256 % 2 + 2 * (c / 256)) (show 3 > 0 by omega)
  generalize (1 + c / 256 % 2 + 2 * (c / 256)) % 3 = r at hr h1 h2 r3
  have p7 : 1 ≤ 6 + c / 256 % 2 ∧ 6 + c / 256 % 2 ≤ 7 := by omega
  generalize 6 + c / 256 % 2 = P at hP h2 p7
  generalize 24 * n * i = o at h1 h2 hi1 hi2
  generalize h24 : 24 * n = m at hi2
  have e : Tk (1024 * r + c + 3072 * o) (T / 1024 / 3 - o) = T := by
    unfold Tk
    omega
  have g := runC_ok (k := T / 1024 / 3 - o) hn h1 (by rw [e]; exact he) (by rw [h24]; omega) (by omega) p7 (by rw [e]; exact hP) h2
  rw [e] at g
  exact g
/-- all pieces -/
noncomputable def runQ (c n : Nat) (a q : Nat) : Bool := Nat.rec (motive := fun _ => Bool) true (fun i x => bif runP c n (Nat.add a i) then x else false) q
theorem runQ_ok {c n a : Nat} : ∀ {q}, runQ c n a q = true → ∀ i, a ≤ i → i < a + q → runP c n i = true
  | 0, _, i, h1, h2 => absurd h1 (by omega)
  | q + 1, h, i, h1, h2 => by
    have h : (bif runP c n (a + q) then runQ c n a q else false) = true := h
    obtain ⟨q1, q2⟩ := and_b h
    by_cases e : i = a + q
    · rw [e]; exact q1
    · exact runQ_ok q2 i h1 (by omega)
theorem cls_P {c n q : Nat} (hc : c < 1024) (hn : n ≤ 32768) (hq : 1398102 ≤ 24 * n * q) (h : ∀ i, i < q → runP c n i = true) : ClsOK c := by
  intro T hT he h6
  have k : T / 1024 / 3 < 1398102 := by omega
  have n1 : 0 < 24 * n := by
    rcases Nat.eq_zero_or_pos (24 * n) with z | z
    · rw [z, Nat.zero_mul] at hq
      exact absurd hq (by omega)
    · exact z
  have i1 : T / 1024 / 3 / (24 * n) < q := Nat.div_lt_of_lt_mul (Nat.lt_of_lt_of_le k hq)
  have d := Nat.div_add_mod (T / 1024 / 3) (24 * n)
  have m := Nat.mod_lt (T / 1024 / 3) n1
  refine runP_ok hc hn (h _ i1) T hT he h6 ?_ ?_
  · omega
  · omega
theorem cls_B {a n : Nat} (h : runB a n = true) : ∀ c, a ≤ c → c < a + n → c < 1024 → ClsOK c := fun c h1 h2 h3 => runA_ok h3 (runB_ok h c h1 h2)
theorem cls_all (h : ∀ c, c < 1024 → ClsOK c) : RoomBig := room_big fun T i hT i1 i3 hv h6 _ => h (T % 1024) (Nat.mod_lt _ (by omega)) T hT rfl h6 i i1 i3 hv
end PIE
