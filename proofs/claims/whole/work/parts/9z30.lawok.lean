/-! THE LAW HOLDS, over any store -/
theorem law_ok {M : Mm} {L : Nat} {xs : Nat → Int32} {P : Int32 → Mm → Prop} (hL : L ≤ 3072) (hP : ∀ M, P (1 : Int32) M) : w_L_law M L xs P := by
  unfold w_L_law
  intro a1 M1 ea e1
  have n1 : zn M1 = a1 + 1 := by rw [e1, zn_sN, ea]
  refine s_X7_init (by rw [e1]; exact kN_n ea) n1 (fun j => by rw [e1]; exact iN_n ea) fun M2 n2 f2 c2 => ?_
  intro a3 M3 ea3 e3
  obtain rfl : a3 = a1 + 149 := ea3.trans n2
  have n3 : zn M3 = a1 + 149 + 1 := by rw [e3, zn_sN, n2]
  have z3 : ∀ j, zI M3 (a1 + 149) j = nI 0 := fun j => by rw [e3]; exact iN_n n2.symm
  refine s_X8_init (by rw [e3]; exact kN_n n2.symm) n3 _ fun M4 n4 f4 r4 ms4 i4 => ?_
  refine ⟨by decide, by decide, fun a5 M5 ea5 e5 => ⟨514, Nat.le_refl _, ?_⟩⟩
  rw [show (1 : Int32).toNatClampNeg = 1 by decide] at e5
  have n4' : zn M4 = a1 + 163 := by rw [n4]
  obtain rfl : a5 = a1 + 163 := ea5.trans n4'
  have f24 : FrG (a1 + 149) (a1 + 150) M2 M5 := by
    rw [e5]
    refine FrG.trans (M1 := M4) (FrG.trans (M1 := M3) ?_ f4) frg_N
    rw [e3]; exact frg_N
  have mi4 : MI (a1 + 149) st0 M4 := mi_new (fun j => by
    rw [i4]
    by_cases c : j = 13
    · rw [if_pos c, if_pos c]
    · rw [if_neg c, if_neg c]; exact z3 j) (fun b h1 h2 j => r4 b h1 (by omega) j) ms4
  have st : St a1 M5 := by
    refine ⟨st0, st0_ok, c2.frg f24 (Nat.le_of_eq n2.symm) (Nat.le_refl _), mi4.frg (lo := 0) (hi := 0) (by rw [e5]; exact frg_N) (Nat.le_of_eq n4.symm) (Nat.zero_le _), ?_, ?_, ?_⟩
    · rw [e5, zn_sN, n4']; exact Nat.le_refl _
    · rw [e5]; exact kN_n n4'.symm
    · rw [e5]; exact lN_n n4'.symm
  exact law_loop hL (fun M => hP M) 513 0 M5 (by omega) (Nat.zero_le _) st
