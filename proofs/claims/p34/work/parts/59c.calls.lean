/-! MORE CALLS THAT ONLY READ: player, work, service, cast, balance, the busiest -/
theorem bey_neg {a b : Nat} (ha : a < 1000) (hb : b < 1000) : (if nI 0 < -(nI a - nI b) then -(nI a - nI b) else nI 0) = (if nI 0 ≤ nI a - nI b then nI 0 else -(nI a - nI b)) := by
  by_cases c : b ≤ a
  · rw [n_sub c, if_pos (nI_le (Nat.zero_le _) (by omega)), if_neg]
    rw [lt_iff32, sb_negT (by omega)]
    have z : (nI 0).toInt = 0 := rfl
    omega
  · have e : (nI a - nI b).toInt = (a : Int) - b := pk_sub_toInt (by omega) (by omega)
    have e2 : -(nI a - nI b) = nI (b - a) := by rw [Int32.neg_sub, n_sub (by omega)]
    rw [if_neg (show ¬ nI 0 ≤ nI a - nI b by rw [le_iff32, e]; have z : (nI 0).toInt = 0 := rfl; omega), e2, if_pos (show nI 0 < nI (b - a) from nI_lt (by omega) (by omega))]
/-- the answers of player -/
def plA (sg pl : Nat → Nat) (p k : Nat) : Int32 := if k = 0 then nI (pl (1 + p)) else if k = 1 then nI (oP sg p 0) else if k = 2 then nI (oP sg p 3) else if k = 3 then nI (kinds sg p) else if k = 4 then nI (svc sg pl p) else if k = 5 then nI (dOf sg pl p) else if k = 6 then (if nI 0 ≤ bey sg pl p then nI 0 else -bey sg pl p) else otI sg pl p
/-- the answers of work -/
def wkA (sg pl : Nat → Nat) (w k : Nat) : Int32 := if k < 5 then nI (oW sg w k) else if k = 5 then nI (swt pl w 0 (sg 0 * 3)) else if k = 6 then nI (swt pl w 1 (sg 0 * 3)) else rentI sg pl w
/-- the answers of service -/
def seA (sg pl : Nat → Nat) (s k : Nat) : Int32 := if k < 4 then nI (oS pl s k) else if k = 4 then nI (inS sg pl s) else nI (dIn sg pl s 255)