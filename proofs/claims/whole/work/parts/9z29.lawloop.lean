/-! THE LAW'S LOOP (written by wip/whole/gen_loop.py) -/
theorem ifc {c : Prop} [Decidable c] {A B : Prop} (a : c → A) (b : ¬ c → B) : if c then A else B := by
  by_cases h : c
  · exact ifp h (a h)
  · exact ifn h (b h)
theorem law_out {L i : Nat} (hL : L ≤ 3072) (h : L < i + 6) (hi : i < 4000) : nI L - (6 : Int32) < nI i := by
  rw [l_6]
  by_cases c : 6 ≤ L
  · rw [n_sub c]; exact nI_lt (by omega) (by omega)
  · rw [lt_iff32, nI_toInt (by omega)]
    have e : (nI L - nI 6).toInt = (L : Int) - 6 := by
      rcases (show L = 0 ∨ L = 1 ∨ L = 2 ∨ L = 3 ∨ L = 4 ∨ L = 5 by omega) with rfl | rfl | rfl | rfl | rfl | rfl <;> decide
    rw [e]; omega
theorem law_in {L i : Nat} (hL : L ≤ 3072) (h : ¬ L < i + 6) : ¬ nI L - (6 : Int32) < nI i := by
  rw [l_6, n_sub (by omega)]; exact nI_nlt (by omega) (by omega)
theorem law_vp {L i k : Nat} {w : Int32} (hw : w = nI k) (hL : L ≤ 3072) (h : i + k < L) : vp_in (nI i + w) L := by
  rw [hw, nI_add]; exact vpn h (by omega)
theorem cA : clA.1 < 1000 := show (1 : Nat) < 1000 by omega
theorem cB : clB.1 < 1000 := show (2 : Nat) < 1000 by omega
theorem cB1 : clB1.1 < 1000 := show (1 : Nat) < 1000 by omega
theorem cB3 : clB3.1 < 1000 := show (3 : Nat) < 1000 by omega
theorem cC : clC.1 < 1000 := show (2 : Nat) < 1000 by omega
theorem cC1 : clC1.1 < 1000 := show (1 : Nat) < 1000 by omega
section LT
variable {x : Nat} {s : ST} {M : Mm} {NEXT BAD : Mm → Prop} {Q : Int32 → Mm → Prop}
theorem law_parse (ok : OKs s) (a1 : Int32) (hC : CI x s M) (hM : MI (x + 149) s M) (hW : WO x M) (nx : ∀ M', St x M' → NEXT M')
    (q : ∀ r8 M8, (zk M8 (x + 149) = 8 ∧ w_X8_parse M8 (x + 149) a1 (fun r9 M9 => zk M9 (x + 149) = 8 ∧ w_X8_thrown M9 (x + 149) (fun r10 M10 => if r10 = r8 then (if r8 = (0 : Int32) then zk M10 (x + 163) = 11 ∧ vp_in (0 : Int32) (zl M10 (x + 163)) ∧ (if (lg_cmp (zJ M10 (x + 163) (0 : Int32).toNatClampNeg) r9.toInt64) = 0 then NEXT M10 else BAD M10) else NEXT M10) else BAD M10))) → Q r8 M8) : w_L_parse M x a1 (x + 163) Q := by
  unfold w_L_parse
  exact law_B (NEXT := NEXT) (BAD := BAD) (Q := Q) (wC := fun M P X => w_X7_parse M x a1 P X) (wM := fun M P => w_X8_parse M (x + 149) a1 P) (call_parse ok a1) cA hC hM hW nx xA q
theorem law_size (ok : OKs s) (a1 : Int32) (hC : CI x s M) (hM : MI (x + 149) s M) (hW : WO x M) (nx : ∀ M', St x M' → NEXT M')
    (q : ∀ r8 M8, (zk M8 (x + 149) = 8 ∧ w_X8_size M8 (x + 149) a1 (fun r9 M9 => zk M9 (x + 149) = 8 ∧ w_X8_thrown M9 (x + 149) (fun r10 M10 => if r10 = r8 then (if r8 = (0 : Int32) then zk M10 (x + 163) = 11 ∧ vp_in (0 : Int32) (zl M10 (x + 163)) ∧ (if (lg_cmp (zJ M10 (x + 163) (0 : Int32).toNatClampNeg) r9.toInt64) = 0 then NEXT M10 else BAD M10) else NEXT M10) else BAD M10))) → Q r8 M8) : w_L_size M x a1 (x + 163) Q := by
  unfold w_L_size
  exact law_B (NEXT := NEXT) (BAD := BAD) (Q := Q) (wC := fun M P X => w_X7_size M x a1 P X) (wM := fun M P => w_X8_size M (x + 149) a1 P) (call_size ok a1).p cA hC hM hW nx xA q
theorem law_find (ok : OKs s) (a1 : Int32) (hC : CI x s M) (hM : MI (x + 149) s M) (hW : WO x M) (nx : ∀ M', St x M' → NEXT M')
    (q : ∀ r8 M8, (zk M8 (x + 149) = 8 ∧ w_X8_find M8 (x + 149) a1 (fun r9 M9 => zk M9 (x + 149) = 8 ∧ w_X8_thrown M9 (x + 149) (fun r10 M10 => if r10 = r8 then (if r8 = (0 : Int32) then zk M10 (x + 163) = 11 ∧ vp_in (0 : Int32) (zl M10 (x + 163)) ∧ (if (lg_cmp (zJ M10 (x + 163) (0 : Int32).toNatClampNeg) r9.toInt64) = 0 then NEXT M10 else BAD M10) else NEXT M10) else BAD M10))) → Q r8 M8) : w_L_find M x a1 (x + 163) Q := by
  unfold w_L_find
  exact law_B (NEXT := NEXT) (BAD := BAD) (Q := Q) (wC := fun M P X => w_X7_find M x a1 P X) (wM := fun M P => w_X8_find M (x + 149) a1 P) (call_find ok a1).p cA hC hM hW nx xA q
theorem law_turn (ok : OKs s) (a1 : Int32) (hC : CI x s M) (hM : MI (x + 149) s M) (hW : WO x M) (nx : ∀ M', St x M' → NEXT M')
    (q : ∀ r8 M8, (zk M8 (x + 149) = 8 ∧ w_X8_turn M8 (x + 149) a1 (fun r9 M9 => zk M9 (x + 149) = 8 ∧ w_X8_thrown M9 (x + 149) (fun r10 M10 => if r10 = r8 then (if r8 = (0 : Int32) then zk M10 (x + 163) = 11 ∧ vp_in (0 : Int32) (zl M10 (x + 163)) ∧ (if (lg_cmp (zJ M10 (x + 163) (0 : Int32).toNatClampNeg) r9.toInt64) = 0 then NEXT M10 else BAD M10) else NEXT M10) else BAD M10))) → Q r8 M8) : w_L_turn M x a1 (x + 163) Q := by
  unfold w_L_turn
  exact law_B (NEXT := NEXT) (BAD := BAD) (Q := Q) (wC := fun M P X => w_X7_turn M x a1 P X) (wM := fun M P => w_X8_turn M (x + 149) a1 P) (call_turn ok a1).p cB1 hC hM hW nx xB1 q
theorem law_player (ok : OKs s) (a1 a2 : Int32) (hC : CI x s M) (hM : MI (x + 149) s M) (hW : WO x M) (nx : ∀ M', St x M' → NEXT M')
    (q : ∀ r8 M8, (zk M8 (x + 149) = 8 ∧ w_X8_player M8 (x + 149) a1 a2 (fun r9 M9 => zk M9 (x + 149) = 8 ∧ w_X8_thrown M9 (x + 149) (fun r10 M10 => if r10 = r8 then (if r8 = (0 : Int32) then zk M10 (x + 163) = 11 ∧ vp_in (0 : Int32) (zl M10 (x + 163)) ∧ (if (lg_cmp (zJ M10 (x + 163) (0 : Int32).toNatClampNeg) r9.toInt64) = 0 then NEXT M10 else BAD M10) else NEXT M10) else BAD M10))) → Q r8 M8) : w_L_player M x a1 a2 (x + 163) Q := by
  unfold w_L_player
  exact law_B (NEXT := NEXT) (BAD := BAD) (Q := Q) (wC := fun M P X => w_X7_player M x a1 a2 P X) (wM := fun M P => w_X8_player M (x + 149) a1 a2 P) (call_player ok a1 a2).p cB hC hM hW nx xB q
theorem law_isFree (ok : OKs s) (a1 a2 : Int32) (hC : CI x s M) (hM : MI (x + 149) s M) (hW : WO x M) (nx : ∀ M', St x M' → NEXT M')
    (q : ∀ r8 M8, (zk M8 (x + 149) = 8 ∧ w_X8_isFree M8 (x + 149) a1 a2 (fun r9 M9 => zk M9 (x + 149) = 8 ∧ w_X8_thrown M9 (x + 149) (fun r10 M10 => if r10 = r8 then (if r8 = (0 : Int32) then zk M10 (x + 163) = 11 ∧ vp_in (0 : Int32) (zl M10 (x + 163)) ∧ (if r9 = 0 then (if (lg_cmp (zJ M10 (x + 163) (0 : Int32).toNatClampNeg) (0 : Int64)) = 0 then NEXT M10 else BAD M10) else (if (lg_cmp (zJ M10 (x + 163) (0 : Int32).toNatClampNeg) (1 : Int64)) = 0 then NEXT M10 else BAD M10)) else NEXT M10) else BAD M10))) → Q r8 M8) : w_L_isFree M x a1 a2 (x + 163) Q := by
  unfold w_L_isFree
  exact law_Z (NEXT := NEXT) (BAD := BAD) (Q := Q) (wC := fun M P X => w_X7_isFree M x a1 a2 P X) (wM := fun M P => w_X8_isFree M (x + 149) a1 a2 P) (call_isFree ok a1 a2).p cB1 hC hM hW nx xB1 q
theorem law_work (ok : OKs s) (a1 a2 : Int32) (hC : CI x s M) (hM : MI (x + 149) s M) (hW : WO x M) (nx : ∀ M', St x M' → NEXT M')
    (q : ∀ r8 M8, (zk M8 (x + 149) = 8 ∧ w_X8_work M8 (x + 149) a1 a2 (fun r9 M9 => zk M9 (x + 149) = 8 ∧ w_X8_thrown M9 (x + 149) (fun r10 M10 => if r10 = r8 then (if r8 = (0 : Int32) then zk M10 (x + 163) = 11 ∧ vp_in (0 : Int32) (zl M10 (x + 163)) ∧ (if (lg_cmp (zJ M10 (x + 163) (0 : Int32).toNatClampNeg) r9.toInt64) = 0 then NEXT M10 else BAD M10) else NEXT M10) else BAD M10))) → Q r8 M8) : w_L_work M x a1 a2 (x + 163) Q := by
  unfold w_L_work
  exact law_B (NEXT := NEXT) (BAD := BAD) (Q := Q) (wC := fun M P X => w_X7_work M x a1 a2 P X) (wM := fun M P => w_X8_work M (x + 149) a1 a2 P) (call_work ok a1 a2).p cB hC hM hW nx xB q
theorem law_seat (ok : OKs s) (a1 a2 : Int32) (hC : CI x s M) (hM : MI (x + 149) s M) (hW : WO x M) (nx : ∀ M', St x M' → NEXT M')
    (q : ∀ r8 M8, (zk M8 (x + 149) = 8 ∧ w_X8_seat M8 (x + 149) a1 a2 (fun r9 M9 => zk M9 (x + 149) = 8 ∧ w_X8_thrown M9 (x + 149) (fun r10 M10 => if r10 = r8 then (if r8 = (0 : Int32) then zk M10 (x + 163) = 11 ∧ vp_in (0 : Int32) (zl M10 (x + 163)) ∧ (if (lg_cmp (zJ M10 (x + 163) (0 : Int32).toNatClampNeg) r9.toInt64) = 0 then NEXT M10 else BAD M10) else NEXT M10) else BAD M10))) → Q r8 M8) : w_L_seat M x a1 a2 (x + 163) Q := by
  unfold w_L_seat
  exact law_B (NEXT := NEXT) (BAD := BAD) (Q := Q) (wC := fun M P X => w_X7_seat M x a1 a2 P X) (wM := fun M P => w_X8_seat M (x + 149) a1 a2 P) (call_seat ok a1 a2).p cB1 hC hM hW nx xB1 q
theorem law_service (ok : OKs s) (a1 a2 : Int32) (hC : CI x s M) (hM : MI (x + 149) s M) (hW : WO x M) (nx : ∀ M', St x M' → NEXT M')
    (q : ∀ r8 M8, (zk M8 (x + 149) = 8 ∧ w_X8_service M8 (x + 149) a1 a2 (fun r9 M9 => zk M9 (x + 149) = 8 ∧ w_X8_thrown M9 (x + 149) (fun r10 M10 => if r10 = r8 then (if r8 = (0 : Int32) then zk M10 (x + 163) = 11 ∧ vp_in (0 : Int32) (zl M10 (x + 163)) ∧ (if (lg_cmp (zJ M10 (x + 163) (0 : Int32).toNatClampNeg) r9.toInt64) = 0 then NEXT M10 else BAD M10) else NEXT M10) else BAD M10))) → Q r8 M8) : w_L_service M x a1 a2 (x + 163) Q := by
  unfold w_L_service
  exact law_B (NEXT := NEXT) (BAD := BAD) (Q := Q) (wC := fun M P X => w_X7_service M x a1 a2 P X) (wM := fun M P => w_X8_service M (x + 149) a1 a2 P) (call_service ok a1 a2).p cB hC hM hW nx xB q
theorem law_cast (ok : OKs s) (a1 a2 a3 : Int32) (hC : CI x s M) (hM : MI (x + 149) s M) (hW : WO x M) (nx : ∀ M', St x M' → NEXT M')
    (q : ∀ r8 M8, (zk M8 (x + 149) = 8 ∧ w_X8_cast M8 (x + 149) a1 a2 a3 (fun r9 M9 => zk M9 (x + 149) = 8 ∧ w_X8_thrown M9 (x + 149) (fun r10 M10 => if r10 = r8 then (if r8 = (0 : Int32) then zk M10 (x + 163) = 11 ∧ vp_in (0 : Int32) (zl M10 (x + 163)) ∧ (if (lg_cmp (zJ M10 (x + 163) (0 : Int32).toNatClampNeg) r9.toInt64) = 0 then NEXT M10 else BAD M10) else NEXT M10) else BAD M10))) → Q r8 M8) : w_L_cast M x a1 a2 a3 (x + 163) Q := by
  unfold w_L_cast
  exact law_B (NEXT := NEXT) (BAD := BAD) (Q := Q) (wC := fun M P X => w_X7_cast M x a1 a2 a3 P X) (wM := fun M P => w_X8_cast M (x + 149) a1 a2 a3 P) (call_cast ok a1 a2 a3).p cB1 hC hM hW nx xB1 q
theorem law_serviceAt (ok : OKs s) (a1 a2 : Int32) (hC : CI x s M) (hM : MI (x + 149) s M) (hW : WO x M) (nx : ∀ M', St x M' → NEXT M')
    (q : ∀ r8 M8, (zk M8 (x + 149) = 8 ∧ w_X8_serviceAt M8 (x + 149) a1 a2 (fun r9 M9 => zk M9 (x + 149) = 8 ∧ w_X8_thrown M9 (x + 149) (fun r10 M10 => if r10 = r8 then (if r8 = (0 : Int32) then zk M10 (x + 163) = 11 ∧ vp_in (0 : Int32) (zl M10 (x + 163)) ∧ (if (lg_cmp (zJ M10 (x + 163) (0 : Int32).toNatClampNeg) r9.toInt64) = 0 then NEXT M10 else BAD M10) else NEXT M10) else BAD M10))) → Q r8 M8) : w_L_serviceAt M x a1 a2 (x + 163) Q := by
  unfold w_L_serviceAt
  exact law_B (NEXT := NEXT) (BAD := BAD) (Q := Q) (wC := fun M P X => w_X7_serviceAt M x a1 a2 P X) (wM := fun M P => w_X8_serviceAt M (x + 149) a1 a2 P) (call_serviceAt ok a1 a2).p cB1 hC hM hW nx xB1 q
theorem law_fewestDoublings (ok : OKs s) (a1 a2 : Int32) (hC : CI x s M) (hM : MI (x + 149) s M) (hW : WO x M) (nx : ∀ M', St x M' → NEXT M')
    (q : ∀ r8 M8, (zk M8 (x + 149) = 8 ∧ w_X8_fewestDoublings M8 (x + 149) a1 a2 (fun r9 M9 => zk M9 (x + 149) = 8 ∧ w_X8_thrown M9 (x + 149) (fun r10 M10 => if r10 = r8 then (if r8 = (0 : Int32) then zk M10 (x + 163) = 11 ∧ vp_in (0 : Int32) (zl M10 (x + 163)) ∧ (if (lg_cmp (zJ M10 (x + 163) (0 : Int32).toNatClampNeg) r9.toInt64) = 0 then NEXT M10 else BAD M10) else NEXT M10) else BAD M10))) → Q r8 M8) : w_L_fewestDoublings M x a1 a2 (x + 163) Q := by
  unfold w_L_fewestDoublings
  exact law_B (NEXT := NEXT) (BAD := BAD) (Q := Q) (wC := fun M P X => w_X7_fewestDoublings M x a1 a2 P X) (wM := fun M P => w_X8_fewestDoublings M (x + 149) a1 a2 P) (call_fewestDoublings ok a1 a2).p cB1 hC hM hW nx xB1 q
theorem law_whyNot (ok : OKs s) (a1 a2 a3 : Int32) {c : Nat} (hc : c < 2) (hC : CI x s M) (hM : MI (x + 149) s M) (hW : WO x M) (nx : ∀ M', St x M' → NEXT M')
    (q : ∀ r8 M8, (zk M8 (x + 149) = 8 ∧ w_X8_whyNot M8 (x + 149) a1 a2 a3 (nI c) (fun r9 M9 => zk M9 (x + 149) = 8 ∧ w_X8_thrown M9 (x + 149) (fun r10 M10 => if r10 = r8 then (if r8 = (0 : Int32) then zk M10 (x + 163) = 11 ∧ vp_in (0 : Int32) (zl M10 (x + 163)) ∧ (if (lg_cmp (zJ M10 (x + 163) (0 : Int32).toNatClampNeg) r9.toInt64) = 0 then NEXT M10 else BAD M10) else NEXT M10) else BAD M10))) → Q r8 M8) : w_L_whyNot M x a1 a2 a3 (nI c) (x + 163) Q := by
  unfold w_L_whyNot
  exact law_B (NEXT := NEXT) (BAD := BAD) (Q := Q) (wC := fun M P X => w_X7_whyNot M x a1 a2 a3 (nI c) P X) (wM := fun M P => w_X8_whyNot M (x + 149) a1 a2 a3 (nI c) P) (call_whyNot ok a1 a2 a3 hc).p cB hC hM hW nx xB q
theorem law_earliest (ok : OKs s) (a1 a2 a3 : Int32) {c : Nat} (hc : c < 2) (hC : CI x s M) (hM : MI (x + 149) s M) (hW : WO x M) (nx : ∀ M', St x M' → NEXT M')
    (q : ∀ r8 M8, (zk M8 (x + 149) = 8 ∧ w_X8_earliest M8 (x + 149) a1 a2 a3 (nI c) (fun r9 M9 => zk M9 (x + 149) = 8 ∧ w_X8_thrown M9 (x + 149) (fun r10 M10 => if r10 = r8 then (if r8 = (0 : Int32) then zk M10 (x + 163) = 11 ∧ vp_in (0 : Int32) (zl M10 (x + 163)) ∧ (if (lg_cmp (zJ M10 (x + 163) (0 : Int32).toNatClampNeg) r9.toInt64) = 0 then NEXT M10 else BAD M10) else NEXT M10) else BAD M10))) → Q r8 M8) : w_L_earliest M x a1 a2 a3 (nI c) (x + 163) Q := by
  unfold w_L_earliest
  exact law_B (NEXT := NEXT) (BAD := BAD) (Q := Q) (wC := fun M P X => w_X7_earliest M x a1 a2 a3 (nI c) P X) (wM := fun M P => w_X8_earliest M (x + 149) a1 a2 a3 (nI c) P) (call_earliest ok a1 a2 a3 hc).p cB hC hM hW nx xB q
theorem law_whyNotMove (ok : OKs s) (a1 a2 : Int32) (hC : CI x s M) (hM : MI (x + 149) s M) (hW : WO x M) (nx : ∀ M', St x M' → NEXT M')
    (q : ∀ r8 M8, (zk M8 (x + 149) = 8 ∧ w_X8_whyNotMove M8 (x + 149) a1 a2 (fun r9 M9 => zk M9 (x + 149) = 8 ∧ w_X8_thrown M9 (x + 149) (fun r10 M10 => if r10 = r8 then (if r8 = (0 : Int32) then zk M10 (x + 163) = 11 ∧ vp_in (0 : Int32) (zl M10 (x + 163)) ∧ (if (lg_cmp (zJ M10 (x + 163) (0 : Int32).toNatClampNeg) r9.toInt64) = 0 then NEXT M10 else BAD M10) else NEXT M10) else BAD M10))) → Q r8 M8) : w_L_whyNotMove M x a1 a2 (x + 163) Q := by
  unfold w_L_whyNotMove
  exact law_B (NEXT := NEXT) (BAD := BAD) (Q := Q) (wC := fun M P X => w_X7_whyNotMove M x a1 a2 P X) (wM := fun M P => w_X8_whyNotMove M (x + 149) a1 a2 P) (call_whyNotMove ok a1 a2).p cB1 hC hM hW nx xB1 q
theorem law_costs (ok : OKs s) (a1 : Int32) (hC : CI x s M) (hM : MI (x + 149) s M) (hW : WO x M) (nx : ∀ M', St x M' → NEXT M')
    (q : ∀ r8 M8, (zk M8 (x + 149) = 8 ∧ w_X8_costs M8 (x + 149) a1 (fun r9 M9 => zk M9 (x + 149) = 8 ∧ w_X8_thrown M9 (x + 149) (fun r10 M10 => if r10 = r8 then (if r8 = (0 : Int32) then zk M10 (x + 163) = 11 ∧ vp_in (0 : Int32) (zl M10 (x + 163)) ∧ (if (lg_cmp (zJ M10 (x + 163) (0 : Int32).toNatClampNeg) r9.toInt64) = 0 then NEXT M10 else BAD M10) else NEXT M10) else BAD M10))) → Q r8 M8) : w_L_costs M x a1 (x + 163) Q := by
  unfold w_L_costs
  exact law_B (NEXT := NEXT) (BAD := BAD) (Q := Q) (wC := fun M P X => w_X7_costs M x a1 P X) (wM := fun M P => w_X8_costs M (x + 149) a1 P) (call_costs ok a1).p cA hC hM hW nx xA q
theorem law_costsWith (ok : OKs s) (a1 a2 a3 : Int32) {c : Nat} (hc : c < 2) (hC : CI x s M) (hM : MI (x + 149) s M) (hW : WO x M) (nx : ∀ M', St x M' → NEXT M')
    (q : ∀ r8 M8, (zk M8 (x + 149) = 8 ∧ w_X8_costsWith M8 (x + 149) a1 a2 a3 (nI c) (fun r9 M9 => zk M9 (x + 149) = 8 ∧ w_X8_thrown M9 (x + 149) (fun r10 M10 => if r10 = r8 then (if r8 = (0 : Int32) then zk M10 (x + 163) = 11 ∧ vp_in (0 : Int32) (zl M10 (x + 163)) ∧ (if (lg_cmp (zJ M10 (x + 163) (0 : Int32).toNatClampNeg) r9.toInt64) = 0 then NEXT M10 else BAD M10) else NEXT M10) else BAD M10))) → Q r8 M8) : w_L_costsWith M x a1 a2 a3 (nI c) (x + 163) Q := by
  unfold w_L_costsWith
  exact law_B (NEXT := NEXT) (BAD := BAD) (Q := Q) (wC := fun M P X => w_X7_costsWith M x a1 a2 a3 (nI c) P X) (wM := fun M P => w_X8_costsWith M (x + 149) a1 a2 a3 (nI c) P) (call_costsWith ok a1 a2 a3 hc).p cB hC hM hW nx xB q
theorem law_rehearse (ok : OKs s) (a1 a2 a3 : Int32) (hC : CI x s M) (hM : MI (x + 149) s M) (hW : WO x M) (nx : ∀ M', St x M' → NEXT M')
    (q : ∀ r8 M8, (zk M8 (x + 149) = 8 ∧ w_X8_rehearse M8 (x + 149) a1 a2 a3 (fun r9 M9 => zk M9 (x + 149) = 8 ∧ w_X8_thrown M9 (x + 149) (fun r10 M10 => if r10 = r8 then (if r8 = (0 : Int32) then zk M10 (x + 163) = 11 ∧ vp_in (0 : Int32) (zl M10 (x + 163)) ∧ (if (lg_cmp (zJ M10 (x + 163) (0 : Int32).toNatClampNeg) r9.toInt64) = 0 then NEXT M10 else BAD M10) else NEXT M10) else BAD M10))) → Q r8 M8) : w_L_rehearse M x a1 a2 a3 (x + 163) Q := by
  unfold w_L_rehearse
  exact law_B (NEXT := NEXT) (BAD := BAD) (Q := Q) (wC := fun M P X => w_X7_rehearse M x a1 a2 a3 P X) (wM := fun M P => w_X8_rehearse M (x + 149) a1 a2 a3 P) (call_rehearse ok a1 a2 a3).p cC hC hM hW nx xC q
theorem law_concert (ok : OKs s) (a1 a2 a3 : Int32) (hC : CI x s M) (hM : MI (x + 149) s M) (hW : WO x M) (nx : ∀ M', St x M' → NEXT M')
    (q : ∀ r8 M8, (zk M8 (x + 149) = 8 ∧ w_X8_concert M8 (x + 149) a1 a2 a3 (fun r9 M9 => zk M9 (x + 149) = 8 ∧ w_X8_thrown M9 (x + 149) (fun r10 M10 => if r10 = r8 then (if r8 = (0 : Int32) then zk M10 (x + 163) = 11 ∧ vp_in (0 : Int32) (zl M10 (x + 163)) ∧ (if (lg_cmp (zJ M10 (x + 163) (0 : Int32).toNatClampNeg) r9.toInt64) = 0 then NEXT M10 else BAD M10) else NEXT M10) else BAD M10))) → Q r8 M8) : w_L_concert M x a1 a2 a3 (x + 163) Q := by
  unfold w_L_concert
  exact law_B (NEXT := NEXT) (BAD := BAD) (Q := Q) (wC := fun M P X => w_X7_concert M x a1 a2 a3 P X) (wM := fun M P => w_X8_concert M (x + 149) a1 a2 a3 P) (call_concert ok a1 a2 a3).p cB3 hC hM hW nx xB3 q
theorem law_cancel (ok : OKs s) (a1 : Int32) (hC : CI x s M) (hM : MI (x + 149) s M) (hW : WO x M) (nx : ∀ M', St x M' → NEXT M')
    (q : ∀ r8 M8, (zk M8 (x + 149) = 8 ∧ w_X8_cancel M8 (x + 149) a1 (fun r9 M9 => zk M9 (x + 149) = 8 ∧ w_X8_thrown M9 (x + 149) (fun r10 M10 => if r10 = r8 then (if r8 = (0 : Int32) then zk M10 (x + 163) = 11 ∧ vp_in (0 : Int32) (zl M10 (x + 163)) ∧ (if (lg_cmp (zJ M10 (x + 163) (0 : Int32).toNatClampNeg) r9.toInt64) = 0 then NEXT M10 else BAD M10) else NEXT M10) else BAD M10))) → Q r8 M8) : w_L_cancel M x a1 (x + 163) Q := by
  unfold w_L_cancel
  exact law_B (NEXT := NEXT) (BAD := BAD) (Q := Q) (wC := fun M P X => w_X7_cancel M x a1 P X) (wM := fun M P => w_X8_cancel M (x + 149) a1 P) (call_cancel ok a1).p cC hC hM hW nx xC q
theorem law_move (ok : OKs s) (a1 a2 : Int32) (hC : CI x s M) (hM : MI (x + 149) s M) (hW : WO x M) (nx : ∀ M', St x M' → NEXT M')
    (q : ∀ r8 M8, (zk M8 (x + 149) = 8 ∧ w_X8_move M8 (x + 149) a1 a2 (fun r9 M9 => zk M9 (x + 149) = 8 ∧ w_X8_thrown M9 (x + 149) (fun r10 M10 => if r10 = r8 then (if r8 = (0 : Int32) then zk M10 (x + 163) = 11 ∧ vp_in (0 : Int32) (zl M10 (x + 163)) ∧ (if (lg_cmp (zJ M10 (x + 163) (0 : Int32).toNatClampNeg) r9.toInt64) = 0 then NEXT M10 else BAD M10) else NEXT M10) else BAD M10))) → Q r8 M8) : w_L_move M x a1 a2 (x + 163) Q := by
  unfold w_L_move
  exact law_B (NEXT := NEXT) (BAD := BAD) (Q := Q) (wC := fun M P X => w_X7_move M x a1 a2 P X) (wM := fun M P => w_X8_move M (x + 149) a1 a2 P) (call_move ok a1 a2).p cC hC hM hW nx xC q
theorem law_recast (ok : OKs s) (a1 : Int32) (hC : CI x s M) (hM : MI (x + 149) s M) (hW : WO x M) (nx : ∀ M', St x M' → NEXT M')
    (q : ∀ r8 M8, (zk M8 (x + 149) = 8 ∧ w_X8_recast M8 (x + 149) a1 (fun r9 M9 => zk M9 (x + 149) = 8 ∧ w_X8_thrown M9 (x + 149) (fun r10 M10 => if r10 = r8 then (if r8 = (0 : Int32) then zk M10 (x + 163) = 11 ∧ vp_in (0 : Int32) (zl M10 (x + 163)) ∧ (if (lg_cmp (zJ M10 (x + 163) (0 : Int32).toNatClampNeg) r9.toInt64) = 0 then NEXT M10 else BAD M10) else NEXT M10) else BAD M10))) → Q r8 M8) : w_L_recast M x a1 (x + 163) Q := by
  unfold w_L_recast
  exact law_B (NEXT := NEXT) (BAD := BAD) (Q := Q) (wC := fun M P X => w_X7_recast M x a1 P X) (wM := fun M P => w_X8_recast M (x + 149) a1 P) (call_recast ok a1).p cC1 hC hM hW nx xC1 q
theorem law_setContract (ok : OKs s) (a1 a2 : Int32) (hC : CI x s M) (hM : MI (x + 149) s M) (hW : WO x M) (nx : ∀ M', St x M' → NEXT M')
    (q : ∀ r8 M8, (zk M8 (x + 149) = 8 ∧ w_X8_setContract M8 (x + 149) a1 a2 (fun r9 M9 => zk M9 (x + 149) = 8 ∧ w_X8_thrown M9 (x + 149) (fun r10 M10 => if r10 = r8 then (if r8 = (0 : Int32) then zk M10 (x + 163) = 11 ∧ vp_in (0 : Int32) (zl M10 (x + 163)) ∧ (if (lg_cmp (zJ M10 (x + 163) (0 : Int32).toNatClampNeg) r9.toInt64) = 0 then NEXT M10 else BAD M10) else NEXT M10) else BAD M10))) → Q r8 M8) : w_L_setContract M x a1 a2 (x + 163) Q := by
  unfold w_L_setContract
  exact law_B (NEXT := NEXT) (BAD := BAD) (Q := Q) (wC := fun M P X => w_X7_setContract M x a1 a2 P X) (wM := fun M P => w_X8_setContract M (x + 149) a1 a2 P) (call_setContract ok a1 a2).p cB hC hM hW nx xB q
theorem law_saveSnapshot (ok : OKs s) (a1 : Int32) (hC : CI x s M) (hM : MI (x + 149) s M) (hW : WO x M) (nx : ∀ M', St x M' → NEXT M')
    (q : ∀ r8 M8, (zk M8 (x + 149) = 8 ∧ w_X8_saveSnapshot M8 (x + 149) a1 (fun r9 M9 => zk M9 (x + 149) = 8 ∧ w_X8_thrown M9 (x + 149) (fun r10 M10 => if r10 = r8 then (if r8 = (0 : Int32) then zk M10 (x + 163) = 11 ∧ vp_in (0 : Int32) (zl M10 (x + 163)) ∧ (if r9 = 0 then (if (lg_cmp (zJ M10 (x + 163) (0 : Int32).toNatClampNeg) (0 : Int64)) = 0 then NEXT M10 else BAD M10) else (if (lg_cmp (zJ M10 (x + 163) (0 : Int32).toNatClampNeg) (1 : Int64)) = 0 then NEXT M10 else BAD M10)) else NEXT M10) else BAD M10))) → Q r8 M8) : w_L_saveSnapshot M x a1 (x + 163) Q := by
  unfold w_L_saveSnapshot
  exact law_Z (NEXT := NEXT) (BAD := BAD) (Q := Q) (wC := fun M P X => w_X7_saveSnapshot M x a1 P X) (wM := fun M P => w_X8_saveSnapshot M (x + 149) a1 P) (call_saveSnapshot ok a1).p cC1 hC hM hW nx xC1 q
theorem law_restoreSnapshot (ok : OKs s) (a1 : Int32) (hC : CI x s M) (hM : MI (x + 149) s M) (hW : WO x M) (nx : ∀ M', St x M' → NEXT M')
    (q : ∀ r8 M8, (zk M8 (x + 149) = 8 ∧ w_X8_restoreSnapshot M8 (x + 149) a1 (fun r9 M9 => zk M9 (x + 149) = 8 ∧ w_X8_thrown M9 (x + 149) (fun r10 M10 => if r10 = r8 then (if r8 = (0 : Int32) then zk M10 (x + 163) = 11 ∧ vp_in (0 : Int32) (zl M10 (x + 163)) ∧ (if (lg_cmp (zJ M10 (x + 163) (0 : Int32).toNatClampNeg) r9.toInt64) = 0 then NEXT M10 else BAD M10) else NEXT M10) else BAD M10))) → Q r8 M8) : w_L_restoreSnapshot M x a1 (x + 163) Q := by
  unfold w_L_restoreSnapshot
  exact law_B (NEXT := NEXT) (BAD := BAD) (Q := Q) (wC := fun M P X => w_X7_restoreSnapshot M x a1 P X) (wM := fun M P => w_X8_restoreSnapshot M (x + 149) a1 P) (call_restoreSnapshot ok a1).p cC hC hM hW nx xC q
end LT
section LL
variable {L x : Nat} {xs : Nat → Int32} {P : Int32 → Mm → Prop} {K : Mm → Prop}
set_option maxHeartbeats 20000000 in
theorem law_loop (hL : L ≤ 3072) (hK : ∀ M, K M) : ∀ d i M, L < i + 6 * d → i ≤ L + 6 → St x M → l_L_law_23 L xs P K (d + 1) M x (x + 149) (x + 163) (nI i) := by
  intro d
  induction d with
  | zero =>
    intro i M h1 h2 st
    rw [l_L_law_23]
    exact ifp (law_out hL (by omega) (by omega)) (hK M)
  | succ d ih =>
    intro i M h1 h2 st
    rw [l_L_law_23]
    obtain ⟨N, hN⟩ : ∃ N, l_L_law_23 L xs P K (d + 1) = N := ⟨_, rfl⟩
    rw [hN] at ih ⊢
    by_cases c : L < i + 6
    · exact ifp (law_out hL c (by omega)) (hK M)
    have v0 : vp_in (nI i) L := vpn (by omega) (by omega)
    have v1 : vp_in (nI i + (1 : Int32)) L := law_vp l_1 hL (by omega)
    have v2 : vp_in (nI i + (2 : Int32)) L := law_vp l_2 hL (by omega)
    have v3 : vp_in (nI i + (3 : Int32)) L := law_vp l_3 hL (by omega)
    have v4 : vp_in (nI i + (4 : Int32)) L := law_vp l_4 hL (by omega)
    have v5 : vp_in (nI i + (5 : Int32)) L := law_vp l_5 hL (by omega)
    have nx : ∀ M', St x M' → N M' x (x + 149) (x + 163) (nI i + (6 : Int32)) := fun M' s' => by
      rw [l_6, nI_add]
      exact ih (i + 6) M' (by omega) (by omega) s'
    refine ifn (law_in hL c) ⟨v0, ?_⟩
    obtain ⟨a1, ha1⟩ : ∃ a, xs (nI i + (1 : Int32)).toNatClampNeg = a := ⟨_, rfl⟩
    obtain ⟨a2, ha2⟩ : ∃ a, xs (nI i + (2 : Int32)).toNatClampNeg = a := ⟨_, rfl⟩
    obtain ⟨a3, ha3⟩ : ∃ a, xs (nI i + (3 : Int32)).toNatClampNeg = a := ⟨_, rfl⟩
    obtain ⟨a4, ha4⟩ : ∃ a, xs (nI i + (4 : Int32)).toNatClampNeg = a := ⟨_, rfl⟩
    obtain ⟨a5, ha5⟩ : ∃ a, xs (nI i + (5 : Int32)).toNatClampNeg = a := ⟨_, rfl⟩
    rw [ha1, ha2, ha3, ha4, ha5]
    have st0_ := st
    obtain ⟨s, ok, hC, hM, hW⟩ := st
    refine ifc (fun _ => ?_) (fun _ => ?_)
    · exact ⟨v1, v2, v3, v4, v5, law_A (BAD := P (0 : Int32)) (wC := fun M P => w_X7_append M x a1 a2 a3 a4 a5 P) (wM := fun M P => w_X8_append M (x + 149) a1 a2 a3 a4 a5 P) (call_append ok a1 a2 a3 a4 a5) hC hM hW nx fun r6 M6 h => ⟨v1, v2, v3, v4, v5, h⟩⟩
    refine ifc (fun _ => ?_) (fun _ => ?_)
    · refine ⟨v1, ?_⟩
      exact law_parse ok a1 hC hM hW nx (BAD := P (0 : Int32)) fun r8 M8 h => ⟨v1, h⟩
    refine ifc (fun _ => ?_) (fun _ => ?_)
    · exact law_A (BAD := P (0 : Int32)) (wC := fun M P => w_X7_errorPosition M x P) (wM := fun M P => w_X8_errorPosition M (x + 149) P) (call_errorPosition ok) hC hM hW nx fun r6 M6 h => h
    refine ifc (fun _ => ?_) (fun _ => ?_)
    · refine ⟨v1, ?_⟩
      exact law_size ok a1 hC hM hW nx (BAD := P (0 : Int32)) fun r8 M8 h => ⟨v1, h⟩
    refine ifc (fun _ => ?_) (fun _ => ?_)
    · refine ⟨v1, ?_⟩
      exact law_find ok a1 hC hM hW nx (BAD := P (0 : Int32)) fun r8 M8 h => ⟨v1, h⟩
    refine ifc (fun _ => ?_) (fun _ => ?_)
    · refine ⟨v1, ?_⟩
      exact law_turn ok a1 hC hM hW nx (BAD := P (0 : Int32)) fun r8 M8 h => ⟨v1, h⟩
    refine ifc (fun _ => ?_) (fun _ => ?_)
    · refine ⟨v1, v2, ?_⟩
      exact law_player ok a1 a2 hC hM hW nx (BAD := P (0 : Int32)) fun r8 M8 h => ⟨v1, v2, h⟩
    refine ifc (fun _ => ?_) (fun _ => ?_)
    · refine ⟨v1, v2, ?_⟩
      exact law_isFree ok a1 a2 hC hM hW nx (BAD := P (0 : Int32)) fun r8 M8 h => ⟨v1, v2, h⟩
    refine ifc (fun _ => ?_) (fun _ => ?_)
    · refine ⟨v1, v2, ?_⟩
      exact law_work ok a1 a2 hC hM hW nx (BAD := P (0 : Int32)) fun r8 M8 h => ⟨v1, v2, h⟩
    refine ifc (fun _ => ?_) (fun _ => ?_)
    · refine ⟨v1, v2, ?_⟩
      exact law_seat ok a1 a2 hC hM hW nx (BAD := P (0 : Int32)) fun r8 M8 h => ⟨v1, v2, h⟩
    refine ifc (fun _ => ?_) (fun _ => ?_)
    · refine ⟨v1, v2, ?_⟩
      exact law_service ok a1 a2 hC hM hW nx (BAD := P (0 : Int32)) fun r8 M8 h => ⟨v1, v2, h⟩
    refine ifc (fun _ => ?_) (fun _ => ?_)
    · refine ⟨v1, v2, v3, ?_⟩
      exact law_cast ok a1 a2 a3 hC hM hW nx (BAD := P (0 : Int32)) fun r8 M8 h => ⟨v1, v2, v3, h⟩
    refine ifc (fun _ => ?_) (fun _ => ?_)
    · refine ⟨v1, v2, ?_⟩
      exact law_serviceAt ok a1 a2 hC hM hW nx (BAD := P (0 : Int32)) fun r8 M8 h => ⟨v1, v2, h⟩
    refine ifc (fun _ => ?_) (fun _ => ?_)
    · refine ⟨v1, v2, ?_⟩
      exact law_fewestDoublings ok a1 a2 hC hM hW nx (BAD := P (0 : Int32)) fun r8 M8 h => ⟨v1, v2, h⟩
    refine ifc (fun _ => ?_) (fun _ => ?_)
    · refine ⟨v1, v2, v3, v4, ifc (fun e => ?_) (fun e => ?_)⟩
      · exact law_whyNot ok a1 a2 a3 (c := 0) (by omega) hC hM hW nx (BAD := P (0 : Int32)) fun r8 M8 h => ⟨v1, v2, v3, v4, ifp e h⟩
      · exact law_whyNot ok a1 a2 a3 (c := 1) (by omega) hC hM hW nx (BAD := P (0 : Int32)) fun r8 M8 h => ⟨v1, v2, v3, v4, ifn e h⟩
    refine ifc (fun _ => ?_) (fun _ => ?_)
    · refine ⟨v1, v2, v3, v4, ifc (fun e => ?_) (fun e => ?_)⟩
      · exact law_earliest ok a1 a2 a3 (c := 0) (by omega) hC hM hW nx (BAD := P (0 : Int32)) fun r8 M8 h => ⟨v1, v2, v3, v4, ifp e h⟩
      · exact law_earliest ok a1 a2 a3 (c := 1) (by omega) hC hM hW nx (BAD := P (0 : Int32)) fun r8 M8 h => ⟨v1, v2, v3, v4, ifn e h⟩
    refine ifc (fun _ => ?_) (fun _ => ?_)
    · refine ⟨v1, v2, ?_⟩
      exact law_whyNotMove ok a1 a2 hC hM hW nx (BAD := P (0 : Int32)) fun r8 M8 h => ⟨v1, v2, h⟩
    refine ifc (fun _ => ?_) (fun _ => ?_)
    · refine ⟨v1, ?_⟩
      exact law_costs ok a1 hC hM hW nx (BAD := P (0 : Int32)) fun r8 M8 h => ⟨v1, h⟩
    refine ifc (fun _ => ?_) (fun _ => ?_)
    · refine ⟨v1, v2, v3, v4, ifc (fun e => ?_) (fun e => ?_)⟩
      · exact law_costsWith ok a1 a2 a3 (c := 0) (by omega) hC hM hW nx (BAD := P (0 : Int32)) fun r8 M8 h => ⟨v1, v2, v3, v4, ifp e h⟩
      · exact law_costsWith ok a1 a2 a3 (c := 1) (by omega) hC hM hW nx (BAD := P (0 : Int32)) fun r8 M8 h => ⟨v1, v2, v3, v4, ifn e h⟩
    refine ifc (fun _ => ?_) (fun _ => ?_)
    · exact law_A (BAD := P (0 : Int32)) (wC := fun M P => w_X7_isBalanced M x P) (wM := fun M P => w_X8_isBalanced M (x + 149) P) (call_isBalanced ok) hC hM hW nx fun r6 M6 h => h
    refine ifc (fun _ => ?_) (fun _ => ?_)
    · exact law_A (BAD := P (0 : Int32)) (wC := fun M P => w_X7_isWithoutClash M x P) (wM := fun M P => w_X8_isWithoutClash M (x + 149) P) (call_isWithoutClash ok) hC hM hW nx fun r6 M6 h => h
    refine ifc (fun _ => ?_) (fun _ => ?_)
    · exact law_A (BAD := P (0 : Int32)) (wC := fun M P => w_X7_busiest M x P) (wM := fun M P => w_X8_busiest M (x + 149) P) (call_busiest ok) hC hM hW nx fun r6 M6 h => h
    refine ifc (fun _ => ?_) (fun _ => ?_)
    · refine ⟨v1, v2, v3, ?_⟩
      exact law_rehearse ok a1 a2 a3 hC hM hW nx (BAD := P (0 : Int32)) fun r8 M8 h => ⟨v1, v2, v3, h⟩
    refine ifc (fun _ => ?_) (fun _ => ?_)
    · refine ⟨v1, v2, v3, ?_⟩
      exact law_concert ok a1 a2 a3 hC hM hW nx (BAD := P (0 : Int32)) fun r8 M8 h => ⟨v1, v2, v3, h⟩
    refine ifc (fun _ => ?_) (fun _ => ?_)
    · refine ⟨v1, ?_⟩
      exact law_cancel ok a1 hC hM hW nx (BAD := P (0 : Int32)) fun r8 M8 h => ⟨v1, h⟩
    refine ifc (fun _ => ?_) (fun _ => ?_)
    · refine ⟨v1, v2, ?_⟩
      exact law_move ok a1 a2 hC hM hW nx (BAD := P (0 : Int32)) fun r8 M8 h => ⟨v1, v2, h⟩
    refine ifc (fun _ => ?_) (fun _ => ?_)
    · refine ⟨v1, ?_⟩
      exact law_recast ok a1 hC hM hW nx (BAD := P (0 : Int32)) fun r8 M8 h => ⟨v1, h⟩
    refine ifc (fun _ => ?_) (fun _ => ?_)
    · refine ⟨v1, v2, ?_⟩
      exact law_setContract ok a1 a2 hC hM hW nx (BAD := P (0 : Int32)) fun r8 M8 h => ⟨v1, v2, h⟩
    refine ifc (fun _ => ?_) (fun _ => ?_)
    · exact law_A (BAD := P (0 : Int32)) (wC := fun M P => w_X7_undo M x P) (wM := fun M P => w_X8_undo M (x + 149) P) (call_undo ok) hC hM hW nx fun r6 M6 h => h
    refine ifc (fun _ => ?_) (fun _ => ?_)
    · refine ⟨v1, ?_⟩
      exact law_saveSnapshot ok a1 hC hM hW nx (BAD := P (0 : Int32)) fun r8 M8 h => ⟨v1, h⟩
    refine ifc (fun _ => ?_) (fun _ => ?_)
    · refine ⟨v1, ?_⟩
      exact law_restoreSnapshot ok a1 hC hM hW nx (BAD := P (0 : Int32)) fun r8 M8 h => ⟨v1, h⟩
    exact nx M st0_
end LL
