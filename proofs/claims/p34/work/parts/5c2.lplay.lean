/-! ALL PLAYERS are asked -/
def PlE (x0 x1 : Nat) (x5 r2 v : Int32) (F R : Mm → Prop) (M : Mm) : Prop := zk M x0 = 7 ∧ w_X7_player M x0 x5 (0 : Int32) (fun r6 M6 => (zk M6 x1 = 8 ∧ ∃ a7, zR M6 x1 9 = some a7 ∧ zk M6 a7 = 10 ∧ vp_in x5 (zl M6 a7) ∧ (if r6 = (zI M6 a7 x5.toNatClampNeg) then zk M6 x0 = 7 ∧ w_X7_player M6 x0 x5 (4 : Int32) (fun r8 M8 => (if r8 = r2 then zk M8 x0 = 7 ∧ w_X7_player M8 x0 x5 (5 : Int32) (fun r9 M9 => zk M9 x1 = 8 ∧ w_X8_twiceOf M9 x1 x5 (fun r10 M10 => (if r9 = r10 then zk M10 x0 = 7 ∧ w_X7_player M10 x0 x5 (6 : Int32) (fun r11 M11 => (if r11 = (if (0 : Int32) < (-v) then (-v) else (0 : Int32)) then zk M11 x0 = 7 ∧ w_X7_player M11 x0 x5 (7 : Int32) (fun r12 M12 => (zk M12 x1 = 8 ∧ ∃ a13, zR M12 x1 8 = some a13 ∧ zk M12 a13 = 10 ∧ vp_in x5 (zl M12 a13) ∧ (if r12 = ((if (0 : Int32) < v then v else (0 : Int32)) * (zI M12 a13 x5.toNatClampNeg)) then R M12 else F M12))) (fun _ _ => False) else F M11)) (fun _ _ => False) else F M10))) (fun _ _ => False) else F M8)) (fun _ _ => False) else F M6))) (fun _ _ => False)
def PlC (x0 x1 : Nat) (x3 x5 r2 v : Int32) (F R1 R2 : Mm → Prop) (M : Mm) : Prop := zk M x1 = 8 ∧ w_X8_count M x1 x3 (fun r4 M4 => (zk M4 x1 = 8 ∧ ∃ a5, zR M4 x1 9 = some a5 ∧ zk M4 a5 = 10 ∧ vp_in x3 (zl M4 a5) ∧ (if v ≤ (r4 - (zI M4 a5 x3.toNatClampNeg)) then PlE x0 x1 x5 r2 v F R1 M4 else PlE x0 x1 x5 r2 v F R2 M4)))
theorem bneg {a b : Nat} (ha : a < 2 ^ 30) (hb : b < 2 ^ 30) : (if (0 : Int32) < -(nI a - nI b) then -(nI a - nI b) else (0 : Int32)) = (if nI 0 ≤ nI a - nI b then nI 0 else -(nI a - nI b)) := by
  rw [Int32.neg_sub, l_0]
  by_cases c : b ≤ a
  · rw [n_sub c, if_pos (nI_le (Nat.zero_le _) (by omega))]
    by_cases d : a = b
    · subst d
      rw [n_sub (Nat.le_refl _), Nat.sub_self]
      rfl
    · refine if_neg fun z => ?_
      have e1 : nI b - nI a = -nI (a - b) := by rw [← n_sub c, Int32.neg_sub]
      rw [e1, lt_iff32] at z
      have e2 : (-nI (a - b)).toInt = -((a - b : Nat) : Int) := by
        rw [Int32.toInt_neg, nI_toInt (by omega)]
        exact Int.bmod_eq_of_le (by omega) (by omega)
      rw [e2] at z
      have : (nI 0).toInt = 0 := rfl
      omega
  · rw [n_sub (show a ≤ b by omega), if_pos (nI_lt (by omega) (by omega)), if_neg]
    intro z
    have e1 : nI a - nI b = -nI (b - a) := by rw [← n_sub (show a ≤ b by omega), Int32.neg_sub]
    rw [e1, le_iff32] at z
    have e2 : (-nI (b - a)).toInt = -((b - a : Nat) : Int) := by
      rw [Int32.toInt_neg, nI_toInt (by omega)]
      exact Int.bmod_eq_of_le (by omega) (by omega)
    rw [e2] at z
    have : (nI 0).toInt = 0 := rfl
    omega
/-- who is busiest, as the law finds it -/
def lz (sg pl : Nat → Nat) (k : Nat) : Nat := fo (fun p best => if bey sg pl best < bey sg pl p then p else best) k 0
theorem lz_lt (sg pl : Nat → Nat) : ∀ k, lz sg pl (k + 1) < k + 1
  | 0 => by
    show (if bey sg pl 0 < bey sg pl 0 then 0 else 0) < 1
    split <;> omega
  | k + 1 => by
    have := lz_lt sg pl k
    show (if bey sg pl (lz sg pl (k + 1)) < bey sg pl (k + 1) then k + 1 else lz sg pl (k + 1)) < k + 1 + 1
    split <;> omega
theorem lz_le (sg pl : Nat → Nat) (k : Nat) : lz sg pl k ≤ k := by
  cases k with
  | zero => exact Nat.le_refl _
  | succ k => exact Nat.le_of_lt (lz_lt sg pl k)
theorem bz_lz (sg pl : Nat → Nat) : ∀ k, k < 100 → bz sg pl (k + 1) = lz sg pl (k + 1)
  | 0, _ => by
    have e : bz sg pl (0 + 1) = 0 := by
      unfold bz
      rw [fo_s]
      exact if_pos rfl
    have e2 : lz sg pl (0 + 1) = 0 := ite_self 0
    rw [e, e2]
  | k + 1, h => by
    have i := bz_lz sg pl k (by omega)
    have l := lz_lt sg pl k
    show (if bz sg pl (k + 1) = 4294967295 then k + 1 else if bey sg pl (bz sg pl (k + 1)) < bey sg pl (k + 1) then k + 1 else bz sg pl (k + 1)) = (if bey sg pl (lz sg pl (k + 1)) < bey sg pl (k + 1) then k + 1 else lz sg pl (k + 1))
    rw [i, if_neg (by omega)]
theorem swt_all {sg pl : Nat → Nat} (hs : SB sg) (hp : PB sg pl) (w c : Nat) : swt pl w c 999 = swt pl w c (sg 0 * 3) := by
  refine fo_ext (fun s n hsn => ?_) _ _ (Nat.le_refl _)
  have d := hp.s hs hsn
  by_cases q : oS pl s 2 = c ∧ (oS pl s 3).testBit w = true
  · rw [if_pos ⟨q.1, q.2, by omega⟩, if_pos ⟨q.1, q.2, by omega⟩]
  · rw [if_neg fun z => q ⟨z.1, z.2.1⟩, if_neg fun z => q ⟨z.1, z.2.1⟩]
section PY
variable {x ga e G : Nat} {sg pl : Nat → Nat} {hn : Nat} {hl : Nat → Nat → Nat} {sv : Nat → Bool} {sl : Nat → Nat → Nat} {bl : Nat} {bf : Nat → Int32} {ep : Nat} {nm : Nat → List Nat} {M : Mm}
theorem s_PlE (h : WD x ga e (sg, pl, hn, hl, sv, sl, bl, bf, ep, nm) pl G M) {p : Nat} (hp : p < sg 2) {F R : Mm → Prop} (K : ∀ M', WD x ga e (sg, pl, hn, hl, sv, sl, bl, bf, ep, nm) pl G M' → R M') : PlE x e (nI p) (nI (svc sg pl p)) (nI (svc sg pl p) - nI (pl (1 + p))) F R M := by
  have hs : SB sg := h.ok.1
  have hb : PG sg pl := h.ok.2.1
  have b9 := hs.b
  have n9 := hb.1.n
  have k9 := hb.1.2.1 p hp
  have s9 : svc sg pl p ≤ pl 0 := svc_le sg pl p
  refine ⟨h.xk, cc_player h.ok hp (k := 0) (by omega) M _ _ h.ci fun M1 c1 f1 => ?_⟩
  have w1 := h.c f1 c1
  have h1 := w1.lt
  refine ⟨h1.s.1.1, e + 3, h1.s.1.2.2.2.1, h1.s.2.1.2.2.1, ?_, ifp ?_ ⟨w1.xk, cc_player h.ok hp (k := 4) (by omega) M1 _ _ w1.ci fun M2 c2 f2 => ?_⟩⟩
  · rw [h1.s.2.2.2.2.1]; exact vp_in_nI (by omega) (by omega)
  · rw [n_cl (by omega), w1.dt.k hp]; rfl
  have w2 := w1.c f2 c2
  refine ifp rfl ⟨w2.xk, cc_player h.ok hp (k := 5) (by omega) M2 _ _ w2.ci fun M3 c3 f3 => ?_⟩
  have w3 := w2.c f3 c3
  have h3 := w3.lt
  refine ⟨h3.s.1.1, (e_X8_twiceOf hs hb.1 h3 w3.dt hp _).mpr (ifp rfl ⟨w3.xk, cc_player h.ok hp (k := 6) (by omega) M3 _ _ w3.ci fun M4 c4 f4 => ?_⟩)⟩
  have w4 := w3.c f4 c4
  refine ifp ?_ ⟨w4.xk, cc_player h.ok hp (k := 7) (by omega) M4 _ _ w4.ci fun M5 c5 f5 => ?_⟩
  · rw [bneg (by omega) (by omega)]; rfl
  have w5 := w4.c f5 c5
  have h5 := w5.lt
  refine ⟨h5.s.1.1, e + 2, h5.s.1.2.2.1, h5.s.2.1.2.1, ?_, ifp ?_ (K M5 w5)⟩
  · rw [h5.s.2.2.2.1]; exact vp_in_nI (by omega) (by omega)
  · rw [n_cl (by omega), (h5.p hp).1.1]
    show otI sg pl p = _
    unfold otI bey
    rw [l_0]
    split
    · rfl
    · rw [pk_mul, Nat.zero_mul]
theorem s_PlC (h : WD x ga e (sg, pl, hn, hl, sv, sl, bl, bf, ep, nm) pl G M) {p b : Nat} (hp : p < sg 2) (hb2 : b < sg 2) {F R1 R2 : Mm → Prop} (K : ∀ M', WD x ga e (sg, pl, hn, hl, sv, sl, bl, bf, ep, nm) pl G M' → if bey sg pl b < bey sg pl p then R2 M' else R1 M') : PlC x e (nI b) (nI p) (nI (svc sg pl p)) (nI (svc sg pl p) - nI (pl (1 + p))) F R1 R2 M := by
  have hs : SB sg := h.ok.1
  have hb : PG sg pl := h.ok.2.1
  have b9 := hs.b
  have h1 := h.lt
  refine ⟨h1.s.1.1, (e_X8_count hs hb.1 h1 h.dt (by omega) _).mpr ⟨h1.s.1.1, e + 3, h1.s.1.2.2.2.1, h1.s.2.1.2.2.1, ?_, ?_⟩⟩
  · rw [h1.s.2.2.2.2.1]; exact vp_in_nI (by omega) (by omega)
  rw [n_cl (by omega), h.dt.k hb2]
  by_cases c : bey sg pl b < bey sg pl p
  · refine ifn (Int32.not_le.mpr c) (s_PlE h hp fun M' w => ?_)
    have := K M' w
    rw [if_pos c] at this; exact this
  · refine ifp (Int32.not_lt.mp c) (s_PlE h hp fun M' w => ?_)
    have := K M' w
    rw [if_neg c] at this; exact this
theorem s_L_players_8 (h : WD x ga e (sg, pl, hn, hl, sv, sl, bl, bf, ep, nm) pl G M) (hL : LB sg) {P : Int32 → Mm → Prop} {K162 : Mm → Prop} {K170 : Mm → Nat → Nat → Nat → Int32 → Int32 → Prop}
    (K : ∀ M', WD x ga e (sg, pl, hn, hl, sv, sl, bl, bf, ep, nm) pl G M' → K170 M' x e ga (nI (lz sg pl (sg 2))) (bI (balB sg pl))) : ∃ n, l_L_players_8 P K162 K170 n M x e ga (0 : Int32) (1 : Int32) (0 : Int32) := by
  have hs : SB sg := h.ok.1
  have hb : PG sg pl := h.ok.2.1
  have b9 := hs.b
  have L9 := hL.1
  refine lpI (fun n (z : Mm × Int32 × Int32 × Int32) => l_L_players_8 P K162 K170 n z.1 x e ga z.2.1 z.2.2.1 z.2.2.2) (fun p z => WD x ga e (sg, pl, hn, hl, sv, sl, bl, bf, ep, nm) pl G z.1 ∧ z.2.1 = nI (lz sg pl p) ∧ z.2.2.1 = bI (al (fun p => decide (bey sg pl p = nI 0)) p) ∧ z.2.2.2 = nI p) (sg 2) (fun n z hz => ?_) (fun n p z hp hz LL => ?_) (M, (0 : Int32), (1 : Int32), (0 : Int32)) ⟨h, rfl, rfl, rfl⟩
  · obtain ⟨M1, x3, x4, x5⟩ := z
    obtain ⟨w1, e1, e2, e3⟩ := hz
    simp only at e1 e2 e3
    subst e1 e2 e3
    have h1 := w1.lt
    rw [l_L_players_8]
    exact ⟨h1.s.1.1, ifp (by rw [h1.n.2.2.1]; exact nI_le (Nat.le_refl _) (by omega)) (K M1 w1)⟩
  · obtain ⟨M1, x3, x4, x5⟩ := z
    obtain ⟨w1, e1, e2, e3⟩ := hz
    simp only at e1 e2 e3
    subst e1 e2 e3
    have h1 := w1.lt
    have hbest : lz sg pl p < sg 2 := Nat.lt_of_le_of_lt (lz_le sg pl p) hp
    have nxt : ∀ (x4 : Int32), x4 = bI (al (fun p => decide (bey sg pl p = nI 0)) (p + 1)) → ∀ M', WD x ga e (sg, pl, hn, hl, sv, sl, bl, bf, ep, nm) pl G M' → if bey sg pl (lz sg pl p) < bey sg pl p then l_L_players_8 P K162 K170 n M' x e ga (nI p) x4 (nI p + (1 : Int32)) else l_L_players_8 P K162 K170 n M' x e ga (nI (lz sg pl p)) x4 (nI p + (1 : Int32)) := by
      intro x4 h4 M' w
      subst h4
      have e5 : nI p + (1 : Int32) = nI (p + 1) := by rw [l_1, nI_add]
      rw [e5]
      have lzs : lz sg pl (p + 1) = if bey sg pl (lz sg pl p) < bey sg pl p then p else lz sg pl p := rfl
      by_cases c : bey sg pl (lz sg pl p) < bey sg pl p
      · rw [if_pos c]
        rw [if_pos c] at lzs
        exact LL (M', nI p, _, _) ⟨w, congrArg nI lzs.symm, rfl, rfl⟩
      · rw [if_neg c]
        rw [if_neg c] at lzs
        exact LL (M', nI (lz sg pl p), _, _) ⟨w, congrArg nI lzs.symm, rfl, rfl⟩
    show l_L_players_8 P K162 K170 (n + 1) M1 x e ga (nI (lz sg pl p)) (bI (al (fun p => decide (bey sg pl p = nI 0)) p)) (nI p)
    rw [l_L_players_8]
    refine ⟨h1.s.1.1, ifn (by rw [h1.n.2.2.1, n_leF (by omega) (by omega)]; exact not_false) ⟨h1.s.1.1, (e_X8_count hs hb.1 h1 w1.dt (by omega) _).mpr ⟨h1.s.1.1, e + 3, h1.s.1.2.2.2.1, h1.s.2.1.2.2.1, ?_, ?_⟩⟩⟩
    · rw [h1.s.2.2.2.2.1]; exact vp_in_nI (by omega) (by omega)
    have hk : zI M1 (e + 3) (nI p).toNatClampNeg = nI (pl (1 + p)) := by rw [n_cl (by omega)]; exact w1.dt.k hp
    rw [hk]
    by_cases cb : al (fun p => decide (bey sg pl p = nI 0)) p = true
    · refine ifn (by rw [cb]; decide) ?_
      by_cases c0 : bey sg pl p = nI 0
      · refine ifp c0 ?_
        exact s_PlC w1 hp hbest (R1 := fun M' => l_L_players_8 P K162 K170 n M' x e ga (nI (lz sg pl p)) (1 : Int32) (nI p + (1 : Int32))) (R2 := fun M' => l_L_players_8 P K162 K170 n M' x e ga (nI p) (1 : Int32) (nI p + (1 : Int32))) (nxt (1 : Int32) (by rw [al_s, cb, decide_eq_true c0]; rfl))
      · refine ifn c0 ?_
        exact s_PlC w1 hp hbest (R1 := fun M' => l_L_players_8 P K162 K170 n M' x e ga (nI (lz sg pl p)) (0 : Int32) (nI p + (1 : Int32))) (R2 := fun M' => l_L_players_8 P K162 K170 n M' x e ga (nI p) (0 : Int32) (nI p + (1 : Int32))) (nxt (0 : Int32) (by rw [al_s, cb, decide_eq_false c0]; rfl))
    · refine ifp (by rw [b_no cb]; decide) ?_
      exact s_PlC w1 hp hbest (R1 := fun M' => l_L_players_8 P K162 K170 n M' x e ga (nI (lz sg pl p)) (0 : Int32) (nI p + (1 : Int32))) (R2 := fun M' => l_L_players_8 P K162 K170 n M' x e ga (nI p) (0 : Int32) (nI p + (1 : Int32))) (nxt (0 : Int32) (by rw [al_s, b_no cb]; rfl))
theorem s_L_players_173 (h : WD x ga e (sg, pl, hn, hl, sv, sl, bl, bf, ep, nm) pl G M) {x3 x4 : Int32} {P : Int32 → Mm → Prop} {K219 : Mm → Prop} {K227 : Mm → Nat → Nat → Nat → Int32 → Int32 → Prop}
    (K : ∀ M', WD x ga e (sg, pl, hn, hl, sv, sl, bl, bf, ep, nm) pl G M' → K227 M' x e ga x3 x4) : ∃ n, l_L_players_173 P K219 K227 n M x e ga x3 x4 (0 : Int32) := by
  have hs : SB sg := h.ok.1
  have hb : PG sg pl := h.ok.2.1
  have b9 := hs.b
  have e0 : plb pl 4294967295 = pl := plb_no hb.1
  refine lpI (fun n (z : Mm × Int32) => l_L_players_173 P K219 K227 n z.1 x e ga x3 x4 z.2) (fun w z => WD x ga e (sg, pl, hn, hl, sv, sl, bl, bf, ep, nm) pl G z.1 ∧ z.2 = nI w) (sg 3) (fun n z hz => ?_) (fun n w z hw hz LL => ?_) (M, (0 : Int32)) ⟨h, rfl⟩
  · obtain ⟨M1, x5⟩ := z
    obtain ⟨w1, e1⟩ := hz
    simp only at e1
    subst e1
    have h1 := w1.lt
    rw [l_L_players_173]
    exact ⟨h1.s.1.1, ifp (by rw [h1.n.2.2.2.1]; exact nI_le (Nat.le_refl _) (by omega)) (K M1 w1)⟩
  · obtain ⟨M1, x5⟩ := z
    obtain ⟨w1, e1⟩ := hz
    simp only at e1
    subst e1
    have h1 := w1.lt
    show l_L_players_173 P K219 K227 (n + 1) M1 x e ga x3 x4 (nI w)
    rw [l_L_players_173]
    refine ⟨h1.s.1.1, ifn (by rw [h1.n.2.2.2.1, n_leF (by omega) (by omega)]; exact not_false) ⟨w1.xk, cc_work h.ok hw (k := 7) (by omega) M1 _ _ w1.ci fun M2 c2 f2 => ?_⟩⟩
    have w2 := w1.c f2 c2
    have h2 := w2.lt
    refine ⟨h2.s.1.1, (e_X8_rent hs hb h2 w2.dt hw _).mpr (ifp rfl ⟨w2.xk, cc_work h.ok hw (k := 5) (by omega) M2 _ _ w2.ci fun M3 c3 f3 => ?_⟩)⟩
    have w3 := w2.c f3 c3
    have h3 := w3.lt
    refine ⟨h3.s.1.1, ?_⟩
    have g := e_X8_rehearsals hs hb.1 h3 w3.dt (w := w) (t := 999) (b0 := 4294967295) (by omega) (by omega) (by omega) (fun r64 M64 => (if wkA sg pl w 5 = r64 then l_L_players_173 P K219 K227 n M64 x e ga x3 x4 (nI w + (1 : Int32)) else K219 M64))
    refine g.mpr (ifp ?_ (LL (M3, _) ⟨w3, by show nI w + (1 : Int32) = nI (w + 1); rw [l_1, nI_add]⟩))
    rw [e0, swt_all hs hb.1]
    rfl
theorem s_L_players_230 (h : WD x ga e (sg, pl, hn, hl, sv, sl, bl, bf, ep, nm) pl G M) {x3 x4 : Int32} {P : Int32 → Mm → Prop} {K251 : Mm → Prop} {K259 : Mm → Nat → Nat → Nat → Int32 → Int32 → Prop}
    (K : ∀ M', WD x ga e (sg, pl, hn, hl, sv, sl, bl, bf, ep, nm) pl G M' → K259 M' x e ga x3 x4) : ∃ n, l_L_players_230 P K251 K259 n M x e ga x3 x4 (0 : Int32) := by
  have hs : SB sg := h.ok.1
  have hb : PG sg pl := h.ok.2.1
  refine lpI (fun n (z : Mm × Int32) => l_L_players_230 P K251 K259 n z.1 x e ga x3 x4 z.2) (fun w z => WD x ga e (sg, pl, hn, hl, sv, sl, bl, bf, ep, nm) pl G z.1 ∧ z.2 = nI w) 4 (fun n z hz => ?_) (fun n w z hw hz LL => ?_) (M, (0 : Int32)) ⟨h, rfl⟩
  · obtain ⟨M1, x5⟩ := z
    obtain ⟨w1, e1⟩ := hz
    simp only at e1
    subst e1
    show l_L_players_230 P K251 K259 (n + 1) M1 x e ga x3 x4 (nI 4)
    rw [l_L_players_230]
    exact ifp (by decide) (K M1 w1)
  · obtain ⟨M1, x5⟩ := z
    obtain ⟨w1, e1⟩ := hz
    simp only at e1
    subst e1
    rw [l_L_players_230]
    refine ifn (by rw [l_4, n_leF (by omega) (by omega)]; exact not_false) ⟨w1.xk, cc_costs h.ok hw M1 _ _ w1.ci fun M2 c2 f2 => ?_⟩
    have w2 := w1.c f2 c2
    have h2 := w2.lt
    exact ⟨h2.s.1.1, (e_X8_costs hs hb h2 w2.dt hw _).mpr (ifp rfl (LL (M2, _) ⟨w2, by show nI w + (1 : Int32) = nI (w + 1); rw [l_1, nI_add]⟩))⟩
theorem s_L_players (h : WD x ga e (sg, pl, hn, hl, sv, sl, bl, bf, ep, nm) pl G M) (hL : LB sg) (P : Int32 → Mm → Prop) (K : ∀ M', WD x ga e (sg, pl, hn, hl, sv, sl, bl, bf, ep, nm) pl (nx (nx G)) M' → P (nI 1) M') : w_L_players M x e ga P := by
  have hs : SB sg := h.ok.1
  have hb : PG sg pl := h.ok.2.1
  have b9 := hs.b
  have L9 := hL.1
  unfold w_L_players
  refine s_L_players_8 h hL fun M1 w1 => s_L_players_173 w1 fun M2 w2 => s_L_players_230 w2 fun M3 w3 => ⟨w3.lt.s.1.1, ?_⟩
  rw [w3.lt.n.2.2.1]
  refine w3.d L9.2.1 (by omega) _ fun M4 w4 => ⟨w4.lt.s.1.1, ?_⟩
  rw [w4.lt.n.1, l_3, pk_mul]
  refine w4.d (by omega) (by omega) _ fun M5 w5 => ⟨w5.xk, ?_⟩
  have dp := drw_lt G L9.2.1
  have dt := drw_lt (nx G) (show 1 ≤ 3 * sg 0 by omega)
  refine cc_isFree h.ok dp (by omega) M5 _ _ w5.ci fun M6 c6 f6 => ?_
  have w6 := w5.c f6 c6
  have h6 := w6.lt
  refine ⟨h6.s.1.1, ?_⟩
  have g := e_X8_isFree hs hb.1 h6 w6.dt (p := drw G (sg 2)) (t := drw (nx G) (3 * sg 0)) (b0 := 4294967295) dp (by omega) (by omega) (fun r76 M76 => (if bI ((free sg pl (drw (nx G) (3 * sg 0))).testBit (drw G (sg 2))) = r76 then zk M76 x = 7 ∧ w_X7_busiest M76 x (fun r77 M77 => (if r77 = nI (lz sg pl (sg 2)) then zk M77 x = 7 ∧ w_X7_isBalanced M77 x (fun r78 M78 => (if r78 = bI (balB sg pl) then ((1 : Int32) = 0 ∨ (1 : Int32) = 1) ∧ P (1 : Int32) M78 else ((0 : Int32) = 0 ∨ (0 : Int32) = 1) ∧ P (0 : Int32) M78)) else ((0 : Int32) = 0 ∨ (0 : Int32) = 1) ∧ P (0 : Int32) M77)) else ((0 : Int32) = 0 ∨ (0 : Int32) = 1) ∧ P (0 : Int32) M76))
  refine g.mpr (ifp ?_ ⟨w6.xk, cc_busiest h.ok M6 _ w6.ci fun M7 c7 f7 => ?_⟩)
  · rw [frB_free hs dp (by have := hb.1.n; omega), plb_no hb.1]
  have w7 := w6.c f7 c7
  refine ifp ?_ ⟨w7.xk, cc_isBalanced h.ok M7 _ w7.ci fun M8 c8 f8 => ifp rfl ⟨Or.inr rfl, K M8 (w7.c f8 c8)⟩⟩
  have := bz_lz sg pl (sg 2 - 1) (by omega)
  rw [show sg 2 - 1 + 1 = sg 2 by omega] at this
  rw [this]
end PY
