/-! THE MODEL'S CELLS: sg is what plan[] holds, pl what now[] holds, both as numbers -/
def oP (sg : Nat → Nat) (p f : Nat) : Nat := sg (9 + 7 * p + f)
def oW (sg : Nat → Nat) (w f : Nat) : Nat := sg (65 + 11 * w + f)
def oS (pl : Nat → Nat) (s f : Nat) : Nat := pl (9 + 34 * s + f)
/-- the model's shape -/
def MS (m : Nat) (M : Mm) : Prop := (zk M m = 8 ∧ zR M m 1 = some (m + 1) ∧ zR M m 2 = some (m + 2) ∧ zR M m 3 = some (m + 3) ∧ zR M m 4 = some (m + 4) ∧ zR M m 16 = some (m + 5) ∧ zR M m 17 = some (m + 6) ∧ zR M m 18 = some (m + 7) ∧ zR M m 19 = some (m + 8) ∧ zR M m 20 = some (m + 9) ∧ zR M m 22 = some (m + 10) ∧ zR M m 25 = some (m + 11) ∧ zR M m 26 = some (m + 12) ∧ zR M m 27 = some (m + 13)) ∧
  (zk M (m + 1) = 10 ∧ zk M (m + 2) = 10 ∧ zk M (m + 3) = 11 ∧ zk M (m + 4) = 9 ∧ zk M (m + 5) = 10 ∧ zk M (m + 6) = 10 ∧ zk M (m + 7) = 11 ∧ zk M (m + 8) = 10 ∧ zk M (m + 9) = 10 ∧ zk M (m + 10) = 10 ∧ zk M (m + 11) = 10 ∧ zk M (m + 12) = 10 ∧ zk M (m + 13) = 12) ∧
  zl M (m + 1) = 120 ∧ zl M (m + 2) = 689 ∧ zl M (m + 3) = 32 ∧ zl M (m + 4) = 600 ∧ zl M (m + 5) = 120 ∧ zl M (m + 6) = 8 ∧ zl M (m + 7) = 32 ∧ zl M (m + 8) = 6 ∧ zl M (m + 9) = 6 ∧ zl M (m + 10) = 689 ∧ zl M (m + 11) = 6890 ∧ zl M (m + 12) = 1378 ∧ zl M (m + 13) = 2
/-- bounds of what a text tells -/
def SB (sg : Nat → Nat) : Prop := (1 ≤ sg 0 ∧ sg 0 ≤ 30 ∧ sg 1 ≤ 3 ∧ sg 2 ≤ 8 ∧ sg 3 ≤ 5 ∧ sg 4 ≤ 8) ∧ (∀ k, sg k < 2 ^ 30) ∧
  (∀ w, w < sg 3 → 1 ≤ oW sg w 4 ∧ oW sg w 4 ≤ 6 ∧ ∀ j, j < oW sg w 4 → oW sg w (5 + j) < 8) ∧
  (∀ p, p < sg 2 → 1 ≤ oP sg p 2 ∧ oP sg p 2 ≤ 4 ∧ ∀ j, j < oP sg p 2 → oP sg p (3 + j) < 8)
/-- bounds of a plan -/
def PB (sg pl : Nat → Nat) : Prop := pl 0 ≤ 20 ∧ (∀ p, p < sg 2 → pl (1 + p) ≤ 40) ∧
  ∀ s, s < pl 0 → (oS pl s 0 < 3 * sg 0 ∧ oS pl s 1 < sg 1 ∧ oS pl s 2 ≤ 1 ∧ oS pl s 3 < 2 ^ sg 3) ∧ ∀ w, w < sg 3 → (oS pl s 3).testBit w = true → ∀ j, j < oW sg w 4 → oS pl s (4 + 6 * w + j) < sg 2
/-- the model holds a season and a plan -/
def MR (m : Nat) (sg pl : Nat → Nat) (M : Mm) : Prop := MS m M ∧ (∀ k, k < 120 → zI M (m + 1) k = nI (sg k)) ∧ (∀ i, i < 689 → zI M (m + 2) i = nI (pl i)) ∧ SB sg ∧ PB sg pl
theorem MR.sh {m : Nat} {sg pl : Nat → Nat} {M : Mm} (h : MR m sg pl M) : (zk M m = 8 ∧ zR M m 1 = some (m + 1) ∧ zR M m 2 = some (m + 2)) ∧ (zk M (m + 1) = 10 ∧ zk M (m + 2) = 10) ∧ zl M (m + 1) = 120 ∧ zl M (m + 2) = 689 :=
  ⟨⟨h.1.1.1, h.1.1.2.1, h.1.1.2.2.1⟩, ⟨h.1.2.1.1, h.1.2.1.2.1⟩, h.1.2.2.1, h.1.2.2.2.1⟩
theorem MR.v1 {m : Nat} {sg pl : Nat → Nat} {M : Mm} (h : MR m sg pl M) : ∀ k, k < 120 → zI M (m + 1) k = nI (sg k) := h.2.1
theorem MR.v2 {m : Nat} {sg pl : Nat → Nat} {M : Mm} (h : MR m sg pl M) : ∀ i, i < 689 → zI M (m + 2) i = nI (pl i) := h.2.2.1
theorem MR.sb {m : Nat} {sg pl : Nat → Nat} {M : Mm} (h : MR m sg pl M) : SB sg := h.2.2.2.1
theorem MR.pb {m : Nat} {sg pl : Nat → Nat} {M : Mm} (h : MR m sg pl M) : PB sg pl := h.2.2.2.2
theorem SB.b {sg : Nat → Nat} (h : SB sg) : 1 ≤ sg 0 ∧ sg 0 ≤ 30 ∧ sg 1 ≤ 3 ∧ sg 2 ≤ 8 ∧ sg 3 ≤ 5 ∧ sg 4 ≤ 8 := h.1
theorem SB.k {sg : Nat → Nat} (h : SB sg) (k : Nat) : sg k < 2 ^ 30 := h.2.1 k
theorem SB.p {sg : Nat → Nat} (h : SB sg) (p f : Nat) : oP sg p f < 2 ^ 30 := h.2.1 _
theorem SB.w {sg : Nat → Nat} (h : SB sg) (w f : Nat) : oW sg w f < 2 ^ 30 := h.2.1 _
theorem SB.sc {sg : Nat → Nat} (h : SB sg) {w : Nat} (hw : w < sg 3) : 1 ≤ oW sg w 4 ∧ oW sg w 4 ≤ 6 := ⟨(h.2.2.1 w hw).1, (h.2.2.1 w hw).2.1⟩
theorem SB.st {sg : Nat → Nat} (h : SB sg) {w : Nat} (hw : w < sg 3) {j : Nat} (hj : j < oW sg w 4) : oW sg w (5 + j) < 8 := (h.2.2.1 w hw).2.2 j hj
theorem SB.oc {sg : Nat → Nat} (h : SB sg) {p : Nat} (hp : p < sg 2) : 1 ≤ oP sg p 2 ∧ oP sg p 2 ≤ 4 := ⟨(h.2.2.2 p hp).1, (h.2.2.2 p hp).2.1⟩
theorem SB.ow {sg : Nat → Nat} (h : SB sg) {p : Nat} (hp : p < sg 2) {j : Nat} (hj : j < oP sg p 2) : oP sg p (3 + j) < 8 := (h.2.2.2 p hp).2.2 j hj
theorem p2m {a b : Nat} (h : a ≤ b) : 2 ^ a ≤ 2 ^ b := Nat.pow_le_pow_right (by decide) h
theorem PB.n {sg pl : Nat → Nat} (h : PB sg pl) : pl 0 ≤ 20 := h.1
theorem PB.s {sg pl : Nat → Nat} (h : PB sg pl) (hs : SB sg) {s : Nat} (hn : s < pl 0) : oS pl s 0 < 90 ∧ oS pl s 1 < 3 ∧ oS pl s 2 ≤ 1 ∧ oS pl s 3 < 32 ∧ oS pl s 0 < 3 * sg 0 ∧ oS pl s 1 < sg 1 ∧ oS pl s 3 < 2 ^ sg 3 := by
  obtain ⟨⟨a, b, c, d⟩, -⟩ := h.2.2 s hn
  have e := hs.b
  have f := p2m (show sg 3 ≤ 5 by omega)
  exact ⟨by omega, by omega, c, by omega, a, b, d⟩
theorem PB.c {sg pl : Nat → Nat} (h : PB sg pl) {s w j : Nat} (hn : s < pl 0) (hw : w < sg 3) (ht : (oS pl s 3).testBit w = true) (hj : j < oW sg w 4) : oS pl s (4 + 6 * w + j) < sg 2 := (h.2.2 s hn).2 w hw ht j hj
/-- the model holds a season, whatever its plan -/
def MSea (m : Nat) (sg : Nat → Nat) (M : Mm) : Prop := MS m M ∧ (∀ k, k < 120 → zI M (m + 1) k = nI (sg k)) ∧ SB sg
theorem MSea.sh {m : Nat} {sg : Nat → Nat} {M : Mm} (h : MSea m sg M) : (zk M m = 8 ∧ zR M m 1 = some (m + 1) ∧ zR M m 2 = some (m + 2)) ∧ (zk M (m + 1) = 10 ∧ zk M (m + 2) = 10) ∧ zl M (m + 1) = 120 ∧ zl M (m + 2) = 689 :=
  ⟨⟨h.1.1.1, h.1.1.2.1, h.1.1.2.2.1⟩, ⟨h.1.2.1.1, h.1.2.1.2.1⟩, h.1.2.2.1, h.1.2.2.2.1⟩
theorem MSea.v1 {m : Nat} {sg : Nat → Nat} {M : Mm} (h : MSea m sg M) : ∀ k, k < 120 → zI M (m + 1) k = nI (sg k) := h.2.1
theorem MSea.sb {m : Nat} {sg : Nat → Nat} {M : Mm} (h : MSea m sg M) : SB sg := h.2.2
theorem MR.q {m : Nat} {sg pl : Nat → Nat} {M : Mm} (h : MR m sg pl M) : MSea m sg M := ⟨h.1, h.2.1, h.2.2.2.1⟩
theorem q_X8_ofPlayer {m : Nat} {sg : Nat → Nat} {M : Mm} (h : MSea m sg M) {p f : Nat} (hp : p < 8) (hf : f < 7) (P : Int32 → Mm → Prop) : w_X8_ofPlayer M m (nI p) (nI f) P ↔ P (nI (oP sg p f)) M := by
  simp (disch := omega) only [w_X8_ofPlayer, oP, h.sh, h.v1, l_0, l_1, l_2, l_3, l_4, l_5, l_6, l_7, l_8, l_9, l_10, l_20, l_30, l_31, l_34, l_40, l_65, l_100, l_255, l_11, l_12, l_24, l_600, l_689, l_999, l_120, l_32, nI_add, pk_mul, n_sub, n_leT, n_leF, n_ltT, n_ltF, n_eqT, n_eqF, n_cl, n_vp, fa_andq, fa_orq, fa_xorq, n_shl, n_shr, n_t1, n_t0, n_div, n_m1, not_true_eq_false, Bool.false_eq_true, false_and, Bool.not_false, Bool.not_true, Bool.and_true, Bool.and_false, Bool.false_and, Bool.true_and, true_and, and_true, true_or, or_true, not_false_eq_true, Option.some.injEq, exists_eq_left', forall_eq, ↓reduceIte, Nat.add_zero, Nat.zero_add, and_self]
theorem q_X8_ofWork {m : Nat} {sg : Nat → Nat} {M : Mm} (h : MSea m sg M) {w f : Nat} (hw : w < 5) (hf : f < 11) (P : Int32 → Mm → Prop) : w_X8_ofWork M m (nI w) (nI f) P ↔ P (nI (oW sg w f)) M := by
  simp (disch := omega) only [w_X8_ofWork, oW, h.sh, h.v1, l_0, l_1, l_2, l_3, l_4, l_5, l_6, l_7, l_8, l_9, l_10, l_20, l_30, l_31, l_34, l_40, l_65, l_100, l_255, l_11, l_12, l_24, l_600, l_689, l_999, l_120, l_32, nI_add, pk_mul, n_sub, n_leT, n_leF, n_ltT, n_ltF, n_eqT, n_eqF, n_cl, n_vp, fa_andq, fa_orq, fa_xorq, n_shl, n_shr, n_t1, n_t0, n_div, n_m1, not_true_eq_false, Bool.false_eq_true, false_and, Bool.not_false, Bool.not_true, Bool.and_true, Bool.and_false, Bool.false_and, Bool.true_and, true_and, and_true, true_or, or_true, not_false_eq_true, Option.some.injEq, exists_eq_left', forall_eq, ↓reduceIte, Nat.add_zero, Nat.zero_add, and_self]
/-! the model's methods that only read -/
section RD
variable {m : Nat} {sg pl : Nat → Nat} {M : Mm}
theorem e_X8_ofPlayer (h : MR m sg pl M) {p f : Nat} (hp : p < 8) (hf : f < 7) (P : Int32 → Mm → Prop) : w_X8_ofPlayer M m (nI p) (nI f) P ↔ P (nI (oP sg p f)) M := by
  simp (disch := omega) only [w_X8_ofPlayer, oP, h.sh, h.v1, l_0, l_1, l_2, l_3, l_4, l_5, l_6, l_7, l_8, l_9, l_10, l_20, l_30, l_31, l_34, l_40, l_65, l_100, l_255, l_11, l_12, l_24, l_600, l_689, l_999, l_120, l_32, nI_add, pk_mul, n_sub, n_leT, n_leF, n_ltT, n_ltF, n_eqT, n_eqF, n_cl, n_vp, fa_andq, fa_orq, fa_xorq, n_shl, n_shr, n_t1, n_t0, n_div, n_m1, not_true_eq_false, Bool.false_eq_true, false_and, Bool.not_false, Bool.not_true, Bool.and_true, Bool.and_false, Bool.false_and, Bool.true_and, true_and, and_true, true_or, or_true, not_false_eq_true, Option.some.injEq, exists_eq_left', forall_eq, ↓reduceIte, Nat.add_zero, Nat.zero_add, and_self]
theorem e_X8_ofWork (h : MR m sg pl M) {w f : Nat} (hw : w < 5) (hf : f < 11) (P : Int32 → Mm → Prop) : w_X8_ofWork M m (nI w) (nI f) P ↔ P (nI (oW sg w f)) M := by
  simp (disch := omega) only [w_X8_ofWork, oW, h.sh, h.v1, l_0, l_1, l_2, l_3, l_4, l_5, l_6, l_7, l_8, l_9, l_10, l_20, l_30, l_31, l_34, l_40, l_65, l_100, l_255, l_11, l_12, l_24, l_600, l_689, l_999, l_120, l_32, nI_add, pk_mul, n_sub, n_leT, n_leF, n_ltT, n_ltF, n_eqT, n_eqF, n_cl, n_vp, fa_andq, fa_orq, fa_xorq, n_shl, n_shr, n_t1, n_t0, n_div, n_m1, not_true_eq_false, Bool.false_eq_true, false_and, Bool.not_false, Bool.not_true, Bool.and_true, Bool.and_false, Bool.false_and, Bool.true_and, true_and, and_true, true_or, or_true, not_false_eq_true, Option.some.injEq, exists_eq_left', forall_eq, ↓reduceIte, Nat.add_zero, Nat.zero_add, and_self]
theorem e_X8_of (h : MR m sg pl M) {s f : Nat} (hs : s < 20) (hf : f < 34) (P : Int32 → Mm → Prop) : w_X8_of M m (nI s) (nI f) P ↔ P (nI (oS pl s f)) M := by
  simp (disch := omega) only [w_X8_of, oS, h.sh, h.v2, l_0, l_1, l_2, l_3, l_4, l_5, l_6, l_7, l_8, l_9, l_10, l_20, l_30, l_31, l_34, l_40, l_65, l_100, l_255, l_11, l_12, l_24, l_600, l_689, l_999, l_120, l_32, nI_add, pk_mul, n_sub, n_leT, n_leF, n_ltT, n_ltF, n_eqT, n_eqF, n_cl, n_vp, fa_andq, fa_orq, fa_xorq, n_shl, n_shr, n_t1, n_t0, n_div, n_m1, not_true_eq_false, Bool.false_eq_true, false_and, Bool.not_false, Bool.not_true, Bool.and_true, Bool.and_false, Bool.false_and, Bool.true_and, true_and, and_true, true_or, or_true, not_false_eq_true, Option.some.injEq, exists_eq_left', forall_eq, ↓reduceIte, Nat.add_zero, Nat.zero_add, and_self]
theorem e_X8_slotMany (h : MR m sg pl M) (P : Int32 → Mm → Prop) : w_X8_slotMany M m P ↔ P (nI (3 * sg 0)) M := by
  simp (disch := omega) only [w_X8_slotMany, h.sh, h.v1, l_0, l_1, l_2, l_3, l_4, l_5, l_6, l_7, l_8, l_9, l_10, l_20, l_30, l_31, l_34, l_40, l_65, l_100, l_255, l_11, l_12, l_24, l_600, l_689, l_999, l_120, l_32, nI_add, pk_mul, n_sub, n_leT, n_leF, n_ltT, n_ltF, n_eqT, n_eqF, n_cl, n_vp, fa_andq, fa_orq, fa_xorq, n_shl, n_shr, n_t1, n_t0, n_div, n_m1, not_true_eq_false, Bool.false_eq_true, false_and, Bool.not_false, Bool.not_true, Bool.and_true, Bool.and_false, Bool.false_and, Bool.true_and, true_and, and_true, true_or, or_true, not_false_eq_true, Option.some.injEq, exists_eq_left', forall_eq, ↓reduceIte, Nat.add_zero, Nat.zero_add, and_self]
theorem e_X8_castOf (h : MR m sg pl M) {s w j : Nat} (hs : s < 20) (hw : w < 5) (hj : j < 6) (P : Int32 → Mm → Prop) : w_X8_castOf M m (nI s) (nI w) (nI j) P ↔ P (nI (oS pl s (4 + 6 * w + j))) M := by
  simp (disch := omega) only [w_X8_castOf, e_X8_of h, h.sh, l_0, l_1, l_2, l_3, l_4, l_5, l_6, l_7, l_8, l_9, l_10, l_20, l_30, l_31, l_34, l_40, l_65, l_100, l_255, l_11, l_12, l_24, l_600, l_689, l_999, l_120, l_32, nI_add, pk_mul, n_sub, n_leT, n_leF, n_ltT, n_ltF, n_eqT, n_eqF, n_cl, n_vp, fa_andq, fa_orq, fa_xorq, n_shl, n_shr, n_t1, n_t0, n_div, n_m1, not_true_eq_false, Bool.false_eq_true, false_and, Bool.not_false, Bool.not_true, Bool.and_true, Bool.and_false, Bool.false_and, Bool.true_and, true_and, and_true, true_or, or_true, not_false_eq_true, Option.some.injEq, exists_eq_left', forall_eq, ↓reduceIte, Nat.add_zero, Nat.zero_add, and_self]
theorem e_X8_hasWork (h : MR m sg pl M) {s w : Nat} (hs : s < pl 0) (hw : w < 5) (P : Int32 → Mm → Prop) : w_X8_hasWork M m (nI s) (nI w) P ↔ P (bI ((oS pl s 3).testBit w)) M := by
  have b := h.pb.s h.sb hs
  have n := h.pb.n
  simp (disch := omega) only [w_X8_hasWork, e_X8_of h, h.sh, l_0, l_1, l_2, l_3, l_4, l_5, l_6, l_7, l_8, l_9, l_10, l_20, l_30, l_31, l_34, l_40, l_65, l_100, l_255, l_11, l_12, l_24, l_600, l_689, l_999, l_120, l_32, nI_add, pk_mul, n_sub, n_leT, n_leF, n_ltT, n_ltF, n_eqT, n_eqF, n_cl, n_vp, fa_andq, fa_orq, fa_xorq, n_shl, n_shr, n_t1, n_t0, n_div, n_m1, not_true_eq_false, Bool.false_eq_true, false_and, Bool.not_false, Bool.not_true, Bool.and_true, Bool.and_false, Bool.false_and, Bool.true_and, true_and, and_true, true_or, or_true, not_false_eq_true, Option.some.injEq, exists_eq_left', forall_eq, ↓reduceIte, Nat.add_zero, Nat.zero_add, and_self]
  cases (oS pl s 3).testBit w <;> simp only [not_true_eq_false, Bool.false_eq_true, false_and, Bool.not_false, Bool.not_true, Bool.and_true, Bool.and_false, Bool.false_and, Bool.true_and, true_and, and_true, true_or, or_true, not_false_eq_true, Option.some.injEq, exists_eq_left', forall_eq, ↓reduceIte, Nat.add_zero, Nat.zero_add, and_self, bI_t, bI_f, Bool.false_eq_true]
/-- the players in a service, as bits -/
def inW (sg pl : Nat → Nat) (s w a : Nat) : Nat := if (oS pl s 3).testBit w = true then fo (fun j b => b ||| 2 ^ oS pl s (4 + 6 * w + j)) (oW sg w 4) a else a
def inS (sg pl : Nat → Nat) (s : Nat) : Nat := fo (inW sg pl s) (sg 3) 0
theorem e_X8_inService_17 (h : MR m sg pl M) {s w a : Nat} (hs : s < pl 0) (hw : w < sg 3) (P : Int32 → Mm → Prop) (K : Mm → Nat → Int32 → Int32 → Int32 → Prop) : (∃ n, l_X8_inService_17 P K n M m (nI s) (nI a) (nI w) (nI 0)) ↔ K M m (nI s) (nI (inW sg pl s w a)) (nI w) := by
  have n := h.pb.n
  have b := h.sb.b
  have c := h.sb.sc hw
  by_cases t : (oS pl s 3).testBit w = true
  · refine lpE (fun n (z : Int32 × Int32) => l_X8_inService_17 P K n M m (nI s) z.1 (nI w) z.2) (fun i => (nI (fo (fun j b => b ||| 2 ^ oS pl s (4 + 6 * w + j)) i a), nI i)) (oW sg w 4) (fun _ h => h.elim) (fun _ => ?_) (fun n i hi => ?_)
    · simp (disch := omega) only [l_X8_inService_17, h.sh, e_X8_ofWork h, inW, t, l_0, l_1, l_2, l_3, l_4, l_5, l_6, l_7, l_8, l_9, l_10, l_20, l_30, l_31, l_34, l_40, l_65, l_100, l_255, l_11, l_12, l_24, l_600, l_689, l_999, l_120, l_32, nI_add, pk_mul, n_sub, n_leT, n_leF, n_ltT, n_ltF, n_eqT, n_eqF, n_cl, n_vp, fa_andq, fa_orq, fa_xorq, n_shl, n_shr, n_t1, n_t0, n_div, n_m1, not_true_eq_false, Bool.false_eq_true, false_and, Bool.not_false, Bool.not_true, Bool.and_true, Bool.and_false, Bool.false_and, Bool.true_and, true_and, and_true, true_or, or_true, not_false_eq_true, Option.some.injEq, exists_eq_left', forall_eq, ↓reduceIte, Nat.add_zero, Nat.zero_add, and_self]
    · have d := h.pb.c hs hw t hi
      simp (disch := omega) only [l_X8_inService_17, h.sh, e_X8_ofWork h, e_X8_hasWork h, e_X8_castOf h, t, bI_t, fo_s, l_0, l_1, l_2, l_3, l_4, l_5, l_6, l_7, l_8, l_9, l_10, l_20, l_30, l_31, l_34, l_40, l_65, l_100, l_255, l_11, l_12, l_24, l_600, l_689, l_999, l_120, l_32, nI_add, pk_mul, n_sub, n_leT, n_leF, n_ltT, n_ltF, n_eqT, n_eqF, n_cl, n_vp, fa_andq, fa_orq, fa_xorq, n_shl, n_shr, n_t1, n_t0, n_div, n_m1, not_true_eq_false, Bool.false_eq_true, false_and, Bool.not_false, Bool.not_true, Bool.and_true, Bool.and_false, Bool.false_and, Bool.true_and, true_and, and_true, true_or, or_true, not_false_eq_true, Option.some.injEq, exists_eq_left', forall_eq, ↓reduceIte, Nat.add_zero, Nat.zero_add, and_self]
  · refine lpE (fun n (z : Int32 × Int32) => l_X8_inService_17 P K n M m (nI s) z.1 (nI w) z.2) (fun i => (nI a, nI i)) 0 (fun _ h => h.elim) (fun _ => ?_) (fun n i hi => absurd hi (Nat.not_lt_zero i))
    simp (disch := omega) only [l_X8_inService_17, h.sh, e_X8_ofWork h, e_X8_hasWork h, inW, b_no t, bI_f, Bool.false_eq_true, l_0, l_1, l_2, l_3, l_4, l_5, l_6, l_7, l_8, l_9, l_10, l_20, l_30, l_31, l_34, l_40, l_65, l_100, l_255, l_11, l_12, l_24, l_600, l_689, l_999, l_120, l_32, nI_add, pk_mul, n_sub, n_leT, n_leF, n_ltT, n_ltF, n_eqT, n_eqF, n_cl, n_vp, fa_andq, fa_orq, fa_xorq, n_shl, n_shr, n_t1, n_t0, n_div, n_m1, not_true_eq_false, Bool.false_eq_true, false_and, Bool.not_false, Bool.not_true, Bool.and_true, Bool.and_false, Bool.false_and, Bool.true_and, true_and, and_true, true_or, or_true, not_false_eq_true, Option.some.injEq, exists_eq_left', forall_eq, ↓reduceIte, Nat.add_zero, Nat.zero_add, and_self]
theorem e_X8_inService (h : MR m sg pl M) {s : Nat} (hs : s < pl 0) (P : Int32 → Mm → Prop) : w_X8_inService M m (nI s) P ↔ P (nI (inS sg pl s)) M := by
  have n := h.pb.n
  have b := h.sb.b
  unfold w_X8_inService
  refine lpE (fun n (z : Int32 × Int32) => l_X8_inService_4 P (fun M6 x2_6 => P x2_6 M6) n M m (nI s) z.1 z.2) (fun k => (nI (fo (inW sg pl s) k 0), nI k)) (sg 3) (fun _ h => h.elim) (fun _ => ?_) (fun n k hk => ?_)
  · simp (disch := omega) only [l_X8_inService_4, h.sh, h.v1, inS, l_0, l_1, l_2, l_3, l_4, l_5, l_6, l_7, l_8, l_9, l_10, l_20, l_30, l_31, l_34, l_40, l_65, l_100, l_255, l_11, l_12, l_24, l_600, l_689, l_999, l_120, l_32, nI_add, pk_mul, n_sub, n_leT, n_leF, n_ltT, n_ltF, n_eqT, n_eqF, n_cl, n_vp, fa_andq, fa_orq, fa_xorq, n_shl, n_shr, n_t1, n_t0, n_div, n_m1, not_true_eq_false, Bool.false_eq_true, false_and, Bool.not_false, Bool.not_true, Bool.and_true, Bool.and_false, Bool.false_and, Bool.true_and, true_and, and_true, true_or, or_true, not_false_eq_true, Option.some.injEq, exists_eq_left', forall_eq, ↓reduceIte, Nat.add_zero, Nat.zero_add, and_self]
  · simp (disch := omega) only [l_X8_inService_4, h.sh, h.v1, fo_s, e_X8_inService_17 h hs, l_0, l_1, l_2, l_3, l_4, l_5, l_6, l_7, l_8, l_9, l_10, l_20, l_30, l_31, l_34, l_40, l_65, l_100, l_255, l_11, l_12, l_24, l_600, l_689, l_999, l_120, l_32, nI_add, pk_mul, n_sub, n_leT, n_leF, n_ltT, n_ltF, n_eqT, n_eqF, n_cl, n_vp, fa_andq, fa_orq, fa_xorq, n_shl, n_shr, n_t1, n_t0, n_div, n_m1, not_true_eq_false, Bool.false_eq_true, false_and, Bool.not_false, Bool.not_true, Bool.and_true, Bool.and_false, Bool.false_and, Bool.true_and, true_and, and_true, true_or, or_true, not_false_eq_true, Option.some.injEq, exists_eq_left', forall_eq, ↓reduceIte, Nat.add_zero, Nat.zero_add, and_self]
end RD
