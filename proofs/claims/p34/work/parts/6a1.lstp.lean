/-! THE ROOM: the sets that are drawn, the plans that come, a step -/
section PT
variable {sg pl : Nat → Nat}
/-- one work or two -/
def tw (sg : Nat → Nat) (S : Nat) : Prop := ∃ a c, a < sg 3 ∧ c < sg 3 ∧ S = 2 ^ a ||| 2 ^ c
theorem or_tb (a c w : Nat) : (2 ^ a ||| 2 ^ c).testBit w = true ↔ a = w ∨ c = w := by
  rw [Nat.testBit_or, Nat.testBit_two_pow, Nat.testBit_two_pow, Bool.or_eq_true, decide_eq_true_eq, decide_eq_true_eq]
theorem tw_hi {S : Nat} (h : tw sg S) : S.testBit (sg 3) = false := by
  obtain ⟨a, c, ha, hc, rfl⟩ := h
  by_cases q : (2 ^ a ||| 2 ^ c).testBit (sg 3) = true
  · rw [or_tb] at q; omega
  · exact Bool.eq_false_iff.mpr q
/-- somebody might be cast for it -/
def cst (sg : Nat → Nat) (x : Nat) : Prop := ∃ F, nc sg x (oW sg x 4) F ≠ 0
def tc2 (sg : Nat → Nat) (S : Nat) : Prop := tw sg S ∧ ∀ x, x < sg 3 → S.testBit x = true → cst sg x
def PT (sg pl : Nat → Nat) : Prop := pl 0 ≤ 20 ∧ ∀ s, s < pl 0 → tc2 sg (oS pl s 3)
theorem su_pos {f : Nat → Nat} {n p : Nat} (hp : p < n) (h : f p ≠ 0) : su f n ≠ 0 := fun z => by
  have m : su f (p + 1) ≤ su f n := su_mono (by omega)
  rw [su_s] at m
  omega
theorem dm_nc (sg : Nat → Nat) (w : Nat) : ∀ r F, dm sg w r F < 100 → nc sg w r F ≠ 0
  | 0, _, _ => Nat.one_ne_zero
  | r + 1, F, h => by
    rw [dm_s] at h
    rcases dk_ex sg w r F (sg 2) with e | ⟨p, h1, h2, h3⟩
    · omega
    · have d : co sg w r F p = dbo sg p (kr sg w r) + dm sg w r (rm F (2 ^ p)) := rfl
      have ih := dm_nc sg w r (rm F (2 ^ p)) (by omega)
      have h2 : F.testBit p = true ∧ (kinds sg p).testBit (kr sg w r) = true := h2
      rw [nc]
      refine su_pos h1 ?_
      rw [if_pos h2]; exact ih
theorem hasC_c {S F : Nat} (h : hasC sg S F = true) : ∀ x, x < sg 3 → S.testBit x = true → cst sg x := fun x hx hb => by
  unfold hasC at h
  rw [al_iff] at h
  have q := h x hx
  rw [Bool.not_eq_true', decide_eq_false_iff_not] at q
  refine ⟨F, dm_nc sg x _ F ?_⟩
  rcases Nat.lt_or_ge (dm sg x (oW sg x 4) F) 100 with y | y
  · exact y
  · exact absurd ⟨hb, by omega⟩ q
theorem whyN_0 {ha t S c : Nat} (h : whyN sg pl ha t S c = 0) : pl 0 ≠ 20 ∧ rented sg S (t / 3) = true ∧ hasC sg S (free sg pl t) = true := by
  unfold whyN at h
  by_cases c1 : pl 0 = 20
  · rw [if_pos c1] at h; exact absurd h (by omega)
  rw [if_neg c1] at h
  by_cases c2 : ¬ rented sg S (t / 3) = true
  · rw [if_pos c2] at h; exact absurd h (by omega)
  rw [if_neg c2] at h
  by_cases c3 : ¬ hFree pl ha t (sg (6 + ha)) = true
  · rw [if_pos c3] at h; exact absurd h (by omega)
  rw [if_neg c3] at h
  by_cases c4 : c = 1 ∧ ¬ ready sg pl S t = true
  · rw [if_pos c4] at h; exact absurd h (by omega)
  rw [if_neg c4] at h
  by_cases c5 : hasC sg S (free sg pl t) = true
  · exact ⟨c1, Decidable.not_not.mp c2, c5⟩
  · rw [if_neg c5] at h; exact absurd h (by omega)
theorem PT_off (h : PT sg pl) {s : Nat} (hs : s < pl 0) : PT sg (off pl s) := by
  obtain ⟨h1, h2⟩ := h
  refine ⟨by rw [off_n]; omega, fun k hk => ?_⟩
  rw [off_n] at hk
  rw [off_S pl hk (by omega)]
  split
  · exact h2 _ (by omega)
  · exact h2 _ (by omega)
theorem PT_cm (h : PT sg pl) {at_ t ha S c F : Nat} (hat : at_ ≤ pl 0) (hn : pl 0 < 20) (hS : tc2 sg S) : PT sg (cm sg pl at_ t ha S c F) := by
  obtain ⟨h1, h2⟩ := h
  refine ⟨by rw [cm_n]; omega, fun k hk => ?_⟩
  rw [cm_n] at hk
  rw [cm_S sg pl hk (by omega)]
  by_cases c1 : k < at_
  · rw [if_pos c1]; exact h2 _ (by omega)
  · rw [if_neg c1]
    by_cases c2 : k = at_
    · rw [if_pos c2]; exact hS
    · rw [if_neg c2]; exact h2 _ (by omega)
theorem PT_ct (h : PT sg pl) {p k : Nat} (hp : p < 8) : PT sg (ctP pl p k) := by
  obtain ⟨h1, h2⟩ := h
  have e0 : ctP pl p k 0 = pl 0 := if_neg (by omega)
  refine ⟨by rw [e0]; exact h1, fun s hs => ?_⟩
  rw [e0] at hs
  have e : oS (ctP pl p k) s 3 = oS pl s 3 := if_neg (by omega)
  rw [e]; exact h2 s hs
theorem psn_leK (pl : Nat → Nat) (ha t : Nat) : psn pl ha t ≤ pl 0 := fi_le _ _
theorem PT_cmP (h : PT sg pl) {ha t S c : Nat} (hS : tw sg S) : PT sg (cmP sg pl ha t S c) := by
  unfold cmP
  by_cases q : whyN sg pl ha t S c = 0
  · rw [if_pos q]
    obtain ⟨q1, -, q3⟩ := whyN_0 q
    exact PT_cm h (psn_leK _ _ _) (by have := h.1; omega) ⟨hS, hasC_c q3⟩
  · rw [if_neg q]; exact h
theorem tw_1 {a : Nat} (ha : a < sg 3) : tw sg (2 ^ a) := ⟨a, a, ha, ha, (Nat.or_self _).symm⟩
theorem tw_2 {a c : Nat} (ha : a < sg 3) (hc : c < sg 3) : tw sg (2 ^ a ||| 2 ^ c) := ⟨a, c, ha, hc, rfl⟩
theorem PT_ch (h : PT sg pl) (h3 : 1 ≤ sg 3) (h2 : 1 ≤ sg 2 ∧ sg 2 ≤ 8) {t s k H : Nat} (hs : pl 0 ≠ 0 → s < pl 0) : PT sg (chP sg pl t s k H) := by
  unfold chP
  by_cases k0 : k = 0
  · rw [if_pos k0]
    have d := drw_lt H h2.1
    exact PT_ct h (by omega)
  rw [if_neg k0]
  by_cases k1 : k = 1
  · rw [if_pos k1]
    by_cases c : pl 0 ≠ 0 ∧ rehd sg (off pl s) = true
    · rw [if_pos c]; exact PT_off h (hs c.1)
    · rw [if_neg c]; exact h
  rw [if_neg k1]
  by_cases k2 : k = 2
  · rw [if_pos k2]
    by_cases c : pl 0 ≠ 0 ∧ mvN sg pl s t = 0
    · rw [if_pos c]
      have l := hs c.1
      exact PT_cm (PT_off h l) (psn_leK _ _ _) (by rw [off_n]; have := h.1; omega) (h.2 s l)
    · rw [if_neg c]; exact h
  rw [if_neg k2]
  by_cases k3 : k = 3
  · rw [if_pos k3]
    by_cases c : pl 0 ≠ 0
    · rw [if_pos c]
      have l := hs c
      exact PT_cm (PT_off h l) (by rw [off_n]; omega) (by rw [off_n]; have := h.1; omega) (h.2 s l)
    · rw [if_neg c]; exact h
  rw [if_neg k3]
  unfold cdP
  have a1 := drw_lt (nx (nx H)) h3
  have a2 := drw_lt (nx (nx (nx (nx H)))) h3
  by_cases c1 : drw (nx H) 2 = 0
  · rw [if_pos c1]
    by_cases c2 : drw (nx (nx (nx H))) 3 = 0
    · rw [if_pos c2]; exact PT_cmP h (tw_2 a1 a2)
    · rw [if_neg c2]; exact PT_cmP h (tw_1 a1)
  · rw [if_neg c1]; exact PT_cmP h (tw_1 a1)
theorem slS_lt {G : Nat} (h : pl 0 ≠ 0) : slS pl G < pl 0 := by
  unfold slS
  rw [if_neg h]
  exact drw_lt _ (by omega)
theorem PT_st {z : Sz} (h : PT sg z.1) (h3 : 1 ≤ sg 3) (h2 : 1 ≤ sg 2 ∧ sg 2 ≤ 8) : PT sg (stP sg z) := PT_ch h h3 h2 slS_lt
theorem PT_zs {z : Sz} (h : PT sg z.1) (h3 : 1 ≤ sg 3) (h2 : 1 ≤ sg 2 ∧ sg 2 ≤ 8) : ∀ n, PT sg (zs sg z n).1
  | 0 => h
  | n + 1 => PT_st (PT_zs h h3 h2 n) h3 h2
/-- what a set costs -/
theorem gS_2 (K : Nat → Nat) (a c : Nat) : gS sg K (2 ^ a ||| 2 ^ c) ≤ if a = c then 1 + K a else (1 + K a) + (1 + K c) := by
  have s1 : ∀ x d, su (fun w => if x = w then d else 0) (sg 3) ≤ d := fun x d => by
    rw [su_one]
    split <;> omega
  by_cases e : a = c
  · rw [if_pos e]
    refine Nat.le_trans (su_le (g := fun w => if a = w then 1 + K a else 0) fun w _ => ?_) (s1 a _)
    by_cases q : (2 ^ a ||| 2 ^ c).testBit w = true
    · rw [if_pos q]
      rw [or_tb] at q
      rw [if_pos (by omega)]
      have : w = a := by omega
      rw [this]; exact Nat.le_refl _
    · rw [if_neg q]; exact Nat.zero_le _
  · rw [if_neg e]
    refine Nat.le_trans (su_le (g := fun w => (if a = w then 1 + K a else 0) + (if c = w then 1 + K c else 0)) fun w _ => ?_) (by rw [su_add]; exact Nat.add_le_add (s1 a _) (s1 c _))
    by_cases q : (2 ^ a ||| 2 ^ c).testBit w = true
    · rw [if_pos q]
      rw [or_tb] at q
      rcases q with q | q
      · rw [if_pos q, ← q]; exact Nat.le_add_right _ _
      · rw [if_pos q, ← q]; exact Nat.le_add_left _ _
    · rw [if_neg q]; exact Nat.zero_le _
/-- what a search costs that fails -/
theorem fb_2 {K : Nat → Nat} {M : Nat → Nat → Nat} (hK : KBn sg K) (hM : MBn sg M) {a c : Nat} (ha : a < sg 3) (hc : c < sg 3) : FBn sg (2 ^ a ||| 2 ^ c) (if a = c then 1 else 2 + (if a < c then M a c else M c a)) := by
  intro F hF
  have y := fi_yes _ _ hF
  have y := of_decide_eq_true y
  have no := fun k (hk : k < fw sg (2 ^ a ||| 2 ^ c) F) => fi_no _ _ k hk
  have ed : fi (fun w => decide ((2 ^ a ||| 2 ^ c).testBit w = true ∧ ¬ dm sg w (oW sg w 4) F < 100)) (sg 3) = fw sg (2 ^ a ||| 2 ^ c) F := rfl
  rw [ed] at y
  generalize fw sg (2 ^ a ||| 2 ^ c) F = x at y hF ⊢
  obtain ⟨y1, y2⟩ := y
  have n0 : nc sg x (oW sg x 4) F = 0 := by
    by_cases q : nc sg x (oW sg x 4) F = 0
    · exact q
    · exact absurd (nc_dm sg x _ F (hK x hF).1 q) y2
  have y1b := y1
  rw [or_tb] at y1
  rw [su_s, if_pos y1b, n0]
  by_cases e : a = c
  · rw [if_pos e]
    have z : su (fun w => if (2 ^ a ||| 2 ^ c).testBit w = true then 1 + nc sg w (oW sg w 4) F else 0) x = 0 := su_0 fun w hw => if_neg fun q => by rw [or_tb] at q; omega
    omega
  · rw [if_neg e]
    have two : ∀ lo hi, lo < hi → (a = lo ∧ c = hi ∨ a = hi ∧ c = lo) → su (fun w => if (2 ^ a ||| 2 ^ c).testBit w = true then 1 + nc sg w (oW sg w 4) F else 0) x ≤ 1 + M lo hi := fun lo hi hl hh => by
      by_cases xl : x = lo
      · have z : su (fun w => if (2 ^ a ||| 2 ^ c).testBit w = true then 1 + nc sg w (oW sg w 4) F else 0) x = 0 := su_0 fun w hw => if_neg fun q => by rw [or_tb] at q; omega
        omega
      · have xh : x = hi := by omega
        have m := hM lo hi hl (by omega) F (by rw [← xh]; exact y2)
        refine Nat.le_trans (su_le (g := fun w => if lo = w then 1 + M lo hi else 0) fun w hw => ?_) (by rw [su_one]; split <;> omega)
        by_cases q : (2 ^ a ||| 2 ^ c).testBit w = true
        · rw [if_pos q]
          rw [or_tb] at q
          have ew : w = lo := by omega
          rw [if_pos ew.symm, ew]
          exact Nat.add_le_add_left m 1
        · rw [if_neg q]; exact Nat.zero_le _
    by_cases l : a < c
    · rw [if_pos l]
      have q := two a c l (Or.inl ⟨rfl, rfl⟩)
      omega
    · rw [if_neg l]
      have q := two c a (by omega) (Or.inr ⟨rfl, rfl⟩)
      omega
/-- a step costs at most so much -/
def Bds (sg K : Nat → Nat) (g2 f2 k1 : Nat) : Prop := KBn sg K ∧ (∀ a c, a < sg 3 → c < sg 3 → gS sg K (2 ^ a ||| 2 ^ c) ≤ g2) ∧ (∀ a c, a < sg 3 → c < sg 3 → FBn sg (2 ^ a ||| 2 ^ c) f2) ∧ ∀ w, w < sg 3 → K w ≤ k1
theorem Bds.hK {K : Nat → Nat} {g2 f2 k1 : Nat} (b : Bds sg K g2 f2 k1) : KBn sg K := b.1
theorem Bds.hg {K : Nat → Nat} {g2 f2 k1 : Nat} (b : Bds sg K g2 f2 k1) : ∀ a c, a < sg 3 → c < sg 3 → gS sg K (2 ^ a ||| 2 ^ c) ≤ g2 := b.2.1
theorem Bds.hf {K : Nat → Nat} {g2 f2 k1 : Nat} (b : Bds sg K g2 f2 k1) : ∀ a c, a < sg 3 → c < sg 3 → FBn sg (2 ^ a ||| 2 ^ c) f2 := b.2.2.1
theorem Bds.hk {K : Nat → Nat} {g2 f2 k1 : Nat} (b : Bds sg K g2 f2 k1) : ∀ w, w < sg 3 → K w ≤ k1 := b.2.2.2
theorem mxA_mono {f g g' : Nat} (h : g ≤ g') : mxA f g ≤ mxA f g' := by
  unfold mxA
  split <;> split <;> split <;> split <;> omega
theorem Bds.ch {K : Nat → Nat} {g2 f2 k1 : Nat} (b : Bds sg K g2 f2 k1) (h : PT sg pl) (h3 : 1 ≤ sg 3) {t s k H : Nat} (hs : pl 0 ≠ 0 → s < pl 0) : chC sg pl t s k H ≤ 2 * g2 + 2 := by
  unfold chC
  by_cases k0 : k = 0
  · rw [if_pos k0]; exact Nat.zero_le _
  rw [if_neg k0]
  by_cases k1 : k = 1
  · rw [if_pos k1]; exact Nat.zero_le _
  rw [if_neg k1]
  have two : pl 0 ≠ 0 → gS sg K (oS pl s 3) ≤ g2 ∧ (oS pl s 3).testBit (sg 3) = false := fun c => by
    have l := (h.2 s (hs c)).1
    refine ⟨?_, tw_hi l⟩
    obtain ⟨a, c, ha, hc, e⟩ := l
    rw [e]; exact b.hg a c ha hc
  by_cases k2 : k = 2
  · rw [if_pos k2]
    by_cases c : pl 0 = 0
    · rw [if_pos c]; exact Nat.zero_le _
    · rw [if_neg c]
      have q := mvC_le (pl := pl) (s := s) (t := t) b.hK (two c).2
      have := (two c).1
      omega
  rw [if_neg k2]
  by_cases k3 : k = 3
  · rw [if_pos k3]
    by_cases c : pl 0 = 0
    · rw [if_pos c]; exact Nat.zero_le _
    · rw [if_neg c]
      have q := comC_le (pl := off pl s) (t := oS pl s 0) b.hK (two c).2
      have := (two c).1
      omega
  rw [if_neg k3]
  unfold cdC
  have a1 := drw_lt (nx (nx H)) h3
  have a2 := drw_lt (nx (nx (nx (nx H)))) h3
  have fin : ∀ ha S c, tw sg S → cmC sg pl ha t S c ≤ 2 * g2 + 2 := fun ha S c hS => by
    have q := cmC_le (pl := pl) (ha := ha) (t := t) (c := c) b.hK (tw_hi hS)
    obtain ⟨x, y, hx, hy, e⟩ := hS
    have := b.hg x y hx hy
    rw [e] at q ⊢
    omega
  by_cases c1 : drw (nx H) 2 = 0
  · rw [if_pos c1]
    by_cases c2 : drw (nx (nx (nx H))) 3 = 0
    · rw [if_pos c2]; exact fin _ _ _ (tw_2 a1 a2)
    · rw [if_neg c2]; exact fin _ _ _ (tw_1 a1)
  · rw [if_neg c1]; exact fin _ _ _ (tw_1 a1)
theorem Bds.as {K : Nat → Nat} {g2 f2 k1 : Nat} (b : Bds sg K g2 f2 k1) (h : PT sg pl) (h3 : 1 ≤ sg 3) (h0 : 1 ≤ sg 0 ∧ sg 0 ≤ 7) {G : Nat} : asC sg pl G ≤ mxA f2 g2 + 1 + k1 := by
  have fin : ∀ ha t S c w, t < sg 0 * 3 → w < sg 3 → tw sg S → askC sg pl ha t S c w ≤ mxA f2 g2 + 1 + k1 := fun ha t S c w ht hw hS => by
    obtain ⟨x, y, hx, hy, e⟩ := id hS
    have hfb := b.hf x y hx hy
    have hgb := b.hg x y hx hy
    rw [← e] at hfb hgb
    have q := askC_le (pl := pl) (ha := ha) (c := c) b.hK h.1 h0.2 (tw_hi hS) hfb hw ht
    have m := mxA_mono (f := f2) hgb
    have k := b.hk w hw
    omega
  have dt := drw_lt (nx G) (show 1 ≤ 3 * sg 0 by omega)
  have a1 := drw_lt (nx (nx (nx G))) h3
  have a2 := drw_lt (nx (nx (nx (nx (nx G))))) h3
  have a3 := drw_lt (nx (nx (nx (nx (nx (nx G)))))) h3
  have a4 := drw_lt (nx (nx (nx (nx G)))) h3
  unfold asC
  by_cases c1 : drw (nx (nx G)) 2 = 0
  · rw [if_pos c1]
    by_cases c2 : drw (nx (nx (nx (nx G)))) 2 = 0
    · rw [if_pos c2]; exact fin _ _ _ _ _ (by omega) a3 (tw_2 a1 a2)
    · rw [if_neg c2]; exact fin _ _ _ _ _ (by omega) a2 (tw_1 a1)
  · rw [if_neg c1]; exact fin _ _ _ _ _ (by omega) a4 (tw_1 a1)
theorem Bds.st {K : Nat → Nat} {g2 f2 k1 : Nat} (b : Bds sg K g2 f2 k1) {z : Sz} (h : PT sg z.1) (h3 : 1 ≤ sg 3) (h2 : 1 ≤ sg 2 ∧ sg 2 ≤ 8) (h0 : 1 ≤ sg 0 ∧ sg 0 ≤ 7) : stC sg z ≤ (2 * g2 + 2) + (mxA f2 g2 + 1 + k1) := Nat.add_le_add (b.ch h h3 slS_lt) (b.as (PT_st h h3 h2) h3 h0)
theorem Bds.all {K : Nat → Nat} {g2 f2 k1 : Nat} (b : Bds sg K g2 f2 k1) {z : Sz} (h : PT sg z.1) (h3 : 1 ≤ sg 3) (h2 : 1 ≤ sg 2 ∧ sg 2 ≤ 8) (h0 : 1 ≤ sg 0 ∧ sg 0 ≤ 7) : ∀ n, stS sg z n ≤ n * ((2 * g2 + 2) + (mxA f2 g2 + 1 + k1))
  | 0 => Nat.zero_le _
  | n + 1 => by
    have ih := Bds.all b h h3 h2 h0 n
    have s := b.st (PT_zs h h3 h2 n) h3 h2 h0
    have e : stS sg z (n + 1) = stS sg z n + stC sg (zs sg z n) := rfl
    rw [e, Nat.succ_mul]
    exact Nat.add_le_add ih s
end PT
