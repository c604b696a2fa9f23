/-! PLANS THAT ARE IN ORDER: sorted, with right casts, nobody twice at a slot -/
/-- services by slots and halls -/
def lx (t ha t2 ha2 : Nat) : Prop := t < t2 ∨ (t = t2 ∧ ha < ha2)
def PV (sg pl : Nat → Nat) : Prop := (∀ s q, s < q → q < pl 0 → lx (oS pl s 0) (oS pl s 1) (oS pl q 0) (oS pl q 1)) ∧
  (∀ s, s < pl 0 → ∀ w, w < sg 3 → (oS pl s 3).testBit w = true → ∀ j, j < oW sg w 4 → (kinds sg (oS pl s (4 + 6 * w + j))).testBit (oW sg w (5 + j)) = true ∧ (pres sg (oS pl s 0 / 3)).testBit (oS pl s (4 + 6 * w + j)) = true ∧ ∀ i, i < j → oS pl s (4 + 6 * w + i) ≠ oS pl s (4 + 6 * w + j)) ∧
  ∀ s q, s < pl 0 → q < pl 0 → s ≠ q → oS pl s 0 = oS pl q 0 → ∀ p, ¬ ((inS sg pl s).testBit p = true ∧ (inS sg pl q).testBit p = true)
def PG (sg pl : Nat → Nat) : Prop := PB sg pl ∧ PV sg pl
/-- two services of two plans are the same -/
theorem inS_cong {sg A B : Nat → Nat} {s q : Nat} (h : ∀ f, f < 34 → oS A s f = oS B q f) (hs : SB sg) : inS sg A s = inS sg B q := by
  have b := hs.b
  refine Nat.eq_of_testBit_eq fun k => ?_
  rw [Bool.eq_iff_iff, tb_inS, tb_inS, h 3 (by omega)]
  constructor
  · rintro ⟨w, h1, h2, j, h3, h4⟩
    have c := hs.sc h1
    exact ⟨w, h1, h2, j, h3, by rw [← h _ (by omega)]; exact h4⟩
  · rintro ⟨w, h1, h2, j, h3, h4⟩
    have c := hs.sc h1
    exact ⟨w, h1, h2, j, h3, by rw [h _ (by omega)]; exact h4⟩
theorem PBoff {sg pl : Nat → Nat} (hs : SB sg) (h : PB sg pl) {s : Nat} (hsn : s < pl 0) : PB sg (off pl s) := by
  have b := hs.b
  refine ⟨by rw [off_n]; have := h.1; omega, fun p hp => by rw [off_k _ _ (by omega) (by omega)]; exact h.2.1 p hp, fun q hq => ?_⟩
  rw [off_n] at hq
  have e : ∀ f, f < 34 → oS (off pl s) q f = if q < s then oS pl q f else oS pl (q + 1) f := fun f hf => off_S pl hq hf
  by_cases c : q < s
  · have e2 : ∀ f, f < 34 → oS (off pl s) q f = oS pl q f := fun f hf => by rw [e f hf, if_pos c]
    rw [e2 0 (by omega), e2 1 (by omega), e2 2 (by omega), e2 3 (by omega)]
    refine ⟨(h.2.2 q (by omega)).1, fun w hw t j hj => ?_⟩
    have d := hs.sc hw
    rw [e2 _ (by omega)]
    exact h.c (by omega) hw t hj
  · have e2 : ∀ f, f < 34 → oS (off pl s) q f = oS pl (q + 1) f := fun f hf => by rw [e f hf, if_neg c]
    rw [e2 0 (by omega), e2 1 (by omega), e2 2 (by omega), e2 3 (by omega)]
    refine ⟨(h.2.2 (q + 1) (by omega)).1, fun w hw t j hj => ?_⟩
    have d := hs.sc hw
    rw [e2 _ (by omega)]
    exact h.c (by omega) hw t hj
/-- where a service of the plan without s was -/
def up (s q : Nat) : Nat := if q < s then q else q + 1
theorem off_up {pl : Nat → Nat} {s q : Nat} (hq : q < pl 0 - 1) {f : Nat} (hf : f < 34) : oS (off pl s) q f = oS pl (up s q) f := by
  rw [off_S pl hq hf]
  unfold up
  split <;> rfl
theorem up_lt {s q n : Nat} (h : q < n - 1) : up s q < n := by unfold up; split <;> omega
theorem up_mono {s q r : Nat} (h : q < r) : up s q < up s r := by unfold up; split <;> split <;> omega
theorem up_ne (s q : Nat) : up s q ≠ s := by unfold up; split <;> omega
theorem PVoff {sg pl : Nat → Nat} (hs : SB sg) (h : PV sg pl) (s : Nat) : PV sg (off pl s) := by
  have b := hs.b
  obtain ⟨h1, h2, h3⟩ := h
  refine ⟨fun q r hqr hr => ?_, fun q hq w hw t j hj => ?_, fun q r hq hr hne ht p => ?_⟩
  · rw [off_n] at hr
    rw [off_up (by omega) (by omega), off_up (by omega) (by omega), off_up hr (by omega), off_up hr (by omega)]
    exact h1 _ _ (up_mono hqr) (up_lt hr)
  · rw [off_n] at hq
    have d := hs.sc hw
    rw [off_up hq (by omega)] at t
    rw [off_up hq (by omega), off_up hq (by omega)]
    obtain ⟨g1, g2, g3⟩ := h2 _ (up_lt hq) w hw t j hj
    refine ⟨g1, g2, fun i hi => ?_⟩
    rw [off_up hq (by omega)]
    exact g3 i hi
  · rw [off_n] at hq hr
    rw [off_up hq (by omega), off_up hr (by omega)] at ht
    rw [inS_cong (fun f hf => off_up hq hf) hs, inS_cong (fun f hf => off_up hr hf) hs]
    refine h3 _ _ (up_lt hq) (up_lt hr) (fun e => ?_) ht p
    rcases Nat.lt_trichotomy q r with c | c | c
    · have := up_mono (s := s) c; omega
    · exact hne c
    · have := up_mono (s := s) c; omega
theorem PGoff {sg pl : Nat → Nat} (hs : SB sg) (h : PG sg pl) {s : Nat} (hsn : s < pl 0) : PG sg (off pl s) := ⟨PBoff hs h.1 hsn, PVoff hs h.2 s⟩
theorem hasC_of {sg : Nat → Nat} {S F : Nat} (h : hasC sg S F = true) {w : Nat} (hw : w < sg 3) (ht : S.testBit w = true) : dm sg w (oW sg w 4) F < 100 := by
  have := nd_f ((al_iff _ _).mp h w hw)
  by_cases q : dm sg w (oW sg w 4) F < 100
  · exact q
  · exact absurd ⟨ht, q⟩ this
theorem nv_ok {sg : Nat → Nat} {S F w j : Nat} (h : hasC sg S F = true) (hw : w < sg 3) (ht : S.testBit w = true) (hj : j < oW sg w 4) : nv sg S F w j = bq sg w (oW sg w 4) F j := if_pos ⟨⟨ht, hasC_of h hw ht⟩, hj⟩
theorem PBcm {sg pl : Nat → Nat} (hs : SB sg) (h : PB sg pl) {at_ t ha S c F : Nat} (hn : pl 0 < 20) (hat : at_ ≤ pl 0) (ht : t < 3 * sg 0) (hha : ha < sg 1) (hc : c ≤ 1) (hS : S < 2 ^ sg 3) (hF : F < 256) (hC : hasC sg S F = true) : PB sg (cm sg pl at_ t ha S c F) := by
  have b := hs.b
  refine ⟨by rw [cm_n]; omega, fun p hp => by rw [cm_k _ _ _ _ _ _ _ _ (by omega) (by omega)]; exact h.2.1 p hp, fun q hq => ?_⟩
  rw [cm_n] at hq
  have e : ∀ f, f < 34 → oS (cm sg pl at_ t ha S c F) q f = if q < at_ then oS pl q f else if q = at_ then nb sg pl at_ t ha S c F f else oS pl (q - 1) f := fun f hf => cm_S sg pl hq hf
  by_cases c1 : q < at_
  · have e2 : ∀ f, f < 34 → oS (cm sg pl at_ t ha S c F) q f = oS pl q f := fun f hf => by rw [e f hf, if_pos c1]
    rw [e2 0 (by omega), e2 1 (by omega), e2 2 (by omega), e2 3 (by omega)]
    refine ⟨(h.2.2 q (by omega)).1, fun w hw t j hj => ?_⟩
    have d := hs.sc hw
    rw [e2 _ (by omega)]
    exact h.c (by omega) hw t hj
  · by_cases c2 : q = at_
    · have e2 : ∀ f, f < 34 → oS (cm sg pl at_ t ha S c F) q f = nb sg pl at_ t ha S c F f := fun f hf => by rw [e f hf, if_neg c1, if_pos c2]
      rw [e2 0 (by omega), e2 1 (by omega), e2 2 (by omega), e2 3 (by omega)]
      refine ⟨⟨ht, hha, hc, hS⟩, fun w hw t j hj => ?_⟩
      have d := hs.sc hw
      have t2 : S.testBit w = true := t
      rw [e2 _ (by omega), nb_at hw (by omega), nv_ok hC hw t2 hj]
      exact (bq_cast hF (by omega) (hasC_of hC hw t2) hj).1
    · have e2 : ∀ f, f < 34 → oS (cm sg pl at_ t ha S c F) q f = oS pl (q - 1) f := fun f hf => by rw [e f hf, if_neg c1, if_neg c2]
      rw [e2 0 (by omega), e2 1 (by omega), e2 2 (by omega), e2 3 (by omega)]
      refine ⟨(h.2.2 (q - 1) (by omega)).1, fun w hw t j hj => ?_⟩
      have d := hs.sc hw
      rw [e2 _ (by omega)]
      exact h.c (by omega) hw t hj
/-- where a service of the new plan was (but the new one) -/
def dn (at_ q : Nat) : Nat := if q < at_ then q else q - 1
theorem cm_dn {sg pl : Nat → Nat} {at_ t ha S c F q : Nat} (hq : q < pl 0 + 1) (hne : q ≠ at_) {f : Nat} (hf : f < 34) : oS (cm sg pl at_ t ha S c F) q f = oS pl (dn at_ q) f := by
  rw [cm_S sg pl hq hf]
  unfold dn
  by_cases c : q < at_
  · rw [if_pos c, if_pos c]
  · rw [if_neg c, if_neg c, if_neg hne]
theorem cm_at {sg pl : Nat → Nat} {at_ t ha S c F : Nat} (hat : at_ ≤ pl 0) {f : Nat} (hf : f < 34) : oS (cm sg pl at_ t ha S c F) at_ f = nb sg pl at_ t ha S c F f := by
  rw [cm_S sg pl (by omega) hf, if_neg (Nat.lt_irrefl _), if_pos rfl]
theorem psn_lo {pl : Nat → Nat} {ha t s : Nat} (h : s < psn pl ha t) : lx (oS pl s 0) (oS pl s 1) t ha := by
  unfold lx
  exact nd_t (fi_no _ _ _ h)
theorem psn_hi {pl : Nat → Nat} {ha t : Nat} (h : psn pl ha t < pl 0) : ¬ lx (oS pl (psn pl ha t) 0) (oS pl (psn pl ha t) 1) t ha := by
  unfold lx
  exact nd_f (fi_yes _ _ h)
theorem free_in {sg pl : Nat → Nat} (hs : SB sg) {t p : Nat} (h : (free sg pl t).testBit p = true) : (pres sg (t / 3)).testBit p = true ∧ ∀ s, s < pl 0 → oS pl s 0 = t → ¬ (inS sg pl s).testBit p = true := by
  have e : free sg pl t = rm (pres sg (t / 3)) (atS sg pl t) := rfl
  rw [e, rm_tb (pres_lt hs _), Bool.and_eq_true] at h
  refine ⟨h.1, fun s h1 h2 h3 => ?_⟩
  have : (atS sg pl t).testBit p = true := (tb_at (fun s => oS pl s 0 = t) (inS sg pl) p (pl 0)).mpr ⟨s, h1, h2, h3⟩
  rw [this] at h
  exact absurd h.2 (by decide)
theorem inS_new {sg pl : Nat → Nat} (hs : SB sg) {at_ t ha S c F p : Nat} (hat : at_ ≤ pl 0) (hF : F < 256) (hC : hasC sg S F = true) (h : (inS sg (cm sg pl at_ t ha S c F) at_).testBit p = true) : F.testBit p = true := by
  have b := hs.b
  obtain ⟨w, h1, h2, j, h3, h4⟩ := (tb_inS _ _ _ _).mp h
  have d := hs.sc h1
  rw [cm_at hat (by omega)] at h2 h4
  have t2 : S.testBit w = true := h2
  rw [nb_at h1 (by omega), nv_ok hC h1 t2 h3] at h4
  rw [← h4]
  exact (bq_cast hF (by omega) (hasC_of hC h1 t2) h3).2.1
theorem PVcm {sg pl : Nat → Nat} (hs : SB sg) (h : PV sg pl) {t ha S c : Nat} (hne : ∀ s, s < pl 0 → ¬ (oS pl s 0 = t ∧ oS pl s 1 = ha)) (hC : hasC sg S (free sg pl t) = true) : PV sg (cm sg pl (psn pl ha t) t ha S c (free sg pl t)) := by
  have b := hs.b
  have hat : psn pl ha t ≤ pl 0 := fi_le _ _
  have hF := free_lt (pl := pl) hs t
  have lo := fun s (q : s < psn pl ha t) => psn_lo q
  have hi : ∀ s, psn pl ha t ≤ s → s < pl 0 → lx t ha (oS pl s 0) (oS pl s 1) := fun s q1 q2 => by
    have z := psn_hi (pl := pl) (ha := ha) (t := t) (by omega)
    have n1 := hne (psn pl ha t) (by omega)
    have z2 : lx t ha (oS pl (psn pl ha t) 0) (oS pl (psn pl ha t) 1) := by unfold lx at z ⊢; omega
    by_cases e : psn pl ha t = s
    · rw [← e]; exact z2
    · have z3 := h.1 (psn pl ha t) s (by omega) q2
      unfold lx at z2 z3 ⊢; omega
  generalize psn pl ha t = at_ at hat lo hi ⊢
  obtain ⟨h1, h2, h3⟩ := h
  have ndn : ∀ q, q < pl 0 + 1 → q ≠ at_ → dn at_ q < pl 0 := fun q _ _ => by unfold dn; split <;> omega
  refine ⟨fun q r hqr hr => ?_, fun q hq w hw tb j hj => ?_, fun q r hq hr hne2 ht p => ?_⟩
  · rw [cm_n] at hr
    by_cases c1 : q = at_
    · subst c1
      rw [cm_at hat (by omega), cm_at hat (by omega), cm_dn hr (by omega) (by omega), cm_dn hr (by omega) (by omega)]
      show lx t ha _ _
      unfold dn
      rw [if_neg (by omega)]
      exact hi (r - 1) (by omega) (by omega)
    · rw [cm_dn (by omega) c1 (by omega), cm_dn (by omega) c1 (by omega)]
      by_cases c2 : r = at_
      · subst c2
        rw [cm_at hat (by omega), cm_at hat (by omega)]
        show lx _ _ t ha
        unfold dn
        rw [if_pos (by omega)]
        exact lo q (by omega)
      · rw [cm_dn hr c2 (by omega), cm_dn hr c2 (by omega)]
        refine h1 _ _ ?_ (ndn r hr c2)
        unfold dn; split <;> split <;> omega
  · rw [cm_n] at hq
    have d := hs.sc hw
    by_cases c1 : q = at_
    · subst c1
      rw [cm_at hat (by omega)] at tb
      have t2 : S.testBit w = true := tb
      rw [cm_at hat (by omega), cm_at hat (by omega), nb_at hw (by omega), nv_ok hC hw t2 hj]
      obtain ⟨-, g2, g3, g4⟩ := bq_cast hF (by omega) (hasC_of hC hw t2) hj
      refine ⟨?_, (free_in hs g2).1, fun i hi2 => ?_⟩
      · rw [kr_at sg w hj] at g3; exact g3
      · rw [cm_at hat (by omega), nb_at hw (by omega), nv_ok hC hw t2 (by omega)]
        exact g4 i hi2
    · rw [cm_dn hq c1 (by omega)] at tb
      rw [cm_dn hq c1 (by omega), cm_dn hq c1 (by omega)]
      obtain ⟨g1, g2, g3⟩ := h2 _ (ndn q hq c1) w hw tb j hj
      refine ⟨g1, g2, fun i hi2 => ?_⟩
      rw [cm_dn hq c1 (by omega)]
      exact g3 i hi2
  · rw [cm_n] at hq hr
    by_cases c1 : q = at_
    · subst c1
      have c2 : r ≠ q := fun e => hne2 e.symm
      rw [cm_at hat (by omega), cm_dn hr c2 (by omega)] at ht
      rintro ⟨p1, p2⟩
      rw [inS_cong (fun f hf => cm_dn hr c2 hf) hs] at p2
      exact (free_in hs (inS_new hs hat hF hC p1)).2 _ (ndn r hr c2) ht.symm p2
    · by_cases c2 : r = at_
      · subst c2
        rw [cm_dn hq c1 (by omega), cm_at hat (by omega)] at ht
        rintro ⟨p1, p2⟩
        rw [inS_cong (fun f hf => cm_dn hq c1 hf) hs] at p1
        exact (free_in hs (inS_new hs hat hF hC p2)).2 _ (ndn q hq c1) ht p1
      · rw [cm_dn hq c1 (by omega), cm_dn hr c2 (by omega)] at ht
        rw [inS_cong (fun f hf => cm_dn hq c1 hf) hs, inS_cong (fun f hf => cm_dn hr c2 hf) hs]
        refine h3 _ _ (ndn q hq c1) (ndn r hr c2) (fun e => ?_) ht p
        unfold dn at e; split at e <;> split at e <;> omega
theorem PGcm {sg pl : Nat → Nat} (hs : SB sg) (h : PG sg pl) {t ha S c : Nat} (hn : pl 0 < 20) (ht : t < 3 * sg 0) (hha : ha < sg 1) (hc : c ≤ 1) (hS : S < 2 ^ sg 3) (hne : ∀ s, s < pl 0 → ¬ (oS pl s 0 = t ∧ oS pl s 1 = ha)) (hC : hasC sg S (free sg pl t) = true) : PG sg (cm sg pl (psn pl ha t) t ha S c (free sg pl t)) :=
  ⟨PBcm hs h.1 hn (fi_le _ _) ht hha hc hS (free_lt hs t) hC, PVcm hs h.2 hne hC⟩
/-- a service without reasons against it -/
theorem why0 {sg pl : Nat → Nat} {ha t S c : Nat} (h : whyN sg pl ha t S c = 0) (hp : PB sg pl) : pl 0 < 20 ∧ (∀ s, s < pl 0 → ¬ (oS pl s 0 = t ∧ oS pl s 1 = ha)) ∧ hasC sg S (free sg pl t) = true := by
  have n := hp.n
  unfold whyN at h
  split at h
  · omega
  · split at h
    · omega
    · split at h
      · omega
      · rename_i c1 c2 c3
        split at h
        · omega
        · split at h
          · rename_i c4 c5
            refine ⟨by omega, fun s h1 h2 => ?_, c5⟩
            have c6 : hFree pl ha t (sg (6 + ha)) = true := by
              by_cases z : hFree pl ha t (sg (6 + ha)) = true
              · exact z
              · exact absurd z c3
            have c7 := nd_f ((al_iff _ _).mp c6 s h1)
            refine c7 ⟨h2.2, ?_⟩
            unfold dst
            rw [h2.1, if_neg (Nat.lt_irrefl _)]
            omega
          · omega
theorem lx_ne {a b c d : Nat} (h : lx a b c d) : ¬ (a = c ∧ b = d) := by unfold lx at h; omega
/-- a service that is taken off can come again, at its place -/
theorem again {sg pl : Nat → Nat} (hs : SB sg) (h : PG sg pl) {s : Nat} (hsn : s < pl 0) : (∀ q, q < off pl s 0 → ¬ (oS (off pl s) q 0 = oS pl s 0 ∧ oS (off pl s) q 1 = oS pl s 1)) ∧ hasC sg (oS pl s 3) (free sg (off pl s) (oS pl s 0)) = true ∧ psn (off pl s) (oS pl s 1) (oS pl s 0) = s := by
  have b := hs.b
  obtain ⟨hp, h1, h2, h3⟩ := h
  have ne : ∀ q, q < off pl s 0 → ¬ (oS (off pl s) q 0 = oS pl s 0 ∧ oS (off pl s) q 1 = oS pl s 1) := fun q hq => by
    rw [off_n] at hq
    rw [off_up hq (by omega), off_up hq (by omega)]
    rcases Nat.lt_or_gt_of_ne (up_ne s q) with c | c
    · exact lx_ne (h1 _ _ c hsn)
    · intro e
      exact lx_ne (h1 _ _ c (up_lt hq)) ⟨e.1.symm, e.2.symm⟩
  refine ⟨ne, ?_, ?_⟩
  · refine (al_iff _ _).mpr fun w hw => ndf fun z => z.2 ?_
    have d := hs.sc hw
    refine dm_has (oW sg w 4) _ (fun j => oS pl s (4 + 6 * w + j)) (free_lt hs _) (by omega) fun j hj => ?_
    obtain ⟨g1, g2, g3⟩ := h2 s hsn w hw z.1 j hj
    refine ⟨hp.c hsn hw z.1 hj, ?_, by rw [kr_at sg w hj]; exact g1, g3⟩
    have e : free sg (off pl s) (oS pl s 0) = rm (pres sg (oS pl s 0 / 3)) (atS sg (off pl s) (oS pl s 0)) := rfl
    rw [e, rm_tb (pres_lt hs _), g2]
    cases q : (atS sg (off pl s) (oS pl s 0)).testBit (oS pl s (4 + 6 * w + j))
    · rfl
    · obtain ⟨r, r1, r2, r3⟩ := (tb_at (fun q => oS (off pl s) q 0 = oS pl s 0) (inS sg (off pl s)) _ _).mp q
      rw [off_n] at r1
      rw [off_up r1 (by omega)] at r2
      rw [inS_cong (fun f hf => off_up r1 hf) hs] at r3
      exact absurd ⟨r3, (tb_inS _ _ _ _).mpr ⟨w, hw, z.1, j, hj, rfl⟩⟩ (h3 _ _ (up_lt r1) hsn (up_ne s r) r2 _)
  · unfold psn
    rw [off_n]
    have lt : ∀ q, q < s → lx (oS (off pl s) q 0) (oS (off pl s) q 1) (oS pl s 0) (oS pl s 1) := fun q hq => by
      rw [off_up (by omega) (by omega), off_up (by omega) (by omega)]
      unfold up
      rw [if_pos hq]
      exact h1 q s hq hsn
    by_cases c : s < pl 0 - 1
    · refine fi_eq c ?_ fun q hq => ndt (lt q hq)
      refine ndf fun z => ?_
      rw [off_up c (by omega), off_up c (by omega)] at z
      unfold up at z
      rw [if_neg (by omega)] at z
      have := h1 s (s + 1) (by omega) (by omega)
      unfold lx at this
      omega
    · have l := fi_le (fun q => !decide (oS (off pl s) q 0 < oS pl s 0 ∨ (oS (off pl s) q 0 = oS pl s 0 ∧ oS (off pl s) q 1 < oS pl s 1))) (pl 0 - 1)
      by_cases e : fi (fun q => !decide (oS (off pl s) q 0 < oS pl s 0 ∨ (oS (off pl s) q 0 = oS pl s 0 ∧ oS (off pl s) q 1 < oS pl s 1))) (pl 0 - 1) < pl 0 - 1
      · have y := fi_yes (fun q => !decide (oS (off pl s) q 0 < oS pl s 0 ∨ (oS (off pl s) q 0 = oS pl s 0 ∧ oS (off pl s) q 1 < oS pl s 1))) (pl 0 - 1) e
        exact absurd (lt _ (by omega)) (fun z => (nd_f y) z)
      · omega
