/-! ALL CASTS, purely: the last player first; the last one that is no worse stays: it is the class's -/
def fd {σ : Type} (g : Nat → σ → σ) : Nat → σ → σ
  | 0, a => a
  | n + 1, a => fd g n (g n a)
def pfu (f : Nat → Nat) (i v : Nat) : Nat → Nat := fun j => if j = i then v else f j
theorem pfu_at (f : Nat → Nat) (i v : Nat) : pfu f i v i = v := if_pos rfl
theorem pfu_lt (f : Nat → Nat) {i j : Nat} (v : Nat) (h : j < i) : pfu f i v j = f j := if_neg (by omega)
def okA (sg : Nat → Nat) (w F : Nat) (f : Nat → Nat) (i p : Nat) : Bool := ((kinds sg p).testBit (oW sg w (5 + i)) && F.testBit p) && al (fun k => !decide (f k = p)) i
abbrev AS : Type := Option (Nat → Nat) × Nat
def alP (sg : Nat → Nat) (w F : Nat) : Nat → (Nat → Nat) → AS → AS
  | 0, f, a => if a.1.isSome = true ∧ a.2 < dbl sg w f (oW sg w 4) then a else (some f, dbl sg w f (oW sg w 4))
  | r + 1, f, a => fd (fun p a => if okA sg w F f (oW sg w 4 - (r + 1)) p = true then alP sg w F r (pfu f (oW sg w 4 - (r + 1)) p) a else a) (sg 2) a
/-- the number of casts of the last r seats from F -/
def nc (sg : Nat → Nat) (w : Nat) : Nat → Nat → Nat
  | 0, _ => 1
  | r + 1, F => su (fun p => if F.testBit p = true ∧ (kinds sg p).testBit (kr sg w r) = true then nc sg w r (rm F (2 ^ p)) else 0) (sg 2)
theorem dbl_s (sg : Nat → Nat) (w : Nat) (f : Nat → Nat) (n : Nat) : dbl sg w f (n + 1) = dbl sg w f n + dbo sg (f n) (oW sg w (5 + n)) := rfl
theorem dbl_ext {sg : Nat → Nat} {w : Nat} {f g : Nat → Nat} {n : Nat} (h : ∀ j, j < n → f j = g j) : dbl sg w f n = dbl sg w g n := fo_ext (fun j s hj => by rw [h j hj]) 0 n (Nat.le_refl n)
/-- what is left of F behind the first i of f -/
def FLf (F : Nat) (f : Nat → Nat) (i F2 : Nat) : Prop := F2 < 256 ∧ ∀ p, F2.testBit p = true ↔ F.testBit p = true ∧ ∀ k, k < i → f k ≠ p
theorem FLf_0 {F : Nat} (f : Nat → Nat) (h : F < 256) : FLf F f 0 F := ⟨h, fun p => ⟨fun q => ⟨q, fun k hk => absurd hk (Nat.not_lt_zero k)⟩, fun q => q.1⟩⟩
theorem FLf_s {F F2 i : Nat} {f : Nat → Nat} (p : Nat) (h : FLf F f i F2) : FLf F (pfu f i p) (i + 1) (rm F2 (2 ^ p)) := by
  refine ⟨rm_lt h.1, fun q => ?_⟩
  rw [rm_tb h.1, Bool.and_eq_true, h.2 q, Nat.testBit_two_pow, Bool.not_eq_true', decide_eq_false_iff_not]
  constructor
  · rintro ⟨⟨a, b⟩, c⟩
    refine ⟨a, fun k hk => ?_⟩
    by_cases e : k = i
    · rw [e, pfu_at]; exact c
    · rw [pfu_lt f p (show k < i by omega)]; exact b k (by omega)
  · rintro ⟨a, b⟩
    refine ⟨⟨a, fun k hk => ?_⟩, ?_⟩
    · have := b k (by omega)
      rw [pfu_lt f p hk] at this; exact this
    · have := b i (by omega)
      rw [pfu_at] at this; exact this
theorem okA_el {sg : Nat → Nat} {w F F2 r : Nat} {f : Nat → Nat} (h : FLf F f (oW sg w 4 - (r + 1)) F2) (p : Nat) : okA sg w F f (oW sg w 4 - (r + 1)) p = true ↔ (F2.testBit p = true ∧ (kinds sg p).testBit (kr sg w r) = true) := by
  unfold okA
  rw [Bool.and_eq_true, Bool.and_eq_true, al_iff, h.2 p]
  constructor
  · rintro ⟨⟨a, b⟩, c⟩
    exact ⟨⟨b, fun k hk => nd_f (c k hk)⟩, a⟩
  · rintro ⟨⟨a, b⟩, c⟩
    exact ⟨⟨c, a⟩, fun k hk => ndf (b k hk)⟩
/-- the best of what was looked through: nothing new, or the class's -/
def BA (sg : Nat → Nat) (w i d : Nat) (f h : Nat → Nat) (r : Nat) (a a2 : AS) : Prop := if 100 ≤ d then a2 = a else if a.1.isSome = true ∧ a.2 < dbl sg w f i + d then a2 = a else a2.2 = dbl sg w f i + d ∧ ∃ g, a2.1 = some g ∧ (∀ j, j < i → g j = f j) ∧ ∀ j, j < r → g (i + j) = h j
theorem alP_ba {sg : Nat → Nat} {w F : Nat} : ∀ r f a F2, r ≤ oW sg w 4 → r ≤ 90 → FLf F f (oW sg w 4 - r) F2 → BA sg w (oW sg w 4 - r) (dm sg w r F2) f (bq sg w r F2) r a (alP sg w F r f a)
  | 0, f, a, F2, _, _, _ => by
    unfold BA
    rw [dm, if_neg (by omega), alP, Nat.sub_zero, Nat.add_zero]
    split
    · rfl
    · exact ⟨rfl, f, rfl, fun _ _ => rfl, fun j hj => absurd hj (Nat.not_lt_zero j)⟩
  | r + 1, f, a, F2, hr, h90, hF => by
    have e1 : oW sg w 4 - (r + 1) + 1 = oW sg w 4 - r := by omega
    have key : ∀ n a, BA sg w (oW sg w 4 - (r + 1)) (dk sg w r F2 n) f (fun j => if j = 0 then ak sg w r F2 n else bq sg w r (rm F2 (2 ^ ak sg w r F2 n)) (j - 1)) (r + 1) a (fd (fun p a => if okA sg w F f (oW sg w 4 - (r + 1)) p = true then alP sg w F r (pfu f (oW sg w 4 - (r + 1)) p) a else a) n a) := by
      intro n
      induction n with
      | zero =>
        intro a
        unfold BA
        rw [dk_0, if_pos (by omega)]; rfl
      | succ n ih =>
        intro a
        have lk := dk_le sg w r F2 n
        show BA sg w _ _ f _ _ a (fd _ n (if okA sg w F f (oW sg w 4 - (r + 1)) n = true then alP sg w F r (pfu f (oW sg w 4 - (r + 1)) n) a else a))
        by_cases ok : okA sg w F f (oW sg w 4 - (r + 1)) n = true
        · rw [if_pos ok]
          have el := (okA_el hF n).mp ok
          have hF3 := FLf_s n hF
          rw [e1] at hF3
          have b1 := alP_ba r (pfu f (oW sg w 4 - (r + 1)) n) a (rm F2 (2 ^ n)) (by omega) (by omega) hF3
          have b2 := ih (alP sg w F r (pfu f (oW sg w 4 - (r + 1)) n) a)
          have co_ : co sg w r F2 n = dbo sg n (kr sg w r) + dm sg w r (rm F2 (2 ^ n)) := rfl
          have l1 := dm_01 sg w r (rm F2 (2 ^ n)) (by omega)
          have l2 := dbo_le sg n (kr sg w r)
          have d1 : dbl sg w (pfu f (oW sg w 4 - (r + 1)) n) (oW sg w 4 - r) = dbl sg w f (oW sg w 4 - (r + 1)) + dbo sg n (kr sg w r) := by
            rw [← e1, dbl_s, pfu_at, dbl_ext (fun j hj => pfu_lt f n hj)]
            rfl
          rw [← e1] at b1
          rw [← e1] at d1
          generalize hA : alP sg w F r (pfu f (oW sg w 4 - (r + 1)) n) a = a1 at b1 b2
          by_cases c : co sg w r F2 n < dk sg w r F2 n
          · obtain ⟨k1, k2⟩ := ak_new el c
            unfold BA at b1 b2 ⊢
            rw [k1, k2, if_neg (by omega)]
            rw [d1, if_neg (by omega)] at b1
            have z : fd (fun p a => if okA sg w F f (oW sg w 4 - (r + 1)) p = true then alP sg w F r (pfu f (oW sg w 4 - (r + 1)) p) a else a) n a1 = a1 := by
              by_cases q : 100 ≤ dk sg w r F2 n
              · rw [if_pos q] at b2; exact b2
              · rw [if_neg q] at b2
                have y : a1.1.isSome = true ∧ a1.2 < dbl sg w f (oW sg w 4 - (r + 1)) + dk sg w r F2 n := by
                  split at b1
                  · rename_i q2
                    rw [b1]; exact ⟨q2.1, by omega⟩
                  · obtain ⟨y1, g, y2, -⟩ := b1
                    rw [y2, y1]; exact ⟨rfl, by omega⟩
                rw [if_pos y] at b2; exact b2
            rw [z]
            by_cases q : a.1.isSome = true ∧ a.2 < dbl sg w f (oW sg w 4 - (r + 1)) + co sg w r F2 n
            · rw [if_pos q]
              rw [if_pos ⟨q.1, by omega⟩] at b1
              exact b1
            · rw [if_neg q]
              rw [if_neg (fun y => q ⟨y.1, by omega⟩)] at b1
              obtain ⟨y1, g, y2, y3, y4⟩ := b1
              refine ⟨by omega, g, y2, fun j hj => by rw [y3 j (by omega), pfu_lt f n hj], fun j hj => ?_⟩
              by_cases j0 : j = 0
              · subst j0
                rw [Nat.add_zero, y3 _ (by omega), pfu_at]; exact (if_pos rfl).symm
              · refine Eq.trans ?_ (if_neg j0).symm
                rw [← y4 (j - 1) (by omega)]
                congr 1; omega
          · obtain ⟨k1, k2⟩ := ak_old (sg := sg) (w := w) (r := r) (F := F2) (k := n) fun q => c q.2
            unfold BA at b1 b2 ⊢
            rw [k1]
            rw [d1] at b1
            by_cases q : 100 ≤ dk sg w r F2 n
            · rw [if_pos q] at b2 ⊢
              rw [if_pos (by omega)] at b1
              rw [b2, b1]
            · rw [if_neg q] at b2 ⊢
              rw [k2 (by omega)]
              by_cases p100 : 100 ≤ dm sg w r (rm F2 (2 ^ n))
              · rw [if_pos p100] at b1
                rw [b1] at b2 ⊢
                exact b2
              · rw [if_neg p100] at b1
                by_cases y : a.1.isSome = true ∧ a.2 < dbl sg w f (oW sg w 4 - (r + 1)) + dbo sg n (kr sg w r) + dm sg w r (rm F2 (2 ^ n))
                · rw [if_pos y] at b1
                  rw [b1] at b2 ⊢
                  exact b2
                · rw [if_neg y] at b1
                  obtain ⟨y1, g, y2, -⟩ := b1
                  rw [if_neg (fun z => by omega)] at b2
                  rw [if_neg (fun z => y ⟨z.1, by omega⟩)]
                  exact b2
        · rw [if_neg ok]
          have ne : ¬ ((F2.testBit n = true ∧ (kinds sg n).testBit (kr sg w r) = true) ∧ co sg w r F2 n < dk sg w r F2 n) := fun q => ok ((okA_el hF n).mpr q.1)
          obtain ⟨k1, k2⟩ := ak_old ne
          have b2 := ih a
          unfold BA at b2 ⊢
          rw [k1]
          by_cases q : 100 ≤ dk sg w r F2 n
          · rw [if_pos q] at b2 ⊢; exact b2
          · rw [k2 (by omega)]; exact b2
    have k := key (sg 2) a
    rw [alP, dm_s]
    unfold BA at k ⊢
    by_cases q : 100 ≤ dk sg w r F2 (sg 2)
    · rw [if_pos q] at k ⊢; exact k
    · rw [if_neg q] at k ⊢
      split
      · rename_i y; rw [if_pos y] at k; exact k
      · rename_i y
        rw [if_neg y] at k
        obtain ⟨k1, g, k2, k3, k4⟩ := k
        refine ⟨k1, g, k2, k3, fun j hj => ?_⟩
        rw [k4 j hj]
        cases j with
        | zero => exact if_pos rfl
        | succ j => rw [bq_s]; exact if_neg (by omega)
/-- a search: none, or the class's cast -/
theorem alP_all {sg : Nat → Nat} {w F : Nat} (hF : F < 256) (h90 : oW sg w 4 ≤ 90) (f : Nat → Nat) (l : Nat) : (100 ≤ dm sg w (oW sg w 4) F → (alP sg w F (oW sg w 4) f (none, l)).1 = none) ∧ (dm sg w (oW sg w 4) F < 100 → (alP sg w F (oW sg w 4) f (none, l)).2 = dm sg w (oW sg w 4) F ∧ ∃ g, (alP sg w F (oW sg w 4) f (none, l)).1 = some g ∧ ∀ j, j < oW sg w 4 → g j = bq sg w (oW sg w 4) F j) := by
  have h0 : oW sg w 4 - oW sg w 4 = 0 := Nat.sub_self _
  have b := alP_ba (oW sg w 4) f (none, l) F (Nat.le_refl _) h90 (by rw [h0]; exact FLf_0 f hF)
  unfold BA at b
  rw [h0] at b
  have d0 : dbl sg w f 0 = 0 := rfl
  constructor
  · intro q
    rw [if_pos q] at b
    rw [b]
  · intro q
    rw [if_neg (by omega), if_neg (fun z => by cases z.1), d0, Nat.zero_add] at b
    obtain ⟨b1, g, b2, -, b4⟩ := b
    exact ⟨b1, g, b2, fun j hj => by rw [← b4 j hj, Nat.zero_add]⟩
