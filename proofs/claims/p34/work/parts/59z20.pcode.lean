/-! PARSE: the codes and places of faults -/
def EOK {α : Type} (L : Nat) (r : Sum (Nat × Nat) α) : Prop := ∀ c q, r = Sum.inl (c, q) → 1 ≤ c ∧ c ≤ 5 ∧ q ≤ L
theorem eok_l {α : Type} {L c q : Nat} (h1 : 1 ≤ c) (h2 : c ≤ 5) (h3 : q ≤ L) : EOK L (Sum.inl (c, q) : Sum (Nat × Nat) α) := fun c2 q2 e => by cases e; exact ⟨h1, h2, h3⟩
theorem eok_r {α : Type} {L : Nat} {s : α} : EOK L (Sum.inr s : Sum (Nat × Nat) α) := fun c q e => by cases e
theorem eok_i {α : Type} {L : Nat} {c : Prop} [Decidable c] {a b : Sum (Nat × Nat) α} (h1 : c → EOK L a) (h2 : ¬ c → EOK L b) : EOK L (if c then a else b) := by
  by_cases h : c
  · rw [if_pos h]; exact h1 h
  · rw [if_neg h]; exact h2 h
theorem nerr_b {L : Nat} {bf : Nat → Int32} {p lo hi : Nat} (h : ¬ nerr L bf p lo hi = 0) : 1 ≤ nerr L bf p lo hi ∧ nerr L bf p lo hi ≤ 5 := by
  refine ⟨by omega, ?_⟩
  unfold nerr
  by_cases c : tK L bf p = 2
  · rw [if_pos c]
    by_cases d : lo ≤ tV L bf p ∧ tV L bf p ≤ hi
    · rw [if_pos d]; omega
    · rw [if_neg d]; omega
  · rw [if_neg c]; omega
theorem nmErr_b {L : Nat} {bf : Nat → Int32} {p n N : Nat} {nf : Nat → List Nat} {c q : Nat} (hp : p ≤ L) (h : nmErr L bf p n N nf = some (c, q)) : 1 ≤ c ∧ c ≤ 5 ∧ q ≤ L := by
  have a := tS_le L bf hp
  have b := tS_le L bf (tN_le L bf hp)
  unfold nmErr at h
  by_cases c0 : n = N
  · rw [if_pos c0] at h; cases h; exact ⟨by omega, by omega, a⟩
  · rw [if_neg c0] at h
    by_cases c1 : tK L bf (tN L bf p) = 1
    · rw [if_pos c1] at h
      by_cases c2 : nin nf n (tW L bf (tN L bf p)) < n
      · rw [if_pos c2] at h; cases h; exact ⟨by omega, by omega, b⟩
      · rw [if_neg c2] at h; cases h
    · rw [if_neg c1] at h; cases h; exact ⟨by omega, by omega, b⟩
section PEC
variable {L p : Nat} {bf : Nat → Int32} {sg ct : Nat → Nat} {nm : Nat → List Nat} {dt : Bool}
theorem daysL_e (hp : p ≤ L) : EOK L (daysL L bf p) := by
  have h1 := tN_le L bf hp
  have h2 := tN_le L bf h1
  unfold daysL
  refine eok_i (fun _ => eok_i (fun _ => eok_i (fun _ => eok_r) fun _ => eok_l (by omega) (by omega) (tS_le L bf h2)) fun n => eok_l (nerr_b n).1 (nerr_b n).2 (tS_le L bf h1)) fun _ => eok_l (by omega) (by omega) (tS_le L bf hp)
theorem hallL_e (hp : p ≤ L) : EOK L (hallL L bf (p, sg, nm, ct, dt)) := by
  have h1 := tN_le L bf hp
  have h2 := tN_le L bf h1
  obtain ⟨o, ho⟩ : ∃ o, nmErr L bf p (sg 1) 3 nm = o := ⟨_, rfl⟩
  unfold hallL
  dsimp only
  rw [ho]
  match o, ho with
  | some (c, q), ho => exact fun c2 q2 e => by cases e; exact nmErr_b hp ho
  | none, ho => exact eok_i (fun _ => eok_r) fun n => eok_l (nerr_b n).1 (nerr_b n).2 (tS_le L bf h2)
theorem doubleL_e (hp : p ≤ L) : EOK L (doubleL L bf (p, sg, nm, ct, dt)) := by
  have h1 := tN_le L bf hp
  unfold doubleL
  exact eok_i (fun _ => eok_l (by omega) (by omega) (tS_le L bf hp)) fun _ => eok_i (fun _ => eok_r) fun n => eok_l (nerr_b n).1 (nerr_b n).2 (tS_le L bf h1)
theorem absentL_e (hp : p ≤ L) : EOK L (absentL L bf (p, sg, nm, ct, dt)) := by
  have h1 := tN_le L bf hp
  have h2 := tN_le L bf h1
  unfold absentL
  exact eok_i (fun _ => eok_i (fun _ => eok_i (fun _ => eok_i (fun _ => eok_l (by omega) (by omega) (tS_le L bf h2)) fun _ => eok_r) fun n => eok_l (nerr_b n).1 (nerr_b n).2 (tS_le L bf h2)) fun _ => eok_l (by omega) (by omega) (tS_le L bf h1)) fun _ => eok_l (by omega) (by omega) (tS_le L bf h1)
theorem instL_e {n : Nat} (hp : p ≤ L) : EOK L (instL L bf n (p, sg, nm, ct, dt)) := by
  unfold instL
  exact eok_i (fun _ => eok_i (fun _ => eok_l (by omega) (by omega) (tS_le L bf hp)) fun _ => eok_i (fun _ => eok_l (by omega) (by omega) (tS_le L bf hp)) fun _ => eok_r) fun _ => eok_l (by omega) (by omega) (tS_le L bf hp)
theorem instsL_e {n : Nat} : ∀ (f : Nat) (s : PS), s.1 ≤ L → EOK L (instsL L bf n f s) := by
  intro f
  induction f with
  | zero => intro s h; exact eok_l (by omega) (by omega) (Nat.zero_le _)
  | succ f ih =>
    intro s h
    obtain ⟨p, sg, nm, ct, dt⟩ := s
    have e := instL_e (n := n) (bf := bf) (sg := sg) (nm := nm) (ct := ct) (dt := dt) h
    obtain ⟨r, hr⟩ : ∃ r, instL L bf n (p, sg, nm, ct, dt) = r := ⟨_, rfl⟩
    simp only [instsL]
    rw [hr] at e ⊢
    match r, hr, e with
    | Sum.inl (c, q), hr, e => exact fun c2 q2 k => by cases k; exact e c q rfl
    | Sum.inr s3, hr, e =>
      refine eok_i (fun _ => ih s3 ?_) fun _ => eok_r
      rw [(instL_in hr).2.2.2]
      exact tN_le L bf h
theorem seatL_e {w : Nat} (hp : p ≤ L) : EOK L (seatL L bf w (p, sg, nm, ct, dt)) := by
  unfold seatL
  exact eok_i (fun _ => eok_i (fun _ => eok_i (fun _ => eok_l (by omega) (by omega) (tS_le L bf hp)) fun _ => eok_r) fun _ => eok_l (by omega) (by omega) (tS_le L bf hp)) fun _ => eok_l (by omega) (by omega) (tS_le L bf hp)
theorem seatsL_e {w : Nat} : ∀ (f : Nat) (s : PS), s.1 ≤ L → EOK L (seatsL L bf w f s) := by
  intro f
  induction f with
  | zero => intro s h; exact eok_l (by omega) (by omega) (Nat.zero_le _)
  | succ f ih =>
    intro s h
    obtain ⟨p, sg, nm, ct, dt⟩ := s
    have e := seatL_e (w := w) (bf := bf) (sg := sg) (nm := nm) (ct := ct) (dt := dt) h
    obtain ⟨r, hr⟩ : ∃ r, seatL L bf w (p, sg, nm, ct, dt) = r := ⟨_, rfl⟩
    simp only [seatsL]
    rw [hr] at e ⊢
    match r, hr, e with
    | Sum.inl (c, q), hr, e => exact fun c2 q2 k => by cases k; exact e c q rfl
    | Sum.inr s3, hr, e =>
      refine eok_i (fun _ => ih s3 ?_) fun _ => eok_r
      rw [(seatL_in hr).2.2.2]
      exact tN_le L bf h
theorem playerL_e (hp : p ≤ L) : EOK L (playerL L bf (p, sg, nm, ct, dt)) := by
  have h1 := tN_le L bf hp
  have h2 := tN_le L bf h1
  have h3 := tN_le L bf h2
  obtain ⟨o, ho⟩ : ∃ o, nmErr L bf p (sg 2) 8 (fun k => nm (8 + k)) = o := ⟨_, rfl⟩
  unfold playerL
  dsimp only
  rw [ho]
  match o, ho with
  | some (c, q), ho => exact fun c2 q2 e => by cases e; exact nmErr_b hp ho
  | none, ho => exact eok_i (fun _ => eok_i (fun _ => instsL_e 5 _ (tN_le L bf h3)) fun n => eok_l (nerr_b n).1 (nerr_b n).2 (tS_le L bf h3)) fun n => eok_l (nerr_b n).1 (nerr_b n).2 (tS_le L bf h2)
theorem workL_e (hp : p ≤ L) : EOK L (workL L bf (p, sg, nm, ct, dt)) := by
  have h1 := tN_le L bf hp
  have h2 := tN_le L bf h1
  have h3 := tN_le L bf h2
  have h4 := tN_le L bf h3
  have h5 := tN_le L bf h4
  obtain ⟨o, ho⟩ : ∃ o, nmErr L bf p (sg 3) 5 (fun k => nm (16 + k)) = o := ⟨_, rfl⟩
  unfold workL
  dsimp only
  rw [ho]
  match o, ho with
  | some (c, q), ho => exact fun c2 q2 e => by cases e; exact nmErr_b hp ho
  | none, ho =>
    dsimp only
    unfold workN
    exact eok_i (fun _ => eok_i (fun _ => eok_i (fun _ => eok_i (fun _ => seatsL_e 7 _ (tN_le L bf h5)) fun n => eok_l (nerr_b n).1 (nerr_b n).2 (tS_le L bf h5)) fun n => eok_l (nerr_b n).1 (nerr_b n).2 (tS_le L bf h4)) fun n => eok_l (nerr_b n).1 (nerr_b n).2 (tS_le L bf h3)) fun n => eok_l (nerr_b n).1 (nerr_b n).2 (tS_le L bf h2)
theorem stmtL_e (hp : p ≤ L) : EOK L (stmtL L bf (p, sg, nm, ct, dt)) := by
  unfold stmtL
  exact eok_i (fun _ => hallL_e hp) fun _ => eok_i (fun _ => playerL_e hp) fun _ => eok_i (fun _ => absentL_e hp) fun _ => eok_i (fun _ => workL_e hp) fun _ => eok_i (fun _ => doubleL_e hp) fun _ => eok_l (by omega) (by omega) (tS_le L bf hp)
theorem stmtsL_e (hby : ∀ i, i < L → (bf i).toInt8.toInt32 = bf i) : ∀ (f : Nat) (s : PS), PSok s L → EOK L (stmtsL L bf f s) := by
  intro f
  induction f with
  | zero => intro s h; exact eok_l (by omega) (by omega) (Nat.zero_le _)
  | succ f ih =>
    intro s h
    obtain ⟨p, sg, nm, ct, dt⟩ := s
    have hp := h.1
    have e := stmtL_e (bf := bf) (sg := sg) (nm := nm) (ct := ct) (dt := dt) hp
    obtain ⟨r, hr⟩ : ∃ r, stmtL L bf (p, sg, nm, ct, dt) = r := ⟨_, rfl⟩
    simp only [stmtsL]
    refine eok_i (fun _ => eok_r) fun _ => ?_
    rw [hr] at e ⊢
    match r, hr, e with
    | Sum.inl (c, q), hr, e => exact fun c2 q2 k => by cases k; exact e c q rfl
    | Sum.inr s3, hr, e =>
      have o3 := (stmtL_ok hby h hr).1
      obtain ⟨p3, sg3, nm3, ct3, dt3⟩ := s3
      exact eok_i (fun _ => ih _ (o3.adv (tN_le L bf o3.1))) fun _ => eok_l (by omega) (by omega) (tS_le L bf o3.1)
/-- what days alone tell -/
def sgi (d : Nat) : Nat → Nat := fun k => if k = 0 then d else 0
/-- a whole text -/
def parseL (L : Nat) (bf : Nat → Int32) : Sum (Nat × Nat) PS := match daysL L bf 0 with
  | Sum.inl e => Sum.inl e
  | Sum.inr (q, d) => stmtsL L bf (L + 1) (q, sgi d, fun _ => [], fun _ => 0, false)
theorem sgi_o (d : Nat) {k : Nat} (h : k ≠ 0) : sgi d k = 0 := if_neg h
theorem sgi_ok {q d : Nat} (h : daysL L bf 0 = Sum.inr (q, d)) : PSok (q, sgi d, fun _ => [], fun _ => 0, false) L := by
  have a0 : (0 : Nat) ≤ L := Nat.zero_le _
  have a1 := tN_le L bf a0
  have a2 := tN_le L bf a1
  have a3 := tN_le L bf a2
  unfold daysL at h
  by_cases c1 : isw L bf 0 0 = true
  · rw [if_pos c1] at h
    by_cases c2 : nerr L bf (tN L bf 0) 1 30 = 0
    · rw [if_pos c2] at h
      by_cases c3 : tK L bf (tN L bf (tN L bf 0)) = 3
      · rw [if_pos c3] at h
        cases h
        have n := nerr0 c2
        have z : ∀ k, k ≠ 0 → sgi (tV L bf (tN L bf 0)) k = 0 := fun k hk => sgi_o _ hk
        have z0 : sgi (tV L bf (tN L bf 0)) 0 = tV L bf (tN L bf 0) := if_pos rfl
        have z1 := z 1 (by omega)
        have z2 := z 2 (by omega)
        have z3 := z 3 (by omega)
        have z4 := z 4 (by omega)
        refine ⟨a3, ⟨⟨by omega, by omega, by omega, by omega, by omega, by omega⟩, fun k => ?_, fun w hw => by omega, fun q hq => by omega⟩, fun k hk => by omega, fun k hk => by omega, fun k hk => by omega, fun k hk => by omega, fun k hk => by omega, fun k h1 h2 => ⟨z _ (by omega), z _ (by omega)⟩, fun w h1 h2 => z _ (by omega)⟩
        by_cases e : k = 0
        · rw [e, z0]; omega
        · rw [z k e]; omega
      · rw [if_neg c3] at h; cases h
    · rw [if_neg c2] at h; cases h
  · rw [if_neg c1] at h; cases h
theorem parseL_e (hby : ∀ i, i < L → (bf i).toInt8.toInt32 = bf i) : EOK L (parseL L bf) := by
  have e := daysL_e (L := L) (bf := bf) (p := 0) (Nat.zero_le _)
  obtain ⟨r, hr⟩ : ∃ r, daysL L bf 0 = r := ⟨_, rfl⟩
  unfold parseL
  rw [hr] at e ⊢
  match r, hr, e with
  | Sum.inl (c, q), hr, e => exact fun c2 q2 k => by cases k; exact e c q rfl
  | Sum.inr (q, d), hr, e => exact stmtsL_e hby _ _ (sgi_ok hr)
theorem parseL_ok (hby : ∀ i, i < L → (bf i).toInt8.toInt32 = bf i) {s2 : PS} (h : parseL L bf = Sum.inr s2) : PSok s2 L := by
  obtain ⟨r, hr⟩ : ∃ r, daysL L bf 0 = r := ⟨_, rfl⟩
  unfold parseL at h
  rw [hr] at h
  match r, hr, h with
  | Sum.inl e, hr, h => cases h
  | Sum.inr (q, d), hr, h => exact stmtsL_ok hby _ _ _ (sgi_ok hr) h
end PEC
