/-! THE ROOM: the players of a class, level by level, equal states put together -/
section DAG
def fzA {α : Type} (x : Nat) (f : Nat → α) : α := Nat.rec (motive := fun _ => α) (f 0) (fun k _ => f (Nat.succ k)) x
theorem fzA_e {α : Type} (x : Nat) (f : Nat → α) : fzA x f = f x := by cases x <;> rfl
def cdQ (kc N j v1 v2 : Nat) : Nat := Nat.add v1 (Nat.add (Nat.mul 4 v2) (Nat.add (Nat.mul 16 kc) (Nat.add (Nat.mul 128 N) (Nat.mul 524288 j))))
def b3 (f : Nat → List Nat → List Nat) (l : List Nat) : List Nat := f 0 (f 1 (f 2 l))
def s3A (c j kc1 N m v1 o v2 : Nat) (acc : List Nat) : List Nat :=
  bif Nat.beq o m then fzA (cdQ kc1 (Nat.add N (Nat.pow 8 m)) (Nat.add j 4) v1 v2) fun q => q :: acc
  else bif Nat.beq (db c (Nat.add j 5) 2) 0 then fzA (cdQ (kdr kc1 o) (Nat.add (Nat.add N (Nat.pow 8 m)) (Nat.pow 8 o)) (Nat.add j 5) v1 v2) fun q => q :: acc
  else fzA (cdQ kc1 (Nat.add N (Nat.pow 8 m)) (Nat.add j 5) v1 v2) fun q => q :: acc
def s2A (c j kc N m v1 : Nat) (acc : List Nat) : List Nat := fzA (kdr kc m) fun kc1 => bif Nat.beq kc1 2 then b3 (fun v acc => s3A c j kc1 N m v1 v v acc) acc else fzA (db c (Nat.add j 4) (mir kc1)) fun o => s3A c j kc1 N m v1 o 3 acc
def stA (c kc N j : Nat) (acc : List Nat) : List Nat := bif Nat.beq kc 2 then b3 (fun v acc => s2A c j kc N v v acc) acc else fzA (db c (Nat.add j 3) (mir kc)) fun m => s2A c j kc N m 3 acc
section
variable {K : Nat → Bool}
theorem b3_ok {f : Nat → List Nat → List Nat} {g : Nat → Bool} (h : ∀ v l, (∀ x, x ∈ f v l → K x = true) → g v = true ∧ ∀ x, x ∈ l → K x = true) (l : List Nat) (hl : ∀ x, x ∈ b3 f l → K x = true) : a3 g = true ∧ ∀ x, x ∈ l → K x = true := by
  obtain ⟨h0, l0⟩ := h 0 _ hl
  obtain ⟨h1, l1⟩ := h 1 _ l0
  obtain ⟨h2, l2⟩ := h 2 _ l1
  refine ⟨?_, l2⟩
  unfold a3
  rw [h0, h1, h2]; rfl
theorem s3A_ok {c j kc1 N m v1 o v2 : Nat} (acc : List Nat) (h : ∀ x, x ∈ s3A c j kc1 N m v1 o v2 acc → K x = true) : s3 c j kc1 N m v1 (fun a b d e f => K (cdQ a b d e f)) o v2 = true ∧ ∀ x, x ∈ acc → K x = true := by
  unfold s3A at h
  unfold s3
  have one : ∀ q, (∀ x, x ∈ q :: acc → K x = true) → K q = true ∧ ∀ x, x ∈ acc → K x = true := fun q h => ⟨h q List.mem_cons_self, fun x hx => h x (List.mem_cons_of_mem _ hx)⟩
  cases b1 : Nat.beq o m with
  | true =>
    rw [b1, cond_true, fzA_e] at h
    rw [cond_true, fzB_e, fzB_e]
    exact one _ h
  | false =>
    rw [b1, cond_false] at h
    rw [cond_false]
    cases b2 : Nat.beq (db c (Nat.add j 5) 2) 0 with
    | true =>
      rw [b2, cond_true, fzA_e] at h
      rw [cond_true, fzB_e, fzB_e, fzB_e]
      exact one _ h
    | false =>
      rw [b2, cond_false, fzA_e] at h
      rw [cond_false, fzB_e, fzB_e]
      exact one _ h
theorem s2A_ok {c j kc N m v1 : Nat} (acc : List Nat) (h : ∀ x, x ∈ s2A c j kc N m v1 acc → K x = true) : s2 c j kc N (fun a b d e f => K (cdQ a b d e f)) m v1 = true ∧ ∀ x, x ∈ acc → K x = true := by
  unfold s2A at h
  unfold s2
  rw [fzA_e] at h
  rw [fzB_e]
  cases b1 : Nat.beq (kdr kc m) 2 with
  | true =>
    rw [b1, cond_true] at h
    rw [cond_true]
    exact b3_ok (K := K) (f := fun v acc => s3A c j (kdr kc m) N m v1 v v acc) (g := fun v => s3 c j (kdr kc m) N m v1 (fun a b d e f => K (cdQ a b d e f)) v v) (fun v l hl => s3A_ok (K := K) l hl) acc h
  | false =>
    rw [b1, cond_false, fzA_e] at h
    rw [cond_false, fzB_e]
    exact s3A_ok (K := K) acc h
theorem stA_ok {c kc N j : Nat} (acc : List Nat) (h : ∀ x, x ∈ stA c kc N j acc → K x = true) : stp c kc N j (fun a b d e f => K (cdQ a b d e f)) = true := by
  unfold stA at h
  unfold stp
  cases b1 : Nat.beq kc 2 with
  | true =>
    rw [b1, cond_true] at h
    rw [cond_true]
    exact (b3_ok (K := K) (f := fun v acc => s2A c j kc N v v acc) (g := fun v => s2 c j kc N (fun a b d e f => K (cdQ a b d e f)) v v) (fun v l hl => s2A_ok (K := K) l hl) acc h).1
  | false =>
    rw [b1, cond_false, fzA_e] at h
    rw [cond_false, fzB_e]
    exact (s2A_ok (K := K) acc h).1
end
/-- a start's next state is among those told -/
theorem stA_T {T c p kc N j : Nat} (hc : T % 1024 = c) (hs : PSy T p kc N j) (hp : p ≤ 6) : ∃ kc2 N2 j2 v1 v2, cdQ kc2 N2 j2 v1 v2 ∈ stA c kc N j [] ∧ PSy T (p + 1) kc2 N2 j2 ∧ DrV T (j + 3) v1 ∧ DrV T (j + 4) v2 := by
  have h := stA_ok (K := fun x => decide (x ∈ stA c kc N j [])) (c := c) (kc := kc) (N := N) (j := j) [] (fun x hx => decide_eq_true hx)
  obtain ⟨kc2, N2, j2, v1, v2, h1, h2, h3, h4⟩ := stp_ok hc hs hp h
  exact ⟨kc2, N2, j2, v1, v2, of_decide_eq_true h1, h2, h3, h4⟩
abbrev LvT : Type := List (Nat × Nat)
noncomputable def insQ (s m : Nat) (l : LvT) : LvT := List.rec (motive := fun _ => LvT) [(s, m)] (fun x l ih => bif Nat.beq s x.1 then (x.1, Nat.lor x.2 m) :: l else x :: ih) l
theorem insQ_c (s m : Nat) (x : Nat × Nat) (l : LvT) : insQ s m (x :: l) = bif Nat.beq s x.1 then (x.1, x.2 ||| m) :: l else x :: insQ s m l := rfl
def Has (k s : Nat) (l : LvT) : Prop := ∃ m, (s, m) ∈ l ∧ m.testBit k = true
theorem insQ_new {k s m : Nat} (h : m.testBit k = true) : ∀ l, Has k s (insQ s m l)
  | [] => ⟨m, List.mem_cons_self, h⟩
  | x :: l => by
    rw [insQ_c]
    by_cases e : s = x.1
    · rw [beq_t e, cond_true]
      exact ⟨x.2 ||| m, by rw [e]; exact List.mem_cons_self, by rw [Nat.testBit_or, h, Bool.or_true]⟩
    · rw [beq_f e, cond_false]
      obtain ⟨m2, h1, h2⟩ := insQ_new h l
      exact ⟨m2, List.mem_cons_of_mem _ h1, h2⟩
theorem insQ_old {k s m y : Nat} : ∀ l, Has k y l → Has k y (insQ s m l)
  | [], h => by
    obtain ⟨m2, h1, -⟩ := h
    exact absurd h1 List.not_mem_nil
  | x :: l, h => by
    obtain ⟨m2, h1, h2⟩ := h
    rw [insQ_c]
    by_cases e : s = x.1
    · rw [beq_t e, cond_true]
      rcases List.mem_cons.mp h1 with q | q
      · refine ⟨x.2 ||| m, ?_, by rw [Nat.testBit_or, ← q, h2, Bool.true_or]⟩
        rw [← q]; exact List.mem_cons_self
      · exact ⟨m2, List.mem_cons_of_mem _ q, h2⟩
    · rw [beq_f e, cond_false]
      rcases List.mem_cons.mp h1 with q | q
      · exact ⟨m2, by rw [q]; exact List.mem_cons_self, h2⟩
      · obtain ⟨m3, h3, h4⟩ := insQ_old (s := s) (m := m) l ⟨m2, q, h2⟩
        exact ⟨m3, List.mem_cons_of_mem _ h3, h4⟩
/-- a child of a state -/
noncomputable def chQ (lf : Nat → Nat → Nat → Bool) (c n t d j m q : Nat) (acc : LvT) : LvT := fzA (Nat.mod (Nat.div q 16) 8) fun kc2 => fzA (Nat.mod (Nat.div q 128) 4096) fun N2 => fzA (Nat.div q 524288) fun j2 => bif sf lf c d kc2 N2 j2 then acc else bif Nat.beq (am n t (am n t m (Nat.add j 3) (Nat.mod q 4)) (Nat.add j 4) (Nat.mod (Nat.div q 4) 4)) 0 then acc else fzA (Nat.div q 16) fun s => insQ s (am n t (am n t m (Nat.add j 3) (Nat.mod q 4)) (Nat.add j 4) (Nat.mod (Nat.div q 4) 4)) acc
noncomputable def chsQ (lf : Nat → Nat → Nat → Bool) (c n t d j m : Nat) (qs : List Nat) (acc : LvT) : LvT := List.rec (motive := fun _ => LvT) acc (fun q _ ih => chQ lf c n t d j m q ih) qs
noncomputable def stepQ (lf : Nat → Nat → Nat → Bool) (c n t d s m : Nat) (acc : LvT) : LvT := fzA (Nat.mod s 8) fun kc => fzA (Nat.mod (Nat.div s 8) 4096) fun N => fzA (Nat.div s 32768) fun j => chsQ lf c n t d j m (stA c kc N j []) acc
noncomputable def lvlQ (lf : Nat → Nat → Nat → Bool) (c n t d : Nat) (l : LvT) : LvT := List.rec (motive := fun _ => LvT) [] (fun x _ ih => stepQ lf c n t d x.1 x.2 ih) l
/-- everything of a level evaluated -/
noncomputable def trvQ (l : LvT) : Bool := List.rec (motive := fun _ => Bool) true (fun x _ ih => bif Nat.ble 0 x.2 then ih else false) l
noncomputable def endQ (ev : Nat → Nat → Nat → Nat → Bool) (l : LvT) : Bool := List.rec (motive := fun _ => Bool) true (fun x _ ih => bif fzB (Nat.mod x.1 8) (fun kc => fzB (Nat.mod (Nat.div x.1 8) 4096) fun N => fzB (Nat.div x.1 32768) fun j => ev kc N j x.2) then ih else false) l
noncomputable def goQ (lf : Nat → Nat → Nat → Bool) (ev : Nat → Nat → Nat → Nat → Bool) (c n t d : Nat) : LvT → Bool := Nat.rec (motive := fun _ => LvT → Bool) (endQ ev) (fun d ih l => bif trvQ l then ih (lvlQ lf c n t d l) else false) d
theorem goQ_s (lf : Nat → Nat → Nat → Bool) (ev : Nat → Nat → Nat → Nat → Bool) (c n t d : Nat) (l : LvT) : goQ lf ev c n t (d + 1) l = bif trvQ l then goQ lf ev c n t d (lvlQ lf c n t d l) else false := rfl
theorem chQ_old {lf : Nat → Nat → Nat → Bool} {c n t d j m q k y : Nat} {acc : LvT} (h : Has k y acc) : Has k y (chQ lf c n t d j m q acc) := by
  unfold chQ
  rw [fzA_e, fzA_e, fzA_e]
  cases sf lf c d (Nat.mod (Nat.div q 16) 8) (Nat.mod (Nat.div q 128) 4096) (Nat.div q 524288) with
  | true => exact h
  | false =>
    rw [cond_false]
    cases Nat.beq (am n t (am n t m (Nat.add j 3) (Nat.mod q 4)) (Nat.add j 4) (Nat.mod (Nat.div q 4) 4)) 0 with
    | true => exact h
    | false =>
      rw [cond_false, fzA_e]
      exact insQ_old acc h
theorem chsQ_c (lf : Nat → Nat → Nat → Bool) (c n t d j m q : Nat) (qs : List Nat) (acc : LvT) : chsQ lf c n t d j m (q :: qs) acc = chQ lf c n t d j m q (chsQ lf c n t d j m qs acc) := rfl
theorem chsQ_old {lf : Nat → Nat → Nat → Bool} {c n t d j m k y : Nat} {acc : LvT} (h : Has k y acc) : ∀ qs, Has k y (chsQ lf c n t d j m qs acc)
  | [] => h
  | q :: qs => by
    rw [chsQ_c]
    exact chQ_old (chsQ_old h qs)
theorem chsQ_in {lf : Nat → Nat → Nat → Bool} {c n t d j m k q : Nat} {acc : LvT} (h : ∀ a, Has k (q / 16) (chQ lf c n t d j m q a)) : ∀ qs, q ∈ qs → Has k (q / 16) (chsQ lf c n t d j m qs acc)
  | [], hq => absurd hq List.not_mem_nil
  | x :: qs, hq => by
    rw [chsQ_c]
    rcases List.mem_cons.mp hq with e | e
    · rw [← e]; exact h _
    · exact chQ_old (chsQ_in h qs e)
theorem stepQ_old {lf : Nat → Nat → Nat → Bool} {c n t d s m k y : Nat} {acc : LvT} (h : Has k y acc) : Has k y (stepQ lf c n t d s m acc) := by
  unfold stepQ
  rw [fzA_e, fzA_e, fzA_e]
  exact chsQ_old h _
theorem lvlQ_c (lf : Nat → Nat → Nat → Bool) (c n t d : Nat) (x : Nat × Nat) (l : LvT) : lvlQ lf c n t d (x :: l) = stepQ lf c n t d x.1 x.2 (lvlQ lf c n t d l) := rfl
theorem lvlQ_in {lf : Nat → Nat → Nat → Bool} {c n t d s m k y : Nat} (h : ∀ a, Has k y (stepQ lf c n t d s m a)) : ∀ l, (s, m) ∈ l → Has k y (lvlQ lf c n t d l)
  | [], hq => absurd hq List.not_mem_nil
  | x :: l, hq => by
    rw [lvlQ_c]
    rcases List.mem_cons.mp hq with e | e
    · rw [← e]; exact h _
    · exact stepQ_old (lvlQ_in h l e)
theorem N_4096 {N p : Nat} (h : Bd N p) (hp : p ≤ 7) : N < 4096 := by
  obtain ⟨h0, h1, h2, h3⟩ := h
  omega
theorem endQ_ok {ev : Nat → Nat → Nat → Nat → Bool} {s m : Nat} : ∀ l, endQ ev l = true → (s, m) ∈ l → ev (s % 8) (s / 8 % 4096) (s / 32768) m = true
  | [], _, h => absurd h List.not_mem_nil
  | x :: l, h, hx => by
    have h : (bif fzB (Nat.mod x.1 8) (fun kc => fzB (Nat.mod (Nat.div x.1 8) 4096) fun N => fzB (Nat.div x.1 32768) fun j => ev kc N j x.2) then endQ ev l else false) = true := h
    obtain ⟨h1, h2⟩ := and_b h
    rcases List.mem_cons.mp hx with e | e
    · rw [fzB_e, fzB_e, fzB_e, ← e] at h1
      exact h1
    · exact endQ_ok l h2 e
theorem goQ_ok {lf : Nat → Nat → Nat → Bool} {ev : Nat → Nat → Nat → Nat → Bool} {t k c n P : Nat} {Gl : Prop} (hn : n ≤ 32768) (ht : t < 4294967296) (hk : k < 24 * n) (hc : Tk t k % 1024 = c) (hP : P ≤ 7) (hl : ∀ kc N j, PSy (Tk t k) P kc N j → lf kc N j = true → Gl) (he : ∀ kc N j m, PSy (Tk t k) P kc N j → m.testBit k = true → ev kc N j m = true → Gl) : ∀ d p kc N j l, p + d = P → PSy (Tk t k) p kc N j → Has k (kc + 8 * (N + 4096 * j)) l → goQ lf ev c n t d l = true → Gl := by
  intro d
  induction d with
  | zero =>
    intro p kc N j l hp hs hm h
    have e : p = P := by omega
    rw [e] at hs
    obtain ⟨m, h1, h2⟩ := hm
    have h : endQ ev l = true := h
    have q := endQ_ok l h h1
    have N4 := N_4096 hs.2.1 hP
    have k4 := hs.2.2
    rw [show (kc + 8 * (N + 4096 * j)) % 8 = kc by omega, show (kc + 8 * (N + 4096 * j)) / 8 % 4096 = N by omega, show (kc + 8 * (N + 4096 * j)) / 32768 = j by omega] at q
    exact he kc N j m hs h2 q
  | succ d ih =>
    intro p kc N j l hp hs hm h
    rw [goQ_s] at h
    obtain ⟨-, h⟩ := and_b h
    obtain ⟨m, h1, h2⟩ := hm
    have N4 := N_4096 hs.2.1 (by omega)
    have k4 := hs.2.2
    obtain ⟨kc2, N2, j2, v1, v2, q1, q2, d1, d2⟩ := stA_T hc hs (by omega)
    cases sd : sf lf c d kc2 N2 j2 with
    | true => exact sf_ok hc hP hl d (p + 1) kc2 N2 j2 (by omega) q2 sd
    | false =>
      have N42 := N_4096 q2.2.1 (by omega)
      have k42 := q2.2.2
      have lv1 : v1 < 4 := by
        rcases d1 with e | e <;> omega
      have lv2 : v2 < 4 := by
        rcases d2 with e | e <;> omega
      have e0 : cdQ kc2 N2 j2 v1 v2 = v1 + (4 * v2 + (16 * kc2 + (128 * N2 + 524288 * j2))) := rfl
      have bit := am_tb hn ht hk (am_tb hn ht hk h2 d1) d2
      have key : ∀ a, Has k (cdQ kc2 N2 j2 v1 v2 / 16) (chQ lf c n t d j m (cdQ kc2 N2 j2 v1 v2) a) := fun a => by
        unfold chQ
        rw [fzA_e, fzA_e, fzA_e, fzA_e, e0, show Nat.mod (Nat.div (v1 + (4 * v2 + (16 * kc2 + (128 * N2 + 524288 * j2)))) 16) 8 = kc2 from (by show _ / 16 % 8 = _; omega), show Nat.mod (Nat.div (v1 + (4 * v2 + (16 * kc2 + (128 * N2 + 524288 * j2)))) 128) 4096 = N2 from (by show _ / 128 % 4096 = _; omega), show Nat.div (v1 + (4 * v2 + (16 * kc2 + (128 * N2 + 524288 * j2)))) 524288 = j2 from (by show _ / 524288 = _; omega), show Nat.mod (v1 + (4 * v2 + (16 * kc2 + (128 * N2 + 524288 * j2)))) 4 = v1 from (by show _ % 4 = _; omega), show Nat.mod (Nat.div (v1 + (4 * v2 + (16 * kc2 + (128 * N2 + 524288 * j2)))) 4) 4 = v2 from (by show _ / 4 % 4 = _; omega), sd, cond_false, show Nat.add j 3 = j + 3 from rfl, show Nat.add j 4 = j + 4 from rfl, beq_f (tb_0 bit), cond_false]
        exact insQ_new bit a
      have st : ∀ a, Has k (kc2 + 8 * (N2 + 4096 * j2)) (stepQ lf c n t d (kc + 8 * (N + 4096 * j)) m a) := fun a => by
        unfold stepQ
        rw [fzA_e, fzA_e, fzA_e, show Nat.mod (kc + 8 * (N + 4096 * j)) 8 = kc from (by show _ % 8 = _; omega), show Nat.mod (Nat.div (kc + 8 * (N + 4096 * j)) 8) 4096 = N from (by show _ / 8 % 4096 = _; omega), show Nat.div (kc + 8 * (N + 4096 * j)) 32768 = j from (by show _ / 32768 = _; omega)]
        have r := chsQ_in (acc := a) key _ q1
        rw [e0, show (v1 + (4 * v2 + (16 * kc2 + (128 * N2 + 524288 * j2)))) / 16 = kc2 + 8 * (N2 + 4096 * j2) by omega] at r
        exact r
      exact ih (p + 1) kc2 N2 j2 _ (by omega) q2 (lvlQ_in st l h1) h
end DAG
