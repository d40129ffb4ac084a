/-! PURE (4): edges and cells of a storey; how its spaces are found. -/
def up {α : Type} (f : Nat → α) (k : Nat) (x : α) : Nat → α := fun j => if j = k then x else f j
theorem up_e {α : Type} (f : Nat → α) (k : Nat) (x : α) : up f k x k = x := if_pos rfl
theorem up_n {α : Type} {f : Nat → α} {k j : Nat} {x : α} (h : j ≠ k) : up f k x j = f j := if_neg h
theorem up_d {α : Type} (f : Nat → α) (k : Nat) (x : α) (j : Nat) : up f k x j = if j = k then x else f j := rfl
def it {α : Type} (f : Nat → α → α) : Nat → α → α
  | 0, x => x
  | n + 1, x => f n (it f n x)
/-- a number below m, or none -/
def nO (m x : Nat) : Int32 := if x < m then nI x else -1
theorem nO_lt {m x : Nat} (h : x < m) : nO m x = nI x := if_pos h
theorem nO_ge {m x : Nat} (h : ¬ x < m) : nO m x = -1 := if_neg h
theorem nO_m1 {m x : Nat} (hm : m < 2 ^ 31) : nO m x = -1 ↔ ¬ x < m := by
  unfold nO
  split
  · rename_i h; rw [nI_m1 (by omega)]; constructor
    · exact False.elim
    · intro q; exact q h
  · rename_i h; exact ⟨fun _ => h, fun _ => rfl⟩
theorem nO_neg {m x : Nat} (hm : m < 2 ^ 31) : nO m x < 0 ↔ ¬ x < m := by
  unfold nO
  split
  · rename_i h; rw [nI_lt0 (by omega)]; constructor
    · exact False.elim
    · intro q; exact q h
  · rename_i h; exact ⟨fun _ => h, fun _ => by decide⟩
/-- how many of the first n -/
def cnt (p : Nat → Bool) : Nat → Nat
  | 0 => 0
  | n + 1 => cnt p n + cond (p n) 1 0
theorem cnt_le (p : Nat → Bool) : ∀ n, cnt p n ≤ n := by
  intro n
  induction n with
  | zero => exact Nat.le_refl _
  | succ n ih => rw [cnt]; cases p n <;> simp <;> omega
theorem cnt_congr {p q : Nat → Bool} : ∀ {n : Nat}, (∀ i, i < n → p i = q i) → cnt p n = cnt q n := by
  intro n
  induction n with
  | zero => intro _; rfl
  | succ n ih => intro h; rw [cnt, cnt, ih (fun i hi => h i (by omega)), h n (by omega)]
theorem cnt_none : ∀ n, cnt (fun _ => false) n = 0 := by
  intro n
  induction n with
  | zero => rfl
  | succ n ih => rw [cnt, ih]; rfl
/-- one of them goes -/
theorem cnt_off {p q : Nat → Bool} {k : Nat} : ∀ {n : Nat}, k < n → p k = true → q k = false → (∀ i, i ≠ k → q i = p i) → cnt q n + 1 = cnt p n := by
  intro n
  induction n with
  | zero => intro h; omega
  | succ n ih =>
    intro hk hp hq h
    rw [cnt, cnt]
    by_cases e : k = n
    · subst e
      rw [hp, hq, cnt_congr (q := p) (fun i hi => h i (by omega))]
      rfl
    · rw [← ih (by omega) hp hq h, h n (fun z => e z.symm)]; omega
theorem cnt_on {p q : Nat → Bool} {k n : Nat} (hk : k < n) (hp : p k = false) (hq : q k = true) (h : ∀ i, i ≠ k → q i = p i) : cnt q n = cnt p n + 1 :=
  (cnt_off (p := q) (q := p) hk hq hp (fun i hi => (h i hi).symm)).symm
theorem cnt_pos {p : Nat → Bool} {k : Nat} : ∀ {n : Nat}, k < n → p k = true → 0 < cnt p n := by
  intro n
  induction n with
  | zero => intro h; omega
  | succ n ih =>
    intro hk hp
    rw [cnt]
    by_cases e : k = n
    · subst e; rw [hp]; simp
    · have := ih (by omega) hp; omega
/-! 48: none -/
def ge_bf (e : Nat) : Nat := if e < 54 then (if e % 9 = 0 then 48 else e / 9 * 8 + e % 9 - 1) else if e < 62 then 48 else e - 62
def ge_bh (e : Nat) : Nat := if e < 54 then (if e % 9 = 8 then 48 else e / 9 * 8 + e % 9) else if e < 102 then e - 54 else 48
def ge_sd (e : Nat) : Nat := if e < 54 then (if e % 9 = 0 then 0 else if e % 9 = 8 then 1 else 4) else if e < 62 then 2 else if e < 102 then 4 else 3
def ge_ed (c d : Nat) : Nat := if d = 0 then c / 8 * 9 + c % 8 else if d = 1 then c / 8 * 9 + c % 8 + 1 else if d = 2 then 54 + c else 62 + c
def ge_nb (c d : Nat) : Nat := if d = 0 then (if c % 8 = 0 then 48 else c - 1) else if d = 1 then (if c % 8 = 7 then 48 else c + 1) else if d = 2 then (if c < 8 then 48 else c - 8) else if c + 8 < 48 then c + 8 else 48
set_option maxRecDepth 100000 in
theorem ge_e : ∀ e, e < 110 → cf_84_0 (nI e) = nO 48 (ge_bf e) ∧ cf_85_0 (nI e) = nO 48 (ge_bh e) ∧ cf_432_0 (nI e) = nO 48 (ge_bf e) ∧ cf_433_0 (nI e) = nO 48 (ge_bh e) ∧ cf_21_0 (nI e) = nO 4 (ge_sd e) ∧ cf_417_0 (nI e) = decide (ge_sd e < 4) := by decide +kernel
set_option maxRecDepth 100000 in
theorem ge_c : ∀ c, c < 48 → ∀ d, d < 4 → cf_80_0 (nI c) (nI d) = nO 48 (ge_nb c d) ∧ cf_81_0 (nI c) (nI d) = nI (ge_ed c d) ∧ cf_430_0 (nI c) (nI d) = nO 48 (ge_nb c d) ∧ cf_431_0 (nI c) (nI d) = nI (ge_ed c d) ∧ ge_ed c d < 110 ∧ ge_nb c d ≤ 48 := by decide +kernel
set_option maxRecDepth 100000 in
theorem ge_p : ∀ c, c < 48 → ∀ d, d < 4 → (cf_80_0 (nI c) (nI d) = cf_80_0 (nI c) (nI d)) ∧ (ge_nb c d < 48 → ∃ d2, d2 < 4 ∧ ge_nb (ge_nb c d) d2 = c ∧ ge_ed (ge_nb c d) d2 = ge_ed c d) := by decide +kernel
/-- an inner edge lies between two cells; a border's has one -/
theorem ge_b : ∀ e, e < 110 → (ge_sd e = 4 → ge_bf e < 48 ∧ ge_bh e < 48 ∧ ∃ d, d < 4 ∧ ge_nb (ge_bf e) d = ge_bh e ∧ ge_ed (ge_bf e) d = e) ∧ (ge_sd e ≠ 4 → (ge_bf e = 48 ∧ ge_bh e < 48) ∨ (ge_bf e < 48 ∧ ge_bh e = 48)) := by decide +kernel
/-! labels (240: none yet), queue, its end -/
abbrev fl_X : Type := (Nat → Nat) × (Nat → Nat) × Nat
def fl_1 (w : Nat → Bool) (s n i d : Nat) (x : fl_X) : fl_X :=
  if ge_nb (x.2.1 i) d < 48 ∧ x.1 (48 * s + ge_nb (x.2.1 i) d) = 240 ∧ w (110 * s + ge_ed (x.2.1 i) d) = true then (up x.1 (48 * s + ge_nb (x.2.1 i) d) n, up x.2.1 x.2.2 (ge_nb (x.2.1 i) d), x.2.2 + 1) else x
def fl_4 (w : Nat → Bool) (s n i : Nat) (x : fl_X) : fl_X := it (fl_1 w s n i) 4 x
def fl_r (w : Nat → Bool) (s n k : Nat) (x : fl_X) : fl_X := it (fun i x => if i < x.2.2 then fl_4 w s n i x else x) k x
def fl_0 (a n : Nat) (lab : Nat → Nat) : fl_X := (up lab a n, up (fun _ => 0) 0 (a % 48), 1)
def fl (w : Nat → Bool) (a n : Nat) (lab : Nat → Nat) : fl_X := fl_r w (a / 48) n 48 (fl_0 a n lab)
def dv_1 (w : Nat → Bool) (a : Nat) (y : (Nat → Nat) × Nat) : (Nat → Nat) × Nat := if y.1 a = 240 then ((fl w a y.2 y.1).1, y.2 + 1) else y
def dv (w : Nat → Bool) (k : Nat) : (Nat → Nat) × Nat := it (dv_1 w) k (fun _ => 240, 0)
/-- while a space is flooded -/
def fl_I (s n : Nat) (lab : Nat → Nat) (x : fl_X) : Prop :=
  1 ≤ x.2.2 ∧ x.2.2 + cnt (fun c => decide (x.1 (48 * s + c) = 240)) 48 ≤ 48 ∧ (∀ j, j < x.2.2 → x.2.1 j < 48 ∧ x.1 (48 * s + x.2.1 j) = n) ∧
  (∀ c, x.1 c = lab c ∨ (lab c = 240 ∧ x.1 c = n ∧ ∃ j, j < x.2.2 ∧ c = 48 * s + x.2.1 j)) ∧ cnt (fun c => decide (x.1 c = n)) 240 = x.2.2
theorem fl_1_I {w : Nat → Bool} {s n i d : Nat} {lab : Nat → Nat} {x : fl_X} (hs : s < 5) (hn : n < 240) (h : fl_I s n lab x) (hi : i < x.2.2) (hd : d < 4) : fl_I s n lab (fl_1 w s n i d x) ∧ x.2.2 ≤ (fl_1 w s n i d x).2.2 ∧ (fl_1 w s n i d x).2.1 i = x.2.1 i ∧ (∀ j, j < x.2.2 → (fl_1 w s n i d x).2.1 j = x.2.1 j) ∧ (∀ c, x.1 c ≠ 240 → (fl_1 w s n i d x).1 c = x.1 c) ∧ (ge_nb (x.2.1 i) d < 48 → w (110 * s + ge_ed (x.2.1 i) d) = true → (fl_1 w s n i d x).1 (48 * s + ge_nb (x.2.1 i) d) ≠ 240) := by
  unfold fl_1
  split
  · rename_i hc
    obtain ⟨h1, h2, h3⟩ := hc
    obtain ⟨a1, a2, a3, a4, a5⟩ := h
    generalize hb : ge_nb (x.2.1 i) d = b at *
    have hcnt := cnt_off (p := fun c => decide (x.1 (48 * s + c) = 240)) (q := fun c => decide (up x.1 (48 * s + b) n (48 * s + c) = 240)) (k := b) (n := 48) h1 (by simpa using h2) (by simp [up_e]; omega) (fun c hc => by rw [up_n (by omega)])
    have hcn := cnt_on (p := fun c => decide (x.1 c = n)) (q := fun c => decide (up x.1 (48 * s + b) n c = n)) (k := 48 * s + b) (n := 240) (by omega) (by simp; omega) (by simp [up_e]) (fun c hc => by rw [up_n hc])
    refine ⟨⟨by simp only; omega, by simp only; omega, ?_, ?_, by simp only; omega⟩, by simp only; omega, by simp only; rw [up_n (by omega)], fun j hj => by simp only; rw [up_n (by omega)], fun c hc => ?_, fun _ _ => ?_⟩
    · intro j hj
      simp only at hj ⊢
      by_cases e : j = x.2.2
      · subst e; rw [up_e]; exact ⟨h1, up_e _ _ _⟩
      · rw [up_n e]
        obtain ⟨b1, b2⟩ := a3 j (by omega)
        refine ⟨b1, ?_⟩
        rw [up_d]; split
        · rfl
        · exact b2
    · intro c
      simp only
      by_cases e : c = 48 * s + b
      · subst e
        rw [up_e]
        rcases a4 (48 * s + b) with q | ⟨q1, q2, -⟩
        · exact Or.inr ⟨by omega, rfl, x.2.2, by omega, by rw [up_e]⟩
        · exact Or.inr ⟨q1, rfl, x.2.2, by omega, by rw [up_e]⟩
      · rw [up_n e]
        rcases a4 c with q | ⟨q1, q2, j, q3, q4⟩
        · exact Or.inl q
        · exact Or.inr ⟨q1, q2, j, by omega, by rw [up_n (by omega)]; exact q4⟩
    · simp only; rw [up_n (fun z => hc (by rw [z]; exact h2))]
    · simp only; rw [up_e]; omega
  · rename_i hc
    refine ⟨h, Nat.le_refl _, rfl, fun _ _ => rfl, fun _ _ => rfl, fun h1 h3 h2 => hc ⟨h1, h2, h3⟩⟩
/-- so far the cells of the queue below i have all their neighbours -/
def fl_C (w : Nat → Bool) (s i : Nat) (x : fl_X) : Prop := ∀ j, j < i → j < x.2.2 → ∀ d, d < 4 → ge_nb (x.2.1 j) d < 48 → w (110 * s + ge_ed (x.2.1 j) d) = true → x.1 (48 * s + ge_nb (x.2.1 j) d) ≠ 240
theorem fl_4_I {w : Nat → Bool} {s n i : Nat} {lab : Nat → Nat} {x : fl_X} (hs : s < 5) (hn : n < 240) (h : fl_I s n lab x) (hi : i < x.2.2) (hc : fl_C w s i x) : ∀ k, k ≤ 4 → fl_I s n lab (it (fl_1 w s n i) k x) ∧ x.2.2 ≤ (it (fl_1 w s n i) k x).2.2 ∧ (∀ j, j < x.2.2 → (it (fl_1 w s n i) k x).2.1 j = x.2.1 j) ∧ (∀ c, x.1 c ≠ 240 → (it (fl_1 w s n i) k x).1 c = x.1 c) ∧ (∀ d, d < k → ge_nb (x.2.1 i) d < 48 → w (110 * s + ge_ed (x.2.1 i) d) = true → (it (fl_1 w s n i) k x).1 (48 * s + ge_nb (x.2.1 i) d) ≠ 240) := by
  intro k
  induction k with
  | zero => intro _; exact ⟨h, Nat.le_refl _, fun _ _ => rfl, fun _ _ => rfl, fun d hd => absurd hd (Nat.not_lt_zero _)⟩
  | succ k ih =>
    intro hk
    obtain ⟨b1, b2, b3, b4, b5⟩ := ih (by omega)
    rw [it]
    generalize it (fl_1 w s n i) k x = y at *
    obtain ⟨c1, c2, c3, c4, c5, c6⟩ := fl_1_I (w := w) (d := k) hs hn b1 (by omega : i < y.2.2) (by omega)
    have e : y.2.1 i = x.2.1 i := b3 i hi
    refine ⟨c1, by omega, fun j hj => by rw [c4 j (by omega), b3 j hj], fun c hc => ?_, fun d hd h1 h2 => ?_⟩
    · rw [c5 c (by rw [b4 c hc]; exact hc), b4 c hc]
    · by_cases ed : d = k
      · subst ed; rw [e] at c6; exact c6 h1 h2
      · rw [c5 _ (b5 d (by omega) h1 h2)]; exact b5 d (by omega) h1 h2
theorem fl_r_I {w : Nat → Bool} {s n : Nat} {lab : Nat → Nat} {x : fl_X} (hs : s < 5) (hn : n < 240) (h : fl_I s n lab x) : ∀ k, fl_I s n lab (fl_r w s n k x) ∧ fl_C w s k (fl_r w s n k x) := by
  intro k
  induction k with
  | zero => exact ⟨h, fun j hj => absurd hj (Nat.not_lt_zero _)⟩
  | succ k ih =>
    obtain ⟨b1, b2⟩ := ih
    rw [fl_r, it]
    rw [fl_r] at b1 b2
    generalize it (fun i x => if i < x.2.2 then fl_4 w s n i x else x) k x = y at *
    split
    · rename_i hk
      obtain ⟨c1, c2, c3, c4, c5⟩ := fl_4_I hs hn b1 hk b2 4 (Nat.le_refl _)
      refine ⟨c1, ?_⟩
      intro j hj hj2 d hd h1 h2
      show (it (fl_1 w s n k) 4 y).1 _ ≠ 240
      by_cases e : j = k
      · subst e
        have e2 : (fl_4 w s n j y).2.1 j = y.2.1 j := c3 j hk
        rw [e2] at h1 h2 ⊢
        exact c5 d hd h1 h2
      · have hj3 : j < y.2.2 := by omega
        have e2 : (fl_4 w s n k y).2.1 j = y.2.1 j := c3 j hj3
        rw [e2] at h1 h2 ⊢
        have := b2 j (by omega) hj3 d hd h1 h2
        rw [c4 _ this]; exact this
    · rename_i hk
      refine ⟨b1, fun j hj hj2 => b2 j (by omega) hj2⟩
theorem fl_0_I {a n : Nat} {lab : Nat → Nat} (ha : a < 240) (h : lab a = 240) (hn : n < 240) (hfr : ∀ c, c < 240 → lab c ≠ n) : fl_I (a / 48) n lab (fl_0 a n lab) := by
  have e : 48 * (a / 48) + a % 48 = a := by omega
  have hcnt := cnt_off (p := fun c => decide (lab (48 * (a / 48) + c) = 240)) (q := fun c => decide (up lab a n (48 * (a / 48) + c) = 240)) (k := a % 48) (n := 48) (by omega) (by simpa [e] using h) (by simp [e, up_e]; omega) (fun c hc => by rw [up_n (by omega)])
  have hle := cnt_le (fun c => decide (lab (48 * (a / 48) + c) = 240)) 48
  have hcn := cnt_on (p := fun c => decide (lab c = n)) (q := fun c => decide (up lab a n c = n)) (k := a) (n := 240) (by omega) (by simpa using hfr a ha) (by simp [up_e]) (fun c hc => by rw [up_n hc])
  have h0 : cnt (fun c => decide (lab c = n)) 240 = 0 := by
    rw [cnt_congr (q := fun _ => false) (fun c hc => by simpa using hfr c hc)]
    exact cnt_none 240
  refine ⟨Nat.le_refl _, by show 1 + cnt (fun c => decide (up lab a n (48 * (a / 48) + c) = 240)) 48 ≤ 48; omega, ?_, ?_, by show cnt (fun c => decide (up lab a n c = n)) 240 = 1; omega⟩
  · intro j hj
    have : j = 0 := by have : j < 1 := hj; omega
    subst this
    show up (fun _ => 0) 0 (a % 48) 0 < 48 ∧ up lab a n (48 * (a / 48) + up (fun _ => 0) 0 (a % 48) 0) = n
    rw [up_e, e, up_e]
    exact ⟨by omega, rfl⟩
  · intro c
    show up lab a n c = lab c ∨ (lab c = 240 ∧ up lab a n c = n ∧ ∃ j, j < 1 ∧ c = 48 * (a / 48) + up (fun _ => 0) 0 (a % 48) j)
    by_cases hc : c = a
    · subst hc
      exact Or.inr ⟨h, up_e _ _ _, 0, by omega, by rw [up_e]; omega⟩
    · exact Or.inl (up_n hc)
/-- while the spaces are found: the first k cells are done -/
def dv_I (w : Nat → Bool) (k : Nat) (y : (Nat → Nat) × Nat) : Prop :=
  y.2 ≤ k ∧ (∀ c, y.1 c = 240 ∨ (c < 240 ∧ y.1 c < y.2)) ∧ (∀ c, c < k → y.1 c < y.2) ∧
  (∀ s, s < 5 → ∀ c, c < 48 → ∀ d, d < 4 → ge_nb c d < 48 → w (110 * s + ge_ed c d) = true → y.1 (48 * s + c) ≠ 240 → y.1 (48 * s + ge_nb c d) = y.1 (48 * s + c)) ∧
  (∀ c c', y.1 c ≠ 240 → y.1 c' = y.1 c → c' / 48 = c / 48) ∧ (∀ m, m < y.2 → ∃ c, c < k ∧ y.1 c = m)
theorem fl_ok {w : Nat → Bool} {a n : Nat} {lab : Nat → Nat} (ha : a < 240) (hna : n ≤ a) (h : lab a = 240) (hl : ∀ c, lab c = 240 ∨ (c < 240 ∧ lab c < n)) : fl_I (a / 48) n lab (fl w a n lab) ∧ fl_C w (a / 48) 48 (fl w a n lab) ∧ (fl w a n lab).2.2 ≤ 48 ∧ (fl w a n lab).1 a = n := by
  have h0 := fl_0_I ha h (by omega : n < 240) (fun c _ q => by rcases hl c with z | ⟨-, z⟩ <;> omega)
  unfold fl
  obtain ⟨h1, h2⟩ := fl_r_I (w := w) (by omega) (by omega) h0 48
  refine ⟨h1, h2, ?_, ?_⟩
  · have := h1.2.1; omega
  · rcases h1.2.2.2.1 a with q | ⟨q, q2, -⟩
    · exfalso
      -- the first cell stays what it was set to
      have key : ∀ k, (fl_r w (a / 48) n k (fl_0 a n lab)).1 a = n := by
        intro k
        induction k with
        | zero => exact up_e _ _ _
        | succ k ih =>
          have hI := (fl_r_I (w := w) (by omega) (by omega) h0 k)
          rw [fl_r, it]
          rw [fl_r] at ih
          rw [fl_r] at hI
          generalize it (fun i x => if i < x.2.2 then fl_4 w (a / 48) n i x else x) k (fl_0 a n lab) = y at *
          split
          · rename_i hk
            have := (fl_4_I (by omega) (by omega) hI.1 hk hI.2 4 (Nat.le_refl _)).2.2.2.1 a (by rw [ih]; omega)
            show (it (fl_1 w (a / 48) n k) 4 y).1 a = n
            rw [this]; exact ih
          · exact ih
      have := key 48
      rw [this] at q
      omega
    · exact q2
theorem dv_1_I {w : Nat → Bool} {k : Nat} {y : (Nat → Nat) × Nat} (hk : k < 240) (h : dv_I w k y) : dv_I w (k + 1) (dv_1 w k y) := by
  obtain ⟨a1, a2, a3, a4, a5, a6⟩ := h
  unfold dv_1
  split
  · rename_i h0
    obtain ⟨f1, f2, f3, f4⟩ := fl_ok (w := w) hk a1 h0 a2
    generalize fl w k y.2 y.1 = x at *
    obtain ⟨g1, g2, g3, g4, g5⟩ := f1
    have hs : k / 48 < 5 := by omega
    -- a cell's label is what it was, or new
    have key : ∀ c, x.1 c = y.1 c ∧ y.1 c ≠ 240 ∨ x.1 c = 240 ∧ y.1 c = 240 ∨ (y.1 c = 240 ∧ x.1 c = y.2 ∧ ∃ j, j < x.2.2 ∧ c = 48 * (k / 48) + x.2.1 j) := by
      intro c
      rcases g4 c with q | q
      · by_cases z : y.1 c = 240
        · exact Or.inr (Or.inl ⟨by omega, z⟩)
        · exact Or.inl ⟨q, z⟩
      · exact Or.inr (Or.inr q)
    refine ⟨by simp only; omega, ?_, ?_, ?_, ?_, ?_⟩
    · intro c
      simp only
      rcases key c with ⟨q, z⟩ | ⟨q, -⟩ | ⟨z, q, j, hj, e⟩
      · rcases a2 c with r | ⟨r1, r2⟩
        · exact absurd r z
        · exact Or.inr ⟨r1, by omega⟩
      · exact Or.inl q
      · have := (g3 j hj).1
        exact Or.inr ⟨by omega, by omega⟩
    · intro c hc
      simp only
      by_cases e : c = k
      · subst e; omega
      · have := a3 c (by omega)
        rcases key c with ⟨q, z⟩ | ⟨q, z⟩ | ⟨z, q, -⟩ <;> omega
    · intro s hs5 c hc d hd h1 h2 h3
      simp only at h3 ⊢
      rcases key (48 * s + c) with ⟨q, z⟩ | ⟨q, z⟩ | ⟨z, q, j, hj, e⟩
      · have r := a4 s hs5 c hc d hd h1 h2 z
        rcases key (48 * s + ge_nb c d) with ⟨q', z'⟩ | ⟨q', z'⟩ | ⟨z', q', -⟩ <;> omega
      · omega
      · -- a new one: its neighbour is labelled; an old label would have spread
        have hj' := g3 j hj
        have es : s = k / 48 := by omega
        have ec : c = x.2.1 j := by omega
        subst es
        have r := f2 j (by omega) hj d hd (by rw [← ec]; exact h1) (by rw [← ec]; exact h2)
        rw [← ec] at r
        rcases key (48 * (k / 48) + ge_nb c d) with ⟨q', z'⟩ | ⟨q', z'⟩ | ⟨z', q', -⟩
        · exfalso
          obtain ⟨d2, hd2, e2, e3⟩ := (ge_p c hc d hd).2 h1
          have := a4 (k / 48) hs (ge_nb c d) h1 d2 hd2 (by rw [e2]; exact hc) (by rw [e3]; exact h2) z'
          rw [e2] at this
          omega
        · exact absurd q' r
        · omega
    · intro c c' h1 h2
      simp only at h1 h2
      rcases key c with ⟨q, z⟩ | ⟨q, z⟩ | ⟨z, q, j, hj, e⟩
      · rcases key c' with ⟨q', z'⟩ | ⟨q', z'⟩ | ⟨z', q', -⟩
        · exact a5 c c' z (by omega)
        · omega
        · rcases a2 c with r | ⟨r1, r2⟩ <;> omega
      · omega
      · rcases key c' with ⟨q', z'⟩ | ⟨q', z'⟩ | ⟨z', q', j', hj', e'⟩
        · rcases a2 c' with r | ⟨r1, r2⟩ <;> omega
        · omega
        · have := (g3 j hj).1
          have := (g3 j' hj').1
          omega
    · intro m hm
      simp only at hm
      by_cases e : m = y.2
      · exact ⟨k, by omega, by rw [e]; exact f4⟩
      · obtain ⟨c, h1, h2⟩ := a6 m (by omega)
        refine ⟨c, by omega, ?_⟩
        simp only
        rcases key c with ⟨q, z⟩ | ⟨q, z⟩ | ⟨z, q, -⟩ <;> omega
  · rename_i h0
    refine ⟨by omega, a2, ?_, a4, a5, fun m hm => ?_⟩
    · intro c hc
      by_cases e : c = k
      · subst e
        rcases a2 c with r | ⟨r1, r2⟩
        · exact absurd r h0
        · exact r2
      · exact a3 c (by omega)
    · obtain ⟨c, h1, h2⟩ := a6 m hm
      exact ⟨c, by omega, h2⟩
theorem dv_ok (w : Nat → Bool) : ∀ k, k ≤ 240 → dv_I w k (dv w k) := by
  intro k
  induction k with
  | zero =>
    intro _
    exact ⟨Nat.le_refl _, fun c => Or.inl rfl, fun c hc => absurd hc (Nat.not_lt_zero _), fun s _ c _ d _ _ _ h => absurd rfl h, fun c c' h => absurd rfl h, fun m hm => absurd hm (Nat.not_lt_zero _)⟩
  | succ k ih =>
    intro hk
    have := dv_1_I (by omega : k < 240) (ih (by omega))
    rw [dv, it]
    exact this
/-- only open edges below 550 count -/
theorem it_congr {α : Type} {f g : Nat → α → α} : ∀ {n : Nat} {x : α}, (∀ i, i < n → ∀ y, f i y = g i y) → it f n x = it g n x := by
  intro n
  induction n with
  | zero => intro x _; rfl
  | succ n ih => intro x h; rw [it, it, ih (fun i hi y => h i (by omega) y), h n (by omega)]
