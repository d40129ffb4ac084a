/-! PURE (50zze): power: what is reckoned. -/
/-- what a circuit draws at first -/
def ld0 (pn ar : Nat → Nat) (dk lm bo ra : Bool) (vn : Nat) (tr : Nat → Bool) (c : Nat) : Nat := if tr c = true then 0 else if c = 10 then 20 + 5 * vn + (if bo = true then 30 else 0) + (if ra = true then 40 else 0) else 15 * pn c + (if 0 < pn c ∧ dk = true ∧ lm = true then 6 * ar c else 0)
/-- the circuit to be shed; 11: none -/
def wst (L k : Nat → Nat) : Nat → Nat
  | 0 => 11
  | c + 1 => if 0 < L c ∧ (wst L k c = 11 ∨ k (wst L k c) ≤ k c) then c else wst L k c
/-- one circuit is shed -/
def shd1 (k : Nat → Nat) (x : (Nat → Nat) × (Nat → Bool)) : (Nat → Nat) × (Nat → Bool) := (up x.1 (wst x.1 k 11) 0, up x.2 (wst x.1 k 11) true)
def shd (k : Nat → Nat) (lm : Nat) : Nat → (Nat → Nat) × (Nat → Bool) → (Nat → Nat) × (Nat → Bool)
  | 0, x => x
  | n + 1, x => if lm < sumN x.1 11 then shd k lm n (shd1 k x) else x
def htn (L r h : Nat) : Nat := if r < L then h + 1 + 10 * (L - r) / r else h - 2
section Pwr
variable {L k : Nat → Nat} {lm : Nat}
theorem wst_ok : ∀ c, c ≤ 11 → (wst L k c = 11 ∨ wst L k c < c) ∧ (wst L k c = 11 → ∀ i, i < c → L i = 0) ∧ (wst L k c < 11 → 0 < L (wst L k c)) := by
  intro c
  induction c with
  | zero => intro _; exact ⟨Or.inl rfl, fun _ i hi => absurd hi (Nat.not_lt_zero _), fun h => absurd (show 11 < 11 from h) (by omega)⟩
  | succ c ih =>
    intro hc
    obtain ⟨h1, h2, h3⟩ := ih (by omega)
    have e : wst L k (c + 1) = if 0 < L c ∧ (wst L k c = 11 ∨ k (wst L k c) ≤ k c) then c else wst L k c := rfl
    rw [e]
    by_cases w : 0 < L c ∧ (wst L k c = 11 ∨ k (wst L k c) ≤ k c)
    · rw [if_pos w]
      exact ⟨Or.inr (by omega), fun q => by omega, fun _ => w.1⟩
    · rw [if_neg w]
      refine ⟨by omega, fun q i hi => ?_, h3⟩
      by_cases v : i = c
      · rw [v]
        rcases Nat.eq_zero_or_pos (L c) with z | z
        · exact z
        · exact absurd ⟨z, Or.inl q⟩ w
      · exact h2 q i (by omega)
theorem sumN_pos : ∀ n, 0 < sumN L n → ∃ i, i < n ∧ 0 < L i := by
  intro n
  induction n with
  | zero => intro h; exact absurd h (by show ¬ 0 < 0; omega)
  | succ n ih =>
    intro h
    have e : sumN L (n + 1) = sumN L n + L n := rfl
    by_cases w : 0 < L n
    · exact ⟨n, by omega, w⟩
    · obtain ⟨i, a, b⟩ := ih (by omega)
      exact ⟨i, by omega, b⟩
theorem wst_lt (h : lm < sumN L 11) : wst L k 11 < 11 ∧ 0 < L (wst L k 11) := by
  obtain ⟨h1, h2, h3⟩ := wst_ok (L := L) (k := k) 11 (Nat.le_refl _)
  have : wst L k 11 < 11 := by
    rcases h1 with z | z
    · obtain ⟨i, a, b⟩ := sumN_pos 11 (show 0 < sumN L 11 by omega)
      have := h2 z i a
      omega
    · exact z
  exact ⟨this, h3 this⟩
/-- circuits that draw something -/
def npo (L : Nat → Nat) : Nat := cnt (fun c => decide (0 < L c)) 11
theorem cnt_up0 {w : Nat} : ∀ n, (w < n → 0 < L w → cnt (fun c => decide (0 < up L w 0 c)) n + 1 = cnt (fun c => decide (0 < L c)) n) ∧ (n ≤ w → cnt (fun c => decide (0 < up L w 0 c)) n = cnt (fun c => decide (0 < L c)) n) := by
  intro n
  induction n with
  | zero => exact ⟨fun h => absurd h (Nat.not_lt_zero _), fun _ => rfl⟩
  | succ n ih =>
    obtain ⟨a, b⟩ := ih
    refine ⟨fun h hp => ?_, fun h => ?_⟩
    · by_cases v : w = n
      · rw [cnt_sn (p := fun c => decide (0 < up L w 0 c)) (by show decide (0 < up L w 0 n) = false; unfold up; rw [if_pos v.symm]; rfl), cnt_s (p := fun c => decide (0 < L c)) (by show decide (0 < L n) = true; rw [← v]; exact decide_eq_true hp), b (by omega)]
      · have e : up L w 0 n = L n := by unfold up; rw [if_neg (by omega)]
        by_cases z : 0 < L n
        · rw [cnt_s (p := fun c => decide (0 < up L w 0 c)) (by show decide (0 < up L w 0 n) = true; rw [e]; exact decide_eq_true z), cnt_s (p := fun c => decide (0 < L c)) (by exact decide_eq_true z), ← a (by omega) hp]
        · rw [cnt_sn (p := fun c => decide (0 < up L w 0 c)) (by show decide (0 < up L w 0 n) = false; rw [e]; exact decide_eq_false z), cnt_sn (p := fun c => decide (0 < L c)) (by exact decide_eq_false z), a (by omega) hp]
    · have e : up L w 0 n = L n := by unfold up; rw [if_neg (by omega)]
      by_cases z : 0 < L n
      · rw [cnt_s (p := fun c => decide (0 < up L w 0 c)) (by show decide (0 < up L w 0 n) = true; rw [e]; exact decide_eq_true z), cnt_s (p := fun c => decide (0 < L c)) (by exact decide_eq_true z), b (by omega)]
      · rw [cnt_sn (p := fun c => decide (0 < up L w 0 c)) (by show decide (0 < up L w 0 n) = false; rw [e]; exact decide_eq_false z), cnt_sn (p := fun c => decide (0 < L c)) (by exact decide_eq_false z), b (by omega)]
theorem npo_s (h : lm < sumN L 11) : npo (up L (wst L k 11) 0) + 1 = npo L := by
  obtain ⟨a, b⟩ := wst_lt (k := k) h
  exact (cnt_up0 11).1 a b
theorem npo_0 (h : npo L = 0) : sumN L 11 = 0 := by
  rcases Nat.eq_zero_or_pos (sumN L 11) with z | z
  · exact z
  · obtain ⟨i, a, b⟩ := sumN_pos 11 z
    have := cnt_lt (p := fun c => decide (0 < L c)) a (decide_eq_true b)
    unfold npo at h
    omega
theorem npo_le (L : Nat → Nat) : npo L ≤ 11 := cnt_le _ 11
/-- shedding comes to rest within as many steps as there are circuits that draw -/
theorem shd_stop : ∀ n x, npo x.1 ≤ n → ¬ lm < sumN (shd k lm n x).1 11 := by
  intro n
  induction n with
  | zero =>
    intro x h
    have : sumN x.1 11 = 0 := npo_0 (by omega)
    show ¬ lm < sumN x.1 11
    omega
  | succ n ih =>
    intro x h
    show ¬ lm < sumN (if lm < sumN x.1 11 then shd k lm n (shd1 k x) else x).1 11
    by_cases w : lm < sumN x.1 11
    · rw [if_pos w]
      refine ih _ ?_
      show npo (up x.1 (wst x.1 k 11) 0) ≤ n
      have := npo_s (k := k) w
      omega
    · rw [if_neg w]; exact w
/-- loads stay small -/
theorem shd_le {B : Nat} : ∀ n x, (∀ c, c < 11 → x.1 c ≤ B) → ∀ c, c < 11 → (shd k lm n x).1 c ≤ B := by
  intro n
  induction n with
  | zero => intro x h; exact h
  | succ n ih =>
    intro x h
    show ∀ c, c < 11 → (if lm < sumN x.1 11 then shd k lm n (shd1 k x) else x).1 c ≤ B
    by_cases w : lm < sumN x.1 11
    · rw [if_pos w]
      refine ih _ (fun c hc => ?_)
      show up x.1 (wst x.1 k 11) 0 c ≤ B
      unfold up
      split
      · omega
      · exact h c hc
    · rw [if_neg w]; exact h
theorem sumN_b {B : Nat} : ∀ n, (∀ c, c < n → L c ≤ B) → sumN L n ≤ n * B := by
  intro n
  induction n with
  | zero => intro _; exact Nat.zero_le _
  | succ n ih =>
    intro h
    have e : sumN L (n + 1) = sumN L n + L n := rfl
    have h1 := ih (fun c hc => h c (by omega))
    have h2 := h n (by omega)
    rw [e, Nat.add_mul, Nat.one_mul]
    omega
theorem sI11_n {f : Nat → Int32} : ∀ n, (∀ c, c < n → f c = nI (L c)) → sI11 f n = nI (sumN L n) := by
  intro n
  induction n with
  | zero => intro _; rfl
  | succ n ih =>
    intro h
    show sI11 f n + f n = nI (sumN L n + L n)
    rw [ih (fun c hc => h c (by omega)), h n (by omega), nI_add]
theorem sL11_n {f : Nat → Int32} (hb : ∀ c, c < 11 → L c < 2 ^ 31) : ∀ n, n ≤ 11 → (∀ c, c < n → f c = nI (L c)) → sL (fun c => (f c).toInt64) n = lN (sumN L n) := by
  intro n
  induction n with
  | zero => intro _ _; rfl
  | succ n ih =>
    intro hn h
    show sL (fun c => (f c).toInt64) n + (f n).toInt64 = lN (sumN L n + L n)
    rw [ih (by omega) (fun c hc => h c (by omega)), h n (by omega), nI_L (hb n (by omega)), lN_add]
end Pwr
