/-! PURE (50zzzzzzf): the next order. -/
/-- one behind the place that gives way, looked for from k on (0: none) -/
def pv (a : Nat → Nat) : Nat → Nat
  | 0 => 0
  | k + 1 => if a (k + 1) < a k then pv a k else k + 1
/-- the last place with no less than v -/
def jv (a : Nat → Nat) (v : Nat) : Nat → Nat
  | 0 => 0
  | k + 1 => if a (k + 1) < v then jv a v k else k + 1
def swp (a : Nat → Nat) (i j : Nat) : Nat → Nat := fun m => if m = i then a j else if m = j then a i else a m
/-- the order behind a, where p gives way -/
def nxa (n : Nat) (a : Nat → Nat) (p : Nat) : Nat → Nat := fun m => if p + 1 ≤ m ∧ m < n then swp a p (jv a (a p) (n - 1)) (p + n - m) else swp a p (jv a (a p) (n - 1)) m
def gd (l : List Nat) : Nat → Nat := fun i => l.getD i 0
def nxl (n : Nat) (l : List Nat) : Option (List Nat) := if pv (gd l) (n - 1) = 0 then none else some ((List.range n).map (nxa n (gd l) (pv (gd l) (n - 1) - 1)))
def chn (n : Nat) : List (List Nat) → Bool
  | [] => true
  | p :: r => decide (p.length = n) && (p.all (fun x => decide (x < n)) && ((match r with | [] => decide (nxl n p = none) | q :: _ => decide (nxl n p = some q)) && chn n r))
theorem chn_1 : chn 1 (pms 1 (List.range 1)) = true := by decide +kernel
theorem chn_2 : chn 2 (pms 2 (List.range 2)) = true := by decide +kernel
theorem chn_3 : chn 3 (pms 3 (List.range 3)) = true := by decide +kernel
theorem chn_4 : chn 4 (pms 4 (List.range 4)) = true := by decide +kernel
theorem chn_5 : chn 5 (pms 5 (List.range 5)) = true := by decide +kernel
theorem chn_6 : chn 6 (pms 6 (List.range 6)) = true := by decide +kernel
theorem chn_ok {n : Nat} (h1 : 1 ≤ n) (h6 : n ≤ 6) : chn n (pms n (List.range n)) = true := by
  rcases (show n = 1 ∨ n = 2 ∨ n = 3 ∨ n = 4 ∨ n = 5 ∨ n = 6 by omega) with w | w | w | w | w | w <;> subst w
  · exact chn_1
  · exact chn_2
  · exact chn_3
  · exact chn_4
  · exact chn_5
  · exact chn_6
theorem pms_hd {n : Nat} (h1 : 1 ≤ n) (h6 : n ≤ 6) : (pms n (List.range n)).head? = some (List.range n) ∧ (pms n (List.range n)).length ≤ 720 := by
  rcases (show n = 1 ∨ n = 2 ∨ n = 3 ∨ n = 4 ∨ n = 5 ∨ n = 6 by omega) with w | w | w | w | w | w <;> subst w <;> decide +kernel
theorem chn_c {n : Nat} {p : List Nat} {r : List (List Nat)} (h : chn n (p :: r) = true) : p.length = n ∧ (∀ i, i < n → gd p i < n) ∧ (r = [] → nxl n p = none) ∧ (∀ q t, r = q :: t → nxl n p = some q) ∧ chn n r = true := by
  have mem : p.length = n → p.all (fun x => decide (x < n)) = true → ∀ i, i < n → gd p i < n := fun h1 h2 i hi => by
    have : p.getD i 0 ∈ p := by
      rw [List.getD_eq_getElem?_getD, List.getElem?_eq_getElem (by omega)]
      exact List.getElem_mem _
    exact of_decide_eq_true (List.all_eq_true.mp h2 _ this)
  cases r with
  | nil =>
    have h' : (decide (p.length = n) && (p.all (fun x => decide (x < n)) && (decide (nxl n p = none) && true))) = true := h
    simp only [Bool.and_eq_true] at h'
    obtain ⟨h1, h2, h3, _⟩ := h'
    have h1' := of_decide_eq_true h1
    exact ⟨h1', mem h1' h2, fun _ => of_decide_eq_true h3, fun q t e => (by cases e), rfl⟩
  | cons q t =>
    have h' : (decide (p.length = n) && (p.all (fun x => decide (x < n)) && (decide (nxl n p = some q) && chn n (q :: t)))) = true := h
    simp only [Bool.and_eq_true] at h'
    obtain ⟨h1, h2, h3, h4⟩ := h'
    have h1' := of_decide_eq_true h1
    exact ⟨h1', mem h1' h2, fun e => (by cases e), fun q' t' e => (by cases e; exact of_decide_eq_true h3), h4⟩
theorem pv_le {a : Nat → Nat} : ∀ k, pv a k ≤ k := by
  intro k
  induction k with
  | zero => exact Nat.le_refl _
  | succ k ih => rw [pv]; split; omega; exact Nat.le_refl _
theorem pv_up {a : Nat → Nat} : ∀ k, 0 < pv a k → ¬ a (pv a k) < a (pv a k - 1) := by
  intro k
  induction k with
  | zero => intro h; exact absurd h (Nat.not_lt_zero _)
  | succ k ih =>
    intro h
    rw [pv] at h ⊢
    by_cases w : a (k + 1) < a k
    · rw [if_pos w] at h ⊢; exact ih h
    · rw [if_neg w]; exact w
theorem jv_le {a : Nat → Nat} {v : Nat} : ∀ k, jv a v k ≤ k := by
  intro k
  induction k with
  | zero => exact Nat.le_refl _
  | succ k ih => rw [jv]; split; omega; exact Nat.le_refl _
theorem jv_ge {a : Nat → Nat} {v m : Nat} (hm : ¬ a m < v) : ∀ k, m ≤ k → m ≤ jv a v k := by
  intro k
  induction k with
  | zero => intro h; omega
  | succ k ih =>
    intro h
    rw [jv]
    by_cases w : a (k + 1) < v
    · rw [if_pos w]
      by_cases e : m = k + 1
      · rw [e] at hm; exact absurd w hm
      · exact ih (by omega)
    · rw [if_neg w]; exact h
