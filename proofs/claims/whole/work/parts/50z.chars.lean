/-! PURE (50z): characters of a program, on both sides. -/
def dg (c : Nat) : Bool := decide (48 ≤ c ∧ c ≤ 57)
def lt' (c : Nat) : Bool := decide ((97 ≤ c ∧ c ≤ 122) ∨ (65 ≤ c ∧ c ≤ 90))
def sg' (c : Nat) : Bool := decide (c = 61 ∨ c = 59 ∨ c = 40 ∨ c = 41 ∨ c = 43 ∨ c = 45 ∨ c = 42 ∨ c = 60 ∨ c = 62 ∨ c = 63 ∨ c = 58)
/-- the name of one letter; 53: none -/
def nm1 (c : Nat) : Nat := if c = 108 then 10 else if c = 98 then 11 else if c = 112 then 12 else if c = 118 then 13 else if c = 114 then 14 else if c = 120 then 15 else if c = 102 then 46 else if c = 111 then 47 else if c = 104 then 48 else if c = 116 then 49 else if c = 107 then 50 else if c = 101 then 51 else if c = 109 then 52 else 53
/-- the name of a letter and a digit -/
def nm2 (c d : Nat) : Nat := if c = 115 then d else if c = 119 then 16 + d else if c = 99 then 26 + d else if c = 100 then 36 + d else 53
theorem ch_ok : ∀ c, c < 128 → cf_25_0 (nI c) = dg c ∧ cf_442_0 (nI c) = dg c ∧ cf_28_0 (nI c) = lt' c ∧ cf_441_0 (nI c) = lt' c ∧ cf_444_0 (nI c) = sg' c := by decide +kernel
theorem ch_sg : ∀ c, c < 128 → (decide (mz_ix (mz_i2c (nI c)) ([61, 59, 40, 41, 43, 45, 42, 60, 62, 63, 58]) 0 < 0)) = !(sg' c) := by decide +kernel
theorem ch_n1 : ∀ c, c < 128 → cf_30_0 (mz_i2c (nI c)) = nO 53 (nm1 c) := by decide +kernel
theorem ch_n2 : ∀ c, c < 128 → ∀ d, d < 10 → cf_31_0 (nI c) (nI d) = nO 53 (nm2 c d) := by decide +kernel
theorem ch_r1 {N : mz_N} : ∀ c, c < 128 → cf_446_108 (nI c) 1 N = nO 53 (nm1 c) := by
  have h : ∀ c, c < 128 → cf_446_108 (nI c) 1 (fun _ _ => 0, fun _ _ => 0) = nO 53 (nm1 c) := by decide +kernel
  intro c hc
  exact h c hc
