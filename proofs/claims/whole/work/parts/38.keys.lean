/-! PURE (38): the kept things, their bytes; the class makes them. -/
/-- kept things: small numbers, ints, longs; each by its field and place -/
abbrev Kp : Type := (Nat → Nat → Nat) × (Nat → Nat → Int32) × (Nat → Nat → Int64)
/-- the bytes of a key -/
def kx (H : Kp) (kd ix : Nat) : Nat → Nat :=
  if kd = 1 then orp 4 2 (fun t => H.1 0 (110 * ix + t)) 110
  else if kd = 2 then orp 2 4 (fun t => H.1 1 (48 * ix + t)) 48
  else if kd = 3 then cut 24 (fun t => H.1 2 (24 * ix + t))
  else if kd = 4 then wrd (fun t => (H.2.1 0 (12 * ix + t)).toInt64) 12
  else if kd = 5 then cut 24 (fun t => H.1 3 (24 * ix + t))
  else if kd = 6 then (if ix = 7 then up (fun _ => 0) 0 (H.1 5 0) else cut 28 (fun t => H.1 4 (28 * ix + t)))
  else if kd = 7 then (if ix = 0 then wrd (fun t => (H.2.1 1 t).toInt64) 11 else cut 11 (H.1 6))
  else if kd = 8 then pb (pb (pb (pb (pb (fun _ => 0) 0 8 (H.2.2 0 ix)) 8 8 (H.2.2 1 ix)) 16 4 (H.2.1 2 ix).toInt64) 20 4 (H.2.1 3 ix).toInt64) 24 4 (H.2.1 4 ix).toInt64
  else if kd = 9 then pb (pb (pb (pb (pb (fun _ => 0) 0 4 (H.2.1 5 0).toInt64) 4 8 (H.2.2 2 0)) 12 8 (H.2.2 2 1)) 20 4 (H.2.1 5 1).toInt64) 24 4 (H.2.1 5 2).toInt64
  else if kd = 10 then pb (pb (pb (pb (pb (pb (fun _ => 0) 0 4 (H.2.1 3 10).toInt64) 4 4 (H.2.1 2 10).toInt64) 8 4 (H.2.1 6 0).toInt64) 12 4 (H.2.1 6 1).toInt64) 16 4 (H.2.1 6 2).toInt64) 20 4 (H.2.1 6 3).toInt64
  else if kd = 11 then up (pb (pb (pb (fun _ => 0) 0 4 (H.2.1 7 ix).toInt64) 4 4 (H.2.1 8 ix).toInt64) 8 4 (H.2.1 9 ix).toInt64) 12 (H.1 7 ix)
  else if kd = 12 then (if H.1 8 ix = 0 then (fun _ => 0) else pb (pb (up (up (up (up (fun _ => 0) 0 1) 1 (H.1 9 ix)) 2 (H.1 10 ix)) 3 (H.1 11 ix)) 4 4 (H.2.1 10 ix).toInt64) 8 4 (H.2.1 11 ix).toInt64)
  else if kd = 13 then up (up (up (fun _ => 0) 0 1) 1 (H.1 13 ix)) 2 (H.1 14 ix)
  else if kd = 14 then pb (up (up (up (up (fun _ => 0) 0 1) 1 (H.1 16 ix)) 2 (H.1 17 ix)) 3 (H.1 18 ix)) 4 4 (H.2.1 12 ix).toInt64
  else up (up (up (fun _ => 0) 0 1) 1 (H.1 20 ix)) 2 (H.1 21 ix)
/-- is there such a key to be written -/
def kxt (H : Kp) (kd ix : Nat) : Prop := (kd = 13 → H.1 12 ix = 1) ∧ (kd = 14 → H.1 15 ix = 1) ∧ (kd = 15 → H.1 19 ix = 1)
/-- bounds of kept things -/
def kpb (H : Kp) : Prop := (∀ j, H.1 0 j < 4) ∧ (∀ j, H.1 1 j < 16) ∧ (∀ j, H.1 2 j < 256) ∧ (∀ j, H.1 3 j < 256) ∧ H.1 5 0 ≤ 196 ∧ (∀ j, H.1 4 j < 128) ∧ (∀ j, H.1 5 0 ≤ j → H.1 4 j = 0) ∧ (∀ j, H.1 6 j < 256) ∧ (∀ j, H.1 7 j ≤ 1) ∧ (∀ j, H.1 8 j ≤ 1) ∧ (∀ j, H.1 9 j < 256 ∧ H.1 10 j < 256 ∧ H.1 11 j < 256) ∧ (∀ j, H.1 12 j ≤ 1) ∧ (∀ j, H.1 13 j < 256 ∧ H.1 14 j < 256) ∧ (∀ j, H.1 15 j ≤ 1) ∧ (∀ j, H.1 16 j < 256 ∧ H.1 17 j < 256 ∧ H.1 18 j ≤ 1) ∧ (∀ j, H.1 19 j ≤ 1) ∧ ∀ j, H.1 20 j < 256 ∧ H.1 21 j < 256
/-- the class keeps them -/
def c_kp (N : mz_N) (b : Bool) (H : Kp) : Prop :=
  (∀ j, j < 550 → N.1 3 j = nI (H.1 0 j)) ∧ (∀ j, j < 240 → N.1 37 j = nI (H.1 1 j)) ∧ (∀ j, j < 240 → N.1 40 j = nI (H.1 2 j)) ∧ (∀ j, j < 24 → N.1 66 j = H.2.1 0 j) ∧ (∀ j, j < 96 → N.1 67 j = nI (H.1 3 j)) ∧
  N.1 (mz_lv b) 1 = nI (H.1 5 0) ∧ (∀ j, j < H.1 5 0 → N.1 (mz_lv b + 1) j = nI (H.1 4 j)) ∧ (∀ j, j < 11 → N.1 62 j = H.2.1 1 j ∧ N.1 63 j = nI (H.1 6 j)) ∧
  (∀ j, j < 11 → N.1 210 j = H.2.1 2 j ∧ N.1 211 j = H.2.1 3 j ∧ N.1 212 j = H.2.1 4 j) ∧ (∀ j, j < 10 → N.2 213 j = H.2.2 0 j ∧ N.2 214 j = H.2.2 1 j) ∧
  (N.1 208 0 = H.2.1 5 0 ∧ N.2 208 1 = H.2.2 2 0 ∧ N.2 208 2 = H.2.2 2 1 ∧ N.1 208 3 = H.2.1 5 1 ∧ N.1 208 4 = H.2.1 5 2) ∧ (∀ j, j < 4 → N.1 215 j = H.2.1 6 j) ∧
  (∀ j, j < 3 → N.1 125 j = H.2.1 7 j ∧ N.1 126 j = H.2.1 8 j ∧ N.1 127 j = H.2.1 9 j ∧ N.1 128 j = nI (H.1 7 j)) ∧
  (∀ j, j < 16 → N.1 123 j = nI (H.1 8 j) ∧ (H.1 8 j = 1 → N.1 118 j = nI (H.1 9 j) ∧ N.1 119 j = nI (H.1 10 j) ∧ N.1 120 j = nI (H.1 11 j) ∧ N.1 121 j = H.2.1 10 j ∧ N.1 117 j = H.2.1 11 j)) ∧
  (∀ j, j < 20 → N.1 101 j = nI (H.1 12 j) ∧ (H.1 12 j = 1 → N.1 102 j = nI (H.1 13 j) ∧ N.1 103 j = nI (H.1 14 j))) ∧
  (∀ j, j < 40 → N.1 104 j = nI (H.1 15 j) ∧ (H.1 15 j = 1 → N.1 105 j = nI (H.1 16 j) ∧ N.1 106 j = nI (H.1 17 j) ∧ N.1 107 j = nI (H.1 18 j) ∧ N.1 108 j = H.2.1 12 j)) ∧
  ∀ j, j < 8 → N.1 87 j = nI (H.1 19 j) ∧ (H.1 19 j = 1 → N.1 88 j = nI (H.1 20 j) ∧ N.1 89 j = nI (H.1 21 j))
theorem orp_s (w m : Nat) (f : Nat → Nat) (n : Nat) : orp w m f (n + 1) = up (orp w m f n) (n / w) (orp w m f n (n / w) ||| f n <<< (m * (n % w))) := rfl
theorem wrd_s (f : Nat → Int64) (n : Nat) : wrd f (n + 1) = pb (wrd f n) (2 * n) 2 (f n) := rfl
theorem orp_lt {w m B : Nat} {f : Nat → Nat} (hf : ∀ t, f t < 2 ^ m) (hw : 0 < w) (hm : m * w ≤ 8) : ∀ n j, orp w m f n j < 256 := by
  intro n
  induction n with
  | zero => intro j; exact (show (0 : Nat) < 256 by omega)
  | succ n ih =>
    intro j
    rw [orp_s, up_d]
    split
    · refine Nat.or_lt_two_pow (n := 8) (ih _) ?_
      rw [Nat.shiftLeft_eq]
      have h1 := Nat.mod_lt n hw
      have h2 : m * (n % w) + m ≤ 8 := by
        have : m * (n % w) + m = m * (n % w + 1) := by rw [Nat.mul_add, Nat.mul_one]
        rw [this]
        exact Nat.le_trans (Nat.mul_le_mul_left m h1) hm
      have h3 : f n * 2 ^ (m * (n % w)) < 2 ^ m * 2 ^ (m * (n % w)) := Nat.mul_lt_mul_of_pos_right (hf n) (Nat.two_pow_pos _)
      rw [← Nat.pow_add] at h3
      exact Nat.lt_of_lt_of_le h3 (Nat.pow_le_pow_right (by omega) (by omega))
    · exact ih j
theorem or_c : ∀ b, b < 16 → ∀ c, c < 8 → mz_ishl (nI b) (nI c) = nI (b <<< c) := by decide +kernel
theorem or_n (a b : Nat) : nI a ||| nI b = nI (a ||| b) := by
  apply Int32.toBitVec_inj.mp
  rw [Int32.toBitVec_or, nI_bv, nI_bv, nI_bv]
  apply BitVec.eq_of_getLsbD_eq
  intro i hi
  rw [BitVec.getLsbD_or, BitVec.getLsbD_ofNat, BitVec.getLsbD_ofNat, BitVec.getLsbD_ofNat, Nat.testBit_or]
  simp [hi]
