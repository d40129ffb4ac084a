/-! PURE (45): what was laid into bytes is read again. -/
theorem orp_bit {w m : Nat} {f : Nat → Nat} (hwm : (w = 4 ∧ m = 2) ∨ (w = 2 ∧ m = 4)) (hf : ∀ t, f t < 2 ^ m) : ∀ n j q r, q < w → r < m → (orp w m f n j).testBit (m * q + r) = (decide (w * j + q < n) && (f (w * j + q)).testBit r) := by
  intro n
  induction n with
  | zero => intro j q r hq hr; rw [show orp w m f 0 j = 0 from rfl]; simp
  | succ n ih =>
    intro j q r hq hr
    rw [orp_s, up_d]
    have hfn := hf n
    by_cases e : j = n / w
    · rw [if_pos e, Nat.testBit_or, ← e, ih j q r hq hr, Nat.testBit_shiftLeft]
      by_cases e2 : q = n % w
      · have e3 : w * j + q = n := by rw [e, e2]; exact Nat.div_add_mod n w
        rw [e3, ← e2]
        simp
      · have hn : w * j + q ≠ n := by
          intro h
          apply e2
          rw [← h, Nat.mul_add_mod, Nat.mod_eq_of_lt hq]
        have hd : decide (w * j + q < n + 1) = decide (w * j + q < n) := by
          rw [decide_eq_decide]; omega
        rw [hd]
        have hz : (decide (m * q + r ≥ m * (n % w)) && (f n).testBit (m * q + r - m * (n % w))) = false := by
          by_cases h1 : m * q + r ≥ m * (n % w)
          · have h2 : m ≤ m * q + r - m * (n % w) := by
              rcases hwm with ⟨rfl, rfl⟩ | ⟨rfl, rfl⟩ <;> omega
            have h3 : f n < 2 ^ (m * q + r - m * (n % w)) := Nat.lt_of_lt_of_le hfn (Nat.pow_le_pow_right (by omega) h2)
            rw [Nat.testBit_lt_two_pow h3, Bool.and_false]
          · rw [decide_eq_false h1, Bool.false_and]
        rw [hz, Bool.or_false]
    · rw [if_neg e, ih j q r hq hr]
      have hd : decide (w * j + q < n + 1) = decide (w * j + q < n) := by
        rw [decide_eq_decide]
        have : w * j + q ≠ n := by
          intro h
          apply e
          rw [← h, Nat.mul_add_div (by omega), Nat.div_eq_of_lt hq, Nat.add_zero]
        omega
      rw [hd]
theorem orp_at {w m : Nat} {f : Nat → Nat} (hwm : (w = 4 ∧ m = 2) ∨ (w = 2 ∧ m = 4)) (hf : ∀ t, f t < 2 ^ m) {n t : Nat} (ht : t < n) : orp w m f n (t / w) >>> (m * (t % w)) % 2 ^ m = f t := by
  apply Nat.eq_of_testBit_eq
  intro i
  rw [Nat.testBit_mod_two_pow, Nat.testBit_shiftRight]
  by_cases hi : i < m
  · rw [orp_bit hwm hf n (t / w) (t % w) i (Nat.mod_lt _ (by omega)) hi, Nat.div_add_mod t w]
    simp [hi, ht]
  · rw [decide_eq_false hi, Bool.false_and]
    exact (Nat.testBit_lt_two_pow (Nat.lt_of_lt_of_le (hf t) (Nat.pow_le_pow_right (by omega) (by omega)))).symm
theorem ex_3 : ∀ a, a < 256 → ∀ s, s < 8 → mz_ishr (nI a) (nI s) &&& 3 = nI (a >>> s % 2 ^ 2) := by decide +kernel
theorem ex_15 : ∀ a, a < 256 → ∀ s, s < 8 → mz_ishr (nI a) (nI s) &&& 15 = nI (a >>> s % 2 ^ 4) := by decide +kernel
theorem rv4 (x : Int32) : nI (uv x.toInt64 % 2 ^ 32) = x := by
  apply Int32.toBitVec_inj.mp
  rw [nI_bv]
  unfold uv
  rw [Int32.toBitVec_toInt64]
  apply BitVec.eq_of_toNat_eq
  rw [BitVec.toNat_ofNat, Nat.mod_mod]
  have h : (x.toBitVec.signExtend 64).setWidth 32 = x.toBitVec := by
    apply BitVec.eq_of_getLsbD_eq
    intro i hi
    simp [BitVec.getLsbD_signExtend, hi]
    omega
  have h2 := congrArg BitVec.toNat h
  rw [BitVec.toNat_setWidth] at h2
  exact h2
theorem rv8 (v : Int64) : lN (uv v % 2 ^ 64) = v := by
  apply Int64.toBitVec_inj.mp
  rw [lN_bv2]
  unfold uv
  apply BitVec.eq_of_toNat_eq
  rw [BitVec.toNat_ofNat, Nat.mod_mod]
  exact Nat.mod_eq_of_lt v.toBitVec.isLt
/-- a number of two bytes -/
def i16 (x : Int32) : Prop := x.toInt16.toInt32 = x
theorem rv2 (x : Int32) : (nI (uv x.toInt64 % 2 ^ 16)).toInt16 = x.toInt16 := by
  apply Int16.toBitVec_inj.mp
  rw [Int32.toBitVec_toInt16, Int32.toBitVec_toInt16, nI_bv]
  unfold uv
  rw [Int32.toBitVec_toInt64]
  apply BitVec.eq_of_getLsbD_eq
  intro i hi
  rw [BitVec.getLsbD_signExtend, BitVec.getLsbD_signExtend, BitVec.getLsbD_ofNat, Nat.testBit_mod_two_pow, BitVec.testBit_toNat, BitVec.getLsbD_signExtend]
  simp [hi, show i < 32 by omega, show i < 64 by omega]
