/-! PURE (50zzzzzzzj): put: the house that a reel tells. -/
theorem num_inj {a c : Nat → Nat} {p q : Nat} : ∀ n, (∀ i, i < n → a (p + i) < 256) → (∀ i, i < n → c (q + i) < 256) → num a p n = num c q n → ∀ i, i < n → a (p + i) = c (q + i) := by
  intro n
  induction n with
  | zero => intro _ _ _ i hi; exact absurd hi (Nat.not_lt_zero _)
  | succ n ih =>
    intro ha hc e i hi
    have e' : num a p n + a (p + n) * 2 ^ (8 * n) = num c q n + c (q + n) * 2 ^ (8 * n) := e
    have l1 := num_lt (n := n) (fun i hi => ha i (by omega))
    have l2 := num_lt (n := n) (fun i hi => hc i (by omega))
    generalize 2 ^ (8 * n) = P at e' l1 l2
    have hP : 0 < P := by omega
    have m1 : (num a p n + a (p + n) * P) % P = num a p n := by rw [Nat.add_mul_mod_self_right, Nat.mod_eq_of_lt l1]
    have m2 : (num c q n + c (q + n) * P) % P = num c q n := by rw [Nat.add_mul_mod_self_right, Nat.mod_eq_of_lt l2]
    have e1 : num a p n = num c q n := by rw [← m1, e', m2]
    have e2 : a (p + n) * P = c (q + n) * P := by omega
    by_cases w : i = n
    · rw [w]; exact Nat.eq_of_mul_eq_mul_right hP e2
    · exact ih (fun i hi => ha i (by omega)) (fun i hi => hc i (by omega)) e1 i (by omega)
theorem lb_of {v : Int64} {g : Nat → Nat} {p n : Nat} (hg : ∀ j, g j < 256) (h : uv v % 2 ^ (8 * n) = num g p n) : ∀ i, i < n → lb v i = g (p + i) := fun i hi => by
  have e : num (fun i => lb v i) 0 n = num g p n := by rw [← h]; exact num_lb (fun i _ => by show lb v (0 + i) = lb v i; rw [Nat.zero_add])
  have := num_inj n (fun i _ => lb_lt _ _) (fun i _ => hg _) e i hi
  rw [← this]
  show lb v i = lb v (0 + i)
  rw [Nat.zero_add]
def w4 (g : Nat → Nat) (p : Nat) : Int32 := nI (num g p 4)
def w2 (g : Nat → Nat) (p : Nat) : Int32 := (nI (num g p 2)).toInt16.toInt32
def w8 (g : Nat → Nat) (p : Nat) : Int64 := lN (num g p 8)
section Wd
variable {g f : Nat → Nat} {p : Nat}
theorem w4_b (hg : ∀ j, g j < 256) : ∀ i, i < 4 → lb (w4 g p).toInt64 i = g (p + i) := lb_of (n := 4) hg (by
  have l : num g p 4 < 2 ^ 32 := num_lt (n := 4) (fun i _ => hg _)
  have := rv4 (w4 g p)
  unfold w4 at this ⊢
  exact (nI_e32 (Nat.mod_lt _ (by omega)) l).mp this)
theorem w8_b (hg : ∀ j, g j < 256) : ∀ i, i < 8 → lb (w8 g p) i = g (p + i) := lb_of (n := 8) hg (by
  have l : num g p 8 < 2 ^ 64 := num_lt (n := 8) (fun i _ => hg _)
  unfold w8
  rw [uv_lN l, Nat.mod_eq_of_lt l])
theorem nI16 {x y : Nat} (hx : x < 2 ^ 16) (hy : y < 2 ^ 16) (h : (nI x).toInt16 = (nI y).toInt16) : x = y := by
  have h1 : (nI x).toInt16.toBitVec.toNat = (nI y).toInt16.toBitVec.toNat := by rw [h]
  rw [Int32.toBitVec_toInt16, Int32.toBitVec_toInt16, nI_bv, nI_bv, BitVec.signExtend_eq_setWidth_of_le _ (by decide), BitVec.signExtend_eq_setWidth_of_le _ (by decide), BitVec.toNat_setWidth, BitVec.toNat_setWidth, BitVec.toNat_ofNat, BitVec.toNat_ofNat] at h1
  omega
theorem w2_16 : (w2 g p).toInt16 = (nI (num g p 2)).toInt16 := by unfold w2; exact Int16.toInt16_toInt32 _
theorem w2_b (hg : ∀ j, g j < 256) : ∀ i, i < 2 → lb (w2 g p).toInt64 i = g (p + i) := lb_of (n := 2) hg (by
  have l : num g p 2 < 2 ^ 16 := num_lt (n := 2) (fun i _ => hg _)
  have := rv2 (w2 g p)
  rw [w2_16] at this
  exact nI16 (Nat.mod_lt _ (by omega)) l this)
theorem pb_g {n : Nat} {v : Int64} (h : ∀ i, i < n → lb v i = g (p + i)) : pb f p n v = fun j => if p ≤ j ∧ j < p + n then g j else f j := funext fun j => by
  unfold pb
  by_cases w : p ≤ j ∧ j < p + n
  · rw [if_pos w, if_pos w, h (j - p) (by omega), show p + (j - p) = j by omega]
  · rw [if_neg w, if_neg w]
theorem orp1 (hg : ∀ j, g j < 256) (h27 : g 27 < 16) {j : Nat} (hj : j < 28) : orp 4 2 (fun t => g (t / 4) >>> (2 * (t % 4)) % 2 ^ 2) 110 j = g j := by
  apply Nat.eq_of_testBit_eq
  intro i
  by_cases hi : i < 8
  · have e := orp_bit (w := 4) (m := 2) (f := fun t => g (t / 4) >>> (2 * (t % 4)) % 2 ^ 2) (Or.inl ⟨rfl, rfl⟩) (fun t => Nat.mod_lt _ (by omega)) 110 j (i / 2) (i % 2) (by omega) (by omega)
    rw [show 2 * (i / 2) + i % 2 = i by omega] at e
    rw [e]
    show (decide (4 * j + i / 2 < 110) && (g ((4 * j + i / 2) / 4) >>> (2 * ((4 * j + i / 2) % 4)) % 2 ^ 2).testBit (i % 2)) = (g j).testBit i
    rw [show (4 * j + i / 2) / 4 = j by omega, show (4 * j + i / 2) % 4 = i / 2 by omega, Nat.testBit_mod_two_pow, Nat.testBit_shiftRight, show 2 * (i / 2) + i % 2 = i by omega, decide_eq_true (show i % 2 < 2 by omega), Bool.true_and]
    by_cases w : 4 * j + i / 2 < 110
    · rw [decide_eq_true w, Bool.true_and]
    · rw [decide_eq_false w, Bool.false_and]
      have e27 : j = 27 := by omega
      rw [e27]
      exact (Nat.testBit_lt_two_pow (Nat.lt_of_lt_of_le (show g 27 < 2 ^ 4 from h27) (Nat.pow_le_pow_right (by omega) (by omega)))).symm
  · rw [Nat.testBit_lt_two_pow (Nat.lt_of_lt_of_le (orp_lt (w := 4) (m := 2) (B := 0) (fun t => Nat.mod_lt _ (by omega)) (by omega) (by omega) 110 j) (show 2 ^ 8 ≤ 2 ^ i from Nat.pow_le_pow_right (by omega) (by omega))), Nat.testBit_lt_two_pow (Nat.lt_of_lt_of_le (hg j) (show 2 ^ 8 ≤ 2 ^ i from Nat.pow_le_pow_right (by omega) (by omega)))]
theorem orp2 (hg : ∀ j, g j < 256) (hb : blk g 24) {j : Nat} (hj : j < 28) : orp 2 4 (fun t => g (t / 2) >>> (4 * (t % 2)) % 2 ^ 4) 48 j = g j := by
  apply Nat.eq_of_testBit_eq
  intro i
  by_cases hi : i < 8
  · have e := orp_bit (w := 2) (m := 4) (f := fun t => g (t / 2) >>> (4 * (t % 2)) % 2 ^ 4) (Or.inr ⟨rfl, rfl⟩) (fun t => Nat.mod_lt _ (by omega)) 48 j (i / 4) (i % 4) (by omega) (by omega)
    rw [show 4 * (i / 4) + i % 4 = i by omega] at e
    rw [e]
    show (decide (2 * j + i / 4 < 48) && (g ((2 * j + i / 4) / 2) >>> (4 * ((2 * j + i / 4) % 2)) % 2 ^ 4).testBit (i % 4)) = (g j).testBit i
    rw [show (2 * j + i / 4) / 2 = j by omega, show (2 * j + i / 4) % 2 = i / 4 by omega, Nat.testBit_mod_two_pow, Nat.testBit_shiftRight, show 4 * (i / 4) + i % 4 = i by omega, decide_eq_true (show i % 4 < 4 by omega), Bool.true_and]
    by_cases w : 2 * j + i / 4 < 48
    · rw [decide_eq_true w, Bool.true_and]
    · rw [decide_eq_false w, Bool.false_and, hb j (by omega) hj, Nat.zero_testBit]
  · rw [Nat.testBit_lt_two_pow (Nat.lt_of_lt_of_le (orp_lt (w := 2) (m := 4) (B := 0) (fun t => Nat.mod_lt _ (by omega)) (by omega) (by omega) 48 j) (show 2 ^ 8 ≤ 2 ^ i from Nat.pow_le_pow_right (by omega) (by omega))), Nat.testBit_lt_two_pow (Nat.lt_of_lt_of_le (hg j) (show 2 ^ 8 ≤ 2 ^ i from Nat.pow_le_pow_right (by omega) (by omega)))]
theorem wrd_o {h : Nat → Int64} : ∀ n j, 2 * n ≤ j → wrd h n j = 0 := by
  intro n
  induction n with
  | zero => intro j _; rfl
  | succ n ih =>
    intro j hj
    rw [wrd_s]
    show (if 2 * n ≤ j ∧ j < 2 * n + 2 then _ else wrd h n j) = 0
    rw [if_neg (by omega)]; exact ih j (by omega)
theorem wrd_g (hg : ∀ j, g j < 256) {n : Nat} (hb : blk g (2 * n)) (hn : 2 * n ≤ 28) {j : Nat} (hj : j < 28) : wrd (fun t => (w2 g (2 * t)).toInt64) n j = g j := by
  by_cases w : j < 2 * n
  · have := wrd_at (f := fun t => (w2 g (2 * t)).toInt64) (n := n) (t := j / 2) (by omega) (j % 2) (by omega)
    rw [show 2 * (j / 2) + j % 2 = j by omega] at this
    rw [this, w2_b hg (j % 2) (by omega), show 2 * (j / 2) + j % 2 = j by omega]
  · rw [wrd_o n j (by omega), hb j (by omega) hj]
theorem cut_g {n : Nat} (hb : blk g n) {j : Nat} (hj : j < 28) : cut n g j = g j := by
  unfold cut
  by_cases w : j < n
  · rw [if_pos w]
  · rw [if_neg w, hb j (by omega) hj]
theorem num_z {n : Nat} (h : ∀ i, i < n → g (p + i) = 0) : num g p n = 0 := by
  induction n with
  | zero => rfl
  | succ n ih =>
    show num g p n + g (p + n) * 2 ^ (8 * n) = 0
    rw [ih (fun i hi => h i (by omega)), h n (by omega), Nat.zero_mul]
end Wd
