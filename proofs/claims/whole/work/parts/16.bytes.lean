/-! PURE (16): bytes. -/
def by8 (n : Nat) : Int32 := (nI n).toInt8.toInt32
def uv (x : Int64) : Nat := x.toBitVec.toNat
/-- the k-th byte of a long -/
def lb (v : Int64) (k : Nat) : Nat := uv v / 2 ^ (8 * k) % 256
theorem lb_lt (v : Int64) (k : Nat) : lb v k < 256 := Nat.mod_lt _ (by omega)
theorem by8_and : ∀ n, n < 256 → by8 n &&& 255 = nI n := sc_k8
theorem by8_nb (n : Nat) : mz_nb (by8 n) = by8 n := pk_vb (nI n)
theorem nb_nI (n : Nat) : mz_nb (nI n) = by8 n := vp_nar_byte (nI n)
theorem nb_i2b (x : Int32) : mz_nb (mz_i2b x) = x.toInt8.toInt32 := pk_vb x
theorem by8_0 : ∀ n, n < 256 → (by8 n = 0 ↔ n = 0) ∧ (by8 n = 1 ↔ n = 1) := by decide +kernel
theorem by8_and0 : ∀ n, n < 256 → (by8 n).toInt64 &&& 255 = lN n := by decide +kernel
theorem nI_bv (n : Nat) : (nI n).toBitVec = BitVec.ofNat 32 n := rfl
theorem lN_bv2 (n : Nat) : (lN n).toBitVec = BitVec.ofNat 64 n := rfl
theorem lb_bit {v : Int64} {k i : Nat} (hi : i < 8) : (lb v k).testBit i = v.toBitVec.getLsbD (8 * k + i) := by
  unfold lb uv
  rw [show (256 : Nat) = 2 ^ 8 from rfl, Nat.testBit_mod_two_pow, Nat.testBit_div_two_pow, BitVec.testBit_toNat]
  simp [hi, Nat.add_comm]
theorem sh_u : ∀ k, k < 64 → ((nI k).toInt64.toUInt64 &&& Int64.toUInt64 63).toBitVec.toNat % 64 = k := by decide +kernel
theorem sh_s : ∀ k, k < 64 → (((nI k).toInt64 &&& 63).toBitVec.smod 64).toNat = k := by decide +kernel
theorem lushr_bv (v : Int64) {k : Nat} (hk : k < 64) : (mz_lushr v (nI k)).toBitVec = v.toBitVec >>> k := by
  show v.toBitVec >>> (((nI k).toInt64.toUInt64 &&& Int64.toUInt64 63).toBitVec % 64) = _
  rw [BitVec.ushiftRight_eq']
  congr 1
  rw [BitVec.toNat_umod]
  exact sh_u k hk
theorem lshr_bv (v : Int64) {k : Nat} (hk : k < 64) : (mz_lshr v (nI k)).toBitVec = v.toBitVec.sshiftRight k := by
  show v.toBitVec.sshiftRight' (((nI k).toInt64 &&& 63).toBitVec.smod 64) = _
  rw [BitVec.sshiftRight', sh_s k hk]
theorem lshl_bv (v : Int64) {k : Nat} (hk : k < 64) : (mz_lshl v (nI k)).toBitVec = v.toBitVec <<< k := by
  show v.toBitVec <<< (((nI k).toInt64 &&& 63).toBitVec.smod 64) = _
  rw [BitVec.shiftLeft_eq', sh_s k hk]
theorem lb_c {v : Int64} {k : Nat} (hk : k < 8) : ((mz_lushr v (8 * nI k)).toInt32) &&& 255 = nI (lb v k) := by
  rw [show (8 : Int32) = nI 8 from rfl, pk_mul]
  apply Int32.toBitVec_inj.mp
  rw [Int32.toBitVec_and, Int64.toBitVec_toInt32, lushr_bv v (by omega), nI_bv, show (255 : Int32).toBitVec = 255#32 from rfl]
  apply BitVec.eq_of_getLsbD_eq
  intro i hi
  rw [BitVec.getLsbD_and, BitVec.signExtend_eq_setWidth_of_le _ (by decide), BitVec.getLsbD_setWidth, BitVec.getLsbD_ushiftRight, BitVec.getLsbD_ofNat, BitVec.getLsbD_ofNat]
  by_cases h8 : i < 8
  · rw [lb_bit h8, show (255 : Nat) = 2 ^ 8 - 1 from rfl, Nat.testBit_two_pow_sub_one]
    simp [h8, hi]
  · rw [Nat.testBit_lt_two_pow (x := lb v k) (i := i) (Nat.lt_of_lt_of_le (lb_lt v k) (Nat.pow_le_pow_right (show 0 < 2 by decide) (show 8 ≤ i by omega))), show (255 : Nat) = 2 ^ 8 - 1 from rfl, Nat.testBit_two_pow_sub_one]
    simp [h8]
theorem lb_r {v : Int64} {k : Nat} (hk : k < 8) : mz_nb (mz_i2b ((mz_lshr v (8 * nI k)).toInt32)) = by8 (lb v k) := by
  rw [show (8 : Int32) = nI 8 from rfl, pk_mul, nb_i2b]
  unfold by8
  congr 1
  apply Int8.toBitVec_inj.mp
  rw [Int32.toBitVec_toInt8, Int32.toBitVec_toInt8, Int64.toBitVec_toInt32, lshr_bv v (by omega), nI_bv, BitVec.signExtend_eq_setWidth_of_le _ (by decide), BitVec.signExtend_eq_setWidth_of_le _ (by decide), BitVec.signExtend_eq_setWidth_of_le _ (by decide)]
  apply BitVec.eq_of_getLsbD_eq
  intro i hi
  rw [BitVec.getLsbD_setWidth, BitVec.getLsbD_setWidth, BitVec.getLsbD_setWidth, BitVec.getLsbD_sshiftRight, BitVec.getLsbD_ofNat, lb_bit hi]
  have h1 : ¬ 64 ≤ i := by omega
  have h2 : 8 * k + i < 64 := by omega
  have h3 : i < 32 := by omega
  simp [hi, h2, h3, show i < 64 by omega]
/-! numbers of several bytes -/
def num (d : Nat → Nat) (p : Nat) : Nat → Nat
  | 0 => 0
  | n + 1 => num d p n + d (p + n) * 2 ^ (8 * n)
theorem num_lt {d : Nat → Nat} {p : Nat} : ∀ {n : Nat}, (∀ i, i < n → d (p + i) < 256) → num d p n < 2 ^ (8 * n) := by
  intro n
  induction n with
  | zero => intro _; exact Nat.one_pos
  | succ n ih =>
    intro h
    have h1 := ih (fun i hi => h i (by omega))
    have h2 := h n (by omega)
    rw [num, show 8 * (n + 1) = 8 * n + 8 by omega, Nat.pow_add]
    generalize 2 ^ (8 * n) = w at *
    have : d (p + n) * w ≤ 255 * w := Nat.mul_le_mul_right _ (by omega)
    omega
theorem num_congr {d e : Nat → Nat} {p q : Nat} : ∀ {n : Nat}, (∀ i, i < n → d (p + i) = e (q + i)) → num d p n = num e q n := by
  intro n
  induction n with
  | zero => intro _; rfl
  | succ n ih => intro h; rw [num, num, ih (fun i hi => h i (by omega)), h n (by omega)]
/-- a number's bytes -/
theorem num_lb {v : Int64} {d : Nat → Nat} {p : Nat} : ∀ {n : Nat}, (∀ i, i < n → d (p + i) = lb v i) → num d p n = uv v % 2 ^ (8 * n) := by
  intro n
  induction n with
  | zero => intro _; rw [num, Nat.mul_zero, Nat.pow_zero, Nat.mod_one]
  | succ n ih =>
    intro h
    rw [num, ih (fun i hi => h i (by omega)), h n (by omega), show 8 * (n + 1) = 8 * n + 8 by omega, Nat.pow_add, Nat.mod_mul]
    unfold lb
    rw [show (2 : Nat) ^ 8 = 256 from rfl]
    congr 1
    exact Nat.mul_comm _ _
theorem uv_of (x : Int64) : x = lN (uv x) := Int64.toBitVec_inj.mp (by rw [lN_bv2]; unfold uv; simp)
theorem uv_lN {n : Nat} (h : n < 2 ^ 64) : uv (lN n) = n := by unfold uv; rw [lN_bv2, BitVec.toNat_ofNat]; exact Nat.mod_eq_of_lt h
theorem lN_or {a b k : Nat} (ha : a < 2 ^ k) : lN a ||| lN (b * 2 ^ k) = lN (a + b * 2 ^ k) := by
  apply Int64.toBitVec_inj.mp
  rw [Int64.toBitVec_or, lN_bv2, lN_bv2, lN_bv2]
  apply BitVec.eq_of_getLsbD_eq
  intro i hi
  rw [BitVec.getLsbD_or, BitVec.getLsbD_ofNat, BitVec.getLsbD_ofNat, BitVec.getLsbD_ofNat, show a + b * 2 ^ k = 2 ^ k * b + a by rw [Nat.mul_comm, Nat.add_comm], Nat.two_pow_add_eq_or_of_lt ha, Nat.testBit_or, Nat.mul_comm b]
  cases decide (i < 64) <;> simp [Bool.or_comm]
/-- reading: the class's, then the reference's -/
theorem rd_c {a n p k : Nat} {d : Nat → Nat} {N : mz_N} (hd : ∀ i, i < k → N.1 a (p + i) = nI (d (p + i)) ∧ d (p + i) < 256) (hp : p + k ≤ n) (hn : n < 2 ^ 30) (hk : k ≤ 8) : cp_61_0 a n (nI p) (nI k) N ∧ cf_61_0 a n (nI p) (nI k) N = mz_lshr (mz_lshl (lN (num d p k)) (64 - 8 * nI k)) (64 - 8 * nI k) := by
  refine mz_lps (f := cq_61_5 a n (nI p) (nI k) N) (P := cd_61_5 a n (nI p) (nI k) N) k (fun t => (lN (num d p t), nI t)) ?_ ?_ (Nat.zero_le k)
  · intro t ht
    obtain ⟨h1, h2⟩ := hd t ht
    have g1 : mz_gI N a (nI (p + t)) = nI (d (p + t)) := by rw [gI_a, nI_clamp (by omega), h1]
    have g2 : mz_lshl ((nI (d (p + t))).toInt64) (8 * nI t) = lN (d (p + t) * 2 ^ (8 * t)) := by
      rw [show (8 : Int32) = nI 8 from rfl, pk_mul, nI_l (by omega)]
      apply Int64.toBitVec_inj.mp
      rw [lshl_bv _ (by omega), lN_bv2, lN_bv2]
      apply BitVec.eq_of_toNat_eq
      rw [BitVec.toNat_shiftLeft, BitVec.toNat_ofNat, BitVec.toNat_ofNat, Nat.shiftLeft_eq, Nat.mod_eq_of_lt (show d (p + t) < 2 ^ 64 by omega)]
    have hl := num_lt (d := d) (p := p) (n := t) (fun i hi => (hd i (by omega)).2)
    simp (disch := omega) only [cd_61_5, cq_61_5, nI_ltI, ht, nI_add, g1, g2, lN_or hl, nI_1, ib_i, num, not_false_eq_true, not_true_eq_false, if_true, if_false, true_implies, false_implies, implies_true, and_true, true_and]
    omega
  · simp (disch := omega) only [cd_61_5, cq_61_5, nI_ltI, Nat.lt_irrefl, not_false_eq_true, not_true_eq_false, if_true, if_false, true_implies, false_implies, implies_true, and_true, true_and]
theorem rd_r {a n p k : Nat} {d : Nat → Nat} {N : mz_N} (hd : ∀ i, i < k → N.1 a (p + i) = by8 (d i) ∧ d i < 256) (hp : p + k ≤ n) (hn : n < 2 ^ 30) (hk : k ≤ 8) : cp_423_0 a n (nI p) (nI k) N ∧ cf_423_0 a n (nI p) (nI k) N = lN (num d 0 k) := by
  refine mz_lpn (f := cq_423_7 a n (nI p) N) (P := cd_423_7 a n (nI p) N) (Q := fun t => t = lN (num d 0 k)) k (fun t s => s = (lN (num (fun j => d (k - t + j)) 0 t), nI (k - t) - 1)) ?_ ?_ (Nat.zero_le k) (by rw [Nat.sub_zero]; rfl)
  · rintro t s ht rfl
    obtain ⟨j, hj⟩ : ∃ j, k - t = j + 1 := ⟨k - t - 1, by omega⟩
    have hj2 : k - (t + 1) = j := by omega
    obtain ⟨h1, h2⟩ := hd j (by omega)
    rw [hj, hj2, nI_pred]
    have g1 : ((mz_gI N a (nI (p + j))).toInt64) &&& 255 = lN (d j) := by rw [gI_a, nI_clamp (by omega), h1, by8_and0 _ h2]
    have g2 : mz_lshl (lN (num (fun i => d (j + 1 + i)) 0 t)) 8 ||| lN (d j) = lN (num (fun i => d (j + i)) 0 (t + 1)) := by
      have e1 : mz_lshl (lN (num (fun i => d (j + 1 + i)) 0 t)) 8 = lN (num (fun i => d (j + 1 + i)) 0 t * 2 ^ 8) := by
        rw [show (8 : Int32) = nI 8 from rfl]
        apply Int64.toBitVec_inj.mp
        rw [lshl_bv _ (by omega), lN_bv2, lN_bv2]
        apply BitVec.eq_of_toNat_eq
        rw [BitVec.toNat_shiftLeft, BitVec.toNat_ofNat, BitVec.toNat_ofNat, Nat.shiftLeft_eq, Nat.mod_mul_mod]
      have e2 : ∀ m, num (fun i => d (j + i)) 0 (m + 1) = d j + num (fun i => d (j + 1 + i)) 0 m * 2 ^ 8 := by
        intro m
        induction m with
        | zero => simp [num]
        | succ m ih =>
          rw [num, ih, num, Nat.add_mul, Nat.zero_add, Nat.zero_add, show j + (m + 1) = j + 1 + m by omega, Nat.mul_assoc (d (j + 1 + m)), ← Nat.pow_add, show 8 * (m + 1) = 8 * m + 8 by omega, Nat.add_assoc]
      rw [e1, e2, Int64.or_comm, lN_or (by omega)]
    simp (disch := omega) only [cd_423_7, cq_423_7, nI_lt0, nI_add, g1, g2, m1a, ib_i, not_false_eq_true, not_true_eq_false, if_true, if_false, true_implies, false_implies, implies_true, and_true, true_and]
    exact ⟨by omega, Or.inl ⟨_, rfl, rfl⟩⟩
  · rintro s rfl
    rw [Nat.sub_self]
    have : (nI 0 - 1 : Int32) < 0 := by decide
    simp only [cd_423_7, cq_423_7, this, Nat.zero_add, not_false_eq_true, not_true_eq_false, if_true, if_false, true_implies, false_implies, implies_true, and_true, true_and]
    exact ⟨_, rfl, rfl⟩
