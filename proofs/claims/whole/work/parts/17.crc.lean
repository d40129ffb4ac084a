/-! PURE (17): check sums; numbers are written and read. -/
def crP : Nat := 3988292384
def fN (X : Nat) : Nat := X / 2 ^^^ (if X % 2 = 1 then crP else 0)
theorem xor_d (a b k : Nat) : (a ^^^ b) / 2 ^ k = a / 2 ^ k ^^^ b / 2 ^ k := Nat.xor_div_two_pow
theorem xor_m (a b k : Nat) : (a ^^^ b) % 2 ^ k = a % 2 ^ k ^^^ b % 2 ^ k := Nat.xor_mod_two_pow
theorem xor_d2 (a b : Nat) : (a ^^^ b) / 2 = a / 2 ^^^ b / 2 := xor_d a b 1
theorem xor_m2 (a b : Nat) (h : b % 2 = 0) : (a ^^^ b) % 2 = a % 2 := by
  have := xor_m a b 1
  rw [Nat.pow_one] at this
  rw [this, h, Nat.xor_zero]
def crc (b : Nat) : Nat := if b = 1 then crP else 0
theorem crc_e (b : Nat) : crc b % 2 = 0 ∧ crc b / 2 % 2 = 0 ∧ crc b / 2 / 2 % 2 = 0 := by
  unfold crc; split <;> decide
theorem fN_e (X : Nat) : fN X = X / 2 ^^^ crc (X % 2) := rfl
theorem fN_4 (X : Nat) : fN (fN (fN (fN X))) = X / 16 ^^^ (crc (X % 2) / 2 / 2 / 2 ^^^ crc (X / 2 % 2) / 2 / 2 ^^^ crc (X / 2 / 2 % 2) / 2 ^^^ crc (X / 2 / 2 / 2 % 2)) := by
  have h0 := crc_e (X % 2)
  have h1 := crc_e (X / 2 % 2)
  have h2 := crc_e (X / 2 / 2 % 2)
  have e1 : fN X = X / 2 ^^^ crc (X % 2) := rfl
  have e2 : fN (fN X) = X / 2 / 2 ^^^ crc (X % 2) / 2 ^^^ crc (X / 2 % 2) := by
    rw [fN_e (fN X), e1, xor_m2 _ _ h0.1, xor_d2]
  have e3 : fN (fN (fN X)) = X / 2 / 2 / 2 ^^^ crc (X % 2) / 2 / 2 ^^^ crc (X / 2 % 2) / 2 ^^^ crc (X / 2 / 2 % 2) := by
    rw [fN_e (fN (fN X)), e2, xor_m2 _ _ h1.1, xor_m2 _ _ h0.2.1, xor_d2, xor_d2]
  rw [fN_e (fN (fN (fN X))), e3, xor_m2 _ _ h2.1, xor_m2 _ _ h1.2.1, xor_m2 _ _ h0.2.2, xor_d2, xor_d2, xor_d2, show X / 2 / 2 / 2 / 2 = X / 16 by omega]
  simp only [Nat.xor_assoc]
def crT (j : Nat) : Nat := crc (j % 2) / 2 / 2 / 2 ^^^ crc (j / 2 % 2) / 2 / 2 ^^^ crc (j / 2 / 2 % 2) / 2 ^^^ crc (j / 2 / 2 / 2 % 2)
theorem crT_ok : ∀ j, j < 16 → mz_xs (nI j) = nI (crT j) := by decide +kernel
theorem nI_xor (a b : Nat) : nI a ^^^ nI b = nI (a ^^^ b) := by
  apply Int32.toBitVec_inj.mp
  rw [Int32.toBitVec_xor, nI_bv, nI_bv, nI_bv]
  apply BitVec.eq_of_getLsbD_eq
  intro i hi
  rw [BitVec.getLsbD_xor, BitVec.getLsbD_ofNat, BitVec.getLsbD_ofNat, BitVec.getLsbD_ofNat, Nat.testBit_xor]
  cases a.testBit i <;> cases b.testBit i <;> simp [hi]
theorem crP_lt : crP < 2 ^ 32 := by decide
theorem crc_lt (b : Nat) : crc b < 2 ^ 32 := by unfold crc; split <;> decide
theorem fN_lt {X : Nat} (h : X < 2 ^ 32) : fN X < 2 ^ 32 := by
  rw [fN_e]
  exact Nat.xor_lt_two_pow (by omega) (crc_lt _)
theorem iushr_1 {n : Nat} (h : n < 2 ^ 32) : mz_iushr (nI n) 1 = nI (n / 2) := by
  have := pk_ushrN h 1 1 (by decide)
  exact this
theorem iushr_4 {n : Nat} (h : n < 2 ^ 32) : mz_iushr (nI n) 4 = nI (n / 16) := by
  have := pk_ushrN h 4 4 (by decide)
  exact this
theorem and_15 {n : Nat} (h : n < 2 ^ 32) : nI n &&& 15 = nI (n % 16) := pk_andN h 4 (by decide)
theorem and_1 {n : Nat} (h : n < 2 ^ 32) : nI n &&& 1 = nI (n % 2) := pk_andN h 1 (by decide)
/-- a byte into a sum -/
def cr8 (X : Nat) : Nat := fN (fN (fN (fN (fN (fN (fN (fN X)))))))
theorem cr8_lt {X : Nat} (h : X < 2 ^ 32) : cr8 X < 2 ^ 32 := fN_lt (fN_lt (fN_lt (fN_lt (fN_lt (fN_lt (fN_lt (fN_lt h)))))))
theorem nib {X : Nat} (h : X < 2 ^ 32) : mz_iushr (nI X) 4 ^^^ mz_xs (nI X &&& 15) = nI (fN (fN (fN (fN X)))) := by
  rw [iushr_4 h, and_15 h, crT_ok _ (Nat.mod_lt _ (by omega)), nI_xor, fN_4]
  congr 2
  unfold crT
  rw [show X % 16 % 2 = X % 2 by omega, show X % 16 / 2 % 2 = X / 2 % 2 by omega, show X % 16 / 2 / 2 % 2 = X / 2 / 2 % 2 by omega, show X % 16 / 2 / 2 / 2 % 2 = X / 2 / 2 / 2 % 2 by omega]
/-- the sum of n bytes from p on -/
def crs (d : Nat → Nat) (p : Nat) : Nat → Nat
  | 0 => 2 ^ 32 - 1
  | n + 1 => cr8 (crs d p n ^^^ d (p + n))
theorem crs_lt {d : Nat → Nat} {p : Nat} : ∀ {n : Nat}, (∀ i, i < n → d (p + i) < 256) → crs d p n < 2 ^ 32 := by
  intro n
  induction n with
  | zero => intro _; show 2 ^ 32 - 1 < 2 ^ 32; omega
  | succ n ih =>
    intro h
    rw [crs]
    exact cr8_lt (Nat.xor_lt_two_pow (ih (fun i hi => h i (by omega))) (by have := h n (by omega); omega))
theorem crs_congr {d e : Nat → Nat} {p q : Nat} : ∀ {n : Nat}, (∀ i, i < n → d (p + i) = e (q + i)) → crs d p n = crs e q n := by
  intro n
  induction n with
  | zero => intro _; rfl
  | succ n ih => intro h; rw [crs, crs, ih (fun i hi => h i (by omega)), h n (by omega)]
def crv (d : Nat → Nat) (p n : Nat) : Int32 := nI (crs d p n) ^^^ (-1)
theorem cr_c {a n p k : Nat} {d : Nat → Nat} {N : mz_N} (hd : ∀ i, i < k → N.1 a (p + i) = nI (d (p + i)) ∧ d (p + i) < 256) (hp : p + k ≤ n) (hn : n < 2 ^ 30) : cp_16_0 a n (nI p) (nI k) N ∧ cf_16_0 a n (nI p) (nI k) N = crv d p k := by
  refine mz_lps (f := cq_16_5 a n (nI p) (nI k) N) (P := cd_16_5 a n (nI p) (nI k) N) k (fun t => (nI (crs d p t), nI t)) ?_ ?_ (Nat.zero_le k)
  · intro t ht
    obtain ⟨h1, h2⟩ := hd t ht
    have hl := crs_lt (d := d) (p := p) (n := t) (fun i hi => (hd i (by omega)).2)
    have hx : crs d p t ^^^ d (p + t) < 2 ^ 32 := Nat.xor_lt_two_pow hl (by omega)
    have g1 : mz_gI N a (nI (p + t)) = nI (d (p + t)) := by rw [gI_a, nI_clamp (by omega), h1]
    have g2 := nib hx
    have g3 := nib (fN_lt (fN_lt (fN_lt (fN_lt hx))))
    simp (disch := omega) only [cd_16_5, cq_16_5, nI_ltI, ht, nI_add, g1, nI_xor, g2, g3, nI_1, not_false_eq_true, not_true_eq_false, if_true, if_false, true_implies, false_implies, implies_true, and_true, true_and]
    refine ⟨⟨?_, ?_, ?_⟩, rfl⟩
    · simp (disch := omega) only [ib_i]; omega
    · rw [and_15 hx]; exact ib_n (Nat.mod_lt _ (by omega)) (by omega)
    · rw [and_15 (fN_lt (fN_lt (fN_lt (fN_lt hx))))]; exact ib_n (Nat.mod_lt _ (by omega)) (by omega)
  · simp (disch := omega) only [cd_16_5, cq_16_5, nI_ltI, Nat.lt_irrefl, not_false_eq_true, not_true_eq_false, if_true, if_false, true_implies, false_implies, implies_true, and_true, true_and]
    rfl
theorem cr_r1 {a n : Nat} {v1 v2 v4 : Int32} {N : mz_N} {X : Nat} (hX : X < 2 ^ 32) : cp_413_27 a n v1 v2 (nI X) v4 0 N ∧ cf_413_27 a n v1 v2 (nI X) v4 0 N = .inl (nI (cr8 X), v4 + 1) := by
  have hst : ∀ Y t, Y < 2 ^ 32 → t < 8 → cd_413_27 a n v1 v2 v4 N (nI Y, nI t) ∧ cq_413_27 a n v1 v2 v4 N (nI Y, nI t) = .inl (nI (fN Y), nI (t + 1)) := by
    intro Y t hY ht
    have hm : Y % 2 < 2 := Nat.mod_lt _ (by omega)
    have hP : (-306674912 : Int32) = nI crP := by decide
    have hc : (nI Y &&& 1 = 1) ↔ Y % 2 = 1 := by rw [and_1 hY, show (1 : Int32) = nI 1 from rfl, nI_eq (by omega) (by omega)]
    by_cases h1 : Y % 2 = 1
    · simp (disch := omega) only [cd_413_27, cq_413_27, cf_413_54, cp_413_54, nI_ltI, (show (8 : Int32) = nI 8 from rfl), ht, hc, iushr_1 hY, h1, hP, nI_xor, nI_1, not_false_eq_true, not_true_eq_false, if_true, if_false, true_implies, false_implies, implies_true, and_true, true_and]
      rw [fN_e, h1]; rfl
    · simp (disch := omega) only [cd_413_27, cq_413_27, cf_413_54, cp_413_54, nI_ltI, (show (8 : Int32) = nI 8 from rfl), ht, hc, iushr_1 hY, h1, nI_1, not_false_eq_true, not_true_eq_false, if_true, if_false, true_implies, false_implies, implies_true, and_true, true_and]
      rw [fN_e, show Y % 2 = 0 by omega, show crc 0 = 0 from rfl, Nat.xor_zero]
  refine mz_lps (f := cq_413_27 a n v1 v2 v4 N) (P := cd_413_27 a n v1 v2 v4 N) 8 (fun t => (nI (it (fun _ => fN) t X), nI t)) ?_ ?_ (Nat.zero_le 8)
  · intro t ht
    have : it (fun _ => fN) t X < 2 ^ 32 := by
      clear ht
      induction t with
      | zero => exact hX
      | succ t ih => rw [it]; exact fN_lt ih
    exact hst _ t this ht
  · simp (disch := omega) only [cd_413_27, cq_413_27, nI_ltI, (show (8 : Int32) = nI 8 from rfl), Nat.lt_irrefl, not_false_eq_true, not_true_eq_false, if_true, if_false, true_implies, false_implies, implies_true, and_true, true_and]
    rfl
theorem cr_r {a n p k : Nat} {d : Nat → Nat} {N : mz_N} (hd : ∀ i, i < k → N.1 a (p + i) = by8 (d i) ∧ d i < 256) (hp : p + k ≤ n) (hn : n < 2 ^ 30) : cp_413_0 a n (nI p) (nI k) N ∧ cf_413_0 a n (nI p) (nI k) N = crv d 0 k := by
  refine mz_lps (f := cq_413_5 a n (nI p) (nI k) N) (P := cd_413_5 a n (nI p) (nI k) N) k (fun t => (nI (crs d 0 t), nI t)) ?_ ?_ (Nat.zero_le k)
  · intro t ht
    obtain ⟨h1, h2⟩ := hd t ht
    have hl := crs_lt (d := d) (p := 0) (n := t) (fun i hi => by rw [Nat.zero_add]; exact (hd i (by omega)).2)
    have hx : crs d 0 t ^^^ d t < 2 ^ 32 := Nat.xor_lt_two_pow hl (by omega)
    have g1 : mz_gI N a (nI (p + t)) &&& 255 = nI (d t) := by rw [gI_a, nI_clamp (by omega), h1, by8_and _ h2]
    obtain ⟨c1, c2⟩ := cr_r1 (a := a) (n := n) (v1 := nI p) (v2 := nI k) (v4 := nI t) (N := N) hx
    simp (disch := omega) only [cd_413_5, cq_413_5, nI_ltI, ht, nI_add, g1, nI_xor, c1, c2, nI_1, ib_i, crs, Nat.zero_add, not_false_eq_true, not_true_eq_false, if_true, if_false, true_implies, false_implies, implies_true, and_true, true_and]
    omega
  · simp (disch := omega) only [cd_413_5, cq_413_5, nI_ltI, Nat.lt_irrefl, not_false_eq_true, not_true_eq_false, if_true, if_false, true_implies, false_implies, implies_true, and_true, true_and]
    rfl
/-! numbers are written -/
theorem wr_c {a n p k : Nat} {v : Int64} {N : mz_N} (hp : p + k ≤ n) (hn : n < 2 ^ 30) (hk : k ≤ 8) : cp_14_0 a n (nI p) (nI k) v N ∧ ∃ f, cf_14_0 a n (nI p) (nI k) v N = mz_sI N a f ∧ ∀ j, f j = if p ≤ j ∧ j < p + k then nI (lb v (j - p)) else N.1 a j := by
  refine mz_lpn (f := cq_14_3 a n (nI p) (nI k) v) (P := cd_14_3 a n (nI p) (nI k) v) (Q := fun t => ∃ f, t = mz_sI N a f ∧ ∀ j, f j = if p ≤ j ∧ j < p + k then nI (lb v (j - p)) else N.1 a j) k (fun t s => ∃ f, s = (nI t, mz_sI N a f) ∧ ∀ j, f j = if p ≤ j ∧ j < p + t then nI (lb v (j - p)) else N.1 a j) ?_ ?_ (Nat.zero_le k) ⟨N.1 a, by rw [sI_same]; rfl, fun j => by rw [if_neg (by omega)]⟩
  · rintro t s ht ⟨f, rfl, hf⟩
    simp (disch := omega) only [cd_14_3, cq_14_3, nI_ltI, ht, nI_add, lb_c, nI_1, ib_i, not_false_eq_true, not_true_eq_false, if_true, if_false, true_implies, false_implies, implies_true, and_true, true_and]
    refine ⟨by omega, Or.inl ⟨_, rfl, upd f (p + t) (nI (lb v t)), ?_, ?_⟩⟩
    · rw [wI_s, sI_e, sI_sI, nI_clamp (by omega)]
    · intro j
      rw [up_a, hf]
      by_cases z : j = p + t
      · rw [if_pos z, if_pos (by omega), z, Nat.add_sub_cancel_left]
      · rw [if_neg z]
        by_cases y : p ≤ j ∧ j < p + t
        · rw [if_pos y, if_pos (by omega)]
        · rw [if_neg y, if_neg (by omega)]
  · rintro s ⟨f, rfl, hf⟩
    simp (disch := omega) only [cd_14_3, cq_14_3, nI_ltI, Nat.lt_irrefl, not_false_eq_true, not_true_eq_false, if_true, if_false, true_implies, false_implies, implies_true, and_true, true_and]
    exact ⟨_, rfl, f, rfl, hf⟩
theorem wr_r {a n p k : Nat} {v : Int64} {N : mz_N} (hp : p + k ≤ n) (hn : n < 2 ^ 30) (hk : k ≤ 8) : cp_412_0 a n (nI p) (nI k) v N ∧ ∃ f, cf_412_0 a n (nI p) (nI k) v N = mz_sI N a f ∧ ∀ j, f j = if p ≤ j ∧ j < p + k then by8 (lb v (j - p)) else N.1 a j := by
  refine mz_lpn (f := cq_412_3 a n (nI p) (nI k) v) (P := cd_412_3 a n (nI p) (nI k) v) (Q := fun t => ∃ f, t = mz_sI N a f ∧ ∀ j, f j = if p ≤ j ∧ j < p + k then by8 (lb v (j - p)) else N.1 a j) k (fun t s => ∃ f, s = (nI t, mz_sI N a f) ∧ ∀ j, f j = if p ≤ j ∧ j < p + t then by8 (lb v (j - p)) else N.1 a j) ?_ ?_ (Nat.zero_le k) ⟨N.1 a, by rw [sI_same]; rfl, fun j => by rw [if_neg (by omega)]⟩
  · rintro t s ht ⟨f, rfl, hf⟩
    simp (disch := omega) only [cd_412_3, cq_412_3, cf_412_24, cp_412_24, nI_ltI, ht, nI_add, lb_r, nI_1, ib_i, not_false_eq_true, not_true_eq_false, if_true, if_false, true_implies, false_implies, implies_true, and_true, true_and]
    refine ⟨by omega, Or.inl ⟨_, rfl, upd f (p + t) (by8 (lb v t)), ?_, ?_⟩⟩
    · rw [wI_s, sI_e, sI_sI, nI_clamp (by omega)]
    · intro j
      rw [up_a, hf]
      by_cases z : j = p + t
      · rw [if_pos z, if_pos (by omega), z, Nat.add_sub_cancel_left]
      · rw [if_neg z]
        by_cases y : p ≤ j ∧ j < p + t
        · rw [if_pos y, if_pos (by omega)]
        · rw [if_neg y, if_neg (by omega)]
  · rintro s ⟨f, rfl, hf⟩
    simp (disch := omega) only [cd_412_3, cq_412_3, nI_ltI, Nat.lt_irrefl, not_false_eq_true, not_true_eq_false, if_true, if_false, true_implies, false_implies, implies_true, and_true, true_and]
    exact ⟨_, rfl, f, rfl, hf⟩
theorem wr_m {p k : Nat} {v : Int64} {N : mz_N} (hp : p + k ≤ 28) (hk : k ≤ 8) : cp_410_0 (nI p) (nI k) v N ∧ ∃ f, cf_410_0 (nI p) (nI k) v N = mz_sI N 332 f ∧ ∀ j, f j = if p ≤ j ∧ j < p + k then by8 (lb v (j - p)) else N.1 332 j := by
  refine mz_lpn (f := cq_410_3 (nI p) (nI k) v) (P := cd_410_3 (nI p) (nI k) v) (Q := fun t => ∃ f, t = mz_sI N 332 f ∧ ∀ j, f j = if p ≤ j ∧ j < p + k then by8 (lb v (j - p)) else N.1 332 j) k (fun t s => ∃ f, s = (nI t, mz_sI N 332 f) ∧ ∀ j, f j = if p ≤ j ∧ j < p + t then by8 (lb v (j - p)) else N.1 332 j) ?_ ?_ (Nat.zero_le k) ⟨N.1 332, by rw [sI_same]; rfl, fun j => by rw [if_neg (by omega)]⟩
  · rintro t s ht ⟨f, rfl, hf⟩
    simp (disch := omega) only [cd_410_3, cq_410_3, cf_410_27, cp_410_27, nI_ltI, ht, nI_add, lb_r, nI_1, ib_i, not_false_eq_true, not_true_eq_false, if_true, if_false, true_implies, false_implies, implies_true, and_true, true_and]
    refine ⟨by omega, Or.inl ⟨_, rfl, upd f (p + t) (by8 (lb v t)), ?_, ?_⟩⟩
    · rw [wI_s, sI_e, sI_sI, nI_clamp (by omega)]
    · intro j
      rw [up_a, hf]
      by_cases z : j = p + t
      · rw [if_pos z, if_pos (by omega), z, Nat.add_sub_cancel_left]
      · rw [if_neg z]
        by_cases y : p ≤ j ∧ j < p + t
        · rw [if_pos y, if_pos (by omega)]
        · rw [if_neg y, if_neg (by omega)]
  · rintro s ⟨f, rfl, hf⟩
    simp (disch := omega) only [cd_410_3, cq_410_3, nI_ltI, Nat.lt_irrefl, not_false_eq_true, not_true_eq_false, if_true, if_false, true_implies, false_implies, implies_true, and_true, true_and]
    exact ⟨_, rfl, f, rfl, hf⟩
