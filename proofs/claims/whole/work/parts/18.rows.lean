/-! PURE (18): rows of the disk are written. -/
/-- a row without its check -/
def rw0 (kd ix : Nat) (la : Bool) (n : Nat) (g : Int64) (pay : Nat → Nat) (j : Nat) : Nat := if j = 0 then kd else if j = 1 then ix else if j = 2 then b1 la else if j < 4 then 0 else if j < 8 then lb (lN n) (j - 4) else if j < 12 then lb g (j - 8) else if j < 40 then pay (j - 12) else 0
def rwk (r : Nat → Nat) (j : Nat) : Nat := if j < 44 then r j else lb (crv r 0 44).toInt64 (j - 44)
/-- a row comes onto the disk, whole or cut -/
def dkw (d : Nat → Nat → Nat) (a n : Nat) (r : Nat → Nat) (full : Bool) (a' j : Nat) : Nat := if a' = a ∧ 48 * n ≤ j ∧ j < 48 * n + (if full then 48 else 24) then (if full then rwk r (j - 48 * n) else if j - 48 * n = 3 then 1 else r (j - 48 * n)) else d a' j
theorem rw0_lt {kd ix n : Nat} {la : Bool} {g : Int64} {pay : Nat → Nat} (h1 : kd < 256) (h2 : ix < 256) (h3 : ∀ i, i < 28 → pay i < 256) (j : Nat) : rw0 kd ix la n g pay j < 256 := by
  unfold rw0
  repeat' split
  all_goals first | omega | exact lb_lt _ _ | (unfold b1; split <;> omega) | (apply h3; omega)
theorem b01_n (b : Bool) : mz_b01 b = nI (b1 b) := by cases b <;> rfl
section Rws
variable {N : mz_N}
theorem c_cmp {kd ix n : Nat} {la : Bool} {age : Int32} (hn : n < 2 ^ 31) : cp_12_0 (nI kd) (nI ix) la (nI n) age N ∧ ∃ f, cf_12_0 (nI kd) (nI ix) la (nI n) age N = mz_sI N 225 f ∧ ∀ j, j < 48 → f j = nI (rw0 kd ix la n age.toInt64 (fun _ => 0) j) := by
  obtain ⟨p0, e0⟩ := fill_ok (a := 225) (n := 48) (v := 0) (N := N) (by omega)
  have e36 : ∀ b, cp_12_36 2 b (nI n) age (mz_wI (mz_wI (cf_13_0 225 48 0 N) 225 0 (nI kd)) 225 1 (nI ix)) ∧ ∃ f, cf_12_36 2 b (nI n) age (mz_wI (mz_wI (cf_13_0 225 48 0 N) 225 0 (nI kd)) 225 1 (nI ix)) = mz_sI N 225 f ∧ ∀ j, j < 48 → f j = nI (rw0 kd ix b n age.toInt64 (fun _ => 0) j) := by
    intro b
    obtain ⟨p4, f4, e4, h4⟩ := wr_c (a := 225) (n := 48) (p := 4) (k := 4) (v := (nI n).toInt64) (N := mz_wI (mz_wI (mz_wI (cf_13_0 225 48 0 N) 225 0 (nI kd)) 225 1 (nI ix)) 225 2 (mz_b01 b)) (by omega) (by omega) (by omega)
    obtain ⟨p8, f8, e8, h8⟩ := wr_c (a := 225) (n := 48) (p := 8) (k := 4) (v := age.toInt64) (N := mz_sI (mz_wI (mz_wI (mz_wI (cf_13_0 225 48 0 N) 225 0 (nI kd)) 225 1 (nI ix)) 225 2 (mz_b01 b)) 225 f4) (by omega) (by omega) (by omega)
    have e4' : cf_14_0 225 48 4 4 (nI n).toInt64 (mz_wI (mz_wI (mz_wI (cf_13_0 225 48 0 N) 225 0 (nI kd)) 225 1 (nI ix)) 225 2 (mz_b01 b)) = mz_sI (mz_wI (mz_wI (mz_wI (cf_13_0 225 48 0 N) 225 0 (nI kd)) 225 1 (nI ix)) 225 2 (mz_b01 b)) 225 f4 := e4
    have e8' : cf_14_0 225 48 8 4 age.toInt64 (mz_sI (mz_wI (mz_wI (mz_wI (cf_13_0 225 48 0 N) 225 0 (nI kd)) 225 1 (nI ix)) 225 2 (mz_b01 b)) 225 f4) = mz_sI (mz_sI (mz_wI (mz_wI (mz_wI (cf_13_0 225 48 0 N) 225 0 (nI kd)) 225 1 (nI ix)) 225 2 (mz_b01 b)) 225 f4) 225 f8 := e8
    rw [cp_12_36, cf_12_36, cf_12_62, e4', e8']
    refine ⟨⟨ib_n (k := 2) (by omega) (by omega), p4, p8, trivial⟩, f8, ?_, ?_⟩
    · rw [wI_s, wI_s, wI_s, e0]; simp only [sI_sI]
    · intro j hj
      rw [h8]
      unfold rw0
      by_cases a8 : 8 ≤ j ∧ j < 8 + 4
      · rw [if_pos a8, if_neg (by omega), if_neg (by omega), if_neg (by omega), if_neg (by omega), if_neg (by omega), if_pos (by omega)]
      · rw [if_neg a8, sI_e, h4]
        by_cases a4 : 4 ≤ j ∧ j < 4 + 4
        · rw [if_pos a4, if_neg (by omega), if_neg (by omega), if_neg (by omega), if_neg (by omega), if_pos (by omega), nI_l hn]
        · rw [if_neg a4, wI_s, wI_s, wI_s, e0]
          simp only [sI_e, up_a, show (0 : Int32).toNatClampNeg = 0 from rfl, show (1 : Int32).toNatClampNeg = 1 from rfl, show (2 : Int32).toNatClampNeg = 2 from rfl]
          by_cases z2 : j = 2
          · rw [if_pos z2, if_neg (by omega), if_neg (by omega), if_pos z2, b01_n]
          · rw [if_neg z2]
            by_cases z1 : j = 1
            · rw [if_pos z1, if_neg (by omega), if_pos z1]
            · rw [if_neg z1]
              by_cases z0 : j = 0
              · rw [if_pos z0, if_pos z0]
              · rw [if_neg z0, if_pos hj, if_neg z0, if_neg z1, if_neg z2]
                by_cases y : j < 4
                · rw [if_pos y]; rfl
                · rw [if_neg y, if_neg (by omega), if_neg (by omega)]
                  by_cases y2 : j < 40
                  · rw [if_pos y2]; rfl
                  · rw [if_neg y2]; rfl
  rw [cp_12_0, cf_12_0]
  cases la with
  | true =>
    obtain ⟨q1, q2⟩ := e36 true
    simp only [not_false_eq_true, not_true_eq_false, if_true, if_false, true_implies, false_implies, implies_true, and_true, true_and]
    exact ⟨⟨p0, q1⟩, q2⟩
  | false =>
    obtain ⟨q1, q2⟩ := e36 false
    simp only [Bool.false_eq_true, not_false_eq_true, not_true_eq_false, if_true, if_false, true_implies, false_implies, implies_true, and_true, true_and]
    exact ⟨⟨p0, q1⟩, q2⟩
/-- the row's bytes come in -/
theorem c_pay {f : Nat → Int32} {kd ix n s p : Nat} {la : Bool} {g : Int64} {pay : Nat → Nat} (hs : s ≠ 225) (hf : ∀ j, j < 48 → f j = nI (rw0 kd ix la n g (fun _ => 0) j)) (hp : ∀ i, i < 28 → N.1 s (28 * p + i) = nI (pay i)) (hp2 : 28 * p < 2 ^ 30) : ∃ f2, mz_yI (mz_sI N 225 f) s (nI p * 28) 225 12 28 = mz_sI N 225 f2 ∧ ∀ j, j < 48 → f2 j = nI (rw0 kd ix la n g pay j) := by
  rw [yI_s, show (28 : Int32) = nI 28 from rfl, show (12 : Int32) = nI 12 from rfl, pk_mul, nI_clamp (by omega), nI_clamp (by omega), nI_clamp (by omega), sI_sI, sI_n hs, sI_e]
  refine ⟨_, rfl, fun j hj => ?_⟩
  rw [cpy_a]
  by_cases h : 12 ≤ j ∧ j < 12 + 28
  · rw [if_pos h, Nat.mul_comm p 28, hp _ (by omega)]
    unfold rw0
    rw [if_neg (by omega), if_neg (by omega), if_neg (by omega), if_neg (by omega), if_neg (by omega), if_neg (by omega), if_pos (by omega)]
  · rw [if_neg h, hf j hj]
    congr 1
    unfold rw0
    by_cases y : j < 12
    · simp only [y, if_true]
    · rw [if_neg (by omega), if_neg (by omega), if_neg (by omega), if_neg (by omega), if_neg (by omega), if_neg (by omega), if_neg (by omega), if_neg (by omega), if_neg (by omega), if_neg (by omega), if_neg (by omega), if_neg (by omega), if_neg (by omega), if_neg (by omega)]
/-- how many whole rows are left -/
def fus (z : Int32) : Prop := z = -1 ∨ ∃ w, w ≤ 1000 ∧ z = nI w
def fus1 (z : Int32) : Int32 := if 0 < z then z - 1 else z
theorem fus_1 {z : Int32} (h : fus z) (h0 : z ≠ 0) : fus (fus1 z) := by
  unfold fus1
  rcases h with rfl | ⟨w, hw, rfl⟩
  · exact Or.inl (by decide)
  · have : w ≠ 0 := fun q => h0 (by rw [q]; rfl)
    rw [if_pos ((nI_gt0 (by omega)).mpr (by omega)), show w = w - 1 + 1 by omega, nI_pred]
    exact Or.inr ⟨w - 1, by omega, rfl⟩
theorem cpk_n {a b c n m : Nat} (h1 : a + c ≤ n) (h2 : b + c ≤ m) (hn : n < 2 ^ 30) (hm : m < 2 ^ 30) : mz_cpk (nI a) (nI b) (nI c) n m := by
  unfold mz_cpk
  rw [nI_clamp (by omega), nI_clamp (by omega), nI_clamp (by omega)]
  exact ⟨nI_pos (by omega), nI_pos (by omega), nI_pos (by omega), h1, h2⟩
theorem c_line {a n : Nat} {d : Nat → Nat → Nat} {r : Nat → Nat} (ha : a < 2) (hn : n < 200) (hr : ∀ j, j < 48 → N.1 225 j = nI (r j)) (hr2 : ∀ j, j < 48 → r j < 256) (hd : ∀ j, j < 9600 → N.1 (221 + a) j = nI (d a j)) :
    cp_15_0 (nI a) (nI n) N ∧ ∃ f g, cf_15_0 (nI a) (nI n) N = (decide (N.1 219 8 ≠ 0), mz_sI (mz_sI (mz_sI N 225 f) (221 + a) g) 219 (if N.1 219 8 = 0 then upd (N.1 219) 7 1 else upd (N.1 219) 8 (fus1 (N.1 219 8)))) ∧ ∀ j, j < 9600 → g j = nI (dkw d a n r (decide (N.1 219 8 ≠ 0)) a j) := by
  have e58 : ∀ K : mz_N, (∀ j, j < 48 → K.1 225 j = nI (r j)) → cp_15_58 (nI a) (nI n) K ∧ ∃ f, cf_15_58 (nI a) (nI n) K = (true, mz_sI (mz_sI K 225 f) (221 + a) (va_cpy f (K.1 (221 + a)) 0 (48 * n) 48)) ∧ ∀ j, j < 48 → f j = nI (rwk r j) := by
    intro K hK
    obtain ⟨c1, c2⟩ := cr_c (a := 225) (n := 48) (p := 0) (k := 44) (d := r) (N := K) (fun i hi => by rw [Nat.zero_add]; exact ⟨hK i (by omega), hr2 i (by omega)⟩) (by omega) (by omega)
    have c2' : cf_16_0 225 48 0 44 K = crv r 0 44 := c2
    obtain ⟨w1, f, w2, w3⟩ := wr_c (a := 225) (n := 48) (p := 44) (k := 4) (v := (crv r 0 44).toInt64) (N := K) (by omega) (by omega) (by omega)
    have w2' : cf_14_0 225 48 44 4 (crv r 0 44).toInt64 K = mz_sI K 225 f := w2
    rw [cp_15_58, cf_15_58, cf_15_99, c2', w2']
    refine ⟨⟨c1, w1, ib_n ha (by omega), ?_, trivial⟩, f, ?_, ?_⟩
    · rw [show (48 : Int32) = nI 48 from rfl, pk_mul]
      exact cpk_n (a := 0) (b := n * 48) (c := 48) (by omega) (by omega) (by omega) (by omega)
    · rw [yI_s, show (48 : Int32) = nI 48 from rfl, pk_mul, nI_clamp (by omega), nI_clamp (by omega), nI_clamp (by omega), sI_e, sI_n (by omega), show (0 : Int32).toNatClampNeg = 0 from rfl, Nat.mul_comm n 48]
    · intro j hj
      rw [w3]
      unfold rwk
      by_cases h : j < 44
      · rw [if_neg (by omega), if_pos h]; exact hK j hj
      · rw [if_pos (by omega), if_neg h]
  have hfin : ∀ f : Nat → Int32, (∀ j, j < 48 → f j = nI (rwk r j)) → ∀ j, j < 9600 → va_cpy f (N.1 (221 + a)) 0 (48 * n) 48 j = nI (dkw d a n r true a j) := by
    intro f hf j hj
    rw [cpy_a]
    unfold dkw
    simp only [true_and, if_true]
    by_cases h : 48 * n ≤ j ∧ j < 48 * n + 48
    · rw [if_pos h, if_pos h, Nat.zero_add]; exact hf _ (by omega)
    · rw [if_neg h, if_neg h]; exact hd j hj
  by_cases h0 : N.1 219 8 = 0
  · rw [cp_15_0, cf_15_0, if_pos h0, if_pos h0]
    refine ⟨⟨fun _ => ⟨ib_n ha (by omega), ?_⟩, fun h => absurd h0 h⟩, upd (N.1 225) 3 1, va_cpy (upd (N.1 225) 3 1) (N.1 (221 + a)) 0 (48 * n) 24, ?_, ?_⟩
    · rw [show (48 : Int32) = nI 48 from rfl, show (24 : Int32) = nI 24 from rfl, pk_mul]
      exact cpk_n (a := 0) (b := n * 48) (c := 24) (by omega) (by omega) (by omega) (by omega)
    · rw [Prod.mk.injEq]
      refine ⟨by rw [h0]; rfl, ?_⟩
      rw [pI_s, yI_s, wI_s, show (48 : Int32) = nI 48 from rfl, show (24 : Int32) = nI 24 from rfl, pk_mul, nI_clamp (by omega), nI_clamp (by omega), nI_clamp (by omega), sI_e, sI_n (by omega : 221 + a ≠ 225), show (0 : Int32).toNatClampNeg = 0 from rfl, show (3 : Int32).toNatClampNeg = 3 from rfl, Nat.mul_comm n 48, sI_n (by omega : 219 ≠ 221 + a), sI_n (by decide)]
      rfl
    · intro j hj
      rw [cpy_a, h0]
      unfold dkw
      simp only [true_and, ne_eq, not_true_eq_false, decide_false, Bool.false_eq_true, if_false]
      by_cases h : 48 * n ≤ j ∧ j < 48 * n + 24
      · rw [if_pos h, if_pos h, Nat.zero_add, up_a]
        by_cases z : j - 48 * n = 3
        · rw [if_pos z, if_pos z]; rfl
        · rw [if_neg z, if_neg z]; exact hr _ (by omega)
      · rw [if_neg h, if_neg h]; exact hd j hj
  · have hdec : decide (N.1 219 8 ≠ 0) = true := decide_eq_true h0
    rw [hdec, if_neg h0]
    by_cases hp : 0 < N.1 219 8
    · obtain ⟨q1, f, q2, q3⟩ := e58 (mz_pI N 219 8 (N.1 219 8 - 1)) (fun j hj => by rw [pI_s, sI_n (by decide)]; exact hr j hj)
      rw [cp_15_0, cf_15_0, if_neg h0, if_pos hp, q2]
      refine ⟨⟨fun h => absurd h h0, fun _ => ⟨fun _ => q1, fun h => absurd hp h⟩⟩, f, _, ?_, hfin f q3⟩
      rw [Prod.mk.injEq]
      refine ⟨rfl, ?_⟩
      rw [pI_s, sI_n (by omega : 221 + a ≠ 219), show fus1 (N.1 219 8) = N.1 219 8 - 1 from if_pos hp, sI_comm (a := 219) (b := 225) (by decide), sI_comm (a := 219) (b := 221 + a) (by omega)]
    · obtain ⟨q1, f, q2, q3⟩ := e58 N hr
      rw [cp_15_0, cf_15_0, if_neg h0, if_neg hp, q2]
      refine ⟨⟨fun h => absurd h h0, fun _ => ⟨fun h => absurd h hp, fun _ => q1⟩⟩, f, _, ?_, hfin f q3⟩
      rw [Prod.mk.injEq]
      refine ⟨rfl, ?_⟩
      rw [show fus1 (N.1 219 8) = N.1 219 8 from if_neg hp]
      have e : upd (N.1 219) 8 (N.1 219 8) = (mz_sI (mz_sI N 225 f) (221 + a) (va_cpy f (N.1 (221 + a)) 0 (48 * n) 48)).1 219 := by
        rw [sI_n (by omega), sI_n (by decide)]
        funext k
        rw [up_a]
        by_cases z : k = 8
        · rw [if_pos z, z]
        · rw [if_neg z]
      rw [e, sI_same]
end Rws
