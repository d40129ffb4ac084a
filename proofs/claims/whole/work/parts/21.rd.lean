/-! PURE (21): numbers with their signs; ages of rows. -/
theorem sgx {s m : Nat} (x : Int64) (hs : s < 64) (hm : s + m = 64) (h0 : 0 < m) : (mz_lshr (mz_lshl x (nI s)) (nI s)).toBitVec = (x.toBitVec.setWidth m).signExtend 64 := by
  rw [lshr_bv _ hs, lshl_bv _ hs]
  apply BitVec.eq_of_getLsbD_eq
  intro i hi
  rw [BitVec.getLsbD_sshiftRight, BitVec.getLsbD_signExtend, BitVec.getLsbD_setWidth]
  by_cases h : i < m
  · rw [if_pos (by omega), BitVec.getLsbD_shiftLeft]
    simp [h, hi, show ¬ 64 ≤ i by omega, show s + i < 64 by omega]
  · rw [if_neg (by omega), BitVec.msb_shiftLeft, BitVec.msb_setWidth, BitVec.getMsbD]
    simp [h, hi, show ¬ 64 ≤ i by omega, show s < 64 from hs]
    have e : 63 - s = m - 1 := by omega
    rw [e]
    simp [h0]
theorem sg4 {x : Nat} (hx : x < 2 ^ 32) : mz_lshr (mz_lshl (lN x) (64 - 8 * nI 4)) (64 - 8 * nI 4) = (nI x).toInt64 := by
  rw [show (64 - 8 * nI 4 : Int32) = nI 32 by decide]
  apply Int64.toBitVec_inj.mp
  rw [sgx (m := 32) _ (by omega) (by omega) (by omega), Int32.toBitVec_toInt64, lN_bv2, nI_bv]
  congr 1
  apply BitVec.eq_of_toNat_eq
  rw [BitVec.toNat_setWidth, BitVec.toNat_ofNat, BitVec.toNat_ofNat, Nat.mod_eq_of_lt (show x < 2 ^ 64 by omega)]
theorem sg8 (x : Int64) : mz_lshr (mz_lshl x (64 - 8 * nI 8)) (64 - 8 * nI 8) = x := by
  rw [show (64 - 8 * nI 8 : Int32) = nI 0 by decide]
  apply Int64.toBitVec_inj.mp
  rw [sgx (m := 64) _ (by omega) (by omega) (by omega), BitVec.setWidth_eq, BitVec.signExtend_eq]
theorem sg2 {x : Nat} (hx : x < 2 ^ 16) : mz_lshr (mz_lshl (lN x) (64 - 8 * nI 2)) (64 - 8 * nI 2) = (nI x).toInt16.toInt64 := by
  rw [show (64 - 8 * nI 2 : Int32) = nI 48 by decide]
  apply Int64.toBitVec_inj.mp
  rw [sgx (m := 16) _ (by omega) (by omega) (by omega), Int16.toBitVec_toInt64, lN_bv2, Int32.toBitVec_toInt16, nI_bv, BitVec.signExtend_eq_setWidth_of_le (w := 32) _ (by decide)]
  congr 1
  apply BitVec.eq_of_toNat_eq
  rw [BitVec.toNat_setWidth, BitVec.toNat_setWidth, BitVec.toNat_ofNat, BitVec.toNat_ofNat, Nat.mod_eq_of_lt (show x < 2 ^ 64 by omega), Nat.mod_eq_of_lt (show x < 2 ^ 32 by omega)]
/-- a row's age -/
def ag (d : Nat → Nat → Nat) (a n : Nat) : Nat := num (d a) (48 * n + 8) 4
theorem ag_lt {d : Nat → Nat → Nat} {a n : Nat} (hd : ∀ a j, d a j < 256) : ag d a n < 2 ^ 32 := num_lt (n := 4) (fun _ _ => hd _ _)
theorem toInt64_32 (x : Int32) : x.toInt64.toInt32 = x := Int32.toInt32_toInt64 x
section Rdn
variable {N : mz_N} {d : Nat → Nat → Nat}
def c_dk (d : Nat → Nat → Nat) (N : mz_N) : Prop := ∀ a, a < 2 → ∀ j, j < 9600 → N.1 (221 + a) j = nI (d a j)
def r_dk (d : Nat → Nat → Nat) (N : mz_N) : Prop := ∀ a, a < 2 → ∀ j, j < 9600 → N.1 329 (9600 * a + j) = by8 (d a j)
theorem rd4_c {a n p : Nat} {d : Nat → Nat} (hd : ∀ i, i < 4 → N.1 a (p + i) = nI (d (p + i)) ∧ d (p + i) < 256) (hp : p + 4 ≤ n) (hn : n < 2 ^ 30) : cp_61_0 a n (nI p) 4 N ∧ cf_61_0 a n (nI p) 4 N = (nI (num d p 4)).toInt64 := by
  obtain ⟨p1, p2⟩ := rd_c (k := 4) hd hp hn (by omega)
  rw [sg4 (num_lt (n := 4) (fun i hi => (hd i hi).2))] at p2
  exact ⟨p1, p2⟩
theorem ag_c {a n : Nat} (hd : c_dk d N) (hd2 : ∀ a j, d a j < 256) (ha : a < 2) (hn : n < 200) : cp_96_0 (nI a) (nI n) N ∧ cf_96_0 (nI a) (nI n) N = nI (ag d a n) := by
  have e : nI n * 48 + 8 = nI (48 * n + 8) := by rw [show (48 : Int32) = nI 48 from rfl, show (8 : Int32) = nI 8 from rfl, pk_mul, nI_add, Nat.mul_comm]
  obtain ⟨p1, p2⟩ := rd4_c (N := N) (a := 221 + a) (n := 9600) (p := 48 * n + 8) (d := d a) (fun i hi => ⟨hd a ha _ (by omega), hd2 _ _⟩) (by omega) (by omega)
  rw [cp_96_0, cf_96_0, e, nI_clamp (by omega), p2, toInt64_32]
  exact ⟨⟨ib_n ha (by omega), p1⟩, rfl⟩
theorem rd4_r {a p : Nat} (hd : r_dk d N) (hd2 : ∀ a j, d a j < 256) (ha : a < 2) (hp : p + 4 ≤ 9600) : cp_423_0 329 19200 (nI (9600 * a + p)) 4 N ∧ cf_423_0 329 19200 (nI (9600 * a + p)) 4 N = lN (num (d a) p 4) := by
  obtain ⟨p1, p2⟩ := rd_r (N := N) (a := 329) (n := 19200) (p := 9600 * a + p) (k := 4) (d := fun i => d a (p + i)) (fun i hi => ⟨by rw [Nat.add_assoc]; exact hd a ha _ (by omega), hd2 _ _⟩) (by omega) (by omega) (by omega)
  rw [num_congr (e := d a) (q := p) (fun i hi => by rw [Nat.zero_add])] at p2
  exact ⟨p1, p2⟩
theorem cnt_c {a : Nat} {kt : Nat → Bool} (h : ∀ k, k < 135 → N.1 a k = nI (b1 (kt k))) : cp_138_0 a N ∧ cf_138_0 a N = nI (cnt kt 135) := by
  refine mz_lps (f := cq_138_4 a N) (P := cd_138_4 a N) 135 (fun t => (nI (cnt kt t), nI t)) ?_ ?_ (Nat.zero_le _)
  · intro t ht
    have g : mz_gI N a (nI t) = nI (b1 (kt t)) := by rw [gI_a, nI_clamp (by omega), h t ht]
    simp (disch := omega) only [cd_138_4, cq_138_4, nI_ltI, (show (135 : Int32) = nI 135 from rfl), ht, g, nI_add, nI_1, ib_i, not_false_eq_true, not_true_eq_false, if_true, if_false, true_implies, false_implies, implies_true, and_true, true_and]
    rw [cnt]
    cases kt t <;> rfl
  · simp (disch := omega) only [cd_138_4, cq_138_4, nI_ltI, (show (135 : Int32) = nI 135 from rfl), Nat.lt_irrefl, not_false_eq_true, not_true_eq_false, if_true, if_false, true_implies, false_implies, implies_true, and_true, true_and]
end Rdn
