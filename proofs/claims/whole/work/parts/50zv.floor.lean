/-! PURE (50zv): whole parts downwards; longs as whole numbers. -/
theorem lrem_i (x d : Int64) : (mz_lrem x d).toInt = x.toInt.tmod d.toInt := by
  unfold mz_lrem
  have h : (x - x / d * d).toInt = (x.toInt - x.toInt.tdiv d.toInt * d.toInt).bmod (2 ^ 64) := by
    rw [Int64.toInt_sub, Int64.toInt_mul, Int64.toInt_div]
    simp
  rw [h, Int.mul_comm, ← Int.tmod_def, ← Int64.toInt_mod]
  exact Int64.toInt_bmod _
theorem lt_i {x y : Int64} : x < y ↔ x.toInt < y.toInt := Int64.lt_iff_toInt_lt
theorem le_i {x y : Int64} : x ≤ y ↔ x.toInt ≤ y.toInt := Int64.le_iff_toInt_le
theorem i_0 : (0 : Int64).toInt = 0 := rfl
theorem tmod_s {a b : Int} (hb : 0 < b) : (0 ≤ a → 0 ≤ a.tmod b) ∧ (a ≤ 0 → a.tmod b ≤ 0) := by
  refine ⟨fun h => Int.tmod_nonneg b h, fun h => ?_⟩
  have h2 := Int.tmod_nonneg (a := -a) b (by omega)
  rw [Int.neg_tmod] at h2
  omega
theorem xor_neg (x d : Int64) (hd : 0 < d) : (x ^^^ d) < 0 ↔ x < 0 := by
  rw [Int64.lt_iff_toBitVec_slt, Int64.lt_iff_toBitVec_slt, Int64.toBitVec_xor]
  have e : Int64.toBitVec 0 = 0#64 := rfl
  rw [e, BitVec.slt_zero_eq_msb, BitVec.slt_zero_eq_msb, BitVec.msb_xor]
  have h2 : d.toBitVec.msb = false := by
    have h3 : ¬ d < 0 := fun q => by
      have a := lt_i.mp hd
      have b := lt_i.mp q
      omega
    rw [Int64.lt_iff_toBitVec_slt, e, BitVec.slt_zero_eq_msb] at h3
    simpa using h3
  rw [h2, Bool.xor_false]
theorem fdv {x d : Int64} (hd : 0 < d) : cf_160_0 x d = cf_489_0 x d := by
  rw [cf_160_0, cf_489_0]
  have hd' : 0 < d.toInt := by have := lt_i.mp hd; rw [i_0] at this; exact this
  have hr := lrem_i x d
  obtain ⟨t1, t2⟩ := tmod_s (a := x.toInt) hd'
  have eq0 : x / d * d = x ↔ mz_lrem x d = 0 := by
    unfold mz_lrem
    constructor
    · intro h; rw [h]; exact Int64.sub_self x
    · intro h
      rw [Int64.sub_eq_iff_eq_add, Int64.zero_add] at h
      exact h.symm
  by_cases w : x < 0
  · rw [if_pos ((xor_neg x d hd).mpr w)]
    have hx : x.toInt < 0 := by have := lt_i.mp w; rw [i_0] at this; exact this
    by_cases v : mz_lrem x d = 0
    · rw [if_pos (eq0.mpr v), if_neg (fun q => by rw [v] at q; exact absurd q (by decide))]
    · rw [if_neg (fun q => v (eq0.mp q)), if_pos]
      rw [lt_i, hr, i_0]
      have hn : ¬ x.toInt.tmod d.toInt = 0 := fun q => v (Int64.toInt_inj.mp (by rw [hr, q]; rfl))
      have := t2 (by omega)
      omega
  · rw [if_neg (fun q => w ((xor_neg x d hd).mp q))]
    have hx : 0 ≤ x.toInt := by
      rcases Int.lt_or_le x.toInt 0 with v | v
      · exact absurd (lt_i.mpr (by rw [i_0]; exact v)) w
      · exact v
    rw [if_neg (fun q => by have := lt_i.mp q; rw [hr, i_0] at this; have := t1 hx; omega)]
theorem lN_pos {d : Nat} (h0 : 0 < d) (hd : d < 2 ^ 63) : (0 : Int64) < lN d := by
  rw [lt_i, i_0, show (lN d).toInt = (d : Int) from Int64.toInt_ofNat_of_lt hd]
  omega
theorem nI_L {k : Nat} (h : k < 2 ^ 31) : (nI k).toInt64 = lN k := by
  apply Int64.toInt_inj.mp
  rw [Int32.toInt_toInt64, show (lN k).toInt = (k : Int) from Int64.toInt_ofNat_of_lt (by omega), nI_toInt h]
theorem pc_c {x : Int64} {u s : Nat} (hu : 0 < u) (hs : 0 < s) (h : u * s < 2 ^ 31) : cp_159_0 x (nI u) (nI s) ∧ cf_159_0 x (nI u) (nI s) = cf_489_0 x (lN (u * s)) := by
  have hp : 0 < u * s := Nat.mul_pos hu hs
  have hu2 : u ≤ u * s := Nat.le_mul_of_pos_right u hs
  have hs2 : s ≤ u * s := Nat.le_mul_of_pos_left s hu
  have l : (0 : Int32) < nI u * nI s := by rw [pk_mul, nI_gt0 h]; exact hp
  have e : (nI u).toInt64 * (nI s).toInt64 = lN (u * s) := by rw [nI_L (by omega), nI_L (by omega), lN_mul]
  have lp := lN_pos hp (by omega)
  rw [cp_159_0, cf_159_0, if_pos l, e, fdv lp]
  refine ⟨⟨fun _ => ?_, fun _ => trivial⟩, rfl⟩
  rw [cp_160_0]
  intro q
  rw [q] at lp
  exact absurd lp (by decide)
theorem by_p {x : Int64} {d : Nat} (h0 : 0 < d) (hd : d < 2 ^ 63) : cp_489_0 x (lN d) := by
  have h : ¬ lN d = 0 := fun q => by have := lN_pos h0 hd; rw [q] at this; exact absurd this (by decide)
  exact ⟨h, h⟩
