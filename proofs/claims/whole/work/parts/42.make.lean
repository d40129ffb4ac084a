/-! PURE (42): the reference makes the bytes of its keys. -/
/-- the reference keeps the things -/
def r_kp (N : mz_N) (H : Kp) : Prop :=
  (∀ j, j < 550 → N.1 233 j = nI (H.1 0 j)) ∧ (∀ j, j < 240 → N.1 234 j = nI (H.1 1 j)) ∧ (∀ j, j < 240 → N.1 244 j = nI (H.1 2 j)) ∧ (∀ j, j < 24 → N.1 245 j = H.2.1 0 j) ∧ (∀ j, j < 96 → N.1 246 j = nI (H.1 3 j)) ∧
  N.1 232 27 = nI (H.1 5 0) ∧ (∀ j, j < 196 → N.1 252 j = nI (H.1 4 j)) ∧ (∀ j, j < 11 → N.1 247 j = H.2.1 1 j ∧ N.1 248 j = nI (H.1 6 j)) ∧
  (∀ j, j < 11 → N.2 321 j = (H.2.1 2 j).toInt64 ∧ N.2 322 j = (H.2.1 3 j).toInt64 ∧ N.2 323 j = (H.2.1 4 j).toInt64) ∧ (∀ j, j < 10 → N.2 324 j = H.2.2 0 j ∧ N.2 325 j = H.2.2 1 j) ∧
  (N.2 232 2 = (H.2.1 5 0).toInt64 ∧ N.2 232 122 = H.2.2 2 0 ∧ N.2 232 123 = H.2.2 2 1 ∧ N.2 232 124 = (H.2.1 5 1).toInt64 ∧ N.2 232 125 = (H.2.1 5 2).toInt64) ∧ (N.1 232 21 = H.2.1 6 0 ∧ ∀ j, j < 3 → N.1 249 j = H.2.1 6 (j + 1)) ∧
  (∀ j, j < 3 → N.1 250 j = H.2.1 7 j ∧ N.2 305 j = (H.2.1 8 j).toInt64 ∧ N.1 306 j = H.2.1 9 j ∧ N.1 307 j = nI (H.1 7 j)) ∧
  (∀ j, j < 16 → N.1 287 j = nI (H.1 8 j) ∧ (H.1 8 j = 1 → N.1 288 j = nI (H.1 9 j) ∧ N.1 289 j = nI (H.1 10 j) ∧ N.1 290 j = nI (H.1 11 j) ∧ N.2 291 j = (H.2.1 10 j).toInt64 ∧ N.2 292 j = (H.2.1 11 j).toInt64)) ∧
  (∀ j, j < 20 → N.1 308 j = nI (H.1 12 j) ∧ (H.1 12 j = 1 → N.1 309 j = nI (H.1 13 j) ∧ N.1 310 j = nI (H.1 14 j))) ∧
  (∀ j, j < 40 → N.1 311 j = nI (H.1 15 j) ∧ (H.1 15 j = 1 → N.1 313 j = nI (H.1 16 j) ∧ N.1 314 j = nI (H.1 17 j) ∧ N.1 315 j = nI (H.1 18 j) ∧ N.1 312 j = H.2.1 12 j)) ∧
  ∀ j, j < 8 → N.1 282 j = nI (H.1 19 j) ∧ (H.1 19 j = 1 → N.1 283 j = nI (H.1 20 j) ∧ N.1 284 j = nI (H.1 21 j))
theorem i2b_n (x : Nat) : mz_nb (mz_i2b (nI x)) = by8 x := nb_i2b (nI x)
theorem or_n8 (a b : Nat) : by8 (a ||| b) = (nI a ||| nI b).toInt8.toInt32 := by rw [or_n]; rfl
theorem or_r (a x : Nat) : mz_nb (mz_i2b (by8 a ||| mz_i2b (nI x))) = by8 (a ||| x) := by
  rw [nb_i2b, or_n8]
  unfold by8 mz_i2b
  congr 1
  apply Int8.toBitVec_inj.mp
  rw [Int32.toBitVec_toInt8, Int32.toBitVec_toInt8, Int32.toBitVec_or, Int32.toBitVec_or, Int8.toBitVec_toInt32, Int8.toBitVec_toInt32, Int32.toBitVec_toInt8, Int32.toBitVec_toInt8]
  apply BitVec.eq_of_getLsbD_eq
  intro i hi
  simp [BitVec.getElem_signExtend, hi, show i < 32 by omega]
theorem pb_1 {g : Nat → Nat} {p : Nat} {v : Int64} : pb g p 1 v = up g p (lb v 0) := by
  funext j
  rw [up_d]
  unfold pb
  by_cases w : j = p
  · rw [if_pos w, if_pos (by omega), w, Nat.sub_self]
  · rw [if_neg w, if_neg (by omega)]
theorem lb_nI {x : Nat} (hx : x < 256) : lb (nI x).toInt64 0 = x := by
  have h := toInt64_uv x (by omega)
  unfold lb
  rw [Nat.mul_zero, Nat.pow_zero, Nat.div_one]
  omega
theorem lb_1 : lb 1 0 = 1 := by decide
theorem lb_0 : lb 0 0 = 0 := by decide
section Mak
variable {M : mz_N} {ix : Nat} {o : Nat → Int32} {H : Kp}
theorem stm_n1 {p k : Nat} {g : Nat → Nat} {v : Int64} (hp : p + k ≤ 28) (hk : k ≤ 8) : cp_410_0 (nI p) (nI k) v (mz_sI M 332 (stm g o)) ↔ True := ⟨fun _ => trivial, fun _ => (stm_n hp hk).1⟩
theorem stm_n2 {p k : Nat} {g : Nat → Nat} {v : Int64} (hp : p + k ≤ 28) (hk : k ≤ 8) : cf_410_0 (nI p) (nI k) v (mz_sI M 332 (stm g o)) = mz_sI M 332 (stm (pb g p k v) o) := (stm_n hp hk).2
theorem rd_m {f : Nat → Int32} {q j : Nat} (hq : q ≠ 332) (hj : j < 2 ^ 31) : mz_gI (mz_sI M 332 f) q (nI j) = M.1 q j := by rw [gI_a, sI_n hq, nI_clamp hj]
theorem rd_mL {f : Nat → Int32} {q j : Nat} (hj : j < 2 ^ 31) : mz_gL (mz_sI M 332 f) q (nI j) = M.2 q j := by rw [gL_a, nI_clamp hj]; rfl
theorem e1_r (hix : ix < 5) (hb : kpb H) (hk : ∀ j, j < 550 → M.1 233 j = nI (H.1 0 j)) : cp_476_79 (nI ix) 0 (mz_sI M 332 (stm (fun _ => 0) o)) ∧ cf_476_79 (nI ix) 0 (mz_sI M 332 (stm (fun _ => 0) o)) = mz_sI M 332 (stm (kx H 1 ix) o) := by
  refine mz_lpn (f := cq_476_79 (nI ix)) (P := cd_476_79 (nI ix)) (Q := fun t => t = mz_sI M 332 (stm (kx H 1 ix) o)) 110 (fun t s => s = (nI t, mz_sI M 332 (stm (orp 4 2 (fun t => H.1 0 (110 * ix + t)) t) o))) ?_ ?_ (Nat.zero_le _) rfl
  · rintro t s ht rfl
    have e4 : nI t / 4 = nI (t / 4) := by rw [show (4 : Int32) = nI 4 from rfl, pk_div (by omega) (by omega) (by omega)]
    have e5 : 2 * mz_irem (nI t) 4 = nI (2 * (t % 4)) := by rw [show (4 : Int32) = nI 4 from rfl, show (2 : Int32) = nI 2 from rfl, irem_n (by omega) (by omega) (by omega), pk_mul]
    have e6 : 110 * nI ix + nI t = nI (110 * ix + t) := by rw [show (110 : Int32) = nI 110 from rfl, pk_mul, nI_add]
    have g3 : mz_gI (mz_sI M 332 (stm (orp 4 2 (fun t => H.1 0 (110 * ix + t)) t) o)) 233 (nI (110 * ix + t)) = nI (H.1 0 (110 * ix + t)) := by rw [rd_m (by decide) (by omega), hk _ (by omega)]
    have g27 : ∀ p g, p < 28 → mz_gI (mz_sI M 332 (stm g o)) 332 (nI p) = by8 (g p) := fun p g hp => by
      rw [gI_a, sI_e, nI_clamp (by omega)]; unfold stm; rw [if_pos hp]
    have hlt : nI t < 110 := (nI_ltI (b := 110) (by omega) (by omega)).mpr ht
    have hs := or_c (H.1 0 (110 * ix + t)) (by have := hb.1 (110 * ix + t); omega) (2 * (t % 4)) (by omega)
    rw [cd_476_79, cq_476_79]
    simp only [hlt, if_true, e4, e5, e6, g3, hs, cf_476_119, cp_476_119, nI_1]
    rw [g27 _ _ (by omega), or_r, stm_w (by omega)]
    refine ⟨⟨fun _ => ⟨ib_n (by omega) (by omega), ib_n (by omega) (by omega), ib_n (by omega) (by omega), trivial⟩, fun w => absurd trivial w⟩, Or.inl ⟨_, rfl, rfl⟩⟩
  · rintro s rfl
    have hlt : ¬ nI 110 < 110 := by decide
    rw [cd_476_79, cq_476_79]
    simp only [hlt, if_false]
    exact ⟨⟨False.elim, fun _ => trivial⟩, _, rfl, rfl⟩
theorem e2_r (hix : ix < 5) (hb : kpb H) (hk : ∀ j, j < 240 → M.1 234 j = nI (H.1 1 j)) : cp_476_131 (nI ix) 0 (mz_sI M 332 (stm (fun _ => 0) o)) ∧ cf_476_131 (nI ix) 0 (mz_sI M 332 (stm (fun _ => 0) o)) = mz_sI M 332 (stm (kx H 2 ix) o) := by
  refine mz_lpn (f := cq_476_131 (nI ix)) (P := cd_476_131 (nI ix)) (Q := fun t => t = mz_sI M 332 (stm (kx H 2 ix) o)) 48 (fun t s => s = (nI t, mz_sI M 332 (stm (orp 2 4 (fun t => H.1 1 (48 * ix + t)) t) o))) ?_ ?_ (Nat.zero_le _) rfl
  · rintro t s ht rfl
    have e4 : nI t / 2 = nI (t / 2) := by rw [show (2 : Int32) = nI 2 from rfl, pk_div (by omega) (by omega) (by omega)]
    have e5 : 4 * mz_irem (nI t) 2 = nI (4 * (t % 2)) := by rw [show (4 : Int32) = nI 4 from rfl, show (2 : Int32) = nI 2 from rfl, irem_n (by omega) (by omega) (by omega), pk_mul]
    have e6 : 48 * nI ix + nI t = nI (48 * ix + t) := by rw [show (48 : Int32) = nI 48 from rfl, pk_mul, nI_add]
    have g3 : mz_gI (mz_sI M 332 (stm (orp 2 4 (fun t => H.1 1 (48 * ix + t)) t) o)) 234 (nI (48 * ix + t)) = nI (H.1 1 (48 * ix + t)) := by rw [rd_m (by decide) (by omega), hk _ (by omega)]
    have g27 : ∀ p g, p < 28 → mz_gI (mz_sI M 332 (stm g o)) 332 (nI p) = by8 (g p) := fun p g hp => by
      rw [gI_a, sI_e, nI_clamp (by omega)]; unfold stm; rw [if_pos hp]
    have hlt : nI t < 48 := (nI_ltI (b := 48) (by omega) (by omega)).mpr ht
    have hs := or_c (H.1 1 (48 * ix + t)) (hb.2.1 (48 * ix + t)) (4 * (t % 2)) (by omega)
    rw [cd_476_131, cq_476_131]
    simp only [hlt, if_true, e4, e5, e6, g3, hs, cf_476_171, cp_476_171, nI_1]
    rw [g27 _ _ (by omega), or_r, stm_w (by omega)]
    refine ⟨⟨fun _ => ⟨ib_n (by omega) (by omega), ib_n (by omega) (by omega), ib_n (by omega) (by omega), trivial⟩, fun w => absurd trivial w⟩, Or.inl ⟨_, rfl, rfl⟩⟩
  · rintro s rfl
    have hlt : ¬ nI 48 < 48 := by decide
    rw [cd_476_131, cq_476_131]
    simp only [hlt, if_false]
    exact ⟨⟨False.elim, fun _ => trivial⟩, _, rfl, rfl⟩
theorem e3_r (hix : ix < 10) (hk : ∀ j, j < 240 → M.1 244 j = nI (H.1 2 j)) : cp_476_183 (nI ix) 0 (mz_sI M 332 (stm (fun _ => 0) o)) ∧ cf_476_183 (nI ix) 0 (mz_sI M 332 (stm (fun _ => 0) o)) = mz_sI M 332 (stm (kx H 3 ix) o) := by
  refine mz_lpn (f := cq_476_183 (nI ix)) (P := cd_476_183 (nI ix)) (Q := fun t => t = mz_sI M 332 (stm (kx H 3 ix) o)) 24 (fun t s => s = (nI t, mz_sI M 332 (stm (cut t (fun t => H.1 2 (24 * ix + t))) o))) ?_ ?_ (Nat.zero_le _) (by rw [cut_0]; rfl)
  · rintro t s ht rfl
    have g3 : ∀ f, mz_gI (mz_sI M 332 f) 244 (nI (24 * ix + t)) = nI (H.1 2 (24 * ix + t)) := fun f => by rw [rd_m (by decide) (by omega), hk _ (by omega)]
    simp (disch := omega) only [cd_476_183, cq_476_183, nI_ltI, (show (24 : Int32) = nI 24 from rfl), ht, pk_mul, nI_add, g3, i2b_n, stm_w, nI_1, ib_i, not_false_eq_true, not_true_eq_false, if_true, if_false, true_implies, false_implies, implies_true, and_true, true_and]
    exact ⟨by omega, Or.inl ⟨_, rfl, by rw [cut_s]⟩⟩
  · rintro s rfl
    have hlt : ¬ nI 24 < 24 := by decide
    rw [cd_476_183, cq_476_183]
    simp only [hlt, if_false]
    exact ⟨⟨False.elim, fun _ => trivial⟩, _, rfl, rfl⟩
theorem e5_r (hix : ix < 4) (hk : ∀ j, j < 96 → M.1 246 j = nI (H.1 3 j)) : cp_476_263 (nI ix) 0 (mz_sI M 332 (stm (fun _ => 0) o)) ∧ cf_476_263 (nI ix) 0 (mz_sI M 332 (stm (fun _ => 0) o)) = mz_sI M 332 (stm (kx H 5 ix) o) := by
  refine mz_lpn (f := cq_476_263 (nI ix)) (P := cd_476_263 (nI ix)) (Q := fun t => t = mz_sI M 332 (stm (kx H 5 ix) o)) 24 (fun t s => s = (nI t, mz_sI M 332 (stm (cut t (fun t => H.1 3 (24 * ix + t))) o))) ?_ ?_ (Nat.zero_le _) (by rw [cut_0]; rfl)
  · rintro t s ht rfl
    have g3 : ∀ f, mz_gI (mz_sI M 332 f) 246 (nI (24 * ix + t)) = nI (H.1 3 (24 * ix + t)) := fun f => by rw [rd_m (by decide) (by omega), hk _ (by omega)]
    simp (disch := omega) only [cd_476_263, cq_476_263, nI_ltI, (show (24 : Int32) = nI 24 from rfl), ht, pk_mul, nI_add, g3, i2b_n, stm_w, nI_1, ib_i, not_false_eq_true, not_true_eq_false, if_true, if_false, true_implies, false_implies, implies_true, and_true, true_and]
    exact ⟨by omega, Or.inl ⟨_, rfl, by rw [cut_s]⟩⟩
  · rintro s rfl
    have hlt : ¬ nI 24 < 24 := by decide
    rw [cd_476_263, cq_476_263]
    simp only [hlt, if_false]
    exact ⟨⟨False.elim, fun _ => trivial⟩, _, rfl, rfl⟩
theorem e4_r (hix : ix < 2) (hk : ∀ j, j < 24 → M.1 245 j = H.2.1 0 j) : cp_476_222 (nI ix) 0 (mz_sI M 332 (stm (fun _ => 0) o)) ∧ cf_476_222 (nI ix) 0 (mz_sI M 332 (stm (fun _ => 0) o)) = mz_sI M 332 (stm (kx H 4 ix) o) := by
  refine mz_lpn (f := cq_476_222 (nI ix)) (P := cd_476_222 (nI ix)) (Q := fun t => t = mz_sI M 332 (stm (kx H 4 ix) o)) 12 (fun t s => s = (nI t, mz_sI M 332 (stm (wrd (fun t => (H.2.1 0 (12 * ix + t)).toInt64) t) o))) ?_ ?_ (Nat.zero_le _) rfl
  · rintro t s ht rfl
    have g3 : ∀ f, mz_gI (mz_sI M 332 f) 245 (nI (12 * ix + t)) = H.2.1 0 (12 * ix + t) := fun f => by rw [rd_m (by decide) (by omega), hk _ (by omega)]
    simp (disch := omega) only [cd_476_222, cq_476_222, nI_ltI, (show (12 : Int32) = nI 12 from rfl), (show (2 : Int32) = nI 2 from rfl), ht, pk_mul, nI_add, g3, stm_n1, stm_n2, nI_1, ib_i, not_false_eq_true, not_true_eq_false, if_true, if_false, true_implies, false_implies, implies_true, and_true, true_and]
    exact ⟨by omega, Or.inl ⟨_, rfl, rfl⟩⟩
  · rintro s rfl
    have hlt : ¬ nI 12 < 12 := by decide
    rw [cd_476_222, cq_476_222]
    simp only [hlt, if_false]
    exact ⟨⟨False.elim, fun _ => trivial⟩, _, rfl, rfl⟩
theorem e6_r (hix : ix < 8) (h1 : M.1 232 27 = nI (H.1 5 0)) (h2 : ∀ j, j < 196 → M.1 252 j = nI (H.1 4 j)) : cp_476_302 (nI ix) 0 (mz_sI M 332 (stm (fun _ => 0) o)) ∧ cf_476_302 (nI ix) 0 (mz_sI M 332 (stm (fun _ => 0) o)) = mz_sI M 332 (stm (kx H 6 ix) o) := by
  have i0 : mz_ib 0 28 := ib_n (k := 0) (by omega) (by omega)
  by_cases w7 : ix = 7
  · have e : kx H 6 ix = up (fun _ => 0) 0 (H.1 5 0) := by rw [w7]; rfl
    have e27 : (mz_sI M 332 (stm (fun _ => 0) o)).1 232 27 = nI (H.1 5 0) := by rw [sI_n (by decide)]; exact h1
    have e7 : cf_476_341 (nI ix) (mz_sI M 332 (stm (fun _ => 0) o)) = mz_sI M 332 (stm (kx H 6 ix) o) := by
      rw [cf_476_341, if_pos (by rw [w7]; rfl), cf_476_366, e27, i2b_n, e, ← nI_0, stm_w (by omega)]
    refine mz_lpn (f := cq_476_302 (nI ix)) (P := cd_476_302 (nI ix)) (Q := fun t => t = mz_sI M 332 (stm (kx H 6 ix) o)) 0 (fun t s => s = (nI t, mz_sI M 332 (stm (fun _ => 0) o))) ?_ ?_ (Nat.zero_le _) rfl
    · intro t s ht; omega
    · rintro s rfl
      have hlt : nI 0 < 28 := by decide
      have h7 : ¬ nI ix < 7 := by rw [w7]; decide
      rw [cd_476_302, cq_476_302]
      simp only [hlt, h7, if_true, if_false]
      refine ⟨⟨fun _ => ⟨False.elim, fun _ => ⟨fun _ => i0, fun _ => i0⟩⟩, fun q => absurd trivial q⟩, _, rfl, e7⟩
  · have e : kx H 6 ix = cut 28 (fun t => H.1 4 (28 * ix + t)) := by
      show (if ix = 7 then up (fun _ => 0) 0 (H.1 5 0) else cut 28 (fun t => H.1 4 (28 * ix + t))) = _
      rw [if_neg w7]
    have n7 : ¬ nI ix = 7 := fun q => w7 ((nI_eq (b := 7) (by omega) (by omega)).mp q)
    have l7 : nI ix < 7 := (nI_ltI (b := 7) (by omega) (by omega)).mpr (by omega)
    rw [e]
    refine mz_lpn (f := cq_476_302 (nI ix)) (P := cd_476_302 (nI ix)) (Q := fun t => t = mz_sI M 332 (stm (cut 28 (fun t => H.1 4 (28 * ix + t))) o)) 28 (fun t s => s = (nI t, mz_sI M 332 (stm (cut t (fun t => H.1 4 (28 * ix + t))) o))) ?_ ?_ (Nat.zero_le _) (by rw [cut_0]; rfl)
    · rintro t s ht rfl
      have g3 : ∀ f, mz_gI (mz_sI M 332 f) 252 (nI (28 * ix + t)) = nI (H.1 4 (28 * ix + t)) := fun f => by rw [rd_m (by decide) (by omega), h2 _ (by omega)]
      simp (disch := omega) only [cd_476_302, cq_476_302, l7, nI_ltI, (show (28 : Int32) = nI 28 from rfl), ht, pk_mul, nI_add, g3, i2b_n, stm_w, nI_1, ib_i, not_false_eq_true, not_true_eq_false, if_true, if_false, true_implies, false_implies, implies_true, and_true, true_and]
      exact ⟨by omega, Or.inl ⟨_, rfl, by rw [cut_s]⟩⟩
    · rintro s rfl
      have hlt : ¬ nI 28 < 28 := by decide
      have e8 : cf_476_341 (nI ix) (mz_sI M 332 (stm (cut 28 (fun t => H.1 4 (28 * ix + t))) o)) = mz_sI M 332 (stm (cut 28 (fun t => H.1 4 (28 * ix + t))) o) := by
        generalize cut 28 (fun t => H.1 4 (28 * ix + t)) = g
        rw [cf_476_341, if_neg n7, cf_476_366]
        have g0 : mz_gI (mz_sI M 332 (stm g o)) 332 0 = by8 (g 0) := by
          rw [gI_a, sI_e]; rfl
        rw [g0, by8_nb, ← nI_0, stm_w (by omega), show up g 0 (g 0) = g from funext fun j => by rw [up_d]; split <;> simp_all]
      rw [cd_476_302, cq_476_302]
      simp only [hlt, if_false]
      exact ⟨⟨False.elim, fun _ => ⟨fun _ => i0, fun _ => i0⟩⟩, _, rfl, e8⟩
theorem e7_r (hix : ix < 2) (hb : kpb H) (hk : ∀ j, j < 11 → M.1 247 j = H.2.1 1 j ∧ M.1 248 j = nI (H.1 6 j)) : cp_476_373 (nI ix) 0 (mz_sI M 332 (stm (fun _ => 0) o)) ∧ cf_476_373 (nI ix) 0 (mz_sI M 332 (stm (fun _ => 0) o)) = mz_sI M 332 (stm (kx H 7 ix) o) := by
  have b6 := hb.2.2.2.2.2.2.2.1
  have hc : ix = 0 ∨ ix = 1 := by omega
  rcases hc with rfl | rfl
  · refine mz_lpn (f := cq_476_373 (nI 0)) (P := cd_476_373 (nI 0)) (Q := fun t => t = mz_sI M 332 (stm (kx H 7 0) o)) 11 (fun t s => s = (nI t, mz_sI M 332 (stm (wrd (fun t => (H.2.1 1 t).toInt64) t) o))) ?_ ?_ (Nat.zero_le _) rfl
    · rintro t s ht rfl
      have g3 : ∀ f, mz_gI (mz_sI M 332 f) 247 (nI t) = H.2.1 1 t := fun f => by rw [rd_m (by decide) (by omega), (hk _ (by omega)).1]
      simp (disch := omega) only [cd_476_373, cq_476_373, cp_476_394, cf_476_394, cp_476_403, cf_476_403, cp_476_426, cf_476_426, nI_ltI, nI_0, (show (11 : Int32) = nI 11 from rfl), (show (2 : Int32) = nI 2 from rfl), ht, pk_mul, g3, stm_n1, stm_n2, nI_1, ib_i, not_false_eq_true, not_true_eq_false, if_true, if_false, true_implies, false_implies, implies_true, and_true, true_and]
      exact Or.inl ⟨_, rfl, rfl⟩
    · rintro s rfl
      have hlt : ¬ nI 11 < 11 := by decide
      rw [cd_476_373, cq_476_373]
      simp only [hlt, if_false]
      exact ⟨⟨False.elim, fun _ => trivial⟩, _, rfl, rfl⟩
  · refine mz_lpn (f := cq_476_373 (nI 1)) (P := cd_476_373 (nI 1)) (Q := fun t => t = mz_sI M 332 (stm (kx H 7 1) o)) 11 (fun t s => s = (nI t, mz_sI M 332 (stm (cut t (H.1 6)) o))) ?_ ?_ (Nat.zero_le _) (by rw [cut_0]; rfl)
    · rintro t s ht rfl
      have g3 : ∀ f, mz_gI (mz_sI M 332 f) 248 (nI t) = nI (H.1 6 t) := fun f => by rw [rd_m (by decide) (by omega), (hk _ (by omega)).2]
      have h1 : ¬ nI 1 = 0 := by decide
      rw [cd_476_373, cq_476_373, cp_476_394, cp_476_394, cf_476_394, cf_476_394, cp_476_403, cp_476_403, cp_476_403, cp_476_403, cf_476_403, cf_476_403, cf_476_403, cf_476_403]
      simp (disch := omega) only [cp_476_426, cf_476_426, nI_ltI, h1, (show (11 : Int32) = nI 11 from rfl), (show (1 : Int32) = nI 1 from rfl), ht, g3, stm_n1, stm_n2, pb_1, lb_nI (b6 _), nI_add, ib_i, not_false_eq_true, not_true_eq_false, if_true, if_false, true_implies, false_implies, implies_true, and_true, true_and]
      exact Or.inl ⟨_, rfl, by rw [cut_s]⟩
    · rintro s rfl
      have hlt : ¬ nI 11 < 11 := by decide
      rw [cd_476_373, cq_476_373]
      simp only [hlt, if_false]
      exact ⟨⟨False.elim, fun _ => trivial⟩, _, rfl, rfl⟩
end Mak
