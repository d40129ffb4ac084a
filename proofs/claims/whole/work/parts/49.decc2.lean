/-! PURE (49): the class reads its keys: numbers. -/
section Dcd
variable {N : mz_N} {k ix : Nat} {H G : Kp} {nn : Nat}
theorem d8_c (hk : k < 135) (hix : ix < 10) (h : by3 N k (kx G 8 ix)) (hn : c_kn N H) (hs : c_ks N H nn) : cp_63_0 (nI ix) (nI (28 * k)) N ∧ c_dr N (cf_63_0 (nI ix) (nI (28 * k)) N) H G 8 ix nn := by
  have q0 : ∀ M, by3 M k (kx G 8 ix) → cp_61_0 223 3780 (nI (28 * k)) 8 M ∧ cf_61_0 223 3780 (nI (28 * k)) 8 M = G.2.2 0 ix := fun M hM => rb8 (p := 0) hM hk (by omega) (fun i hi => by rw [Nat.zero_add]; exact (k8 hi).1)
  have q1 : ∀ M, by3 M k (kx G 8 ix) → cp_61_0 223 3780 (nI (28 * k) + 8) 8 M ∧ cf_61_0 223 3780 (nI (28 * k) + 8) 8 M = G.2.2 1 ix := fun M hM => by
    rw [show nI (28 * k) + 8 = nI (28 * k + 8) from nI_add _ _]
    exact rb8 (p := 8) hM hk (by omega) (fun i hi => (k8 hi).2)
  have q2 : ∀ M, by3 M k (kx G 8 ix) → cp_61_0 223 3780 (nI (28 * k) + 16) 4 M ∧ (cf_61_0 223 3780 (nI (28 * k) + 16) 4 M).toInt32 = G.2.1 2 ix := fun M hM => by
    rw [show nI (28 * k) + 16 = nI (28 * k + 16) from nI_add _ _]
    exact rb4 (p := 16) hM hk (by omega) (fun i hi => (k8b hi).1)
  have q3 : ∀ M, by3 M k (kx G 8 ix) → cp_61_0 223 3780 (nI (28 * k) + 20) 4 M ∧ (cf_61_0 223 3780 (nI (28 * k) + 20) 4 M).toInt32 = G.2.1 3 ix := fun M hM => by
    rw [show nI (28 * k) + 20 = nI (28 * k + 20) from nI_add _ _]
    exact rb4 (p := 20) hM hk (by omega) (fun i hi => (k8b hi).2.1)
  have q4 : ∀ M, by3 M k (kx G 8 ix) → cp_61_0 223 3780 (nI (28 * k) + 24) 4 M ∧ (cf_61_0 223 3780 (nI (28 * k) + 24) 4 M).toInt32 = G.2.1 4 ix := fun M hM => by
    rw [show nI (28 * k) + 24 = nI (28 * k + 24) from nI_add _ _]
    exact rb4 (p := 24) hM hk (by omega) (fun i hi => (k8b hi).2.2)
  obtain ⟨k1, k2, k3, k4, k5, k7, k8, k8b, k9, k10, k11, k12, k13, k14, k15⟩ := hn
  have i1 : mz_ib (nI ix) 10 := ib_n hix (by omega)
  have i2 : mz_ib (nI ix) 11 := ib_n (by omega) (by omega)
  rw [cp_63_0, cf_63_0, (q0 N h).2, (q1 (mz_wL N 213 (nI ix) (G.2.2 0 ix)) h).2, cp_63_29, cf_63_29, (q2 (mz_wL (mz_wL N 213 (nI ix) (G.2.2 0 ix)) 214 (nI ix) (G.2.2 1 ix)) h).2, (q3 (mz_wI (mz_wL (mz_wL N 213 (nI ix) (G.2.2 0 ix)) 214 (nI ix) (G.2.2 1 ix)) 210 (nI ix) (G.2.1 2 ix)) h).2, cp_63_65, cf_63_65, (q4 (mz_wI (mz_wI (mz_wL (mz_wL N 213 (nI ix) (G.2.2 0 ix)) 214 (nI ix) (G.2.2 1 ix)) 210 (nI ix) (G.2.1 2 ix)) 211 (nI ix) (G.2.1 3 ix)) h).2]
  refine ⟨⟨(q0 N h).1, i1, (q1 _ h).1, i1, (q2 _ h).1, i2, (q3 _ h).1, i2, (q4 _ h).1, i2⟩, fq_wI (fq_wI (fq_wI (fq_wL (fq_wL (fq_refl _ _ _) rfl) rfl) rfl) rfl) rfl, ⟨k1, k2, k3, k4, k5, k7, fun j hj => ?_, fun j hj => ?_, k9, k10, k11, k12, k13, k14, k15⟩, hs, fun _ _ => rfl⟩
  · show (mz_wI N 210 (nI ix) (G.2.1 2 ix)).1 210 j = up (H.2.1 2) ix (G.2.1 2 ix) j ∧ (mz_wI N 211 (nI ix) (G.2.1 3 ix)).1 211 j = up (H.2.1 3) ix (G.2.1 3 ix) j ∧ (mz_wI N 212 (nI ix) (G.2.1 4 ix)).1 212 j = up (H.2.1 4) ix (G.2.1 4 ix) j
    obtain ⟨m1, m2, m3⟩ := k8 j hj
    rw [wI_at (by omega), wI_at (by omega), wI_at (by omega), up_d, up_d, up_d, m1, m2, m3]
    exact ⟨rfl, rfl, rfl⟩
  · show (mz_wL N 213 (nI ix) (G.2.2 0 ix)).2 213 j = up (H.2.2 0) ix (G.2.2 0 ix) j ∧ (mz_wL N 214 (nI ix) (G.2.2 1 ix)).2 214 j = up (H.2.2 1) ix (G.2.2 1 ix) j
    obtain ⟨m1, m2⟩ := k8b j hj
    rw [wL_at (by omega), wL_at (by omega), up_d, up_d, m1, m2]
    exact ⟨rfl, rfl⟩
theorem d9_c (hk : k < 135) (h : by3 N k (kx G 9 ix)) (hn : c_kn N H) (hs : c_ks N H nn) : cp_64_0 (nI (28 * k)) N ∧ c_dr N (cf_64_0 (nI (28 * k)) N) H G 9 ix nn := by
  have q0 : ∀ M, by3 M k (kx G 9 ix) → cp_61_0 223 3780 (nI (28 * k)) 4 M ∧ (cf_61_0 223 3780 (nI (28 * k)) 4 M).toInt32 = G.2.1 5 0 := fun M hM => rb4 (p := 0) hM hk (by omega) (fun i hi => by rw [Nat.zero_add]; exact (k9b hi).1)
  have q1 : ∀ M, by3 M k (kx G 9 ix) → cp_61_0 223 3780 (nI (28 * k) + 4) 8 M ∧ cf_61_0 223 3780 (nI (28 * k) + 4) 8 M = G.2.2 2 0 := fun M hM => by
    rw [show nI (28 * k) + 4 = nI (28 * k + 4) from nI_add _ _]
    exact rb8 (p := 4) hM hk (by omega) (fun i hi => (k9 hi).1)
  have q2 : ∀ M, by3 M k (kx G 9 ix) → cp_61_0 223 3780 (nI (28 * k) + 12) 8 M ∧ cf_61_0 223 3780 (nI (28 * k) + 12) 8 M = G.2.2 2 1 := fun M hM => by
    rw [show nI (28 * k) + 12 = nI (28 * k + 12) from nI_add _ _]
    exact rb8 (p := 12) hM hk (by omega) (fun i hi => (k9 hi).2)
  have q3 : ∀ M, by3 M k (kx G 9 ix) → cp_61_0 223 3780 (nI (28 * k) + 20) 4 M ∧ (cf_61_0 223 3780 (nI (28 * k) + 20) 4 M).toInt32 = G.2.1 5 1 := fun M hM => by
    rw [show nI (28 * k) + 20 = nI (28 * k + 20) from nI_add _ _]
    exact rb4 (p := 20) hM hk (by omega) (fun i hi => (k9b hi).2.1)
  have q4 : ∀ M, by3 M k (kx G 9 ix) → cp_61_0 223 3780 (nI (28 * k) + 24) 4 M ∧ (cf_61_0 223 3780 (nI (28 * k) + 24) 4 M).toInt32 = G.2.1 5 2 := fun M hM => by
    rw [show nI (28 * k) + 24 = nI (28 * k + 24) from nI_add _ _]
    exact rb4 (p := 24) hM hk (by omega) (fun i hi => (k9b hi).2.2)
  obtain ⟨k1, k2, k3, k4, k5, k7, k8, k8b, k9, k10, k11, k12, k13, k14, k15⟩ := hn
  rw [cp_64_0, cf_64_0, (q0 N h).2, (q1 (mz_pI N 208 0 (G.2.1 5 0)) h).2, cp_64_24, cf_64_24, (q2 (mz_pL (mz_pI N 208 0 (G.2.1 5 0)) 208 1 (G.2.2 2 0)) h).2, (q3 (mz_pL (mz_pL (mz_pI N 208 0 (G.2.1 5 0)) 208 1 (G.2.2 2 0)) 208 2 (G.2.2 2 1)) h).2, cp_64_52, cf_64_52, (q4 (mz_pI (mz_pL (mz_pL (mz_pI N 208 0 (G.2.1 5 0)) 208 1 (G.2.2 2 0)) 208 2 (G.2.2 2 1)) 208 3 (G.2.1 5 1)) h).2]
  refine ⟨⟨(q0 N h).1, (q1 _ h).1, (q2 _ h).1, (q3 _ h).1, (q4 _ h).1⟩, fq_pI (fq_pI (fq_pL (fq_pL (fq_pI (fq_refl _ _ _) rfl) rfl) rfl) rfl) rfl, ⟨k1, k2, k3, k4, k5, k7, k8, k8b, ⟨rfl, rfl, rfl, rfl, rfl⟩, k10, k11, k12, k13, k14, k15⟩, hs, fun _ _ => rfl⟩
theorem d11_c (hk : k < 135) (hix : ix < 3) (h : by3 N k (kx G 11 ix)) (hn : c_kn N H) (hs : c_ks N H nn) : cp_66_0 (nI ix) (nI (28 * k)) N ∧ c_dr N (cf_66_0 (nI ix) (nI (28 * k)) N) H G 11 ix nn := by
  have q0 : ∀ M, by3 M k (kx G 11 ix) → cp_61_0 223 3780 (nI (28 * k)) 4 M ∧ (cf_61_0 223 3780 (nI (28 * k)) 4 M).toInt32 = G.2.1 7 ix := fun M hM => rb4 (p := 0) hM hk (by omega) (fun i hi => by rw [Nat.zero_add]; exact (k11 hi).1)
  have q1 : ∀ M, by3 M k (kx G 11 ix) → cp_61_0 223 3780 (nI (28 * k) + 4) 4 M ∧ (cf_61_0 223 3780 (nI (28 * k) + 4) 4 M).toInt32 = G.2.1 8 ix := fun M hM => by
    rw [show nI (28 * k) + 4 = nI (28 * k + 4) from nI_add _ _]
    exact rb4 (p := 4) hM hk (by omega) (fun i hi => (k11 hi).2.1)
  have q2 : ∀ M, by3 M k (kx G 11 ix) → cp_61_0 223 3780 (nI (28 * k) + 8) 4 M ∧ (cf_61_0 223 3780 (nI (28 * k) + 8) 4 M).toInt32 = G.2.1 9 ix := fun M hM => by
    rw [show nI (28 * k) + 8 = nI (28 * k + 8) from nI_add _ _]
    exact rb4 (p := 8) hM hk (by omega) (fun i hi => (k11 hi).2.2)
  have q3 : ∀ M, by3 M k (kx G 11 ix) → mz_gI M 223 (nI (28 * k) + 12) = nI (G.1 7 ix) := fun M hM => by
    rw [show nI (28 * k) + 12 = nI (28 * k + 12) from nI_add _ _]
    exact rb1 (p := 12) hM hk (by omega)
  have i2 : mz_ib (nI (28 * k) + 12) 3780 := by
    rw [show nI (28 * k) + 12 = nI (28 * k + 12) from nI_add _ _]; exact ib_n (by omega) (by omega)
  obtain ⟨k1, k2, k3, k4, k5, k7, k8, k8b, k9, k10, k11, k12, k13, k14, k15⟩ := hn
  have i1 : mz_ib (nI ix) 3 := ib_n hix (by omega)
  rw [cp_66_0, cf_66_0, (q0 N h).2, (q1 (mz_wI N 125 (nI ix) (G.2.1 7 ix)) h).2, cp_66_32, cf_66_32, (q2 (mz_wI (mz_wI N 125 (nI ix) (G.2.1 7 ix)) 126 (nI ix) (G.2.1 8 ix)) h).2, q3 (mz_wI (mz_wI (mz_wI N 125 (nI ix) (G.2.1 7 ix)) 126 (nI ix) (G.2.1 8 ix)) 127 (nI ix) (G.2.1 9 ix)) h]
  refine ⟨⟨(q0 N h).1, i1, (q1 _ h).1, i1, (q2 _ h).1, i1, i2, i1⟩, fq_wI (fq_wI (fq_wI (fq_wI (fq_refl _ _ _) rfl) rfl) rfl) rfl, ⟨k1, k2, k3, k4, k5, k7, k8, k8b, k9, k10, fun j hj => ?_, k12, k13, k14, k15⟩, hs, fun _ _ => rfl⟩
  show (mz_wI N 125 (nI ix) (G.2.1 7 ix)).1 125 j = up (H.2.1 7) ix (G.2.1 7 ix) j ∧ (mz_wI N 126 (nI ix) (G.2.1 8 ix)).1 126 j = up (H.2.1 8) ix (G.2.1 8 ix) j ∧ (mz_wI N 127 (nI ix) (G.2.1 9 ix)).1 127 j = up (H.2.1 9) ix (G.2.1 9 ix) j ∧ (mz_wI N 128 (nI ix) (nI (G.1 7 ix))).1 128 j = nI (up (H.1 7) ix (G.1 7 ix) j)
  obtain ⟨m1, m2, m3, m4⟩ := k11 j hj
  rw [wI_at (by omega), wI_at (by omega), wI_at (by omega), wI_at (by omega), up_d, up_d, up_d, up_d, m1, m2, m3, m4]
  refine ⟨rfl, rfl, rfl, ?_⟩
  split <;> rfl
theorem d13_c (hk : k < 135) (hix : ix < 20) (h : by3 N k (kx G 13 ix)) (hn : c_kn N H) (hs : c_ks N H nn) : mz_ib (nI (28 * k) + 1) 3780 ∧ mz_ib (nI (28 * k) + 2) 3780 ∧ cp_69_0 (nI ix) (mz_gI N 223 (nI (28 * k) + 1)) (mz_gI N 223 (nI (28 * k) + 2)) N ∧ c_dr N (cf_69_0 (nI ix) (mz_gI N 223 (nI (28 * k) + 1)) (mz_gI N 223 (nI (28 * k) + 2)) N) H G 13 ix nn := by
  have e1 : nI (28 * k) + 1 = nI (28 * k + 1) := nI_add _ _
  have e2 : nI (28 * k) + 2 = nI (28 * k + 2) := nI_add _ _
  rw [e1, e2, rb1 (p := 1) h hk (by omega), rb1 (p := 2) h hk (by omega)]
  have i1 : mz_ib (nI ix) 20 := ib_n hix (by omega)
  obtain ⟨k1, k2, k3, k4, k5, k7, k8, k8b, k9, k10, k11, k12, k13, k14, k15⟩ := hn
  refine ⟨ib_n (by omega) (by omega), ib_n (by omega) (by omega), ⟨i1, i1, i1⟩, fq_wI (fq_wI (fq_wI (fq_refl _ _ _) rfl) rfl) rfl, ⟨k1, k2, k3, k4, k5, k7, k8, k8b, k9, k10, k11, k12, fun j hj => ?_, k14, k15⟩, hs, fun _ _ => rfl⟩
  show (mz_wI N 101 (nI ix) 1).1 101 j = nI (up (H.1 12) ix 1 j) ∧ (up (H.1 12) ix 1 j = 1 → (mz_wI N 102 (nI ix) (nI (G.1 13 ix))).1 102 j = nI (up (H.1 13) ix (G.1 13 ix) j) ∧ (mz_wI N 103 (nI ix) (nI (G.1 14 ix))).1 103 j = nI (up (H.1 14) ix (G.1 14 ix) j))
  obtain ⟨m1, m2⟩ := k13 j hj
  rw [wI_at (by omega), wI_at (by omega), wI_at (by omega), up_d, up_d, up_d]
  by_cases w : j = ix
  · rw [if_pos w, if_pos w, if_pos w, if_pos w, if_pos w, if_pos w]; exact ⟨rfl, fun _ => ⟨rfl, rfl⟩⟩
  · rw [if_neg w, if_neg w, if_neg w, if_neg w, if_neg w, if_neg w]; exact ⟨m1, m2⟩
theorem d15_c (hk : k < 135) (hix : ix < 8) (h : by3 N k (kx G 15 ix)) (hn : c_kn N H) (hs : c_ks N H nn) : mz_ib (nI (28 * k) + 1) 3780 ∧ mz_ib (nI (28 * k) + 2) 3780 ∧ cp_72_0 (nI ix) (mz_gI N 223 (nI (28 * k) + 1)) (mz_gI N 223 (nI (28 * k) + 2)) N ∧ c_dr N (cf_72_0 (nI ix) (mz_gI N 223 (nI (28 * k) + 1)) (mz_gI N 223 (nI (28 * k) + 2)) N) H G 15 ix nn := by
  have e1 : nI (28 * k) + 1 = nI (28 * k + 1) := nI_add _ _
  have e2 : nI (28 * k) + 2 = nI (28 * k + 2) := nI_add _ _
  rw [e1, e2, rb1 (p := 1) h hk (by omega), rb1 (p := 2) h hk (by omega)]
  have i1 : mz_ib (nI ix) 8 := ib_n hix (by omega)
  obtain ⟨k1, k2, k3, k4, k5, k7, k8, k8b, k9, k10, k11, k12, k13, k14, k15⟩ := hn
  obtain ⟨s1, s2, s3⟩ := hs
  refine ⟨ib_n (by omega) (by omega), ib_n (by omega) (by omega), ⟨i1, i1, i1, i1⟩, fq_wI (fq_wI (fq_wI (fq_wI (fq_refl _ _ _) rfl) rfl) rfl) rfl, ⟨k1, k2, k3, k4, k5, k7, k8, k8b, k9, k10, k11, k12, k13, k14, fun j hj => ?_⟩, ⟨s1, fun j hj => ?_, s3⟩, fun _ _ => rfl⟩
  · show (mz_wI N 87 (nI ix) 1).1 87 j = nI (up (H.1 19) ix 1 j) ∧ (up (H.1 19) ix 1 j = 1 → (mz_wI N 88 (nI ix) (nI (G.1 20 ix))).1 88 j = nI (up (H.1 20) ix (G.1 20 ix) j) ∧ (mz_wI N 89 (nI ix) (nI (G.1 21 ix))).1 89 j = nI (up (H.1 21) ix (G.1 21 ix) j))
    obtain ⟨m1, m2⟩ := k15 j hj
    rw [wI_at (by omega), wI_at (by omega), wI_at (by omega), up_d, up_d, up_d]
    by_cases w : j = ix
    · rw [if_pos w, if_pos w, if_pos w, if_pos w, if_pos w, if_pos w]; exact ⟨rfl, fun _ => ⟨rfl, rfl⟩⟩
    · rw [if_neg w, if_neg w, if_neg w, if_neg w, if_neg w, if_neg w]; exact ⟨m1, m2⟩
  · show (mz_wI N 99 (nI ix) 0).1 99 j = 0
    rw [wI_at (by omega), s2 j hj]
    split <;> rfl
theorem d14_c (hk : k < 135) (hix : ix < 40) (h : by3 N k (kx G 14 ix)) (hn : c_kn N H) (hs : c_ks N H nn) : cp_70_0 (nI ix) (nI (28 * k)) N ∧ c_dr N (cf_70_0 (nI ix) (nI (28 * k)) N) H G 14 ix nn := by
  have e1 : nI (28 * k) + 1 = nI (28 * k + 1) := nI_add _ _
  have e2 : nI (28 * k) + 2 = nI (28 * k + 2) := nI_add _ _
  have e3 : nI (28 * k) + 3 = nI (28 * k + 3) := nI_add _ _
  have e4 : nI (28 * k) + 4 = nI (28 * k + 4) := nI_add _ _
  obtain ⟨q1, q2⟩ := rb4 (p := 4) (v := G.2.1 12 ix) h hk (by omega) (fun i hi => k14 hi)
  have i1 : mz_ib (nI ix) 40 := ib_n hix (by omega)
  rw [cp_70_0, cf_70_0, e1, e2, e3, e4, rb1 (p := 1) h hk (by omega), rb1 (p := 2) h hk (by omega), rb1 (p := 3) h hk (by omega), q2]
  obtain ⟨k1, k2, k3, k4, k5, k7, k8, k8b, k9, k10, k11, k12, k13, k14, k15⟩ := hn
  refine ⟨⟨q1, ib_n (by omega) (by omega), ib_n (by omega) (by omega), ib_n (by omega) (by omega), ⟨i1, i1, i1, i1, i1⟩, trivial⟩, fq_wI (fq_wI (fq_wI (fq_wI (fq_wI (fq_refl _ _ _) rfl) rfl) rfl) rfl) rfl, ⟨k1, k2, k3, k4, k5, k7, k8, k8b, k9, k10, k11, k12, k13, fun j hj => ?_, k15⟩, hs, fun _ _ => rfl⟩
  show (mz_wI N 104 (nI ix) 1).1 104 j = nI (up (H.1 15) ix 1 j) ∧ (up (H.1 15) ix 1 j = 1 → (mz_wI N 105 (nI ix) (nI (G.1 16 ix))).1 105 j = nI (up (H.1 16) ix (G.1 16 ix) j) ∧ (mz_wI N 106 (nI ix) (nI (G.1 17 ix))).1 106 j = nI (up (H.1 17) ix (G.1 17 ix) j) ∧ (mz_wI N 107 (nI ix) (nI (G.1 18 ix))).1 107 j = nI (up (H.1 18) ix (G.1 18 ix) j) ∧ (mz_wI N 108 (nI ix) (G.2.1 12 ix)).1 108 j = up (H.2.1 12) ix (G.2.1 12 ix) j)
  obtain ⟨m1, m2⟩ := k14 j hj
  rw [wI_at (by omega), wI_at (by omega), wI_at (by omega), wI_at (by omega), wI_at (by omega), up_d, up_d, up_d, up_d, up_d]
  by_cases w : j = ix
  · simp only [w, if_true]; exact ⟨rfl, fun _ => ⟨trivial, trivial, trivial, trivial⟩⟩
  · simp only [w, if_false]; exact ⟨m1, m2⟩
end Dcd
