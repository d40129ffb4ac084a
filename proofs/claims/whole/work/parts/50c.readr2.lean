/-! PURE (50c): the reference reads its keys: numbers. -/
theorem wI_id {M : mz_N} {a : Nat} {i : Int32} : mz_wI M a i (mz_gI M a i) = M := by
  rw [wI_s, gI_a, show upd (M.1 a) i.toNatClampNeg (M.1 a i.toNatClampNeg) = M.1 a from funext fun j => by rw [up_a]; split <;> simp_all, sI_same]
section Drd
variable {N : mz_N} {k ix : Nat} {H G : Kp}
theorem d7_r (hk : k < 135) (hix : ix < 2) (hl : kpl G 7 ix) (h : by4 N k (kx G 7 ix)) (hn : r_kp N H) (hs : r_ks N H) : cp_421_336 (nI ix) (nI (28 * k)) 0 N ∧ r_dr N (cf_421_336 (nI ix) (nI (28 * k)) 0 N) H G 7 ix := by
  obtain ⟨k1, k2, k3, k4, k5, k6, k6b, k7, k8, k8b, k9, k10, k11, k12, k13, k14, k15⟩ := hn
  have hc : ix = 0 ∨ ix = 1 := by omega
  rcases hc with rfl | rfl
  · obtain ⟨p1, g, p2, p3⟩ := lp_fill (f := cq_421_336 (nI 0) (nI (28 * k))) (P := cd_421_336 (nI 0) (nI (28 * k))) (N := N) 247 0 11 (fun t => G.2.1 1 t) id (by omega) (fun t ht g => by
      have e1 : nI (28 * k) + 2 * nI t = nI (28 * k + 2 * t) := by rw [show (2 : Int32) = nI 2 from rfl, pk_mul, nI_add]
      have h2 : by4 (mz_sI N 247 g) k (kx G 7 0) := h
      obtain ⟨r, hr, er⟩ := hl.2.1 rfl rfl t ht
      obtain ⟨q1, q2⟩ := ra8 (p := 2 * t) (n := 2) (v := (G.2.1 1 t).toInt64) h2 hk (by omega) (by omega) (fun i hi => by rw [show kx G 7 0 = wrd (fun t => (G.2.1 1 t).toInt64) 11 from rfl, wrd_at ht i hi])
      have q1' : cp_423_0 331 3780 (nI (28 * k + 2 * t)) 2 (mz_sI N 247 g) := q1
      have q2' : (cf_423_0 331 3780 (nI (28 * k + 2 * t)) 2 (mz_sI N 247 g)).toInt32 = G.2.1 1 t := by
        rw [show cf_423_0 331 3780 (nI (28 * k + 2 * t)) 2 (mz_sI N 247 g) = lN (uv (G.2.1 1 t).toInt64 % 2 ^ 16) from q2, lN_i, er]
        have := toInt64_uv r (by omega)
        congr 1
        omega
      have hlt : nI t < 11 := (nI_ltI (b := 11) (by omega) (by omega)).mpr ht
      have h0 : nI 0 = 0 := rfl
      have h1 : ¬ nI 0 = 1 := by decide
      have i1 : mz_ib (nI t) 11 := ib_n ht (by omega)
      rw [cd_421_336, cq_421_336]
      simp only [hlt, if_true]
      rw [if_pos h0, e1, q2', cf_421_378, if_neg h1, cf_421_407, wI_id, nI_1, Nat.zero_add]
      exact ⟨⟨fun _ => ⟨fun _ => ⟨q1', i1, ⟨fun w => absurd w h1, fun _ => ⟨i1, i1⟩⟩⟩, fun w => absurd h0 w⟩, fun w => absurd trivial w⟩, rfl⟩) (fun g => by
      have hlt : ¬ nI 11 < 11 := by decide
      rw [cd_421_336, cq_421_336]
      simp only [hlt, if_false]
      exact ⟨⟨False.elim, fun _ => trivial⟩, rfl⟩)
    refine ⟨p1, ?_⟩
    rw [show cf_421_336 (nI 0) (nI (28 * k)) 0 N = mz_sI N 247 g from p2]
    refine ⟨fq_sI (fq_refl _ _ _) rfl, ⟨k1, k2, k3, k4, k5, k6, k6b, fun j hj => ⟨?_, (k7 j hj).2⟩, k8, k8b, k9, k10, k11, k12, k13, k14, k15⟩, hs, fun _ _ _ => rfl, fun _ _ => rfl⟩
    show (mz_sI N 247 g).1 247 j = rg 0 11 (G.2.1 1) (H.2.1 1) j
    rw [sI_e, p3, if_pos (by omega), Nat.sub_zero, rg_in (by omega) (by omega)]
  · obtain ⟨p1, g, p2, p3⟩ := lp_fill (f := cq_421_336 (nI 1) (nI (28 * k))) (P := cd_421_336 (nI 1) (nI (28 * k))) (N := N) 248 0 11 (fun t => nI (G.1 6 t)) id (by omega) (fun t ht g => by
      have h2 : by4 (mz_sI N 248 g) k (kx G 7 1) := h
      obtain ⟨q1, q2⟩ := ra1 (p := t) h2 hk (by omega)
      have ho : kx G 7 1 t = G.1 6 t := if_pos ht
      have hlt : nI t < 11 := (nI_ltI (b := 11) (by omega) (by omega)).mpr ht
      have h0 : ¬ nI 1 = 0 := by decide
      have h1 : nI 1 = 1 := rfl
      have i1 : mz_ib (nI t) 11 := ib_n ht (by omega)
      rw [cd_421_336, cq_421_336]
      simp only [hlt, if_true]
      rw [if_neg h0, cp_421_378, cf_421_378, cp_421_378, if_pos h1, cf_421_407, wI_id, q2, ho, nI_1, Nat.zero_add]
      exact ⟨⟨fun _ => ⟨fun w => absurd w h0, fun _ => ⟨i1, i1, ⟨fun _ => ⟨q1, i1⟩, fun w => absurd h1 w⟩⟩⟩, fun w => absurd trivial w⟩, rfl⟩) (fun g => by
      have hlt : ¬ nI 11 < 11 := by decide
      rw [cd_421_336, cq_421_336]
      simp only [hlt, if_false]
      exact ⟨⟨False.elim, fun _ => trivial⟩, rfl⟩)
    refine ⟨p1, ?_⟩
    rw [show cf_421_336 (nI 1) (nI (28 * k)) 0 N = mz_sI N 248 g from p2]
    refine ⟨fq_sI (fq_refl _ _ _) rfl, ⟨k1, k2, k3, k4, k5, k6, k6b, fun j hj => ⟨(k7 j hj).1, ?_⟩, k8, k8b, k9, k10, k11, k12, k13, k14, k15⟩, hs, fun _ _ _ => rfl, fun _ _ => rfl⟩
    show (mz_sI N 248 g).1 248 j = nI (rg 0 11 (G.1 6) (H.1 6) j)
    rw [sI_e, p3, if_pos (by omega), Nat.sub_zero, rg_in (by omega) (by omega)]
theorem d8_r (hk : k < 135) (hix : ix < 10) (h : by4 N k (kx G 8 ix)) (hn : r_kp N H) (hs : r_ks N H) : cp_424_0 8 (nI ix) (nI (28 * k)) N ∧ r_dr N (cf_424_0 8 (nI ix) (nI (28 * k)) N) H G 8 ix := by
  have q0 : ∀ M, by4 M k (kx G 8 ix) → cp_423_0 331 3780 (nI (28 * k)) 8 M ∧ cf_423_0 331 3780 (nI (28 * k)) 8 M = G.2.2 0 ix := fun M hM => by
    obtain ⟨a, c⟩ := ra8 (p := 0) (n := 8) (v := G.2.2 0 ix) hM hk (by omega) (by omega) (fun i hi => by rw [Nat.zero_add]; exact (k8 hi).1)
    exact ⟨a, (show cf_423_0 331 3780 (nI (28 * k)) 8 M = _ from c).trans (rv8 _)⟩
  have q1 : ∀ M, by4 M k (kx G 8 ix) → cp_423_0 331 3780 (nI (28 * k) + 8) 8 M ∧ cf_423_0 331 3780 (nI (28 * k) + 8) 8 M = G.2.2 1 ix := fun M hM => by
    rw [show nI (28 * k) + 8 = nI (28 * k + 8) from nI_add _ _]
    obtain ⟨a, c⟩ := ra8 (p := 8) (n := 8) (v := G.2.2 1 ix) hM hk (by omega) (by omega) (fun i hi => (k8 hi).2)
    exact ⟨a, (show cf_423_0 331 3780 (nI (28 * k + 8)) 8 M = _ from c).trans (rv8 _)⟩
  have q2 : ∀ M, by4 M k (kx G 8 ix) → cp_425_0 (nI (28 * k)) 16 M ∧ cf_425_0 (nI (28 * k)) 16 M = G.2.1 2 ix := fun M hM => ra4 (p := 16) hM hk (by omega) (fun i hi => (k8b hi).1)
  have q3 : ∀ M, by4 M k (kx G 8 ix) → cp_425_0 (nI (28 * k)) 20 M ∧ cf_425_0 (nI (28 * k)) 20 M = G.2.1 3 ix := fun M hM => ra4 (p := 20) hM hk (by omega) (fun i hi => (k8b hi).2.1)
  have q4 : ∀ M, by4 M k (kx G 8 ix) → cp_425_0 (nI (28 * k)) 24 M ∧ cf_425_0 (nI (28 * k)) 24 M = G.2.1 4 ix := fun M hM => ra4 (p := 24) hM hk (by omega) (fun i hi => (k8b hi).2.2)
  obtain ⟨k1, k2, k3, k4, k5, k6, k6b, k7, k8, k8b, k9, k10, k11, k12, k13, k14, k15⟩ := hn
  have i1 : mz_ib (nI ix) 10 := ib_n hix (by omega)
  have i2 : mz_ib (nI ix) 11 := ib_n (by omega) (by omega)
  rw [cf_424_0, if_pos rfl, (q0 N h).2, (q1 (mz_wL N 324 (nI ix) (G.2.2 0 ix)) h).2, cf_424_79, (q2 (mz_wL (mz_wL N 324 (nI ix) (G.2.2 0 ix)) 325 (nI ix) (G.2.2 1 ix)) h).2, (q3 (mz_wL (mz_wL (mz_wL N 324 (nI ix) (G.2.2 0 ix)) 325 (nI ix) (G.2.2 1 ix)) 321 (nI ix) (G.2.1 2 ix).toInt64) h).2, cf_424_107, (q4 (mz_wL (mz_wL (mz_wL (mz_wL N 324 (nI ix) (G.2.2 0 ix)) 325 (nI ix) (G.2.2 1 ix)) 321 (nI ix) (G.2.1 2 ix).toInt64) 322 (nI ix) (G.2.1 3 ix).toInt64) h).2]
  refine ⟨⟨fun _ => ⟨(q0 N h).1, i1, (q1 _ h).1, i1, (q2 _ h).1, i2, (q3 _ h).1, i2, (q4 _ h).1, i2⟩, fun w => absurd rfl w⟩, fq_wL (fq_wL (fq_wL (fq_wL (fq_wL (fq_refl _ _ _) rfl) rfl) rfl) rfl) rfl, ⟨k1, k2, k3, k4, k5, k6, k6b, k7, fun j hj => ?_, fun j hj => ?_, k9, k10, k11, k12, k13, k14, k15⟩, hs, fun _ _ _ => rfl, fun _ _ => rfl⟩
  · show (mz_wL N 321 (nI ix) (G.2.1 2 ix).toInt64).2 321 j = (up (H.2.1 2) ix (G.2.1 2 ix) j).toInt64 ∧ (mz_wL N 322 (nI ix) (G.2.1 3 ix).toInt64).2 322 j = (up (H.2.1 3) ix (G.2.1 3 ix) j).toInt64 ∧ (mz_wL N 323 (nI ix) (G.2.1 4 ix).toInt64).2 323 j = (up (H.2.1 4) ix (G.2.1 4 ix) j).toInt64
    obtain ⟨m1, m2, m3⟩ := k8 j hj
    rw [wL_at (by omega), wL_at (by omega), wL_at (by omega), up_d, up_d, up_d, m1, m2, m3]
    by_cases w : j = ix
    · simp only [w, if_true]; exact ⟨trivial, trivial, trivial⟩
    · simp only [w, if_false]; exact ⟨trivial, trivial, trivial⟩
  · show (mz_wL N 324 (nI ix) (G.2.2 0 ix)).2 324 j = up (H.2.2 0) ix (G.2.2 0 ix) j ∧ (mz_wL N 325 (nI ix) (G.2.2 1 ix)).2 325 j = up (H.2.2 1) ix (G.2.2 1 ix) j
    obtain ⟨m1, m2⟩ := k8b j hj
    rw [wL_at (by omega), wL_at (by omega), up_d, up_d, m1, m2]
    exact ⟨rfl, rfl⟩
theorem d9_r (hk : k < 135) (h : by4 N k (kx G 9 ix)) (hn : r_kp N H) (hs : r_ks N H) : cp_424_0 9 (nI ix) (nI (28 * k)) N ∧ r_dr N (cf_424_0 9 (nI ix) (nI (28 * k)) N) H G 9 ix := by
  have q0 : ∀ M, by4 M k (kx G 9 ix) → cp_425_0 (nI (28 * k)) 0 M ∧ cf_425_0 (nI (28 * k)) 0 M = G.2.1 5 0 := fun M hM => ra4 (p := 0) hM hk (by omega) (fun i hi => by rw [Nat.zero_add]; exact (k9b hi).1)
  have q1 : ∀ M, by4 M k (kx G 9 ix) → cp_423_0 331 3780 (nI (28 * k) + 4) 8 M ∧ cf_423_0 331 3780 (nI (28 * k) + 4) 8 M = G.2.2 2 0 := fun M hM => by
    rw [show nI (28 * k) + 4 = nI (28 * k + 4) from nI_add _ _]
    obtain ⟨a, c⟩ := ra8 (p := 4) (n := 8) (v := G.2.2 2 0) hM hk (by omega) (by omega) (fun i hi => (k9 hi).1)
    exact ⟨a, (show cf_423_0 331 3780 (nI (28 * k + 4)) 8 M = _ from c).trans (rv8 _)⟩
  have q2 : ∀ M, by4 M k (kx G 9 ix) → cp_423_0 331 3780 (nI (28 * k) + 12) 8 M ∧ cf_423_0 331 3780 (nI (28 * k) + 12) 8 M = G.2.2 2 1 := fun M hM => by
    rw [show nI (28 * k) + 12 = nI (28 * k + 12) from nI_add _ _]
    obtain ⟨a, c⟩ := ra8 (p := 12) (n := 8) (v := G.2.2 2 1) hM hk (by omega) (by omega) (fun i hi => (k9 hi).2)
    exact ⟨a, (show cf_423_0 331 3780 (nI (28 * k + 12)) 8 M = _ from c).trans (rv8 _)⟩
  have q3 : ∀ M, by4 M k (kx G 9 ix) → cp_425_0 (nI (28 * k)) 20 M ∧ cf_425_0 (nI (28 * k)) 20 M = G.2.1 5 1 := fun M hM => ra4 (p := 20) hM hk (by omega) (fun i hi => (k9b hi).2.1)
  have q4 : ∀ M, by4 M k (kx G 9 ix) → cp_425_0 (nI (28 * k)) 24 M ∧ cf_425_0 (nI (28 * k)) 24 M = G.2.1 5 2 := fun M hM => ra4 (p := 24) hM hk (by omega) (fun i hi => (k9b hi).2.2)
  obtain ⟨k1, k2, k3, k4, k5, k6, k6b, k7, k8, k8b, k9, k10, k11, k12, k13, k14, k15⟩ := hn
  have n8 : ¬ (9 : Int32) = 8 := by decide
  rw [cf_424_0, if_neg n8, if_pos rfl, (q0 N h).2, (q1 (mz_pL N 232 2 (G.2.1 5 0).toInt64) h).2, cf_424_151, (q2 (mz_pL (mz_pL N 232 2 (G.2.1 5 0).toInt64) 232 122 (G.2.2 2 0)) h).2, (q3 (mz_pL (mz_pL (mz_pL N 232 2 (G.2.1 5 0).toInt64) 232 122 (G.2.2 2 0)) 232 123 (G.2.2 2 1)) h).2, cf_424_180, (q4 (mz_pL (mz_pL (mz_pL (mz_pL N 232 2 (G.2.1 5 0).toInt64) 232 122 (G.2.2 2 0)) 232 123 (G.2.2 2 1)) 232 124 (G.2.1 5 1).toInt64) h).2]
  refine ⟨⟨fun w => absurd w n8, fun _ => ⟨fun _ => ⟨(q0 N h).1, (q1 _ h).1, (q2 _ h).1, (q3 _ h).1, (q4 _ h).1⟩, fun w => absurd rfl w⟩⟩, fq_pL (fq_pL (fq_pL (fq_pL (fq_pL (fq_refl _ _ _) rfl) rfl) rfl) rfl) rfl, ⟨k1, k2, k3, k4, k5, k6, k6b, k7, k8, k8b, ⟨rfl, rfl, rfl, rfl, rfl⟩, k10, k11, k12, k13, k14, k15⟩, hs, fun _ _ _ => rfl, fun f hf => ?_⟩
  have hne : f ≠ 2 ∧ f ≠ 122 ∧ f ≠ 123 ∧ f ≠ 124 ∧ f ≠ 125 := by
    simpa using hf
  obtain ⟨f1, f2, f3, f4, f5⟩ := hne
  rw [pL_s, sL_e, upL_a, if_neg f5, pL_s, sL_e, upL_a, if_neg f4, pL_s, sL_e, upL_a, if_neg f3, pL_s, sL_e, upL_a, if_neg f2, pL_s, sL_e, upL_a, if_neg f1]
theorem d10_r (hk : k < 135) (h : by4 N k (kx G 10 ix)) (hn : r_kp N H) (hs : r_ks N H) : cp_424_0 10 (nI ix) (nI (28 * k)) N ∧ r_dr N (cf_424_0 10 (nI ix) (nI (28 * k)) N) H G 10 ix := by
  have q0 : ∀ M, by4 M k (kx G 10 ix) → cp_425_0 (nI (28 * k)) 0 M ∧ cf_425_0 (nI (28 * k)) 0 M = G.2.1 3 10 := fun M hM => ra4 (p := 0) hM hk (by omega) (fun i hi => by rw [Nat.zero_add]; exact (k10 hi).1)
  have q1 : ∀ M, by4 M k (kx G 10 ix) → cp_425_0 (nI (28 * k)) 4 M ∧ cf_425_0 (nI (28 * k)) 4 M = G.2.1 2 10 := fun M hM => ra4 (p := 4) hM hk (by omega) (fun i hi => (k10 hi).2.1)
  have q2 : ∀ M, by4 M k (kx G 10 ix) → cp_425_0 (nI (28 * k)) 8 M ∧ cf_425_0 (nI (28 * k)) 8 M = G.2.1 6 0 := fun M hM => ra4 (p := 8) hM hk (by omega) (fun i hi => (k10 hi).2.2.1)
  have q3 : ∀ M t, t < 3 → by4 M k (kx G 10 ix) → cp_425_0 (nI (28 * k)) (12 + 4 * nI t) M ∧ cf_425_0 (nI (28 * k)) (12 + 4 * nI t) M = G.2.1 6 (t + 1) := fun M t ht hM => by
    rw [show 12 + 4 * nI t = nI (12 + 4 * t) by rw [show (12 : Int32) = nI 12 from rfl, show (4 : Int32) = nI 4 from rfl, pk_mul, nI_add]]
    refine ra4 (p := 12 + 4 * t) hM hk (by omega) (fun i hi => ?_)
    have hc : t = 0 ∨ t = 1 ∨ t = 2 := by omega
    rcases hc with rfl | rfl | rfl
    · exact (k10 hi).2.2.2.1
    · exact (k10 hi).2.2.2.2.1
    · exact (k10 hi).2.2.2.2.2
  obtain ⟨k1, k2, k3, k4, k5, k6, k6b, k7, k8, k8b, k9, k10, k11, k12, k13, k14, k15⟩ := hn
  have n8 : ¬ (10 : Int32) = 8 := by decide
  have n9 : ¬ (10 : Int32) = 9 := by decide
  have key : ∀ M, by4 M k (kx G 10 ix) → cp_424_237 (nI (28 * k)) 0 M ∧ ∃ g, cf_424_237 (nI (28 * k)) 0 M = mz_sI M 249 g ∧ ∀ j, g j = if 0 ≤ j ∧ j < 0 + 3 then G.2.1 6 (j - 0 + 1) else M.1 249 j := by
    intro M hM
    exact lp_fill (f := cq_424_237 (nI (28 * k))) (P := cd_424_237 (nI (28 * k))) (N := M) 249 0 3 (fun t => G.2.1 6 (t + 1)) id (by omega) (fun t ht g => by
      obtain ⟨u1, u2⟩ := q3 (mz_sI M 249 g) t ht hM
      have hlt : nI t < 3 := (nI_ltI (b := 3) (by omega) (by omega)).mpr ht
      rw [cd_424_237, cq_424_237]
      simp only [hlt, if_true, u2, nI_1, Nat.zero_add]
      exact ⟨⟨fun _ => ⟨u1, ib_n (by omega) (by omega)⟩, fun w => absurd trivial w⟩, trivial⟩) (fun g => by
      have hlt : ¬ nI 3 < 3 := by decide
      rw [cd_424_237, cq_424_237]
      simp only [hlt, if_false]
      exact ⟨⟨False.elim, fun _ => trivial⟩, rfl⟩)
  rw [cf_424_0, if_neg n8, if_neg n9, if_pos rfl, (q0 N h).2, (q1 (mz_wL N 322 10 (G.2.1 3 10).toInt64) h).2, cf_424_223, (q2 (mz_wL (mz_wL N 322 10 (G.2.1 3 10).toInt64) 321 10 (G.2.1 2 10).toInt64) h).2]
  obtain ⟨p1, g, p2, p3⟩ := key (mz_pI (mz_wL (mz_wL N 322 10 (G.2.1 3 10).toInt64) 321 10 (G.2.1 2 10).toInt64) 232 21 (G.2.1 6 0)) h
  rw [p2]
  refine ⟨⟨fun w => absurd w n8, fun _ => ⟨fun w => absurd w n9, fun _ => ⟨fun _ => ⟨(q0 N h).1, (q1 _ h).1, (q2 _ h).1, ?_⟩, fun w => absurd rfl w⟩⟩⟩, fq_sI (fq_pI (fq_wL (fq_wL (fq_refl _ _ _) rfl) rfl) rfl) rfl, ⟨k1, k2, k3, k4, k5, k6, k6b, k7, fun j hj => ?_, k8b, k9, ⟨rfl, fun j hj => ?_⟩, k11, k12, k13, k14, k15⟩, hs, fun f f1 f2 => ?_, fun _ _ => rfl⟩
  · rw [(q0 N h).2, (q1 (mz_wL N 322 10 (G.2.1 3 10).toInt64) h).2, (q2 (mz_wL (mz_wL N 322 10 (G.2.1 3 10).toInt64) 321 10 (G.2.1 2 10).toInt64) h).2]; exact p1
  · show (mz_wL N 321 (nI 10) (G.2.1 2 10).toInt64).2 321 j = (up (H.2.1 2) 10 (G.2.1 2 10) j).toInt64 ∧ (mz_wL N 322 (nI 10) (G.2.1 3 10).toInt64).2 322 j = (up (H.2.1 3) 10 (G.2.1 3 10) j).toInt64 ∧ N.2 323 j = (H.2.1 4 j).toInt64
    obtain ⟨m1, m2, m3⟩ := k8 j hj
    rw [wL_at (by omega), wL_at (by omega), up_d, up_d, m1, m2, m3]
    by_cases w : j = 10
    · simp only [w, if_true]; exact ⟨trivial, trivial, trivial⟩
    · simp only [w, if_false]; exact ⟨trivial, trivial, trivial⟩
  · show (mz_sI _ 249 g).1 249 j = rg 0 4 (G.2.1 6) (H.2.1 6) (j + 1)
    rw [sI_e, p3, if_pos (by omega), Nat.sub_zero, rg_in (by omega) (by omega)]
  · show (mz_pI N 232 21 (G.2.1 6 0)).1 232 f = N.1 232 f
    rw [pI_s, sI_e, up_a, if_neg f2]
end Drd
