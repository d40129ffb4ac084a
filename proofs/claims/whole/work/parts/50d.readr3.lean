/-! PURE (50d): the reference reads its keys: the rest; any key. -/
section Dre
variable {N : mz_N} {k ix : Nat} {H G : Kp}
theorem b01_d {x : Nat} (hx : x ≤ 1) : (if nI x = 1 then (1 : Int32) else 0) = nI x := by
  have : x = 0 ∨ x = 1 := by omega
  rcases this with w | w <;> rw [w] <;> rfl
theorem d11_r (hk : k < 135) (hix : ix < 3) (hb : kpb G) (h : by4 N k (kx G 11 ix)) (hn : r_kp N H) (hs : r_ks N H) : cp_424_0 11 (nI ix) (nI (28 * k)) N ∧ r_dr N (cf_424_0 11 (nI ix) (nI (28 * k)) N) H G 11 ix := by
  have q0 : ∀ M, by4 M k (kx G 11 ix) → cp_425_0 (nI (28 * k)) 0 M ∧ cf_425_0 (nI (28 * k)) 0 M = G.2.1 7 ix := fun M hM => ra4 (p := 0) hM hk (by omega) (fun i hi => by rw [Nat.zero_add]; exact (k11 hi).1)
  have q1 : ∀ M, by4 M k (kx G 11 ix) → cp_425_0 (nI (28 * k)) 4 M ∧ cf_425_0 (nI (28 * k)) 4 M = G.2.1 8 ix := fun M hM => ra4 (p := 4) hM hk (by omega) (fun i hi => (k11 hi).2.1)
  have q2 : ∀ M, by4 M k (kx G 11 ix) → cp_425_0 (nI (28 * k)) 8 M ∧ cf_425_0 (nI (28 * k)) 8 M = G.2.1 9 ix := fun M hM => ra4 (p := 8) hM hk (by omega) (fun i hi => (k11 hi).2.2)
  have q3 : ∀ M, by4 M k (kx G 11 ix) → cp_422_0 (nI (28 * k)) 12 M ∧ cf_422_0 (nI (28 * k)) 12 M = nI (G.1 7 ix) := fun M hM => ra1 (p := 12) hM hk (by omega)
  obtain ⟨k1, k2, k3, k4, k5, k6, k6b, k7, k8, k8b, k9, k10, k11, k12, k13, k14, k15⟩ := hn
  have b7 := hb.2.2.2.2.2.2.2.2.1 ix
  have n8 : ¬ (11 : Int32) = 8 := by decide
  have n9 : ¬ (11 : Int32) = 9 := by decide
  have n10 : ¬ (11 : Int32) = 10 := by decide
  have i1 : mz_ib (nI ix) 3 := ib_n hix (by omega)
  have e : ∀ M, (if nI (G.1 7 ix) = 1 then cf_424_330 (nI ix) true M else cf_424_330 (nI ix) false M) = mz_wI M 307 (nI ix) (nI (G.1 7 ix)) := fun M => by
    have : G.1 7 ix = 0 ∨ G.1 7 ix = 1 := by omega
    rcases this with w | w <;> rw [w] <;> rfl
  rw [cf_424_0, if_neg n8, if_neg n9, if_neg n10, if_pos rfl, (q0 N h).2, (q1 (mz_wI N 250 (nI ix) (G.2.1 7 ix)) h).2, cf_424_296, (q2 (mz_wL (mz_wI N 250 (nI ix) (G.2.1 7 ix)) 305 (nI ix) (G.2.1 8 ix).toInt64) h).2, (q3 (mz_wI (mz_wL (mz_wI N 250 (nI ix) (G.2.1 7 ix)) 305 (nI ix) (G.2.1 8 ix).toInt64) 306 (nI ix) (G.2.1 9 ix)) h).2, e]
  refine ⟨⟨fun w => absurd w n8, fun _ => ⟨fun w => absurd w n9, fun _ => ⟨fun w => absurd w n10, fun _ => ⟨fun _ => ⟨(q0 N h).1, i1, (q1 _ h).1, i1, (q2 _ h).1, i1, (q3 _ h).1, fun _ => i1, fun _ => i1⟩, fun w => absurd rfl w⟩⟩⟩⟩, fq_wI (fq_wI (fq_wL (fq_wI (fq_refl _ _ _) rfl) rfl) rfl) rfl, ⟨k1, k2, k3, k4, k5, k6, k6b, k7, k8, k8b, k9, k10, fun j hj => ?_, k12, k13, k14, k15⟩, hs, fun _ _ _ => rfl, fun _ _ => rfl⟩
  show (mz_wI N 250 (nI ix) (G.2.1 7 ix)).1 250 j = up (H.2.1 7) ix (G.2.1 7 ix) j ∧ (mz_wL N 305 (nI ix) (G.2.1 8 ix).toInt64).2 305 j = (up (H.2.1 8) ix (G.2.1 8 ix) j).toInt64 ∧ (mz_wI N 306 (nI ix) (G.2.1 9 ix)).1 306 j = up (H.2.1 9) ix (G.2.1 9 ix) j ∧ (mz_wI N 307 (nI ix) (nI (G.1 7 ix))).1 307 j = nI (up (H.1 7) ix (G.1 7 ix) j)
  obtain ⟨m1, m2, m3, m4⟩ := k11 j hj
  rw [wI_at (by omega), wL_at (by omega), wI_at (by omega), wI_at (by omega), up_d, up_d, up_d, up_d, m1, m2, m3, m4]
  by_cases w : j = ix
  · simp only [w, if_true]; exact ⟨trivial, trivial, trivial, trivial⟩
  · simp only [w, if_false]; exact ⟨trivial, trivial, trivial, trivial⟩
theorem d12_r (hk : k < 135) (hix : ix < 16) (hb : kpb G) (h : by4 N k (kx G 12 ix)) (hn : r_kp N H) (hs : r_ks N H) : cp_424_0 12 (nI ix) (nI (28 * k)) N ∧ r_dr N (cf_424_0 12 (nI ix) (nI (28 * k)) N) H G 12 ix := by
  have a0 : ∀ M, by4 M k (kx G 12 ix) → cp_422_0 (nI (28 * k)) 0 M ∧ cf_422_0 (nI (28 * k)) 0 M = nI (kx G 12 ix 0) := fun M hM => ra1 (p := 0) hM hk (by omega)
  have a1 : ∀ M, by4 M k (kx G 12 ix) → cp_422_0 (nI (28 * k)) 1 M ∧ cf_422_0 (nI (28 * k)) 1 M = nI (kx G 12 ix 1) := fun M hM => ra1 (p := 1) hM hk (by omega)
  have a2 : ∀ M, by4 M k (kx G 12 ix) → cp_422_0 (nI (28 * k)) 2 M ∧ cf_422_0 (nI (28 * k)) 2 M = nI (kx G 12 ix 2) := fun M hM => ra1 (p := 2) hM hk (by omega)
  have a3 : ∀ M, by4 M k (kx G 12 ix) → cp_422_0 (nI (28 * k)) 3 M ∧ cf_422_0 (nI (28 * k)) 3 M = nI (kx G 12 ix 3) := fun M hM => ra1 (p := 3) hM hk (by omega)
  have a4 : ∀ M, by4 M k (kx G 12 ix) → cp_425_0 (nI (28 * k)) 4 M ∧ ∃ v, cf_425_0 (nI (28 * k)) 4 M = v ∧ (G.1 8 ix = 1 → v = G.2.1 10 ix) := fun M hM => by
    have b8 := hb.2.2.2.2.2.2.2.2.2.1 ix
    have hc : G.1 8 ix = 0 ∨ G.1 8 ix = 1 := by omega
    rcases hc with w | w
    · obtain ⟨x1, x2⟩ := ra4 (p := 4) (v := 0) hM hk (by omega) (fun i hi => by rw [k12_0 w]; unfold lb; rw [show uv (Int32.toInt64 0) = 0 by decide, Nat.zero_div])
      exact ⟨x1, _, rfl, fun q => by omega⟩
    · obtain ⟨x1, x2⟩ := ra4 (p := 4) hM hk (by omega) (fun i hi => (k12 w hi).1)
      exact ⟨x1, _, rfl, fun _ => x2⟩
  have a8 : ∀ M, by4 M k (kx G 12 ix) → cp_425_0 (nI (28 * k)) 8 M ∧ ∃ v, cf_425_0 (nI (28 * k)) 8 M = v ∧ (G.1 8 ix = 1 → v = G.2.1 11 ix) := fun M hM => by
    have b8 := hb.2.2.2.2.2.2.2.2.2.1 ix
    have hc : G.1 8 ix = 0 ∨ G.1 8 ix = 1 := by omega
    rcases hc with w | w
    · obtain ⟨x1, x2⟩ := ra4 (p := 8) (v := 0) hM hk (by omega) (fun i hi => by rw [k12_0 w]; unfold lb; rw [show uv (Int32.toInt64 0) = 0 by decide, Nat.zero_div])
      exact ⟨x1, _, rfl, fun q => by omega⟩
    · obtain ⟨x1, x2⟩ := ra4 (p := 8) hM hk (by omega) (fun i hi => (k12 w hi).2)
      exact ⟨x1, _, rfl, fun _ => x2⟩
  obtain ⟨k1, k2, k3, k4, k5, k6, k6b, k7, k8, k8b, k9, k10, k11, k12', k13, k14, k15⟩ := hn
  have b8 := hb.2.2.2.2.2.2.2.2.2.1 ix
  have n8 : ¬ (12 : Int32) = 8 := by decide
  have n9 : ¬ (12 : Int32) = 9 := by decide
  have n10 : ¬ (12 : Int32) = 10 := by decide
  have n11 : ¬ (12 : Int32) = 11 := by decide
  have i1 : mz_ib (nI ix) 16 := ib_n hix (by omega)
  have z0 : kx G 12 ix 0 = G.1 8 ix := by
    have hc : G.1 8 ix = 0 ∨ G.1 8 ix = 1 := by omega
    rcases hc with w | w
    · rw [k12_0 w, w]
    · rw [(k12b w).1, w]
  -- both branches as one
  have hR : ∀ b : Bool, mz_b01 b = nI (G.1 8 ix) → cp_424_354 (nI ix) b (nI ix) (nI (28 * k)) N ∧ r_dr N (cf_424_354 (nI ix) b (nI ix) (nI (28 * k)) N) H G 12 ix := by
    intro b hbb
    rw [cp_424_354, cf_424_354, hbb, (a1 (mz_wI N 287 (nI ix) (nI (G.1 8 ix))) h).2, (a2 (mz_wI (mz_wI N 287 (nI ix) (nI (G.1 8 ix))) 288 (nI ix) (nI (kx G 12 ix 1))) h).2, cp_424_379, cf_424_379, (a3 (mz_wI (mz_wI (mz_wI N 287 (nI ix) (nI (G.1 8 ix))) 288 (nI ix) (nI (kx G 12 ix 1))) 289 (nI ix) (nI (kx G 12 ix 2))) h).2]
    obtain ⟨x1, v4, x2, x3⟩ := a4 (mz_wI (mz_wI (mz_wI (mz_wI N 287 (nI ix) (nI (G.1 8 ix))) 288 (nI ix) (nI (kx G 12 ix 1))) 289 (nI ix) (nI (kx G 12 ix 2))) 290 (nI ix) (nI (kx G 12 ix 3))) h
    rw [x2, cp_424_404, cf_424_404]
    obtain ⟨y1, v8, y2, y3⟩ := a8 (mz_wL (mz_wI (mz_wI (mz_wI (mz_wI N 287 (nI ix) (nI (G.1 8 ix))) 288 (nI ix) (nI (kx G 12 ix 1))) 289 (nI ix) (nI (kx G 12 ix 2))) 290 (nI ix) (nI (kx G 12 ix 3))) 291 (nI ix) v4.toInt64) h
    rw [y2]
    refine ⟨⟨i1, (a1 _ h).1, i1, (a2 _ h).1, i1, (a3 _ h).1, i1, x1, i1, y1, i1, i1⟩, fq_wI (fq_wL (fq_wL (fq_wI (fq_wI (fq_wI (fq_wI (fq_refl _ _ _) rfl) rfl) rfl) rfl) rfl) rfl) rfl, ⟨k1, k2, k3, k4, k5, k6, k6b, k7, k8, k8b, k9, k10, k11, fun j hj => ?_, k13, k14, k15⟩, fun j hj => ?_, fun _ _ _ => rfl, fun _ _ => rfl⟩
    · show (mz_wI N 287 (nI ix) (nI (G.1 8 ix))).1 287 j = nI (up (H.1 8) ix (G.1 8 ix) j) ∧ (up (H.1 8) ix (G.1 8 ix) j = 1 → (mz_wI N 288 (nI ix) (nI (kx G 12 ix 1))).1 288 j = nI (up (H.1 9) ix (G.1 9 ix) j) ∧ (mz_wI N 289 (nI ix) (nI (kx G 12 ix 2))).1 289 j = nI (up (H.1 10) ix (G.1 10 ix) j) ∧ (mz_wI N 290 (nI ix) (nI (kx G 12 ix 3))).1 290 j = nI (up (H.1 11) ix (G.1 11 ix) j) ∧ (mz_wL N 291 (nI ix) v4.toInt64).2 291 j = (up (H.2.1 10) ix (G.2.1 10 ix) j).toInt64 ∧ (mz_wL N 292 (nI ix) v8.toInt64).2 292 j = (up (H.2.1 11) ix (G.2.1 11 ix) j).toInt64)
      obtain ⟨m1, m2⟩ := k12' j hj
      rw [wI_at (by omega), wI_at (by omega), wI_at (by omega), wI_at (by omega), wL_at (by omega), wL_at (by omega), up_d, up_d, up_d, up_d, up_d, up_d]
      by_cases y : j = ix
      · simp only [y, if_true]
        refine ⟨trivial, fun q => ?_⟩
        obtain ⟨c0, c1, c2, c3⟩ := k12b q
        rw [c1, c2, c3, x3 q, y3 q]
        exact ⟨rfl, rfl, rfl, rfl, rfl⟩
      · simp only [y, if_false]; exact ⟨m1, m2⟩
    · show up (H.1 8) ix (G.1 8 ix) j = 1 → (mz_wI N 293 (nI ix) (-1)).1 293 j = -1
      rw [up_d, wI_at (by omega)]
      by_cases y : j = ix
      · rw [if_pos y, if_pos y]; exact fun _ => rfl
      · rw [if_neg y, if_neg y]; exact hs j hj
  rw [cf_424_0, if_neg n8, if_neg n9, if_neg n10, if_neg n11, if_pos rfl, (a0 N h).2, z0]
  have hc : G.1 8 ix = 0 ∨ G.1 8 ix = 1 := by omega
  rcases hc with w | w
  · have hf := hR false (by rw [w]; rfl)
    have hne : ¬ nI 0 = 1 := by decide
    rw [w, if_neg hne]
    refine ⟨⟨fun w => absurd w n8, fun _ => ⟨fun w => absurd w n9, fun _ => ⟨fun w => absurd w n10, fun _ => ⟨fun w => absurd w n11, fun _ => ⟨fun _ => ⟨(a0 N h).1, fun q => ?_, fun _ => hf.1⟩, fun w => absurd rfl w⟩⟩⟩⟩⟩, hf.2⟩
    rw [(a0 N h).2, z0, w] at q
    exact absurd q hne
  · have hf := hR true (by rw [w]; rfl)
    have he : nI 1 = 1 := rfl
    rw [w, if_pos he]
    refine ⟨⟨fun w => absurd w n8, fun _ => ⟨fun w => absurd w n9, fun _ => ⟨fun w => absurd w n10, fun _ => ⟨fun w => absurd w n11, fun _ => ⟨fun _ => ⟨(a0 N h).1, fun _ => hf.1, fun q => ?_⟩, fun w => absurd rfl w⟩⟩⟩⟩⟩, hf.2⟩
    rw [(a0 N h).2, z0, w] at q
    exact absurd he q
theorem d13_r (hk : k < 135) (hix : ix < 20) (h : by4 N k (kx G 13 ix)) (hn : r_kp N H) (hs : r_ks N H) : cp_424_0 13 (nI ix) (nI (28 * k)) N ∧ r_dr N (cf_424_0 13 (nI ix) (nI (28 * k)) N) H G 13 ix := by
  have a1 : ∀ M, by4 M k (kx G 13 ix) → cp_422_0 (nI (28 * k)) 1 M ∧ cf_422_0 (nI (28 * k)) 1 M = nI (G.1 13 ix) := fun M hM => ra1 (p := 1) hM hk (by omega)
  have a2 : ∀ M, by4 M k (kx G 13 ix) → cp_422_0 (nI (28 * k)) 2 M ∧ cf_422_0 (nI (28 * k)) 2 M = nI (G.1 14 ix) := fun M hM => ra1 (p := 2) hM hk (by omega)
  obtain ⟨k1, k2, k3, k4, k5, k6, k6b, k7, k8, k8b, k9, k10, k11, k12, k13, k14, k15⟩ := hn
  have n8 : ¬ (13 : Int32) = 8 := by decide
  have n9 : ¬ (13 : Int32) = 9 := by decide
  have n10 : ¬ (13 : Int32) = 10 := by decide
  have n11 : ¬ (13 : Int32) = 11 := by decide
  have n12 : ¬ (13 : Int32) = 12 := by decide
  have i1 : mz_ib (nI ix) 20 := ib_n hix (by omega)
  rw [cf_424_0, if_neg n8, if_neg n9, if_neg n10, if_neg n11, if_neg n12, if_pos rfl, (a1 (mz_wI N 308 (nI ix) (mz_b01 true)) h).2, cf_424_447, (a2 (mz_wI (mz_wI N 308 (nI ix) (mz_b01 true)) 309 (nI ix) (nI (G.1 13 ix))) h).2]
  refine ⟨⟨fun w => absurd w n8, fun _ => ⟨fun w => absurd w n9, fun _ => ⟨fun w => absurd w n10, fun _ => ⟨fun w => absurd w n11, fun _ => ⟨fun w => absurd w n12, fun _ => ⟨fun _ => ⟨i1, (a1 _ h).1, i1, (a2 _ h).1, i1⟩, fun w => absurd rfl w⟩⟩⟩⟩⟩⟩, fq_wI (fq_wI (fq_wI (fq_refl _ _ _) rfl) rfl) rfl, ⟨k1, k2, k3, k4, k5, k6, k6b, k7, k8, k8b, k9, k10, k11, k12, fun j hj => ?_, k14, k15⟩, hs, fun _ _ _ => rfl, fun _ _ => rfl⟩
  show (mz_wI N 308 (nI ix) 1).1 308 j = nI (up (H.1 12) ix 1 j) ∧ (up (H.1 12) ix 1 j = 1 → (mz_wI N 309 (nI ix) (nI (G.1 13 ix))).1 309 j = nI (up (H.1 13) ix (G.1 13 ix) j) ∧ (mz_wI N 310 (nI ix) (nI (G.1 14 ix))).1 310 j = nI (up (H.1 14) ix (G.1 14 ix) j))
  obtain ⟨m1, m2⟩ := k13 j hj
  rw [wI_at (by omega), wI_at (by omega), wI_at (by omega), up_d, up_d, up_d]
  by_cases w : j = ix
  · simp only [w, if_true]; exact ⟨rfl, fun _ => ⟨trivial, trivial⟩⟩
  · simp only [w, if_false]; exact ⟨m1, m2⟩
theorem d14_r (hk : k < 135) (hix : ix < 40) (hb : kpb G) (h : by4 N k (kx G 14 ix)) (hn : r_kp N H) (hs : r_ks N H) : cp_424_0 14 (nI ix) (nI (28 * k)) N ∧ r_dr N (cf_424_0 14 (nI ix) (nI (28 * k)) N) H G 14 ix := by
  have a1 : ∀ M, by4 M k (kx G 14 ix) → cp_422_0 (nI (28 * k)) 1 M ∧ cf_422_0 (nI (28 * k)) 1 M = nI (G.1 16 ix) := fun M hM => ra1 (p := 1) hM hk (by omega)
  have a2 : ∀ M, by4 M k (kx G 14 ix) → cp_422_0 (nI (28 * k)) 2 M ∧ cf_422_0 (nI (28 * k)) 2 M = nI (G.1 17 ix) := fun M hM => ra1 (p := 2) hM hk (by omega)
  have a3 : ∀ M, by4 M k (kx G 14 ix) → cp_422_0 (nI (28 * k)) 3 M ∧ cf_422_0 (nI (28 * k)) 3 M = nI (G.1 18 ix) := fun M hM => ra1 (p := 3) hM hk (by omega)
  have a4 : ∀ M, by4 M k (kx G 14 ix) → cp_425_0 (nI (28 * k)) 4 M ∧ cf_425_0 (nI (28 * k)) 4 M = G.2.1 12 ix := fun M hM => ra4 (p := 4) hM hk (by omega) (fun i hi => k14 hi)
  obtain ⟨k1, k2, k3, k4, k5, k6, k6b, k7, k8, k8b, k9, k10, k11, k12, k13, k14, k15⟩ := hn
  have b18 := (hb.2.2.2.2.2.2.2.2.2.2.2.2.2.2.1 ix).2.2
  have n8 : ¬ (14 : Int32) = 8 := by decide
  have n9 : ¬ (14 : Int32) = 9 := by decide
  have n10 : ¬ (14 : Int32) = 10 := by decide
  have n11 : ¬ (14 : Int32) = 11 := by decide
  have n12 : ¬ (14 : Int32) = 12 := by decide
  have n13 : ¬ (14 : Int32) = 13 := by decide
  have i1 : mz_ib (nI ix) 40 := ib_n hix (by omega)
  have e513 : ∀ (b : Bool) M, mz_b01 b = nI (G.1 18 ix) → by4 M k (kx G 14 ix) → cp_424_513 (nI ix) b (nI ix) (nI (28 * k)) M ∧ cf_424_513 (nI ix) b (nI ix) (nI (28 * k)) M = mz_wI (mz_wI M 315 (nI ix) (nI (G.1 18 ix))) 312 (nI ix) (G.2.1 12 ix) := fun b M hbb hM => by
    have hM2 : by4 (mz_wI M 315 (nI ix) (nI (G.1 18 ix))) k (kx G 14 ix) := hM
    rw [cp_424_513, cf_424_513, hbb, (a4 _ hM2).2]
    exact ⟨⟨i1, (a4 _ hM2).1, i1, trivial⟩, rfl⟩
  have e481 : ∀ M, by4 M k (kx G 14 ix) → cp_424_481 (nI ix) (nI (28 * k)) M ∧ cf_424_481 (nI ix) (nI (28 * k)) M = mz_wI (mz_wI (mz_wI M 314 (nI ix) (nI (G.1 17 ix))) 315 (nI ix) (nI (G.1 18 ix))) 312 (nI ix) (G.2.1 12 ix) := fun M hM => by
    have hM2 : by4 (mz_wI M 314 (nI ix) (nI (G.1 17 ix))) k (kx G 14 ix) := hM
    rw [cp_424_481, cf_424_481, (a2 M hM).2, (a3 _ hM2).2]
    have hc : G.1 18 ix = 0 ∨ G.1 18 ix = 1 := by omega
    rcases hc with w | w
    · obtain ⟨x1, x2⟩ := e513 false (mz_wI M 314 (nI ix) (nI (G.1 17 ix))) (by rw [w]; rfl) hM2
      have hne : ¬ nI (G.1 18 ix) = 1 := by rw [w]; decide
      rw [if_neg hne, x2]
      exact ⟨⟨(a2 M hM).1, i1, (a3 _ hM2).1, fun q => absurd q hne, fun _ => x1⟩, rfl⟩
    · obtain ⟨x1, x2⟩ := e513 true (mz_wI M 314 (nI ix) (nI (G.1 17 ix))) (by rw [w]; rfl) hM2
      have he : nI (G.1 18 ix) = 1 := by rw [w]; rfl
      rw [if_pos he, x2]
      exact ⟨⟨(a2 M hM).1, i1, (a3 _ hM2).1, fun _ => x1, fun q => absurd he q⟩, rfl⟩
  have hM3 : by4 (mz_wI (mz_wI N 311 (nI ix) (mz_b01 true)) 313 (nI ix) (nI (G.1 16 ix))) k (kx G 14 ix) := h
  obtain ⟨x1, x2⟩ := e481 _ hM3
  have hp : (mz_ib (nI ix) 40) ∧ (cp_422_0 (nI (28 * k)) 1 (mz_wI N 311 (nI ix) (mz_b01 true))) ∧ (mz_ib (nI ix) 40) ∧ (cp_424_481 (nI ix) (nI (28 * k)) (mz_wI (mz_wI N 311 (nI ix) (mz_b01 true)) 313 (nI ix) (cf_422_0 (nI (28 * k)) 1 (mz_wI N 311 (nI ix) (mz_b01 true))))) := by
    rw [(a1 (mz_wI N 311 (nI ix) (mz_b01 true)) h).2]
    exact ⟨i1, (a1 _ h).1, i1, x1⟩
  rw [cf_424_0, if_neg n8, if_neg n9, if_neg n10, if_neg n11, if_neg n12, if_neg n13, if_pos rfl, (a1 (mz_wI N 311 (nI ix) (mz_b01 true)) h).2, x2]
  refine ⟨⟨fun w => absurd w n8, fun _ => ⟨fun w => absurd w n9, fun _ => ⟨fun w => absurd w n10, fun _ => ⟨fun w => absurd w n11, fun _ => ⟨fun w => absurd w n12, fun _ => ⟨fun w => absurd w n13, fun _ => ⟨fun _ => hp, fun w => absurd rfl w⟩⟩⟩⟩⟩⟩⟩, fq_wI (fq_wI (fq_wI (fq_wI (fq_wI (fq_refl _ _ _) rfl) rfl) rfl) rfl) rfl, ⟨k1, k2, k3, k4, k5, k6, k6b, k7, k8, k8b, k9, k10, k11, k12, k13, fun j hj => ?_, k15⟩, hs, fun _ _ _ => rfl, fun _ _ => rfl⟩
  show (mz_wI N 311 (nI ix) 1).1 311 j = nI (up (H.1 15) ix 1 j) ∧ (up (H.1 15) ix 1 j = 1 → (mz_wI N 313 (nI ix) (nI (G.1 16 ix))).1 313 j = nI (up (H.1 16) ix (G.1 16 ix) j) ∧ (mz_wI N 314 (nI ix) (nI (G.1 17 ix))).1 314 j = nI (up (H.1 17) ix (G.1 17 ix) j) ∧ (mz_wI N 315 (nI ix) (nI (G.1 18 ix))).1 315 j = nI (up (H.1 18) ix (G.1 18 ix) j) ∧ (mz_wI N 312 (nI ix) (G.2.1 12 ix)).1 312 j = up (H.2.1 12) ix (G.2.1 12 ix) j)
  obtain ⟨m1, m2⟩ := k14 j hj
  rw [wI_at (by omega), wI_at (by omega), wI_at (by omega), wI_at (by omega), wI_at (by omega), up_d, up_d, up_d, up_d, up_d]
  by_cases w : j = ix
  · simp only [w, if_true]; exact ⟨rfl, fun _ => ⟨trivial, trivial, trivial, trivial⟩⟩
  · simp only [w, if_false]; exact ⟨m1, m2⟩
theorem d15_r (hk : k < 135) (hix : ix < 8) (h : by4 N k (kx G 15 ix)) (hn : r_kp N H) (hs : r_ks N H) : cp_424_0 15 (nI ix) (nI (28 * k)) N ∧ r_dr N (cf_424_0 15 (nI ix) (nI (28 * k)) N) H G 15 ix := by
  have a1 : ∀ M, by4 M k (kx G 15 ix) → cp_422_0 (nI (28 * k)) 1 M ∧ cf_422_0 (nI (28 * k)) 1 M = nI (G.1 20 ix) := fun M hM => ra1 (p := 1) hM hk (by omega)
  have a2 : ∀ M, by4 M k (kx G 15 ix) → cp_422_0 (nI (28 * k)) 2 M ∧ cf_422_0 (nI (28 * k)) 2 M = nI (G.1 21 ix) := fun M hM => ra1 (p := 2) hM hk (by omega)
  obtain ⟨k1, k2, k3, k4, k5, k6, k6b, k7, k8, k8b, k9, k10, k11, k12, k13, k14, k15⟩ := hn
  have n8 : ¬ (15 : Int32) = 8 := by decide
  have n9 : ¬ (15 : Int32) = 9 := by decide
  have n10 : ¬ (15 : Int32) = 10 := by decide
  have n11 : ¬ (15 : Int32) = 11 := by decide
  have n12 : ¬ (15 : Int32) = 12 := by decide
  have n13 : ¬ (15 : Int32) = 13 := by decide
  have n14 : ¬ (15 : Int32) = 14 := by decide
  have i1 : mz_ib (nI ix) 8 := ib_n hix (by omega)
  rw [cf_424_0, if_neg n8, if_neg n9, if_neg n10, if_neg n11, if_neg n12, if_neg n13, if_neg n14, (a1 (mz_wI N 282 (nI ix) (mz_b01 true)) h).2, cf_424_548, (a2 (mz_wI (mz_wI N 282 (nI ix) (mz_b01 true)) 283 (nI ix) (nI (G.1 20 ix))) h).2, cf_424_560]
  refine ⟨⟨fun w => absurd w n8, fun _ => ⟨fun w => absurd w n9, fun _ => ⟨fun w => absurd w n10, fun _ => ⟨fun w => absurd w n11, fun _ => ⟨fun w => absurd w n12, fun _ => ⟨fun w => absurd w n13, fun _ => ⟨fun w => absurd w n14, fun _ => ⟨i1, (a1 _ h).1, i1, (a2 _ h).1, i1, trivial⟩⟩⟩⟩⟩⟩⟩⟩, fq_wI (fq_wI (fq_wI (fq_refl _ _ _) rfl) rfl) rfl, ⟨k1, k2, k3, k4, k5, k6, k6b, k7, k8, k8b, k9, k10, k11, k12, k13, k14, fun j hj => ?_⟩, hs, fun _ _ _ => rfl, fun _ _ => rfl⟩
  show (mz_wI N 282 (nI ix) 1).1 282 j = nI (up (H.1 19) ix 1 j) ∧ (up (H.1 19) ix 1 j = 1 → (mz_wI N 283 (nI ix) (nI (G.1 20 ix))).1 283 j = nI (up (H.1 20) ix (G.1 20 ix) j) ∧ (mz_wI N 284 (nI ix) (nI (G.1 21 ix))).1 284 j = nI (up (H.1 21) ix (G.1 21 ix) j))
  obtain ⟨m1, m2⟩ := k15 j hj
  rw [wI_at (by omega), wI_at (by omega), wI_at (by omega), up_d, up_d, up_d]
  by_cases w : j = ix
  · simp only [w, if_true]; exact ⟨rfl, fun _ => ⟨trivial, trivial⟩⟩
  · simp only [w, if_false]; exact ⟨m1, m2⟩
end Dre
