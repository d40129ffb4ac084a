/-! PURE (50): the class reads its keys: the rest. -/
section Dce
variable {N : mz_N} {k ix : Nat} {H G : Kp} {nn : Nat}
theorem nI_i16 {r : Nat} (hr : r < 2 ^ 15) : i16 (nI r) := by
  unfold i16
  apply Int32.toInt_inj.mp
  rw [Int16.toInt_toInt32, Int32.toInt_toInt16]
  have : (nI r).toInt = r := by
    show (BitVec.ofNat 32 r).toInt = _
    rw [BitVec.toInt_eq_toNat_cond, BitVec.toNat_ofNat, Nat.mod_eq_of_lt (by omega), if_pos (by omega)]
  rw [this]
  exact Int.bmod_eq_of_le (by omega) (by omega)
theorem d7_c (hk : k < 135) (hix : ix < 2) (hl : kpl G 7 ix) (h : by3 N k (kx G 7 ix)) (hn : c_kn N H) (hs : c_ks N H nn) : cp_62_0 (nI ix) (nI (28 * k)) N ∧ c_dr N (cf_62_0 (nI ix) (nI (28 * k)) N) H G 7 ix nn := by
  obtain ⟨k1, k2, k3, k4, k5, k7, k8, k8b, k9, k10, k11, k12, k13, k14, k15⟩ := hn
  have hc : ix = 0 ∨ ix = 1 := by omega
  rcases hc with rfl | rfl
  · have key : cp_62_3 (nI 0) (nI (28 * k)) 0 N ∧ ∃ f, cf_62_3 (nI 0) (nI (28 * k)) 0 N = mz_sI N 62 f ∧ ∀ j, f j = if j < 11 then G.2.1 1 j else N.1 62 j := by
      refine mz_lpn (f := cq_62_3 (nI 0) (nI (28 * k))) (P := cd_62_3 (nI 0) (nI (28 * k))) (Q := fun t => ∃ f, t = mz_sI N 62 f ∧ ∀ j, f j = if j < 11 then G.2.1 1 j else N.1 62 j) 11 (fun t s => ∃ f, s = (nI t, mz_sI N 62 f) ∧ ∀ j, f j = if j < t then G.2.1 1 j else N.1 62 j) ?_ ?_ (Nat.zero_le _) ⟨N.1 62, by rw [sI_same]; rfl, fun j => by rw [if_neg (by omega)]⟩
      · rintro t s ht ⟨f, rfl, hf⟩
        have h2 : by3 (mz_sI N 62 f) k (kx G 7 0) := h
        obtain ⟨r, hr, er⟩ := hl.2.1 rfl rfl t ht
        obtain ⟨q1, q2⟩ := rb2 (p := 2 * t) (v := G.2.1 1 t) h2 hk (by omega) (fun i hi => by rw [show kx G 7 0 = wrd (fun t => (G.2.1 1 t).toInt64) 11 from rfl, wrd_at ht i hi]) (by rw [er]; exact nI_i16 (by omega))
        have e1 : nI (28 * k) + 2 * nI t = nI (28 * k + 2 * t) := by rw [show (2 : Int32) = nI 2 from rfl, pk_mul, nI_add]
        have hlt : nI t < 11 := (nI_ltI (b := 11) (by omega) (by omega)).mpr ht
        have h0 : nI 0 = 0 := rfl
        rw [cd_62_3, cq_62_3]
        simp only [hlt, if_true, h0, e1, q2, cf_62_53, cp_62_53, nI_1]
        refine ⟨⟨fun _ => ⟨fun _ => ⟨q1, ib_n (by omega) (by omega), trivial⟩, fun w => absurd trivial w⟩, fun w => absurd trivial w⟩, Or.inl ⟨_, rfl, upd f t (G.2.1 1 t), ?_, ?_⟩⟩
        · rw [wI_s, sI_e, sI_sI, nI_clamp (by omega)]
        · intro j
          rw [up_a, hf]
          by_cases y : j = t
          · rw [if_pos y, if_pos (by omega), y]
          · rw [if_neg y]
            by_cases w : j < t
            · rw [if_pos w, if_pos (by omega)]
            · rw [if_neg w, if_neg (by omega)]
      · rintro s ⟨f, rfl, hf⟩
        have hlt : ¬ nI 11 < 11 := by decide
        rw [cd_62_3, cq_62_3]
        simp only [hlt, if_false]
        exact ⟨⟨False.elim, fun _ => trivial⟩, _, rfl, f, rfl, hf⟩
    obtain ⟨p1, f, p2, p3⟩ := key
    refine ⟨p1, ?_⟩
    rw [show cf_62_0 (nI 0) (nI (28 * k)) N = _ from p2]
    refine ⟨fq_sI (fq_refl _ _ _) rfl, ⟨k1, k2, k3, k4, k5, fun j hj => ⟨?_, (k7 j hj).2⟩, k8, k8b, k9, k10, k11, k12, k13, k14, k15⟩, hs, fun _ _ => rfl⟩
    show (mz_sI N 62 f).1 62 j = rg 0 11 (G.2.1 1) (H.2.1 1) j
    rw [sI_e, p3, if_pos hj, rg_in (by omega) (by omega)]
  · have key : cp_62_3 (nI 1) (nI (28 * k)) 0 N ∧ ∃ f, cf_62_3 (nI 1) (nI (28 * k)) 0 N = mz_sI N 63 f ∧ ∀ j, f j = if j < 11 then nI (G.1 6 j) else N.1 63 j := by
      refine mz_lpn (f := cq_62_3 (nI 1) (nI (28 * k))) (P := cd_62_3 (nI 1) (nI (28 * k))) (Q := fun t => ∃ f, t = mz_sI N 63 f ∧ ∀ j, f j = if j < 11 then nI (G.1 6 j) else N.1 63 j) 11 (fun t s => ∃ f, s = (nI t, mz_sI N 63 f) ∧ ∀ j, f j = if j < t then nI (G.1 6 j) else N.1 63 j) ?_ ?_ (Nat.zero_le _) ⟨N.1 63, by rw [sI_same]; rfl, fun j => by rw [if_neg (by omega)]⟩
      · rintro t s ht ⟨f, rfl, hf⟩
        have h2 : by3 (mz_sI N 63 f) k (kx G 7 1) := h
        have q2 := rb1 (p := t) h2 hk (by omega)
        rw [show kx G 7 1 t = G.1 6 t from if_pos ht] at q2
        have hlt : nI t < 11 := (nI_ltI (b := 11) (by omega) (by omega)).mpr ht
        have h0 : ¬ nI 1 = 0 := by decide
        rw [cd_62_3, cq_62_3]
        simp only [hlt, if_true, if_false, h0, nI_add, q2, cf_62_53, cp_62_53, nI_1]
        refine ⟨⟨fun _ => ⟨False.elim, fun _ => ⟨ib_n (by omega) (by omega), ib_n (by omega) (by omega), trivial⟩⟩, fun w => absurd trivial w⟩, Or.inl ⟨_, rfl, upd f t (nI (G.1 6 t)), ?_, ?_⟩⟩
        · rw [wI_s, sI_e, sI_sI, nI_clamp (by omega)]
        · intro j
          rw [up_a, hf]
          by_cases y : j = t
          · rw [if_pos y, if_pos (by omega), y]
          · rw [if_neg y]
            by_cases w : j < t
            · rw [if_pos w, if_pos (by omega)]
            · rw [if_neg w, if_neg (by omega)]
      · rintro s ⟨f, rfl, hf⟩
        have hlt : ¬ nI 11 < 11 := by decide
        rw [cd_62_3, cq_62_3]
        simp only [hlt, if_false]
        exact ⟨⟨False.elim, fun _ => trivial⟩, _, rfl, f, rfl, hf⟩
    obtain ⟨p1, f, p2, p3⟩ := key
    refine ⟨p1, ?_⟩
    rw [show cf_62_0 (nI 1) (nI (28 * k)) N = _ from p2]
    refine ⟨fq_sI (fq_refl _ _ _) rfl, ⟨k1, k2, k3, k4, k5, fun j hj => ⟨(k7 j hj).1, ?_⟩, k8, k8b, k9, k10, k11, k12, k13, k14, k15⟩, hs, fun _ _ => rfl⟩
    show (mz_sI N 63 f).1 63 j = nI (rg 0 11 (G.1 6) (H.1 6) j)
    rw [sI_e, p3, if_pos hj, rg_in (by omega) (by omega)]
theorem d10_c (hk : k < 135) (h : by3 N k (kx G 10 ix)) (hn : c_kn N H) (hs : c_ks N H nn) : cp_65_0 (nI (28 * k)) N ∧ c_dr N (cf_65_0 (nI (28 * k)) N) H G 10 ix nn := by
  have q0 : ∀ M, by3 M k (kx G 10 ix) → cp_61_0 223 3780 (nI (28 * k)) 4 M ∧ (cf_61_0 223 3780 (nI (28 * k)) 4 M).toInt32 = G.2.1 3 10 := fun M hM => rb4 (p := 0) hM hk (by omega) (fun i hi => by rw [Nat.zero_add]; exact (k10 hi).1)
  have q1 : ∀ M, by3 M k (kx G 10 ix) → cp_61_0 223 3780 (nI (28 * k) + 4) 4 M ∧ (cf_61_0 223 3780 (nI (28 * k) + 4) 4 M).toInt32 = G.2.1 2 10 := fun M hM => by
    rw [show nI (28 * k) + 4 = nI (28 * k + 4) from nI_add _ _]
    exact rb4 (p := 4) hM hk (by omega) (fun i hi => (k10 hi).2.1)
  have q2 : ∀ M t, t < 4 → by3 M k (kx G 10 ix) → cp_61_0 223 3780 (nI (28 * k) + 8 + 4 * nI t) 4 M ∧ (cf_61_0 223 3780 (nI (28 * k) + 8 + 4 * nI t) 4 M).toInt32 = G.2.1 6 t := fun M t ht hM => by
    rw [show nI (28 * k) + 8 + 4 * nI t = nI (28 * k + (8 + 4 * t)) by rw [show (8 : Int32) = nI 8 from rfl, show (4 : Int32) = nI 4 from rfl, pk_mul, nI_add, nI_add, Nat.add_assoc]]
    refine rb4 (p := 8 + 4 * t) hM hk (by omega) (fun i hi => ?_)
    have hc : t = 0 ∨ t = 1 ∨ t = 2 ∨ t = 3 := by omega
    rcases hc with rfl | rfl | rfl | rfl
    · exact (k10 hi).2.2.1
    · exact (k10 hi).2.2.2.1
    · exact (k10 hi).2.2.2.2.1
    · exact (k10 hi).2.2.2.2.2
  have key : ∀ M, by3 M k (kx G 10 ix) → cp_65_36 (nI (28 * k)) 0 M ∧ ∃ f, cf_65_36 (nI (28 * k)) 0 M = mz_sI M 215 f ∧ ∀ j, f j = if j < 4 then G.2.1 6 j else M.1 215 j := by
    intro M hM
    refine mz_lpn (f := cq_65_36 (nI (28 * k))) (P := cd_65_36 (nI (28 * k))) (Q := fun t => ∃ f, t = mz_sI M 215 f ∧ ∀ j, f j = if j < 4 then G.2.1 6 j else M.1 215 j) 4 (fun t s => ∃ f, s = (nI t, mz_sI M 215 f) ∧ ∀ j, f j = if j < t then G.2.1 6 j else M.1 215 j) ?_ ?_ (Nat.zero_le _) ⟨M.1 215, by rw [sI_same]; rfl, fun j => by rw [if_neg (by omega)]⟩
    · rintro t s ht ⟨f, rfl, hf⟩
      obtain ⟨u1, u2⟩ := q2 (mz_sI M 215 f) t ht hM
      have hlt : nI t < 4 := (nI_ltI (b := 4) (by omega) (by omega)).mpr ht
      rw [cd_65_36, cq_65_36]
      simp only [hlt, if_true, u2, cf_65_61, cp_65_61, nI_1]
      refine ⟨⟨fun _ => ⟨u1, ib_n (by omega) (by omega), trivial⟩, fun w => absurd trivial w⟩, Or.inl ⟨_, rfl, upd f t (G.2.1 6 t), ?_, ?_⟩⟩
      · rw [wI_s, sI_e, sI_sI, nI_clamp (by omega)]
      · intro j
        rw [up_a, hf]
        by_cases y : j = t
        · rw [if_pos y, if_pos (by omega), y]
        · rw [if_neg y]
          by_cases w : j < t
          · rw [if_pos w, if_pos (by omega)]
          · rw [if_neg w, if_neg (by omega)]
    · rintro s ⟨f, rfl, hf⟩
      have hlt : ¬ nI 4 < 4 := by decide
      rw [cd_65_36, cq_65_36]
      simp only [hlt, if_false]
      exact ⟨⟨False.elim, fun _ => trivial⟩, _, rfl, f, rfl, hf⟩
  obtain ⟨k1, k2, k3, k4, k5, k7, k8, k8b, k9, k10, k11, k12, k13, k14, k15⟩ := hn
  rw [cp_65_0, cf_65_0, (q0 N h).2, (q1 (mz_wI N 211 10 (G.2.1 3 10)) h).2, cp_65_34, cf_65_34]
  obtain ⟨p1, f, p2, p3⟩ := key (mz_wI (mz_wI N 211 10 (G.2.1 3 10)) 210 10 (G.2.1 2 10)) h
  rw [p2]
  refine ⟨⟨(q0 N h).1, (q1 _ h).1, p1⟩, fq_sI (fq_wI (fq_wI (fq_refl _ _ _) rfl) rfl) rfl, ⟨k1, k2, k3, k4, k5, k7, fun j hj => ?_, k8b, k9, fun j hj => ?_, k11, k12, k13, k14, k15⟩, hs, fun _ _ => rfl⟩
  · show (mz_wI N 210 (nI 10) (G.2.1 2 10)).1 210 j = up (H.2.1 2) 10 (G.2.1 2 10) j ∧ (mz_wI N 211 (nI 10) (G.2.1 3 10)).1 211 j = up (H.2.1 3) 10 (G.2.1 3 10) j ∧ N.1 212 j = H.2.1 4 j
    obtain ⟨m1, m2, m3⟩ := k8 j hj
    rw [wI_at (by omega), wI_at (by omega), up_d, up_d, m1, m2, m3]
    exact ⟨rfl, rfl, rfl⟩
  · show (mz_sI _ 215 f).1 215 j = rg 0 4 (G.2.1 6) (H.2.1 6) j
    rw [sI_e, p3, if_pos hj, rg_in (by omega) (by omega)]
theorem d12_c (hk : k < 135) (hix : ix < 16) (hb : kpb G) (hl : kpl G 12 ix) (h : by3 N k (kx G 12 ix)) (hn : c_kn N H) (h0 : H.1 8 ix = 0) (hs : c_ks N H nn) (hnn : nn ≤ 2000000001) : cp_67_0 (nI ix) (nI (28 * k)) N ∧ c_dr N (cf_67_0 (nI ix) (nI (28 * k)) N) H G 12 ix nn := by
  obtain ⟨k1, k2, k3, k4, k5, k7, k8, k8b, k9, k10, k11, k12', k13, k14, k15⟩ := hn
  obtain ⟨s1, s2, s3⟩ := hs
  have b8 := hb.2.2.2.2.2.2.2.2.2.1 ix
  have i1 : mz_ib (nI ix) 16 := ib_n hix (by omega)
  have e0 : mz_gI N 223 (nI (28 * k)) = nI (kx G 12 ix 0) := rb1 (p := 0) h hk (by omega)
  have e1 : nI (28 * k) + 1 = nI (28 * k + 1) := nI_add _ _
  have e2 : nI (28 * k) + 2 = nI (28 * k + 2) := nI_add _ _
  have e3 : nI (28 * k) + 3 = nI (28 * k + 3) := nI_add _ _
  rw [cp_67_0, cf_67_0, e0]
  have hc : G.1 8 ix = 0 ∨ G.1 8 ix = 1 := by omega
  rcases hc with w | w
  · have z : kx G 12 ix 0 = 0 := by rw [k12_0 w]
    rw [z, if_pos nI_0]
    refine ⟨⟨ib_n (by omega) (by omega), fun _ => trivial, fun q => absurd nI_0 q⟩, fq_refl _ _ _, ⟨k1, k2, k3, k4, k5, k7, k8, k8b, k9, k10, k11, fun j hj => ?_, k13, k14, k15⟩, ⟨fun j hj => ?_, s2, ?_⟩, fun _ _ => rfl⟩
    · show N.1 123 j = nI (up (H.1 8) ix (G.1 8 ix) j) ∧ (up (H.1 8) ix (G.1 8 ix) j = 1 → N.1 118 j = nI (up (H.1 9) ix (G.1 9 ix) j) ∧ N.1 119 j = nI (up (H.1 10) ix (G.1 10 ix) j) ∧ N.1 120 j = nI (up (H.1 11) ix (G.1 11 ix) j) ∧ N.1 121 j = up (H.2.1 10) ix (G.2.1 10 ix) j ∧ N.1 117 j = up (H.2.1 11) ix (G.2.1 11 ix) j)
      obtain ⟨m1, m2⟩ := k12' j hj
      rw [up_d, up_d, up_d, up_d, up_d, up_d]
      by_cases y : j = ix
      · simp only [y, if_true, w]
        rw [y, h0] at m1
        exact ⟨m1, fun q => by cases q⟩
      · simp only [y, if_false]; exact ⟨m1, m2⟩
    · show up (H.1 8) ix (G.1 8 ix) j = 1 → N.1 122 j = -1
      rw [up_d]
      by_cases y : j = ix
      · rw [if_pos y, w]; intro q; cases q
      · rw [if_neg y]; exact s1 j hj
    · rw [s3]; unfold nxn; rw [if_neg (fun q => by omega)]
  · obtain ⟨c0, c1, c2, c3⟩ := k12b w
    obtain ⟨n, hnl, en⟩ := hl.2.2 rfl w
    have n1 : ¬ nI 1 = 0 := by decide
    have q4 : ∀ M, by3 M k (kx G 12 ix) → cp_61_0 223 3780 (nI (28 * k) + 4) 4 M ∧ (cf_61_0 223 3780 (nI (28 * k) + 4) 4 M).toInt32 = G.2.1 10 ix := fun M hM => by
      rw [show nI (28 * k) + 4 = nI (28 * k + 4) from nI_add _ _]
      exact rb4 (p := 4) hM hk (by omega) (fun i hi => (k12 w hi).1)
    have q8 : ∀ M, by3 M k (kx G 12 ix) → cp_61_0 223 3780 (nI (28 * k) + 8) 4 M ∧ (cf_61_0 223 3780 (nI (28 * k) + 8) 4 M).toInt32 = G.2.1 11 ix := fun M hM => by
      rw [show nI (28 * k) + 8 = nI (28 * k + 8) from nI_add _ _]
      exact rb4 (p := 8) hM hk (by omega) (fun i hi => (k12 w hi).2)
    rw [c0, if_neg n1, e1, e2, e3, rb1 (p := 1) h hk (by omega), rb1 (p := 2) h hk (by omega), rb1 (p := 3) h hk (by omega), c1, c2, c3]
    have hM : by3 (cf_68_0 (nI ix) (nI (G.1 9 ix)) (nI (G.1 10 ix)) (nI (G.1 11 ix)) N) k (kx G 12 ix) := h
    rw [cp_67_27, cf_67_27, (q4 _ hM).2, (q8 (mz_wI (cf_68_0 (nI ix) (nI (G.1 9 ix)) (nI (G.1 10 ix)) (nI (G.1 11 ix)) N) 121 (nI ix) (G.2.1 10 ix)) h).2, cf_67_62]
    have g15 : (mz_wI (mz_wI (cf_68_0 (nI ix) (nI (G.1 9 ix)) (nI (G.1 10 ix)) (nI (G.1 11 ix)) N) 121 (nI ix) (G.2.1 10 ix)) 117 (nI ix) (G.2.1 11 ix)).1 115 2 = nI nn := s3
    have g17 : mz_gI (mz_wI (mz_wI (cf_68_0 (nI ix) (nI (G.1 9 ix)) (nI (G.1 10 ix)) (nI (G.1 11 ix)) N) 121 (nI ix) (G.2.1 10 ix)) 117 (nI ix) (G.2.1 11 ix)) 117 (nI ix) = nI n := by
      rw [gI_a, nI_clamp (by omega), wI_at (by omega), if_pos rfl, en]
    rw [g15, g17, nI_1, imax_n (by omega) (by omega)]
    refine ⟨⟨ib_n (by omega) (by omega), fun q => absurd q n1, fun _ => ⟨ib_n (by omega) (by omega), ib_n (by omega) (by omega), ib_n (by omega) (by omega), ⟨i1, i1, i1, i1, i1⟩, (q4 _ hM).1, i1, (q8 _ h).1, i1, i1⟩⟩, fq_pI (fq_wI (fq_wI (fq_wI (fq_wI (fq_wI (fq_wI (fq_wI (fq_refl _ _ _) rfl) rfl) rfl) rfl) rfl) rfl) rfl) rfl, ⟨k1, k2, k3, k4, k5, k7, k8, k8b, k9, k10, k11, fun j hj => ?_, k13, k14, k15⟩, ⟨fun j hj => ?_, s2, ?_⟩, fun f hf => ?_⟩
    · show (mz_wI N 123 (nI ix) 1).1 123 j = nI (up (H.1 8) ix (G.1 8 ix) j) ∧ (up (H.1 8) ix (G.1 8 ix) j = 1 → (mz_wI N 118 (nI ix) (nI (G.1 9 ix))).1 118 j = nI (up (H.1 9) ix (G.1 9 ix) j) ∧ (mz_wI N 119 (nI ix) (nI (G.1 10 ix))).1 119 j = nI (up (H.1 10) ix (G.1 10 ix) j) ∧ (mz_wI N 120 (nI ix) (nI (G.1 11 ix))).1 120 j = nI (up (H.1 11) ix (G.1 11 ix) j) ∧ (mz_wI N 121 (nI ix) (G.2.1 10 ix)).1 121 j = up (H.2.1 10) ix (G.2.1 10 ix) j ∧ (mz_wI N 117 (nI ix) (G.2.1 11 ix)).1 117 j = up (H.2.1 11) ix (G.2.1 11 ix) j)
      obtain ⟨m1, m2⟩ := k12' j hj
      rw [wI_at (by omega), wI_at (by omega), wI_at (by omega), wI_at (by omega), wI_at (by omega), wI_at (by omega), up_d, up_d, up_d, up_d, up_d, up_d]
      by_cases y : j = ix
      · simp only [y, if_true, w]; exact ⟨rfl, fun _ => ⟨trivial, trivial, trivial, trivial, trivial⟩⟩
      · simp only [y, if_false]; exact ⟨m1, m2⟩
    · show up (H.1 8) ix (G.1 8 ix) j = 1 → (mz_wI N 122 (nI ix) (-1)).1 122 j = -1
      rw [up_d, wI_at (by omega)]
      by_cases y : j = ix
      · rw [if_pos y, if_pos y]; exact fun _ => rfl
      · rw [if_neg y, if_neg y]; exact s1 j hj
    · show nI (max nn (n + 1)) = nI (nxn G 12 ix nn)
      unfold nxn
      rw [if_pos ⟨rfl, w⟩, en, nI_clamp (by omega)]
    · show (mz_pI N 115 2 _).1 115 f = N.1 115 f
      rw [pI_s, sI_e, up_a, if_neg hf]
end Dce
