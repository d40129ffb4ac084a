/-! PURE (50zzzzzzo): the reference's tour through chosen tickets. -/
section Tr2
variable {N M : mz_N} {n u t0 : Nat} {pl sp : Nat → Nat}
theorem gd_rng {i : Nat} (hi : i < n) : gd (List.range n) i = i := by
  unfold gd
  rw [List.getD_eq_getElem?_getD, List.getElem?_range hi]; rfl
/-- the shortest tour is the greedy one -/
theorem pms_gp (h1 : 1 ≤ n) (hn : n ≤ 6) : ∃ r, pms n (List.range n) = List.range n :: r ∧ fm (pwc wy sp 0) (List.range n) r = GP wy sp n 0 0 ∧ chn n (List.range n :: r) = true := by
  obtain ⟨h, t, e1, e2⟩ := pms_ok (w := wy) (sp := sp) n (List.range n) List.length_range
  obtain ⟨d1, _⟩ := pms_hd h1 hn
  rw [e1] at d1
  have eh : h = List.range n := Option.some.inj d1
  subst eh
  refine ⟨t, e1, ?_, by rw [← e1]; exact chn_ok h1 hn⟩
  rw [(e2 0).1, GP_all (by omega)]
theorem full_r (hX : spR N n pl sp) (hs : ∀ j, sp j < 240) (h1 : 1 ≤ n) (hn : n ≤ 6) (hu : u < 2) (ht : t0 ≤ 2000000) (htm : N.2 232 2 = lN t0) (h299 : ∀ i, i < n → N.1 299 i = nI i) : cp_565_149 (nI u) (nI n) N ∧ ∃ M K, cf_565_149 (nI u) (nI n) N = (nI n, K) ∧ fq [299, 300] [] N M ∧ trR M K n u t0 (GP wy sp n 0 0) pl sp := by
  have n0 : ¬ nI n = 0 := fun z => by have := (nI_eq0 (by omega)).mp z; omega
  have oi : oin N 299 n (List.range n) := ⟨List.length_range, fun i hi => ⟨by rw [gd_rng hi]; exact h299 i hi, by rw [gd_rng hi]; exact hi⟩⟩
  obtain ⟨t1, t2⟩ := thru_r hX hs hn List.length_range oi.2
  obtain ⟨r, e1, e2, e3⟩ := pms_gp (sp := sp) h1 hn
  -- behind the first copy
  have beh : ∀ K0, fq [300] [] N K0 → (∀ i, i < n → K0.1 300 i = nI i) → cp_565_190 (nI u) (nI n) (nI (pwc wy sp 0 (List.range n))) K0 ∧ ∃ M K, cf_565_190 (nI u) (nI n) (nI (pwc wy sp 0 (List.range n))) K0 = (nI n, K) ∧ fq [299, 300] [] N M ∧ trR M K n u t0 (GP wy sp n 0 0) pl sp := fun K0 f0 h300 => by
    have hX0 : spR K0 n pl sp := spR_f hX (f0.1 301 rfl) (f0.1 288 rfl) (f0.1 289 rfl)
    have o1 : oin K0 299 n (List.range n) := ⟨List.length_range, fun i hi => by rw [f0.1 299 rfl]; exact oi.2 i hi⟩
    have o2 : oin K0 300 n (List.range n) := ⟨List.length_range, fun i hi => ⟨by rw [gd_rng hi]; exact h300 i hi, by rw [gd_rng hi]; exact hi⟩⟩
    have lay : ∀ M, fq [299, 300] [] K0 M → oin M 300 n (fm (pwc wy sp 0) (List.range n) r) → cp_565_268 (nI u) (nI n) (M.2 232 2) (-1) 0 M ∧ ∃ K, cf_565_268 (nI u) (nI n) (M.2 232 2) (-1) 0 M = (nI n, K) ∧ trR M K n u t0 (GP wy sp n 0 0) pl sp := fun M fM oM => by
      rw [e2] at oM
      have em : M.2 232 2 = lN t0 := by rw [fM.2 232 rfl, f0.2 232 rfl]; exact htm
      rw [em]
      exact lay_q (spR_f hX0 (fM.1 301 rfl) (fM.1 288 rfl) (fM.1 289 rfl)) hs h1 hn hu ht oM
    obtain ⟨s1, M, s2, s3, s4⟩ := srch_r (u := u) hX0 hs h1 hn e3 o1 o2 (fun M fM oM => (lay M fM oM).1)
    obtain ⟨_, K, l2, l3⟩ := lay M s3 s4
    exact ⟨s1, M, K, by rw [s2]; exact l2, fq_trans (fq_sub f0 rfl rfl) s3, l3⟩
  rw [cp_565_149, cf_565_149, if_neg n0, t2, cp_565_164, cf_565_164]
  refine (fun (h : _ ∧ _) => ⟨⟨fun z => absurd z n0, fun _ => ⟨t1, h.1⟩⟩, h.2⟩) (mz_lpn (f := cq_565_164 (nI u) (nI n) (nI (pwc wy sp 0 (List.range n)))) (P := cd_565_164 (nI u) (nI n) (nI (pwc wy sp 0 (List.range n)))) (Q := fun r => ∃ M K, r = (nI n, K) ∧ fq [299, 300] [] N M ∧ trR M K n u t0 (GP wy sp n 0 0) pl sp) n (fun k s => ∃ g, s = (nI k, mz_sI N 300 g) ∧ ∀ i, i < k → g i = nI i) (k := 0) (s := (0, N)) ?_ ?_ (Nat.zero_le _) ⟨N.1 300, by rw [sI_same]; rfl, fun i hi => absurd hi (Nat.not_lt_zero i)⟩)
  · rintro k s hk ⟨g, rfl, hg⟩
    have l : nI k < nI n := (nI_ltI (by omega) (by omega)).mpr hk
    have g1 : mz_gI (mz_sI N 300 g) 299 (nI k) = nI k := by rw [gI_a, nI_clamp (by omega), sI_n (by decide)]; exact h299 k hk
    have ib : mz_ib (nI k) 6 := ib_n (by omega) (by omega)
    rw [cd_565_164, cq_565_164]
    simp only [l, if_true, g1, nI_1]
    refine ⟨⟨fun _ => ⟨ib, ib⟩, fun z => absurd trivial z⟩, Or.inl ⟨_, rfl, upd g k (nI k), by rw [wI_s, nI_clamp (by omega), sI_e, sI_sI], fun i hi => ?_⟩⟩
    rw [up_a]
    by_cases e : i = k
    · rw [if_pos e, e]
    · rw [if_neg e]; exact hg i (by omega)
  · rintro s ⟨g, rfl, hg⟩
    have l : ¬ nI n < nI n := fun z => by have := (nI_ltI (by omega) (by omega)).mp z; omega
    obtain ⟨b1', M, K, b2, b3, b4⟩ := beh (mz_sI N 300 g) (fq_sI (fq_refl _ _ _) rfl) (fun i hi => by rw [sI_e]; exact hg i hi)
    rw [cd_565_164, cq_565_164]
    simp only [l, if_false, b2]
    exact ⟨⟨False.elim, fun _ => b1'⟩, _, rfl, M, K, rfl, b3, b4⟩
end Tr2
