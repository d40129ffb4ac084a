/-! PURE (50zzzzzzn): the reference lays a tour. -/
section Lr
variable {N M : mz_N} {n u t0 : Nat} {pl sp : Nat → Nat}
theorem spR_f (h : spR N n pl sp) (e1 : M.1 301 = N.1 301) (e2 : M.1 288 = N.1 288) (e3 : M.1 289 = N.1 289) : spR M n pl sp := fun i hi => by rw [e1, e2, e3]; exact h.a i hi
/-- a tour is laid -/
def trR (N K : mz_N) (n u t0 : Nat) (P : List Nat) (pl sp : Nat → Nat) : Prop := (fq [294, 296, 297] [295, 298] N K) ∧ (∀ i, i < n → K.1 294 (6 * u + i) = nI (pl (gd P i)) ∧ K.2 295 (6 * u + i) = lN (gd (vtm sp 0 t0 P) i) ∧ gd (vtm sp 0 t0 P) i ≤ t0 + 75 * 6) ∧ (∀ j, (j < 6 * u ∨ 6 * u + 6 ≤ j) → K.1 294 j = N.1 294 j ∧ K.2 295 j = N.2 295 j) ∧ (K.1 296 = upd (N.1 296) u (nI n) ∧ K.1 297 = upd (N.1 297) u 0) ∧ (∀ j, K.2 298 j = if j = u then lN (vend sp 0 t0 P) else N.2 298 j) ∧ (vend sp 0 t0 P ≤ t0 + 75 * 6 + 60)
theorem trR.f {N K : mz_N} {n u t0 : Nat} {P : List Nat} {pl sp : Nat → Nat} (h : trR N K n u t0 P pl sp) : fq [294, 296, 297] [295, 298] N K := h.1
theorem trR.a {N K : mz_N} {n u t0 : Nat} {P : List Nat} {pl sp : Nat → Nat} (h : trR N K n u t0 P pl sp) : ∀ i, i < n → K.1 294 (6 * u + i) = nI (pl (gd P i)) ∧ K.2 295 (6 * u + i) = lN (gd (vtm sp 0 t0 P) i) ∧ gd (vtm sp 0 t0 P) i ≤ t0 + 75 * 6 := h.2.1
theorem trR.o {N K : mz_N} {n u t0 : Nat} {P : List Nat} {pl sp : Nat → Nat} (h : trR N K n u t0 P pl sp) : ∀ j, (j < 6 * u ∨ 6 * u + 6 ≤ j) → K.1 294 j = N.1 294 j ∧ K.2 295 j = N.2 295 j := h.2.2.1
theorem trR.v {N K : mz_N} {n u t0 : Nat} {P : List Nat} {pl sp : Nat → Nat} (h : trR N K n u t0 P pl sp) : K.1 296 = upd (N.1 296) u (nI n) ∧ K.1 297 = upd (N.1 297) u 0 := h.2.2.2.1
theorem trR.e {N K : mz_N} {n u t0 : Nat} {P : List Nat} {pl sp : Nat → Nat} (h : trR N K n u t0 P pl sp) : ∀ j, K.2 298 j = if j = u then lN (vend sp 0 t0 P) else N.2 298 j := h.2.2.2.2.1
theorem trR.b {N K : mz_N} {n u t0 : Nat} {P : List Nat} {pl sp : Nat → Nat} (h : trR N K n u t0 P pl sp) : vend sp 0 t0 P ≤ t0 + 75 * 6 + 60 := h.2.2.2.2.2
theorem lay_q {P : List Nat} (hX : spR N n pl sp) (hs : ∀ j, sp j < 240) (h1 : 1 ≤ n) (hn : n ≤ 6) (hu : u < 2) (ht : t0 ≤ 2000000) (hP : oin N 300 n P) : cp_565_268 (nI u) (nI n) (lN t0) (-1) 0 N ∧ ∃ K, cf_565_268 (nI u) (nI n) (lN t0) (-1) 0 N = (nI n, K) ∧ trR N K n u t0 P pl sp := by
  have cu : (nI u).toNatClampNeg = u := nI_clamp (by omega)
  have iu : mz_ib (nI u) 2 := ib_n hu (by omega)
  rw [cp_565_268, cf_565_268]
  refine mz_lpn (f := cq_565_268 (nI u) (nI n)) (P := cd_565_268 (nI u) (nI n)) (Q := fun r => ∃ K, r = (nI n, K) ∧ trR N K n u t0 P pl sp) n (fun k s => ∃ tm v a M dt, s = (lN tm, v, nI k, M) ∧ atR n pl sp v a ∧ a < 240 ∧ tm ≤ t0 + 75 * k ∧ vtm sp 0 t0 P = dt ++ vtm sp a tm (P.drop k) ∧ dt.length = k ∧ vend sp 0 t0 P = vend sp a tm (P.drop k) ∧ fq [294] [295] N M ∧ (∀ j, (j < 6 * u ∨ 6 * u + 6 ≤ j) → M.1 294 j = N.1 294 j ∧ M.2 295 j = N.2 295 j) ∧ ∀ i, i < k → M.1 294 (6 * u + i) = nI (pl (gd P i)) ∧ M.2 295 (6 * u + i) = lN (gd dt i) ∧ gd dt i ≤ t0 + 75 * k) ?_ ?_ (Nat.zero_le _) ⟨t0, -1, 0, N, [], rfl, Or.inl ⟨rfl, rfl⟩, by omega, by omega, rfl, rfl, rfl, fq_refl _ _ _, fun _ _ => ⟨rfl, rfl⟩, fun i hi => absurd hi (Nat.not_lt_zero i)⟩
  · rintro k s hk ⟨tm, v, a, M, dt, rfl, hat, ha, htm, hv1, hv2, he, fM, oM, vM⟩
    have l : nI k < nI n := (nI_ltI (by omega) (by omega)).mpr hk
    obtain ⟨p1, p2⟩ := hP.2 k hk
    have hPl := hP.1
    have hXM : spR M n pl sp := spR_f hX (fM.1 301 rfl) (fM.1 288 rfl) (fM.1 289 rfl)
    obtain ⟨q1, q2, q3, q4, q5⟩ := hXM.a (gd P k) p2
    have g1 : mz_gI M 300 (nI k) = nI (gd P k) := by rw [gI_a, nI_clamp (by omega), fM.1 300 rfl]; exact p1
    have g2 : mz_gI M 301 (nI (gd P k)) = nI (pl (gd P k)) := by rw [gI_a, nI_clamp (by omega)]; exact q1
    have hc : atR n pl sp (nI (pl (gd P k))) (sp (gd P k)) := Or.inr ⟨gd P k, p2, rfl, rfl⟩
    obtain ⟨w1, w2⟩ := way_r hXM hat hc
    have wb := wy_b ha q3
    have ew : lN tm + ((nI (wy a (sp (gd P k)))).toInt64 + 15) = lN (tm + (wy a (sp (gd P k)) + 15)) := by rw [nI_L (by omega), show (15 : Int64) = lN 15 from rfl, lN_add, lN_add]
    have e6 : 6 * nI u + nI k = nI (6 * u + k) := by rw [show (6 : Int32) = nI 6 from rfl, pk_mul, nI_add]
    have i12 : mz_ib (nI (6 * u + k)) 12 := ib_n (by omega) (by omega)
    have ed : P.drop k = gd P k :: P.drop (k + 1) := by
      unfold gd
      rw [List.getD_eq_getElem?_getD, List.getElem?_eq_getElem (by omega)]
      exact List.drop_eq_getElem_cons (by omega)
    rw [ed] at hv1 he
    obtain ⟨j, hj⟩ : ∃ j, gd P k = j := ⟨_, rfl⟩
    rw [hj] at p1 p2 q1 q2 q3 q4 q5 g1 g2 hc w1 w2 wb ew hv1 he
    generalize hK : mz_wL (mz_wI M 294 (nI (6 * u + k)) (nI (pl j))) 295 (nI (6 * u + k)) (lN (tm + (wy a (sp j) + 15))) = K
    have k294 : ∀ i, K.1 294 i = if i = 6 * u + k then nI (pl j) else M.1 294 i := fun i => by rw [← hK, wL_1, wI_at (by omega)]
    have k295 : ∀ i, K.2 295 i = if i = 6 * u + k then lN (tm + (wy a (sp j) + 15)) else M.2 295 i := fun i => by rw [← hK, wL_at (by omega)]; rfl
    have fK : fq [294] [295] N K := by rw [← hK]; exact fq_wL (fq_wI fM rfl) rfl
    rw [cd_565_268, cq_565_268]
    simp only [l, if_true, g1, g2, w2, ew, e6, cf_565_334, hK, nI_1]
    refine ⟨⟨fun _ => ⟨ib_n (by omega) (by omega), ib_n (by omega) (by omega), w1, i12, i12, trivial⟩, fun z => absurd trivial z⟩, Or.inl ⟨_, rfl, _, _, sp j, K, dt ++ [tm + (wy a (sp j) + 15)], rfl, hc, q3, by omega, ?_, by rw [List.length_append, hv2]; rfl, he, fK, fun x hx => ?_, fun i hi => ?_⟩⟩
    · rw [hv1, List.append_assoc]; rfl
    · rw [k294, k295, if_neg (by omega), if_neg (by omega)]; exact oM x hx
    · rw [k294, k295]
      by_cases y : i = k
      · have e2 : gd (dt ++ [tm + (wy a (sp j) + 15)]) i = tm + (wy a (sp j) + 15) := by rw [y, ← hv2]; exact gd_e
        rw [if_pos (by omega), if_pos (by omega), e2, y, hj]
        exact ⟨rfl, rfl, by omega⟩
      · rw [if_neg (by omega), if_neg (by omega), gd_l (by omega)]
        obtain ⟨z1, z2, z3⟩ := vM i (by omega)
        exact ⟨z1, z2, by omega⟩
  · rintro s ⟨tm, v, a, M, dt, rfl, hat, ha, htm, hv1, hv2, he, fM, oM, vM⟩
    have l : ¬ nI n < nI n := fun z => by have := (nI_ltI (by omega) (by omega)).mp z; omega
    have e0 : P.drop n = [] := by rw [← hP.1]; exact List.drop_length
    rw [e0] at hv1 he
    have hv1' : vtm sp 0 t0 P = dt ++ [] := hv1
    rw [List.append_nil] at hv1'
    have he' : vend sp 0 t0 P = tm + wy a 0 := he
    have wb := wy_b ha (show 0 < 240 by omega)
    have f2 : fq [294, 296, 297] [295] N (mz_wI (mz_wI M 296 (nI u) (nI n)) 297 (nI u) 0) := fq_wI (fq_wI (fq_sub fM rfl rfl) rfl) rfl
    have hX2 : spR (mz_wI (mz_wI M 296 (nI u) (nI n)) 297 (nI u) 0) n pl sp := spR_f hX (f2.1 301 rfl) (f2.1 288 rfl) (f2.1 289 rfl)
    obtain ⟨w1, w2⟩ := way_r hX2 hat (show atR n pl sp (-1) 0 from Or.inl ⟨rfl, rfl⟩)
    have ew : lN tm + (nI (wy a 0)).toInt64 = lN (tm + wy a 0) := by rw [nI_L (by omega), lN_add]
    rw [cd_565_268, cq_565_268]
    simp only [l, if_false, w2, ew, cf_565_375]
    refine ⟨⟨False.elim, fun _ => ⟨iu, iu, w1, iu, trivial⟩⟩, _, rfl, _, rfl, fq_wL (fq_sub f2 rfl rfl) rfl, fun i hi => ?_, fun x hx => ?_, ⟨?_, ?_⟩, fun x => ?_, by rw [he']; omega⟩
    · obtain ⟨z1, z2, z3⟩ := vM i hi
      rw [hv1']
      refine ⟨?_, ?_, by omega⟩
      · rw [wL_1, wI_ne (by decide), wI_ne (by decide)]; exact z1
      · exact z2
    · exact ⟨by rw [wL_1, wI_ne (by decide), wI_ne (by decide)]; exact (oM x hx).1, (oM x hx).2⟩
    · rw [wL_1, wI_ne (by decide), wI_s, sI_e, cu, fM.1 296 rfl]
    · rw [wL_1, wI_s, sI_e, cu, wI_ne (by decide), fM.1 297 rfl]
    · rw [wL_at (by omega), he']
      show (if x = u then _ else M.2 298 x) = _
      rw [fM.2 298 rfl]
end Lr
