/-! PURE (43): the reference makes the bytes of its keys: numbers; all of them. -/
section Mak2
variable {M : mz_N} {ix : Nat} {o : Nat → Int32} {H : Kp}
theorem gZ_m {f : Nat → Int32} {q j x : Nat} (hq : q ≠ 332) (hj : j < 2 ^ 31) (h : M.1 q j = nI x) (hx : x ≤ 1) : mz_gZ (mz_sI M 332 f) q (nI j) = decide (x = 1) := by
  unfold mz_gZ
  rw [sI_n hq, nI_clamp hj, h, decide_eq_decide, show (1 : Int32) = nI 1 from rfl, nI_eq (by omega) (by omega)]
theorem z01_n {x : Nat} (hx : x ≤ 1) : mz_z01 (nI x) := by
  have : x = 0 ∨ x = 1 := by omega
  rcases this with w | w <;> rw [w]
  · exact Or.inl rfl
  · exact Or.inr rfl
theorem e8_r (hix : ix < 10) (h1 : M.2 321 ix = (H.2.1 2 ix).toInt64 ∧ M.2 322 ix = (H.2.1 3 ix).toInt64 ∧ M.2 323 ix = (H.2.1 4 ix).toInt64) (h2 : M.2 324 ix = H.2.2 0 ix ∧ M.2 325 ix = H.2.2 1 ix) : cp_477_0 8 (nI ix) (mz_sI M 332 (stm (fun _ => 0) o)) ∧ cf_477_0 8 (nI ix) (mz_sI M 332 (stm (fun _ => 0) o)) = mz_sI M 332 (stm (kx H 8 ix) o) := by
  rw [cf_477_0, if_pos rfl]
  refine ⟨⟨fun _ => ?_, fun w => absurd rfl w⟩, ?_⟩
  · simp (disch := first | omega | decide) only [cp_477_71, cf_477_71, cp_477_97, cf_477_97, (show (0 : Int32) = nI 0 from rfl), (show (4 : Int32) = nI 4 from rfl), (show (8 : Int32) = nI 8 from rfl), (show (16 : Int32) = nI 16 from rfl), (show (20 : Int32) = nI 20 from rfl), (show (24 : Int32) = nI 24 from rfl), stm_n1, stm_n2, rd_mL, h1, h2, ib_i, not_false_eq_true, not_true_eq_false, if_true, if_false, true_implies, false_implies, implies_true, and_true, true_and]
    omega
  · simp (disch := first | omega | decide) only [cp_477_71, cf_477_71, cp_477_97, cf_477_97, (show (0 : Int32) = nI 0 from rfl), (show (4 : Int32) = nI 4 from rfl), (show (8 : Int32) = nI 8 from rfl), (show (16 : Int32) = nI 16 from rfl), (show (20 : Int32) = nI 20 from rfl), (show (24 : Int32) = nI 24 from rfl), stm_n1, stm_n2, rd_mL, h1, h2, ib_i, not_false_eq_true, not_true_eq_false, if_true, if_false, true_implies, false_implies, implies_true, and_true, true_and]
    rfl
theorem e9_r (h : M.2 232 2 = (H.2.1 5 0).toInt64 ∧ M.2 232 122 = H.2.2 2 0 ∧ M.2 232 123 = H.2.2 2 1 ∧ M.2 232 124 = (H.2.1 5 1).toInt64 ∧ M.2 232 125 = (H.2.1 5 2).toInt64) : cp_477_0 9 (nI ix) (mz_sI M 332 (stm (fun _ => 0) o)) ∧ cf_477_0 9 (nI ix) (mz_sI M 332 (stm (fun _ => 0) o)) = mz_sI M 332 (stm (kx H 9 ix) o) := by
  obtain ⟨h1, h2, h3, h4, h5⟩ := h
  have s2 : ∀ f c, (mz_sI M 332 f).2 c = M.2 c := fun f c => rfl
  rw [cf_477_0, if_neg (show ¬ (9 : Int32) = 8 by decide), if_pos rfl]
  refine ⟨⟨fun w => absurd w (show ¬ (9 : Int32) = 8 by decide), fun _ => ⟨fun _ => ?_, fun w => absurd rfl w⟩⟩, ?_⟩
  · simp (disch := first | omega | decide) only [cp_477_134, cf_477_134, cp_477_157, cf_477_157, s2, h1, h2, h3, h4, h5, (show (0 : Int32) = nI 0 from rfl), (show (4 : Int32) = nI 4 from rfl), (show (8 : Int32) = nI 8 from rfl), (show (12 : Int32) = nI 12 from rfl), (show (20 : Int32) = nI 20 from rfl), (show (24 : Int32) = nI 24 from rfl), stm_n1, stm_n2, not_false_eq_true, not_true_eq_false, if_true, if_false, true_implies, false_implies, implies_true, and_true, true_and]
  · simp (disch := first | omega | decide) only [cp_477_134, cf_477_134, cp_477_157, cf_477_157, s2, h1, h2, h3, h4, h5, (show (0 : Int32) = nI 0 from rfl), (show (4 : Int32) = nI 4 from rfl), (show (8 : Int32) = nI 8 from rfl), (show (12 : Int32) = nI 12 from rfl), (show (20 : Int32) = nI 20 from rfl), (show (24 : Int32) = nI 24 from rfl), stm_n1, stm_n2, not_false_eq_true, not_true_eq_false, if_true, if_false, true_implies, false_implies, implies_true, and_true, true_and]
    rfl
theorem e10_r (h0 : M.2 321 10 = (H.2.1 2 10).toInt64 ∧ M.2 322 10 = (H.2.1 3 10).toInt64 ∧ M.2 323 10 = (H.2.1 4 10).toInt64) (h2 : M.1 232 21 = H.2.1 6 0 ∧ ∀ j, j < 3 → M.1 249 j = H.2.1 6 (j + 1)) : cp_477_0 10 (nI ix) (mz_sI M 332 (stm (fun _ => 0) o)) ∧ cf_477_0 10 (nI ix) (mz_sI M 332 (stm (fun _ => 0) o)) = mz_sI M 332 (stm (kx H 10 ix) o) := by
  obtain ⟨h21, h49⟩ := h2
  obtain ⟨h1, h3, -⟩ := h0
  have hl : ∀ g : Nat → Nat, cp_477_211 0 (mz_sI M 332 (stm g o)) ∧ cf_477_211 0 (mz_sI M 332 (stm g o)) = mz_sI M 332 (stm (it (fun t g => pb g (12 + 4 * t) 4 (H.2.1 6 (t + 1)).toInt64) 3 g) o) := by
    intro g
    refine mz_lpn (f := cq_477_211) (P := cd_477_211) (Q := fun t => t = mz_sI M 332 (stm (it (fun t g => pb g (12 + 4 * t) 4 (H.2.1 6 (t + 1)).toInt64) 3 g) o)) 3 (fun t s => s = (nI t, mz_sI M 332 (stm (it (fun t g => pb g (12 + 4 * t) 4 (H.2.1 6 (t + 1)).toInt64) t g) o))) ?_ ?_ (Nat.zero_le _) rfl
    · rintro t s ht rfl
      have g3 : ∀ f, mz_gI (mz_sI M 332 f) 249 (nI t) = H.2.1 6 (t + 1) := fun f => by rw [rd_m (by decide) (by omega), h49 _ ht]
      simp (disch := omega) only [cd_477_211, cq_477_211, nI_ltI, (show (3 : Int32) = nI 3 from rfl), (show (4 : Int32) = nI 4 from rfl), (show (12 : Int32) = nI 12 from rfl), ht, pk_mul, nI_add, g3, stm_n1, stm_n2, nI_1, ib_i, not_false_eq_true, not_true_eq_false, if_true, if_false, true_implies, false_implies, implies_true, and_true, true_and]
      exact Or.inl ⟨_, rfl, rfl⟩
    · rintro s rfl
      have hlt : ¬ nI 3 < 3 := by decide
      rw [cd_477_211, cq_477_211]
      simp only [hlt, if_false]
      exact ⟨⟨False.elim, fun _ => trivial⟩, _, rfl, rfl⟩
  have k1 : ∀ f, mz_gL (mz_sI M 332 f) 322 10 = (H.2.1 3 10).toInt64 := fun f => by rw [show (10 : Int32) = nI 10 from rfl, rd_mL (by omega), h3]
  have k2 : ∀ f, mz_gL (mz_sI M 332 f) 321 10 = (H.2.1 2 10).toInt64 := fun f => by rw [show (10 : Int32) = nI 10 from rfl, rd_mL (by omega), h1]
  have k3 : ∀ f, (mz_sI M 332 f).1 232 21 = H.2.1 6 0 := fun f => by rw [sI_n (by decide)]; exact h21
  have z0 : ∀ g, cp_477_211 (nI 0) (mz_sI M 332 (stm g o)) := fun g => (hl g).1
  have z1 : ∀ g, cf_477_211 (nI 0) (mz_sI M 332 (stm g o)) = mz_sI M 332 (stm (it (fun t g => pb g (12 + 4 * t) 4 (H.2.1 6 (t + 1)).toInt64) 3 g) o) := fun g => (hl g).2
  rw [cf_477_0, if_neg (show ¬ (10 : Int32) = 8 by decide), if_neg (show ¬ (10 : Int32) = 9 by decide), if_pos rfl]
  refine ⟨⟨fun w => absurd w (show ¬ (10 : Int32) = 8 by decide), fun _ => ⟨fun w => absurd w (show ¬ (10 : Int32) = 9 by decide), fun _ => ⟨fun _ => ?_, fun w => absurd rfl w⟩⟩⟩, ?_⟩
  · simp (disch := first | omega | decide) only [cp_477_197, cf_477_197, k1, k2, k3, (show (0 : Int32) = nI 0 from rfl), (show (4 : Int32) = nI 4 from rfl), (show (8 : Int32) = nI 8 from rfl), stm_n1, stm_n2, z0, z1, not_false_eq_true, not_true_eq_false, if_true, if_false, true_implies, false_implies, implies_true, and_true, true_and]
  · simp (disch := first | omega | decide) only [cp_477_197, cf_477_197, k1, k2, k3, (show (0 : Int32) = nI 0 from rfl), (show (4 : Int32) = nI 4 from rfl), (show (8 : Int32) = nI 8 from rfl), stm_n1, stm_n2, z0, z1, not_false_eq_true, not_true_eq_false, if_true, if_false, true_implies, false_implies, implies_true, and_true, true_and]
    rfl
theorem e11_r (hix : ix < 3) (hb : H.1 7 ix ≤ 1) (h : M.1 250 ix = H.2.1 7 ix ∧ M.2 305 ix = (H.2.1 8 ix).toInt64 ∧ M.1 306 ix = H.2.1 9 ix ∧ M.1 307 ix = nI (H.1 7 ix)) : cp_477_0 11 (nI ix) (mz_sI M 332 (stm (fun _ => 0) o)) ∧ cf_477_0 11 (nI ix) (mz_sI M 332 (stm (fun _ => 0) o)) = mz_sI M 332 (stm (kx H 11 ix) o) := by
  obtain ⟨h1, h2, h3, h4⟩ := h
  have gz : ∀ f, mz_gZ (mz_sI M 332 f) 307 (nI ix) = decide (H.1 7 ix = 1) := fun f => gZ_m (by decide) (by omega) h4 hb
  have zz := z01_n hb
  rw [cf_477_0, if_neg (show ¬ (11 : Int32) = 8 by decide), if_neg (show ¬ (11 : Int32) = 9 by decide), if_neg (show ¬ (11 : Int32) = 10 by decide), if_pos rfl]
  refine ⟨⟨fun w => absurd w (show ¬ (11 : Int32) = 8 by decide), fun _ => ⟨fun w => absurd w (show ¬ (11 : Int32) = 9 by decide), fun _ => ⟨fun w => absurd w (show ¬ (11 : Int32) = 10 by decide), fun _ => ⟨fun _ => ?_, fun w => absurd rfl w⟩⟩⟩⟩, ?_⟩
  · simp (disch := first | omega | decide) only [cp_477_268, cp_477_300, gz, (show (0 : Int32) = nI 0 from rfl), (show (1 : Int32) = nI 1 from rfl), (show (4 : Int32) = nI 4 from rfl), (show (8 : Int32) = nI 8 from rfl), (show (12 : Int32) = nI 12 from rfl), stm_n1, stm_n2, rd_m, rd_mL, h1, h2, h3, h4, zz, ib_i, implies_true, not_false_eq_true, not_true_eq_false, if_true, if_false, true_implies, false_implies, implies_true, and_true, true_and]
    omega
  · have e : kx H 11 ix = up (pb (pb (pb (fun _ => 0) 0 4 (H.2.1 7 ix).toInt64) 4 4 (H.2.1 8 ix).toInt64) 8 4 (H.2.1 9 ix).toInt64) 12 (H.1 7 ix) := rfl
    simp (disch := first | omega | decide) only [cf_477_268, cf_477_300, gz, (show (0 : Int32) = nI 0 from rfl), (show (1 : Int32) = nI 1 from rfl), (show (4 : Int32) = nI 4 from rfl), (show (8 : Int32) = nI 8 from rfl), (show (12 : Int32) = nI 12 from rfl), stm_n2, rd_m, rd_mL, h1, h2, h3, pb_1, lb_1, lb_0, e, not_false_eq_true, not_true_eq_false, if_true, if_false, true_implies, false_implies, implies_true, and_true, true_and]
    have : H.1 7 ix = 0 ∨ H.1 7 ix = 1 := by omega
    rcases this with w | w
    · rw [w, if_neg (by decide)]
    · rw [w, if_pos (by decide)]
theorem e12_r (hix : ix < 16) (hb : H.1 8 ix ≤ 1 ∧ H.1 9 ix < 256 ∧ H.1 10 ix < 256 ∧ H.1 11 ix < 256) (h : M.1 287 ix = nI (H.1 8 ix) ∧ (H.1 8 ix = 1 → M.1 288 ix = nI (H.1 9 ix) ∧ M.1 289 ix = nI (H.1 10 ix) ∧ M.1 290 ix = nI (H.1 11 ix) ∧ M.2 291 ix = (H.2.1 10 ix).toInt64 ∧ M.2 292 ix = (H.2.1 11 ix).toInt64)) : cp_477_0 12 (nI ix) (mz_sI M 332 (stm (fun _ => 0) o)) ∧ cf_477_0 12 (nI ix) (mz_sI M 332 (stm (fun _ => 0) o)) = mz_sI M 332 (stm (kx H 12 ix) o) := by
  obtain ⟨h0, h⟩ := h
  obtain ⟨b0, b1', b2, b3⟩ := hb
  have gz : ∀ f, mz_gZ (mz_sI M 332 f) 287 (nI ix) = decide (H.1 8 ix = 1) := fun f => gZ_m (by decide) (by omega) h0 b0
  have zz := z01_n b0
  have e : kx H 12 ix = if H.1 8 ix = 0 then (fun _ => 0) else pb (pb (up (up (up (up (fun _ => 0) 0 1) 1 (H.1 9 ix)) 2 (H.1 10 ix)) 3 (H.1 11 ix)) 4 4 (H.2.1 10 ix).toInt64) 8 4 (H.2.1 11 ix).toInt64 := rfl
  have hc : H.1 8 ix = 0 ∨ H.1 8 ix = 1 := by omega
  rw [cf_477_0, if_neg (show ¬ (12 : Int32) = 8 by decide), if_neg (show ¬ (12 : Int32) = 9 by decide), if_neg (show ¬ (12 : Int32) = 10 by decide), if_neg (show ¬ (12 : Int32) = 11 by decide), if_pos rfl]
  refine ⟨⟨fun w => absurd w (show ¬ (12 : Int32) = 8 by decide), fun _ => ⟨fun w => absurd w (show ¬ (12 : Int32) = 9 by decide), fun _ => ⟨fun w => absurd w (show ¬ (12 : Int32) = 10 by decide), fun _ => ⟨fun w => absurd w (show ¬ (12 : Int32) = 11 by decide), fun _ => ⟨fun _ => ?_, fun w => absurd rfl w⟩⟩⟩⟩⟩, ?_⟩
  · rcases hc with w | w
    · have wd : decide (H.1 8 ix = 1) = false := by rw [w]; rfl
      simp (disch := first | omega | decide) only [gz, wd, rd_m, h0, zz, ib_i, Bool.false_eq_true, not_false_eq_true, not_true_eq_false, if_true, if_false, true_implies, false_implies, implies_true, and_true, true_and]
      omega
    · have wd : decide (H.1 8 ix = 1) = true := by rw [w]; rfl
      obtain ⟨h1, h2, h3, h4, h5⟩ := h w
      simp (disch := first | omega | decide) only [gz, wd, cp_477_335, cp_477_361, cp_477_386, (show (0 : Int32) = nI 0 from rfl), (show (1 : Int32) = nI 1 from rfl), (show (2 : Int32) = nI 2 from rfl), (show (3 : Int32) = nI 3 from rfl), (show (4 : Int32) = nI 4 from rfl), (show (8 : Int32) = nI 8 from rfl), stm_n1, stm_n2, rd_m, rd_mL, h0, h1, h2, h3, h4, h5, zz, ib_i, not_false_eq_true, not_true_eq_false, if_true, if_false, true_implies, false_implies, implies_true, and_true, true_and]
      omega
  · rcases hc with w | w
    · have wd : decide (H.1 8 ix = 1) = false := by rw [w]; rfl
      rw [gz, wd, if_neg (by decide), e, if_pos w]
    · have wd : decide (H.1 8 ix = 1) = true := by rw [w]; rfl
      obtain ⟨h1, h2, h3, h4, h5⟩ := h w
      rw [gz, wd, if_pos rfl, e, if_neg (by omega)]
      simp (disch := first | omega | decide) only [cf_477_335, cf_477_361, cf_477_386, (show (0 : Int32) = nI 0 from rfl), (show (1 : Int32) = nI 1 from rfl), (show (2 : Int32) = nI 2 from rfl), (show (3 : Int32) = nI 3 from rfl), (show (4 : Int32) = nI 4 from rfl), (show (8 : Int32) = nI 8 from rfl), stm_n2, rd_m, rd_mL, h1, h2, h3, h4, h5, pb_1, lb_1, lb_nI b1', lb_nI b2, lb_nI b3, not_false_eq_true, not_true_eq_false, if_true, if_false, true_implies, false_implies, implies_true, and_true, true_and]
theorem e13_r (hix : ix < 20) (hb : H.1 13 ix < 256 ∧ H.1 14 ix < 256) (h : M.1 309 ix = nI (H.1 13 ix) ∧ M.1 310 ix = nI (H.1 14 ix)) : cp_477_0 13 (nI ix) (mz_sI M 332 (stm (fun _ => 0) o)) ∧ cf_477_0 13 (nI ix) (mz_sI M 332 (stm (fun _ => 0) o)) = mz_sI M 332 (stm (kx H 13 ix) o) := by
  obtain ⟨h1, h2⟩ := h
  obtain ⟨b1', b2⟩ := hb
  rw [cf_477_0, if_neg (show ¬ (13 : Int32) = 8 by decide), if_neg (show ¬ (13 : Int32) = 9 by decide), if_neg (show ¬ (13 : Int32) = 10 by decide), if_neg (show ¬ (13 : Int32) = 11 by decide), if_neg (show ¬ (13 : Int32) = 12 by decide), if_pos rfl]
  refine ⟨⟨fun w => absurd w (show ¬ (13 : Int32) = 8 by decide), fun _ => ⟨fun w => absurd w (show ¬ (13 : Int32) = 9 by decide), fun _ => ⟨fun w => absurd w (show ¬ (13 : Int32) = 10 by decide), fun _ => ⟨fun w => absurd w (show ¬ (13 : Int32) = 11 by decide), fun _ => ⟨fun w => absurd w (show ¬ (13 : Int32) = 12 by decide), fun _ => ⟨fun _ => ?_, fun w => absurd rfl w⟩⟩⟩⟩⟩⟩, ?_⟩
  · simp (disch := first | omega | decide) only [cp_477_409, cf_477_409, (show (0 : Int32) = nI 0 from rfl), (show (1 : Int32) = nI 1 from rfl), (show (2 : Int32) = nI 2 from rfl), stm_n1, stm_n2, rd_m, h1, h2, pb_1, lb_1, lb_nI b1', lb_nI b2, ib_i, not_false_eq_true, not_true_eq_false, if_true, if_false, true_implies, false_implies, implies_true, and_true, true_and]
    omega
  · simp (disch := first | omega | decide) only [cp_477_409, cf_477_409, (show (0 : Int32) = nI 0 from rfl), (show (1 : Int32) = nI 1 from rfl), (show (2 : Int32) = nI 2 from rfl), stm_n1, stm_n2, rd_m, h1, h2, pb_1, lb_1, lb_nI b1', lb_nI b2, ib_i, not_false_eq_true, not_true_eq_false, if_true, if_false, true_implies, false_implies, implies_true, and_true, true_and]
    rfl
theorem e14_r (hix : ix < 40) (hb : H.1 16 ix < 256 ∧ H.1 17 ix < 256 ∧ H.1 18 ix ≤ 1) (h : M.1 313 ix = nI (H.1 16 ix) ∧ M.1 314 ix = nI (H.1 17 ix) ∧ M.1 315 ix = nI (H.1 18 ix) ∧ M.1 312 ix = H.2.1 12 ix) : cp_477_0 14 (nI ix) (mz_sI M 332 (stm (fun _ => 0) o)) ∧ cf_477_0 14 (nI ix) (mz_sI M 332 (stm (fun _ => 0) o)) = mz_sI M 332 (stm (kx H 14 ix) o) := by
  obtain ⟨h1, h2, h3, h4⟩ := h
  obtain ⟨b1', b2, b3⟩ := hb
  have gz : ∀ f, mz_gZ (mz_sI M 332 f) 315 (nI ix) = decide (H.1 18 ix = 1) := fun f => gZ_m (by decide) (by omega) h3 b3
  have zz := z01_n b3
  rw [cf_477_0, if_neg (show ¬ (14 : Int32) = 8 by decide), if_neg (show ¬ (14 : Int32) = 9 by decide), if_neg (show ¬ (14 : Int32) = 10 by decide), if_neg (show ¬ (14 : Int32) = 11 by decide), if_neg (show ¬ (14 : Int32) = 12 by decide), if_neg (show ¬ (14 : Int32) = 13 by decide), if_pos rfl]
  refine ⟨⟨fun w => absurd w (show ¬ (14 : Int32) = 8 by decide), fun _ => ⟨fun w => absurd w (show ¬ (14 : Int32) = 9 by decide), fun _ => ⟨fun w => absurd w (show ¬ (14 : Int32) = 10 by decide), fun _ => ⟨fun w => absurd w (show ¬ (14 : Int32) = 11 by decide), fun _ => ⟨fun w => absurd w (show ¬ (14 : Int32) = 12 by decide), fun _ => ⟨fun w => absurd w (show ¬ (14 : Int32) = 13 by decide), fun _ => ⟨fun _ => ?_, fun w => absurd rfl w⟩⟩⟩⟩⟩⟩⟩, ?_⟩
  · simp (disch := first | omega | decide) only [cp_477_445, cp_477_475, cp_477_527, gz, (show (0 : Int32) = nI 0 from rfl), (show (1 : Int32) = nI 1 from rfl), (show (2 : Int32) = nI 2 from rfl), (show (3 : Int32) = nI 3 from rfl), (show (4 : Int32) = nI 4 from rfl), stm_n1, stm_n2, rd_m, h1, h2, h3, h4, zz, ib_i, implies_true, not_false_eq_true, not_true_eq_false, if_true, if_false, true_implies, false_implies, implies_true, and_true, true_and]
    exact ⟨hix, hix, hix, fun _ => hix, fun _ => hix⟩
  · have e : kx H 14 ix = pb (up (up (up (up (fun _ => 0) 0 1) 1 (H.1 16 ix)) 2 (H.1 17 ix)) 3 (H.1 18 ix)) 4 4 (H.2.1 12 ix).toInt64 := rfl
    simp (disch := first | omega | decide) only [cf_477_445, cf_477_475, cf_477_527, gz, (show (0 : Int32) = nI 0 from rfl), (show (1 : Int32) = nI 1 from rfl), (show (2 : Int32) = nI 2 from rfl), (show (3 : Int32) = nI 3 from rfl), (show (4 : Int32) = nI 4 from rfl), stm_n2, rd_m, h1, h2, h3, h4, pb_1, lb_1, lb_0, lb_nI b1', lb_nI b2, e, not_false_eq_true, not_true_eq_false, if_true, if_false, true_implies, false_implies, implies_true, and_true, true_and]
    have : H.1 18 ix = 0 ∨ H.1 18 ix = 1 := by omega
    rcases this with w | w
    · rw [w, if_neg (by decide)]
    · rw [w, if_pos (by decide)]
theorem e15_r (hix : ix < 8) (hb : H.1 20 ix < 256 ∧ H.1 21 ix < 256) (h : M.1 283 ix = nI (H.1 20 ix) ∧ M.1 284 ix = nI (H.1 21 ix)) : cp_477_0 15 (nI ix) (mz_sI M 332 (stm (fun _ => 0) o)) ∧ cf_477_0 15 (nI ix) (mz_sI M 332 (stm (fun _ => 0) o)) = mz_sI M 332 (stm (kx H 15 ix) o) := by
  obtain ⟨h1, h2⟩ := h
  obtain ⟨b1', b2⟩ := hb
  rw [cf_477_0, if_neg (show ¬ (15 : Int32) = 8 by decide), if_neg (show ¬ (15 : Int32) = 9 by decide), if_neg (show ¬ (15 : Int32) = 10 by decide), if_neg (show ¬ (15 : Int32) = 11 by decide), if_neg (show ¬ (15 : Int32) = 12 by decide), if_neg (show ¬ (15 : Int32) = 13 by decide), if_neg (show ¬ (15 : Int32) = 14 by decide)]
  refine ⟨⟨fun w => absurd w (show ¬ (15 : Int32) = 8 by decide), fun _ => ⟨fun w => absurd w (show ¬ (15 : Int32) = 9 by decide), fun _ => ⟨fun w => absurd w (show ¬ (15 : Int32) = 10 by decide), fun _ => ⟨fun w => absurd w (show ¬ (15 : Int32) = 11 by decide), fun _ => ⟨fun w => absurd w (show ¬ (15 : Int32) = 12 by decide), fun _ => ⟨fun w => absurd w (show ¬ (15 : Int32) = 13 by decide), fun _ => ⟨fun w => absurd w (show ¬ (15 : Int32) = 14 by decide), fun _ => ?_⟩⟩⟩⟩⟩⟩⟩, ?_⟩
  · simp (disch := first | omega | decide) only [cp_477_514, cf_477_514, cp_477_527, cf_477_527, (show (0 : Int32) = nI 0 from rfl), (show (1 : Int32) = nI 1 from rfl), (show (2 : Int32) = nI 2 from rfl), stm_n1, stm_n2, rd_m, h1, h2, pb_1, lb_1, lb_nI b1', lb_nI b2, ib_i, not_false_eq_true, not_true_eq_false, if_true, if_false, true_implies, false_implies, implies_true, and_true, true_and]
    omega
  · simp (disch := first | omega | decide) only [cp_477_514, cf_477_514, cp_477_527, cf_477_527, (show (0 : Int32) = nI 0 from rfl), (show (1 : Int32) = nI 1 from rfl), (show (2 : Int32) = nI 2 from rfl), stm_n1, stm_n2, rd_m, h1, h2, pb_1, lb_1, lb_nI b1', lb_nI b2, ib_i, not_false_eq_true, not_true_eq_false, if_true, if_false, true_implies, false_implies, implies_true, and_true, true_and]
    rfl
end Mak2
