/-! PURE (40): the class makes the bytes of its keys: numbers. -/
section Enc2
variable {M : mz_N} {i ix : Nat} {o : Nat → Int32} {H : Kp} {b : Bool}
theorem e7_c (hi : i < 16) (hix : ix < 2) (hk : ∀ j, j < 11 → M.1 62 j = H.2.1 1 j ∧ M.1 63 j = nI (H.1 6 j)) : cp_127_0 (nI ix) (nI (28 * i)) (mz_sI M 227 (stg i (fun _ => 0) o)) ∧ cf_127_0 (nI ix) (nI (28 * i)) (mz_sI M 227 (stg i (fun _ => 0) o)) = mz_sI M 227 (stg i (kx H 7 ix) o) := by
  show cp_127_3 (nI ix) (nI (28 * i)) 0 (mz_sI M 227 (stg i (fun _ => 0) o)) ∧ cf_127_3 (nI ix) (nI (28 * i)) 0 (mz_sI M 227 (stg i (fun _ => 0) o)) = _
  have hc : ix = 0 ∨ ix = 1 := by omega
  rcases hc with rfl | rfl
  · refine mz_lpn (f := cq_127_3 (nI 0) (nI (28 * i))) (P := cd_127_3 (nI 0) (nI (28 * i))) (Q := fun t => t = mz_sI M 227 (stg i (kx H 7 0) o)) 11 (fun t s => s = (nI t, mz_sI M 227 (stg i (wrd (fun t => (H.2.1 1 t).toInt64) t) o))) ?_ ?_ (Nat.zero_le _) rfl
    · rintro t s ht rfl
      have g3 : mz_gI (mz_sI M 227 (stg i (wrd (fun t => (H.2.1 1 t).toInt64) t) o)) 62 (nI t) = H.2.1 1 t := by rw [rd_s (by decide) (by omega), (hk _ (by omega)).1]
      simp (disch := omega) only [cd_127_3, cq_127_3, cp_127_53, cf_127_53, nI_ltI, nI_0, (show (11 : Int32) = nI 11 from rfl), (show (2 : Int32) = nI 2 from rfl), ht, pk_mul, nI_add, g3, stg_n1, stg_n2, nI_1, ib_i, not_false_eq_true, not_true_eq_false, if_true, if_false, true_implies, false_implies, implies_true, and_true, true_and]
      exact Or.inl ⟨_, rfl, rfl⟩
    · rintro s rfl
      have hlt : ¬ nI 11 < 11 := by decide
      rw [cd_127_3, cq_127_3]
      simp only [hlt, if_false]
      exact ⟨⟨False.elim, fun _ => trivial⟩, _, rfl, rfl⟩
  · refine mz_lpn (f := cq_127_3 (nI 1) (nI (28 * i))) (P := cd_127_3 (nI 1) (nI (28 * i))) (Q := fun t => t = mz_sI M 227 (stg i (kx H 7 1) o)) 11 (fun t s => s = (nI t, mz_sI M 227 (stg i (cut t (H.1 6)) o))) ?_ ?_ (Nat.zero_le _) (by rw [cut_0]; rfl)
    · rintro t s ht rfl
      have g3 : mz_gI (mz_sI M 227 (stg i (cut t (H.1 6)) o)) 63 (nI t) = nI (H.1 6 t) := by rw [rd_s (by decide) (by omega), (hk _ (by omega)).2]
      have h1 : ¬ nI 1 = 0 := by decide
      simp (disch := omega) only [cd_127_3, cq_127_3, cp_127_53, cf_127_53, nI_ltI, h1, (show (11 : Int32) = nI 11 from rfl), ht, nI_add, g3, stg_w, nI_1, ib_i, not_false_eq_true, not_true_eq_false, if_true, if_false, true_implies, false_implies, implies_true, and_true, true_and]
      exact ⟨by omega, Or.inl ⟨_, rfl, by rw [cut_s]⟩⟩
    · rintro s rfl
      have hlt : ¬ nI 11 < 11 := by decide
      rw [cd_127_3, cq_127_3]
      simp only [hlt, if_false]
      exact ⟨⟨False.elim, fun _ => trivial⟩, _, rfl, rfl⟩
theorem e8_c (hi : i < 16) (hix : ix < 10) (h1 : M.1 210 ix = H.2.1 2 ix ∧ M.1 211 ix = H.2.1 3 ix ∧ M.1 212 ix = H.2.1 4 ix) (h2 : M.2 213 ix = H.2.2 0 ix ∧ M.2 214 ix = H.2.2 1 ix) : cp_128_0 (nI ix) (nI (28 * i)) (mz_sI M 227 (stg i (fun _ => 0) o)) ∧ cf_128_0 (nI ix) (nI (28 * i)) (mz_sI M 227 (stg i (fun _ => 0) o)) = mz_sI M 227 (stg i (kx H 8 ix) o) := by
  simp (disch := first | omega | decide) only [cp_128_0, cf_128_0, cp_128_29, cf_128_29, cp_128_65, cf_128_65, (show (4 : Int32) = nI 4 from rfl), (show (8 : Int32) = nI 8 from rfl), (show (16 : Int32) = nI 16 from rfl), (show (20 : Int32) = nI 20 from rfl), (show (24 : Int32) = nI 24 from rfl), nI_add, stg_n1, stg_n2, stg_n10, stg_n20, rd_s, rd_sL, h1, h2, ib_i, not_false_eq_true, not_true_eq_false, if_true, if_false, true_implies, false_implies, implies_true, and_true, true_and]
  exact ⟨by omega, rfl⟩
theorem e9_c (hi : i < 16) (h : M.1 208 0 = H.2.1 5 0 ∧ M.2 208 1 = H.2.2 2 0 ∧ M.2 208 2 = H.2.2 2 1 ∧ M.1 208 3 = H.2.1 5 1 ∧ M.1 208 4 = H.2.1 5 2) : cp_129_0 (nI (28 * i)) (mz_sI M 227 (stg i (fun _ => 0) o)) ∧ cf_129_0 (nI (28 * i)) (mz_sI M 227 (stg i (fun _ => 0) o)) = mz_sI M 227 (stg i (kx H 9 ix) o) := by
  obtain ⟨h1, h2, h3, h4, h5⟩ := h
  have s2 : ∀ f c, (mz_sI M 227 f).2 c = M.2 c := fun f c => rfl
  have s1 : ∀ f, (mz_sI M 227 f).1 208 = M.1 208 := fun f => sI_n (by decide)
  simp (disch := first | omega | decide) only [cp_129_0, cf_129_0, cp_129_24, cf_129_24, cp_129_52, cf_129_52, s1, s2, h1, h2, h3, h4, h5, (show (4 : Int32) = nI 4 from rfl), (show (8 : Int32) = nI 8 from rfl), (show (12 : Int32) = nI 12 from rfl), (show (20 : Int32) = nI 20 from rfl), (show (24 : Int32) = nI 24 from rfl), nI_add, stg_n1, stg_n2, stg_n10, stg_n20, not_false_eq_true, not_true_eq_false, if_true, if_false, true_implies, false_implies, implies_true, and_true, true_and]
  rfl
theorem e11_c (hi : i < 16) (hix : ix < 3) (h : M.1 125 ix = H.2.1 7 ix ∧ M.1 126 ix = H.2.1 8 ix ∧ M.1 127 ix = H.2.1 9 ix ∧ M.1 128 ix = nI (H.1 7 ix)) : cp_131_0 (nI ix) (nI (28 * i)) (mz_sI M 227 (stg i (fun _ => 0) o)) ∧ cf_131_0 (nI ix) (nI (28 * i)) (mz_sI M 227 (stg i (fun _ => 0) o)) = mz_sI M 227 (stg i (kx H 11 ix) o) := by
  obtain ⟨h1, h2, h3, h4⟩ := h
  simp (disch := first | omega | decide) only [cp_131_0, cf_131_0, cp_131_32, cf_131_32, (show (4 : Int32) = nI 4 from rfl), (show (8 : Int32) = nI 8 from rfl), (show (12 : Int32) = nI 12 from rfl), nI_add, stg_n1, stg_n2, stg_n10, stg_n20, stg_w, rd_s, h1, h2, h3, h4, ib_i, not_false_eq_true, not_true_eq_false, if_true, if_false, true_implies, false_implies, implies_true, and_true, true_and]
  exact ⟨by omega, rfl⟩
theorem e12_c (hi : i < 16) (hix : ix < 16) (hb : H.1 8 ix ≤ 1) (h : M.1 123 ix = nI (H.1 8 ix) ∧ (H.1 8 ix = 1 → M.1 118 ix = nI (H.1 9 ix) ∧ M.1 119 ix = nI (H.1 10 ix) ∧ M.1 120 ix = nI (H.1 11 ix) ∧ M.1 121 ix = H.2.1 10 ix ∧ M.1 117 ix = H.2.1 11 ix)) : cp_132_0 (nI ix) (nI (28 * i)) (mz_sI M 227 (stg i (fun _ => 0) o)) ∧ cf_132_0 (nI ix) (nI (28 * i)) (mz_sI M 227 (stg i (fun _ => 0) o)) = mz_sI M 227 (stg i (kx H 12 ix) o) := by
  obtain ⟨h0, h⟩ := h
  have e : kx H 12 ix = if H.1 8 ix = 0 then (fun _ => 0) else pb (pb (up (up (up (up (fun _ => 0) 0 1) 1 (H.1 9 ix)) 2 (H.1 10 ix)) 3 (H.1 11 ix)) 4 4 (H.2.1 10 ix).toInt64) 8 4 (H.2.1 11 ix).toInt64 := rfl
  have g0 : mz_gI (mz_sI M 227 (stg i (fun _ => 0) o)) 123 (nI ix) = nI (H.1 8 ix) := by rw [rd_s (by decide) (by omega), h0]
  have hc : H.1 8 ix = 0 ∨ H.1 8 ix = 1 := by omega
  rw [cp_132_0, cf_132_0, e, g0]
  rcases hc with w | w
  · rw [w, if_pos rfl, if_pos (by decide)]
    exact ⟨⟨ib_n hix (by omega), fun _ => trivial, fun q => absurd nI_0 q⟩, rfl⟩
  · obtain ⟨h1, h2, h3, h4, h5⟩ := h w
    have n1 : ¬ nI 1 = 0 := by decide
    rw [w, if_neg n1, if_neg (by decide)]
    simp (disch := first | omega | decide) only [n1, cp_132_27, cf_132_27, cp_132_53, cf_132_53, cp_132_88, cf_132_88, (show (1 : Int32) = nI 1 from rfl), (show (2 : Int32) = nI 2 from rfl), (show (3 : Int32) = nI 3 from rfl), (show (4 : Int32) = nI 4 from rfl), (show (8 : Int32) = nI 8 from rfl), nI_add, stg_n1, stg_n2, stg_w, stg_w0, rd_s, h1, h2, h3, h4, h5, ib_i, not_false_eq_true, not_true_eq_false, if_true, if_false, true_implies, false_implies, implies_true, and_true, true_and]
    omega
theorem e13_c (hi : i < 16) (hix : ix < 20) (h0 : M.1 101 ix = 1) (h : M.1 102 ix = nI (H.1 13 ix) ∧ M.1 103 ix = nI (H.1 14 ix)) : cp_133_0 (nI ix) (nI (28 * i)) (mz_sI M 227 (stg i (fun _ => 0) o)) ∧ cf_133_0 (nI ix) (nI (28 * i)) (mz_sI M 227 (stg i (fun _ => 0) o)) = mz_sI M 227 (stg i (kx H 13 ix) o) := by
  obtain ⟨h1, h2⟩ := h
  simp (disch := first | omega | decide) only [cp_133_0, cf_133_0, cp_133_20, cf_133_20, rd_s, h0, (show (1 : Int32) = nI 1 from rfl), (show (2 : Int32) = nI 2 from rfl), nI_add, stg_w, stg_w0, rd_s, h1, h2, ib_i, not_false_eq_true, not_true_eq_false, if_true, if_false, true_implies, false_implies, implies_true, and_true, true_and]
  exact ⟨by omega, rfl⟩
theorem e14_c (hi : i < 16) (hix : ix < 40) (h0 : M.1 104 ix = 1) (h : M.1 105 ix = nI (H.1 16 ix) ∧ M.1 106 ix = nI (H.1 17 ix) ∧ M.1 107 ix = nI (H.1 18 ix) ∧ M.1 108 ix = H.2.1 12 ix) : cp_134_0 (nI ix) (nI (28 * i)) (mz_sI M 227 (stg i (fun _ => 0) o)) ∧ cf_134_0 (nI ix) (nI (28 * i)) (mz_sI M 227 (stg i (fun _ => 0) o)) = mz_sI M 227 (stg i (kx H 14 ix) o) := by
  obtain ⟨h1, h2, h3, h4⟩ := h
  simp (disch := first | omega | decide) only [cp_134_0, cf_134_0, cp_134_20, cf_134_20, cp_134_42, cf_134_42, rd_s, h0, (show (1 : Int32) = nI 1 from rfl), (show (2 : Int32) = nI 2 from rfl), (show (3 : Int32) = nI 3 from rfl), (show (4 : Int32) = nI 4 from rfl), nI_add, stg_n1, stg_n2, stg_w, stg_w0, h1, h2, h3, h4, ib_i, not_false_eq_true, not_true_eq_false, if_true, if_false, true_implies, false_implies, implies_true, and_true, true_and]
  exact ⟨by omega, rfl⟩
theorem e15_c (hi : i < 16) (hix : ix < 8) (h0 : M.1 87 ix = 1) (h : M.1 88 ix = nI (H.1 20 ix) ∧ M.1 89 ix = nI (H.1 21 ix)) : cp_135_0 (nI ix) (nI (28 * i)) (mz_sI M 227 (stg i (fun _ => 0) o)) ∧ cf_135_0 (nI ix) (nI (28 * i)) (mz_sI M 227 (stg i (fun _ => 0) o)) = mz_sI M 227 (stg i (kx H 15 ix) o) := by
  obtain ⟨h1, h2⟩ := h
  simp (disch := first | omega | decide) only [cp_135_0, cf_135_0, cp_135_20, cf_135_20, rd_s, h0, (show (1 : Int32) = nI 1 from rfl), (show (2 : Int32) = nI 2 from rfl), nI_add, stg_w, stg_w0, h1, h2, ib_i, not_false_eq_true, not_true_eq_false, if_true, if_false, true_implies, false_implies, implies_true, and_true, true_and]
  exact ⟨by omega, rfl⟩
theorem e10_c (hi : i < 16) (h1 : M.1 210 10 = H.2.1 2 10 ∧ M.1 211 10 = H.2.1 3 10 ∧ M.1 212 10 = H.2.1 4 10) (h2 : ∀ j, j < 4 → M.1 215 j = H.2.1 6 j) : cp_130_0 (nI (28 * i)) (mz_sI M 227 (stg i (fun _ => 0) o)) ∧ cf_130_0 (nI (28 * i)) (mz_sI M 227 (stg i (fun _ => 0) o)) = mz_sI M 227 (stg i (kx H 10 ix) o) := by
  obtain ⟨h1, h3, -⟩ := h1
  have hl : ∀ g : Nat → Nat, cp_130_36 (nI (28 * i)) 0 (mz_sI M 227 (stg i g o)) ∧ cf_130_36 (nI (28 * i)) 0 (mz_sI M 227 (stg i g o)) = mz_sI M 227 (stg i (it (fun t g => pb g (8 + 4 * t) 4 (H.2.1 6 t).toInt64) 4 g) o) := by
    intro g
    refine mz_lpn (f := cq_130_36 (nI (28 * i))) (P := cd_130_36 (nI (28 * i))) (Q := fun t => t = mz_sI M 227 (stg i (it (fun t g => pb g (8 + 4 * t) 4 (H.2.1 6 t).toInt64) 4 g) o)) 4 (fun t s => s = (nI t, mz_sI M 227 (stg i (it (fun t g => pb g (8 + 4 * t) 4 (H.2.1 6 t).toInt64) t g) o))) ?_ ?_ (Nat.zero_le _) rfl
    · rintro t s ht rfl
      have g3 : ∀ f, mz_gI (mz_sI M 227 f) 215 (nI t) = H.2.1 6 t := fun f => by rw [rd_s (by decide) (by omega), h2 _ ht]
      simp (disch := omega) only [cd_130_36, cq_130_36, cp_130_61, cf_130_61, nI_ltI, (show (4 : Int32) = nI 4 from rfl), (show (8 : Int32) = nI 8 from rfl), ht, pk_mul, nI_add, Nat.add_assoc, g3, stg_n1, stg_n2, nI_1, ib_i, not_false_eq_true, not_true_eq_false, if_true, if_false, true_implies, false_implies, implies_true, and_true, true_and]
      exact Or.inl ⟨_, rfl, rfl⟩
    · rintro s rfl
      have hlt : ¬ nI 4 < 4 := by decide
      rw [cd_130_36, cq_130_36]
      simp only [hlt, if_false]
      exact ⟨⟨False.elim, fun _ => trivial⟩, _, rfl, rfl⟩
  have i10 : mz_ib 10 11 := ib_n (k := 10) (by omega) (by omega)
  have k1 : ∀ f, mz_gI (mz_sI M 227 f) 211 10 = H.2.1 3 10 := fun f => by rw [show (10 : Int32) = nI 10 from rfl, rd_s (by decide) (by omega), h3]
  have k2 : ∀ f, mz_gI (mz_sI M 227 f) 210 10 = H.2.1 2 10 := fun f => by rw [show (10 : Int32) = nI 10 from rfl, rd_s (by decide) (by omega), h1]
  simp (disch := first | omega | decide) only [cp_130_0, cf_130_0, cp_130_34, cf_130_34, k1, k2, (show (4 : Int32) = nI 4 from rfl), nI_add, stg_n1, stg_n2, stg_n10, stg_n20, (hl _).1, (hl _).2, i10, not_false_eq_true, not_true_eq_false, if_true, if_false, true_implies, false_implies, implies_true, and_true, true_and]
  rfl
end Enc2
