/-! PURE (20): kinds and indices of keys. -/
def FK (j : Nat) : Nat := [0, 5, 10, 20, 22, 26, 34, 36, 46, 47, 48, 51, 67, 87, 127, 135].getD j 135
def kdk (k : Nat) : Nat := if k < 5 then 1 else if k < 10 then 2 else if k < 20 then 3 else if k < 22 then 4 else if k < 26 then 5 else if k < 34 then 6 else if k < 36 then 7 else if k < 46 then 8 else if k < 47 then 9 else if k < 48 then 10 else if k < 51 then 11 else if k < 67 then 12 else if k < 87 then 13 else if k < 127 then 14 else 15
def ixk (k : Nat) : Nat := k - FK (kdk k - 1)
theorem FK_xk : ∀ j, j < 16 → mz_xk (nI j) = nI (FK j) ∧ cf_420_0 (nI (j + 1)) = nI (FK j) ∧ FK j ≤ 135 := by decide +kernel
theorem kdk_ok : ∀ k, k < 135 → 1 ≤ kdk k ∧ kdk k ≤ 15 ∧ k < FK (kdk k) ∧ FK (kdk k - 1) ≤ k ∧ ixk k < 40 ∧ ∀ j, j < kdk k → FK j ≤ k := by decide +kernel
theorem kd_c {k : Nat} (hk : k < 135) : cp_55_0 (nI k) ∧ cf_55_0 (nI k) = nI (kdk k) := by
  obtain ⟨k1, k2, k3, k4, k5, k6⟩ := kdk_ok k hk
  refine mz_lpn (f := cq_55_2 (nI k)) (P := cd_55_2 (nI k)) (Q := fun t => t = nI (kdk k)) (kdk k) (fun t s => s = nI t ∧ 1 ≤ t) ?_ ?_ (k := 1) k1 ⟨rfl, Nat.le_refl _⟩
  · rintro t s ht ⟨rfl, h1⟩
    obtain ⟨x1, x2, x3⟩ := FK_xk t (by omega)
    have := k6 t ht
    simp (disch := omega) only [cd_55_2, cq_55_2, nI_ltI, (show (15 : Int32) = nI 15 from rfl), show t < 15 by omega, x1, show ¬ k < FK t by omega, nI_1, ib_i, not_false_eq_true, not_true_eq_false, if_true, if_false, true_implies, false_implies, implies_true, and_true, true_and]
    exact ⟨by omega, Or.inl ⟨_, rfl, rfl, by omega⟩⟩
  · rintro s ⟨rfl, h1⟩
    obtain ⟨x1, x2, x3⟩ := FK_xk (kdk k) (by omega)
    by_cases h15 : kdk k = 15
    · rw [h15]
      simp (disch := omega) only [cd_55_2, cq_55_2, nI_ltI, (show (15 : Int32) = nI 15 from rfl), Nat.lt_irrefl, not_false_eq_true, not_true_eq_false, if_true, if_false, true_implies, false_implies, implies_true, and_true, true_and]
      exact ⟨_, rfl, rfl⟩
    · simp (disch := omega) only [cd_55_2, cq_55_2, nI_ltI, (show (15 : Int32) = nI 15 from rfl), show kdk k < 15 by omega, x1, k3, ib_i, not_false_eq_true, not_true_eq_false, if_true, if_false, true_implies, false_implies, implies_true, and_true, true_and]
      exact ⟨by omega, _, rfl, rfl⟩
theorem ix_c {k : Nat} (hk : k < 135) : cp_56_0 (nI k) ∧ cf_56_0 (nI k) = nI (ixk k) := by
  obtain ⟨k1, k2, k3, k4, k5, k6⟩ := kdk_ok k hk
  obtain ⟨p1, e1⟩ := kd_c hk
  obtain ⟨x1, x2, x3⟩ := FK_xk (kdk k - 1) (by omega)
  have e2 : nI (kdk k) - 1 = nI (kdk k - 1) := by rw [show (1 : Int32) = nI 1 from rfl, pk_sub k1]
  rw [cp_56_0, cf_56_0, e1, e2, x1, pk_sub k4]
  refine ⟨⟨p1, ?_⟩, rfl⟩
  simp (disch := omega) only [ib_i]
  omega
theorem kd_r {k : Nat} (hk : k < 135) : cp_419_0 (nI k) ∧ cf_419_0 (nI k) = nI (kdk k) := by
  obtain ⟨k1, k2, k3, k4, k5, k6⟩ := kdk_ok k hk
  refine mz_lpn (f := cq_419_2 (nI k)) (P := cd_419_2 (nI k)) (Q := fun t => t = nI (kdk k)) (kdk k) (fun t s => s = nI t ∧ 1 ≤ t) ?_ ?_ (k := 1) k1 ⟨rfl, Nat.le_refl _⟩
  · rintro t s ht ⟨rfl, h1⟩
    obtain ⟨x1, x2, x3⟩ := FK_xk t (by omega)
    have := k6 t ht
    simp (disch := omega) only [cd_419_2, cq_419_2, nI_1, x2, nI_ltI, show ¬ k < FK t by omega, not_false_eq_true, not_true_eq_false, if_true, if_false, true_implies, false_implies, implies_true, and_true, true_and]
    exact Or.inl ⟨_, rfl, rfl, by omega⟩
  · rintro s ⟨rfl, h1⟩
    obtain ⟨x1, x2, x3⟩ := FK_xk (kdk k) (by omega)
    simp (disch := omega) only [cd_419_2, cq_419_2, nI_1, x2, nI_ltI, k3, not_false_eq_true, not_true_eq_false, if_true, if_false, true_implies, false_implies, implies_true, and_true, true_and]
    exact ⟨_, rfl, rfl⟩
theorem ix_r {k : Nat} (hk : k < 135) : nI k - cf_420_0 (nI (kdk k)) = nI (ixk k) := by
  obtain ⟨k1, k2, k3, k4, k5, k6⟩ := kdk_ok k hk
  obtain ⟨x1, x2, x3⟩ := FK_xk (kdk k - 1) (by omega)
  rw [show kdk k = kdk k - 1 + 1 by omega, x2, pk_sub (by simpa using k4)]
  rfl
/-- the key of a kind and an index (135: none) -/
def kyo (kd ix : Nat) : Nat := if 1 ≤ kd ∧ kd ≤ 15 ∧ FK (kd - 1) + ix < FK kd then FK (kd - 1) + ix else 135
theorem kyo_c {kd ix : Nat} (h1 : kd < 2 ^ 30) (h2 : ix < 2 ^ 30) : cp_98_0 (nI kd) (nI ix) ∧ cf_98_0 (nI kd) (nI ix) = nO 135 (kyo kd ix) := by
  unfold kyo
  by_cases a1 : kd < 1
  · simp (disch := omega) only [cp_98_0, cf_98_0, nI_ltI, (show (1 : Int32) = nI 1 from rfl), a1, show ¬ 1 ≤ kd by omega, false_and, not_false_eq_true, not_true_eq_false, if_true, if_false, true_implies, false_implies, implies_true, and_true, true_and]
    rfl
  · by_cases a2 : 15 < kd
    · simp (disch := omega) only [cp_98_0, cf_98_0, nI_ltI, (show (1 : Int32) = nI 1 from rfl), (show (15 : Int32) = nI 15 from rfl), a1, a2, show ¬ kd ≤ 15 by omega, false_and, and_false, not_false_eq_true, not_true_eq_false, if_true, if_false, true_implies, false_implies, implies_true, and_true, true_and]
      rfl
    · obtain ⟨x1, -, x3⟩ := FK_xk kd (by omega)
      obtain ⟨y1, -, y3⟩ := FK_xk (kd - 1) (by omega)
      by_cases a3 : FK (kd - 1) + ix < FK kd
      · simp (disch := omega) only [cp_98_0, cf_98_0, nI_ltI, (show (1 : Int32) = nI 1 from rfl), (show (15 : Int32) = nI 15 from rfl), a1, a2, nI_lt0, pk_sub, x1, y1, nI_add, a3, ib_i, show 1 ≤ kd by omega, show kd ≤ 15 by omega, nO_lt (show FK (kd - 1) + ix < 135 by omega), not_false_eq_true, not_true_eq_false, if_true, if_false, true_implies, false_implies, implies_true, and_true, true_and]
        omega
      · simp (disch := omega) only [cp_98_0, cf_98_0, nI_ltI, (show (1 : Int32) = nI 1 from rfl), (show (15 : Int32) = nI 15 from rfl), a1, a2, nI_lt0, pk_sub, x1, y1, nI_add, a3, ib_i, and_false, nO_ge (Nat.lt_irrefl 135), not_false_eq_true, not_true_eq_false, if_true, if_false, true_implies, false_implies, implies_true, and_true, true_and]
        omega
theorem kyo_r {kd ix : Nat} (h1 : kd < 2 ^ 30) (h2 : ix < 2 ^ 30) : cp_473_0 (nI kd) (nI ix) ∧ cf_473_0 (nI kd) (nI ix) = nO 135 (kyo kd ix) := by
  unfold kyo
  by_cases a1 : kd < 1
  · simp (disch := omega) only [cp_473_0, cf_473_0, nI_ltI, (show (1 : Int32) = nI 1 from rfl), a1, show ¬ 1 ≤ kd by omega, false_and, not_false_eq_true, not_true_eq_false, if_true, if_false, true_implies, false_implies, implies_true, and_true, true_and]
    rfl
  · by_cases a2 : 15 < kd
    · simp (disch := omega) only [cp_473_0, cf_473_0, nI_ltI, (show (1 : Int32) = nI 1 from rfl), (show (15 : Int32) = nI 15 from rfl), a1, a2, show ¬ kd ≤ 15 by omega, false_and, and_false, not_false_eq_true, not_true_eq_false, if_true, if_false, true_implies, false_implies, implies_true, and_true, true_and]
      rfl
    · obtain ⟨-, x1, x3⟩ := FK_xk kd (by omega)
      obtain ⟨-, y1, y3⟩ := FK_xk (kd - 1) (by omega)
      rw [show kd - 1 + 1 = kd by omega] at y1
      by_cases a3 : FK (kd - 1) + ix < FK kd
      · simp (disch := omega) only [cp_473_0, cf_473_0, nI_ltI, (show (1 : Int32) = nI 1 from rfl), (show (15 : Int32) = nI 15 from rfl), a1, a2, nI_add, x1, y1, a3, show 1 ≤ kd by omega, show kd ≤ 15 by omega, nO_lt (show FK (kd - 1) + ix < 135 by omega), not_false_eq_true, not_true_eq_false, if_true, if_false, true_implies, false_implies, implies_true, and_true, true_and]
      · simp (disch := omega) only [cp_473_0, cf_473_0, nI_ltI, (show (1 : Int32) = nI 1 from rfl), (show (15 : Int32) = nI 15 from rfl), a1, a2, nI_add, x1, y1, a3, and_false, nO_ge (Nat.lt_irrefl 135), not_false_eq_true, not_true_eq_false, if_true, if_false, true_implies, false_implies, implies_true, and_true, true_and]
theorem kyo_of : ∀ k, k < 135 → kyo (kdk k) (ixk k) = k := by decide +kernel
theorem kyo_inv {kd ix : Nat} (h : kyo kd ix < 135) : kdk (kyo kd ix) = kd ∧ ixk (kyo kd ix) = ix := by
  have key : ∀ kd, kd < 16 → ∀ ix, ix < 40 → kyo kd ix < 135 → kdk (kyo kd ix) = kd ∧ ixk (kyo kd ix) = ix := by decide +kernel
  have hkd : kd < 16 := by
    unfold kyo at h
    split at h
    · omega
    · omega
  have hix : ix < 40 := by
    have b : ∀ kd, kd < 16 → 1 ≤ kd → FK kd ≤ FK (kd - 1) + 40 := by decide +kernel
    unfold kyo at h
    split at h
    · rename_i q; have := b kd hkd q.1; omega
    · omega
  exact key kd hkd ix hix h
