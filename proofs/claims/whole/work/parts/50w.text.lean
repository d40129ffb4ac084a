/-! PURE (50w): the class finds its program's text among the keys. -/
section Txt
variable {N : mz_N} {D : Kp} {q : Nat}
/-- characters that may stand in a program -/
def txo (D : Kp) : Prop := ∀ j, j < D.1 5 0 → 32 ≤ D.1 4 j ∧ D.1 4 j ≤ 126
/-- the text's keys in a table -/
def tx3 (a q : Nat) (N : mz_N) (D : Kp) : Prop := (∀ j, j < 196 → N.1 a (q + j) = nI (D.1 4 j)) ∧ N.1 a (q + 196) = nI (D.1 5 0) ∧ ∀ j, 1 ≤ j → j < 28 → N.1 a (q + 196 + j) = 0
theorem find_c {a : Nat} (ha : a ≠ 55) (hq : q + 224 ≤ 3780) (hb : kpb D) (hx : txo D) (h : tx3 a q N D) : cp_74_0 a (nI q) N ∧ ∃ f, cf_74_0 a (nI q) N = (true, mz_pI (mz_sI N 55 f) 41 9 (nI (D.1 5 0))) ∧ ∀ j, j < 196 → f j = nI (D.1 4 j) := by
  obtain ⟨-, -, -, -, b5, b4, bz, -⟩ := hb
  obtain ⟨h1, h2, h3⟩ := h
  have e196 : nI q + 196 = nI (q + 196) := nI_add _ _
  have gl : mz_gI N a (nI (q + 196)) = nI (D.1 5 0) := by rw [gI_a, nI_clamp (by omega)]; exact h2
  have i196 : mz_ib (nI (q + 196)) 3780 := ib_n (by omega) (by omega)
  have hle : ¬ 196 < nI (D.1 5 0) := fun w => by have := (nI_ltI (a := 196) (by omega) (by omega)).mp w; omega
  -- the rest of the length's row is blank
  have hbl : cp_75_0 a (nI (q + 196)) 1 N ∧ cf_75_0 a (nI (q + 196)) 1 N = true := by
    refine mz_lpn (f := cq_75_2 a (nI (q + 196)) N) (P := cd_75_2 a (nI (q + 196)) N) (Q := fun t => t = true) 28 (fun t s => 1 ≤ t ∧ s = nI t) ?_ ?_ (show 1 ≤ 28 by omega) ⟨Nat.le_refl _, rfl⟩
    · rintro t s ht ⟨h0, rfl⟩
      have hlt : nI t < 28 := (nI_ltI (b := 28) (by omega) (by omega)).mpr ht
      have g1 : mz_gI N a (nI (q + 196 + t)) = 0 := by rw [gI_a, nI_clamp (by omega)]; exact h3 t h0 ht
      have i1 : mz_ib (nI (q + 196 + t)) 3780 := ib_n (by omega) (by omega)
      rw [cd_75_2, cq_75_2]
      simp only [hlt, if_true, nI_add, g1, nI_1]
      refine ⟨?_, Or.inl ⟨_, rfl, by omega, rfl⟩⟩
      first | exact ⟨fun _ => ⟨i1, fun _ => trivial, fun w => absurd trivial w⟩, fun w => absurd trivial w⟩ | exact ⟨fun _ => i1, fun w => absurd trivial w⟩
    · rintro s ⟨h0, rfl⟩
      have hlt : ¬ nI 28 < 28 := by decide
      rw [cd_75_2, cq_75_2]
      simp only [hlt, if_false]
      exact ⟨⟨False.elim, fun _ => trivial⟩, _, rfl, rfl⟩
  have key : cp_74_33 a (nI q) (nI (D.1 5 0)) 0 N ∧ ∃ f, cf_74_33 a (nI q) (nI (D.1 5 0)) 0 N = (true, mz_pI (mz_sI N 55 f) 41 9 (nI (D.1 5 0))) ∧ ∀ j, j < 196 → f j = nI (D.1 4 j) := by
    refine mz_lpn (f := cq_74_33 a (nI q) (nI (D.1 5 0))) (P := cd_74_33 a (nI q) (nI (D.1 5 0))) (Q := fun t => ∃ f, t = (true, mz_pI (mz_sI N 55 f) 41 9 (nI (D.1 5 0))) ∧ ∀ j, j < 196 → f j = nI (D.1 4 j)) 196 (fun t s => ∃ f, s = (nI t, mz_sI N 55 f) ∧ ∀ j, j < t → f j = nI (D.1 4 j)) ?_ ?_ (Nat.zero_le _) ⟨N.1 55, by rw [sI_same]; rfl, fun j hj => by omega⟩
    · rintro t s ht ⟨f, rfl, hf⟩
      have hlt : nI t < 196 := (nI_ltI (b := 196) (by omega) (by omega)).mpr ht
      have g1 : mz_gI (mz_sI N 55 f) a (nI (q + t)) = nI (D.1 4 t) := by rw [gI_a, sI_n ha, nI_clamp (by omega)]; exact h1 t ht
      have i1 : mz_ib (nI (q + t)) 3780 := ib_n (by omega) (by omega)
      have i2 : mz_ib (nI t) 196 := ib_n ht (by omega)
      have b4t := b4 t
      have hw : ∃ f2, mz_wI (mz_sI N 55 f) 55 (nI t) (nI (D.1 4 t)) = mz_sI N 55 f2 ∧ ∀ j, j < t + 1 → f2 j = nI (D.1 4 j) := by
        refine ⟨upd f t (nI (D.1 4 t)), by rw [wI_s, sI_e, sI_sI, nI_clamp (by omega)], fun j hj => ?_⟩
        rw [up_a]
        by_cases y : j = t
        · rw [if_pos y, y]
        · rw [if_neg y]; exact hf j (by omega)
      obtain ⟨f2, w1, w2⟩ := hw
      rw [cd_74_33, cq_74_33]
      simp only [hlt, if_true, nI_add, g1, cp_74_79, cf_74_79, nI_1, w1]
      by_cases w : t < D.1 5 0
      · have w' : nI t < nI (D.1 5 0) := (nI_ltI (by omega) (by omega)).mpr w
        obtain ⟨c1, c2⟩ := hx t w
        have c1' : ¬ nI (D.1 4 t) < 32 := fun z => by have := (nI_ltI (b := 32) (by omega) (by omega)).mp z; omega
        have c2' : ¬ 126 < nI (D.1 4 t) := fun z => by have := (nI_ltI (a := 126) (by omega) (by omega)).mp z; omega
        simp only [w', c1', c2', if_true, if_false]
        refine ⟨?_, Or.inl ⟨_, rfl, f2, rfl, w2⟩⟩
        simp only [i1, i2, true_implies, false_implies, not_true_eq_false, not_false_eq_true, and_true, implies_true]
      · have w' : ¬ nI t < nI (D.1 5 0) := fun z => w ((nI_ltI (by omega) (by omega)).mp z)
        have c0 : D.1 4 t = 0 := bz t (by omega)
        have c0' : nI (D.1 4 t) = 0 := by rw [c0]; rfl
        have c0z : nI 0 = 0 := rfl
        simp only [w', c0, c0z, if_true, if_false]
        refine ⟨?_, Or.inl ⟨_, rfl, f2, rfl, w2⟩⟩
        simp only [i1, i2, true_implies, false_implies, not_true_eq_false, not_false_eq_true, and_true, implies_true]
    · rintro s ⟨f, rfl, hf⟩
      have hlt : ¬ nI 196 < 196 := by decide
      rw [cd_74_33, cq_74_33]
      simp only [hlt, if_false]
      exact ⟨⟨False.elim, fun _ => trivial⟩, _, rfl, f, rfl, hf⟩
  rw [cp_74_0, cf_74_0, e196, gl, if_neg hle, if_pos hbl.2]
  refine ⟨?_, key.2⟩
  simp only [i196, hle, hbl.1, hbl.2, key.1, true_implies, false_implies, not_true_eq_false, not_false_eq_true, and_true, true_and, implies_true]
end Txt
