/-! PURE (50zzzzzzp): are there parts for one more ticket of a kind. -/
def tkW (N1 N2 : mz_N) (t kd : Nat → Nat) (wk : Nat → Int32) : Prop := (∀ j, j < 16 → N1.1 123 j = nI (t j) ∧ (t j = 1 → N1.1 120 j = nI (kd j) ∧ N1.1 122 j = wk j)) ∧ (∀ j, j < 16 → N2.1 287 j = nI (t j) ∧ (t j = 1 → N2.1 290 j = nI (kd j) ∧ N2.1 293 j = wk j)) ∧ (∀ j, t j ≤ 1) ∧ (∀ j, j < 16 → t j = 1 → kd j ≤ 3) ∧ (∀ j, j < 16 → t j = 1 → wk j = -1 ∨ ¬ wk j < 0)
theorem tkW.c {N1 N2 : mz_N} {t kd : Nat → Nat} {wk : Nat → Int32} (h : tkW N1 N2 t kd wk) : ∀ j, j < 16 → N1.1 123 j = nI (t j) ∧ (t j = 1 → N1.1 120 j = nI (kd j) ∧ N1.1 122 j = wk j) := h.1
theorem tkW.r {N1 N2 : mz_N} {t kd : Nat → Nat} {wk : Nat → Int32} (h : tkW N1 N2 t kd wk) : ∀ j, j < 16 → N2.1 287 j = nI (t j) ∧ (t j = 1 → N2.1 290 j = nI (kd j) ∧ N2.1 293 j = wk j) := h.2.1
theorem tkW.b {N1 N2 : mz_N} {t kd : Nat → Nat} {wk : Nat → Int32} (h : tkW N1 N2 t kd wk) : ∀ j, t j ≤ 1 := h.2.2.1
theorem tkW.k {N1 N2 : mz_N} {t kd : Nat → Nat} {wk : Nat → Int32} (h : tkW N1 N2 t kd wk) : ∀ j, j < 16 → t j = 1 → kd j ≤ 3 := h.2.2.2.1
theorem tkW.w {N1 N2 : mz_N} {t kd : Nat → Nat} {wk : Nat → Int32} (h : tkW N1 N2 t kd wk) : ∀ j, j < 16 → t j = 1 → wk j = -1 ∨ ¬ wk j < 0 := h.2.2.2.2
section Stk
variable {N1 N2 : mz_N} {t kd : Nat → Nat} {wk : Nat → Int32} {k : Nat}
theorem stk_l (h : tkW N1 N2 t kd wk) (hk : k < 3) : cp_340_11 (nI k) 0 0 N1 ∧ cp_566_0 (nI k) N2 ∧ ∃ c, c ≤ 16 ∧ cf_566_0 (nI k) N2 = nI c ∧ cf_340_11 (nI k) 0 0 N1 = decide (nI c < mz_gI N1 127 (nI k)) := by
  rw [cp_340_11, cf_340_11, cp_566_0, cf_566_0, cp_566_4, cf_566_4]
  have key := mz_lp2n (f := cq_340_11 (nI k) N1) (P := cd_340_11 (nI k) N1) (g := cq_566_4 (nI k) N2) (P2 := cd_566_4 (nI k) N2) (Q := fun (r1 : Bool) (r2 : Int32) => ∃ c, c ≤ 16 ∧ r2 = nI c ∧ r1 = decide (nI c < mz_gI N1 127 (nI k))) 16 (fun i s1 s2 => ∃ c, c ≤ i ∧ s1 = (nI c, nI i) ∧ s2 = (nI c, nI i)) (k := 0) (s := (0, 0)) (s2 := (0, 0)) ?_ ?_ (Nat.zero_le _) ⟨0, Nat.le_refl _, rfl, rfl⟩
  · exact key
  · rintro i s1 s2 hi ⟨c, hc, rfl, rfl⟩
    have l : nI i < 16 := (nI_ltI (b := 16) (by omega) (by omega)).mpr hi
    have ib : mz_ib (nI i) 16 := ib_n hi (by omega)
    have ti := h.b i
    have g123 : mz_gI N1 123 (nI i) = nI (t i) := by rw [gI_a, nI_clamp (by omega)]; exact (h.c i hi).1
    have g287 : mz_gI N2 287 (nI i) = nI (t i) := by rw [gI_a, nI_clamp (by omega)]; exact (h.r i hi).1
    have q1 : (nI (t i) = 1) = (t i = 1) := propext (nI_eq (b := 1) (by omega) (by omega))
    have z01 : mz_z01 (nI (t i)) := by rcases (show t i = 0 ∨ t i = 1 by omega) with w | w <;> rw [w] <;> first | exact Or.inl rfl | exact Or.inr rfl
    have gz : mz_gZ N2 287 (nI i) = decide (t i = 1) := by
      rw [gZ_a, nI_clamp (by omega), (h.r i hi).1]
      rcases (show t i = 0 ∨ t i = 1 by omega) with w | w <;> rw [w] <;> rfl
    have n0 : ∃ c', c' ≤ i + 1 ∧ (nI c, nI i + 1) = (nI c', nI (i + 1)) ∧ (nI c + 0, nI i + 1) = (nI c', nI (i + 1)) := ⟨c, by omega, by rw [nI_1], by rw [nI_1, Int32.add_zero]⟩
    have n1 : ∃ c', c' ≤ i + 1 ∧ (nI c + 1, nI i + 1) = (nI c', nI (i + 1)) ∧ (nI c + 1, nI i + 1) = (nI c', nI (i + 1)) := ⟨c + 1, by omega, by rw [nI_1, nI_1], by rw [nI_1, nI_1]⟩
    rw [cd_340_11, cq_340_11, cd_566_4, cq_566_4]
    simp only [l, if_true, g123, g287, q1, gz]
    by_cases w : t i = 1
    · obtain ⟨e1, e2⟩ := (h.c i hi).2 w
      obtain ⟨e3, e4⟩ := (h.r i hi).2 w
      have k3 := h.k i hi w
      have g120 : mz_gI N1 120 (nI i) = nI (kd i) := by rw [gI_a, nI_clamp (by omega)]; exact e1
      have g122 : mz_gI N1 122 (nI i) = wk i := by rw [gI_a, nI_clamp (by omega)]; exact e2
      have g290 : mz_gI N2 290 (nI i) = nI (kd i) := by rw [gI_a, nI_clamp (by omega)]; exact e3
      have g293 : mz_gI N2 293 (nI i) = wk i := by rw [gI_a, nI_clamp (by omega)]; exact e4
      simp only [g120, g122, g290, g293]
      rw [if_pos w, if_pos (show decide (t i = 1) = true from decide_eq_true w)]
      refine ⟨⟨fun _ => ⟨ib, fun _ => ⟨ib, fun _ => ⟨ib, fun _ => trivial, fun _ => trivial⟩, fun _ => trivial⟩, fun _ => trivial⟩, fun z => absurd trivial z⟩, ⟨fun _ => ⟨ib, z01, fun _ => ⟨ib, fun _ => ⟨ib, fun _ => trivial, fun _ => trivial⟩, fun _ => trivial⟩, fun _ => trivial⟩, fun z => absurd trivial z⟩, Or.inl ?_⟩
      by_cases y : nI (kd i) = nI k
      · rw [if_pos y, if_pos y]
        rcases h.w i hi w with u | u
        · rw [u, if_pos rfl, if_pos (show (-1 : Int32) < 0 by decide)]
          exact ⟨_, _, rfl, rfl, n0⟩
        · have ne : ¬ wk i = -1 := fun z => by rw [z] at u; exact u (by decide)
          rw [if_neg ne, if_neg u]
          exact ⟨_, _, rfl, rfl, n1⟩
      · rw [if_neg y, if_neg y]; exact ⟨_, _, rfl, rfl, n0⟩
    · rw [if_neg w, if_neg (show ¬ decide (t i = 1) = true from fun z => w (of_decide_eq_true z))]
      exact ⟨⟨fun _ => ⟨ib, fun z => absurd z w, fun _ => trivial⟩, fun z => absurd trivial z⟩, ⟨fun _ => ⟨ib, z01, fun z => absurd (of_decide_eq_true z) w, fun _ => trivial⟩, fun z => absurd trivial z⟩, Or.inl ⟨_, _, rfl, rfl, n0⟩⟩
  · rintro s1 s2 ⟨c, hc, rfl, rfl⟩
    have l : ¬ nI 16 < 16 := by decide
    rw [cd_340_11, cq_340_11, cd_566_4, cq_566_4]
    simp only [l, if_false]
    refine ⟨⟨False.elim, fun _ => ib_n hk (by omega)⟩, ⟨False.elim, fun _ => trivial⟩, ?_⟩
    by_cases w : nI c < mz_gI N1 127 (nI k)
    · rw [if_pos w]; exact ⟨_, _, rfl, rfl, c, hc, rfl, (decide_eq_true w).symm⟩
    · rw [if_neg w]; exact ⟨_, _, rfl, rfl, c, hc, rfl, (decide_eq_false w).symm⟩
end Stk
