/-! PURE (50s): drafts and bases when the house begins anew; targets at first. -/
section Brg
variable {N : mz_N} {b : Bool}
/-- the desks have the plan -/
def c_dk3 (M : mz_N) (e : Nat → Int32) : Prop := ∀ u, u < 3 → ∀ j, j < 550 → M.1 (5 + u) j = e j ∧ M.1 (9 + u) j = e j
theorem c_bring {v : Nat} (hv : v < 3) : cp_90_0 (nI v) N ∧ fq [5, 6, 7, 9, 10, 11] [] N (cf_90_0 (nI v) N) ∧ ∀ c j, (cf_90_0 (nI v) N).1 c j = if (c = 5 + v ∨ c = 9 + v) ∧ j < 550 then N.1 3 j else N.1 c j := by
  have ec : (nI v).toNatClampNeg = v := nI_clamp (by omega)
  have i1 : mz_ib (nI v) 3 := ib_n hv (by omega)
  have hk : mz_cpk 0 0 550 550 550 := cpk_n (a := 0) (b := 0) (c := 550) (by omega) (by omega) (by omega) (by omega)
  have m5 : [5, 6, 7, 9, 10, 11].contains (5 + v) = true := by
    have : v = 0 ∨ v = 1 ∨ v = 2 := by omega
    rcases this with w | w | w <;> rw [w] <;> rfl
  have m9 : [5, 6, 7, 9, 10, 11].contains (9 + v) = true := by
    have : v = 0 ∨ v = 1 ∨ v = 2 := by omega
    rcases this with w | w | w <;> rw [w] <;> rfl
  rw [cp_90_0, cf_90_0, ec]
  have e : cf_90_36 (mz_yI (mz_yI N 3 0 (5 + v) 0 550) 3 0 (9 + v) 0 550) = mz_yI (mz_yI N 3 0 (5 + v) 0 550) 3 0 (9 + v) 0 550 := rfl
  rw [e, yI_s, yI_s, show (550 : Int32) = nI 550 from rfl, show (0 : Int32) = nI 0 from rfl, nI_clamp (by omega), nI_clamp (by omega), sI_n (by omega), sI_n (by omega)]
  refine ⟨?_, fq_sI (fq_sI (fq_refl _ _ _) m5) m9, fun c j => ?_⟩
  · exact ⟨i1, i1, trivial⟩
  · by_cases w : c = 9 + v
    · rw [w, sI_e, cpy_a]
      by_cases y : j < 550
      · rw [if_pos (by omega), if_pos ⟨Or.inr rfl, y⟩, Nat.zero_add, Nat.sub_zero]
      · rw [if_neg (by omega), if_neg (fun q => y q.2)]
    · rw [sI_n w]
      by_cases w2 : c = 5 + v
      · rw [w2, sI_e, cpy_a]
        by_cases y : j < 550
        · rw [if_pos (by omega), if_pos ⟨Or.inl rfl, y⟩, Nat.zero_add, Nat.sub_zero]
        · rw [if_neg (by omega), if_neg (fun q => y q.2)]
      · rw [sI_n w2, if_neg (fun q => by omega)]
theorem c_brings : cp_17_151 0 N b ∧ ∃ M, cf_17_151 0 N b = (M, b) ∧ fq [5, 6, 7, 9, 10, 11] [] N M ∧ c_dk3 M (N.1 3) :=
  lp_gen (f := cq_17_151 b) (P := cd_17_151 b) (N := N) 3 [5, 6, 7, 9, 10, 11] [] (fun u M => ∀ j, j < 550 → M.1 (5 + u) j = M.1 3 j ∧ M.1 (9 + u) j = M.1 3 j) (fun r => ∃ M, r = (M, b) ∧ fq [5, 6, 7, 9, 10, 11] [] N M ∧ c_dk3 M (N.1 3)) (fun t M ht => by
    have hlt : nI t < 3 := (nI_ltI (b := 3) (by omega) (by omega)).mpr ht
    obtain ⟨p1, p2, p3⟩ := c_bring (N := M) ht
    rw [cd_17_151, cq_17_151]
    simp only [hlt, if_true, nI_1]
    refine ⟨⟨fun _ => p1, fun w => absurd trivial w⟩, _, rfl, p2, fun j hj => ?_, fun u hu h j hj => ?_⟩
    · have y1 := p3 (5 + t) j
      have y2 := p3 (9 + t) j
      have y3 := p3 3 j
      rw [if_pos ⟨Or.inl rfl, hj⟩] at y1
      rw [if_pos ⟨Or.inr rfl, hj⟩] at y2
      rw [if_neg (by omega)] at y3
      exact ⟨y1.trans y3.symm, y2.trans y3.symm⟩
    · have y1 := p3 (5 + u) j
      have y2 := p3 (9 + u) j
      have y3 := p3 3 j
      rw [if_neg (by omega)] at y1 y2 y3
      rw [y1, y2, y3]; exact h j hj) (fun M h1 h2 => by
    have hlt : ¬ nI 3 < 3 := by decide
    rw [cd_17_151, cq_17_151]
    simp only [hlt, if_false]
    refine ⟨⟨False.elim, fun _ => trivial⟩, _, rfl, M, rfl, h1, fun u hu j hj => ?_⟩
    rw [← h1.1 3 rfl]; exact h2 u hu j hj)
/-- plans of the reference: 0 the plan, 1 .. 3 drafts, 4 .. 6 bases -/
theorem r_copy1 {v : Nat} (hv : v < 8) (hv1 : 1 ≤ v) : cp_426_0 0 (nI v) N ∧ ∃ g, cf_426_0 0 (nI v) N = mz_sI N 233 g ∧ ∀ j, g j = if 550 * v ≤ j ∧ j < 550 * v + 550 then N.1 233 (j - 550 * v) else N.1 233 j := by
  refine mz_lpn (f := cq_426_2 0 (nI v)) (P := cd_426_2 0 (nI v)) (Q := fun t => ∃ g, t = mz_sI N 233 g ∧ ∀ j, g j = if 550 * v ≤ j ∧ j < 550 * v + 550 then N.1 233 (j - 550 * v) else N.1 233 j) 550 (fun t s => ∃ g, s = (nI t, mz_sI N 233 g) ∧ ∀ j, g j = if 550 * v ≤ j ∧ j < 550 * v + t then N.1 233 (j - 550 * v) else N.1 233 j) ?_ ?_ (Nat.zero_le _) ⟨N.1 233, by rw [sI_same]; rfl, fun j => by rw [if_neg (by omega)]⟩
  · rintro t s ht ⟨g, rfl, hg⟩
    have hlt : nI t < 550 := (nI_ltI (b := 550) (by omega) (by omega)).mpr ht
    have e0 : 550 * 0 + nI t = nI t := by rw [show (550 * 0 : Int32) = nI 0 by decide, nI_add, Nat.zero_add]
    have e1 : 550 * nI v + nI t = nI (550 * v + t) := by rw [show (550 : Int32) = nI 550 from rfl, pk_mul, nI_add]
    have g1 : mz_gI (mz_sI N 233 g) 233 (nI t) = N.1 233 t := by rw [gI_a, sI_e, nI_clamp (by omega), hg, if_neg (by omega)]
    rw [cd_426_2, cq_426_2]
    simp only [hlt, if_true, e0, e1, g1, nI_1]
    refine ⟨⟨fun _ => ⟨ib_n (by omega) (by omega), ib_n (by omega) (by omega)⟩, fun w => absurd trivial w⟩, Or.inl ⟨_, rfl, upd g (550 * v + t) (N.1 233 t), ?_, fun j => ?_⟩⟩
    · rw [wI_s, sI_e, sI_sI, nI_clamp (by omega)]
    · rw [up_a, hg]
      by_cases y : j = 550 * v + t
      · rw [if_pos y, if_pos (by omega), y, Nat.add_sub_cancel_left]
      · rw [if_neg y]
        by_cases w : 550 * v ≤ j ∧ j < 550 * v + t
        · rw [if_pos w, if_pos (by omega)]
        · rw [if_neg w, if_neg (by omega)]
  · rintro s ⟨g, rfl, hg⟩
    have hlt : ¬ nI 550 < 550 := by decide
    rw [cd_426_2, cq_426_2]
    simp only [hlt, if_false]
    exact ⟨⟨False.elim, fun _ => trivial⟩, _, rfl, g, rfl, hg⟩
/-- all copies hold the plan -/
def r_dk6 (M : mz_N) (e : Nat → Int32) : Prop := ∀ v, v < 7 → ∀ j, j < 550 → M.1 233 (550 * v + j) = e j
theorem r_brings (he : ∀ M, fq [233] [] N M → (∀ v, v < 7 → ∀ j, j < 550 → M.1 233 (550 * v + j) = N.1 233 j) → cp_427_0 M ∧ cp_437_0 (cf_427_0 M) ∧ cp_438_0 (cf_437_0 (cf_427_0 M)) ∧ cp_414_98 0 (mz_pL (cf_438_0 (cf_437_0 (cf_427_0 M))) 232 87 0)) :
    cp_414_61 1 N ∧ ∃ M, cf_414_61 1 N = cf_414_98 0 (mz_pL (cf_438_0 (cf_437_0 (cf_427_0 M))) 232 87 0) ∧ fq [233] [] N M ∧ ∀ v, v < 7 → ∀ j, j < 550 → M.1 233 (550 * v + j) = N.1 233 j := by
  refine mz_lpn (f := cq_414_61) (P := cd_414_61) (Q := fun t => ∃ M, t = cf_414_98 0 (mz_pL (cf_438_0 (cf_437_0 (cf_427_0 M))) 232 87 0) ∧ fq [233] [] N M ∧ ∀ v, v < 7 → ∀ j, j < 550 → M.1 233 (550 * v + j) = N.1 233 j) 7 (fun t s => 1 ≤ t ∧ ∃ M, s = (nI t, M) ∧ fq [233] [] N M ∧ ∀ v, v < t → ∀ j, j < 550 → M.1 233 (550 * v + j) = N.1 233 j) ?_ ?_ (show 1 ≤ 7 by omega) ⟨Nat.le_refl _, N, rfl, fq_refl _ _ _, fun v hv j hj => by rw [show v = 0 by omega, Nat.mul_zero, Nat.zero_add]⟩
  · rintro t s ht ⟨h0, M, rfl, h1, h2⟩
    have hlt : nI t < 7 := (nI_ltI (b := 7) (by omega) (by omega)).mpr ht
    obtain ⟨p1, g, p2, p3⟩ := r_copy1 (N := M) (v := t) (by omega) h0
    rw [cd_414_61, cq_414_61]
    simp only [hlt, if_true, nI_1, p2]
    refine ⟨⟨fun _ => p1, fun w => absurd trivial w⟩, Or.inl ⟨_, rfl, by omega, _, rfl, fq_sI h1 rfl, fun v hv j hj => ?_⟩⟩
    rw [sI_e, p3]
    by_cases w : v = t
    · rw [if_pos (by omega), w, Nat.add_sub_cancel_left]
      have := h2 0 (by omega) j hj
      rw [Nat.mul_zero, Nat.zero_add] at this
      exact this
    · rw [if_neg (by omega)]; exact h2 v (by omega) j hj
  · rintro s ⟨h0, M, rfl, h1, h2⟩
    have hlt : ¬ nI 7 < 7 := by decide
    have hE := he M h1 h2
    rw [cd_414_61, cq_414_61]
    simp only [hlt, if_false]
    exact ⟨⟨False.elim, fun _ => hE⟩, _, rfl, M, rfl, h1, h2⟩
end Brg
