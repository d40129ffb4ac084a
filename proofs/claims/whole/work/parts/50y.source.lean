/-! PURE (50y): the reference takes the program's text to be read. -/
section Src
variable {N : mz_N} {n : Nat} {tx : Nat → Nat}
/-- the reference's text to be read -/
def r_sc (N K : mz_N) (n : Nat) (tx : Nat → Nat) : Prop := fq [232, 338] [] N K ∧ K.1 232 = upd (N.1 232) 147 (nI n) ∧ ∀ j, j < n → K.1 338 j = nI (tx j)
theorem r_src (h27 : N.1 232 27 = nI n) (hn : n ≤ 196) (h : ∀ j, j < n → N.1 252 j = nI (tx j)) (he : ∀ K, r_sc N K n tx → cp_439_0 K) : cp_438_0 N ∧ ∃ K, cf_438_0 N = (cf_439_0 K).2 ∧ r_sc N K n tx := by
  rw [cp_438_0, cf_438_0, h27]
  have e27 : ∀ g, (mz_sI (mz_pI N 232 147 (nI n)) 338 g).1 232 27 = nI n := fun g => by
    rw [sI_n (by decide), pI_s, sI_e, up_a, if_neg (by decide)]; exact h27
  refine mz_lpn (f := cq_438_10) (P := cd_438_10) (Q := fun t => ∃ K, t = (cf_439_0 K).2 ∧ r_sc N K n tx) n (fun t s => ∃ g, s = (nI t, mz_sI (mz_pI N 232 147 (nI n)) 338 g) ∧ ∀ j, j < t → g j = nI (tx j)) ?_ ?_ (Nat.zero_le _) ⟨(mz_pI N 232 147 (nI n)).1 338, by rw [sI_same]; rfl, fun j hj => by omega⟩
  · rintro t s ht ⟨g, rfl, hg⟩
    have hlt : nI t < nI n := (nI_ltI (by omega) (by omega)).mpr ht
    have i1 : mz_ib (nI t) 196 := ib_n (by omega) (by omega)
    have g1 : mz_gI (mz_sI (mz_pI N 232 147 (nI n)) 338 g) 252 (nI t) = nI (tx t) := by
      rw [gI_a, sI_n (by decide), pI_s, sI_n (by decide), nI_clamp (by omega)]; exact h t ht
    rw [cd_438_10, cq_438_10]
    simp only [e27, hlt, if_true, g1, nI_1]
    refine ⟨⟨fun _ => ⟨i1, i1⟩, fun w => absurd trivial w⟩, Or.inl ⟨_, rfl, upd g t (nI (tx t)), ?_, fun j hj => ?_⟩⟩
    · rw [wI_s, sI_e, sI_sI, nI_clamp (by omega)]
    · rw [up_a]
      by_cases y : j = t
      · rw [if_pos y, y]
      · rw [if_neg y]; exact hg j (by omega)
  · rintro s ⟨g, rfl, hg⟩
    have hlt : ¬ nI n < nI n := fun w => by have := (nI_ltI (by omega) (by omega)).mp w; omega
    have hK : r_sc N (mz_sI (mz_pI N 232 147 (nI n)) 338 g) n tx := ⟨fq_sI (fq_pI (fq_refl _ _ _) rfl) rfl, by rw [sI_n (by decide), pI_s, sI_e], fun j hj => by rw [sI_e]; exact hg j hj⟩
    rw [cd_438_10, cq_438_10]
    simp only [e27, hlt, if_false]
    exact ⟨⟨False.elim, fun _ => he _ hK⟩, _, rfl, _, rfl, hK⟩
end Src
