/-! PURE (50zzzzzzzq): put: a reel's keys are copied. -/
section Cy
variable {N K : mz_N} {kt : Nat → Bool} {kb : Nat → Nat → Nat}
theorem c407 (K : mz_N) : ∃ f g, cf_407_0 K = mz_sI (mz_sI K 223 f) 224 g ∧ (∀ j, j < 3780 → f j = K.1 230 j) ∧ ∀ j, j < 135 → g j = K.1 231 j := by
  refine ⟨va_cpy (K.1 230) (K.1 223) 0 0 3780, va_cpy (K.1 231) (K.1 224) 0 0 135, ?_, fun j hj => ?_, fun j hj => ?_⟩
  · rw [cf_407_0, yI_s, yI_s, sI_n (show (231 : Nat) ≠ 223 by decide), sI_n (show (224 : Nat) ≠ 223 by decide)]
    rfl
  · unfold va_cpy
    rw [if_pos ⟨Nat.zero_le _, by omega⟩, Nat.sub_zero, Nat.zero_add]
  · unfold va_cpy
    rw [if_pos ⟨Nat.zero_le _, by omega⟩, Nat.sub_zero, Nat.zero_add]
/-- the keys stand in the reference's own arrays -/
def rCy (kt : Nat → Bool) (kb : Nat → Nat → Nat) (f g : Nat → Int32) : Prop := (∀ k, k < 135 → f k = nI (b1 (kt k))) ∧ ∀ k, k < 135 → kt k = true → ∀ j, j < 28 → g (28 * k + j) = by8 (kb k j)
theorem r_cp1 (hb : ∀ k, k < 135 → kt k = true → ∀ j, j < 28 → K.1 337 (28 * k + j) = by8 (kb k j)) (hp : ∀ g, (∀ k, k < 135 → kt k = true → ∀ j, j < 28 → g (28 * k + j) = by8 (kb k j)) → cp_414_0 (mz_sI K 331 g)) : cp_607_68 0 K ∧ ∃ g, cf_607_68 0 K = (0, cf_414_0 (mz_sI K 331 g)) ∧ ∀ k, k < 135 → kt k = true → ∀ j, j < 28 → g (28 * k + j) = by8 (kb k j) := by
  refine mz_lpn (f := cq_607_68) (P := cd_607_68) (Q := fun t => ∃ g, t = (0, cf_414_0 (mz_sI K 331 g)) ∧ ∀ k, k < 135 → kt k = true → ∀ j, j < 28 → g (28 * k + j) = by8 (kb k j)) 3780 (fun t s => ∃ g, s = (nI t, mz_sI K 331 g) ∧ ∀ j, j < t → g j = mz_nb (K.1 337 j)) ?_ ?_ (Nat.zero_le _) ⟨K.1 331, by rw [sI_same]; rfl, fun j hj => absurd hj (Nat.not_lt_zero _)⟩
  · rintro t s ht ⟨g, rfl, hg⟩
    have w : nI t < 3780 := (nI_ltI (b := 3780) (by omega) (by omega)).mpr ht
    have ib : mz_ib (nI t) 3780 := ib_n ht (by omega)
    have e : mz_gI (mz_sI K 331 g) 337 (nI t) = K.1 337 t := by rw [gI_a, sI_n (by decide), nI_clamp (by omega)]
    refine ⟨⟨fun _ => ⟨ib, ib⟩, fun z => absurd w z⟩, Or.inl ⟨(nI (t + 1), mz_sI K 331 (upd g t (mz_nb (K.1 337 t)))), ?_, _, rfl, fun j hj => ?_⟩⟩
    · rw [cq_607_68]
      dsimp only
      rw [if_pos w, e, wI_s, sI_e, sI_sI, nI_clamp (by omega), nI_1 t]
    · rw [up_a]
      by_cases y : j = t
      · rw [if_pos y, y]
      · rw [if_neg y]; exact hg j (by omega)
  · rintro s ⟨g, rfl, hg⟩
    have w : ¬ nI 3780 < 3780 := by decide
    have hc : ∀ k, k < 135 → kt k = true → ∀ j, j < 28 → g (28 * k + j) = by8 (kb k j) := fun k hk z j hj => by
      rw [hg _ (by omega), hb k hk z j hj, by8_nb]
    refine ⟨⟨fun z => absurd z w, fun _ => hp g hc⟩, _, ?_, g, rfl, hc⟩
    rw [cq_607_68]
    dsimp only
    rw [if_neg w]
theorem r_cp2 (ha : ∀ k, k < 135 → K.1 336 k = nI (b1 (kt k))) (hb : ∀ k, k < 135 → kt k = true → ∀ j, j < 28 → K.1 337 (28 * k + j) = by8 (kb k j)) (hp : ∀ f g, rCy kt kb f g → cp_414_0 (mz_sI (mz_sI K 330 f) 331 g)) : cp_607_41 0 K ∧ ∃ f g, cf_607_41 0 K = (0, cf_414_0 (mz_sI (mz_sI K 330 f) 331 g)) ∧ rCy kt kb f g := by
  refine mz_lpn (f := cq_607_41) (P := cd_607_41) (Q := fun t => ∃ f g, t = (0, cf_414_0 (mz_sI (mz_sI K 330 f) 331 g)) ∧ rCy kt kb f g) 135 (fun t s => ∃ f, s = (nI t, mz_sI K 330 f) ∧ ∀ j, j < t → f j = nI (b1 (kt j))) ?_ ?_ (Nat.zero_le _) ⟨K.1 330, by rw [sI_same]; rfl, fun j hj => absurd hj (Nat.not_lt_zero _)⟩
  · rintro t s ht ⟨f, rfl, hf⟩
    have w : nI t < 135 := (nI_ltI (b := 135) (by omega) (by omega)).mpr ht
    have ib : mz_ib (nI t) 135 := ib_n ht (by omega)
    have e : mz_gI (mz_sI K 330 f) 336 (nI t) = nI (b1 (kt t)) := by rw [gI_a, sI_n (by decide), nI_clamp (by omega)]; exact ha t ht
    have e2 : mz_b01 (mz_gZ (mz_sI K 330 f) 336 (nI t)) = nI (b1 (kt t)) := by
      rw [gZ_a, sI_n (by decide), nI_clamp (by omega), ha t ht]
      cases kt t <;> decide
    have z1 : mz_z01 (mz_gI (mz_sI K 330 f) 336 (nI t)) := by
      rw [e]
      cases kt t
      · exact Or.inl rfl
      · exact Or.inr rfl
    refine ⟨⟨fun _ => ⟨ib, z1, ib⟩, fun z => absurd w z⟩, Or.inl ⟨(nI (t + 1), mz_sI K 330 (upd f t (nI (b1 (kt t))))), ?_, _, rfl, fun j hj => ?_⟩⟩
    · rw [cq_607_41]
      dsimp only
      rw [if_pos w, e2, wI_s, sI_e, sI_sI, nI_clamp (by omega), nI_1 t]
    · rw [up_a]
      by_cases y : j = t
      · rw [if_pos y, y]
      · rw [if_neg y]; exact hf j (by omega)
  · rintro s ⟨f, rfl, hf⟩
    have w : ¬ nI 135 < 135 := by decide
    obtain ⟨p1, g, p2, p3⟩ := r_cp1 (K := mz_sI K 330 f) (kt := kt) (kb := kb) (by rw [sI_n (by decide)]; exact hb) (fun g hg => hp f g ⟨hf, hg⟩)
    refine ⟨⟨fun z => absurd z w, fun _ => p1⟩, _, ?_, f, g, p2, hf, p3⟩
    rw [cq_607_41]
    dsimp only
    rw [if_neg w]
end Cy
