/-! PURE (35): the reference opens its store again: which area. -/
section Opr3
variable {N : mz_N} {d : Nat → Nat → Nat} {a gn us : Nat} {kt : Nat → Bool} {kb : Nat → Nat → Nat}
/-- the reference's memory with area and age set -/
def r_ma (N : mz_N) (a gn : Nat) : mz_N := mz_pL (mz_pI (mz_pI N 232 0 0) 232 133 (nI a)) 232 134 (lN gn)
theorem r_open (hI : DI d a gn us kt kb) (hd : r_dk d N) (hd2 : ∀ a j, d a j < 256) (hgn : gn < 2 ^ 31) (hag : ∀ a n, a < 2 → n < 200 → ag d a n < 2 ^ 31) (H : ∀ h f, r_kf kt kb h f → cp_414_0 (r_mo (r_ma N a gn) h f us)) :
    cp_592_0 N ∧ ∃ h f, cf_592_0 N = (nI (us - 1), cf_414_0 (r_mo (r_ma N a gn) h f us)) ∧ r_kf kt kb h f := by
  have hI2 := hI
  obtain ⟨ha, i2, i3, hgd, i5, i6, i7, i8, i9, i10, i11, i12, i13, i14, i15⟩ := hI
  have b0 := hag 0 0 (by omega) (by omega)
  have bb1 := hag 1 0 (by omega) (by omega)
  have hd1 : r_dk d (mz_pI N 232 0 0) := fun a' ha' j hj => by rw [pI_s, sI_n (by decide)]; exact hd a' ha' j hj
  obtain ⟨p0, q0⟩ := ga_r (a := 0) hd1 hd2 (by omega) b0
  obtain ⟨p1, q1⟩ := ga_r (a := 1) hd1 hd2 (by omega) bb1
  obtain ⟨s0, t0⟩ := ge_r (a := 0) hd1 hd2 (by omega) b0
  obtain ⟨s1, t1⟩ := ge_r (a := 1) hd1 hd2 (by omega) bb1
  have p1' : cp_593_0 1 (mz_pI N 232 0 0) := p1
  have q1' : cf_593_0 1 (mz_pI N 232 0 0) = true ↔ gda d 1 := q1
  have p0' : cp_593_0 0 (mz_pI N 232 0 0) := p0
  have q0' : cf_593_0 0 (mz_pI N 232 0 0) = true ↔ gda d 0 := q0
  have s0' : cp_594_0 0 (mz_pI N 232 0 0) := s0
  have t0' : cf_594_0 0 (mz_pI N 232 0 0) = lN (ag d 0 0) := t0
  have s1' : cp_594_0 1 (mz_pI N 232 0 0) := s1
  have t1' : cf_594_0 1 (mz_pI N 232 0 0) = lN (ag d 1 0) := t1
  have hcond : (cf_594_0 0 (mz_pI N 232 0 0) < cf_594_0 1 (mz_pI N 232 0 0)) ↔ ag d 0 0 < ag d 1 0 := by rw [t0', t1', lN_lt64 (by omega) (by omega)]
  have e51 : cp_592_51 (decide (a = 1)) (mz_pI N 232 0 0) ∧ ∃ h f, cf_592_51 (decide (a = 1)) (mz_pI N 232 0 0) = (nI (us - 1), cf_414_0 (r_mo (r_ma N a gn) h f us)) ∧ r_kf kt kb h f := by
    have eb : mz_b01 (decide (a = 1)) = nI a := by
      have : a = 0 ∨ a = 1 := by omega
      rcases this with w | w <;> rw [w] <;> rfl
    have e133 : (mz_pI (mz_pI N 232 0 0) 232 133 (nI a)).1 232 133 = nI a := by rw [pI_s, sI_e, up_a, if_pos rfl]
    have hd3 : r_dk d (mz_pI (mz_pI N 232 0 0) 232 133 (nI a)) := fun a' ha' j hj => by rw [pI_s, sI_n (by decide)]; exact hd1 a' ha' j hj
    obtain ⟨u1, u2⟩ := ge_r (a := a) hd3 hd2 ha (hag a 0 ha (by omega))
    rw [i5] at u2
    have hd4 : r_dk d (r_ma N a gn) := hd3
    have e133b : (r_ma N a gn).1 232 133 = nI a := e133
    have e134 : (r_ma N a gn).2 232 134 = lN gn := by unfold r_ma; rw [pL_s, sL_e]; rfl
    have e12 : 9600 * nI a + 12 = nI (9600 * a + 12) := by rw [show (9600 : Int32) = nI 9600 from rfl, show (12 : Int32) = nI 12 from rfl, pk_mul, nI_add]
    obtain ⟨p4, q4⟩ := rd4_r (p := 12) hd4 hd2 ha (by omega)
    have q4' : (cf_423_0 329 19200 (nI (9600 * a + 12)) 4 (r_ma N a gn)).toInt32 = nI (cnn d a) := by rw [q4, lN_i]; rfl
    have hc := r_count hI2 hd4 hd2 hgn e133b e134 H
    have hma : mz_pL (mz_pI (mz_pI N 232 0 0) 232 133 (nI a)) 232 134 (lN gn) = r_ma N a gn := rfl
    rw [cp_592_51, cf_592_51, eb, e133, u2, hma, e133b, e12, q4']
    exact ⟨⟨u1, p4, hc.1⟩, hc.2⟩
  have hcase : a = 0 ∨ a = 1 := by omega
  rcases hcase with rfl | rfl
  · have d0 : decide (0 = 1) = false := rfl
    rw [d0] at e51
    have e39 : cp_592_39 (mz_pI N 232 0 0) ∧ cf_592_39 (mz_pI N 232 0 0) = cf_592_51 false (mz_pI N 232 0 0) := by
      rw [cp_592_39, cf_592_39, cp_592_40, cf_592_40, if_neg (by decide)]
      exact ⟨⟨(fun w => by cases w), fun _ => e51.1⟩, rfl⟩
    have h1 : cf_593_0 1 (mz_pI N 232 0 0) = true → ¬ cf_594_0 0 (mz_pI N 232 0 0) < cf_594_0 1 (mz_pI N 232 0 0) := by
      intro w hlt
      rw [hcond] at hlt
      have := i12 (q1'.mp w).1
      rw [show 1 - 0 = 1 from rfl] at this
      omega
    have h0 := q0'.mpr hgd
    refine ⟨⟨p1', fun w => ⟨p0', fun _ => ⟨s1', s0', fun w3 => absurd w3 (h1 w), fun _ => e39.1⟩, fun w2 => absurd h0 w2⟩, fun _ => e39.1⟩, ?_⟩
    rw [cf_592_0]
    by_cases w : cf_593_0 1 (mz_pI N 232 0 0) = true
    · rw [if_pos w, if_pos h0, if_neg (h1 w), e39.2]; exact e51.2
    · rw [if_neg w, e39.2]; exact e51.2
  · have d1 : decide (1 = 1) = true := rfl
    rw [d1] at e51
    have e35 : cp_592_35 (mz_pI N 232 0 0) ∧ cf_592_35 (mz_pI N 232 0 0) = cf_592_51 true (mz_pI N 232 0 0) := by
      rw [cp_592_35, cf_592_35, cp_592_40, cf_592_40, if_pos rfl]
      exact ⟨⟨fun _ => e51.1, fun w => absurd rfl w⟩, rfl⟩
    have h0 : cf_593_0 0 (mz_pI N 232 0 0) = true → cf_594_0 0 (mz_pI N 232 0 0) < cf_594_0 1 (mz_pI N 232 0 0) := by
      intro w
      rw [hcond]
      have := i12 (q0'.mp w).1
      rw [show 1 - 1 = 0 from rfl] at this
      omega
    have h1 := q1'.mpr hgd
    refine ⟨⟨p1', fun _ => ⟨p0', fun w => ⟨s1', s0', fun _ => e35.1, fun w3 => absurd (h0 w) w3⟩, fun _ => e35.1⟩, fun w => absurd h1 w⟩, ?_⟩
    rw [cf_592_0, if_pos h1]
    by_cases w : cf_593_0 0 (mz_pI N 232 0 0) = true
    · rw [if_pos w, if_pos (h0 w), e35.2]; exact e51.2
    · rw [if_neg w, e35.2]; exact e51.2
end Opr3
