/-! PURE (50g): houses alike under all keys. -/
section Kal
variable {D E F : Kp} {ix kd : Nat}
theorem kag_trans (b1' : 1 ≤ kd) (b2 : kd ≤ 15) (h1 : kag D E kd ix) (h2 : kag E F kd ix) : kag D F kd ix := by
  have hcase : kd = 1 ∨ kd = 2 ∨ kd = 3 ∨ kd = 4 ∨ kd = 5 ∨ kd = 6 ∨ kd = 7 ∨ kd = 8 ∨ kd = 9 ∨ kd = 10 ∨ kd = 11 ∨ kd = 12 ∨ kd = 13 ∨ kd = 14 ∨ kd = 15 := by omega
  rcases hcase with w | w | w | w | w | w | w | w | w | w | w | w | w | w | w
  · subst w
    exact fun j a c => (h1 j a c).trans (h2 j a c)
  · subst w
    exact fun j a c => (h1 j a c).trans (h2 j a c)
  · subst w
    exact fun j a c => (h1 j a c).trans (h2 j a c)
  · subst w
    exact fun j a c => (h1 j a c).trans (h2 j a c)
  · subst w
    exact fun j a c => (h1 j a c).trans (h2 j a c)
  · subst w
    replace h1 : if ix = 7 then D.1 5 0 = E.1 5 0 else ∀ j, 28 * ix ≤ j → j < 28 * ix + 28 → D.1 4 j = E.1 4 j := h1
    replace h2 : if ix = 7 then E.1 5 0 = F.1 5 0 else ∀ j, 28 * ix ≤ j → j < 28 * ix + 28 → E.1 4 j = F.1 4 j := h2
    show if ix = 7 then D.1 5 0 = F.1 5 0 else ∀ j, 28 * ix ≤ j → j < 28 * ix + 28 → D.1 4 j = F.1 4 j
    by_cases w : ix = 7
    · rw [if_pos w] at h1 h2 ⊢; exact h1.trans h2
    · rw [if_neg w] at h1 h2 ⊢; exact fun j a c => (h1 j a c).trans (h2 j a c)
  · subst w
    replace h1 : if ix = 0 then ∀ j, j < 11 → D.2.1 1 j = E.2.1 1 j else ∀ j, j < 11 → D.1 6 j = E.1 6 j := h1
    replace h2 : if ix = 0 then ∀ j, j < 11 → E.2.1 1 j = F.2.1 1 j else ∀ j, j < 11 → E.1 6 j = F.1 6 j := h2
    show if ix = 0 then ∀ j, j < 11 → D.2.1 1 j = F.2.1 1 j else ∀ j, j < 11 → D.1 6 j = F.1 6 j
    by_cases w : ix = 0
    · rw [if_pos w] at h1 h2 ⊢; exact fun j a => (h1 j a).trans (h2 j a)
    · rw [if_neg w] at h1 h2 ⊢; exact fun j a => (h1 j a).trans (h2 j a)
  · subst w
    exact ⟨h1.1.trans h2.1, h1.2.1.trans h2.2.1, h1.2.2.1.trans h2.2.2.1, h1.2.2.2.1.trans h2.2.2.2.1, h1.2.2.2.2.trans h2.2.2.2.2⟩
  · subst w
    exact ⟨fun j a => (h1.1 j a).trans (h2.1 j a), fun j a => (h1.2 j a).trans (h2.2 j a)⟩
  · subst w
    exact ⟨h1.1.trans h2.1, h1.2.1.trans h2.2.1, fun j a => (h1.2.2 j a).trans (h2.2.2 j a)⟩
  · subst w
    exact ⟨h1.1.trans h2.1, h1.2.1.trans h2.2.1, h1.2.2.1.trans h2.2.2.1, h1.2.2.2.trans h2.2.2.2⟩
  · subst w
    exact ⟨h1.1.trans h2.1, fun q => by have u := h1.2 q; have v := h2.2 (h1.1 ▸ q); exact ⟨(u.1).trans v.1, (u.2.1).trans v.2.1, (u.2.2.1).trans v.2.2.1, (u.2.2.2.1).trans v.2.2.2.1, (u.2.2.2.2).trans v.2.2.2.2⟩⟩
  · subst w
    exact ⟨h1.1.trans h2.1, fun q => by have u := h1.2 q; have v := h2.2 (h1.1 ▸ q); exact ⟨(u.1).trans v.1, (u.2).trans v.2⟩⟩
  · subst w
    exact ⟨h1.1.trans h2.1, fun q => by have u := h1.2 q; have v := h2.2 (h1.1 ▸ q); exact ⟨(u.1).trans v.1, (u.2.1).trans v.2.1, (u.2.2.1).trans v.2.2.1, (u.2.2.2).trans v.2.2.2⟩⟩
  · subst w
    exact ⟨h1.1.trans h2.1, fun q => by have u := h1.2 q; have v := h2.2 (h1.1 ▸ q); exact ⟨(u.1).trans v.1, (u.2).trans v.2⟩⟩
/-- alike under all keys -/
def kal (D E : Kp) : Prop := ∀ kd ix, 1 ≤ kd → kd ≤ 15 → ix < nky kd → kag D E kd ix
theorem kal_of (h : ∀ k, k < 135 → kag D E (kdk k) (ixk k)) : kal D E := by
  intro kd ix h1 h2 h3
  have hx : ∀ kd, kd < 16 → 1 ≤ kd → ∀ ix, ix < 40 → ix < nky kd → kyo kd ix < 135 ∧ kdk (kyo kd ix) = kd ∧ ixk (kyo kd ix) = ix := by decide +kernel
  have h40 : ∀ kd, kd < 16 → nky kd ≤ 40 := by decide +kernel
  obtain ⟨a1, a2, a3⟩ := hx kd (by omega) h1 ix (by have := h40 kd (by omega); omega) h3
  have := h _ a1
  rw [a2, a3] at this
  exact this
theorem kal_x (h : kal D E) : (∀ j, j < 550 → D.1 0 j = E.1 0 j) ∧ (∀ j, j < 240 → D.1 1 j = E.1 1 j) ∧ (∀ j, j < 240 → D.1 2 j = E.1 2 j) ∧ (∀ j, j < 24 → D.2.1 0 j = E.2.1 0 j) ∧ (∀ j, j < 96 → D.1 3 j = E.1 3 j) ∧ (D.1 5 0 = E.1 5 0) ∧ (∀ j, j < 196 → D.1 4 j = E.1 4 j) ∧ (∀ j, j < 11 → D.2.1 1 j = E.2.1 1 j) ∧ (∀ j, j < 11 → D.1 6 j = E.1 6 j) ∧ (∀ j, j < 10 → D.2.1 2 j = E.2.1 2 j ∧ D.2.1 3 j = E.2.1 3 j ∧ D.2.1 4 j = E.2.1 4 j ∧ D.2.2 0 j = E.2.2 0 j ∧ D.2.2 1 j = E.2.2 1 j) ∧ ((∀ j, j < 3 → D.2.1 5 j = E.2.1 5 j) ∧ ∀ j, j < 2 → D.2.2 2 j = E.2.2 2 j) ∧ (D.2.1 2 10 = E.2.1 2 10 ∧ D.2.1 3 10 = E.2.1 3 10 ∧ ∀ j, j < 4 → D.2.1 6 j = E.2.1 6 j) ∧ (∀ j, j < 3 → D.2.1 7 j = E.2.1 7 j ∧ D.2.1 8 j = E.2.1 8 j ∧ D.2.1 9 j = E.2.1 9 j ∧ D.1 7 j = E.1 7 j) ∧ (∀ j, j < 16 → D.1 8 j = E.1 8 j ∧ (D.1 8 j = 1 → D.1 9 j = E.1 9 j ∧ D.1 10 j = E.1 10 j ∧ D.1 11 j = E.1 11 j ∧ D.2.1 10 j = E.2.1 10 j ∧ D.2.1 11 j = E.2.1 11 j)) ∧ (∀ j, j < 20 → D.1 12 j = E.1 12 j ∧ (D.1 12 j = 1 → D.1 13 j = E.1 13 j ∧ D.1 14 j = E.1 14 j)) ∧ (∀ j, j < 40 → D.1 15 j = E.1 15 j ∧ (D.1 15 j = 1 → D.1 16 j = E.1 16 j ∧ D.1 17 j = E.1 17 j ∧ D.1 18 j = E.1 18 j ∧ D.2.1 12 j = E.2.1 12 j)) ∧ (∀ j, j < 8 → D.1 19 j = E.1 19 j ∧ (D.1 19 j = 1 → D.1 20 j = E.1 20 j ∧ D.1 21 j = E.1 21 j)) := by
  have x1 : ∀ j, j < 550 → D.1 0 j = E.1 0 j := fun j hj => h 1 (j / 110) (by omega) (by omega) (show j / 110 < 5 by omega) j (by omega) (by omega)
  have x2 : ∀ j, j < 240 → D.1 1 j = E.1 1 j := fun j hj => h 2 (j / 48) (by omega) (by omega) (show j / 48 < 5 by omega) j (by omega) (by omega)
  have x3 : ∀ j, j < 240 → D.1 2 j = E.1 2 j := fun j hj => h 3 (j / 24) (by omega) (by omega) (show j / 24 < 10 by omega) j (by omega) (by omega)
  have x4 : ∀ j, j < 24 → D.2.1 0 j = E.2.1 0 j := fun j hj => h 4 (j / 12) (by omega) (by omega) (show j / 12 < 2 by omega) j (by omega) (by omega)
  have x5 : ∀ j, j < 96 → D.1 3 j = E.1 3 j := fun j hj => h 5 (j / 24) (by omega) (by omega) (show j / 24 < 4 by omega) j (by omega) (by omega)
  have x6 : D.1 5 0 = E.1 5 0 := h 6 7 (by omega) (by omega) (show 7 < 8 by omega)
  have x6b : ∀ j, j < 196 → D.1 4 j = E.1 4 j := fun j hj => by
    have q : if j / 28 = 7 then D.1 5 0 = E.1 5 0 else ∀ i, 28 * (j / 28) ≤ i → i < 28 * (j / 28) + 28 → D.1 4 i = E.1 4 i := h 6 (j / 28) (by omega) (by omega) (show j / 28 < 8 by omega)
    rw [if_neg (by omega)] at q
    exact q j (by omega) (by omega)
  have x7 : ∀ j, j < 11 → D.2.1 1 j = E.2.1 1 j := h 7 0 (by omega) (by omega) (show 0 < 2 by omega)
  have x7b : ∀ j, j < 11 → D.1 6 j = E.1 6 j := h 7 1 (by omega) (by omega) (show 1 < 2 by omega)
  have x8 : ∀ j, j < 10 → D.2.1 2 j = E.2.1 2 j ∧ D.2.1 3 j = E.2.1 3 j ∧ D.2.1 4 j = E.2.1 4 j ∧ D.2.2 0 j = E.2.2 0 j ∧ D.2.2 1 j = E.2.2 1 j := fun j hj => h 8 j (by omega) (by omega) hj
  have x9 : (∀ j, j < 3 → D.2.1 5 j = E.2.1 5 j) ∧ ∀ j, j < 2 → D.2.2 2 j = E.2.2 2 j := h 9 0 (by omega) (by omega) (show 0 < 1 by omega)
  have x10 : D.2.1 2 10 = E.2.1 2 10 ∧ D.2.1 3 10 = E.2.1 3 10 ∧ ∀ j, j < 4 → D.2.1 6 j = E.2.1 6 j := h 10 0 (by omega) (by omega) (show 0 < 1 by omega)
  have x11 : ∀ j, j < 3 → D.2.1 7 j = E.2.1 7 j ∧ D.2.1 8 j = E.2.1 8 j ∧ D.2.1 9 j = E.2.1 9 j ∧ D.1 7 j = E.1 7 j := fun j hj => h 11 j (by omega) (by omega) hj
  have x12 : ∀ j, j < 16 → D.1 8 j = E.1 8 j ∧ (D.1 8 j = 1 → D.1 9 j = E.1 9 j ∧ D.1 10 j = E.1 10 j ∧ D.1 11 j = E.1 11 j ∧ D.2.1 10 j = E.2.1 10 j ∧ D.2.1 11 j = E.2.1 11 j) := fun j hj => h 12 j (by omega) (by omega) hj
  have x13 : ∀ j, j < 20 → D.1 12 j = E.1 12 j ∧ (D.1 12 j = 1 → D.1 13 j = E.1 13 j ∧ D.1 14 j = E.1 14 j) := fun j hj => h 13 j (by omega) (by omega) hj
  have x14 : ∀ j, j < 40 → D.1 15 j = E.1 15 j ∧ (D.1 15 j = 1 → D.1 16 j = E.1 16 j ∧ D.1 17 j = E.1 17 j ∧ D.1 18 j = E.1 18 j ∧ D.2.1 12 j = E.2.1 12 j) := fun j hj => h 14 j (by omega) (by omega) hj
  have x15 : ∀ j, j < 8 → D.1 19 j = E.1 19 j ∧ (D.1 19 j = 1 → D.1 20 j = E.1 20 j ∧ D.1 21 j = E.1 21 j) := fun j hj => h 15 j (by omega) (by omega) hj
  exact ⟨x1, x2, x3, x4, x5, x6, x6b, x7, x7b, x8, x9, x10, x11, x12, x13, x14, x15⟩
theorem kal_c {N : mz_N} (h : kal D E) (h4 : D.2.1 4 10 = E.2.1 4 10) (hn : c_kn N D) : c_kn N E := by
  obtain ⟨k1, k2, k3, k4, k5, k7, k8, k8b, k9, k10, k11, k12, k13, k14, k15⟩ := hn
  obtain ⟨x1, x2, x3, x4, x5, x6, x6b, x7, x7b, x8, x9, x10, x11, x12, x13, x14, x15⟩ := kal_x h
  have y8 : ∀ j, j < 11 → D.2.1 2 j = E.2.1 2 j ∧ D.2.1 3 j = E.2.1 3 j ∧ D.2.1 4 j = E.2.1 4 j := fun j hj => by
    by_cases w : j < 10
    · exact ⟨(x8 j w).1, (x8 j w).2.1, (x8 j w).2.2.1⟩
    · rw [show j = 10 by omega]; exact ⟨x10.1, x10.2.1, h4⟩
  refine ⟨fun j hj => by rw [k1 j hj, x1 j hj], fun j hj => by rw [k2 j hj, x2 j hj], fun j hj => by rw [k3 j hj, x3 j hj], fun j hj => by rw [k4 j hj, x4 j hj], fun j hj => by rw [k5 j hj, x5 j hj], fun j hj => by rw [(k7 j hj).1, (k7 j hj).2, x7 j hj, x7b j hj]; exact ⟨rfl, rfl⟩, fun j hj => ?_, fun j hj => ?_, ?_, fun j hj => by rw [k10 j hj, x10.2.2 j hj], fun j hj => ?_, fun j hj => ?_, fun j hj => ?_, fun j hj => ?_, fun j hj => ?_⟩
  · obtain ⟨m1, m2, m3⟩ := k8 j hj
    obtain ⟨y1, y2, y3⟩ := y8 j hj
    exact ⟨m1.trans y1, m2.trans y2, m3.trans y3⟩
  · obtain ⟨m1, m2⟩ := k8b j hj
    exact ⟨m1.trans (x8 j hj).2.2.2.1, m2.trans (x8 j hj).2.2.2.2⟩
  · obtain ⟨m1, m2, m3, m4, m5⟩ := k9
    exact ⟨m1.trans (x9.1 0 (by omega)), m2.trans (x9.2 0 (by omega)), m3.trans (x9.2 1 (by omega)), m4.trans (x9.1 1 (by omega)), m5.trans (x9.1 2 (by omega))⟩
  · obtain ⟨m1, m2, m3, m4⟩ := k11 j hj
    obtain ⟨y1, y2, y3, y4⟩ := x11 j hj
    exact ⟨m1.trans y1, m2.trans y2, m3.trans y3, by rw [m4, y4]⟩
  · obtain ⟨m1, m2⟩ := k12 j hj
    obtain ⟨y1, y2⟩ := x12 j hj
    refine ⟨by rw [m1, y1], fun q => ?_⟩
    obtain ⟨u1, u2, u3, u4, u5⟩ := m2 (y1 ▸ q)
    obtain ⟨v1, v2, v3, v4, v5⟩ := y2 (y1 ▸ q)
    exact ⟨by rw [u1, v1], by rw [u2, v2], by rw [u3, v3], u4.trans v4, u5.trans v5⟩
  · obtain ⟨m1, m2⟩ := k13 j hj
    obtain ⟨y1, y2⟩ := x13 j hj
    refine ⟨by rw [m1, y1], fun q => ?_⟩
    obtain ⟨u1, u2⟩ := m2 (y1 ▸ q)
    obtain ⟨v1, v2⟩ := y2 (y1 ▸ q)
    exact ⟨by rw [u1, v1], by rw [u2, v2]⟩
  · obtain ⟨m1, m2⟩ := k14 j hj
    obtain ⟨y1, y2⟩ := x14 j hj
    refine ⟨by rw [m1, y1], fun q => ?_⟩
    obtain ⟨u1, u2, u3, u4⟩ := m2 (y1 ▸ q)
    obtain ⟨v1, v2, v3, v4⟩ := y2 (y1 ▸ q)
    exact ⟨by rw [u1, v1], by rw [u2, v2], by rw [u3, v3], u4.trans v4⟩
  · obtain ⟨m1, m2⟩ := k15 j hj
    obtain ⟨y1, y2⟩ := x15 j hj
    refine ⟨by rw [m1, y1], fun q => ?_⟩
    obtain ⟨u1, u2⟩ := m2 (y1 ▸ q)
    obtain ⟨v1, v2⟩ := y2 (y1 ▸ q)
    exact ⟨by rw [u1, v1], by rw [u2, v2]⟩
theorem kal_r {N : mz_N} (h : kal D E) (h4 : D.2.1 4 10 = E.2.1 4 10) (hn : r_kp N D) : r_kp N E := by
  obtain ⟨k1, k2, k3, k4, k5, k6, k6b, k7, k8, k8b, k9, k10, k11, k12, k13, k14, k15⟩ := hn
  obtain ⟨x1, x2, x3, x4, x5, x6, x6b, x7, x7b, x8, x9, x10, x11, x12, x13, x14, x15⟩ := kal_x h
  have y8 : ∀ j, j < 11 → D.2.1 2 j = E.2.1 2 j ∧ D.2.1 3 j = E.2.1 3 j ∧ D.2.1 4 j = E.2.1 4 j := fun j hj => by
    by_cases w : j < 10
    · exact ⟨(x8 j w).1, (x8 j w).2.1, (x8 j w).2.2.1⟩
    · rw [show j = 10 by omega]; exact ⟨x10.1, x10.2.1, h4⟩
  refine ⟨fun j hj => by rw [k1 j hj, x1 j hj], fun j hj => by rw [k2 j hj, x2 j hj], fun j hj => by rw [k3 j hj, x3 j hj], fun j hj => by rw [k4 j hj, x4 j hj], fun j hj => by rw [k5 j hj, x5 j hj], by rw [k6, x6], fun j hj => by rw [k6b j hj, x6b j hj], fun j hj => by rw [(k7 j hj).1, (k7 j hj).2, x7 j hj, x7b j hj]; exact ⟨rfl, rfl⟩, fun j hj => ?_, fun j hj => ?_, ?_, ⟨by rw [k10.1, x10.2.2 0 (by omega)], fun j hj => by rw [k10.2 j hj, x10.2.2 (j + 1) (by omega)]⟩, fun j hj => ?_, fun j hj => ?_, fun j hj => ?_, fun j hj => ?_, fun j hj => ?_⟩
  · obtain ⟨m1, m2, m3⟩ := k8 j hj
    obtain ⟨y1, y2, y3⟩ := y8 j hj
    exact ⟨by rw [m1, y1], by rw [m2, y2], by rw [m3, y3]⟩
  · obtain ⟨m1, m2⟩ := k8b j hj
    exact ⟨m1.trans (x8 j hj).2.2.2.1, m2.trans (x8 j hj).2.2.2.2⟩
  · obtain ⟨m1, m2, m3, m4, m5⟩ := k9
    exact ⟨by rw [m1, x9.1 0 (by omega)], m2.trans (x9.2 0 (by omega)), m3.trans (x9.2 1 (by omega)), by rw [m4, x9.1 1 (by omega)], by rw [m5, x9.1 2 (by omega)]⟩
  · obtain ⟨m1, m2, m3, m4⟩ := k11 j hj
    obtain ⟨y1, y2, y3, y4⟩ := x11 j hj
    exact ⟨m1.trans y1, by rw [m2, y2], m3.trans y3, by rw [m4, y4]⟩
  · obtain ⟨m1, m2⟩ := k12 j hj
    obtain ⟨y1, y2⟩ := x12 j hj
    refine ⟨by rw [m1, y1], fun q => ?_⟩
    obtain ⟨u1, u2, u3, u4, u5⟩ := m2 (y1 ▸ q)
    obtain ⟨v1, v2, v3, v4, v5⟩ := y2 (y1 ▸ q)
    exact ⟨by rw [u1, v1], by rw [u2, v2], by rw [u3, v3], by rw [u4, v4], by rw [u5, v5]⟩
  · obtain ⟨m1, m2⟩ := k13 j hj
    obtain ⟨y1, y2⟩ := x13 j hj
    refine ⟨by rw [m1, y1], fun q => ?_⟩
    obtain ⟨u1, u2⟩ := m2 (y1 ▸ q)
    obtain ⟨v1, v2⟩ := y2 (y1 ▸ q)
    exact ⟨by rw [u1, v1], by rw [u2, v2]⟩
  · obtain ⟨m1, m2⟩ := k14 j hj
    obtain ⟨y1, y2⟩ := x14 j hj
    refine ⟨by rw [m1, y1], fun q => ?_⟩
    obtain ⟨u1, u2, u3, u4⟩ := m2 (y1 ▸ q)
    obtain ⟨v1, v2, v3, v4⟩ := y2 (y1 ▸ q)
    exact ⟨by rw [u1, v1], by rw [u2, v2], by rw [u3, v3], u4.trans v4⟩
  · obtain ⟨m1, m2⟩ := k15 j hj
    obtain ⟨y1, y2⟩ := x15 j hj
    refine ⟨by rw [m1, y1], fun q => ?_⟩
    obtain ⟨u1, u2⟩ := m2 (y1 ▸ q)
    obtain ⟨v1, v2⟩ := y2 (y1 ▸ q)
    exact ⟨by rw [u1, v1], by rw [u2, v2]⟩
end Kal
