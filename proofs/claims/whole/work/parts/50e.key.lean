/-! PURE (50e): the reference reads any key; which things belong to a key. -/
theorem dec_r {N : mz_N} {k kd ix : Nat} {H G : Kp} (hk : k < 135) (h1 : 1 ≤ kd) (h2 : kd ≤ 15) (hix : ix < nky kd) (hb : kpb G) (hl : kpl G kd ix) (h : by4 N k (kx G kd ix)) (hn : r_kp N H) (hs : r_ks N H) : cp_421_0 (nI kd) (nI ix) (nI (28 * k)) N ∧ r_dr N (cf_421_0 (nI kd) (nI ix) (nI (28 * k)) N) H G kd ix := by
  have hcase : kd = 1 ∨ kd = 2 ∨ kd = 3 ∨ kd = 4 ∨ kd = 5 ∨ kd = 6 ∨ kd = 7 ∨ kd = 8 ∨ kd = 9 ∨ kd = 10 ∨ kd = 11 ∨ kd = 12 ∨ kd = 13 ∨ kd = 14 ∨ kd = 15 := by omega
  rcases hcase with w | w | w | w | w | w | w | w | w | w | w | w | w | w | w
  · subst w
    obtain ⟨q1, q2⟩ := d1_r hk hix hb h hn hs
    rw [cp_421_0, cf_421_0, if_pos (show nI 1 = 1 from rfl)]
    exact ⟨⟨fun _ => q1, fun w => absurd rfl w⟩, q2⟩
  · subst w
    obtain ⟨q1, q2⟩ := d2_r hk hix hb h hn hs
    rw [cp_421_0, cf_421_0, if_neg (show ¬ nI 2 = 1 by decide), if_pos (show nI 2 = 2 from rfl)]
    exact ⟨⟨fun w => absurd w (show ¬ nI 2 = 1 by decide), fun _ => ⟨fun _ => q1, fun w => absurd rfl w⟩⟩, q2⟩
  · subst w
    obtain ⟨q1, q2⟩ := d3_r hk hix h hn hs
    rw [cp_421_0, cf_421_0, if_neg (show ¬ nI 3 = 1 by decide), if_neg (show ¬ nI 3 = 2 by decide), if_pos (show nI 3 = 3 from rfl)]
    exact ⟨⟨fun w => absurd w (show ¬ nI 3 = 1 by decide), fun _ => ⟨fun w => absurd w (show ¬ nI 3 = 2 by decide), fun _ => ⟨fun _ => q1, fun w => absurd rfl w⟩⟩⟩, q2⟩
  · subst w
    obtain ⟨q1, q2⟩ := d4_r hk hix hl h hn hs
    rw [cp_421_0, cf_421_0, if_neg (show ¬ nI 4 = 1 by decide), if_neg (show ¬ nI 4 = 2 by decide), if_neg (show ¬ nI 4 = 3 by decide), if_pos (show nI 4 = 4 from rfl)]
    exact ⟨⟨fun w => absurd w (show ¬ nI 4 = 1 by decide), fun _ => ⟨fun w => absurd w (show ¬ nI 4 = 2 by decide), fun _ => ⟨fun w => absurd w (show ¬ nI 4 = 3 by decide), fun _ => ⟨fun _ => q1, fun w => absurd rfl w⟩⟩⟩⟩, q2⟩
  · subst w
    obtain ⟨q1, q2⟩ := d5_r hk hix h hn hs
    rw [cp_421_0, cf_421_0, if_neg (show ¬ nI 5 = 1 by decide), if_neg (show ¬ nI 5 = 2 by decide), if_neg (show ¬ nI 5 = 3 by decide), if_neg (show ¬ nI 5 = 4 by decide), if_pos (show nI 5 = 5 from rfl)]
    exact ⟨⟨fun w => absurd w (show ¬ nI 5 = 1 by decide), fun _ => ⟨fun w => absurd w (show ¬ nI 5 = 2 by decide), fun _ => ⟨fun w => absurd w (show ¬ nI 5 = 3 by decide), fun _ => ⟨fun w => absurd w (show ¬ nI 5 = 4 by decide), fun _ => ⟨fun _ => q1, fun w => absurd rfl w⟩⟩⟩⟩⟩, q2⟩
  · subst w
    obtain ⟨q1, q2⟩ := d6_r hk hix h hn hs
    rw [cp_421_0, cf_421_0, if_neg (show ¬ nI 6 = 1 by decide), if_neg (show ¬ nI 6 = 2 by decide), if_neg (show ¬ nI 6 = 3 by decide), if_neg (show ¬ nI 6 = 4 by decide), if_neg (show ¬ nI 6 = 5 by decide), if_pos (show nI 6 = 6 from rfl)]
    exact ⟨⟨fun w => absurd w (show ¬ nI 6 = 1 by decide), fun _ => ⟨fun w => absurd w (show ¬ nI 6 = 2 by decide), fun _ => ⟨fun w => absurd w (show ¬ nI 6 = 3 by decide), fun _ => ⟨fun w => absurd w (show ¬ nI 6 = 4 by decide), fun _ => ⟨fun w => absurd w (show ¬ nI 6 = 5 by decide), fun _ => ⟨fun _ => q1, fun w => absurd rfl w⟩⟩⟩⟩⟩⟩, q2⟩
  · subst w
    obtain ⟨q1, q2⟩ := d7_r hk hix hl h hn hs
    rw [cp_421_0, cf_421_0, if_neg (show ¬ nI 7 = 1 by decide), if_neg (show ¬ nI 7 = 2 by decide), if_neg (show ¬ nI 7 = 3 by decide), if_neg (show ¬ nI 7 = 4 by decide), if_neg (show ¬ nI 7 = 5 by decide), if_neg (show ¬ nI 7 = 6 by decide), if_pos (show nI 7 = 7 from rfl)]
    exact ⟨⟨fun w => absurd w (show ¬ nI 7 = 1 by decide), fun _ => ⟨fun w => absurd w (show ¬ nI 7 = 2 by decide), fun _ => ⟨fun w => absurd w (show ¬ nI 7 = 3 by decide), fun _ => ⟨fun w => absurd w (show ¬ nI 7 = 4 by decide), fun _ => ⟨fun w => absurd w (show ¬ nI 7 = 5 by decide), fun _ => ⟨fun w => absurd w (show ¬ nI 7 = 6 by decide), fun _ => ⟨fun _ => q1, fun w => absurd rfl w⟩⟩⟩⟩⟩⟩⟩, q2⟩
  · subst w
    obtain ⟨q1, q2⟩ := d8_r hk hix h hn hs
    rw [cp_421_0, cf_421_0, if_neg (show ¬ nI 8 = 1 by decide), if_neg (show ¬ nI 8 = 2 by decide), if_neg (show ¬ nI 8 = 3 by decide), if_neg (show ¬ nI 8 = 4 by decide), if_neg (show ¬ nI 8 = 5 by decide), if_neg (show ¬ nI 8 = 6 by decide), if_neg (show ¬ nI 8 = 7 by decide)]
    exact ⟨⟨fun w => absurd w (show ¬ nI 8 = 1 by decide), fun _ => ⟨fun w => absurd w (show ¬ nI 8 = 2 by decide), fun _ => ⟨fun w => absurd w (show ¬ nI 8 = 3 by decide), fun _ => ⟨fun w => absurd w (show ¬ nI 8 = 4 by decide), fun _ => ⟨fun w => absurd w (show ¬ nI 8 = 5 by decide), fun _ => ⟨fun w => absurd w (show ¬ nI 8 = 6 by decide), fun _ => ⟨fun w => absurd w (show ¬ nI 8 = 7 by decide), fun _ => q1⟩⟩⟩⟩⟩⟩⟩, q2⟩
  · subst w
    obtain ⟨q1, q2⟩ := d9_r hk h hn hs
    rw [cp_421_0, cf_421_0, if_neg (show ¬ nI 9 = 1 by decide), if_neg (show ¬ nI 9 = 2 by decide), if_neg (show ¬ nI 9 = 3 by decide), if_neg (show ¬ nI 9 = 4 by decide), if_neg (show ¬ nI 9 = 5 by decide), if_neg (show ¬ nI 9 = 6 by decide), if_neg (show ¬ nI 9 = 7 by decide)]
    exact ⟨⟨fun w => absurd w (show ¬ nI 9 = 1 by decide), fun _ => ⟨fun w => absurd w (show ¬ nI 9 = 2 by decide), fun _ => ⟨fun w => absurd w (show ¬ nI 9 = 3 by decide), fun _ => ⟨fun w => absurd w (show ¬ nI 9 = 4 by decide), fun _ => ⟨fun w => absurd w (show ¬ nI 9 = 5 by decide), fun _ => ⟨fun w => absurd w (show ¬ nI 9 = 6 by decide), fun _ => ⟨fun w => absurd w (show ¬ nI 9 = 7 by decide), fun _ => q1⟩⟩⟩⟩⟩⟩⟩, q2⟩
  · subst w
    obtain ⟨q1, q2⟩ := d10_r hk h hn hs
    rw [cp_421_0, cf_421_0, if_neg (show ¬ nI 10 = 1 by decide), if_neg (show ¬ nI 10 = 2 by decide), if_neg (show ¬ nI 10 = 3 by decide), if_neg (show ¬ nI 10 = 4 by decide), if_neg (show ¬ nI 10 = 5 by decide), if_neg (show ¬ nI 10 = 6 by decide), if_neg (show ¬ nI 10 = 7 by decide)]
    exact ⟨⟨fun w => absurd w (show ¬ nI 10 = 1 by decide), fun _ => ⟨fun w => absurd w (show ¬ nI 10 = 2 by decide), fun _ => ⟨fun w => absurd w (show ¬ nI 10 = 3 by decide), fun _ => ⟨fun w => absurd w (show ¬ nI 10 = 4 by decide), fun _ => ⟨fun w => absurd w (show ¬ nI 10 = 5 by decide), fun _ => ⟨fun w => absurd w (show ¬ nI 10 = 6 by decide), fun _ => ⟨fun w => absurd w (show ¬ nI 10 = 7 by decide), fun _ => q1⟩⟩⟩⟩⟩⟩⟩, q2⟩
  · subst w
    obtain ⟨q1, q2⟩ := d11_r hk hix hb h hn hs
    rw [cp_421_0, cf_421_0, if_neg (show ¬ nI 11 = 1 by decide), if_neg (show ¬ nI 11 = 2 by decide), if_neg (show ¬ nI 11 = 3 by decide), if_neg (show ¬ nI 11 = 4 by decide), if_neg (show ¬ nI 11 = 5 by decide), if_neg (show ¬ nI 11 = 6 by decide), if_neg (show ¬ nI 11 = 7 by decide)]
    exact ⟨⟨fun w => absurd w (show ¬ nI 11 = 1 by decide), fun _ => ⟨fun w => absurd w (show ¬ nI 11 = 2 by decide), fun _ => ⟨fun w => absurd w (show ¬ nI 11 = 3 by decide), fun _ => ⟨fun w => absurd w (show ¬ nI 11 = 4 by decide), fun _ => ⟨fun w => absurd w (show ¬ nI 11 = 5 by decide), fun _ => ⟨fun w => absurd w (show ¬ nI 11 = 6 by decide), fun _ => ⟨fun w => absurd w (show ¬ nI 11 = 7 by decide), fun _ => q1⟩⟩⟩⟩⟩⟩⟩, q2⟩
  · subst w
    obtain ⟨q1, q2⟩ := d12_r hk hix hb h hn hs
    rw [cp_421_0, cf_421_0, if_neg (show ¬ nI 12 = 1 by decide), if_neg (show ¬ nI 12 = 2 by decide), if_neg (show ¬ nI 12 = 3 by decide), if_neg (show ¬ nI 12 = 4 by decide), if_neg (show ¬ nI 12 = 5 by decide), if_neg (show ¬ nI 12 = 6 by decide), if_neg (show ¬ nI 12 = 7 by decide)]
    exact ⟨⟨fun w => absurd w (show ¬ nI 12 = 1 by decide), fun _ => ⟨fun w => absurd w (show ¬ nI 12 = 2 by decide), fun _ => ⟨fun w => absurd w (show ¬ nI 12 = 3 by decide), fun _ => ⟨fun w => absurd w (show ¬ nI 12 = 4 by decide), fun _ => ⟨fun w => absurd w (show ¬ nI 12 = 5 by decide), fun _ => ⟨fun w => absurd w (show ¬ nI 12 = 6 by decide), fun _ => ⟨fun w => absurd w (show ¬ nI 12 = 7 by decide), fun _ => q1⟩⟩⟩⟩⟩⟩⟩, q2⟩
  · subst w
    obtain ⟨q1, q2⟩ := d13_r hk hix h hn hs
    rw [cp_421_0, cf_421_0, if_neg (show ¬ nI 13 = 1 by decide), if_neg (show ¬ nI 13 = 2 by decide), if_neg (show ¬ nI 13 = 3 by decide), if_neg (show ¬ nI 13 = 4 by decide), if_neg (show ¬ nI 13 = 5 by decide), if_neg (show ¬ nI 13 = 6 by decide), if_neg (show ¬ nI 13 = 7 by decide)]
    exact ⟨⟨fun w => absurd w (show ¬ nI 13 = 1 by decide), fun _ => ⟨fun w => absurd w (show ¬ nI 13 = 2 by decide), fun _ => ⟨fun w => absurd w (show ¬ nI 13 = 3 by decide), fun _ => ⟨fun w => absurd w (show ¬ nI 13 = 4 by decide), fun _ => ⟨fun w => absurd w (show ¬ nI 13 = 5 by decide), fun _ => ⟨fun w => absurd w (show ¬ nI 13 = 6 by decide), fun _ => ⟨fun w => absurd w (show ¬ nI 13 = 7 by decide), fun _ => q1⟩⟩⟩⟩⟩⟩⟩, q2⟩
  · subst w
    obtain ⟨q1, q2⟩ := d14_r hk hix hb h hn hs
    rw [cp_421_0, cf_421_0, if_neg (show ¬ nI 14 = 1 by decide), if_neg (show ¬ nI 14 = 2 by decide), if_neg (show ¬ nI 14 = 3 by decide), if_neg (show ¬ nI 14 = 4 by decide), if_neg (show ¬ nI 14 = 5 by decide), if_neg (show ¬ nI 14 = 6 by decide), if_neg (show ¬ nI 14 = 7 by decide)]
    exact ⟨⟨fun w => absurd w (show ¬ nI 14 = 1 by decide), fun _ => ⟨fun w => absurd w (show ¬ nI 14 = 2 by decide), fun _ => ⟨fun w => absurd w (show ¬ nI 14 = 3 by decide), fun _ => ⟨fun w => absurd w (show ¬ nI 14 = 4 by decide), fun _ => ⟨fun w => absurd w (show ¬ nI 14 = 5 by decide), fun _ => ⟨fun w => absurd w (show ¬ nI 14 = 6 by decide), fun _ => ⟨fun w => absurd w (show ¬ nI 14 = 7 by decide), fun _ => q1⟩⟩⟩⟩⟩⟩⟩, q2⟩
  · subst w
    obtain ⟨q1, q2⟩ := d15_r hk hix h hn hs
    rw [cp_421_0, cf_421_0, if_neg (show ¬ nI 15 = 1 by decide), if_neg (show ¬ nI 15 = 2 by decide), if_neg (show ¬ nI 15 = 3 by decide), if_neg (show ¬ nI 15 = 4 by decide), if_neg (show ¬ nI 15 = 5 by decide), if_neg (show ¬ nI 15 = 6 by decide), if_neg (show ¬ nI 15 = 7 by decide)]
    exact ⟨⟨fun w => absurd w (show ¬ nI 15 = 1 by decide), fun _ => ⟨fun w => absurd w (show ¬ nI 15 = 2 by decide), fun _ => ⟨fun w => absurd w (show ¬ nI 15 = 3 by decide), fun _ => ⟨fun w => absurd w (show ¬ nI 15 = 4 by decide), fun _ => ⟨fun w => absurd w (show ¬ nI 15 = 5 by decide), fun _ => ⟨fun w => absurd w (show ¬ nI 15 = 6 by decide), fun _ => ⟨fun w => absurd w (show ¬ nI 15 = 7 by decide), fun _ => q1⟩⟩⟩⟩⟩⟩⟩, q2⟩
/-- two houses have the same things under a key -/
def kag (D E : Kp) (kd ix : Nat) : Prop :=
  if kd = 1 then ∀ j, 110 * ix ≤ j → j < 110 * ix + 110 → D.1 0 j = E.1 0 j
  else if kd = 2 then ∀ j, 48 * ix ≤ j → j < 48 * ix + 48 → D.1 1 j = E.1 1 j
  else if kd = 3 then ∀ j, 24 * ix ≤ j → j < 24 * ix + 24 → D.1 2 j = E.1 2 j
  else if kd = 4 then ∀ j, 12 * ix ≤ j → j < 12 * ix + 12 → D.2.1 0 j = E.2.1 0 j
  else if kd = 5 then ∀ j, 24 * ix ≤ j → j < 24 * ix + 24 → D.1 3 j = E.1 3 j
  else if kd = 6 then (if ix = 7 then D.1 5 0 = E.1 5 0 else ∀ j, 28 * ix ≤ j → j < 28 * ix + 28 → D.1 4 j = E.1 4 j)
  else if kd = 7 then (if ix = 0 then ∀ j, j < 11 → D.2.1 1 j = E.2.1 1 j else ∀ j, j < 11 → D.1 6 j = E.1 6 j)
  else if kd = 8 then D.2.1 2 ix = E.2.1 2 ix ∧ D.2.1 3 ix = E.2.1 3 ix ∧ D.2.1 4 ix = E.2.1 4 ix ∧ D.2.2 0 ix = E.2.2 0 ix ∧ D.2.2 1 ix = E.2.2 1 ix
  else if kd = 9 then (∀ j, j < 3 → D.2.1 5 j = E.2.1 5 j) ∧ ∀ j, j < 2 → D.2.2 2 j = E.2.2 2 j
  else if kd = 10 then D.2.1 2 10 = E.2.1 2 10 ∧ D.2.1 3 10 = E.2.1 3 10 ∧ ∀ j, j < 4 → D.2.1 6 j = E.2.1 6 j
  else if kd = 11 then D.2.1 7 ix = E.2.1 7 ix ∧ D.2.1 8 ix = E.2.1 8 ix ∧ D.2.1 9 ix = E.2.1 9 ix ∧ D.1 7 ix = E.1 7 ix
  else if kd = 12 then D.1 8 ix = E.1 8 ix ∧ (D.1 8 ix = 1 → D.1 9 ix = E.1 9 ix ∧ D.1 10 ix = E.1 10 ix ∧ D.1 11 ix = E.1 11 ix ∧ D.2.1 10 ix = E.2.1 10 ix ∧ D.2.1 11 ix = E.2.1 11 ix)
  else if kd = 13 then D.1 12 ix = E.1 12 ix ∧ (D.1 12 ix = 1 → D.1 13 ix = E.1 13 ix ∧ D.1 14 ix = E.1 14 ix)
  else if kd = 14 then D.1 15 ix = E.1 15 ix ∧ (D.1 15 ix = 1 → D.1 16 ix = E.1 16 ix ∧ D.1 17 ix = E.1 17 ix ∧ D.1 18 ix = E.1 18 ix ∧ D.2.1 12 ix = E.2.1 12 ix)
  else D.1 19 ix = E.1 19 ix ∧ (D.1 19 ix = 1 → D.1 20 ix = E.1 20 ix ∧ D.1 21 ix = E.1 21 ix)
