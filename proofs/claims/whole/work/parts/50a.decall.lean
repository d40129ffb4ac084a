/-! PURE (50a): the class reads a key. -/
theorem dec_c {N : mz_N} {k kd ix nn : Nat} {H G : Kp} (hk : k < 135) (h1 : 1 ≤ kd) (h2 : kd ≤ 15) (hix : ix < nky kd) (hb : kpb G) (hl : kpl G kd ix) (h : by3 N k (kx G kd ix)) (hn : c_kn N H) (h0 : kd = 12 → H.1 8 ix = 0) (hs : c_ks N H nn) (hnn : nn ≤ 2000000001) : cp_57_0 (nI kd) (nI ix) (nI (28 * k)) N ∧ c_dr N (cf_57_0 (nI kd) (nI ix) (nI (28 * k)) N) H G kd ix nn := by
  have hcase : kd = 1 ∨ kd = 2 ∨ kd = 3 ∨ kd = 4 ∨ kd = 5 ∨ kd = 6 ∨ kd = 7 ∨ kd = 8 ∨ kd = 9 ∨ kd = 10 ∨ kd = 11 ∨ kd = 12 ∨ kd = 13 ∨ kd = 14 ∨ kd = 15 := by omega
  rcases hcase with w | w | w | w | w | w | w | w | w | w | w | w | w | w | w
  · subst w
    obtain ⟨q1, q2⟩ := d1_c hk hix hb h hn hs
    rw [cp_57_0, cf_57_0, if_pos (show nI 1 = 1 from rfl)]
    exact ⟨⟨fun _ => q1, fun w => absurd rfl w⟩, q2⟩
  · subst w
    obtain ⟨q1, q2⟩ := d2_c hk hix hb h hn hs
    rw [cp_57_0, cf_57_0, if_neg (show ¬ nI 2 = 1 by decide), if_pos (show nI 2 = 2 from rfl)]
    exact ⟨⟨fun w => absurd w (show ¬ nI 2 = 1 by decide), fun _ => ⟨fun _ => q1, fun w => absurd rfl w⟩⟩, q2⟩
  · subst w
    obtain ⟨q1, q2⟩ := d3_c hk hix h hn hs
    rw [cp_57_0, cf_57_0, if_neg (show ¬ nI 3 = 1 by decide), if_neg (show ¬ nI 3 = 2 by decide), if_pos (show nI 3 = 3 from rfl)]
    exact ⟨⟨fun w => absurd w (show ¬ nI 3 = 1 by decide), fun _ => ⟨fun w => absurd w (show ¬ nI 3 = 2 by decide), fun _ => ⟨fun _ => q1, fun w => absurd rfl w⟩⟩⟩, q2⟩
  · subst w
    obtain ⟨q1, q2⟩ := d4_c hk hix hl h hn hs
    rw [cp_57_0, cf_57_0, if_neg (show ¬ nI 4 = 1 by decide), if_neg (show ¬ nI 4 = 2 by decide), if_neg (show ¬ nI 4 = 3 by decide), if_pos (show nI 4 = 4 from rfl)]
    exact ⟨⟨fun w => absurd w (show ¬ nI 4 = 1 by decide), fun _ => ⟨fun w => absurd w (show ¬ nI 4 = 2 by decide), fun _ => ⟨fun w => absurd w (show ¬ nI 4 = 3 by decide), fun _ => ⟨fun _ => q1, fun w => absurd rfl w⟩⟩⟩⟩, q2⟩
  · subst w
    obtain ⟨q1, q2⟩ := d5_c hk hix h hn hs
    rw [cp_57_0, cf_57_0, if_neg (show ¬ nI 5 = 1 by decide), if_neg (show ¬ nI 5 = 2 by decide), if_neg (show ¬ nI 5 = 3 by decide), if_neg (show ¬ nI 5 = 4 by decide), if_pos (show nI 5 = 5 from rfl)]
    exact ⟨⟨fun w => absurd w (show ¬ nI 5 = 1 by decide), fun _ => ⟨fun w => absurd w (show ¬ nI 5 = 2 by decide), fun _ => ⟨fun w => absurd w (show ¬ nI 5 = 3 by decide), fun _ => ⟨fun w => absurd w (show ¬ nI 5 = 4 by decide), fun _ => ⟨fun _ => q1, fun w => absurd rfl w⟩⟩⟩⟩⟩, q2⟩
  · subst w
    have q1 : True := trivial
    have q2 : c_dr N N H G 6 ix nn := by
      obtain ⟨k1, k2, k3, k4, k5, k7, k8, k8b, k9, k10, k11, k12, k13, k14, k15⟩ := hn
      have e : dec H G 6 ix = if ix = 7 then (up H.1 5 (up (H.1 5) 0 (G.1 5 0)), H.2) else (up H.1 4 (rg (28 * ix) 28 (G.1 4) (H.1 4)), H.2) := rfl
      unfold c_dr
      rw [e]
      by_cases w7 : ix = 7
      · rw [if_pos w7]
        exact ⟨fq_refl _ _ _, ⟨k1, k2, k3, k4, k5, k7, k8, k8b, k9, k10, k11, k12, k13, k14, k15⟩, hs, fun _ _ => rfl⟩
      · rw [if_neg w7]
        exact ⟨fq_refl _ _ _, ⟨k1, k2, k3, k4, k5, k7, k8, k8b, k9, k10, k11, k12, k13, k14, k15⟩, hs, fun _ _ => rfl⟩
    rw [cp_57_0, cf_57_0, if_neg (show ¬ nI 6 = 1 by decide), if_neg (show ¬ nI 6 = 2 by decide), if_neg (show ¬ nI 6 = 3 by decide), if_neg (show ¬ nI 6 = 4 by decide), if_neg (show ¬ nI 6 = 5 by decide), if_pos (show nI 6 = 6 from rfl)]
    exact ⟨⟨fun w => absurd w (show ¬ nI 6 = 1 by decide), fun _ => ⟨fun w => absurd w (show ¬ nI 6 = 2 by decide), fun _ => ⟨fun w => absurd w (show ¬ nI 6 = 3 by decide), fun _ => ⟨fun w => absurd w (show ¬ nI 6 = 4 by decide), fun _ => ⟨fun w => absurd w (show ¬ nI 6 = 5 by decide), fun _ => ⟨fun _ => q1, fun w => absurd rfl w⟩⟩⟩⟩⟩⟩, q2⟩
  · subst w
    obtain ⟨q1, q2⟩ := d7_c hk hix hl h hn hs
    rw [cp_57_0, cf_57_0, if_neg (show ¬ nI 7 = 1 by decide), if_neg (show ¬ nI 7 = 2 by decide), if_neg (show ¬ nI 7 = 3 by decide), if_neg (show ¬ nI 7 = 4 by decide), if_neg (show ¬ nI 7 = 5 by decide), if_neg (show ¬ nI 7 = 6 by decide), if_pos (show nI 7 = 7 from rfl)]
    exact ⟨⟨fun w => absurd w (show ¬ nI 7 = 1 by decide), fun _ => ⟨fun w => absurd w (show ¬ nI 7 = 2 by decide), fun _ => ⟨fun w => absurd w (show ¬ nI 7 = 3 by decide), fun _ => ⟨fun w => absurd w (show ¬ nI 7 = 4 by decide), fun _ => ⟨fun w => absurd w (show ¬ nI 7 = 5 by decide), fun _ => ⟨fun w => absurd w (show ¬ nI 7 = 6 by decide), fun _ => ⟨fun _ => q1, fun w => absurd rfl w⟩⟩⟩⟩⟩⟩⟩, q2⟩
  · subst w
    obtain ⟨q1, q2⟩ := d8_c hk hix h hn hs
    rw [cp_57_0, cf_57_0, if_neg (show ¬ nI 8 = 1 by decide), if_neg (show ¬ nI 8 = 2 by decide), if_neg (show ¬ nI 8 = 3 by decide), if_neg (show ¬ nI 8 = 4 by decide), if_neg (show ¬ nI 8 = 5 by decide), if_neg (show ¬ nI 8 = 6 by decide), if_neg (show ¬ nI 8 = 7 by decide), if_pos (show nI 8 = 8 from rfl)]
    exact ⟨⟨fun w => absurd w (show ¬ nI 8 = 1 by decide), fun _ => ⟨fun w => absurd w (show ¬ nI 8 = 2 by decide), fun _ => ⟨fun w => absurd w (show ¬ nI 8 = 3 by decide), fun _ => ⟨fun w => absurd w (show ¬ nI 8 = 4 by decide), fun _ => ⟨fun w => absurd w (show ¬ nI 8 = 5 by decide), fun _ => ⟨fun w => absurd w (show ¬ nI 8 = 6 by decide), fun _ => ⟨fun w => absurd w (show ¬ nI 8 = 7 by decide), fun _ => ⟨fun _ => q1, fun w => absurd rfl w⟩⟩⟩⟩⟩⟩⟩⟩, q2⟩
  · subst w
    obtain ⟨q1, q2⟩ := d9_c hk h hn hs
    rw [cp_57_0, cf_57_0, if_neg (show ¬ nI 9 = 1 by decide), if_neg (show ¬ nI 9 = 2 by decide), if_neg (show ¬ nI 9 = 3 by decide), if_neg (show ¬ nI 9 = 4 by decide), if_neg (show ¬ nI 9 = 5 by decide), if_neg (show ¬ nI 9 = 6 by decide), if_neg (show ¬ nI 9 = 7 by decide), if_neg (show ¬ nI 9 = 8 by decide), if_pos (show nI 9 = 9 from rfl)]
    exact ⟨⟨fun w => absurd w (show ¬ nI 9 = 1 by decide), fun _ => ⟨fun w => absurd w (show ¬ nI 9 = 2 by decide), fun _ => ⟨fun w => absurd w (show ¬ nI 9 = 3 by decide), fun _ => ⟨fun w => absurd w (show ¬ nI 9 = 4 by decide), fun _ => ⟨fun w => absurd w (show ¬ nI 9 = 5 by decide), fun _ => ⟨fun w => absurd w (show ¬ nI 9 = 6 by decide), fun _ => ⟨fun w => absurd w (show ¬ nI 9 = 7 by decide), fun _ => ⟨fun w => absurd w (show ¬ nI 9 = 8 by decide), fun _ => ⟨fun _ => q1, fun w => absurd rfl w⟩⟩⟩⟩⟩⟩⟩⟩⟩, q2⟩
  · subst w
    obtain ⟨q1, q2⟩ := d10_c hk h hn hs
    rw [cp_57_0, cf_57_0, if_neg (show ¬ nI 10 = 1 by decide), if_neg (show ¬ nI 10 = 2 by decide), if_neg (show ¬ nI 10 = 3 by decide), if_neg (show ¬ nI 10 = 4 by decide), if_neg (show ¬ nI 10 = 5 by decide), if_neg (show ¬ nI 10 = 6 by decide), if_neg (show ¬ nI 10 = 7 by decide), if_neg (show ¬ nI 10 = 8 by decide), if_neg (show ¬ nI 10 = 9 by decide), if_pos (show nI 10 = 10 from rfl)]
    exact ⟨⟨fun w => absurd w (show ¬ nI 10 = 1 by decide), fun _ => ⟨fun w => absurd w (show ¬ nI 10 = 2 by decide), fun _ => ⟨fun w => absurd w (show ¬ nI 10 = 3 by decide), fun _ => ⟨fun w => absurd w (show ¬ nI 10 = 4 by decide), fun _ => ⟨fun w => absurd w (show ¬ nI 10 = 5 by decide), fun _ => ⟨fun w => absurd w (show ¬ nI 10 = 6 by decide), fun _ => ⟨fun w => absurd w (show ¬ nI 10 = 7 by decide), fun _ => ⟨fun w => absurd w (show ¬ nI 10 = 8 by decide), fun _ => ⟨fun w => absurd w (show ¬ nI 10 = 9 by decide), fun _ => ⟨fun _ => q1, fun w => absurd rfl w⟩⟩⟩⟩⟩⟩⟩⟩⟩⟩, q2⟩
  · subst w
    obtain ⟨q1, q2⟩ := d11_c hk hix h hn hs
    rw [cp_57_0, cf_57_0, if_neg (show ¬ nI 11 = 1 by decide), if_neg (show ¬ nI 11 = 2 by decide), if_neg (show ¬ nI 11 = 3 by decide), if_neg (show ¬ nI 11 = 4 by decide), if_neg (show ¬ nI 11 = 5 by decide), if_neg (show ¬ nI 11 = 6 by decide), if_neg (show ¬ nI 11 = 7 by decide), if_neg (show ¬ nI 11 = 8 by decide), if_neg (show ¬ nI 11 = 9 by decide), if_neg (show ¬ nI 11 = 10 by decide), if_pos (show nI 11 = 11 from rfl)]
    exact ⟨⟨fun w => absurd w (show ¬ nI 11 = 1 by decide), fun _ => ⟨fun w => absurd w (show ¬ nI 11 = 2 by decide), fun _ => ⟨fun w => absurd w (show ¬ nI 11 = 3 by decide), fun _ => ⟨fun w => absurd w (show ¬ nI 11 = 4 by decide), fun _ => ⟨fun w => absurd w (show ¬ nI 11 = 5 by decide), fun _ => ⟨fun w => absurd w (show ¬ nI 11 = 6 by decide), fun _ => ⟨fun w => absurd w (show ¬ nI 11 = 7 by decide), fun _ => ⟨fun w => absurd w (show ¬ nI 11 = 8 by decide), fun _ => ⟨fun w => absurd w (show ¬ nI 11 = 9 by decide), fun _ => ⟨fun w => absurd w (show ¬ nI 11 = 10 by decide), fun _ => ⟨fun _ => q1, fun w => absurd rfl w⟩⟩⟩⟩⟩⟩⟩⟩⟩⟩⟩, q2⟩
  · subst w
    obtain ⟨q1, q2⟩ := d12_c hk hix hb hl h hn (h0 rfl) hs hnn
    rw [cp_57_0, cf_57_0, if_neg (show ¬ nI 12 = 1 by decide), if_neg (show ¬ nI 12 = 2 by decide), if_neg (show ¬ nI 12 = 3 by decide), if_neg (show ¬ nI 12 = 4 by decide), if_neg (show ¬ nI 12 = 5 by decide), if_neg (show ¬ nI 12 = 6 by decide), if_neg (show ¬ nI 12 = 7 by decide), if_neg (show ¬ nI 12 = 8 by decide), if_neg (show ¬ nI 12 = 9 by decide), if_neg (show ¬ nI 12 = 10 by decide), if_neg (show ¬ nI 12 = 11 by decide), if_pos (show nI 12 = 12 from rfl)]
    exact ⟨⟨fun w => absurd w (show ¬ nI 12 = 1 by decide), fun _ => ⟨fun w => absurd w (show ¬ nI 12 = 2 by decide), fun _ => ⟨fun w => absurd w (show ¬ nI 12 = 3 by decide), fun _ => ⟨fun w => absurd w (show ¬ nI 12 = 4 by decide), fun _ => ⟨fun w => absurd w (show ¬ nI 12 = 5 by decide), fun _ => ⟨fun w => absurd w (show ¬ nI 12 = 6 by decide), fun _ => ⟨fun w => absurd w (show ¬ nI 12 = 7 by decide), fun _ => ⟨fun w => absurd w (show ¬ nI 12 = 8 by decide), fun _ => ⟨fun w => absurd w (show ¬ nI 12 = 9 by decide), fun _ => ⟨fun w => absurd w (show ¬ nI 12 = 10 by decide), fun _ => ⟨fun w => absurd w (show ¬ nI 12 = 11 by decide), fun _ => ⟨fun _ => q1, fun w => absurd rfl w⟩⟩⟩⟩⟩⟩⟩⟩⟩⟩⟩⟩, q2⟩
  · subst w
    obtain ⟨qa, qb, qc, q2⟩ := d13_c hk hix h hn hs
    have q1 := And.intro qa (And.intro qb qc)
    rw [cp_57_0, cf_57_0, if_neg (show ¬ nI 13 = 1 by decide), if_neg (show ¬ nI 13 = 2 by decide), if_neg (show ¬ nI 13 = 3 by decide), if_neg (show ¬ nI 13 = 4 by decide), if_neg (show ¬ nI 13 = 5 by decide), if_neg (show ¬ nI 13 = 6 by decide), if_neg (show ¬ nI 13 = 7 by decide), if_neg (show ¬ nI 13 = 8 by decide), if_neg (show ¬ nI 13 = 9 by decide), if_neg (show ¬ nI 13 = 10 by decide), if_neg (show ¬ nI 13 = 11 by decide), if_neg (show ¬ nI 13 = 12 by decide), if_pos (show nI 13 = 13 from rfl)]
    exact ⟨⟨fun w => absurd w (show ¬ nI 13 = 1 by decide), fun _ => ⟨fun w => absurd w (show ¬ nI 13 = 2 by decide), fun _ => ⟨fun w => absurd w (show ¬ nI 13 = 3 by decide), fun _ => ⟨fun w => absurd w (show ¬ nI 13 = 4 by decide), fun _ => ⟨fun w => absurd w (show ¬ nI 13 = 5 by decide), fun _ => ⟨fun w => absurd w (show ¬ nI 13 = 6 by decide), fun _ => ⟨fun w => absurd w (show ¬ nI 13 = 7 by decide), fun _ => ⟨fun w => absurd w (show ¬ nI 13 = 8 by decide), fun _ => ⟨fun w => absurd w (show ¬ nI 13 = 9 by decide), fun _ => ⟨fun w => absurd w (show ¬ nI 13 = 10 by decide), fun _ => ⟨fun w => absurd w (show ¬ nI 13 = 11 by decide), fun _ => ⟨fun w => absurd w (show ¬ nI 13 = 12 by decide), fun _ => ⟨fun _ => q1, fun w => absurd rfl w⟩⟩⟩⟩⟩⟩⟩⟩⟩⟩⟩⟩⟩, q2⟩
  · subst w
    obtain ⟨q1, q2⟩ := d14_c hk hix h hn hs
    rw [cp_57_0, cf_57_0, if_neg (show ¬ nI 14 = 1 by decide), if_neg (show ¬ nI 14 = 2 by decide), if_neg (show ¬ nI 14 = 3 by decide), if_neg (show ¬ nI 14 = 4 by decide), if_neg (show ¬ nI 14 = 5 by decide), if_neg (show ¬ nI 14 = 6 by decide), if_neg (show ¬ nI 14 = 7 by decide), if_neg (show ¬ nI 14 = 8 by decide), if_neg (show ¬ nI 14 = 9 by decide), if_neg (show ¬ nI 14 = 10 by decide), if_neg (show ¬ nI 14 = 11 by decide), if_neg (show ¬ nI 14 = 12 by decide), if_neg (show ¬ nI 14 = 13 by decide), if_pos (show nI 14 = 14 from rfl)]
    exact ⟨⟨fun w => absurd w (show ¬ nI 14 = 1 by decide), fun _ => ⟨fun w => absurd w (show ¬ nI 14 = 2 by decide), fun _ => ⟨fun w => absurd w (show ¬ nI 14 = 3 by decide), fun _ => ⟨fun w => absurd w (show ¬ nI 14 = 4 by decide), fun _ => ⟨fun w => absurd w (show ¬ nI 14 = 5 by decide), fun _ => ⟨fun w => absurd w (show ¬ nI 14 = 6 by decide), fun _ => ⟨fun w => absurd w (show ¬ nI 14 = 7 by decide), fun _ => ⟨fun w => absurd w (show ¬ nI 14 = 8 by decide), fun _ => ⟨fun w => absurd w (show ¬ nI 14 = 9 by decide), fun _ => ⟨fun w => absurd w (show ¬ nI 14 = 10 by decide), fun _ => ⟨fun w => absurd w (show ¬ nI 14 = 11 by decide), fun _ => ⟨fun w => absurd w (show ¬ nI 14 = 12 by decide), fun _ => ⟨fun w => absurd w (show ¬ nI 14 = 13 by decide), fun _ => ⟨fun _ => q1, fun w => absurd rfl w⟩⟩⟩⟩⟩⟩⟩⟩⟩⟩⟩⟩⟩⟩, q2⟩
  · subst w
    obtain ⟨qa, qb, qc, q2⟩ := d15_c hk hix h hn hs
    have q1 := And.intro qa (And.intro qb qc)
    rw [cp_57_0, cf_57_0, if_neg (show ¬ nI 15 = 1 by decide), if_neg (show ¬ nI 15 = 2 by decide), if_neg (show ¬ nI 15 = 3 by decide), if_neg (show ¬ nI 15 = 4 by decide), if_neg (show ¬ nI 15 = 5 by decide), if_neg (show ¬ nI 15 = 6 by decide), if_neg (show ¬ nI 15 = 7 by decide), if_neg (show ¬ nI 15 = 8 by decide), if_neg (show ¬ nI 15 = 9 by decide), if_neg (show ¬ nI 15 = 10 by decide), if_neg (show ¬ nI 15 = 11 by decide), if_neg (show ¬ nI 15 = 12 by decide), if_neg (show ¬ nI 15 = 13 by decide), if_neg (show ¬ nI 15 = 14 by decide)]
    exact ⟨⟨fun w => absurd w (show ¬ nI 15 = 1 by decide), fun _ => ⟨fun w => absurd w (show ¬ nI 15 = 2 by decide), fun _ => ⟨fun w => absurd w (show ¬ nI 15 = 3 by decide), fun _ => ⟨fun w => absurd w (show ¬ nI 15 = 4 by decide), fun _ => ⟨fun w => absurd w (show ¬ nI 15 = 5 by decide), fun _ => ⟨fun w => absurd w (show ¬ nI 15 = 6 by decide), fun _ => ⟨fun w => absurd w (show ¬ nI 15 = 7 by decide), fun _ => ⟨fun w => absurd w (show ¬ nI 15 = 8 by decide), fun _ => ⟨fun w => absurd w (show ¬ nI 15 = 9 by decide), fun _ => ⟨fun w => absurd w (show ¬ nI 15 = 10 by decide), fun _ => ⟨fun w => absurd w (show ¬ nI 15 = 11 by decide), fun _ => ⟨fun w => absurd w (show ¬ nI 15 = 12 by decide), fun _ => ⟨fun w => absurd w (show ¬ nI 15 = 13 by decide), fun _ => ⟨fun w => absurd w (show ¬ nI 15 = 14 by decide), fun _ => q1⟩⟩⟩⟩⟩⟩⟩⟩⟩⟩⟩⟩⟩⟩, q2⟩
