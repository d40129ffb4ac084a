/-! PURE (44): the reference makes the bytes of its keys: all of them. -/
/-- cells of the reference that keep things -/
def krl : List Nat := [233, 234, 244, 245, 246, 252, 247, 248, 249, 250, 306, 307, 287, 288, 289, 290, 308, 309, 310, 311, 312, 313, 314, 315, 282, 283, 284]
theorem r_kp_of {N M : mz_N} {H : Kp} (h : ∀ c, krl.contains c = true → M.1 c = N.1 c) (h1 : M.1 232 27 = N.1 232 27 ∧ M.1 232 21 = N.1 232 21) (h2 : ∀ c, [321, 322, 323, 324, 325, 305, 291, 292].contains c = true → M.2 c = N.2 c) (h3 : ∀ c, [2, 122, 123, 124, 125].contains c = true → M.2 232 c = N.2 232 c) (hk : r_kp N H) : r_kp M H := by
  unfold r_kp at hk ⊢
  rw [h 233 rfl, h 234 rfl, h 244 rfl, h 245 rfl, h 246 rfl, h1.1, h 252 rfl, h 247 rfl, h 248 rfl, h2 321 rfl, h2 322 rfl, h2 323 rfl, h2 324 rfl, h2 325 rfl, h3 2 rfl, h3 122 rfl, h3 123 rfl, h3 124 rfl, h3 125 rfl, h1.2, h 249 rfl, h 250 rfl, h2 305 rfl, h 306 rfl, h 307 rfl, h 287 rfl, h 288 rfl, h 289 rfl, h 290 rfl, h2 291 rfl, h2 292 rfl, h 308 rfl, h 309 rfl, h 310 rfl, h 311 rfl, h 313 rfl, h 314 rfl, h 315 rfl, h 312 rfl, h 282 rfl, h 283 rfl, h 284 rfl]
  exact hk
section Mak3
variable {N : mz_N} {H : Kp} {k : Nat}
theorem enc1_r {M : mz_N} (hb : kpb H) (hk : r_kp M H) (h : k < 135) (ht : kxt H (kdk k) (ixk k)) : cp_476_0 (nI k) M ∧ cf_476_0 (nI k) M = mz_sI M 332 (stm (xk H k) (M.1 332)) := by
  obtain ⟨k1, k2, k3, k4, k5, k6, k6b, k7, k8, k8b, k9, k10, k11, k12, k13, k14, k15⟩ := hk
  obtain ⟨h1, h2, -⟩ := kdk_ok k h
  have hix := ixk_lt k h
  obtain ⟨f1, f2⟩ := kd_r h
  have f3 := ix_r h
  unfold xk
  generalize kdk k = kd at *
  generalize ixk k = ix at *
  obtain ⟨t13, t14, t15⟩ := ht
  have hb2 := hb
  obtain ⟨-, -, -, -, -, -, -, -, b7, b8, b9, -, b13, -, b16, -, b20⟩ := hb2
  have hcase : kd = 1 ∨ kd = 2 ∨ kd = 3 ∨ kd = 4 ∨ kd = 5 ∨ kd = 6 ∨ kd = 7 ∨ kd = 8 ∨ kd = 9 ∨ kd = 10 ∨ kd = 11 ∨ kd = 12 ∨ kd = 13 ∨ kd = 14 ∨ kd = 15 := by omega
  show cp_476_2 (nI k) 0 M ∧ cf_476_2 (nI k) 0 M = _
  refine mz_lpn (f := cq_476_2 (nI k)) (P := cd_476_2 (nI k)) (Q := fun t => t = mz_sI M 332 (stm (kx H kd ix) (M.1 332))) 28 (fun t s => ∃ f, s = (nI t, mz_sI M 332 f) ∧ ∀ j, f j = if j < t then by8 0 else M.1 332 j) ?_ ?_ (Nat.zero_le _) ⟨M.1 332, by rw [sI_same]; rfl, fun j => by rw [if_neg (by omega)]⟩
  · rintro t s ht ⟨f, rfl, hf⟩
    have hlt : nI t < 28 := (nI_ltI (b := 28) (by omega) (by omega)).mpr ht
    have e0 : mz_nb 0 = by8 0 := nb_nI 0
    rw [cd_476_2, cq_476_2]
    simp only [hlt, if_true, nI_1, e0]
    refine ⟨⟨fun _ => ib_n ht (by omega), fun w => absurd trivial w⟩, Or.inl ⟨_, rfl, upd f t (by8 0), ?_, ?_⟩⟩
    · rw [wI_s, sI_e, sI_sI, nI_clamp (by omega)]
    · intro j
      rw [up_a, hf]
      by_cases y : j = t
      · rw [if_pos y, if_pos (by omega)]
      · rw [if_neg y]
        by_cases w : j < t
        · rw [if_pos w, if_pos (by omega)]
        · rw [if_neg w, if_neg (by omega)]
  · rintro s ⟨f, rfl, hf⟩
    have hlt : ¬ nI 28 < 28 := by decide
    have ef : f = stm (fun _ => 0) (M.1 332) := funext hf
    rw [cd_476_2, cq_476_2, if_neg hlt]
    simp only [f2, f3, ef]
    rcases hcase with w | w | w | w | w | w | w | w | w | w | w | w | w | w | w
    · subst w
      have hx : ix < 5 := hix
      obtain ⟨q1, q2⟩ := e1_r (M := M) (ix := ix) (o := M.1 332) (H := H) hx hb k1
      rw [if_pos (show nI 1 = 1 from rfl)]
      exact ⟨⟨fun w => absurd w hlt, fun _ => ⟨f1, ⟨fun _ => q1, fun w => absurd rfl w⟩⟩⟩, _, rfl, q2⟩
    · subst w
      have hx : ix < 5 := hix
      obtain ⟨q1, q2⟩ := e2_r (M := M) (ix := ix) (o := M.1 332) (H := H) hx hb k2
      rw [if_neg (show ¬ nI 2 = 1 by decide), if_pos (show nI 2 = 2 from rfl)]
      exact ⟨⟨fun w => absurd w hlt, fun _ => ⟨f1, ⟨fun w => absurd w (show ¬ nI 2 = 1 by decide), fun _ => ⟨fun _ => q1, fun w => absurd rfl w⟩⟩⟩⟩, _, rfl, q2⟩
    · subst w
      have hx : ix < 10 := hix
      obtain ⟨q1, q2⟩ := e3_r (M := M) (ix := ix) (o := M.1 332) (H := H) hx k3
      rw [if_neg (show ¬ nI 3 = 1 by decide), if_neg (show ¬ nI 3 = 2 by decide), if_pos (show nI 3 = 3 from rfl)]
      exact ⟨⟨fun w => absurd w hlt, fun _ => ⟨f1, ⟨fun w => absurd w (show ¬ nI 3 = 1 by decide), fun _ => ⟨fun w => absurd w (show ¬ nI 3 = 2 by decide), fun _ => ⟨fun _ => q1, fun w => absurd rfl w⟩⟩⟩⟩⟩, _, rfl, q2⟩
    · subst w
      have hx : ix < 2 := hix
      obtain ⟨q1, q2⟩ := e4_r (M := M) (ix := ix) (o := M.1 332) (H := H) hx k4
      rw [if_neg (show ¬ nI 4 = 1 by decide), if_neg (show ¬ nI 4 = 2 by decide), if_neg (show ¬ nI 4 = 3 by decide), if_pos (show nI 4 = 4 from rfl)]
      exact ⟨⟨fun w => absurd w hlt, fun _ => ⟨f1, ⟨fun w => absurd w (show ¬ nI 4 = 1 by decide), fun _ => ⟨fun w => absurd w (show ¬ nI 4 = 2 by decide), fun _ => ⟨fun w => absurd w (show ¬ nI 4 = 3 by decide), fun _ => ⟨fun _ => q1, fun w => absurd rfl w⟩⟩⟩⟩⟩⟩, _, rfl, q2⟩
    · subst w
      have hx : ix < 4 := hix
      obtain ⟨q1, q2⟩ := e5_r (M := M) (ix := ix) (o := M.1 332) (H := H) hx k5
      rw [if_neg (show ¬ nI 5 = 1 by decide), if_neg (show ¬ nI 5 = 2 by decide), if_neg (show ¬ nI 5 = 3 by decide), if_neg (show ¬ nI 5 = 4 by decide), if_pos (show nI 5 = 5 from rfl)]
      exact ⟨⟨fun w => absurd w hlt, fun _ => ⟨f1, ⟨fun w => absurd w (show ¬ nI 5 = 1 by decide), fun _ => ⟨fun w => absurd w (show ¬ nI 5 = 2 by decide), fun _ => ⟨fun w => absurd w (show ¬ nI 5 = 3 by decide), fun _ => ⟨fun w => absurd w (show ¬ nI 5 = 4 by decide), fun _ => ⟨fun _ => q1, fun w => absurd rfl w⟩⟩⟩⟩⟩⟩⟩, _, rfl, q2⟩
    · subst w
      have hx : ix < 8 := hix
      obtain ⟨q1, q2⟩ := e6_r (M := M) (ix := ix) (o := M.1 332) (H := H) hx k6 k6b
      rw [if_neg (show ¬ nI 6 = 1 by decide), if_neg (show ¬ nI 6 = 2 by decide), if_neg (show ¬ nI 6 = 3 by decide), if_neg (show ¬ nI 6 = 4 by decide), if_neg (show ¬ nI 6 = 5 by decide), if_pos (show nI 6 = 6 from rfl)]
      exact ⟨⟨fun w => absurd w hlt, fun _ => ⟨f1, ⟨fun w => absurd w (show ¬ nI 6 = 1 by decide), fun _ => ⟨fun w => absurd w (show ¬ nI 6 = 2 by decide), fun _ => ⟨fun w => absurd w (show ¬ nI 6 = 3 by decide), fun _ => ⟨fun w => absurd w (show ¬ nI 6 = 4 by decide), fun _ => ⟨fun w => absurd w (show ¬ nI 6 = 5 by decide), fun _ => ⟨fun _ => q1, fun w => absurd rfl w⟩⟩⟩⟩⟩⟩⟩⟩, _, rfl, q2⟩
    · subst w
      have hx : ix < 2 := hix
      obtain ⟨q1, q2⟩ := e7_r (M := M) (ix := ix) (o := M.1 332) (H := H) hx hb k7
      rw [if_neg (show ¬ nI 7 = 1 by decide), if_neg (show ¬ nI 7 = 2 by decide), if_neg (show ¬ nI 7 = 3 by decide), if_neg (show ¬ nI 7 = 4 by decide), if_neg (show ¬ nI 7 = 5 by decide), if_neg (show ¬ nI 7 = 6 by decide), if_pos (show nI 7 = 7 from rfl)]
      exact ⟨⟨fun w => absurd w hlt, fun _ => ⟨f1, ⟨fun w => absurd w (show ¬ nI 7 = 1 by decide), fun _ => ⟨fun w => absurd w (show ¬ nI 7 = 2 by decide), fun _ => ⟨fun w => absurd w (show ¬ nI 7 = 3 by decide), fun _ => ⟨fun w => absurd w (show ¬ nI 7 = 4 by decide), fun _ => ⟨fun w => absurd w (show ¬ nI 7 = 5 by decide), fun _ => ⟨fun w => absurd w (show ¬ nI 7 = 6 by decide), fun _ => ⟨fun _ => q1, fun w => absurd rfl w⟩⟩⟩⟩⟩⟩⟩⟩⟩, _, rfl, q2⟩
    · subst w
      have hx : ix < 10 := hix
      obtain ⟨q1, q2⟩ := e8_r (M := M) (ix := ix) (o := M.1 332) (H := H) hx (k8 _ (by omega)) (k8b _ hx)
      rw [if_neg (show ¬ nI 8 = 1 by decide), if_neg (show ¬ nI 8 = 2 by decide), if_neg (show ¬ nI 8 = 3 by decide), if_neg (show ¬ nI 8 = 4 by decide), if_neg (show ¬ nI 8 = 5 by decide), if_neg (show ¬ nI 8 = 6 by decide), if_neg (show ¬ nI 8 = 7 by decide)]
      exact ⟨⟨fun w => absurd w hlt, fun _ => ⟨f1, ⟨fun w => absurd w (show ¬ nI 8 = 1 by decide), fun _ => ⟨fun w => absurd w (show ¬ nI 8 = 2 by decide), fun _ => ⟨fun w => absurd w (show ¬ nI 8 = 3 by decide), fun _ => ⟨fun w => absurd w (show ¬ nI 8 = 4 by decide), fun _ => ⟨fun w => absurd w (show ¬ nI 8 = 5 by decide), fun _ => ⟨fun w => absurd w (show ¬ nI 8 = 6 by decide), fun _ => ⟨fun w => absurd w (show ¬ nI 8 = 7 by decide), fun _ => q1⟩⟩⟩⟩⟩⟩⟩⟩⟩, _, rfl, q2⟩
    · subst w
      obtain ⟨q1, q2⟩ := e9_r (M := M) (ix := ix) (o := M.1 332) (H := H) k9
      rw [if_neg (show ¬ nI 9 = 1 by decide), if_neg (show ¬ nI 9 = 2 by decide), if_neg (show ¬ nI 9 = 3 by decide), if_neg (show ¬ nI 9 = 4 by decide), if_neg (show ¬ nI 9 = 5 by decide), if_neg (show ¬ nI 9 = 6 by decide), if_neg (show ¬ nI 9 = 7 by decide)]
      exact ⟨⟨fun w => absurd w hlt, fun _ => ⟨f1, ⟨fun w => absurd w (show ¬ nI 9 = 1 by decide), fun _ => ⟨fun w => absurd w (show ¬ nI 9 = 2 by decide), fun _ => ⟨fun w => absurd w (show ¬ nI 9 = 3 by decide), fun _ => ⟨fun w => absurd w (show ¬ nI 9 = 4 by decide), fun _ => ⟨fun w => absurd w (show ¬ nI 9 = 5 by decide), fun _ => ⟨fun w => absurd w (show ¬ nI 9 = 6 by decide), fun _ => ⟨fun w => absurd w (show ¬ nI 9 = 7 by decide), fun _ => q1⟩⟩⟩⟩⟩⟩⟩⟩⟩, _, rfl, q2⟩
    · subst w
      obtain ⟨q1, q2⟩ := e10_r (M := M) (ix := ix) (o := M.1 332) (H := H) (k8 10 (by omega)) k10
      rw [if_neg (show ¬ nI 10 = 1 by decide), if_neg (show ¬ nI 10 = 2 by decide), if_neg (show ¬ nI 10 = 3 by decide), if_neg (show ¬ nI 10 = 4 by decide), if_neg (show ¬ nI 10 = 5 by decide), if_neg (show ¬ nI 10 = 6 by decide), if_neg (show ¬ nI 10 = 7 by decide)]
      exact ⟨⟨fun w => absurd w hlt, fun _ => ⟨f1, ⟨fun w => absurd w (show ¬ nI 10 = 1 by decide), fun _ => ⟨fun w => absurd w (show ¬ nI 10 = 2 by decide), fun _ => ⟨fun w => absurd w (show ¬ nI 10 = 3 by decide), fun _ => ⟨fun w => absurd w (show ¬ nI 10 = 4 by decide), fun _ => ⟨fun w => absurd w (show ¬ nI 10 = 5 by decide), fun _ => ⟨fun w => absurd w (show ¬ nI 10 = 6 by decide), fun _ => ⟨fun w => absurd w (show ¬ nI 10 = 7 by decide), fun _ => q1⟩⟩⟩⟩⟩⟩⟩⟩⟩, _, rfl, q2⟩
    · subst w
      have hx : ix < 3 := hix
      obtain ⟨q1, q2⟩ := e11_r (M := M) (ix := ix) (o := M.1 332) (H := H) hx (b7 ix) (k11 _ hx)
      rw [if_neg (show ¬ nI 11 = 1 by decide), if_neg (show ¬ nI 11 = 2 by decide), if_neg (show ¬ nI 11 = 3 by decide), if_neg (show ¬ nI 11 = 4 by decide), if_neg (show ¬ nI 11 = 5 by decide), if_neg (show ¬ nI 11 = 6 by decide), if_neg (show ¬ nI 11 = 7 by decide)]
      exact ⟨⟨fun w => absurd w hlt, fun _ => ⟨f1, ⟨fun w => absurd w (show ¬ nI 11 = 1 by decide), fun _ => ⟨fun w => absurd w (show ¬ nI 11 = 2 by decide), fun _ => ⟨fun w => absurd w (show ¬ nI 11 = 3 by decide), fun _ => ⟨fun w => absurd w (show ¬ nI 11 = 4 by decide), fun _ => ⟨fun w => absurd w (show ¬ nI 11 = 5 by decide), fun _ => ⟨fun w => absurd w (show ¬ nI 11 = 6 by decide), fun _ => ⟨fun w => absurd w (show ¬ nI 11 = 7 by decide), fun _ => q1⟩⟩⟩⟩⟩⟩⟩⟩⟩, _, rfl, q2⟩
    · subst w
      have hx : ix < 16 := hix
      obtain ⟨q1, q2⟩ := e12_r (M := M) (ix := ix) (o := M.1 332) (H := H) hx ⟨b8 ix, b9 ix⟩ (k12 _ hx)
      rw [if_neg (show ¬ nI 12 = 1 by decide), if_neg (show ¬ nI 12 = 2 by decide), if_neg (show ¬ nI 12 = 3 by decide), if_neg (show ¬ nI 12 = 4 by decide), if_neg (show ¬ nI 12 = 5 by decide), if_neg (show ¬ nI 12 = 6 by decide), if_neg (show ¬ nI 12 = 7 by decide)]
      exact ⟨⟨fun w => absurd w hlt, fun _ => ⟨f1, ⟨fun w => absurd w (show ¬ nI 12 = 1 by decide), fun _ => ⟨fun w => absurd w (show ¬ nI 12 = 2 by decide), fun _ => ⟨fun w => absurd w (show ¬ nI 12 = 3 by decide), fun _ => ⟨fun w => absurd w (show ¬ nI 12 = 4 by decide), fun _ => ⟨fun w => absurd w (show ¬ nI 12 = 5 by decide), fun _ => ⟨fun w => absurd w (show ¬ nI 12 = 6 by decide), fun _ => ⟨fun w => absurd w (show ¬ nI 12 = 7 by decide), fun _ => q1⟩⟩⟩⟩⟩⟩⟩⟩⟩, _, rfl, q2⟩
    · subst w
      have hx : ix < 20 := hix
      obtain ⟨q1, q2⟩ := e13_r (M := M) (ix := ix) (o := M.1 332) (H := H) hx (b13 ix) ((k13 _ hx).2 (t13 rfl))
      rw [if_neg (show ¬ nI 13 = 1 by decide), if_neg (show ¬ nI 13 = 2 by decide), if_neg (show ¬ nI 13 = 3 by decide), if_neg (show ¬ nI 13 = 4 by decide), if_neg (show ¬ nI 13 = 5 by decide), if_neg (show ¬ nI 13 = 6 by decide), if_neg (show ¬ nI 13 = 7 by decide)]
      exact ⟨⟨fun w => absurd w hlt, fun _ => ⟨f1, ⟨fun w => absurd w (show ¬ nI 13 = 1 by decide), fun _ => ⟨fun w => absurd w (show ¬ nI 13 = 2 by decide), fun _ => ⟨fun w => absurd w (show ¬ nI 13 = 3 by decide), fun _ => ⟨fun w => absurd w (show ¬ nI 13 = 4 by decide), fun _ => ⟨fun w => absurd w (show ¬ nI 13 = 5 by decide), fun _ => ⟨fun w => absurd w (show ¬ nI 13 = 6 by decide), fun _ => ⟨fun w => absurd w (show ¬ nI 13 = 7 by decide), fun _ => q1⟩⟩⟩⟩⟩⟩⟩⟩⟩, _, rfl, q2⟩
    · subst w
      have hx : ix < 40 := hix
      obtain ⟨q1, q2⟩ := e14_r (M := M) (ix := ix) (o := M.1 332) (H := H) hx (b16 ix) ((k14 _ hx).2 (t14 rfl))
      rw [if_neg (show ¬ nI 14 = 1 by decide), if_neg (show ¬ nI 14 = 2 by decide), if_neg (show ¬ nI 14 = 3 by decide), if_neg (show ¬ nI 14 = 4 by decide), if_neg (show ¬ nI 14 = 5 by decide), if_neg (show ¬ nI 14 = 6 by decide), if_neg (show ¬ nI 14 = 7 by decide)]
      exact ⟨⟨fun w => absurd w hlt, fun _ => ⟨f1, ⟨fun w => absurd w (show ¬ nI 14 = 1 by decide), fun _ => ⟨fun w => absurd w (show ¬ nI 14 = 2 by decide), fun _ => ⟨fun w => absurd w (show ¬ nI 14 = 3 by decide), fun _ => ⟨fun w => absurd w (show ¬ nI 14 = 4 by decide), fun _ => ⟨fun w => absurd w (show ¬ nI 14 = 5 by decide), fun _ => ⟨fun w => absurd w (show ¬ nI 14 = 6 by decide), fun _ => ⟨fun w => absurd w (show ¬ nI 14 = 7 by decide), fun _ => q1⟩⟩⟩⟩⟩⟩⟩⟩⟩, _, rfl, q2⟩
    · subst w
      have hx : ix < 8 := hix
      obtain ⟨q1, q2⟩ := e15_r (M := M) (ix := ix) (o := M.1 332) (H := H) hx (b20 ix) ((k15 _ hx).2 (t15 rfl))
      rw [if_neg (show ¬ nI 15 = 1 by decide), if_neg (show ¬ nI 15 = 2 by decide), if_neg (show ¬ nI 15 = 3 by decide), if_neg (show ¬ nI 15 = 4 by decide), if_neg (show ¬ nI 15 = 5 by decide), if_neg (show ¬ nI 15 = 6 by decide), if_neg (show ¬ nI 15 = 7 by decide)]
      exact ⟨⟨fun w => absurd w hlt, fun _ => ⟨f1, ⟨fun w => absurd w (show ¬ nI 15 = 1 by decide), fun _ => ⟨fun w => absurd w (show ¬ nI 15 = 2 by decide), fun _ => ⟨fun w => absurd w (show ¬ nI 15 = 3 by decide), fun _ => ⟨fun w => absurd w (show ¬ nI 15 = 4 by decide), fun _ => ⟨fun w => absurd w (show ¬ nI 15 = 5 by decide), fun _ => ⟨fun w => absurd w (show ¬ nI 15 = 6 by decide), fun _ => ⟨fun w => absurd w (show ¬ nI 15 = 7 by decide), fun _ => q1⟩⟩⟩⟩⟩⟩⟩⟩⟩, _, rfl, q2⟩
theorem enc_r (hb : kpb H) (hk : r_kp N H) (h : k < 135) (ht : kxt H (kdk k) (ixk k)) : encR N (xk H) k := by
  intro M hf
  obtain ⟨f1, f2, f3, f4⟩ := hf
  have hM : r_kp M H := r_kp_of (fun c hc => f1 c (by
    cases w : [232, 329, 330, 331, 332, 341].contains c with
    | false => rfl
    | true =>
      have : c = 232 ∨ c = 329 ∨ c = 330 ∨ c = 331 ∨ c = 332 ∨ c = 341 := by simpa using w
      rcases this with y | y | y | y | y | y <;> subst y <;> cases hc)) ⟨f2 27 (by decide) (by decide) (by decide) (by decide), f2 21 (by decide) (by decide) (by decide) (by decide)⟩ (fun c hc => f3 c (fun y => by subst y; cases hc)) (fun c hc => f4 c (fun y => by subst y; cases hc)) hk
  obtain ⟨p1, p2⟩ := enc1_r hb hM h ht
  exact ⟨p1, _, p2, fun j hj => if_pos hj⟩
end Mak3
