/-! PURE (50zzzzzzzc): put: the reference judges any key. -/
section Lr3
variable {N : mz_N} {kt : Nat → Bool} {kb : Nat → Nat → Nat} {k : Nat}
/-- what the reference asks of a key beyond -/
def lgx (kt : Nat → Bool) (kb : Nat → Nat → Nat) (kd ix k : Nat) : Prop := (kd = 6 → ix = 7 → kb k 0 < 197 ∧ blk (kb k) 1) ∧ (kd = 12 → kb k 0 ≠ 0 → apr kt kb k)
theorem lgx_n {kd ix : Nat} {P : Prop} (h6 : kd ≠ 6) (h12 : kd ≠ 12) : P ↔ P ∧ lgx kt kb kd ix k := ⟨fun z => ⟨z, fun y => absurd y h6, fun y => absurd y h12⟩, fun z => z.1⟩
theorem ix6 : ∀ k, k < 135 → kdk k = 6 → ixk k ≤ 7 := by decide +kernel
theorem ix12 : ∀ k, k < 135 → kdk k = 12 → ixk k < 16 ∧ k = 51 + ixk k := by decide +kernel
theorem r_l6 {g : Nat → Nat} {ix : Nat} (hc : ∀ j, j < 28 → N.1 337 (28 * k + j) = by8 (g j)) (hg : ∀ j, g j < 256) (hk : k < 135) (h7 : ix ≤ 7) : (if nI ix < 7 then true else (if cf_612_0 (nI (28 * k)) 0 N < 197 then (if cf_614_0 (nI (28 * k)) 1 N = true then true else false) else false)) = true ↔ (ix = 7 → g 0 < 197 ∧ blk g 1) := by
  obtain ⟨z1, z2⟩ : cp_612_0 (nI (28 * k)) 0 N ∧ cf_612_0 (nI (28 * k)) 0 N = nI (g 0) := r_by (p := 0) hc hg hk (by omega)
  obtain ⟨f1, f2⟩ : cp_614_0 (nI (28 * k)) 1 N ∧ (cf_614_0 (nI (28 * k)) 1 N = true ↔ blk g 1) := r_blk (p := 1) hc hg hk (by omega)
  have g0 := hg 0
  have q1 : nI (g 0) < nI 197 ↔ g 0 < 197 := nI_ltI (by omega) (by omega)
  have q1' : nI (g 0) < 197 ↔ g 0 < 197 := q1
  have q2 : nI ix < nI 7 ↔ ix < 7 := nI_ltI (by omega) (by omega)
  have q2' : nI ix < 7 ↔ ix < 7 := q2
  rw [z2]
  by_cases y : ix < 7
  · rw [if_pos (q2'.mpr y)]
    exact ⟨fun _ z => by omega, fun _ => rfl⟩
  · rw [if_neg (fun z => y (q2'.mp z)), ite_tf, ite_tt, q1', f2]
    exact ⟨fun z _ => z, fun z => z (by omega)⟩
theorem r_lg (hT : ∀ k, k < 135 → N.1 336 k = nI (b1 (kt k))) (hB : ∀ k, k < 135 → kt k = true → ∀ j, j < 28 → N.1 337 (28 * k + j) = by8 (kb k j)) (hg : ∀ k j, kb k j < 256) (hk : k < 135) (hkt : kt k = true) : cp_610_0 (nI k) N ∧ (cf_610_0 (nI k) N = true ↔ lgk (kdk k) (ixk k) (kb k) ∧ lgx kt kb (kdk k) (ixk k) k) := by
  obtain ⟨k1, k2⟩ := kd_r hk
  have k4 := ix_r hk
  obtain ⟨n1, n2, _, _, n5, _⟩ := kdk_ok k hk
  have m28 : (28 : Int32) * nI k = nI (28 * k) := by rw [show (28 : Int32) = nI 28 from rfl, pk_mul]
  have hc := hB k hk hkt
  have hgk := hg k
  have BY : ∀ p, p < 28 → cp_612_0 (nI (28 * k)) (nI p) N ∧ cf_612_0 (nI (28 * k)) (nI p) N = nI (kb k p) := fun p hp => r_by hc hgk hk hp
  have i12 := ix12 k hk
  have i6 : kdk k = 6 → ixk k ≤ 7 := ix6 k hk
  have L12 : kdk k = 12 → (cp_619_0 (nI (28 * k)) (nI (ixk k)) N ∧ (cf_619_0 (nI (28 * k)) (nI (ixk k)) N = true ↔ lg12 (kb k) ∧ (kb k 0 ≠ 0 → apr kt kb k))) := fun w => r_l12 hT hB hg hk hkt (i12 w).1
  rw [cp_610_0, cf_610_0, k2, m28, k4]
  generalize ixk k = ix at n5 L12 i6 ⊢
  generalize kdk k = kd at n1 n2 L12 i6 ⊢
  rcases (show kd = 1 ∨ kd = 2 ∨ kd = 3 ∨ kd = 4 ∨ kd = 5 ∨ kd = 6 ∨ kd = 7 ∨ kd = 8 ∨ kd = 9 ∨ kd = 10 ∨ kd = 11 ∨ kd = 12 ∨ kd = 13 ∨ kd = 14 ∨ kd = 15 by omega) with w | w | w | w | w | w | w | w | w | w | w | w | w | w | w <;> subst w
  · obtain ⟨a1, a2⟩ := r_l1 hc hgk hk
    refine ⟨?_, Iff.trans a2 (lgx_n (by decide) (by decide))⟩
    simp [k1, show (nI 1 = 1) = True from eq_true (by decide), a1]
  · obtain ⟨a1, a2⟩ := r_l2 hc hgk hk
    refine ⟨?_, Iff.trans a2 (lgx_n (by decide) (by decide))⟩
    simp [k1, show (nI 2 = 1) = False from eq_false (by decide), show (nI 2 = 2) = True from eq_true (by decide), a1]
  · obtain ⟨a1, a2⟩ := r_l3 (B := 20) (by omega) hc hgk hk
    refine ⟨?_, Iff.trans a2 (lgx_n (by decide) (by decide))⟩
    simp [k1, show (nI 3 = 1) = False from eq_false (by decide), show (nI 3 = 2) = False from eq_false (by decide), show (nI 3 = 3) = True from eq_true (by decide), show cp_615_0 (nI (28 * k)) 0 24 0 20 N from a1.1, a1.2]
  · obtain ⟨a1, a2⟩ := r_l4 hc hgk hk
    refine ⟨?_, Iff.trans a2 (lgx_n (by decide) (by decide))⟩
    simp [k1, show (nI 4 = 1) = False from eq_false (by decide), show (nI 4 = 2) = False from eq_false (by decide), show (nI 4 = 3) = False from eq_false (by decide), show (nI 4 = 4) = True from eq_true (by decide), a1]
  · obtain ⟨a1, a2⟩ := r_l3 (B := 200) (by omega) hc hgk hk
    refine ⟨?_, Iff.trans a2 (lgx_n (by decide) (by decide))⟩
    simp [k1, show (nI 5 = 1) = False from eq_false (by decide), show (nI 5 = 2) = False from eq_false (by decide), show (nI 5 = 3) = False from eq_false (by decide), show (nI 5 = 4) = False from eq_false (by decide), show (nI 5 = 5) = True from eq_true (by decide), show cp_615_0 (nI (28 * k)) 0 24 0 200 N from a1.1, a1.2]
  · obtain ⟨z1, z2⟩ : cp_612_0 (nI (28 * k)) 0 N ∧ cf_612_0 (nI (28 * k)) 0 N = nI (kb k 0) := BY 0 (by omega)
    obtain ⟨f1, f2⟩ : cp_614_0 (nI (28 * k)) 1 N ∧ (cf_614_0 (nI (28 * k)) 1 N = true ↔ blk (kb k) 1) := r_blk (p := 1) hc hgk hk (by omega)
    have a2 := r_l6 (ix := ix) hc hgk hk (i6 rfl)
    refine ⟨by simp [k1, show (nI 6 = 1) = False from eq_false (by decide), show (nI 6 = 2) = False from eq_false (by decide), show (nI 6 = 3) = False from eq_false (by decide), show (nI 6 = 4) = False from eq_false (by decide), show (nI 6 = 5) = False from eq_false (by decide), show (nI 6 = 6) = True from eq_true (by decide), z1, f1], ?_⟩
    rw [if_neg (show ¬ nI 6 = 1 by decide), if_neg (show ¬ nI 6 = 2 by decide), if_neg (show ¬ nI 6 = 3 by decide), if_neg (show ¬ nI 6 = 4 by decide), if_neg (show ¬ nI 6 = 5 by decide), if_pos (show nI 6 = 6 from rfl), a2]
    exact ⟨fun z => ⟨trivial, fun _ => z, fun y => absurd y (by decide)⟩, fun z => z.2.1 rfl⟩
  · obtain ⟨a1, a2⟩ := r_l7 (ix := ix) (by omega) hc hgk hk
    refine ⟨?_, Iff.trans a2 (lgx_n (by decide) (by decide))⟩
    simp [k1, show (nI 7 = 1) = False from eq_false (by decide), show (nI 7 = 2) = False from eq_false (by decide), show (nI 7 = 3) = False from eq_false (by decide), show (nI 7 = 4) = False from eq_false (by decide), show (nI 7 = 5) = False from eq_false (by decide), show (nI 7 = 6) = False from eq_false (by decide), show (nI 7 = 7) = True from eq_true (by decide), a1]
  · obtain ⟨u0, v0⟩ : cp_617_0 (nI (28 * k)) 0 N ∧ cf_617_0 (nI (28 * k)) 0 N = cf_393_0 (qv8 (kb k) 0) (-1000000000000000) 1000000000000000 := r_i8 (p := 0) hc hgk hk (by omega)
    obtain ⟨u1, v1⟩ : cp_617_0 (nI (28 * k)) 8 N ∧ cf_617_0 (nI (28 * k)) 8 N = cf_393_0 (qv8 (kb k) 8) (-1000000000000000) 1000000000000000 := r_i8 (p := 8) hc hgk hk (by omega)
    obtain ⟨u2, v2⟩ : cp_618_0 (nI (28 * k)) 16 N ∧ cf_618_0 (nI (28 * k)) 16 N = cf_393_0 (qv4 (kb k) 16) 0 100000000 := r_i4 (p := 16) hc hgk hk (by omega)
    obtain ⟨u3, v3⟩ : cp_618_0 (nI (28 * k)) 20 N ∧ cf_618_0 (nI (28 * k)) 20 N = cf_393_0 (qv4 (kb k) 20) 0 100000000 := r_i4 (p := 20) hc hgk hk (by omega)
    obtain ⟨u4, v4⟩ : cp_618_0 (nI (28 * k)) 24 N ∧ cf_618_0 (nI (28 * k)) 24 N = cf_393_0 (qv4 (kb k) 24) 0 100000000 := r_i4 (p := 24) hc hgk hk (by omega)
    refine ⟨by simp [k1, show (nI 8 = 1) = False from eq_false (by decide), show (nI 8 = 2) = False from eq_false (by decide), show (nI 8 = 3) = False from eq_false (by decide), show (nI 8 = 4) = False from eq_false (by decide), show (nI 8 = 5) = False from eq_false (by decide), show (nI 8 = 6) = False from eq_false (by decide), show (nI 8 = 7) = False from eq_false (by decide), show (nI 8 = 8) = True from eq_true (by decide), u0, u1, u2, u3, u4], ?_⟩
    show (if cf_617_0 (nI (28 * k)) 0 N = true then (if cf_617_0 (nI (28 * k)) 8 N = true then (if cf_618_0 (nI (28 * k)) 16 N = true then (if cf_618_0 (nI (28 * k)) 20 N = true then (if cf_618_0 (nI (28 * k)) 24 N = true then true else false) else false) else false) else false) else false) = true ↔ lg8 (kb k) ∧ lgx kt kb 8 ix k
    simp only [v0, v1, v2, v3, v4, ite_tf, and_true]
    exact lgx_n (by decide) (by decide)
  · obtain ⟨u0, v0⟩ : cp_616_0 (nI (28 * k)) 0 4 0 1000000 N ∧ cf_616_0 (nI (28 * k)) 0 4 0 1000000 N = cf_393_0 (qv4 (kb k) 0) 0 1000000 := r_i4 (p := 0) hc hgk hk (by omega)
    obtain ⟨u1, v1⟩ : cp_617_0 (nI (28 * k)) 4 N ∧ cf_617_0 (nI (28 * k)) 4 N = cf_393_0 (qv8 (kb k) 4) (-1000000000000000) 1000000000000000 := r_i8 (p := 4) hc hgk hk (by omega)
    obtain ⟨u2, v2⟩ : cp_617_0 (nI (28 * k)) 12 N ∧ cf_617_0 (nI (28 * k)) 12 N = cf_393_0 (qv8 (kb k) 12) (-1000000000000000) 1000000000000000 := r_i8 (p := 12) hc hgk hk (by omega)
    obtain ⟨u3, v3⟩ : cp_618_0 (nI (28 * k)) 20 N ∧ cf_618_0 (nI (28 * k)) 20 N = cf_393_0 (qv4 (kb k) 20) 0 100000000 := r_i4 (p := 20) hc hgk hk (by omega)
    obtain ⟨u4, v4⟩ : cp_618_0 (nI (28 * k)) 24 N ∧ cf_618_0 (nI (28 * k)) 24 N = cf_393_0 (qv4 (kb k) 24) 0 100000000 := r_i4 (p := 24) hc hgk hk (by omega)
    refine ⟨by simp [k1, show (nI 9 = 1) = False from eq_false (by decide), show (nI 9 = 2) = False from eq_false (by decide), show (nI 9 = 3) = False from eq_false (by decide), show (nI 9 = 4) = False from eq_false (by decide), show (nI 9 = 5) = False from eq_false (by decide), show (nI 9 = 6) = False from eq_false (by decide), show (nI 9 = 7) = False from eq_false (by decide), show (nI 9 = 8) = False from eq_false (by decide), show (nI 9 = 9) = True from eq_true (by decide), u0, u1, u2, u3, u4], ?_⟩
    show (if cf_616_0 (nI (28 * k)) 0 4 0 1000000 N = true then (if cf_617_0 (nI (28 * k)) 4 N = true then (if cf_617_0 (nI (28 * k)) 12 N = true then (if cf_618_0 (nI (28 * k)) 20 N = true then (if cf_618_0 (nI (28 * k)) 24 N = true then true else false) else false) else false) else false) else false) = true ↔ lg9 (kb k) ∧ lgx kt kb 9 ix k
    simp only [v0, v1, v2, v3, v4, ite_tf, and_true]
    exact lgx_n (by decide) (by decide)
  · obtain ⟨u0, v0⟩ : cp_618_0 (nI (28 * k)) 0 N ∧ cf_618_0 (nI (28 * k)) 0 N = cf_393_0 (qv4 (kb k) 0) 0 100000000 := r_i4 (p := 0) hc hgk hk (by omega)
    obtain ⟨u1, v1⟩ : cp_618_0 (nI (28 * k)) 4 N ∧ cf_618_0 (nI (28 * k)) 4 N = cf_393_0 (qv4 (kb k) 4) 0 100000000 := r_i4 (p := 4) hc hgk hk (by omega)
    obtain ⟨u2, v2⟩ : cp_616_0 (nI (28 * k)) 8 4 0 20000 N ∧ cf_616_0 (nI (28 * k)) 8 4 0 20000 N = cf_393_0 (qv4 (kb k) 8) 0 20000 := r_i4 (p := 8) hc hgk hk (by omega)
    obtain ⟨u3, v3⟩ : cp_616_0 (nI (28 * k)) 12 4 0 1000 N ∧ cf_616_0 (nI (28 * k)) 12 4 0 1000 N = cf_393_0 (qv4 (kb k) 12) 0 1000 := r_i4 (p := 12) hc hgk hk (by omega)
    obtain ⟨u4, v4⟩ : cp_616_0 (nI (28 * k)) 16 4 0 1000 N ∧ cf_616_0 (nI (28 * k)) 16 4 0 1000 N = cf_393_0 (qv4 (kb k) 16) 0 1000 := r_i4 (p := 16) hc hgk hk (by omega)
    obtain ⟨u5, v5⟩ : cp_616_0 (nI (28 * k)) 20 4 0 1000 N ∧ cf_616_0 (nI (28 * k)) 20 4 0 1000 N = cf_393_0 (qv4 (kb k) 20) 0 1000 := r_i4 (p := 20) hc hgk hk (by omega)
    obtain ⟨u6, v6⟩ : cp_614_0 (nI (28 * k)) 24 N ∧ (cf_614_0 (nI (28 * k)) 24 N = true ↔ blk (kb k) 24) := r_blk (p := 24) hc hgk hk (by omega)
    refine ⟨by simp [k1, show (nI 10 = 1) = False from eq_false (by decide), show (nI 10 = 2) = False from eq_false (by decide), show (nI 10 = 3) = False from eq_false (by decide), show (nI 10 = 4) = False from eq_false (by decide), show (nI 10 = 5) = False from eq_false (by decide), show (nI 10 = 6) = False from eq_false (by decide), show (nI 10 = 7) = False from eq_false (by decide), show (nI 10 = 8) = False from eq_false (by decide), show (nI 10 = 9) = False from eq_false (by decide), show (nI 10 = 10) = True from eq_true (by decide), u0, u1, u2, u3, u4, u5, u6], ?_⟩
    show (if cf_618_0 (nI (28 * k)) 0 N = true then (if cf_618_0 (nI (28 * k)) 4 N = true then (if cf_616_0 (nI (28 * k)) 8 4 0 20000 N = true then (if cf_616_0 (nI (28 * k)) 12 4 0 1000 N = true then (if cf_616_0 (nI (28 * k)) 16 4 0 1000 N = true then (if cf_616_0 (nI (28 * k)) 20 4 0 1000 N = true then (if cf_614_0 (nI (28 * k)) 24 N = true then true else false) else false) else false) else false) else false) else false) else false) = true ↔ lg10 (kb k) ∧ lgx kt kb 10 ix k
    simp only [v0, v1, v2, v3, v4, v5, v6, ite_tf, and_true]
    refine Iff.trans ?_ (lgx_n (by decide) (by decide))
    unfold lg10
    constructor
    · rintro ⟨i1, i2, i3, i4, i5, i6, i7⟩
      refine ⟨fun t h1 h2 => ?_, i1, i2, i7⟩
      rcases (show t = 0 ∨ t = 1 ∨ t = 2 ∨ t = 3 by omega) with y | y | y | y <;> subst y
      · exact i3
      · exact i4
      · exact i5
      · exact i6
    · rintro ⟨i1, i2, i3, i4⟩
      exact ⟨i2, i3, i1 0 (by omega) (by omega), i1 1 (by omega) (by omega), i1 2 (by omega) (by omega), i1 3 (by omega) (by omega), i4⟩
  · obtain ⟨u0, v0⟩ : cp_616_0 (nI (28 * k)) 0 4 1 100000 N ∧ cf_616_0 (nI (28 * k)) 0 4 1 100000 N = cf_393_0 (qv4 (kb k) 0) 1 100000 := r_i4 (p := 0) hc hgk hk (by omega)
    obtain ⟨u1, v1⟩ : cp_618_0 (nI (28 * k)) 4 N ∧ cf_618_0 (nI (28 * k)) 4 N = cf_393_0 (qv4 (kb k) 4) 0 100000000 := r_i4 (p := 4) hc hgk hk (by omega)
    obtain ⟨u2, v2⟩ : cp_616_0 (nI (28 * k)) 8 4 0 99 N ∧ cf_616_0 (nI (28 * k)) 8 4 0 99 N = cf_393_0 (qv4 (kb k) 8) 0 99 := r_i4 (p := 8) hc hgk hk (by omega)
    obtain ⟨u3, v3⟩ : cp_612_0 (nI (28 * k)) 12 N ∧ cf_612_0 (nI (28 * k)) 12 N = nI (kb k 12) := BY 12 (by omega)
    obtain ⟨u4, v4⟩ : cp_614_0 (nI (28 * k)) 13 N ∧ (cf_614_0 (nI (28 * k)) 13 N = true ↔ blk (kb k) 13) := r_blk (p := 13) hc hgk hk (by omega)
    have g12 := hg k 12
    have q : (nI (kb k 12) < 2) = (kb k 12 < 2) := propext (nI_ltI (b := 2) (by omega) (by omega))
    refine ⟨by simp [k1, show (nI 11 = 1) = False from eq_false (by decide), show (nI 11 = 2) = False from eq_false (by decide), show (nI 11 = 3) = False from eq_false (by decide), show (nI 11 = 4) = False from eq_false (by decide), show (nI 11 = 5) = False from eq_false (by decide), show (nI 11 = 6) = False from eq_false (by decide), show (nI 11 = 7) = False from eq_false (by decide), show (nI 11 = 8) = False from eq_false (by decide), show (nI 11 = 9) = False from eq_false (by decide), show (nI 11 = 10) = False from eq_false (by decide), show (nI 11 = 11) = True from eq_true (by decide), u0, u1, u2, u3, u4], ?_⟩
    show (if cf_616_0 (nI (28 * k)) 0 4 1 100000 N = true then (if cf_618_0 (nI (28 * k)) 4 N = true then (if cf_616_0 (nI (28 * k)) 8 4 0 99 N = true then (if cf_612_0 (nI (28 * k)) 12 N < 2 then (if cf_614_0 (nI (28 * k)) 13 N = true then true else false) else false) else false) else false) else false) = true ↔ lg11 (kb k) ∧ lgx kt kb 11 ix k
    simp only [v0, v1, v2, v3, v4, q, ite_tf, and_true]
    exact lgx_n (by decide) (by decide)
  · obtain ⟨a1, a2⟩ := L12 rfl
    refine ⟨by simp [k1, show (nI 12 = 1) = False from eq_false (by decide), show (nI 12 = 2) = False from eq_false (by decide), show (nI 12 = 3) = False from eq_false (by decide), show (nI 12 = 4) = False from eq_false (by decide), show (nI 12 = 5) = False from eq_false (by decide), show (nI 12 = 6) = False from eq_false (by decide), show (nI 12 = 7) = False from eq_false (by decide), show (nI 12 = 8) = False from eq_false (by decide), show (nI 12 = 9) = False from eq_false (by decide), show (nI 12 = 10) = False from eq_false (by decide), show (nI 12 = 11) = False from eq_false (by decide), show (nI 12 = 12) = True from eq_true (by decide), a1], Iff.trans a2 ⟨fun z => ⟨z.1, fun y => absurd y (by decide), fun _ => z.2⟩, fun z => ⟨z.1, z.2.2 rfl⟩⟩⟩
  · obtain ⟨u0, v0⟩ : cp_612_0 (nI (28 * k)) 0 N ∧ cf_612_0 (nI (28 * k)) 0 N = nI (kb k 0) := BY 0 (by omega)
    obtain ⟨u1, v1⟩ : cp_612_0 (nI (28 * k)) 1 N ∧ cf_612_0 (nI (28 * k)) 1 N = nI (kb k 1) := BY 1 (by omega)
    obtain ⟨u2, v2⟩ : cp_612_0 (nI (28 * k)) 2 N ∧ cf_612_0 (nI (28 * k)) 2 N = nI (kb k 2) := BY 2 (by omega)
    obtain ⟨u3, v3⟩ : cp_614_0 (nI (28 * k)) 3 N ∧ (cf_614_0 (nI (28 * k)) 3 N = true ↔ blk (kb k) 3) := r_blk (p := 3) hc hgk hk (by omega)
    have g0 := hg k 0
    have g1 := hg k 1
    have g2 := hg k 2
    have q : (nI (kb k 0) = 1) = (kb k 0 = 1) := propext (nI_eq (b := 1) (by omega) (by omega))
    have qd : (cf_575_0 (nI (kb k 1)) (nI (kb k 2)) = true) = (kb k 1 < 5 ∧ kb k 2 < 110 ∧ (kb k 1 = 0 ∨ ¬ ge_sd (kb k 2) < 4)) := propext (by
      by_cases w1 : kb k 1 < 5
      · by_cases w2 : kb k 2 < 110
        · rw [(mayd (st := kb k 1) (ed := kb k 2) (by omega) (by omega)).2, decide_eq_true_iff]
          exact ⟨fun z => ⟨w1, w2, z⟩, fun z => z.2.2⟩
        · have n1 : ¬ nI (kb k 2) < 110 := fun z => w2 ((nI_ltI (b := 110) (by omega) (by omega)).mp z)
          have e : cf_464_0 (nI (kb k 1)) (nI (kb k 2)) = false := by
            rw [cf_464_0, if_neg (nI_neg2 (k := kb k 2) (by omega)).2, if_neg n1]
            split <;> rfl
          rw [cf_575_0, e, if_neg (fun z => by cases z)]
          exact ⟨(fun z => by cases z), fun z => absurd z.2.1 w2⟩
      · have n1 : ¬ nI (kb k 1) < 5 := fun z => w1 ((nI_ltI (b := 5) (by omega) (by omega)).mp z)
        have e : cf_464_0 (nI (kb k 1)) (nI (kb k 2)) = false := by
          rw [cf_464_0, cf_465_0, if_neg (nI_neg2 (k := kb k 1) (by omega)).2, if_neg n1, if_neg (fun z => by cases z)]
        rw [cf_575_0, e, if_neg (fun z => by cases z)]
        exact ⟨(fun z => by cases z), fun z => absurd z.1 w1⟩)
    refine ⟨by simp [k1, show (nI 13 = 1) = False from eq_false (by decide), show (nI 13 = 2) = False from eq_false (by decide), show (nI 13 = 3) = False from eq_false (by decide), show (nI 13 = 4) = False from eq_false (by decide), show (nI 13 = 5) = False from eq_false (by decide), show (nI 13 = 6) = False from eq_false (by decide), show (nI 13 = 7) = False from eq_false (by decide), show (nI 13 = 8) = False from eq_false (by decide), show (nI 13 = 9) = False from eq_false (by decide), show (nI 13 = 10) = False from eq_false (by decide), show (nI 13 = 11) = False from eq_false (by decide), show (nI 13 = 12) = False from eq_false (by decide), show (nI 13 = 13) = True from eq_true (by decide), u0, u1, u2, u3], ?_⟩
    show (if cf_612_0 (nI (28 * k)) 0 N = 1 then (if cf_575_0 (cf_612_0 (nI (28 * k)) 1 N) (cf_612_0 (nI (28 * k)) 2 N) = true then (if cf_614_0 (nI (28 * k)) 3 N = true then true else false) else false) else false) = true ↔ lg13 (kb k) ∧ lgx kt kb 13 ix k
    simp only [v0, v1, v2, v3, q, qd, and_assoc, ite_tf, and_true]
    exact lgx_n (by decide) (by decide)
  · obtain ⟨u0, v0⟩ : cp_612_0 (nI (28 * k)) 0 N ∧ cf_612_0 (nI (28 * k)) 0 N = nI (kb k 0) := BY 0 (by omega)
    obtain ⟨u1, v1⟩ : cp_612_0 (nI (28 * k)) 1 N ∧ cf_612_0 (nI (28 * k)) 1 N = nI (kb k 1) := BY 1 (by omega)
    obtain ⟨u2, v2⟩ : cp_612_0 (nI (28 * k)) 2 N ∧ cf_612_0 (nI (28 * k)) 2 N = nI (kb k 2) := BY 2 (by omega)
    obtain ⟨u3, v3⟩ : cp_612_0 (nI (28 * k)) 3 N ∧ cf_612_0 (nI (28 * k)) 3 N = nI (kb k 3) := BY 3 (by omega)
    obtain ⟨u4, v4⟩ : cp_616_0 (nI (28 * k)) 4 4 0 1048575 N ∧ cf_616_0 (nI (28 * k)) 4 4 0 1048575 N = cf_393_0 (qv4 (kb k) 4) 0 1048575 := r_i4 (p := 4) hc hgk hk (by omega)
    obtain ⟨u5, v5⟩ : cp_614_0 (nI (28 * k)) 8 N ∧ (cf_614_0 (nI (28 * k)) 8 N = true ↔ blk (kb k) 8) := r_blk (p := 8) hc hgk hk (by omega)
    have g0 := hg k 0
    have g1 := hg k 1
    have g2 := hg k 2
    have g3 := hg k 3
    have q1 : (nI (kb k 0) = 1) = (kb k 0 = 1) := propext (nI_eq (b := 1) (by omega) (by omega))
    have q2 : (nI (kb k 1) < 24) = (kb k 1 < 24) := propext (nI_ltI (b := 24) (by omega) (by omega))
    have q3 : (nI (kb k 2) < 24) = (kb k 2 < 24) := propext (nI_ltI (b := 24) (by omega) (by omega))
    have q4 : (nI (kb k 3) < 2) = (kb k 3 < 2) := propext (nI_ltI (b := 2) (by omega) (by omega))
    refine ⟨by simp [k1, show (nI 14 = 1) = False from eq_false (by decide), show (nI 14 = 2) = False from eq_false (by decide), show (nI 14 = 3) = False from eq_false (by decide), show (nI 14 = 4) = False from eq_false (by decide), show (nI 14 = 5) = False from eq_false (by decide), show (nI 14 = 6) = False from eq_false (by decide), show (nI 14 = 7) = False from eq_false (by decide), show (nI 14 = 8) = False from eq_false (by decide), show (nI 14 = 9) = False from eq_false (by decide), show (nI 14 = 10) = False from eq_false (by decide), show (nI 14 = 11) = False from eq_false (by decide), show (nI 14 = 12) = False from eq_false (by decide), show (nI 14 = 13) = False from eq_false (by decide), show (nI 14 = 14) = True from eq_true (by decide), u0, u1, u2, u3, u4, u5], ?_⟩
    show (if cf_612_0 (nI (28 * k)) 0 N = 1 then (if cf_612_0 (nI (28 * k)) 1 N < 24 then (if cf_612_0 (nI (28 * k)) 2 N < 24 then (if cf_612_0 (nI (28 * k)) 3 N < 2 then (if cf_616_0 (nI (28 * k)) 4 4 0 1048575 N = true then (if cf_614_0 (nI (28 * k)) 8 N = true then true else false) else false) else false) else false) else false) else false) = true ↔ lg14 (kb k) ∧ lgx kt kb 14 ix k
    simp only [v0, v1, v2, v3, v4, v5, q1, q2, q3, q4, ite_tf, and_true]
    exact lgx_n (by decide) (by decide)
  · obtain ⟨u0, v0⟩ : cp_612_0 (nI (28 * k)) 0 N ∧ cf_612_0 (nI (28 * k)) 0 N = nI (kb k 0) := BY 0 (by omega)
    obtain ⟨u1, v1⟩ : cp_612_0 (nI (28 * k)) 1 N ∧ cf_612_0 (nI (28 * k)) 1 N = nI (kb k 1) := BY 1 (by omega)
    obtain ⟨u2, v2⟩ : cp_612_0 (nI (28 * k)) 2 N ∧ cf_612_0 (nI (28 * k)) 2 N = nI (kb k 2) := BY 2 (by omega)
    obtain ⟨u3, v3⟩ : cp_614_0 (nI (28 * k)) 3 N ∧ (cf_614_0 (nI (28 * k)) 3 N = true ↔ blk (kb k) 3) := r_blk (p := 3) hc hgk hk (by omega)
    have g0 := hg k 0
    have q : (nI (kb k 0) = 1) = (kb k 0 = 1) := propext (nI_eq (b := 1) (by omega) (by omega))
    have pp : ∀ v w, cp_558_0 v w := fun v w => (pt_in (v2 := v) (v3 := w)).1
    refine ⟨by simp [k1, show (nI 15 = 1) = False from eq_false (by decide), show (nI 15 = 2) = False from eq_false (by decide), show (nI 15 = 3) = False from eq_false (by decide), show (nI 15 = 4) = False from eq_false (by decide), show (nI 15 = 5) = False from eq_false (by decide), show (nI 15 = 6) = False from eq_false (by decide), show (nI 15 = 7) = False from eq_false (by decide), show (nI 15 = 8) = False from eq_false (by decide), show (nI 15 = 9) = False from eq_false (by decide), show (nI 15 = 10) = False from eq_false (by decide), show (nI 15 = 11) = False from eq_false (by decide), show (nI 15 = 12) = False from eq_false (by decide), show (nI 15 = 13) = False from eq_false (by decide), show (nI 15 = 14) = False from eq_false (by decide), u0, u1, u2, u3, pp], ?_⟩
    show (if cf_612_0 (nI (28 * k)) 0 N = 1 then (if cf_558_0 (cf_612_0 (nI (28 * k)) 1 N) (cf_612_0 (nI (28 * k)) 2 N) = true then (if cf_614_0 (nI (28 * k)) 3 N = true then true else false) else false) else false) = true ↔ lg15 (kb k) ∧ lgx kt kb 15 ix k
    simp only [v0, v1, v2, v3, q, ite_tf, and_true]
    exact lgx_n (by decide) (by decide)
end Lr3
