/-! PURE (50zzzzzzzb): put: the reference judges a key (610). -/
section Lr1
variable {N : mz_N} {g : Nat → Nat} {k ix : Nat}
theorem r_l1 (hc : ∀ j, j < 28 → N.1 337 (28 * k + j) = by8 (g j)) (hg : ∀ j, g j < 256) (hk : k < 135) : cp_611_0 (nI (28 * k)) N ∧ (cf_611_0 (nI (28 * k)) N = true ↔ lgA1 g) := by
  have nf : ¬ (false = true) := fun z => by cases z
  obtain ⟨b1', b2⟩ := r_by (p := 27) hc hg hk (by omega)
  have b1'' : cp_612_0 (nI (28 * k)) 27 N := b1'
  have b2' : cf_612_0 (nI (28 * k)) 27 N = nI (g 27) := b2
  have g27 := hg 27
  have q : (nI (g 27) < 16) = (g 27 < 16) := propext (nI_ltI (b := 16) (by omega) (by omega))
  have T : ∀ t, 0 ≤ t → t < 110 → (cd_611_20 (nI (28 * k)) N (true, nI t) ∧ ((ge_sd t < 4 → 2 ≤ g (t / 4) >>> (2 * (t % 4)) % 2 ^ 2) → cq_611_20 (nI (28 * k)) N (true, nI t) = .inl (true, nI (t + 1))) ∧ (¬ (ge_sd t < 4 → 2 ≤ g (t / 4) >>> (2 * (t % 4)) % 2 ^ 2) → cq_611_20 (nI (28 * k)) N (true, nI t) = .inl (false, nI (t + 1)))) := fun t h1 h2 => by
    have l : nI t < 110 := (nI_ltI (b := 110) (by omega) (by omega)).mpr h2
    have e4 : nI t / 4 = nI (t / 4) := by rw [show (4 : Int32) = nI 4 from rfl, pk_div (by omega) (by omega) (by omega)]
    have e5 : 2 * mz_irem (nI t) 4 = nI (2 * (t % 4)) := by rw [show (4 : Int32) = nI 4 from rfl, show (2 : Int32) = nI 2 from rfl, irem_n (by omega) (by omega) (by omega), pk_mul]
    obtain ⟨c1, c2⟩ := r_by (p := t / 4) hc hg hk (by omega)
    have e7 := ex_3 (g (t / 4)) (hg _) (2 * (t % 4)) (by omega)
    have sd : cf_417_0 (nI t) = decide (ge_sd t < 4) := (ge_e t h2).2.2.2.2.2
    have x4 : g (t / 4) >>> (2 * (t % 4)) % 2 ^ 2 < 4 := Nat.mod_lt _ (by omega)
    rw [cd_611_20, cq_611_20]
    simp only [l, if_true, e4, e5, c2, e7, nI_1, sd, cf_611_57, cf_611_61, cf_611_62]
    generalize g (t / 4) >>> (2 * (t % 4)) % 2 ^ 2 = y at x4
    have q : (1 < nI y) = (1 < y) := propext (nI_ltI (a := 1) (by omega) (by omega))
    simp only [q, decide_eq_true_eq]
    refine ⟨⟨fun _ => ⟨fun _ => ⟨fun _ => ⟨c1, fun _ => trivial, fun _ => trivial⟩, fun _ => trivial⟩, fun z => absurd trivial z⟩, fun z => absurd trivial z⟩, fun w => ?_, fun w => ?_⟩
    · by_cases v : ge_sd t < 4
      · rw [if_pos v, if_pos (by have := w v; omega)]
      · rw [if_neg v]
    · by_cases v : ge_sd t < 4
      · rw [if_pos v, if_neg (fun z => w (fun _ => by omega))]
      · exact absurd (fun z => absurd z v) w
  have F : ∀ t, 0 ≤ t → t < 110 → (cd_611_20 (nI (28 * k)) N (false, nI t) ∧ (cq_611_20 (nI (28 * k)) N (false, nI t) = .inl (false, nI (t + 1)) ∨ cq_611_20 (nI (28 * k)) N (false, nI t) = .inr false)) := fun t h1 h2 => by
    have l : nI t < 110 := (nI_ltI (b := 110) (by omega) (by omega)).mpr h2
    rw [cd_611_20, cq_611_20]
    simp only [l, if_true, nI_1, cf_611_57, cf_611_61, cf_611_62]
    exact ⟨⟨fun _ => ⟨fun z => absurd z nf, fun _ => trivial⟩, fun z => absurd trivial z⟩, Or.inl (if_neg nf)⟩
  have E : ∀ c, cd_611_20 (nI (28 * k)) N (c, nI 110) ∧ cq_611_20 (nI (28 * k)) N (c, nI 110) = .inr c := fun c => by
    have l : ¬ nI 110 < 110 := by decide
    rw [cd_611_20, cq_611_20]
    simp only [l, if_false]
    exact ⟨⟨False.elim, fun _ => trivial⟩, trivial⟩
  rw [cp_611_0, cf_611_0, b2', cp_611_17, cp_611_17, cf_611_17, cf_611_17, cp_611_20, cp_611_20, cf_611_20, cf_611_20]
  obtain ⟨a1, a2, a3⟩ := lp_allr (f := cq_611_20 (nI (28 * k)) N) (P := cd_611_20 (nI (28 * k)) N) (rT := true) (rF := false) 0 110 (fun t => ge_sd t < 4 → 2 ≤ g (t / 4) >>> (2 * (t % 4)) % 2 ^ 2) (by omega) T F (E true) (E false)
  obtain ⟨f1, f2⟩ := mz_lpn (f := cq_611_20 (nI (28 * k)) N) (P := cd_611_20 (nI (28 * k)) N) (Q := fun r => r = false) 110 (fun t s => s = (false, nI t)) (fun t s ht e => by
    subst e
    refine ⟨(F t (Nat.zero_le _) ht).1, ?_⟩
    rcases (F t (Nat.zero_le _) ht).2 with y | y
    · exact Or.inl ⟨_, y, rfl⟩
    · exact Or.inr ⟨_, y, rfl⟩) (fun s e => by subst e; exact ⟨(E false).1, _, (E false).2, rfl⟩) (k := 0) (Nat.zero_le _) rfl
  refine ⟨⟨b1'', fun _ => a1, fun _ => f1⟩, ?_⟩
  unfold lgA1
  by_cases w : g 27 < 16
  · rw [if_pos (show nI (g 27) < 16 by rw [q]; exact w)]
    exact ⟨fun z => ⟨(iff_b a2 a3).mp z, w⟩, fun z => (iff_b a2 a3).mpr z.1⟩
  · rw [if_neg (show ¬ nI (g 27) < 16 by rw [q]; exact w)]
    exact ⟨fun z => absurd (f2.symm.trans z) nf, fun z => absurd z.2 w⟩
theorem r_l2 (hc : ∀ j, j < 28 → N.1 337 (28 * k + j) = by8 (g j)) (hg : ∀ j, g j < 256) (hk : k < 135) : cp_613_0 (nI (28 * k)) N ∧ (cf_613_0 (nI (28 * k)) N = true ↔ lg2 g) := by
  have nf : ¬ (false = true) := fun z => by cases z
  obtain ⟨d1, d2⟩ := r_blk (p := 24) hc hg hk (by omega)
  have d1' : cp_614_0 (nI (28 * k)) 24 N := d1
  have d2' : cf_614_0 (nI (28 * k)) 24 N = true ↔ blk g 24 := d2
  have BY : ∀ t, t < 48 → nI t / 2 = nI (t / 2) ∧ cp_612_0 (nI (28 * k)) (nI (t / 2)) N := fun t h2 => ⟨by rw [show (2 : Int32) = nI 2 from rfl, pk_div (by omega) (by omega) (by omega)], (r_by (p := t / 2) hc hg hk (by omega)).1⟩
  have T : ∀ t, 0 ≤ t → t < 48 → (cd_613_10 (nI (28 * k)) N (true, nI t) ∧ ((g (t / 2) >>> (4 * (t % 2)) % 2 ^ 4 < 10 ∨ g (t / 2) >>> (4 * (t % 2)) % 2 ^ 4 = 15) → cq_613_10 (nI (28 * k)) N (true, nI t) = .inl (true, nI (t + 1))) ∧ (¬ (g (t / 2) >>> (4 * (t % 2)) % 2 ^ 4 < 10 ∨ g (t / 2) >>> (4 * (t % 2)) % 2 ^ 4 = 15) → cq_613_10 (nI (28 * k)) N (true, nI t) = .inl (false, nI (t + 1)))) := fun t h1 h2 => by
    have l : nI t < 48 := (nI_ltI (b := 48) (by omega) (by omega)).mpr h2
    have e4 : nI t / 2 = nI (t / 2) := by rw [show (2 : Int32) = nI 2 from rfl, pk_div (by omega) (by omega) (by omega)]
    have e5 : 4 * mz_irem (nI t) 2 = nI (4 * (t % 2)) := by rw [show (4 : Int32) = nI 4 from rfl, show (2 : Int32) = nI 2 from rfl, irem_n (by omega) (by omega) (by omega), pk_mul]
    obtain ⟨c1, c2⟩ := r_by (p := t / 2) hc hg hk (by omega)
    have e7 := ex_15 (g (t / 2)) (hg _) (4 * (t % 2)) (by omega)
    have x4 : g (t / 2) >>> (4 * (t % 2)) % 2 ^ 4 < 16 := Nat.mod_lt _ (by omega)
    rw [cd_613_10, cq_613_10]
    simp only [l, if_true, e4, e5, c2, e7, nI_1, cf_613_53, cf_613_57, cf_613_58]
    generalize g (t / 2) >>> (4 * (t % 2)) % 2 ^ 4 = y at x4
    have q1 : (nI y < 10) = (y < 10) := propext (nI_ltI (b := 10) (by omega) (by omega))
    have q2 : (nI y = 15) = (y = 15) := propext (nI_eq (b := 15) (by omega) (by omega))
    simp only [q1, q2]
    refine ⟨⟨fun _ => ⟨c1, fun _ => ⟨fun _ => trivial, fun _ => ⟨fun _ => trivial, fun _ => trivial⟩⟩, fun z => absurd trivial z⟩, fun z => absurd trivial z⟩, fun w => ?_, fun w => ?_⟩
    · by_cases v : y < 10
      · rw [if_pos v]
      · rw [if_neg v, if_pos (by omega)]
    · rw [if_neg (by omega), if_neg (by omega)]
  have F : ∀ t, 0 ≤ t → t < 48 → (cd_613_10 (nI (28 * k)) N (false, nI t) ∧ (cq_613_10 (nI (28 * k)) N (false, nI t) = .inl (false, nI (t + 1)) ∨ cq_613_10 (nI (28 * k)) N (false, nI t) = .inr false)) := fun t h1 h2 => by
    have l : nI t < 48 := (nI_ltI (b := 48) (by omega) (by omega)).mpr h2
    obtain ⟨y1, y2⟩ := BY t h2
    rw [cd_613_10, cq_613_10]
    simp only [l, if_true, nI_1, cf_613_53, cf_613_57, cf_613_58, y1]
    exact ⟨⟨fun _ => ⟨y2, fun z => absurd z nf, fun _ => trivial⟩, fun z => absurd trivial z⟩, Or.inl (if_neg nf)⟩
  have E : ∀ c, cd_613_10 (nI (28 * k)) N (c, nI 48) ∧ cq_613_10 (nI (28 * k)) N (c, nI 48) = .inr c := fun c => by
    have l : ¬ nI 48 < 48 := by decide
    rw [cd_613_10, cq_613_10]
    simp only [l, if_false]
    exact ⟨⟨False.elim, fun _ => trivial⟩, trivial⟩
  rw [cp_613_0, cf_613_0, cp_613_10, cf_613_10]
  obtain ⟨a1, a2, a3⟩ := lp_allr (f := cq_613_10 (nI (28 * k)) N) (P := cd_613_10 (nI (28 * k)) N) (rT := true) (rF := false) 0 48 (fun t => g (t / 2) >>> (4 * (t % 2)) % 2 ^ 4 < 10 ∨ g (t / 2) >>> (4 * (t % 2)) % 2 ^ 4 = 15) (by omega) T F (E true) (E false)
  obtain ⟨f1, f2⟩ := mz_lpn (f := cq_613_10 (nI (28 * k)) N) (P := cd_613_10 (nI (28 * k)) N) (Q := fun r => r = false) 48 (fun t s => s = (false, nI t)) (fun t s ht e => by
    subst e
    refine ⟨(F t (Nat.zero_le _) ht).1, ?_⟩
    rcases (F t (Nat.zero_le _) ht).2 with y | y
    · exact Or.inl ⟨_, y, rfl⟩
    · exact Or.inr ⟨_, y, rfl⟩) (fun s e => by subst e; exact ⟨(E false).1, _, (E false).2, rfl⟩) (k := 0) (Nat.zero_le _) rfl
  unfold lg2
  cases e : cf_614_0 (nI (28 * k)) 24 N with
  | true =>
    exact ⟨⟨d1', a1⟩, fun z => ⟨(iff_b a2 a3).mp z, d2'.mp e⟩, fun z => (iff_b a2 a3).mpr z.1⟩
  | false =>
    exact ⟨⟨d1', f1⟩, fun z => absurd (f2.symm.trans z) nf, fun z => absurd (e.symm.trans (d2'.mpr z.2)) nf⟩
theorem r_l3 {B : Nat} (hB : B < 256) (hc : ∀ j, j < 28 → N.1 337 (28 * k + j) = by8 (g j)) (hg : ∀ j, g j < 256) (hk : k < 135) : (cp_615_0 (nI (28 * k)) 0 24 0 (nI B) N ∧ cp_614_0 (nI (28 * k)) 24 N) ∧ ((if cf_615_0 (nI (28 * k)) 0 24 0 (nI B) N = true then (if cf_614_0 (nI (28 * k)) 24 N = true then true else false) else false) = true ↔ lg3 g B) := by
  obtain ⟨d1, d2⟩ := r_blk (p := 24) hc hg hk (by omega)
  have d2' : cf_614_0 (nI (28 * k)) 24 N = true ↔ blk g 24 := d2
  obtain ⟨a1, a2⟩ := r_rng (p := 0) (n := 24) (lo := 0) (hi := B) hc hg hk (by omega) (by omega) (by omega) hB
  have a2' : cf_615_0 (nI (28 * k)) 0 24 0 (nI B) N = true ↔ ∀ j, 0 ≤ j → j < 24 → 0 ≤ g j ∧ g j ≤ B := a2
  refine ⟨⟨a1, d1⟩, ?_⟩
  simp only [ite_tf, a2', d2', and_true]
  unfold lg3
  exact ⟨fun z => ⟨fun t h1 h2 => (z.1 t h1 h2).2, z.2⟩, fun z => ⟨fun t h1 h2 => ⟨Nat.zero_le _, z.1 t h1 h2⟩, z.2⟩⟩
theorem r_l4 (hc : ∀ j, j < 28 → N.1 337 (28 * k + j) = by8 (g j)) (hg : ∀ j, g j < 256) (hk : k < 135) : cp_610_141 (nI (28 * k)) true 0 N ∧ (cf_610_141 (nI (28 * k)) true 0 N = true ↔ lg4 g) := by
  have nf : ¬ (false = true) := fun z => by cases z
  obtain ⟨d1, d2⟩ := r_blk (p := 24) hc hg hk (by omega)
  have d1' : cp_614_0 (nI (28 * k)) 24 N := d1
  have d2' : cf_614_0 (nI (28 * k)) 24 N = true ↔ blk g 24 := d2
  rw [cp_610_141, cf_610_141]
  obtain ⟨a1, a2, a3⟩ := lp_allr (f := cq_610_141 (nI (28 * k)) N) (P := cd_610_141 (nI (28 * k)) N) (rT := cf_614_0 (nI (28 * k)) 24 N) (rF := false) 0 12 (fun t => cf_393_0 (qv2 g (2 * t)) (-400) 500 = true) (by omega) (fun t h1 h2 => by
    have l : nI t < 12 := (nI_ltI (b := 12) (by omega) (by omega)).mpr h2
    obtain ⟨c1, c2⟩ := r_i2 (p := 2 * t) (a := -400) (b := 500) hc hg hk (by omega)
    have e2 : 2 * nI t = nI (2 * t) := by rw [show (2 : Int32) = nI 2 from rfl, pk_mul]
    rw [cd_610_141, cq_610_141]
    simp only [l, if_true, e2, c2, nI_1, cf_610_177, cf_610_178]
    exact ⟨⟨fun _ => ⟨fun _ => ⟨c1, fun _ => trivial, fun _ => trivial⟩, fun z => absurd trivial z⟩, fun z => absurd trivial z⟩, fun w => by rw [if_pos w], fun w => by rw [if_neg w]⟩) (fun t h1 h2 => by
    have l : nI t < 12 := (nI_ltI (b := 12) (by omega) (by omega)).mpr h2
    rw [cd_610_141, cq_610_141]
    simp only [l, if_true, nI_1, cf_610_177, cf_610_178]
    exact ⟨⟨fun _ => ⟨fun z => absurd z nf, fun _ => trivial⟩, fun z => absurd trivial z⟩, Or.inl (if_neg nf)⟩) (by
    have l : ¬ nI 12 < 12 := by decide
    rw [cd_610_141, cq_610_141]
    simp only [l, if_false, if_true]
    refine ⟨⟨False.elim, fun _ => ⟨fun _ => d1', fun z => absurd trivial z⟩⟩, ?_⟩
    cases e : cf_614_0 (nI (28 * k)) 24 N <;> rfl) (by
    have l : ¬ nI 12 < 12 := by decide
    rw [cd_610_141, cq_610_141]
    simp only [l, if_false]
    exact ⟨⟨False.elim, fun _ => ⟨fun z => absurd z nf, fun _ => trivial⟩⟩, if_neg nf⟩)
  refine ⟨a1, iff_b (fun h => (a2 h.1).trans (d2'.mpr h.2)) (fun h => ?_)⟩
  by_cases w : ∀ t, 0 ≤ t → t < 12 → cf_393_0 (qv2 g (2 * t)) (-400) 500 = true
  · refine (a2 w).trans ?_
    cases e : cf_614_0 (nI (28 * k)) 24 N with
    | true => exact absurd ⟨w, d2'.mp e⟩ h
    | false => rfl
  · exact a3 w
theorem r_l7 (hx : ix < 40) (hc : ∀ j, j < 28 → N.1 337 (28 * k + j) = by8 (g j)) (hg : ∀ j, g j < 256) (hk : k < 135) : cp_610_279 (nI ix) (nI (28 * k)) true 0 N ∧ (cf_610_279 (nI ix) (nI (28 * k)) true 0 N = true ↔ lg7 ix g) := by
  have nf : ¬ (false = true) := fun z => by cases z
  unfold lg7
  rw [cp_610_279, cf_610_279]
  by_cases w0 : ix = 0
  · obtain ⟨d1, d2⟩ := r_blk (p := 22) hc hg hk (by omega)
    have d1' : cp_614_0 (nI (28 * k)) 22 N := d1
    have d2' : cf_614_0 (nI (28 * k)) 22 N = true ↔ blk g 22 := d2
    have z0 : nI ix = 0 := by rw [w0]; rfl
    rw [if_pos w0, z0]
    obtain ⟨a1, a2, a3⟩ := lp_allr (f := cq_610_279 0 (nI (28 * k)) N) (P := cd_610_279 0 (nI (28 * k)) N) (rT := cf_614_0 (nI (28 * k)) 22 N) (rF := false) 0 11 (fun t => cf_393_0 (qv2 g (2 * t)) 1 500 = true) (by omega) (fun t h1 h2 => by
      have l : nI t < 11 := (nI_ltI (b := 11) (by omega) (by omega)).mpr h2
      obtain ⟨c1, c2⟩ := r_i2 (p := 2 * t) (a := 1) (b := 500) hc hg hk (by omega)
      have e2 : 2 * nI t = nI (2 * t) := by rw [show (2 : Int32) = nI 2 from rfl, pk_mul]
      rw [cd_610_279, cq_610_279]
      simp only [l, if_true, e2, c2, nI_1, cf_610_317, cf_610_318]
      exact ⟨⟨fun _ => ⟨fun _ => ⟨fun _ => ⟨c1, fun _ => trivial, fun _ => trivial⟩, fun z => absurd trivial z⟩, fun z => absurd trivial z⟩, fun z => absurd trivial z⟩, fun w => by rw [if_pos w], fun w => by rw [if_neg w]⟩) (fun t h1 h2 => by
      have l : nI t < 11 := (nI_ltI (b := 11) (by omega) (by omega)).mpr h2
      rw [cd_610_279, cq_610_279]
      simp only [l, if_true, nI_1, cf_610_317, cf_610_318]
      exact ⟨⟨fun _ => ⟨fun _ => ⟨fun z => absurd z nf, fun _ => trivial⟩, fun z => absurd trivial z⟩, fun z => absurd trivial z⟩, Or.inl (if_neg nf)⟩) (by
      have l : ¬ nI 11 < 11 := by decide
      rw [cd_610_279, cq_610_279]
      simp only [l, if_false, cf_610_326, cp_610_326, if_true]
      refine ⟨⟨False.elim, fun _ => ⟨fun _ => ⟨fun _ => d1', fun z => absurd trivial z⟩, fun z => absurd trivial z⟩⟩, ?_⟩
      cases e : cf_614_0 (nI (28 * k)) 22 N <;> rfl) (by
      have l : ¬ nI 11 < 11 := by decide
      rw [cd_610_279, cq_610_279]
      simp only [l, if_false, cf_610_326, cp_610_326, if_true]
      exact ⟨⟨False.elim, fun _ => ⟨fun _ => ⟨fun z => absurd z nf, fun _ => trivial⟩, fun z => absurd trivial z⟩⟩, rfl⟩)
    refine ⟨a1, iff_b (fun h => (a2 h.1).trans (d2'.mpr h.2)) (fun h => ?_)⟩
    by_cases w : ∀ t, 0 ≤ t → t < 11 → cf_393_0 (qv2 g (2 * t)) 1 500 = true
    · refine (a2 w).trans ?_
      cases e : cf_614_0 (nI (28 * k)) 22 N with
      | true => exact absurd ⟨w, d2'.mp e⟩ h
      | false => rfl
    · exact a3 w
  · obtain ⟨d1, d2⟩ := r_blk (p := 11) hc hg hk (by omega)
    have d1' : cp_614_0 (nI (28 * k)) 11 N := d1
    have d2' : cf_614_0 (nI (28 * k)) 11 N = true ↔ blk g 11 := d2
    obtain ⟨a1, a2⟩ := r_rng (p := 0) (n := 11) (lo := 0) (hi := 9) hc hg hk (by omega) (by omega) (by omega) (by omega)
    have a1' : cp_615_0 (nI (28 * k)) 0 11 0 9 N := a1
    have a2' : cf_615_0 (nI (28 * k)) 0 11 0 9 N = true ↔ ∀ j, 0 ≤ j → j < 11 → 0 ≤ g j ∧ g j ≤ 9 := a2
    have z0 : ¬ nI ix = 0 := fun z => w0 ((nI_eq0 (by omega)).mp z)
    have l : (0 : Int32) < 11 := by decide
    rw [if_neg w0]
    obtain ⟨b1', b2⟩ := mz_lpn (f := cq_610_279 (nI ix) (nI (28 * k)) N) (P := cd_610_279 (nI ix) (nI (28 * k)) N) (Q := fun r => r = true ↔ (∀ t, 0 ≤ t → t < 11 → g t ≤ 9) ∧ blk g 11) 0 (fun t s => s = (true, 0)) (fun t s ht => absurd ht (Nat.not_lt_zero _)) (fun s e => by
      subst e
      rw [cd_610_279, cq_610_279]
      simp only [l, if_true, z0, if_false, cf_610_326, cp_610_326]
      refine ⟨⟨fun _ => ⟨False.elim, fun _ => ⟨False.elim, fun _ => ⟨a1', fun _ => d1', fun _ => trivial⟩⟩⟩, fun z => absurd trivial z⟩, _, rfl, ?_⟩
      simp only [ite_tf, a2', d2', and_true]
      exact ⟨fun z => ⟨fun t h1 h2 => (z.1 t h1 h2).2, z.2⟩, fun z => ⟨fun t h1 h2 => ⟨Nat.zero_le _, z.1 t h1 h2⟩, z.2⟩⟩) (k := 0) (Nat.le_refl _) rfl
    exact ⟨b1', b2⟩
end Lr1
/-- a ticket's number isn't that of an earlier one -/
def apr (kt : Nat → Bool) (kb : Nat → Nat → Nat) (k : Nat) : Prop := ∀ j, 0 ≤ j → j < ixk k → (kt (51 + j) = true → kb (51 + j) 0 ≠ 0 → num (kb (51 + j)) 8 4 ≠ num (kb k) 8 4)
section Lr2
variable {N : mz_N} {kt : Nat → Bool} {kb : Nat → Nat → Nat} {g : Nat → Nat} {k ix : Nat}
theorem r_l12 (hT : ∀ k, k < 135 → N.1 336 k = nI (b1 (kt k))) (hB : ∀ k, k < 135 → kt k = true → ∀ j, j < 28 → N.1 337 (28 * k + j) = by8 (kb k j)) (hg : ∀ k j, kb k j < 256) (hk : k < 135) (hkt : kt k = true) (hx : ixk k < 16) : cp_619_0 (nI (28 * k)) (nI (ixk k)) N ∧ (cf_619_0 (nI (28 * k)) (nI (ixk k)) N = true ↔ lg12 (kb k) ∧ (kb k 0 ≠ 0 → apr kt kb k)) := by
  have nf : ¬ (false = true) := fun z => by cases z
  have hc := hB k hk hkt
  have hgk := hg k
  have BY : ∀ p, p < 28 → cp_612_0 (nI (28 * k)) (nI p) N ∧ cf_612_0 (nI (28 * k)) (nI p) N = nI (kb k p) := fun p hp => r_by hc hgk hk hp
  obtain ⟨z1, z2⟩ : cp_612_0 (nI (28 * k)) 0 N ∧ cf_612_0 (nI (28 * k)) 0 N = nI (kb k 0) := BY 0 (by omega)
  obtain ⟨y1, y2⟩ : cp_612_0 (nI (28 * k)) 1 N ∧ cf_612_0 (nI (28 * k)) 1 N = nI (kb k 1) := BY 1 (by omega)
  obtain ⟨x1, x2⟩ : cp_612_0 (nI (28 * k)) 2 N ∧ cf_612_0 (nI (28 * k)) 2 N = nI (kb k 2) := BY 2 (by omega)
  obtain ⟨w1, w2⟩ : cp_612_0 (nI (28 * k)) 3 N ∧ cf_612_0 (nI (28 * k)) 3 N = nI (kb k 3) := BY 3 (by omega)
  obtain ⟨a1, a2⟩ : cp_616_0 (nI (28 * k)) 4 4 0 2000000 N ∧ cf_616_0 (nI (28 * k)) 4 4 0 2000000 N = cf_393_0 (qv4 (kb k) 4) 0 2000000 := r_i4 (p := 4) hc hgk hk (by omega)
  obtain ⟨c1, c2⟩ : cp_616_0 (nI (28 * k)) 8 4 0 1000000000 N ∧ cf_616_0 (nI (28 * k)) 8 4 0 1000000000 N = cf_393_0 (qv4 (kb k) 8) 0 1000000000 := r_i4 (p := 8) hc hgk hk (by omega)
  obtain ⟨f1, f2⟩ : cp_614_0 (nI (28 * k)) 12 N ∧ (cf_614_0 (nI (28 * k)) 12 N = true ↔ blk (kb k) 12) := r_blk (p := 12) hc hgk hk (by omega)
  obtain ⟨h1, h2⟩ : cp_614_0 (nI (28 * k)) 0 N ∧ (cf_614_0 (nI (28 * k)) 0 N = true ↔ blk (kb k) 0) := r_blk (p := 0) hc hgk hk (by omega)
  obtain ⟨n1, n2⟩ : cp_423_0 337 3780 (nI (28 * k) + 8) 4 N ∧ cf_423_0 337 3780 (nI (28 * k) + 8) 4 N = lN (num (kb k) 8 4) := r_num (p := 8) (n := 4) hc hgk hk (by omega) (by omega)
  have e12 : cf_420_0 12 = nI 51 := rfl
  have l4 : ∀ k', num (kb k') 8 4 < 2 ^ 32 := fun k' => num_lt (n := 4) (fun i _ => hg k' _)
  -- the loop over earlier tickets
  have T : ∀ t, 0 ≤ t → t < ixk k → (cd_619_102 (nI (28 * k)) (nI (ixk k)) N (true, nI t) ∧ ((kt (51 + t) = true → kb (51 + t) 0 ≠ 0 → num (kb (51 + t)) 8 4 ≠ num (kb k) 8 4) → cq_619_102 (nI (28 * k)) (nI (ixk k)) N (true, nI t) = .inl (true, nI (t + 1))) ∧ (¬ (kt (51 + t) = true → kb (51 + t) 0 ≠ 0 → num (kb (51 + t)) 8 4 ≠ num (kb k) 8 4) → cq_619_102 (nI (28 * k)) (nI (ixk k)) N (true, nI t) = .inl (false, nI (t + 1)))) := fun t t1 t2 => by
    have l : nI t < nI (ixk k) := (nI_ltI (by omega) (by omega)).mpr t2
    have e1 : cf_420_0 12 + nI t = nI (51 + t) := by rw [e12, nI_add]
    have e2 : (28 : Int32) * nI (51 + t) = nI (28 * (51 + t)) := by rw [show (28 : Int32) = nI 28 from rfl, pk_mul]
    have ib : mz_ib (nI (51 + t)) 135 := ib_n (by omega) (by omega)
    have ib2 : mz_ib (nI (28 * (51 + t))) 3780 := ib_n (by omega) (by omega)
    have g336 : mz_gI N 336 (nI (51 + t)) = nI (b1 (kt (51 + t))) := by rw [gI_a, nI_clamp (by omega)]; exact hT _ (by omega)
    have gz : mz_gZ N 336 (nI (51 + t)) = kt (51 + t) := by rw [gZ_a, nI_clamp (by omega), hT _ (by omega)]; cases kt (51 + t) <;> rfl
    rw [cd_619_102, cq_619_102]
    simp only [l, if_true, e1, e2, g336, gz, cf_619_177, cf_619_182, nI_1]
    by_cases v : kt (51 + t) = true
    · have hcj := hB (51 + t) (by omega) v
      have g337 : mz_gI N 337 (nI (28 * (51 + t))) = by8 (kb (51 + t) 0) := by rw [gI_a, nI_clamp (by omega)]; exact hcj 0 (by omega)
      have q0 : (by8 (kb (51 + t) 0) = 0) = (kb (51 + t) 0 = 0) := propext (by8_0 _ (hg _ _)).1
      obtain ⟨m1, m2⟩ : cp_423_0 337 3780 (nI (28 * (51 + t)) + 8) 4 N ∧ cf_423_0 337 3780 (nI (28 * (51 + t)) + 8) 4 N = lN (num (kb (51 + t)) 8 4) := r_num (k := 51 + t) (p := 8) (n := 4) hcj (hg _) (by omega) (by omega) (by omega)
      have la := l4 (51 + t)
      have lb' := l4 k
      have qe : (lN (num (kb (51 + t)) 8 4) = lN (num (kb k) 8 4)) = (num (kb (51 + t)) 8 4 = num (kb k) 8 4) := propext (lN_e (by omega) (by omega))
      simp only [g337, q0, m2, n2, qe]
      rw [if_pos v]
      refine ⟨⟨fun _ => ⟨fun _ => ⟨ib, z01_b _, fun _ => ⟨ib2, fun _ => trivial, fun _ => ⟨m1, n1, fun _ => trivial, fun _ => trivial⟩⟩, fun z => absurd v z⟩, fun z => absurd trivial z⟩, fun z => absurd trivial z⟩, fun w => ?_, fun w => ?_⟩
      · by_cases u : kb (51 + t) 0 = 0
        · rw [if_pos u]
        · rw [if_neg u, if_neg (w v u)]
      · by_cases u : kb (51 + t) 0 = 0
        · exact absurd (fun _ z => absurd u z) w
        · by_cases y : num (kb (51 + t)) 8 4 = num (kb k) 8 4
          · rw [if_neg u, if_pos y]
          · exact absurd (fun _ _ => y) w
    · rw [if_neg v]
      refine ⟨⟨fun _ => ⟨fun _ => ⟨ib, z01_b _, fun z => absurd z v, fun _ => trivial⟩, fun z => absurd trivial z⟩, fun z => absurd trivial z⟩, fun w => rfl, fun w => ?_⟩
      exact absurd (fun z => absurd z v) w
  have F : ∀ t, 0 ≤ t → t < ixk k → (cd_619_102 (nI (28 * k)) (nI (ixk k)) N (false, nI t) ∧ (cq_619_102 (nI (28 * k)) (nI (ixk k)) N (false, nI t) = .inl (false, nI (t + 1)) ∨ cq_619_102 (nI (28 * k)) (nI (ixk k)) N (false, nI t) = .inr false)) := fun t t1 t2 => by
    have l : nI t < nI (ixk k) := (nI_ltI (by omega) (by omega)).mpr t2
    rw [cd_619_102, cq_619_102]
    simp only [l, if_true]
    exact ⟨⟨fun _ => ⟨fun z => absurd z nf, fun _ => trivial⟩, fun z => absurd trivial z⟩, Or.inr (if_neg nf)⟩
  have E : ∀ c, cd_619_102 (nI (28 * k)) (nI (ixk k)) N (c, nI (ixk k)) ∧ cq_619_102 (nI (28 * k)) (nI (ixk k)) N (c, nI (ixk k)) = .inr c := fun c => by
    have l : ¬ nI (ixk k) < nI (ixk k) := fun z => by have := (nI_ltI (by omega) (by omega)).mp z; omega
    rw [cd_619_102, cq_619_102]
    simp only [l, if_false]
    exact ⟨⟨False.elim, fun _ => trivial⟩, trivial⟩
  obtain ⟨d1, d2, d3⟩ := lp_allr (f := cq_619_102 (nI (28 * k)) (nI (ixk k)) N) (P := cd_619_102 (nI (28 * k)) (nI (ixk k)) N) (rT := true) (rF := false) 0 (ixk k) (fun t => kt (51 + t) = true → kb (51 + t) 0 ≠ 0 → num (kb (51 + t)) 8 4 ≠ num (kb k) 8 4) (by omega) T F (E true) (E false)
  obtain ⟨k1, k2⟩ := mz_lpn (f := cq_619_102 (nI (28 * k)) (nI (ixk k)) N) (P := cd_619_102 (nI (28 * k)) (nI (ixk k)) N) (Q := fun r => r = false) (ixk k) (fun t s => s = (false, nI t)) (fun t s ht e => by
    subst e
    refine ⟨(F t (Nat.zero_le _) ht).1, ?_⟩
    rcases (F t (Nat.zero_le _) ht).2 with y | y
    · exact Or.inl ⟨_, y, rfl⟩
    · exact Or.inr ⟨_, y, rfl⟩) (fun s e => by subst e; exact ⟨(E false).1, _, (E false).2, rfl⟩) (k := 0) (Nat.zero_le _) rfl
  have P97 : cp_619_97 (nI (28 * k)) (nI (ixk k)) N := k1
  have V97 : cf_619_97 (nI (28 * k)) (nI (ixk k)) N = false := k2
  have P98 : cp_619_98 true (nI (28 * k)) (nI (ixk k)) N := d1
  have V98 : cf_619_98 true (nI (28 * k)) (nI (ixk k)) N = true ↔ apr kt kb k := iff_b d2 d3
  have g0 := hg k 0
  have g1 := hg k 1
  have g2 := hg k 2
  have g3 := hg k 3
  have q0 : (nI (kb k 0) = 0) = (kb k 0 = 0) := propext (nI_eq0 (by omega))
  have q1 : (nI (kb k 0) = 1) = (kb k 0 = 1) := propext (nI_eq (b := 1) (by omega) (by omega))
  have q4 : (nI (kb k 3) < 4) = (kb k 3 ≤ 3) := propext ((nI_ltI (b := 4) (by omega) (by omega)).trans ⟨fun z => by omega, fun z => by omega⟩)
  have qc : cf_491_0 (nI (kb k 1)) (nI (kb k 2)) = decide (kb k 1 < 5 ∧ kb k 2 < 48) := by
    rw [cf_491_0, cf_465_0]
    have n0 : ¬ nI (kb k 1) < 0 := (nI_neg2 (by omega)).2
    have n1 : ¬ nI (kb k 2) < 0 := (nI_neg2 (by omega)).2
    have m1 : (nI (kb k 1) < 5) = (kb k 1 < 5) := propext (nI_ltI (b := 5) (by omega) (by omega))
    have m2 : (nI (kb k 2) < 48) = (kb k 2 < 48) := propext (nI_ltI (b := 48) (by omega) (by omega))
    simp only [n0, n1, m1, m2, if_false]
    by_cases u1 : kb k 1 < 5 <;> by_cases u2 : kb k 2 < 48 <;> simp [u1, u2]
  have P : cp_619_0 (nI (28 * k)) (nI (ixk k)) N := by simp [cp_619_0, z1, y1, x1, w1, a1, c1, f1, h1, P97, P98]
  refine ⟨P, ?_⟩
  simp only [cf_619_0, z2, y2, x2, w2, a2, c2, q0, q1, q4, qc, V97]
  unfold lg12
  by_cases w : kb k 0 = 0
  · rw [if_pos w, if_pos w]
    exact ⟨fun z => ⟨h2.mp z, fun y => absurd w y⟩, fun z => h2.mpr z.1⟩
  · rw [if_neg w, if_neg w]
    simp only [ite_tf, decide_eq_true_eq, f2, V98]
    constructor
    · rintro ⟨i1, ⟨i2, i3⟩, i4, i5, i6, i7, i8⟩
      exact ⟨⟨i1, i2, i3, i4, i5, i6, i7⟩, fun _ => i8⟩
    · rintro ⟨⟨i1, i2, i3, i4, i5, i6, i7⟩, i8⟩
      exact ⟨i1, ⟨i2, i3⟩, i4, i5, i6, i7, i8 w⟩
end Lr2
