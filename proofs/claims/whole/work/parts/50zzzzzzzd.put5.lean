/-! PURE (50zzzzzzzd): put: spaces, numbers, the text of a reel. -/
/-- the plan of a reel -/
def pe (kt : Nat → Bool) (kb : Nat → Nat → Nat) (j : Nat) : Nat := if j < 550 ∧ kt (j / 110) = true then kb (j / 110) (j % 110 / 4) >>> (2 * (j % 110 % 4)) % 2 ^ 2 else fe0 j
/-- so far -/
def pef (kt : Nat → Bool) (kb : Nat → Nat → Nat) (t j : Nat) : Nat := if j < 110 * t ∧ kt (j / 110) = true then kb (j / 110) (j % 110 / 4) >>> (2 * (j % 110 % 4)) % 2 ^ 2 else fe0 j
section Sp
variable {N : mz_N} {kt : Nat → Bool} {kb : Nat → Nat → Nat} {e fl : Nat → Nat}
theorem fe0_4 (j : Nat) : fe0 j < 4 := by unfold fe0; split <;> omega
theorem pe_4 (j : Nat) : pe kt kb j < 4 := by
  unfold pe
  split
  · exact Nat.mod_lt _ (by omega)
  · exact fe0_4 j
theorem pef_5 : pef kt kb 5 = pe kt kb := funext fun j => rfl
theorem c404 (hc : ∀ k, k < 135 → ∀ j, j < 28 → N.1 230 (28 * k + j) = nI (kb k j)) (ht : ∀ k, k < 135 → N.1 231 k = nI (b1 (kt k))) (hg : ∀ k j, kb k j < 256) : cp_404_0 N ∧ ∃ M, cf_404_0 N = (decide (pl_n (pe kt kb) ≤ 40), M) ∧ fq [12, 13, 14] [] N M := by
  obtain ⟨a1, g0, a2, a3⟩ := lay_c (N := N) (a := 12)
  rw [cp_404_0, cf_404_0, a2]
  suffices h : cp_404_12 0 (mz_sI N 12 g0) ∧ ∃ M, cf_404_12 0 (mz_sI N 12 g0) = (decide (pl_n (pe kt kb) ≤ 40), M) ∧ fq [12, 13, 14] [] N M by exact ⟨⟨a1, h.1⟩, h.2⟩
  rw [cp_404_12, cf_404_12]
  refine mz_lpn (f := cq_404_12) (P := cd_404_12) (Q := fun r => ∃ M, r = (decide (pl_n (pe kt kb) ≤ 40), M) ∧ fq [12, 13, 14] [] N M) 5 (fun t s => ∃ f, s = (nI t, mz_sI N 12 f) ∧ ∀ j, j < 550 → f j = nI (pef kt kb t j)) ?_ ?_ (Nat.zero_le _) ⟨g0, rfl, fun j hj => ?_⟩
  · rintro t s h5 ⟨f, rfl, hf⟩
    have l : nI t < 5 := (nI_ltI (b := 5) (by omega) (by omega)).mpr h5
    have ib : mz_ib (nI t) 135 := ib_n (by omega) (by omega)
    have g231 : mz_gI (mz_sI N 12 f) 231 (nI t) = nI (b1 (kt t)) := by rw [gI_a, sI_n (by decide), nI_clamp (by omega)]; exact ht t (by omega)
    have m28 : nI t * 28 = nI (28 * t) := by rw [show (28 : Int32) = nI 28 from rfl, pk_mul, Nat.mul_comm]
    rw [cd_404_12, cq_404_12]
    simp only [l, if_true, g231, m28, cf_404_46, nI_1]
    by_cases w : kt t = true
    · have e1 : nI (b1 (kt t)) = 1 := by rw [w]; rfl
      obtain ⟨b1', h, b2, b3⟩ := rde_c (a1 := 230) (a3 := 12) (q := 28 * t) (ix := t) (g := kb t) (N := mz_sI N 12 f) (by decide) h5 (by omega) (fun j hj => ⟨by rw [sI_n (by decide)]; exact hc t (by omega) j hj, hg t j⟩)
      rw [if_pos e1, b2, sI_sI]
      refine ⟨⟨fun _ => ⟨ib, fun _ => ⟨b1', trivial⟩, fun z => absurd e1 z⟩, fun z => absurd trivial z⟩, Or.inl ⟨_, rfl, h, rfl, fun j hj => ?_⟩⟩
      rw [b3, sI_e]
      unfold pef
      by_cases y : 110 * t ≤ j ∧ j < 110 * t + 110
      · have d : j / 110 = t := by omega
        have m : j % 110 = j - 110 * t := by omega
        rw [if_pos y, if_pos ⟨by omega, by rw [d]; exact w⟩, d, m]
      · rw [if_neg y, hf j hj]
        unfold pef
        by_cases z : j < 110 * t
        · by_cases v : kt (j / 110) = true
          · rw [if_pos ⟨z, v⟩, if_pos ⟨by omega, v⟩]
          · rw [if_neg (fun q => v q.2), if_neg (fun q => v q.2)]
        · rw [if_neg (fun q => z q.1), if_neg (fun q => y (by omega))]
    · have e1 : ¬ nI (b1 (kt t)) = 1 := fun z => w ((b1_1 _).mp z)
      rw [if_neg e1]
      refine ⟨⟨fun _ => ⟨ib, fun z => absurd z e1, fun _ => trivial⟩, fun z => absurd trivial z⟩, Or.inl ⟨_, rfl, f, rfl, fun j hj => ?_⟩⟩
      rw [hf j hj]
      unfold pef
      by_cases v : kt (j / 110) = true
      · by_cases z : j < 110 * t
        · rw [if_pos ⟨z, v⟩, if_pos ⟨by omega, v⟩]
        · have : j / 110 ≠ t := fun q => w (by rw [← q]; exact v)
          rw [if_neg (fun q => z q.1), if_neg (fun q => by have := q.1; omega)]
      · rw [if_neg (fun q => v q.2), if_neg (fun q => v q.2)]
  · rintro s ⟨f, rfl, hf⟩
    have l : ¬ nI 5 < 5 := by decide
    rw [pef_5] at hf
    obtain ⟨d1, h, q, d2, d3⟩ := c_dv (a1 := 12) (a2 := 13) (w := pl_w (pe kt kb)) (N := mz_sI N 12 f) (by decide) (by decide) (by decide) (fun k hk => by
      have := pe_4 (kt := kt) (kb := kb) k
      rw [sI_e, hf k hk, nI_eq0 (by omega), pl_w]; simp)
    have n240 : pl_n (pe kt kb) ≤ 240 := pl_n_le _
    have d2' : cf_78_0 12 13 (mz_sI N 12 f) = (nI (pl_n (pe kt kb)), mz_sI (mz_sI (mz_sI N 12 f) 13 h) 14 q) := d2
    generalize pl_n (pe kt kb) = n at n240 d2' ⊢
    have qn : (40 < nI n) = (40 < n) := propext (nI_ltI (a := 40) (by omega) (by omega))
    rw [cd_404_12, cq_404_12]
    simp only [l, if_false, cf_116_0, cp_116_0, d2', qn]
    refine ⟨⟨False.elim, fun _ => d1⟩, ?_⟩
    have fr : fq [12, 13, 14] [] N (mz_sI (mz_sI (mz_sI N 12 f) 13 h) 14 q) := fq_sI (fq_sI (fq_sI (fq_refl _ _ _) rfl) rfl) rfl
    by_cases w : 40 < n
    · rw [if_pos w]; exact ⟨_, rfl, _, by rw [decide_eq_false (by omega)], fr⟩
    · rw [if_neg w]; exact ⟨_, rfl, _, by rw [decide_eq_true (by omega)], fr⟩
  · rw [a3, if_pos ⟨Nat.zero_le _, by omega⟩, Nat.sub_zero]
    unfold pef
    rw [if_neg (fun q => by have := q.1; omega)]
theorem lay_r7 : cp_416_0 7 N ∧ ∃ g, cf_416_0 7 N = mz_sI N 233 g ∧ ∀ j, g j = if 3850 ≤ j ∧ j < 3850 + 550 then nI (fe0 (j - 3850)) else N.1 233 j :=
  lp_fill (f := cq_416_2 7) (P := cd_416_2 7) (N := N) 233 3850 550 (fun t => nI (fe0 t)) id (by omega) (fun t ht g => by
    have hlt : nI t < 550 := (nI_ltI (b := 550) (by omega) (by omega)).mpr ht
    have e1 : mz_irem (nI t) 110 = nI (t % 110) := by rw [show (110 : Int32) = nI 110 from rfl, irem_n (by omega) (by omega) (by omega)]
    have e2 : (550 : Int32) * 7 + nI t = nI (3850 + t) := by rw [show (550 : Int32) * 7 = nI 3850 from rfl, nI_add]
    have sd : cf_417_0 (nI (t % 110)) = decide (ge_sd (t % 110) < 4) := (ge_e (t % 110) (Nat.mod_lt _ (by omega))).2.2.2.2.2
    have i1 : mz_ib (nI (3850 + t)) 4400 := ib_n (by omega) (by omega)
    have s4 : ge_sd (t % 110) ≤ 4 := by unfold ge_sd; repeat' split <;> try omega
    rw [cd_416_2, cq_416_2]
    simp only [hlt, if_true, e1, e2, sd, cf_416_35, cp_416_35, nI_1, decide_eq_true_eq]
    refine ⟨⟨fun _ => ⟨fun _ => i1, fun _ => i1⟩, fun z => absurd trivial z⟩, ?_⟩
    unfold fe0
    by_cases w : ge_sd (t % 110) < 4
    · rw [if_pos w, if_neg (by omega)]; rfl
    · rw [if_neg w, if_pos (by omega)]; rfl) (fun g => by
    have hlt : ¬ nI 550 < 550 := by decide
    rw [cd_416_2, cq_416_2]
    simp only [hlt, if_false]
    exact ⟨⟨False.elim, fun _ => trivial⟩, rfl⟩)
theorem r620 (hB : ∀ k, k < 135 → kt k = true → ∀ j, j < 28 → N.1 337 (28 * k + j) = by8 (kb k j)) (hT : ∀ k, k < 135 → N.1 336 k = nI (b1 (kt k))) (hg : ∀ k j, kb k j < 256) (hn : pl_n e ≤ 40) (hp : r_pl e fl N) (h3 : ∀ i, i < 550 → N.1 233 i = nI (e i) ∧ e i < 4) : cp_620_0 N ∧ ∃ M, cf_620_0 N = (decide (pl_n (pe kt kb) ≤ 40), M) ∧ fq [232, 233, 235, 236, 237, 238] [] N M ∧ (∀ z, z ≠ 7 → M.1 232 z = N.1 232 z) ∧ (∀ j, j < 3850 → M.1 233 j = N.1 233 j) ∧ r_pl e fl M := by
  obtain ⟨a1, g0, a2, a3⟩ := lay_r7 (N := N)
  rw [cp_620_0, cf_620_0, a2]
  suffices h : cp_620_8 0 (mz_sI N 233 g0) ∧ ∃ M, cf_620_8 0 (mz_sI N 233 g0) = (decide (pl_n (pe kt kb) ≤ 40), M) ∧ fq [232, 233, 235, 236, 237, 238] [] N M ∧ (∀ z, z ≠ 7 → M.1 232 z = N.1 232 z) ∧ (∀ j, j < 3850 → M.1 233 j = N.1 233 j) ∧ r_pl e fl M by exact ⟨⟨a1, h.1⟩, h.2⟩
  rw [cp_620_8, cf_620_8]
  refine mz_lpn (f := cq_620_8) (P := cd_620_8) (Q := fun r => ∃ M, r = (decide (pl_n (pe kt kb) ≤ 40), M) ∧ fq [232, 233, 235, 236, 237, 238] [] N M ∧ (∀ z, z ≠ 7 → M.1 232 z = N.1 232 z) ∧ (∀ j, j < 3850 → M.1 233 j = N.1 233 j) ∧ r_pl e fl M) 5 (fun t s => ∃ f, s = (nI t, mz_sI N 233 f) ∧ (∀ j, j < 550 → f (3850 + j) = nI (pef kt kb t j)) ∧ ∀ j, j < 3850 → f j = N.1 233 j) ?_ ?_ (Nat.zero_le _) ⟨g0, rfl, fun j hj => ?_, fun j hj => ?_⟩
  · rintro t s h5 ⟨f, rfl, hf, hf2⟩
    have l : nI t < 5 := (nI_ltI (b := 5) (by omega) (by omega)).mpr h5
    have ib : mz_ib (nI t) 135 := ib_n (by omega) (by omega)
    have m28 : (28 : Int32) * nI t = nI (28 * t) := by rw [show (28 : Int32) = nI 28 from rfl, pk_mul]
    have e110 : (3850 : Int32) + 110 * nI t = nI (3850 + 110 * t) := by rw [show (110 : Int32) = nI 110 from rfl, show (3850 : Int32) = nI 3850 from rfl, pk_mul, nI_add]
    rw [cd_620_8, cq_620_8]
    simp only [l, if_true]
    rw [cp_620_15, cf_620_15]
    by_cases w : kt t = true
    · obtain ⟨p1, h, p2, p3⟩ := lp_fill (f := cq_620_15 (nI t)) (P := cd_620_15 (nI t)) (N := mz_sI N 233 f) 233 (3850 + 110 * t) 110 (fun u => nI (kb t (u / 4) >>> (2 * (u % 4)) % 2 ^ 2)) (fun M => .inl (nI (t + 1), M)) (by omega) (fun u hu g => by
        rw [sI_sI]
        have lu : nI u < 110 := (nI_ltI (b := 110) (by omega) (by omega)).mpr hu
        have e330 : (mz_sI N 233 g).1 336 t = nI (b1 (kt t)) := by rw [sI_n (by decide)]; exact hT t (by omega)
        have g336 : mz_gI (mz_sI N 233 g) 336 (nI t) = nI (b1 (kt t)) := by rw [gI_a, nI_clamp (by omega)]; exact e330
        have gz : mz_gZ (mz_sI N 233 g) 336 (nI t) = kt t := by rw [gZ_a, nI_clamp (by omega), e330]; cases kt t <;> rfl
        have e4 : nI u / 4 = nI (u / 4) := by rw [show (4 : Int32) = nI 4 from rfl, pk_div (by omega) (by omega) (by omega)]
        have e5 : 2 * mz_irem (nI u) 4 = nI (2 * (u % 4)) := by rw [show (4 : Int32) = nI 4 from rfl, show (2 : Int32) = nI 2 from rfl, irem_n (by omega) (by omega) (by omega), pk_mul]
        obtain ⟨c1, c2⟩ := r_by (N := mz_sI N 233 g) (k := t) (p := u / 4) (g := kb t) (fun j hj => by rw [sI_n (by decide)]; exact hB t (by omega) w j hj) (hg t) (by omega) (by omega)
        have e7 := ex_3 (kb t (u / 4)) (hg _ _) (2 * (u % 4)) (by omega)
        have ea : nI (3850 + 110 * t) + nI u = nI (3850 + 110 * t + u) := nI_add _ _
        have ib2 : mz_ib (nI (3850 + 110 * t + u)) 4400 := ib_n (by omega) (by omega)
        rw [cd_620_15, cq_620_15]
        simp only [lu, if_true, g336, gz, m28, e4, e5, c2, e7, e110, ea, cf_620_64, nI_1]
        rw [if_pos w]
        exact ⟨⟨fun _ => ⟨ib, z01_b _, fun _ => ⟨c1, ib2, trivial⟩, fun z => absurd w z⟩, fun z => absurd trivial z⟩, rfl⟩) (fun g => by
        have lu : ¬ nI 110 < 110 := by decide
        rw [cd_620_15, cq_620_15]
        simp only [lu, if_false, cf_620_70, nI_1]
        exact ⟨⟨False.elim, fun _ => trivial⟩, trivial⟩)
      refine ⟨⟨fun _ => p1, fun z => absurd trivial z⟩, Or.inl ⟨_, p2, h, by rw [sI_sI], fun j hj => ?_, fun j hj => ?_⟩⟩
      · rw [p3, sI_e]
        unfold pef
        by_cases y : 110 * t ≤ j ∧ j < 110 * t + 110
        · have d : j / 110 = t := by omega
          have m : j % 110 = j - 110 * t := by omega
          have m2 : 3850 + j - (3850 + 110 * t) = j - 110 * t := by omega
          rw [if_pos (by omega), if_pos ⟨by omega, by rw [d]; exact w⟩, d, m, m2]
        · rw [if_neg (by omega), hf j hj]
          unfold pef
          by_cases z : j < 110 * t
          · by_cases v : kt (j / 110) = true
            · rw [if_pos ⟨z, v⟩, if_pos ⟨by omega, v⟩]
            · rw [if_neg (fun q => v q.2), if_neg (fun q => v q.2)]
          · rw [if_neg (fun q => z q.1), if_neg (fun q => y (by omega))]
      · rw [p3, sI_e, if_neg (by omega)]; exact hf2 j hj
    · have nw : ¬ kt t = true := w
      obtain ⟨p1, p2⟩ := mz_lpn (f := cq_620_15 (nI t)) (P := cd_620_15 (nI t)) (Q := fun r => r = .inl (nI (t + 1), mz_sI N 233 f)) 0 (fun u s => s = (0, mz_sI N 233 f)) (fun u s hu => absurd hu (Nat.not_lt_zero _)) (fun s es => by
        subst es
        have lu : (0 : Int32) < 110 := by decide
        have e330 : (mz_sI N 233 f).1 336 t = nI (b1 (kt t)) := by rw [sI_n (by decide)]; exact hT t (by omega)
        have g336 : mz_gI (mz_sI N 233 f) 336 (nI t) = nI (b1 (kt t)) := by rw [gI_a, nI_clamp (by omega)]; exact e330
        have gz : mz_gZ (mz_sI N 233 f) 336 (nI t) = kt t := by rw [gZ_a, nI_clamp (by omega), e330]; cases kt t <;> rfl
        rw [cd_620_15, cq_620_15]
        simp only [lu, if_true, g336, gz, cf_620_70, nI_1]
        rw [if_neg nw]
        exact ⟨⟨fun _ => ⟨ib, z01_b _, fun z => absurd z nw, fun _ => trivial⟩, fun z => absurd trivial z⟩, _, rfl, rfl⟩) (k := 0) (Nat.le_refl _) rfl
      refine ⟨⟨fun _ => p1, fun z => absurd trivial z⟩, Or.inl ⟨_, p2, f, rfl, fun j hj => ?_, hf2⟩⟩
      rw [hf j hj]
      unfold pef
      by_cases v : kt (j / 110) = true
      · by_cases z : j < 110 * t
        · rw [if_pos ⟨z, v⟩, if_pos ⟨by omega, v⟩]
        · have : j / 110 ≠ t := fun q => w (by rw [← q]; exact v)
          rw [if_neg (fun q => z q.1), if_neg (fun q => by have := q.1; omega)]
      · rw [if_neg (fun q => v q.2), if_neg (fun q => v q.2)]
  · rintro s ⟨f, rfl, hf, hf2⟩
    have l : ¬ nI 5 < 5 := by decide
    rw [pef_5] at hf
    obtain ⟨d1, f', q, g, h, d2, _⟩ := r_dv (p := 7) (w := pl_w (pe kt kb)) (N := mz_sI N 233 f) (by omega) (fun k hk => by
      have := pe_4 (kt := kt) (kb := kb) k
      rw [show 550 * 7 + k = 3850 + k by omega, sI_e, hf k hk, nI_eq0 (by omega), pl_w]; simp)
    have n240 : pl_n (pe kt kb) ≤ 240 := pl_n_le _
    have d1' : cp_428_0 7 (mz_sI N 233 f) := d1
    have d2' : cf_428_0 7 (mz_sI N 233 f) = r_spN (mz_sI N 233 f) f' q g h (nI (pl_n (pe kt kb))) := d2
    have v7 : (r_spN (mz_sI N 233 f) f' q g h (nI (pl_n (pe kt kb)))).1 232 = upd (N.1 232) 7 (nI (pl_n (pe kt kb))) := by unfold r_spN; rw [sI_e, sI_n (by decide)]
    have fK : fq [232, 233, 235, 236, 237, 238] [] N (r_spN (mz_sI N 233 f) f' q g h (nI (pl_n (pe kt kb)))) := by
      unfold r_spN
      exact fq_sI (fq_sI (fq_sI (fq_sI (fq_sI (fq_sI (fq_refl _ _ _) rfl) rfl) rfl) rfl) rfl) rfl
    have v3 : (r_spN (mz_sI N 233 f) f' q g h (nI (pl_n (pe kt kb)))).1 233 = f := by
      unfold r_spN
      rw [sI_n (by decide), sI_n (by decide), sI_n (by decide), sI_n (by decide), sI_n (by decide), sI_e]
    generalize pl_n (pe kt kb) = n at n240 d2' v7 fK v3 ⊢
    generalize r_spN (mz_sI N 233 f) f' q g h (nI n) = K at d2' v7 fK v3
    obtain ⟨s1, s2, s3, s4⟩ := r_relay (K := K) hn hp (fun c hc => by rcases hc with w | w | w | w | w <;> rw [w] <;> exact fK.1 _ rfl) (fun i hi => by rw [v3, hf2 i (by omega)]; exact h3 i hi)
    have e7 : K.1 232 7 = nI n := by rw [v7, up_a, if_pos rfl]
    have qn : (40 < nI n) = (40 < n) := propext (nI_ltI (a := 40) (by omega) (by omega))
    have RS : fq [232, 233, 235, 236, 237, 238] [] N (cf_428_0 0 K) ∧ (∀ z, z ≠ 7 → (cf_428_0 0 K).1 232 z = N.1 232 z) ∧ (∀ j, j < 3850 → (cf_428_0 0 K).1 233 j = N.1 233 j) ∧ r_pl e fl (cf_428_0 0 K) := ⟨fq_trans fK (fq_sub (fq_fr s2) rfl rfl), fun z hz => by rw [s3 z hz, v7, up_a, if_neg hz], fun j hj => by rw [s2.1 233 rfl, v3]; exact hf2 j hj, s4⟩
    rw [cd_620_8, cq_620_8]
    simp only [l, if_false, d2', e7, qn, cf_620_96, cp_620_96]
    refine ⟨⟨False.elim, fun _ => ⟨d1', fun _ => s1, fun _ => s1⟩⟩, ?_⟩
    by_cases w : 40 < n
    · rw [if_pos w]; exact ⟨_, rfl, _, by rw [decide_eq_false (by omega)], RS⟩
    · rw [if_neg w]; exact ⟨_, rfl, _, by rw [decide_eq_true (by omega)], RS⟩
  · rw [a3, if_pos ⟨by omega, by omega⟩, show 3850 + j - 3850 = j by omega]
    unfold pef
    rw [if_neg (fun q => by have := q.1; omega)]
  · rw [a3, if_neg (by omega)]
end Sp
