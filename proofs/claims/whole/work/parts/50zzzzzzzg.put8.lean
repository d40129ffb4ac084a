/-! PURE (50zzzzzzzg): put: the reel is laid out (386, 609). -/
/-- rows laid out so far: still good, least next key, keys, bytes -/
abbrev lyS : Type := Bool × Nat × (Nat → Bool) × (Nat → Nat → Nat)
def ly (ra : Nat → Nat) : Nat → lyS
  | 0 => (true, 0, fun _ => false, fun _ _ => 0)
  | r + 1 => if (ly ra r).1 = true ∧ (ly ra r).2.1 ≤ kyo (ra (2 + 30 * r)) (ra (2 + 30 * r + 1)) ∧ kyo (ra (2 + 30 * r)) (ra (2 + 30 * r + 1)) < 135 then (true, kyo (ra (2 + 30 * r)) (ra (2 + 30 * r + 1)) + 1, up (ly ra r).2.2.1 (kyo (ra (2 + 30 * r)) (ra (2 + 30 * r + 1))) true, up (ly ra r).2.2.2 (kyo (ra (2 + 30 * r)) (ra (2 + 30 * r + 1))) (fun i => if i < 28 then ra (2 + 30 * r + 2 + i) else 0)) else (false, (ly ra r).2.1, (ly ra r).2.2.1, (ly ra r).2.2.2)
section Ly
variable {N : mz_N} {ra : Nat → Nat} {c rn : Nat}
theorem ly_s (r : Nat) : ly ra (r + 1) = if (ly ra r).1 = true ∧ (ly ra r).2.1 ≤ kyo (ra (2 + 30 * r)) (ra (2 + 30 * r + 1)) ∧ kyo (ra (2 + 30 * r)) (ra (2 + 30 * r + 1)) < 135 then (true, kyo (ra (2 + 30 * r)) (ra (2 + 30 * r + 1)) + 1, up (ly ra r).2.2.1 (kyo (ra (2 + 30 * r)) (ra (2 + 30 * r + 1))) true, up (ly ra r).2.2.2 (kyo (ra (2 + 30 * r)) (ra (2 + 30 * r + 1))) (fun i => if i < 28 then ra (2 + 30 * r + 2 + i) else 0)) else (false, (ly ra r).2.1, (ly ra r).2.2.1, (ly ra r).2.2.2) := rfl
theorem ly_f : ∀ r t, r ≤ t → (ly ra r).1 = false → (ly ra t).1 = false := by
  intro r t
  induction t with
  | zero => intro h e; rw [show r = 0 by omega] at e; exact e
  | succ t ih =>
    intro h e
    by_cases w : r = t + 1
    · rw [← w]; exact e
    · have := ih (by omega) e
      rw [ly_s, if_neg (fun z => by rw [this] at z; cases z.1)]
theorem ly_b (hr : ∀ i, ra i < 256) : ∀ r, (ly ra r).2.1 ≤ 135 ∧ (∀ k j, (ly ra r).2.2.2 k j < 256) ∧ (∀ k, (ly ra r).2.2.1 k = false → ∀ j, (ly ra r).2.2.2 k j = 0) := by
  intro r
  induction r with
  | zero => exact ⟨Nat.zero_le _, fun k j => by show 0 < 256; omega, fun k _ j => rfl⟩
  | succ r ih =>
    obtain ⟨h1, h2, h3⟩ := ih
    rw [ly_s]
    split
    · rename_i w
      refine ⟨by show _ + 1 ≤ 135; omega, fun k j => ?_, fun k hk j => ?_⟩
      · show (if k = kyo (ra (2 + 30 * r)) (ra (2 + 30 * r + 1)) then (fun i => if i < 28 then ra (2 + 30 * r + 2 + i) else 0) else (ly ra r).2.2.2 k) j < 256
        split
        · show (if j < 28 then ra (2 + 30 * r + 2 + j) else 0) < 256
          split
          · exact hr _
          · omega
        · exact h2 k j
      · have hk' : up (ly ra r).2.2.1 (kyo (ra (2 + 30 * r)) (ra (2 + 30 * r + 1))) true k = false := hk
        show (if k = kyo (ra (2 + 30 * r)) (ra (2 + 30 * r + 1)) then (fun i => if i < 28 then ra (2 + 30 * r + 2 + i) else 0) else (ly ra r).2.2.2 k) j = 0
        rw [up_d] at hk'
        split at hk'
        · cases hk'
        · rename_i y
          rw [if_neg y]; exact h3 k hk' j
    · exact ⟨h1, h2, h3⟩
/-- the key before, as the class and the reference hold it -/
def pvk (m : Nat) : Int32 := nI m - 1
theorem pvk_lt {m k : Nat} (hm : m ≤ 135) (hk : k ≤ 135) : (pvk m < nO 135 k) ↔ (m ≤ k ∧ k < 135) := by
  have A : ∀ m, m ≤ 135 → ∀ k, k ≤ 135 → (decide (pvk m < nO 135 k) = decide (m ≤ k ∧ k < 135)) := by
    intro m hm k hk
    unfold pvk
    have e : (nI m - 1).toInt = (m : Int) - 1 := by
      by_cases w : m = 0
      · rw [w]; rfl
      · rw [show nI m - 1 = nI (m - 1) from nI_pr (by omega), nI_toInt (by omega)]; omega
    congr 1
    by_cases w : k < 135
    · rw [nO_lt w, Int32.lt_iff_toInt_lt, e, nI_toInt (by omega)]
      exact propext ⟨fun z => by omega, fun z => by omega⟩
    · rw [nO_ge w, Int32.lt_iff_toInt_lt, e, show (-1 : Int32).toInt = -1 from rfl]
      exact propext ⟨fun z => by omega, fun z => by omega⟩
  have := A m hm k hk
  exact ⟨fun z => of_decide_eq_true (by rw [← this]; exact decide_eq_true z), fun z => of_decide_eq_true (by rw [this]; exact decide_eq_true z)⟩
theorem pvk_s {k : Nat} : pvk (k + 1) = nI k := by unfold pvk; rw [← nI_1, Int32.add_sub_cancel]
theorem kyo_le (a b : Nat) : kyo a b ≤ 135 := by
  unfold kyo
  split
  · rename_i h
    have : ∀ j, j < 16 → FK j ≤ 135 := by decide
    have := this a (by omega)
    omega
  · exact Nat.le_refl _
theorem c386 (hr : ∀ i, ra i < 256) (h9 : ∀ i, i < rn → N.1 229 i = nI (ra i)) (hn : 2 + 30 * c ≤ rn) (hn2 : rn ≤ 4100) : cp_386_0 (nI c) N ∧ ∃ M, cf_386_0 (nI c) N = ((ly ra c).1, M) ∧ fq [230, 231] [] N M ∧ ((ly ra c).1 = true → (∀ k, k < 135 → ∀ j, j < 28 → M.1 230 (28 * k + j) = nI ((ly ra c).2.2.2 k j)) ∧ ∀ k, k < 135 → M.1 231 k = nI (b1 ((ly ra c).2.2.1 k))) := by
  obtain ⟨a1, a2⟩ := fill_ok (a := 230) (n := 3780) (v := 0) (N := N) (by omega)
  obtain ⟨b1', b2⟩ := fill_ok (a := 231) (n := 135) (v := 0) (N := mz_sI N 230 (fun j => if j < 3780 then 0 else N.1 230 j)) (by omega)
  have a1' : cp_13_0 230 3780 0 N := a1
  have a2' : cf_13_0 230 3780 0 N = mz_sI N 230 (fun j => if j < 3780 then 0 else N.1 230 j) := a2
  rw [cp_386_0, cf_386_0, a2', b2]
  suffices h : cp_386_20 (nI c) (-1) 0 (mz_sI (mz_sI N 230 (fun j => if j < 3780 then 0 else N.1 230 j)) 231 (fun j => if j < 135 then 0 else (mz_sI N 230 (fun j => if j < 3780 then 0 else N.1 230 j)).1 231 j)) ∧ ∃ M, cf_386_20 (nI c) (-1) 0 (mz_sI (mz_sI N 230 (fun j => if j < 3780 then 0 else N.1 230 j)) 231 (fun j => if j < 135 then 0 else (mz_sI N 230 (fun j => if j < 3780 then 0 else N.1 230 j)).1 231 j)) = ((ly ra c).1, M) ∧ fq [230, 231] [] N M ∧ ((ly ra c).1 = true → (∀ k, k < 135 → ∀ j, j < 28 → M.1 230 (28 * k + j) = nI ((ly ra c).2.2.2 k j)) ∧ ∀ k, k < 135 → M.1 231 k = nI (b1 ((ly ra c).2.2.1 k))) by
    exact ⟨⟨a1', b1', h.1⟩, h.2⟩
  have z1 : fq [230, 231] [] N (mz_sI (mz_sI N 230 (fun j => if j < 3780 then 0 else N.1 230 j)) 231 (fun j => if j < 135 then 0 else (mz_sI N 230 (fun j => if j < 3780 then 0 else N.1 230 j)).1 231 j)) := fq_sI (fq_sI (fq_refl _ _ _) rfl) rfl
  have z2 : ∀ j, j < 3780 → (mz_sI (mz_sI N 230 (fun j => if j < 3780 then 0 else N.1 230 j)) 231 (fun j => if j < 135 then 0 else (mz_sI N 230 (fun j => if j < 3780 then 0 else N.1 230 j)).1 231 j)).1 230 j = 0 := fun j hj => by rw [sI_n (by decide), sI_e]; exact if_pos hj
  have z3 : ∀ j, j < 135 → (mz_sI (mz_sI N 230 (fun j => if j < 3780 then 0 else N.1 230 j)) 231 (fun j => if j < 135 then 0 else (mz_sI N 230 (fun j => if j < 3780 then 0 else N.1 230 j)).1 231 j)).1 231 j = 0 := fun j hj => by rw [sI_e]; exact if_pos hj
  generalize mz_sI (mz_sI N 230 (fun j => if j < 3780 then 0 else N.1 230 j)) 231 (fun j => if j < 135 then 0 else (mz_sI N 230 (fun j => if j < 3780 then 0 else N.1 230 j)).1 231 j) = Z at z1 z2 z3
  have lb := ly_b hr
  have lf := fun r => ly_f (ra := ra) r c
  rw [cp_386_20, cf_386_20]
  refine mz_lpn (f := cq_386_20 (nI c)) (P := cd_386_20 (nI c)) (Q := fun r => ∃ M, r = ((ly ra c).1, M) ∧ fq [230, 231] [] N M ∧ ((ly ra c).1 = true → (∀ k, k < 135 → ∀ j, j < 28 → M.1 230 (28 * k + j) = nI ((ly ra c).2.2.2 k j)) ∧ ∀ k, k < 135 → M.1 231 k = nI (b1 ((ly ra c).2.2.1 k)))) c (fun t s => (ly ra t).1 = true ∧ ∃ M, s = (pvk (ly ra t).2.1, nI t, M) ∧ fq [230, 231] [] N M ∧ (∀ k, k < 135 → ∀ j, j < 28 → M.1 230 (28 * k + j) = nI ((ly ra t).2.2.2 k j)) ∧ ∀ k, k < 135 → M.1 231 k = nI (b1 ((ly ra t).2.2.1 k))) ?_ ?_ (Nat.zero_le _) ⟨rfl, Z, rfl, z1, fun k hk j hj => z2 _ (by omega), fun k hk => z3 k hk⟩
  · rintro t s ht ⟨h1, M, rfl, m1, m2, m3⟩
    have l : nI t < nI c := (nI_ltI (by omega) (by omega)).mpr ht
    have e0 : (2 : Int32) + nI t * 30 = nI (2 + 30 * t) := by rw [show (2 : Int32) = nI 2 from rfl, show (30 : Int32) = nI 30 from rfl, pk_mul, nI_add, Nat.mul_comm]
    have e1 : nI (2 + 30 * t) + 1 = nI (2 + 30 * t + 1) := nI_1 _
    have e2 : nI (2 + 30 * t) + 2 = nI (2 + 30 * t + 2) := nI_add _ _
    have g0 : mz_gI M 229 (nI (2 + 30 * t)) = nI (ra (2 + 30 * t)) := by rw [gI_a, nI_clamp (by omega), m1.1 229 rfl]; exact h9 _ (by omega)
    have g1 : mz_gI M 229 (nI (2 + 30 * t + 1)) = nI (ra (2 + 30 * t + 1)) := by rw [gI_a, nI_clamp (by omega), m1.1 229 rfl]; exact h9 _ (by omega)
    have r0 := hr (2 + 30 * t)
    have r1 := hr (2 + 30 * t + 1)
    obtain ⟨k1, k2⟩ := kyo_c (kd := ra (2 + 30 * t)) (ix := ra (2 + 30 * t + 1)) (by omega) (by omega)
    have kl := kyo_le (ra (2 + 30 * t)) (ra (2 + 30 * t + 1))
    have ls := ly_s (ra := ra) t
    obtain ⟨mb, _, _⟩ := lb t
    have pl := pvk_lt mb kl
    have i0 : mz_ib (nI (2 + 30 * t)) 4100 := ib_n (by omega) (by omega)
    have i1 : mz_ib (nI (2 + 30 * t + 1)) 4100 := ib_n (by omega) (by omega)
    rw [cd_386_20, cq_386_20]
    simp only [l, if_true, e0, e1, e2, g0, g1, k2]
    generalize kyo (ra (2 + 30 * t)) (ra (2 + 30 * t + 1)) = y at kl ls pl
    by_cases w : (ly ra t).2.1 ≤ y ∧ y < 135
    · have w' := pl.mpr w
      rw [nO_lt w.2] at w'
      have m28 : nI y * 28 = nI (28 * y) := by rw [show (28 : Int32) = nI 28 from rfl, pk_mul, Nat.mul_comm]
      have cp : mz_cpk (nI (2 + 30 * t + 2)) (nI (28 * y)) 28 4100 3780 := cpk_n (c := 28) (by omega) (by omega) (by omega) (by omega)
      have iy : mz_ib (nI y) 135 := ib_n w.2 (by omega)
      rw [if_pos ⟨h1, w⟩] at ls
      rw [nO_lt w.2, if_pos w', m28, cf_386_84, nI_1]
      refine ⟨⟨fun _ => ⟨i0, i1, k1, fun _ => ⟨cp, iy⟩, fun z => absurd w' z⟩, fun z => absurd trivial z⟩, Or.inl ⟨_, rfl, by rw [ls], _, by rw [ls, pvk_s], fq_wI (fq_trans m1 (by rw [yI_s]; exact fq_sI (fq_refl _ _ _) rfl)) rfl, fun k hk j hj => ?_, fun k hk => ?_⟩⟩
      · rw [ls, wI_s, sI_n (by decide), yI_s, sI_e, cpy_a, nI_clamp (by omega), nI_clamp (by omega), show ((28 : Int32)).toNatClampNeg = 28 from rfl]
        show _ = nI ((if k = y then (fun i => if i < 28 then ra (2 + 30 * t + 2 + i) else 0) else (ly ra t).2.2.2 k) j)
        by_cases v : k = y
        · rw [if_pos v, if_pos (by omega), m1.1 229 rfl, h9 _ (by omega)]
          show _ = nI (if j < 28 then ra (2 + 30 * t + 2 + j) else 0)
          rw [if_pos hj]; congr 2; omega
        · rw [if_neg v, if_neg (by omega)]; exact m2 k hk j hj
      · rw [ls, wI_s, sI_e, up_a, nI_clamp (by omega), yI_s, sI_n (by decide)]
        show _ = nI (b1 (if k = y then true else (ly ra t).2.2.1 k))
        by_cases v : k = y
        · rw [if_pos v, if_pos v]; rfl
        · rw [if_neg v, if_neg v]; exact m3 k hk
    · have w' : ¬ pvk (ly ra t).2.1 < nO 135 y := fun z => w (pl.mp z)
      rw [if_neg (fun z => w z.2)] at ls
      have lz : (ly ra c).1 = false := lf (t + 1) (by omega) (by rw [ls])
      rw [if_neg w', lz]
      exact ⟨⟨fun _ => ⟨i0, i1, k1, fun z => absurd z w', fun _ => trivial⟩, fun z => absurd trivial z⟩, Or.inr ⟨_, rfl, M, rfl, m1, (fun z => by cases z)⟩⟩
  · rintro s ⟨h1, M, rfl, m1, m2, m3⟩
    have l : ¬ nI c < nI c := fun z => by have := (nI_ltI (by omega) (by omega)).mp z; omega
    rw [cd_386_20, cq_386_20]
    simp only [l, if_false]
    exact ⟨⟨False.elim, fun _ => trivial⟩, _, rfl, M, by rw [h1], m1, fun _ => ⟨m2, m3⟩⟩
theorem r609 (hr : ∀ i, ra i < 256) (h5 : ∀ i, i < rn → N.1 335 i = by8 (ra i)) (h143 : N.1 232 143 = nI rn) (hn : rn = 6 + 30 * c) (hn2 : rn ≤ 4100) : cp_609_0 N ∧ ∃ M, cf_609_0 N = ((ly ra c).1, M) ∧ fq [336, 337] [] N M ∧ ((ly ra c).1 = true → (∀ k, k < 135 → (ly ra c).2.2.1 k = true → ∀ j, j < 28 → M.1 337 (28 * k + j) = by8 ((ly ra c).2.2.2 k j)) ∧ ∀ k, k < 135 → M.1 336 k = nI (b1 ((ly ra c).2.2.1 k))) := by
  have lb := ly_b hr
  have lf := fun r => ly_f (ra := ra) r c
  have SECOND : ∀ Z, fq [336, 337] [] N Z → (∀ k, k < 135 → Z.1 336 k = 0) → cp_609_26 (-1) 2 Z ∧ ∃ M, cf_609_26 (-1) 2 Z = ((ly ra c).1, M) ∧ fq [336, 337] [] N M ∧ ((ly ra c).1 = true → (∀ k, k < 135 → (ly ra c).2.2.1 k = true → ∀ j, j < 28 → M.1 337 (28 * k + j) = by8 ((ly ra c).2.2.2 k j)) ∧ ∀ k, k < 135 → M.1 336 k = nI (b1 ((ly ra c).2.2.1 k))) := fun Z z1 z2 => by
    rw [cp_609_26, cf_609_26]
    refine mz_lpn (f := cq_609_26) (P := cd_609_26) (Q := fun r => ∃ M, r = ((ly ra c).1, M) ∧ fq [336, 337] [] N M ∧ ((ly ra c).1 = true → (∀ k, k < 135 → (ly ra c).2.2.1 k = true → ∀ j, j < 28 → M.1 337 (28 * k + j) = by8 ((ly ra c).2.2.2 k j)) ∧ ∀ k, k < 135 → M.1 336 k = nI (b1 ((ly ra c).2.2.1 k)))) c (fun t s => (ly ra t).1 = true ∧ ∃ M, s = (pvk (ly ra t).2.1, nI (2 + 30 * t), M) ∧ fq [336, 337] [] N M ∧ (∀ k, k < 135 → (ly ra t).2.2.1 k = true → ∀ j, j < 28 → M.1 337 (28 * k + j) = by8 ((ly ra t).2.2.2 k j)) ∧ ∀ k, k < 135 → M.1 336 k = nI (b1 ((ly ra t).2.2.1 k))) ?_ ?_ (Nat.zero_le _) ⟨rfl, Z, rfl, z1, fun k hk z => (by cases z), fun k hk => z2 k hk⟩
    · rintro t s ht ⟨h1, M, rfl, m1, m2, m3⟩
      have e143 : M.1 232 143 = nI rn := by rw [m1.1 232 rfl]; exact h143
      have e4 : nI (2 + 30 * t) + 4 = nI (2 + 30 * t + 4) := nI_add _ _
      have l : nI (2 + 30 * t + 4) < nI rn := (nI_ltI (by omega) (by omega)).mpr (by omega)
      have e1 : nI (2 + 30 * t) + 1 = nI (2 + 30 * t + 1) := nI_1 _
      have r0 := hr (2 + 30 * t)
      have r1 := hr (2 + 30 * t + 1)
      have g0 : mz_gI M 335 (nI (2 + 30 * t)) &&& 255 = nI (ra (2 + 30 * t)) := by rw [gI_a, nI_clamp (by omega), m1.1 335 rfl, h5 _ (by omega)]; exact by8_and _ r0
      have g1 : mz_gI M 335 (nI (2 + 30 * t + 1)) &&& 255 = nI (ra (2 + 30 * t + 1)) := by rw [gI_a, nI_clamp (by omega), m1.1 335 rfl, h5 _ (by omega)]; exact by8_and _ r1
      obtain ⟨k1, k2⟩ := kyo_r (kd := ra (2 + 30 * t)) (ix := ra (2 + 30 * t + 1)) (by omega) (by omega)
      have kl := kyo_le (ra (2 + 30 * t)) (ra (2 + 30 * t + 1))
      have ls := ly_s (ra := ra) t
      obtain ⟨mb, _, _⟩ := lb t
      have pl := pvk_lt mb kl
      have i0 : mz_ib (nI (2 + 30 * t)) 4100 := ib_n (by omega) (by omega)
      have i1 : mz_ib (nI (2 + 30 * t + 1)) 4100 := ib_n (by omega) (by omega)
      rw [cd_609_26, cq_609_26]
      simp only [e4, e143, l, if_true, e1, g0, g1, k2]
      generalize kyo (ra (2 + 30 * t)) (ra (2 + 30 * t + 1)) = y at kl ls pl
      by_cases w : (ly ra t).2.1 ≤ y ∧ y < 135
      · have w' := pl.mpr w
        rw [nO_lt w.2] at w'
        have iy : mz_ib (nI y) 135 := ib_n w.2 (by omega)
        rw [if_pos ⟨h1, w⟩] at ls
        rw [nO_lt w.2, if_pos w', cp_609_79, cf_609_79]
        have v1 : fq [336, 337] [] N (mz_wI M 336 (nI y) (mz_b01 true)) := fq_wI m1 rfl
        have v2 : ∀ k, (mz_wI M 336 (nI y) (mz_b01 true)).1 336 k = if k = y then 1 else M.1 336 k := fun k => by rw [wI_s, sI_e, up_a, nI_clamp (by omega)]; rfl
        have v3 : (mz_wI M 336 (nI y) (mz_b01 true)).1 337 = M.1 337 := by rw [wI_s, sI_n (by decide)]
        generalize mz_wI M 336 (nI y) (mz_b01 true) = V at v1 v2 v3
        obtain ⟨p1, g, p2, p3⟩ := lp_fill (f := cq_609_79 (nI (2 + 30 * t)) (nI y)) (P := cd_609_79 (nI (2 + 30 * t)) (nI y)) (N := V) 337 (28 * y) 28 (fun j => by8 (ra (2 + 30 * t + 2 + j))) (fun M => .inl (nI y, nI (2 + 30 * (t + 1)), M)) (by omega) (fun j hj g => by
          have lj : nI j < 28 := (nI_ltI (b := 28) (by omega) (by omega)).mpr hj
          have ea : nI (2 + 30 * t) + 2 + nI j = nI (2 + 30 * t + 2 + j) := by rw [show (2 : Int32) = nI 2 from rfl, nI_add, nI_add]
          have eb : (28 : Int32) * nI y + nI j = nI (28 * y + j) := by rw [show (28 : Int32) = nI 28 from rfl, pk_mul, nI_add]
          have gs : mz_gI (mz_sI V 337 g) 335 (nI (2 + 30 * t + 2 + j)) = by8 (ra (2 + 30 * t + 2 + j)) := by rw [gI_a, sI_n (by decide), nI_clamp (by omega), v1.1 335 rfl]; exact h5 _ (by omega)
          have ia : mz_ib (nI (2 + 30 * t + 2 + j)) 4100 := ib_n (by omega) (by omega)
          have ic : mz_ib (nI (28 * y + j)) 3780 := ib_n (by omega) (by omega)
          rw [cd_609_79, cq_609_79]
          simp only [lj, if_true, ea, eb, gs, by8_nb, cf_609_109, nI_1]
          exact ⟨⟨fun _ => ⟨ia, ic, trivial⟩, fun z => absurd trivial z⟩, trivial⟩) (fun g => by
          have lj : ¬ nI 28 < 28 := by decide
          have ea : nI (2 + 30 * t) + 30 = nI (2 + 30 * (t + 1)) := nI_add _ _
          rw [cd_609_79, cq_609_79]
          simp only [lj, if_false, ea]
          exact ⟨⟨False.elim, fun _ => trivial⟩, trivial⟩)
        refine ⟨⟨fun _ => ⟨i0, i1, fun _ => ⟨iy, p1⟩, fun z => absurd w' z⟩, fun z => absurd trivial z⟩, Or.inl ⟨_, p2, by rw [ls], _, by rw [ls, pvk_s], fq_sI v1 rfl, fun k hk hkt j hj => ?_, fun k hk => ?_⟩⟩
        · rw [ls] at hkt ⊢
          have hkt' : (if k = y then true else (ly ra t).2.2.1 k) = true := hkt
          rw [sI_e, p3, v3]
          show _ = by8 ((if k = y then (fun i => if i < 28 then ra (2 + 30 * t + 2 + i) else 0) else (ly ra t).2.2.2 k) j)
          by_cases v : k = y
          · rw [if_pos v, if_pos (by omega)]
            show _ = by8 (if j < 28 then ra (2 + 30 * t + 2 + j) else 0)
            rw [if_pos hj]; congr 2; omega
          · rw [if_neg v] at hkt' ⊢
            rw [if_neg (by omega)]; exact m2 k hk hkt' j hj
        · rw [ls, sI_n (by decide), v2]
          show _ = nI (b1 (if k = y then true else (ly ra t).2.2.1 k))
          by_cases v : k = y
          · rw [if_pos v, if_pos v]; rfl
          · rw [if_neg v, if_neg v]; exact m3 k hk
      · have w' : ¬ pvk (ly ra t).2.1 < nO 135 y := fun z => w (pl.mp z)
        rw [if_neg (fun z => w z.2)] at ls
        have lz : (ly ra c).1 = false := lf (t + 1) (by omega) (by rw [ls])
        rw [if_neg w', lz]
        exact ⟨⟨fun _ => ⟨i0, i1, fun z => absurd z w', fun _ => trivial⟩, fun z => absurd trivial z⟩, Or.inr ⟨_, rfl, M, rfl, m1, (fun z => by cases z)⟩⟩
    · rintro s ⟨h1, M, rfl, m1, m2, m3⟩
      have e143 : M.1 232 143 = nI rn := by rw [m1.1 232 rfl]; exact h143
      have e4 : nI (2 + 30 * c) + 4 = nI (2 + 30 * c + 4) := nI_add _ _
      have l : ¬ nI (2 + 30 * c + 4) < nI rn := fun z => by have := (nI_ltI (by omega) (by omega)).mp z; omega
      rw [cd_609_26, cq_609_26]
      simp only [e4, e143, l, if_false]
      exact ⟨⟨False.elim, fun _ => trivial⟩, _, rfl, M, by rw [h1], m1, fun _ => ⟨m2, m3⟩⟩
  rw [cp_609_0, cf_609_0, cp_609_2, cf_609_2]
  refine mz_lpn (f := cq_609_2) (P := cd_609_2) (Q := fun r => ∃ M, r = ((ly ra c).1, M) ∧ fq [336, 337] [] N M ∧ ((ly ra c).1 = true → (∀ k, k < 135 → (ly ra c).2.2.1 k = true → ∀ j, j < 28 → M.1 337 (28 * k + j) = by8 ((ly ra c).2.2.2 k j)) ∧ ∀ k, k < 135 → M.1 336 k = nI (b1 ((ly ra c).2.2.1 k)))) 135 (fun t s => ∃ g, s = (nI t, mz_sI N 336 g) ∧ ∀ j, j < t → g j = 0) ?_ ?_ (Nat.zero_le _) ⟨N.1 336, by rw [sI_same]; rfl, fun j hj => by omega⟩
  · rintro t s ht ⟨g, rfl, hg⟩
    have l : nI t < 135 := (nI_ltI (b := 135) (by omega) (by omega)).mpr ht
    rw [cd_609_2, cq_609_2]
    simp only [l, if_true, nI_1]
    refine ⟨⟨fun _ => ib_n ht (by omega), fun z => absurd trivial z⟩, Or.inl ⟨_, rfl, upd g t 0, ?_, fun j hj => ?_⟩⟩
    · rw [wI_s, sI_e, sI_sI, nI_clamp (by omega)]; rfl
    · rw [up_a]
      by_cases y : j = t
      · rw [if_pos y]
      · rw [if_neg y]; exact hg j (by omega)
  · rintro s ⟨g, rfl, hg⟩
    have l : ¬ nI 135 < 135 := by decide
    obtain ⟨a1, a2⟩ := SECOND (mz_sI N 336 g) (fq_sI (fq_refl _ _ _) rfl) (fun k hk => by rw [sI_e]; exact hg k hk)
    rw [cd_609_2, cq_609_2]
    simp only [l, if_false]
    exact ⟨⟨False.elim, fun _ => a1⟩, _, rfl, a2⟩
end Ly
