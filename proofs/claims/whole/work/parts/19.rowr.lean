/-! PURE (19): the reference writes rows. -/
section Rwr
variable {N : mz_N}
theorem r_dn {z : Int32} {hd2 : Bool} {v9 : Int32} {K : mz_N} (h9 : mz_ib v9 19200) (hz : mz_z01 (K.1 232 137)) (b : Bool) : cp_411_215 v9 b hd2 K ∧ cf_411_215 v9 b hd2 K = (hd2, mz_sI (mz_sI K 329 (upd (K.1 329) v9.toNatClampNeg (by8 (b1 b)))) 232 (upd (upd (K.1 232) 136 (fus1 (K.1 232 136))) 137 (if hd2 = true then K.1 232 137 else 1))) := by
  have e1 : mz_nb (mz_b01 b) = by8 (b1 b) := by rw [b01_n, nb_nI]
  have hK : (mz_wI K 329 v9 (by8 (b1 b))).1 232 = K.1 232 := by rw [wI_s, sI_n (by decide)]
  have e233 : ∀ x : Bool, K.1 232 136 - mz_b01 x = fus1 (K.1 232 136) → cp_411_233 (K.1 232 136) x hd2 (mz_wI K 329 v9 (by8 (b1 b))) ∧ cf_411_233 (K.1 232 136) x hd2 (mz_wI K 329 v9 (by8 (b1 b))) = (hd2, mz_sI (mz_sI K 329 (upd (K.1 329) v9.toNatClampNeg (by8 (b1 b)))) 232 (upd (upd (K.1 232) 136 (fus1 (K.1 232 136))) 137 (if hd2 = true then K.1 232 137 else 1))) := by
    intro x hx
    rw [cp_411_233, cf_411_233, hx]
    have g : (mz_pI (mz_wI K 329 v9 (by8 (b1 b))) 232 136 (fus1 (K.1 232 136))).1 232 137 = K.1 232 137 := by
      rw [pI_s, sI_e, up_a, if_neg (by decide), hK]
    have gz : mz_fZ (mz_pI (mz_wI K 329 v9 (by8 (b1 b))) 232 136 (fus1 (K.1 232 136))) 232 137 = decide (K.1 232 137 = 1) := by unfold mz_fZ; rw [g]
    have hend : ∀ y : Int32, mz_pI (mz_pI (mz_wI K 329 v9 (by8 (b1 b))) 232 136 (fus1 (K.1 232 136))) 232 137 y = mz_sI (mz_sI K 329 (upd (K.1 329) v9.toNatClampNeg (by8 (b1 b)))) 232 (upd (upd (K.1 232) 136 (fus1 (K.1 232 136))) 137 y) := by
      intro y
      rw [pI_s, pI_s, wI_s, sI_sI, sI_e, sI_n (by decide)]
    rw [g, gz]
    simp only [cp_411_250, cp_411_255, cf_411_250, cf_411_255, hend, implies_true, and_true]
    refine ⟨hz, ?_⟩
    rcases hz with z | z
    · rw [z]
      cases hd2
      · simp [mz_b01]
      · simp [mz_b01]
    · rw [z]
      cases hd2
      · simp [mz_b01]
      · simp [mz_b01]
  rw [cp_411_215, cf_411_215, e1, hK]
  by_cases hp : 0 < K.1 232 136
  · obtain ⟨q1, q2⟩ := e233 true (by rw [show fus1 (K.1 232 136) = K.1 232 136 - 1 from if_pos hp]; rfl)
    rw [if_pos hp]
    exact ⟨⟨h9, fun _ => q1, fun h => absurd hp h⟩, q2⟩
  · obtain ⟨q1, q2⟩ := e233 false (by rw [show fus1 (K.1 232 136) = K.1 232 136 from if_neg hp]; exact Int32.sub_zero _)
    rw [if_neg hp]
    exact ⟨⟨h9, fun h => absurd h hp, fun _ => q1⟩, q2⟩
/-- a row goes to the disk -/
theorem r_put {a n : Nat} {d : Nat → Nat → Nat} {r : Nat → Nat} {K : mz_N} {full : Bool} (ha : a < 2) (hn : n < 200) (hr : ∀ j, j < 48 → K.1 341 j = by8 (rwk r j)) (h3 : r 3 = 0) (hd : ∀ a', a' < 2 → ∀ j, j < 9600 → K.1 329 (9600 * a' + j) = by8 (d a' j)) (hz : mz_z01 (K.1 232 137)) :
    cp_411_157 full (9600 * nI a + 48 * nI n) 0 K ∧ ∃ h, cf_411_157 full (9600 * nI a + 48 * nI n) 0 K = (full, mz_sI (mz_sI K 329 h) 232 (upd (upd (K.1 232) 136 (fus1 (K.1 232 136))) 137 (if full = true then K.1 232 137 else 1))) ∧ ∀ a', a' < 2 → ∀ j, j < 9600 → h (9600 * a' + j) = by8 (dkw d a n r full a' j) := by
  have e9 : 9600 * nI a + 48 * nI n = nI (9600 * a + 48 * n) := by rw [show (9600 : Int32) = nI 9600 from rfl, show (48 : Int32) = nI 48 from rfl, pk_mul, pk_mul, nI_add]
  rw [e9]
  have key : ∀ L : Nat, (L = 48 ∨ L = 24) → full = decide (L = 48) → cp_411_157 full (nI (9600 * a + 48 * n)) 0 K ∧ ∃ h, cf_411_157 full (nI (9600 * a + 48 * n)) 0 K = (full, mz_sI (mz_sI K 329 h) 232 (upd (upd (K.1 232) 136 (fus1 (K.1 232 136))) 137 (if full = true then K.1 232 137 else 1))) ∧ ∀ a', a' < 2 → ∀ j, j < 9600 → h (9600 * a' + j) = by8 (dkw d a n r full a' j) := by
    intro L hL hf
    refine mz_lpn (f := cq_411_157 full (nI (9600 * a + 48 * n))) (P := cd_411_157 full (nI (9600 * a + 48 * n))) (Q := fun t => ∃ h, t = (full, mz_sI (mz_sI K 329 h) 232 (upd (upd (K.1 232) 136 (fus1 (K.1 232 136))) 137 (if full = true then K.1 232 137 else 1))) ∧ ∀ a', a' < 2 → ∀ j, j < 9600 → h (9600 * a' + j) = by8 (dkw d a n r full a' j)) L (fun t s => ∃ h, s = (nI t, mz_sI K 329 h) ∧ ∀ j, h j = if 9600 * a + 48 * n ≤ j ∧ j < 9600 * a + 48 * n + t then by8 (rwk r (j - (9600 * a + 48 * n))) else K.1 329 j) ?_ ?_ (Nat.zero_le _) ⟨K.1 329, by rw [sI_same]; rfl, fun j => by rw [if_neg (by omega)]⟩
    · rintro t s ht ⟨h, rfl, hh⟩
      have g1 : mz_nb (mz_gI (mz_sI K 329 h) 341 (nI t)) = by8 (rwk r t) := by rw [gI_a, sI_n (by decide), nI_clamp (by omega), hr t (by omega), by8_nb]
      have hst : cd_411_157 full (nI (9600 * a + 48 * n)) (nI t, mz_sI K 329 h) ∧ cq_411_157 full (nI (9600 * a + 48 * n)) (nI t, mz_sI K 329 h) = .inl (nI (t + 1), mz_wI (mz_sI K 329 h) 329 (nI (9600 * a + 48 * n + t)) (by8 (rwk r t))) := by
        rcases hL with rfl | rfl
        · have : full = true := by rw [hf]; rfl
          subst this
          simp (disch := omega) only [cd_411_157, cq_411_157, cp_411_171, cf_411_171, nI_ltI, (show (48 : Int32) = nI 48 from rfl), ht, nI_add, g1, nI_1, ib_i, not_false_eq_true, not_true_eq_false, if_true, if_false, true_implies, false_implies, implies_true, and_true, true_and]
          omega
        · have : full = false := by rw [hf]; rfl
          subst this
          simp (disch := omega) only [cd_411_157, cq_411_157, cp_411_171, cf_411_171, nI_ltI, (show (24 : Int32) = nI 24 from rfl), ht, nI_add, g1, nI_1, ib_i, Bool.false_eq_true, not_false_eq_true, not_true_eq_false, if_true, if_false, true_implies, false_implies, implies_true, and_true, true_and]
          omega
      refine ⟨hst.1, Or.inl ⟨_, hst.2, upd h (9600 * a + 48 * n + t) (by8 (rwk r t)), ?_, ?_⟩⟩
      · rw [wI_s, sI_e, sI_sI, nI_clamp (by omega)]
      · intro j
        rw [up_a, hh]
        by_cases z : j = 9600 * a + 48 * n + t
        · rw [if_pos z, if_pos (by omega), z, Nat.add_sub_cancel_left]
        · rw [if_neg z]
          by_cases y : 9600 * a + 48 * n ≤ j ∧ j < 9600 * a + 48 * n + t
          · rw [if_pos y, if_pos (by omega)]
          · rw [if_neg y, if_neg (by omega)]
    · rintro s ⟨h, rfl, hh⟩
      have e3 : nI (9600 * a + 48 * n) + 3 = nI (9600 * a + 48 * n + 3) := by rw [show (3 : Int32) = nI 3 from rfl, nI_add]
      have hb : mz_ib (nI (9600 * a + 48 * n + 3)) 19200 := ib_n (by omega) (by omega)
      have hz2 : mz_z01 ((mz_sI K 329 h).1 232 137) := by rw [sI_n (by decide)]; exact hz
      obtain ⟨q1, q2⟩ := r_dn (z := 0) (hd2 := full) hb hz2 (!full)
      have hst : cd_411_157 full (nI (9600 * a + 48 * n)) (nI L, mz_sI K 329 h) ∧ cq_411_157 full (nI (9600 * a + 48 * n)) (nI L, mz_sI K 329 h) = .inr (cf_411_215 (nI (9600 * a + 48 * n + 3)) (!full) full (mz_sI K 329 h)) := by
        rcases hL with rfl | rfl
        · have : full = true := by rw [hf]; rfl
          subst this
          simp only [Bool.not_true] at q1 q2 ⊢
          simp (disch := omega) only [cd_411_157, cq_411_157, cp_411_171, cf_411_171, nI_ltI, (show (48 : Int32) = nI 48 from rfl), Nat.lt_irrefl, e3, q1, not_false_eq_true, not_true_eq_false, if_true, if_false, true_implies, false_implies, implies_true, and_true, true_and]
        · have : full = false := by rw [hf]; rfl
          subst this
          simp only [Bool.not_false] at q1 q2 ⊢
          simp (disch := omega) only [cd_411_157, cq_411_157, cp_411_171, cf_411_171, nI_ltI, (show (24 : Int32) = nI 24 from rfl), Nat.lt_irrefl, e3, q1, Bool.false_eq_true, not_false_eq_true, not_true_eq_false, if_true, if_false, true_implies, false_implies, implies_true, and_true, true_and]
      refine ⟨hst.1, _, hst.2, upd h (9600 * a + 48 * n + 3) (by8 (b1 (!full))), ?_, ?_⟩
      · rw [q2, sI_sI, sI_e, sI_n (by decide), nI_clamp (by omega)]
      · intro a' ha' j hj
        rw [up_a, hh]
        unfold dkw
        have hfl : (if full = true then 48 else 24) = L := by rcases hL with rfl | rfl <;> rw [hf] <;> rfl
        rw [hfl]
        by_cases z : 9600 * a' + j = 9600 * a + 48 * n + 3
        · rw [if_pos z, if_pos (by omega), show j - 48 * n = 3 by omega]
          cases full with
          | true => simp [b1, rwk, h3]
          | false => simp [b1]
        · rw [if_neg z]
          by_cases y : a' = a ∧ 48 * n ≤ j ∧ j < 48 * n + L
          · rw [if_pos (by omega), if_pos y, show 9600 * a' + j - (9600 * a + 48 * n) = j - 48 * n by omega]
            cases full with
            | true => simp
            | false =>
              have : L = 24 := by
                rcases hL with q | q
                · rw [q] at hf; cases hf
                · exact q
              rw [if_neg (by decide), if_neg (by omega), show rwk r (j - 48 * n) = r (j - 48 * n) from if_pos (by omega)]
          · rw [if_neg (by omega), if_neg y]; exact hd a' ha' j hj
  cases full with
  | true => exact key 48 (Or.inl rfl) rfl
  | false => exact key 24 (Or.inr rfl) rfl
theorem r_line {a n kd ix : Nat} {la : Bool} {g : Int64} {pay : Nat → Nat} {d : Nat → Nat → Nat} (ha : a < 2) (hn : n < 200) (hkd : kd < 256) (hix : ix < 256) (hp : ∀ i, i < 28 → N.1 332 i = by8 (pay i) ∧ pay i < 256) (hd : ∀ a', a' < 2 → ∀ j, j < 9600 → N.1 329 (9600 * a' + j) = by8 (d a' j)) (hz : mz_z01 (N.1 232 137)) :
    cp_411_0 (nI a) (nI n) (nI kd) (nI ix) la g N ∧ ∃ f h, cf_411_0 (nI a) (nI n) (nI kd) (nI ix) la g N = (decide (N.1 232 136 ≠ 0), mz_sI (mz_sI (mz_sI N 341 f) 329 h) 232 (upd (upd (N.1 232) 136 (fus1 (N.1 232 136))) 137 (if N.1 232 136 = 0 then 1 else N.1 232 137))) ∧ ∀ a', a' < 2 → ∀ j, j < 9600 → h (9600 * a' + j) = by8 (dkw d a n (rw0 kd ix la n g pay) (decide (N.1 232 136 ≠ 0)) a' j) := by
  have e107 : ∀ f : Nat → Int32, (∀ j, j < 48 → f j = by8 (rw0 kd ix la n g pay j)) → cp_411_107 (nI a) (nI n) (mz_sI N 341 f) ∧ ∃ f' h, cf_411_107 (nI a) (nI n) (mz_sI N 341 f) = (decide (N.1 232 136 ≠ 0), mz_sI (mz_sI (mz_sI N 341 f') 329 h) 232 (upd (upd (N.1 232) 136 (fus1 (N.1 232 136))) 137 (if N.1 232 136 = 0 then 1 else N.1 232 137))) ∧ ∀ a', a' < 2 → ∀ j, j < 9600 → h (9600 * a' + j) = by8 (dkw d a n (rw0 kd ix la n g pay) (decide (N.1 232 136 ≠ 0)) a' j) := by
    intro f hf
    obtain ⟨c1, c2⟩ := cr_r (a := 341) (n := 48) (p := 0) (k := 44) (d := rw0 kd ix la n g pay) (N := mz_sI N 341 f) (fun i hi => by rw [Nat.zero_add, sI_e]; exact ⟨hf i (by omega), rw0_lt hkd hix (fun i hi => (hp i hi).2) i⟩) (by omega) (by omega)
    have c2' : cf_413_0 341 48 0 44 (mz_sI N 341 f) = crv (rw0 kd ix la n g pay) 0 44 := c2
    obtain ⟨w1, f2, w2, w3⟩ := wr_r (a := 341) (n := 48) (p := 44) (k := 4) (v := (crv (rw0 kd ix la n g pay) 0 44).toInt64) (N := mz_sI N 341 f) (by omega) (by omega) (by omega)
    have w2' : cf_412_0 341 48 44 4 (crv (rw0 kd ix la n g pay) 0 44).toInt64 (mz_sI N 341 f) = mz_sI N 341 f2 := by rw [← sI_sI N 341 f f2]; exact w2
    have hf2 : ∀ j, j < 48 → f2 j = by8 (rwk (rw0 kd ix la n g pay) j) := by
      intro j hj
      rw [w3]
      unfold rwk
      by_cases h : j < 44
      · rw [if_neg (by omega), if_pos h, sI_e]; exact hf j hj
      · rw [if_pos (by omega), if_neg h]
    have hrow3 : rw0 kd ix la n g pay 3 = 0 := by unfold rw0; simp
    have g6 : (mz_sI N 341 f2).1 232 136 = N.1 232 136 := by rw [sI_n (by decide)]
    have put : ∀ full, cp_411_157 full (9600 * nI a + 48 * nI n) 0 (mz_sI N 341 f2) ∧ ∃ h, cf_411_157 full (9600 * nI a + 48 * nI n) 0 (mz_sI N 341 f2) = (full, mz_sI (mz_sI (mz_sI N 341 f2) 329 h) 232 (upd (upd (N.1 232) 136 (fus1 (N.1 232 136))) 137 (if full = true then N.1 232 137 else 1))) ∧ ∀ a', a' < 2 → ∀ j, j < 9600 → h (9600 * a' + j) = by8 (dkw d a n (rw0 kd ix la n g pay) full a' j) := by
      intro full
      have := r_put (K := mz_sI N 341 f2) (full := full) (r := rw0 kd ix la n g pay) (d := d) ha hn (fun j hj => by rw [sI_e]; exact hf2 j hj) hrow3 (fun a' ha' j hj => by rw [sI_n (by decide)]; exact hd a' ha' j hj) (by rw [sI_n (by decide)]; exact hz)
      rw [sI_n (by decide : 232 ≠ 341)] at this
      exact this
    rw [cp_411_107, cf_411_107, c2', w2', g6]
    by_cases h0 : N.1 232 136 = 0
    · obtain ⟨q1, h, q2, q3⟩ := put false
      rw [if_pos h0, if_pos h0, show decide (N.1 232 136 ≠ 0) = false from decide_eq_false (fun z => z h0)]
      refine ⟨⟨c1, w1, fun _ => q1, fun z => absurd h0 z⟩, f2, h, ?_, q3⟩
      rw [cf_411_140, q2]; rfl
    · obtain ⟨q1, h, q2, q3⟩ := put true
      rw [if_neg h0, if_neg h0, show decide (N.1 232 136 ≠ 0) = true from decide_eq_true h0]
      refine ⟨⟨c1, w1, fun z => absurd z h0, fun _ => q1⟩, f2, h, ?_, q3⟩
      rw [cf_411_140, q2]; rfl
  have e83 : ∀ f : Nat → Int32, (∀ j, j < 48 → f j = if 12 ≤ j ∧ j < 40 then by8 (pay (j - 12)) else by8 0) → cp_411_83 2 la (nI a) (nI n) g (mz_wI (mz_wI (mz_sI N 341 f) 341 0 (by8 kd)) 341 1 (by8 ix)) ∧ ∃ f' h, cf_411_83 2 la (nI a) (nI n) g (mz_wI (mz_wI (mz_sI N 341 f) 341 0 (by8 kd)) 341 1 (by8 ix)) = (decide (N.1 232 136 ≠ 0), mz_sI (mz_sI (mz_sI N 341 f') 329 h) 232 (upd (upd (N.1 232) 136 (fus1 (N.1 232 136))) 137 (if N.1 232 136 = 0 then 1 else N.1 232 137))) ∧ ∀ a', a' < 2 → ∀ j, j < 9600 → h (9600 * a' + j) = by8 (dkw d a n (rw0 kd ix la n g pay) (decide (N.1 232 136 ≠ 0)) a' j) := by
    intro f hf
    have e2 : mz_nb (mz_b01 la) = by8 (b1 la) := by rw [b01_n, nb_nI]
    have eK : mz_wI (mz_wI (mz_wI (mz_sI N 341 f) 341 0 (by8 kd)) 341 1 (by8 ix)) 341 2 (by8 (b1 la)) = mz_sI N 341 (upd (upd (upd f 0 (by8 kd)) 1 (by8 ix)) 2 (by8 (b1 la))) := by
      simp only [wI_s, sI_sI, sI_e]; rfl
    obtain ⟨p4, f4, w4, h4⟩ := wr_r (a := 341) (n := 48) (p := 4) (k := 4) (v := (nI n).toInt64) (N := mz_sI N 341 (upd (upd (upd f 0 (by8 kd)) 1 (by8 ix)) 2 (by8 (b1 la)))) (by omega) (by omega) (by omega)
    rw [sI_sI] at w4
    have w4' : cf_412_0 341 48 4 4 (nI n).toInt64 (mz_sI N 341 (upd (upd (upd f 0 (by8 kd)) 1 (by8 ix)) 2 (by8 (b1 la)))) = mz_sI N 341 f4 := w4
    obtain ⟨p8, f8, w8, h8⟩ := wr_r (a := 341) (n := 48) (p := 8) (k := 4) (v := g) (N := mz_sI N 341 f4) (by omega) (by omega) (by omega)
    rw [sI_sI] at w8
    have w8' : cf_412_0 341 48 8 4 g (mz_sI N 341 f4) = mz_sI N 341 f8 := w8
    obtain ⟨q1, q2⟩ := e107 f8 (by
      intro j hj
      rw [h8]
      unfold rw0
      by_cases a8 : 8 ≤ j ∧ j < 8 + 4
      · rw [if_pos a8, if_neg (by omega), if_neg (by omega), if_neg (by omega), if_neg (by omega), if_neg (by omega), if_pos (by omega)]
      · rw [if_neg a8, sI_e, h4]
        by_cases a4 : 4 ≤ j ∧ j < 4 + 4
        · rw [if_pos a4, if_neg (by omega), if_neg (by omega), if_neg (by omega), if_neg (by omega), if_pos (by omega), nI_l (by omega)]
        · rw [if_neg a4, sI_e, up_a, up_a, up_a]
          by_cases z2 : j = 2
          · rw [if_pos z2, if_neg (by omega), if_neg (by omega), if_pos z2]
          · rw [if_neg z2]
            by_cases z1 : j = 1
            · rw [if_pos z1, if_neg (by omega), if_pos z1]
            · rw [if_neg z1]
              by_cases z0 : j = 0
              · rw [if_pos z0, if_pos z0]
              · rw [if_neg z0, hf j hj, if_neg z0, if_neg z1, if_neg z2]
                by_cases y : j < 4
                · rw [if_neg (show ¬ (12 ≤ j ∧ j < 40) by omega), if_pos y]
                · have y8 : ¬ j < 8 := by omega
                  have y12 : ¬ j < 12 := by omega
                  by_cases y2 : j < 40
                  · rw [if_pos (show 12 ≤ j ∧ j < 40 by omega), if_neg y, if_neg y8, if_neg y12, if_pos y2]
                  · rw [if_neg (show ¬ (12 ≤ j ∧ j < 40) by omega), if_neg y, if_neg y8, if_neg y12, if_neg y2])
    rw [cp_411_83, cf_411_83, e2, eK, w4', w8']
    exact ⟨⟨ib_n (k := 2) (by omega) (by omega), p4, p8, q1⟩, q2⟩
  have ek : mz_nb (mz_i2b (nI kd)) = by8 kd := nb_i2b _
  have ei : mz_nb (mz_i2b (nI ix)) = by8 ix := nb_i2b _
  have en : mz_nb 0 = by8 0 := nb_nI 0
  refine mz_lpn (f := cq_411_3 (nI a) (nI n) (nI kd) (nI ix) la g) (P := cd_411_3 (nI a) (nI n) (nI kd) (nI ix) la g) (Q := fun t => ∃ f h, t = (decide (N.1 232 136 ≠ 0), mz_sI (mz_sI (mz_sI N 341 f) 329 h) 232 (upd (upd (N.1 232) 136 (fus1 (N.1 232 136))) 137 (if N.1 232 136 = 0 then 1 else N.1 232 137))) ∧ ∀ a', a' < 2 → ∀ j, j < 9600 → h (9600 * a' + j) = by8 (dkw d a n (rw0 kd ix la n g pay) (decide (N.1 232 136 ≠ 0)) a' j)) 48 (fun t s => ∃ f, s = (nI t, mz_sI N 341 f) ∧ ∀ j, j < t → f j = if 12 ≤ j ∧ j < 40 then by8 (pay (j - 12)) else by8 0) ?_ ?_ (Nat.zero_le _) ⟨N.1 341, by rw [sI_same]; rfl, fun j hj => absurd hj (Nat.not_lt_zero _)⟩
  · rintro t s ht ⟨f, rfl, hf⟩
    have hst : cd_411_3 (nI a) (nI n) (nI kd) (nI ix) la g (nI t, mz_sI N 341 f) ∧ cq_411_3 (nI a) (nI n) (nI kd) (nI ix) la g (nI t, mz_sI N 341 f) = .inl (nI (t + 1), mz_wI (mz_sI N 341 f) 341 (nI t) (if 12 ≤ t ∧ t < 40 then by8 (pay (t - 12)) else by8 0)) := by
      by_cases h1 : t < 12
      · simp (disch := omega) only [cd_411_3, cq_411_3, cp_411_43, cf_411_43, cp_411_44, cf_411_44, nI_ltI, (show (48 : Int32) = nI 48 from rfl), (show (12 : Int32) = nI 12 from rfl), ht, h1, en, nI_1, ib_i, show ¬ (12 ≤ t ∧ t < 40) by omega, not_false_eq_true, not_true_eq_false, if_true, if_false, true_implies, false_implies, implies_true, and_true, true_and]
      · by_cases h2 : t < 40
        · have g1 : mz_nb (mz_gI (mz_sI N 341 f) 332 (nI (t - 12))) = by8 (pay (t - 12)) := by rw [gI_a, sI_n (by decide), nI_clamp (by omega), (hp _ (by omega)).1, by8_nb]
          simp (disch := omega) only [cd_411_3, cq_411_3, cp_411_43, cf_411_43, cp_411_44, cf_411_44, nI_ltI, (show (48 : Int32) = nI 48 from rfl), (show (12 : Int32) = nI 12 from rfl), (show (40 : Int32) = nI 40 from rfl), ht, h1, h2, pk_sub, g1, nI_1, ib_i, show (12 ≤ t ∧ t < 40) by omega, not_false_eq_true, not_true_eq_false, if_true, if_false, true_implies, false_implies, implies_true, and_true, true_and]
          omega
        · simp (disch := omega) only [cd_411_3, cq_411_3, cp_411_43, cf_411_43, cp_411_44, cf_411_44, nI_ltI, (show (48 : Int32) = nI 48 from rfl), (show (12 : Int32) = nI 12 from rfl), (show (40 : Int32) = nI 40 from rfl), ht, h1, h2, en, nI_1, ib_i, and_false, not_false_eq_true, not_true_eq_false, if_true, if_false, true_implies, false_implies, implies_true, and_true, true_and]
    refine ⟨hst.1, Or.inl ⟨_, hst.2, upd f t (if 12 ≤ t ∧ t < 40 then by8 (pay (t - 12)) else by8 0), ?_, ?_⟩⟩
    · rw [wI_s, sI_e, sI_sI, nI_clamp (by omega)]
    · intro j hj
      rw [up_a]
      by_cases z : j = t
      · rw [if_pos z, z]
      · rw [if_neg z]; exact hf j (by omega)
  · rintro s ⟨f, rfl, hf⟩
    obtain ⟨q1, q2⟩ := e83 f hf
    cases la with
    | true =>
      simp (disch := omega) only [cd_411_3, cq_411_3, nI_ltI, (show (48 : Int32) = nI 48 from rfl), Nat.lt_irrefl, ek, ei, q1, not_false_eq_true, not_true_eq_false, if_true, if_false, true_implies, false_implies, implies_true, and_true, true_and]
      exact ⟨_, rfl, q2⟩
    | false =>
      simp (disch := omega) only [cd_411_3, cq_411_3, nI_ltI, (show (48 : Int32) = nI 48 from rfl), Nat.lt_irrefl, ek, ei, q1, Bool.false_eq_true, not_false_eq_true, not_true_eq_false, if_true, if_false, true_implies, false_implies, implies_true, and_true, true_and]
      exact ⟨_, rfl, q2⟩
end Rwr
