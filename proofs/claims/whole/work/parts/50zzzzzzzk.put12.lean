/-! PURE (50zzzzzzzk): put: the house of a reel; its keys tell it. -/
def rD (kt : Nat → Bool) (kb : Nat → Nat → Nat) : Kp :=
  (fun f j => if f = 0 then pe kt kb j else if f = 1 then (if j < 240 ∧ kt (5 + j / 48) = true then kb (5 + j / 48) (j % 48 / 2) >>> (4 * (j % 48 % 2)) % 2 ^ 4 else 15) else if f = 2 then (if j < 240 then kb (10 + j / 24) (j % 24) else 0) else if f = 3 then (if j < 96 then kb (22 + j / 24) (j % 24) else 0) else if f = 4 then rtx kb j else if f = 5 then kb 33 0 else if f = 6 then (if j < 11 then kb 35 j else 0) else if f = 7 then (if j < 3 then kb (48 + j) 12 else 0) else if f = 8 then (if j < 16 then kb (51 + j) 0 else 0) else if f = 9 then (if j < 16 then kb (51 + j) 1 else 0) else if f = 10 then (if j < 16 then kb (51 + j) 2 else 0) else if f = 11 then (if j < 16 then kb (51 + j) 3 else 0) else if f = 12 then (if j < 20 then b1 (kt (67 + j)) else 0) else if f = 13 then (if j < 20 then kb (67 + j) 1 else 0) else if f = 14 then (if j < 20 then kb (67 + j) 2 else 0) else if f = 15 then (if j < 40 then b1 (kt (87 + j)) else 0) else if f = 16 then (if j < 40 then kb (87 + j) 1 else 0) else if f = 17 then (if j < 40 then kb (87 + j) 2 else 0) else if f = 18 then (if j < 40 then kb (87 + j) 3 else 0) else if f = 19 then (if j < 8 then b1 (kt (127 + j)) else 0) else if f = 20 then (if j < 8 then kb (127 + j) 1 else 0) else if f = 21 then (if j < 8 then kb (127 + j) 2 else 0) else 0,
   fun f j => if f = 0 then (if j < 24 then w2 (kb (20 + j / 12)) (2 * (j % 12)) else 0) else if f = 1 then (if kt 34 = true then w2 (kb 34) (2 * j) else 100) else if f = 2 then (if j < 10 then w4 (kb (36 + j)) 16 else if j = 10 then w4 (kb 47) 4 else 0) else if f = 3 then (if j < 10 then w4 (kb (36 + j)) 20 else if j = 10 then w4 (kb 47) 0 else 0) else if f = 4 then (if j < 10 then w4 (kb (36 + j)) 24 else 0) else if f = 5 then (if j = 0 then w4 (kb 46) 0 else if j = 1 then w4 (kb 46) 20 else if j = 2 then w4 (kb 46) 24 else 0) else if f = 6 then (if kt 47 = true then (if j < 4 then w4 (kb 47) (8 + 4 * j) else 0) else (if j = 0 then 5000 else 0)) else if f = 7 then (if j < 3 ∧ kt (48 + j) = true then w4 (kb (48 + j)) 0 else 5000) else if f = 8 then (if j < 3 then w4 (kb (48 + j)) 4 else 0) else if f = 9 then (if j < 3 then w4 (kb (48 + j)) 8 else 0) else if f = 10 then (if j < 16 then w4 (kb (51 + j)) 4 else 0) else if f = 11 then (if j < 16 then w4 (kb (51 + j)) 8 else 0) else if f = 12 then (if j < 40 then w4 (kb (87 + j)) 4 else 0) else 0,
   fun f j => if f = 0 then (if j < 10 then w8 (kb (36 + j)) 0 else 0) else if f = 1 then (if j < 10 then w8 (kb (36 + j)) 8 else 0) else if f = 2 then (if j = 0 then w8 (kb 46) 4 else if j = 1 then w8 (kb 46) 12 else 0) else 0)
section Rd
variable {kt : Nat → Bool} {kb : Nat → Nat → Nat} {ix : Nat}
theorem kx1 (hg : ∀ k j, kb k j < 256) (hi : ix < 5) (hk : kt ix = true) (hl : lgA1 (kb ix)) : ∀ j, j < 28 → kb ix j = kx (rD kt kb) 1 ix j := fun j hj => by
  show _ = orp 4 2 (fun t => pe kt kb (110 * ix + t)) 110 j
  rw [orp_congr (g := fun t => kb ix (t / 4) >>> (2 * (t % 4)) % 2 ^ 2) (fun t ht => by
    unfold pe
    rw [show (110 * ix + t) / 110 = ix by omega, show (110 * ix + t) % 110 = t by omega, if_pos ⟨by omega, hk⟩]), orp1 (hg ix) hl.2 hj]
theorem kx2 (hg : ∀ k j, kb k j < 256) (hi : ix < 5) (hk : kt (5 + ix) = true) (hl : lg2 (kb (5 + ix))) : ∀ j, j < 28 → kb (5 + ix) j = kx (rD kt kb) 2 ix j := fun j hj => by
  show _ = orp 2 4 (fun t => if 48 * ix + t < 240 ∧ kt (5 + (48 * ix + t) / 48) = true then kb (5 + (48 * ix + t) / 48) ((48 * ix + t) % 48 / 2) >>> (4 * ((48 * ix + t) % 48 % 2)) % 2 ^ 4 else 15) 48 j
  rw [orp_congr (g := fun t => kb (5 + ix) (t / 2) >>> (4 * (t % 2)) % 2 ^ 4) (fun t ht => by
    rw [show (48 * ix + t) / 48 = ix by omega, show (48 * ix + t) % 48 = t by omega, if_pos ⟨by omega, hk⟩]), orp2 (hg _) hl.2 hj]
theorem kx3 (hi : ix < 10) (hb : blk (kb (10 + ix)) 24) : ∀ j, j < 28 → kb (10 + ix) j = kx (rD kt kb) 3 ix j := fun j hj => by
  show _ = if j < 24 then (if 24 * ix + j < 240 then kb (10 + (24 * ix + j) / 24) ((24 * ix + j) % 24) else 0) else 0
  by_cases w : j < 24
  · rw [if_pos w, if_pos (by omega), show (24 * ix + j) / 24 = ix by omega, show (24 * ix + j) % 24 = j by omega]
  · rw [if_neg w]; exact hb j (by omega) hj
theorem kx4 (hg : ∀ k j, kb k j < 256) (hi : ix < 2) (hb : blk (kb (20 + ix)) 24) : ∀ j, j < 28 → kb (20 + ix) j = kx (rD kt kb) 4 ix j := fun j hj => by
  show _ = wrd (fun t => (if 12 * ix + t < 24 then w2 (kb (20 + (12 * ix + t) / 12)) (2 * ((12 * ix + t) % 12)) else 0).toInt64) 12 j
  rw [wrd_congr (g := fun t => (w2 (kb (20 + ix)) (2 * t)).toInt64) (fun t ht => by
    rw [if_pos (by omega), show (12 * ix + t) / 12 = ix by omega, show (12 * ix + t) % 12 = t by omega]), wrd_g (n := 12) (hg _) hb (by omega) hj]
theorem kx5 (hi : ix < 4) (hb : blk (kb (22 + ix)) 24) : ∀ j, j < 28 → kb (22 + ix) j = kx (rD kt kb) 5 ix j := fun j hj => by
  show _ = if j < 24 then (if 24 * ix + j < 96 then kb (22 + (24 * ix + j) / 24) ((24 * ix + j) % 24) else 0) else 0
  by_cases w : j < 24
  · rw [if_pos w, if_pos (by omega), show (24 * ix + j) / 24 = ix by omega, show (24 * ix + j) % 24 = j by omega]
  · rw [if_neg w]; exact hb j (by omega) hj
theorem kx6 (hi : ix < 8) (hb : blk (kb 33) 1) : ∀ j, j < 28 → kb (26 + ix) j = kx (rD kt kb) 6 ix j := fun j hj => by
  show _ = (if ix = 7 then up (fun _ => 0) 0 (kb 33 0) else cut 28 (fun t => rtx kb (28 * ix + t))) j
  by_cases w : ix = 7
  · rw [if_pos w, up_d, w]
    by_cases y : j = 0
    · rw [if_pos y, y]
    · rw [if_neg y]; exact hb j (by omega) hj
  · rw [if_neg w]
    show _ = if j < 28 then rtx kb (28 * ix + j) else 0
    rw [if_pos hj]
    unfold rtx
    rw [if_pos (by omega), show (28 * ix + j) / 28 = ix by omega, show (28 * ix + j) % 28 = j by omega]
theorem kx7 (hg : ∀ k j, kb k j < 256) (hi : ix < 2) (hk : kt (34 + ix) = true) (hl : lg7 ix (kb (34 + ix))) : ∀ j, j < 28 → kb (34 + ix) j = kx (rD kt kb) 7 ix j := fun j hj => by
  unfold lg7 at hl
  show _ = (if ix = 0 then wrd (fun t => (if kt 34 = true then w2 (kb 34) (2 * t) else 100).toInt64) 11 else cut 11 (fun j => if j < 11 then kb 35 j else 0)) j
  by_cases w : ix = 0
  · rw [if_pos w] at hl ⊢
    rw [w] at hk hl ⊢
    rw [wrd_congr (g := fun t => (w2 (kb 34) (2 * t)).toInt64) (fun t ht => by rw [if_pos hk]), wrd_g (n := 11) (hg _) hl.2 (by omega) hj]
  · rw [if_neg w] at hl ⊢
    have e : ix = 1 := by omega
    rw [e] at hl ⊢
    show _ = if j < 11 then (if j < 11 then kb 35 j else 0) else 0
    by_cases y : j < 11
    · rw [if_pos y, if_pos y]
    · rw [if_neg y]; exact hl.2 j (by omega) hj
theorem rD_22 : (rD kt kb).2.2 = fun f j => if f = 0 then (if j < 10 then w8 (kb (36 + j)) 0 else 0) else if f = 1 then (if j < 10 then w8 (kb (36 + j)) 8 else 0) else if f = 2 then (if j = 0 then w8 (kb 46) 4 else if j = 1 then w8 (kb 46) 12 else 0) else 0 := rfl
theorem rD_L0 (hi : ix < 10) : (rD kt kb).2.2 0 ix = w8 (kb (36 + ix)) 0 := by
  rw [rD_22]
  dsimp only
  rw [if_pos rfl, if_pos hi]
theorem rD_L1 (hi : ix < 10) : (rD kt kb).2.2 1 ix = w8 (kb (36 + ix)) 8 := by
  rw [rD_22]
  dsimp only
  rw [if_neg (show ¬ (1 : Nat) = 0 by decide), if_pos rfl, if_pos hi]
theorem rD_I2 (hi : ix < 10) : (rD kt kb).2.1 2 ix = w4 (kb (36 + ix)) 16 := by
  show (if ix < 10 then w4 (kb (36 + ix)) 16 else if ix = 10 then w4 (kb 47) 4 else 0) = _
  rw [if_pos hi]
theorem rD_I3 (hi : ix < 10) : (rD kt kb).2.1 3 ix = w4 (kb (36 + ix)) 20 := by
  show (if ix < 10 then w4 (kb (36 + ix)) 20 else if ix = 10 then w4 (kb 47) 0 else 0) = _
  rw [if_pos hi]
theorem rD_I4 (hi : ix < 10) : (rD kt kb).2.1 4 ix = w4 (kb (36 + ix)) 24 := by
  show (if ix < 10 then w4 (kb (36 + ix)) 24 else 0) = _
  rw [if_pos hi]
theorem kx_8 {D : Kp} {g : Nat → Nat} (hg : ∀ j, g j < 256) (e1 : D.2.2 0 ix = w8 g 0) (e2 : D.2.2 1 ix = w8 g 8) (e3 : D.2.1 2 ix = w4 g 16) (e4 : D.2.1 3 ix = w4 g 20) (e5 : D.2.1 4 ix = w4 g 24) : ∀ j, j < 28 → g j = kx D 8 ix j := fun j hj => by
  show _ = pb (pb (pb (pb (pb (fun _ => 0) 0 8 (D.2.2 0 ix)) 8 8 (D.2.2 1 ix)) 16 4 (D.2.1 2 ix).toInt64) 20 4 (D.2.1 3 ix).toInt64) 24 4 (D.2.1 4 ix).toInt64 j
  rw [e1, e2, e3, e4, e5, pb_g (w8_b hg), pb_g (w8_b hg), pb_g (w4_b hg), pb_g (w4_b hg), pb_g (w4_b hg)]
  show g j = if 24 ≤ j ∧ j < 24 + 4 then g j else if 20 ≤ j ∧ j < 20 + 4 then g j else if 16 ≤ j ∧ j < 16 + 4 then g j else if 8 ≤ j ∧ j < 8 + 8 then g j else if 0 ≤ j ∧ j < 0 + 8 then g j else 0
  repeat' split
  all_goals first | rfl | (exfalso; omega)
theorem kx8 (hg : ∀ k j, kb k j < 256) (hi : ix < 10) : ∀ j, j < 28 → kb (36 + ix) j = kx (rD kt kb) 8 ix j := kx_8 (hg _) (rD_L0 hi) (rD_L1 hi) (rD_I2 hi) (rD_I3 hi) (rD_I4 hi)
theorem kx9 (hg : ∀ k j, kb k j < 256) : ∀ j, j < 28 → kb 46 j = kx (rD kt kb) 9 ix j := fun j hj => by
  show _ = pb (pb (pb (pb (pb (fun _ => 0) 0 4 (w4 (kb 46) 0).toInt64) 4 8 (w8 (kb 46) 4)) 12 8 (w8 (kb 46) 12)) 20 4 (w4 (kb 46) 20).toInt64) 24 4 (w4 (kb 46) 24).toInt64 j
  rw [pb_g (w4_b (hg _)), pb_g (w8_b (hg _)), pb_g (w8_b (hg _)), pb_g (w4_b (hg _)), pb_g (w4_b (hg _))]
  show _ = if 24 ≤ j ∧ j < 24 + 4 then kb 46 j else if 20 ≤ j ∧ j < 20 + 4 then kb 46 j else if 12 ≤ j ∧ j < 12 + 8 then kb 46 j else if 4 ≤ j ∧ j < 4 + 8 then kb 46 j else if 0 ≤ j ∧ j < 0 + 4 then kb 46 j else 0
  repeat' split
  all_goals first | rfl | (exfalso; omega)
theorem kx10 (hg : ∀ k j, kb k j < 256) (hk : kt 47 = true) (hb : blk (kb 47) 24) : ∀ j, j < 28 → kb 47 j = kx (rD kt kb) 10 ix j := fun j hj => by
  have E : ∀ t, t < 4 → (rD kt kb).2.1 6 t = w4 (kb 47) (8 + 4 * t) := fun t ht => by
    show (if kt 47 = true then (if t < 4 then w4 (kb 47) (8 + 4 * t) else 0) else (if t = 0 then 5000 else 0)) = _
    rw [if_pos hk, if_pos ht]
  show _ = pb (pb (pb (pb (pb (pb (fun _ => 0) 0 4 (w4 (kb 47) 0).toInt64) 4 4 (w4 (kb 47) 4).toInt64) 8 4 ((rD kt kb).2.1 6 0).toInt64) 12 4 ((rD kt kb).2.1 6 1).toInt64) 16 4 ((rD kt kb).2.1 6 2).toInt64) 20 4 ((rD kt kb).2.1 6 3).toInt64 j
  rw [E 0 (by omega), E 1 (by omega), E 2 (by omega), E 3 (by omega), pb_g (w4_b (hg _)), pb_g (w4_b (hg _)), pb_g (w4_b (hg _)), pb_g (w4_b (hg _)), pb_g (w4_b (hg _)), pb_g (w4_b (hg _))]
  show _ = if 20 ≤ j ∧ j < 20 + 4 then kb 47 j else if 16 ≤ j ∧ j < 16 + 4 then kb 47 j else if 12 ≤ j ∧ j < 12 + 4 then kb 47 j else if 8 ≤ j ∧ j < 8 + 4 then kb 47 j else if 4 ≤ j ∧ j < 4 + 4 then kb 47 j else if 0 ≤ j ∧ j < 0 + 4 then kb 47 j else 0
  by_cases w : 24 ≤ j
  · rw [if_neg (by omega), if_neg (by omega), if_neg (by omega), if_neg (by omega), if_neg (by omega), if_neg (by omega)]; exact hb j w hj
  · repeat' split
    all_goals first | rfl | (exfalso; omega)
theorem kx11 (hg : ∀ k j, kb k j < 256) (hi : ix < 3) (hk : kt (48 + ix) = true) (hb : blk (kb (48 + ix)) 13) : ∀ j, j < 28 → kb (48 + ix) j = kx (rD kt kb) 11 ix j := fun j hj => by
  show _ = up (pb (pb (pb (fun _ => 0) 0 4 (if ix < 3 ∧ kt (48 + ix) = true then w4 (kb (48 + ix)) 0 else 5000).toInt64) 4 4 (if ix < 3 then w4 (kb (48 + ix)) 4 else 0).toInt64) 8 4 (if ix < 3 then w4 (kb (48 + ix)) 8 else 0).toInt64) 12 (if ix < 3 then kb (48 + ix) 12 else 0) j
  rw [if_pos ⟨hi, hk⟩, if_pos hi, if_pos hi, if_pos hi, pb_g (w4_b (hg _)), pb_g (w4_b (hg _)), pb_g (w4_b (hg _)), up_d]
  show _ = if j = 12 then kb (48 + ix) 12 else if 8 ≤ j ∧ j < 8 + 4 then kb (48 + ix) j else if 4 ≤ j ∧ j < 4 + 4 then kb (48 + ix) j else if 0 ≤ j ∧ j < 0 + 4 then kb (48 + ix) j else 0
  by_cases w : 13 ≤ j
  · rw [if_neg (by omega), if_neg (by omega), if_neg (by omega), if_neg (by omega)]; exact hb j w hj
  · by_cases y : j = 12
    · rw [if_pos y, y]
    · rw [if_neg y]
      repeat' split
      all_goals first | rfl | (exfalso; omega)
theorem kx12 (hg : ∀ k j, kb k j < 256) (hi : ix < 16) (hl : lg12 (kb (51 + ix))) : ∀ j, j < 28 → kb (51 + ix) j = kx (rD kt kb) 12 ix j := fun j hj => by
  show _ = (if (if ix < 16 then kb (51 + ix) 0 else 0) = 0 then (fun _ => 0) else pb (pb (up (up (up (up (fun _ => 0) 0 1) 1 (if ix < 16 then kb (51 + ix) 1 else 0)) 2 (if ix < 16 then kb (51 + ix) 2 else 0)) 3 (if ix < 16 then kb (51 + ix) 3 else 0)) 4 4 (if ix < 16 then w4 (kb (51 + ix)) 4 else 0).toInt64) 8 4 (if ix < 16 then w4 (kb (51 + ix)) 8 else 0).toInt64) j
  unfold lg12 at hl
  rw [if_pos hi, if_pos hi, if_pos hi, if_pos hi, if_pos hi, if_pos hi]
  by_cases z : kb (51 + ix) 0 = 0
  · rw [if_pos z] at hl ⊢; exact hl j (by omega) hj
  · rw [if_neg z] at hl ⊢
    obtain ⟨l1, _, _, _, _, _, l7⟩ := hl
    rw [pb_g (w4_b (hg _)), pb_g (w4_b (hg _))]
    show _ = if 8 ≤ j ∧ j < 8 + 4 then kb (51 + ix) j else if 4 ≤ j ∧ j < 4 + 4 then kb (51 + ix) j else if j = 3 then kb (51 + ix) 3 else if j = 2 then kb (51 + ix) 2 else if j = 1 then kb (51 + ix) 1 else if j = 0 then 1 else 0
    by_cases w : 12 ≤ j
    · rw [if_neg (by omega), if_neg (by omega), if_neg (by omega), if_neg (by omega), if_neg (by omega), if_neg (by omega)]; exact l7 j w hj
    · repeat' split
      all_goals first | rfl | (rename_i y; rw [y]; exact l1) | (rename_i y; rw [y]; done) | (exfalso; omega)
theorem kx13 (hi : ix < 20) (hl : lg13 (kb (67 + ix))) : ∀ j, j < 28 → kb (67 + ix) j = kx (rD kt kb) 13 ix j := fun j hj => by
  obtain ⟨l1, _, _, _, l7⟩ := hl
  show _ = up (up (up (fun _ => 0) 0 1) 1 (if ix < 20 then kb (67 + ix) 1 else 0)) 2 (if ix < 20 then kb (67 + ix) 2 else 0) j
  rw [if_pos hi, if_pos hi]
  show _ = if j = 2 then kb (67 + ix) 2 else if j = 1 then kb (67 + ix) 1 else if j = 0 then 1 else 0
  by_cases w : 3 ≤ j
  · rw [if_neg (by omega), if_neg (by omega), if_neg (by omega)]; exact l7 j w hj
  · rcases (show j = 0 ∨ j = 1 ∨ j = 2 by omega) with y | y | y <;> subst y
    · exact l1
    · rfl
    · rfl
theorem kx14 (hg : ∀ k j, kb k j < 256) (hi : ix < 40) (hl : lg14 (kb (87 + ix))) : ∀ j, j < 28 → kb (87 + ix) j = kx (rD kt kb) 14 ix j := fun j hj => by
  obtain ⟨l1, _, _, _, _, l7⟩ := hl
  show _ = pb (up (up (up (up (fun _ => 0) 0 1) 1 (if ix < 40 then kb (87 + ix) 1 else 0)) 2 (if ix < 40 then kb (87 + ix) 2 else 0)) 3 (if ix < 40 then kb (87 + ix) 3 else 0)) 4 4 (if ix < 40 then w4 (kb (87 + ix)) 4 else 0).toInt64 j
  rw [if_pos hi, if_pos hi, if_pos hi, if_pos hi, pb_g (w4_b (hg _))]
  show _ = if 4 ≤ j ∧ j < 4 + 4 then kb (87 + ix) j else if j = 3 then kb (87 + ix) 3 else if j = 2 then kb (87 + ix) 2 else if j = 1 then kb (87 + ix) 1 else if j = 0 then 1 else 0
  by_cases w : 8 ≤ j
  · rw [if_neg (by omega), if_neg (by omega), if_neg (by omega), if_neg (by omega), if_neg (by omega)]; exact l7 j w hj
  · repeat' split
    all_goals first | rfl | (rename_i y; rw [y]; exact l1) | (rename_i y; rw [y]; done) | (exfalso; omega)
theorem kx15 (hi : ix < 8) (hl : lg15 (kb (127 + ix))) : ∀ j, j < 28 → kb (127 + ix) j = kx (rD kt kb) 15 ix j := fun j hj => by
  obtain ⟨l1, _, l7⟩ := hl
  show _ = up (up (up (fun _ => 0) 0 1) 1 (if ix < 8 then kb (127 + ix) 1 else 0)) 2 (if ix < 8 then kb (127 + ix) 2 else 0) j
  rw [if_pos hi, if_pos hi]
  show _ = if j = 2 then kb (127 + ix) 2 else if j = 1 then kb (127 + ix) 1 else if j = 0 then 1 else 0
  by_cases w : 3 ≤ j
  · rw [if_neg (by omega), if_neg (by omega), if_neg (by omega)]; exact l7 j w hj
  · rcases (show j = 0 ∨ j = 1 ∨ j = 2 by omega) with y | y | y <;> subst y
    · exact l1
    · rfl
    · rfl
end Rd
