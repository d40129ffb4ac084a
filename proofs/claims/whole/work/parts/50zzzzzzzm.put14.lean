/-! PURE (50zzzzzzzm): put: the reel's keys tell its house. -/
section Sd
variable {kt : Nat → Bool} {kb : Nat → Nat → Nat}
theorem rD_by (hL : LG kt kb) (hg : ∀ k j, kb k j < 256) {k : Nat} (hk : k < 135) (hkt : kt k = true) : ∀ j, j < 28 → kb k j = xk (rD kt kb) k j := by
  obtain ⟨n1, n2, n3, n4, n5, _⟩ := kdk_ok k hk
  have hl := hL.k k (Nat.zero_le _) hk hkt
  have e : k = FK (kdk k - 1) + ixk k := by unfold ixk; omega
  have hb := hL.t.2.1
  unfold xk
  generalize ixk k = ix at hl e
  generalize kdk k = kd at n1 n2 n3 hl e
  rcases (show kd = 1 ∨ kd = 2 ∨ kd = 3 ∨ kd = 4 ∨ kd = 5 ∨ kd = 6 ∨ kd = 7 ∨ kd = 8 ∨ kd = 9 ∨ kd = 10 ∨ kd = 11 ∨ kd = 12 ∨ kd = 13 ∨ kd = 14 ∨ kd = 15 by omega) with w | w | w | w | w | w | w | w | w | w | w | w | w | w | w <;> subst w
  · have e' : k = ix := by have : k = 0 + ix := e; omega
    have n3' : k < 5 := n3
    subst e'
    exact kx1 hg n3' hkt hl
  · have e' : k = 5 + ix := e
    have n3' : k < 10 := n3
    rw [e'] at hkt hl ⊢
    exact kx2 hg (by omega) hkt hl
  · have e' : k = 10 + ix := e
    have n3' : k < 20 := n3
    rw [e'] at hkt hl ⊢
    have hl' : lg3 (kb (10 + ix)) 20 := hl
    exact kx3 (by omega) hl'.2
  · have e' : k = 20 + ix := e
    have n3' : k < 22 := n3
    rw [e'] at hkt hl ⊢
    have hl' : lg4 (kb (20 + ix)) := hl
    exact kx4 hg (by omega) hl'.2
  · have e' : k = 22 + ix := e
    have n3' : k < 26 := n3
    rw [e'] at hkt hl ⊢
    have hl' : lg3 (kb (22 + ix)) 200 := hl
    exact kx5 (by omega) hl'.2
  · have e' : k = 26 + ix := e
    have n3' : k < 34 := n3
    rw [e']
    exact kx6 (by omega) hb
  · have e' : k = 34 + ix := e
    have n3' : k < 36 := n3
    rw [e'] at hkt hl ⊢
    exact kx7 hg (by omega) hkt hl
  · have e' : k = 36 + ix := e
    have n3' : k < 46 := n3
    rw [e']
    exact kx8 hg (by omega)
  · have e' : k = 46 + ix := e
    have n3' : k < 47 := n3
    have i0 : ix = 0 := by omega
    rw [e', i0]
    exact kx9 hg
  · have e' : k = 47 + ix := e
    have n3' : k < 48 := n3
    have i0 : ix = 0 := by omega
    rw [e', i0] at hkt hl ⊢
    have hl' : lg10 (kb 47) := hl
    exact kx10 hg hkt hl'.2.2.2
  · have e' : k = 48 + ix := e
    have n3' : k < 51 := n3
    rw [e'] at hkt hl ⊢
    have hl' : lg11 (kb (48 + ix)) := hl
    exact kx11 hg (by omega) hkt hl'.2.2.2.2
  · have e' : k = 51 + ix := e
    have n3' : k < 67 := n3
    rw [e'] at hkt hl ⊢
    exact kx12 hg (by omega) hl
  · have e' : k = 67 + ix := e
    have n3' : k < 87 := n3
    rw [e'] at hkt hl ⊢
    exact kx13 (by omega) hl
  · have e' : k = 87 + ix := e
    have n3' : k < 127 := n3
    rw [e'] at hkt hl ⊢
    exact kx14 hg (by omega) hl
  · have e' : k = 127 + ix := e
    have n3' : k < 135 := n3
    rw [e'] at hkt hl ⊢
    exact kx15 (by omega) hl
theorem w2_i16 {g : Nat → Nat} {p : Nat} : i16 (w2 g p) := by
  unfold i16
  rw [w2_16]; rfl
theorem rD_kxt {k : Nat} (hk : k < 135) (hkt : kt k = true) : kxt (rD kt kb) (kdk k) (ixk k) := by
  obtain ⟨n1, n2, n3, n4, n5, _⟩ := kdk_ok k hk
  have e : k = FK (kdk k - 1) + ixk k := by unfold ixk; omega
  generalize ixk k = ix at e ⊢
  generalize kdk k = kd at n3 e ⊢
  refine ⟨fun w => ?_, fun w => ?_, fun w => ?_⟩ <;> subst w
  · have e' : k = 67 + ix := e
    have n3' : k < 87 := n3
    show (if ix < 20 then b1 (kt (67 + ix)) else 0) = 1
    rw [if_pos (by omega), ← e', hkt]; rfl
  · have e' : k = 87 + ix := e
    have n3' : k < 127 := n3
    show (if ix < 40 then b1 (kt (87 + ix)) else 0) = 1
    rw [if_pos (by omega), ← e', hkt]; rfl
  · have e' : k = 127 + ix := e
    have n3' : k < 135 := n3
    show (if ix < 8 then b1 (kt (127 + ix)) else 0) = 1
    rw [if_pos (by omega), ← e', hkt]; rfl
theorem rD_rt (hL : LG kt kb) (ha : ∀ k, k < 135 → kt k = false → ∀ j, kb k j = 0) {t : Nat} (ht : t < 11) : ∃ r, 1 ≤ r ∧ r ≤ 500 ∧ (rD kt kb).2.1 1 t = nI r := by
  show ∃ r, 1 ≤ r ∧ r ≤ 500 ∧ (if kt 34 = true then w2 (kb 34) (2 * t) else 100) = nI r
  rcases LG_k hL ha (k := 34) (by omega) (kk7 0 (by omega)).1 (kk7 0 (by omega)).2 with ⟨h1, h⟩ | ⟨h1, h⟩
  · rw [if_pos h1]
    have h' : lg7 0 (kb 34) := h
    unfold lg7 at h'
    rw [if_pos rfl] at h'
    have q := h'.1 t (Nat.zero_le _) ht
    rw [← w2_q] at q
    have := in_x q
    exact in_rr (lo := 1) (hi := 500) (by omega) this
  · rw [if_neg (by rw [h1]; exact fun z => by cases z)]
    exact ⟨100, by omega, by omega, rfl⟩
theorem rD_tn (hL : LG kt kb) (ha : ∀ k, k < 135 → kt k = false → ∀ j, kb k j = 0) {j : Nat} (hj : j < 16) (h1 : (rD kt kb).1 8 j = 1) : kt (51 + j) = true ∧ kb (51 + j) 0 = 1 ∧ lg12 (kb (51 + j)) ∧ ∃ n, n ≤ 1000000000 ∧ (rD kt kb).2.1 11 j = nI n := by
  have h1' : (if j < 16 then kb (51 + j) 0 else 0) = 1 := h1
  rw [if_pos hj] at h1'
  rcases LG_k hL ha (k := 51 + j) (by omega) (kk12 j hj).1 (kk12 j hj).2 with ⟨h2, h⟩ | ⟨h2, h⟩
  · have h' : lg12 (kb (51 + j)) := h
    refine ⟨h2, h1', h', ?_⟩
    have h3 := h'
    unfold lg12 at h3
    rw [if_neg (by omega)] at h3
    obtain ⟨r, _, r2, r3⟩ := w4_in (lo := 0) (hi := 1000000000) (by omega) rfl rfl h3.2.2.2.2.2.1
    refine ⟨r, r2, ?_⟩
    show (if j < 16 then w4 (kb (51 + j)) 8 else 0) = _
    rw [if_pos hj]; exact r3
  · rw [h 0] at h1'; cases h1'
theorem rD_kpl (hL : LG kt kb) (ha : ∀ k, k < 135 → kt k = false → ∀ j, kb k j = 0) {k : Nat} (hk : k < 135) : kpl (rD kt kb) (kdk k) (ixk k) := by
  have i12 := ix12 k hk
  refine ⟨fun w t ht => ?_, fun w w0 t ht => ?_, fun w w1 => ?_⟩
  · show i16 (if 12 * ixk k + t < 24 then w2 (kb (20 + (12 * ixk k + t) / 12)) (2 * ((12 * ixk k + t) % 12)) else 0)
    split
    · exact w2_i16
    · rfl
  · obtain ⟨r, _, r2, r3⟩ := rD_rt hL ha ht
    exact ⟨r, r2, r3⟩
  · obtain ⟨_, _, _, n, n1, n2⟩ := rD_tn hL ha (i12 w).1 w1
    exact ⟨n, by omega, n2⟩
theorem rD_kag (ha : ∀ k, k < 135 → kt k = false → ∀ j, kb k j = 0) {k : Nat} (hk : k < 135) (hkt : kt k = false) : kag H0 (rD kt kb) (kdk k) (ixk k) := by
  obtain ⟨n1, n2, n3, n4, n5, _⟩ := kdk_ok k hk
  have e : k = FK (kdk k - 1) + ixk k := by unfold ixk; omega
  have z := ha k hk hkt
  have nt : ¬ kt k = true := by rw [hkt]; exact fun z => by cases z
  generalize ixk k = ix at e ⊢
  generalize kdk k = kd at n1 n2 n3 e ⊢
  rcases (show kd = 1 ∨ kd = 2 ∨ kd = 3 ∨ kd = 4 ∨ kd = 5 ∨ kd = 6 ∨ kd = 7 ∨ kd = 8 ∨ kd = 9 ∨ kd = 10 ∨ kd = 11 ∨ kd = 12 ∨ kd = 13 ∨ kd = 14 ∨ kd = 15 by omega) with w | w | w | w | w | w | w | w | w | w | w | w | w | w | w <;> subst w
  · have e' : k = ix := by have : k = 0 + ix := e; omega
    subst e'
    show ∀ j, 110 * k ≤ j → j < 110 * k + 110 → fe0 j = pe kt kb j
    intro j h1 h2
    unfold pe
    rw [show j / 110 = k by omega, if_neg (fun q => nt q.2)]
  · have e' : k = 5 + ix := e
    show ∀ j, 48 * ix ≤ j → j < 48 * ix + 48 → 15 = (if j < 240 ∧ kt (5 + j / 48) = true then kb (5 + j / 48) (j % 48 / 2) >>> (4 * (j % 48 % 2)) % 2 ^ 4 else 15)
    intro j h1 h2
    rw [show j / 48 = ix by omega, ← e', if_neg (fun q => nt q.2)]
  · have e' : k = 10 + ix := e
    show ∀ j, 24 * ix ≤ j → j < 24 * ix + 24 → 0 = (if j < 240 then kb (10 + j / 24) (j % 24) else 0)
    intro j h1 h2
    rw [show j / 24 = ix by omega, ← e', z]
    split <;> rfl
  · have e' : k = 20 + ix := e
    show ∀ j, 12 * ix ≤ j → j < 12 * ix + 12 → 0 = (if j < 24 then w2 (kb (20 + j / 12)) (2 * (j % 12)) else 0)
    intro j h1 h2
    rw [show j / 12 = ix by omega, ← e', w2_z z]
    split <;> rfl
  · have e' : k = 22 + ix := e
    show ∀ j, 24 * ix ≤ j → j < 24 * ix + 24 → 0 = (if j < 96 then kb (22 + j / 24) (j % 24) else 0)
    intro j h1 h2
    rw [show j / 24 = ix by omega, ← e', z]
    split <;> rfl
  · have e' : k = 26 + ix := e
    have n3' : k < 34 := n3
    show (if ix = 7 then 0 = kb 33 0 else ∀ j, 28 * ix ≤ j → j < 28 * ix + 28 → 0 = rtx kb j)
    by_cases w : ix = 7
    · rw [if_pos w, ← show k = 33 by omega, z]
    · rw [if_neg w]
      intro j h1 h2
      unfold rtx
      rw [show j / 28 = ix by omega, ← e', z]
      split <;> rfl
  · have e' : k = 34 + ix := e
    have n3' : k < 36 := n3
    show (if ix = 0 then ∀ j, j < 11 → 100 = (if kt 34 = true then w2 (kb 34) (2 * j) else 100) else ∀ j, j < 11 → 0 = (if j < 11 then kb 35 j else 0))
    by_cases w : ix = 0
    · rw [if_pos w]
      intro j hj
      rw [if_neg (by rw [show (34 : Nat) = k by omega]; exact nt)]
    · rw [if_neg w]
      intro j hj
      rw [show (35 : Nat) = k by omega, z]
      split <;> rfl
  · have e' : k = 36 + ix := e
    have n3' : k < 46 := n3
    have hi : ix < 10 := by omega
    show (0 : Int32) = (rD kt kb).2.1 2 ix ∧ (0 : Int32) = (rD kt kb).2.1 3 ix ∧ (0 : Int32) = (rD kt kb).2.1 4 ix ∧ (0 : Int64) = (rD kt kb).2.2 0 ix ∧ (0 : Int64) = (rD kt kb).2.2 1 ix
    rw [rD_I2 hi, rD_I3 hi, rD_I4 hi, rD_L0 hi, rD_L1 hi, ← e', w4_z z, w4_z z, w4_z z]
    unfold w8
    rw [num_z (fun i _ => z _), num_z (fun i _ => z _)]
    exact ⟨rfl, rfl, rfl, rfl, rfl⟩
  · have e' : k = 46 + ix := e
    have n3' : k < 47 := n3
    have k46 : k = 46 := by omega
    rw [k46] at z
    have E : ∀ j, (rD kt kb).2.2 2 j = if j = 0 then w8 (kb 46) 4 else if j = 1 then w8 (kb 46) 12 else 0 := fun j => by
      rw [rD_22]
      dsimp only
      rw [if_neg (show ¬ (2 : Nat) = 0 by decide), if_neg (show ¬ (2 : Nat) = 1 by decide), if_pos rfl]
    show (∀ j, j < 3 → (0 : Int32) = if j = 0 then w4 (kb 46) 0 else if j = 1 then w4 (kb 46) 20 else if j = 2 then w4 (kb 46) 24 else 0) ∧ ∀ j, j < 2 → (0 : Int64) = (rD kt kb).2.2 2 j
    refine ⟨fun j hj => ?_, fun j hj => ?_⟩
    · rw [w4_z z, w4_z z, w4_z z]
      repeat' split
      all_goals rfl
    · rw [E]
      unfold w8
      rw [num_z (fun i _ => z _), num_z (fun i _ => z _)]
      repeat' split
      all_goals rfl
  · have e' : k = 47 + ix := e
    have n3' : k < 48 := n3
    have k47 : k = 47 := by omega
    rw [k47] at z nt
    show (0 : Int32) = w4 (kb 47) 4 ∧ (0 : Int32) = w4 (kb 47) 0 ∧ ∀ j, j < 4 → (if j = 0 then (5000 : Int32) else 0) = if kt 47 = true then (if j < 4 then w4 (kb 47) (8 + 4 * j) else 0) else (if j = 0 then 5000 else 0)
    refine ⟨(w4_z z).symm, (w4_z z).symm, fun j hj => ?_⟩
    rw [if_neg nt]
  · have e' : k = 48 + ix := e
    have n3' : k < 51 := n3
    have hi : ix < 3 := by omega
    show (5000 : Int32) = (if ix < 3 ∧ kt (48 + ix) = true then w4 (kb (48 + ix)) 0 else 5000) ∧ (0 : Int32) = (if ix < 3 then w4 (kb (48 + ix)) 4 else 0) ∧ (0 : Int32) = (if ix < 3 then w4 (kb (48 + ix)) 8 else 0) ∧ 0 = (if ix < 3 then kb (48 + ix) 12 else 0)
    rw [← e', if_neg (fun q => nt q.2), if_pos hi, if_pos hi, if_pos hi, w4_z z, w4_z z, z]
    exact ⟨rfl, rfl, rfl, rfl⟩
  · have e' : k = 51 + ix := e
    show 0 = (if ix < 16 then kb (51 + ix) 0 else 0) ∧ ((0 : Nat) = 1 → _)
    rw [← e', z]
    exact ⟨by split <;> rfl, (fun y => by cases y)⟩
  · have e' : k = 67 + ix := e
    show 0 = (if ix < 20 then b1 (kt (67 + ix)) else 0) ∧ ((0 : Nat) = 1 → _)
    rw [← e', hkt]
    exact ⟨by split <;> rfl, (fun y => by cases y)⟩
  · have e' : k = 87 + ix := e
    show 0 = (if ix < 40 then b1 (kt (87 + ix)) else 0) ∧ ((0 : Nat) = 1 → _)
    rw [← e', hkt]
    exact ⟨by split <;> rfl, (fun y => by cases y)⟩
  · have e' : k = 127 + ix := e
    show 0 = (if ix < 8 then b1 (kt (127 + ix)) else 0) ∧ ((0 : Nat) = 1 → _)
    rw [← e', hkt]
    exact ⟨by split <;> rfl, (fun y => by cases y)⟩
theorem rD_st (hL : LG kt kb) (hg : ∀ k j, kb k j < 256) (ha : ∀ k, k < 135 → kt k = false → ∀ j, kb k j = 0) : st_D kt kb (rD kt kb) :=
  ⟨rD_kpb hL hg ha, rfl, fun k hk => ⟨fun h => ⟨rD_kxt hk h, rD_kpl hL ha hk, rD_by hL hg hk h⟩, fun h => rD_kag ha hk h⟩⟩
end Sd
