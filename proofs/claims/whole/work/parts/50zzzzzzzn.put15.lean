/-! PURE (50zzzzzzzn): put: a reel's house is sound. -/
section Jr
variable {kt : Nat → Bool} {kb : Nat → Nat → Nat} {q : Nat}
theorem w4_am {g : Nat → Nat} {p hi : Nat} {c : Int64} (hh : hi < 2 ^ 31) (ec : c.toInt = (hi : Int)) (h : in4 g p 0 c ∨ ∀ j, g j = 0) : ∃ r, r ≤ hi ∧ w4 g p = nI r := by
  rcases h with h | h
  · obtain ⟨r, _, r2, r3⟩ := w4_in (lo := 0) (hi := hi) hh rfl ec h
    exact ⟨r, r2, r3⟩
  · exact ⟨0, Nat.zero_le _, w4_z h⟩
theorem rD_m (hL : LG kt kb) (ha : ∀ k, k < 135 → kt k = false → ∀ j, kb k j = 0) {j : Nat} (hj : j < 10) : (∃ r, r ≤ 100000000 ∧ w4 (kb (36 + j)) 16 = nI r) ∧ (∃ r, r ≤ 100000000 ∧ w4 (kb (36 + j)) 20 = nI r) ∧ ∃ r, r ≤ 100000000 ∧ w4 (kb (36 + j)) 24 = nI r := by
  rcases LG_k hL ha (k := 36 + j) (by omega) (kk8 j hj).1 (kk8 j hj).2 with ⟨_, h⟩ | ⟨_, h⟩
  · have h' : lg8 (kb (36 + j)) := h
    obtain ⟨_, _, h1, h2, h3⟩ := h'
    exact ⟨w4_am (by omega) rfl (Or.inl h1), w4_am (by omega) rfl (Or.inl h2), w4_am (by omega) rfl (Or.inl h3)⟩
  · exact ⟨w4_am (hi := 100000000) (c := 100000000) (by omega) rfl (Or.inr h), w4_am (hi := 100000000) (c := 100000000) (by omega) rfl (Or.inr h), w4_am (hi := 100000000) (c := 100000000) (by omega) rfl (Or.inr h)⟩
theorem rD_KB (hL : LG kt kb) (hg : ∀ k j, kb k j < 256) (ha : ∀ k, k < 135 → kt k = false → ∀ j, kb k j = 0) : KB q (rD kt kb) := by
  have P10 := LG_k hL ha (k := 47) (kd := 10) (ix := 0) (by omega) rfl rfl
  have P9 := LG_k hL ha (k := 46) (kd := 9) (ix := 0) (by omega) rfl rfl
  have c0 : ∀ {x : Int32} {hi : Nat}, (∃ r, r ≤ 100000000 ∧ x = nI r) → ∃ r, r ≤ 100000000 + hi ∧ x = nI r := fun ⟨r, h1, h2⟩ => ⟨r, by omega, h2⟩
  refine ⟨fun j => ?_, fun j hj => ?_, fun j hj => rD_rt hL ha hj, fun j hj => ?_, ?_, fun j h1 h4 => ?_, fun j hj => ?_, fun j hj => ?_, fun j hj => ?_, ?_, ?_, ?_, fun v hv => ?_, fun j hj h1 => ?_, fun j hj h1 => ?_, fun j hj h1 => ?_, fun j hj h1 => ?_⟩
  · show (if j < 240 then kb (10 + j / 24) (j % 24) else 0) ≤ 20
    by_cases w : j < 240
    · rw [if_pos w]
      rcases LG_k hL ha (k := 10 + j / 24) (by omega) (kk3 (j / 24) (by omega)).1 (kk3 (j / 24) (by omega)).2 with ⟨_, h⟩ | ⟨_, h⟩
      · have h' : lg3 (kb (10 + j / 24)) 20 := h
        exact h'.1 (j % 24) (Nat.zero_le _) (Nat.mod_lt _ (by omega))
      · rw [h]; omega
    · rw [if_neg w]; omega
  · show (if j < 11 then kb 35 j else 0) ≤ 9
    rw [if_pos hj]
    rcases LG_k hL ha (k := 35) (kd := 7) (ix := 1) (by omega) rfl rfl with ⟨_, h⟩ | ⟨_, h⟩
    · have h' : lg7 1 (kb 35) := h
      unfold lg7 at h'
      rw [if_neg (by decide)] at h'
      exact h'.1 j (Nat.zero_le _) hj
    · rw [h]; omega
  · show ∃ v : Int, -400 ≤ v ∧ v ≤ 500 ∧ (if j < 24 then w2 (kb (20 + j / 12)) (2 * (j % 12)) else 0) = iI v
    rw [if_pos hj]
    rcases LG_k hL ha (k := 20 + j / 12) (by omega) (kk4 (j / 12) (by omega)).1 (kk4 (j / 12) (by omega)).2 with ⟨_, h⟩ | ⟨_, h⟩
    · have h' : lg4 (kb (20 + j / 12)) := h
      have y := h'.1 (j % 12) (Nat.zero_le _) (Nat.mod_lt _ (by omega))
      rw [← w2_q] at y
      have := in_x y
      have e1 : (-400 : Int64).toInt = -400 := by decide
      have e2 : (500 : Int64).toInt = 500 := by decide
      rw [e1, e2] at this
      refine ⟨(w2 (kb (20 + j / 12)) (2 * (j % 12))).toInt, this.1, this.2, ?_⟩
      unfold iI
      exact (Int32.ofInt_toInt _).symm
    · exact ⟨0, by omega, by omega, by rw [w2_z h]; rfl⟩
  · show ∃ r, r ≤ 20000 ∧ (if kt 47 = true then (if 0 < 4 then w4 (kb 47) (8 + 4 * 0) else 0) else (if 0 = 0 then 5000 else 0)) = nI r
    rcases P10 with ⟨h1, h⟩ | ⟨h1, h⟩
    · have h' : lg10 (kb 47) := h
      rw [if_pos h1, if_pos (by omega)]
      exact w4_am (hi := 20000) (by omega) rfl (Or.inl (h'.1 0 (by omega) (by omega)))
    · rw [if_neg (by rw [h1]; exact fun z => by cases z), if_pos rfl]
      exact ⟨5000, by omega, rfl⟩
  · show ∃ r, r ≤ 1000 ∧ (if kt 47 = true then (if j < 4 then w4 (kb 47) (8 + 4 * j) else 0) else (if j = 0 then 5000 else 0)) = nI r
    rcases P10 with ⟨h1', h⟩ | ⟨h1', h⟩
    · have h' : lg10 (kb 47) := h
      rw [if_pos h1', if_pos h4]
      have y := h'.1 j (by omega) h4
      rw [if_neg (by omega)] at y
      exact w4_am (hi := 1000) (by omega) rfl (Or.inl y)
    · rw [if_neg (by rw [h1']; exact fun z => by cases z), if_neg (by omega)]
      exact ⟨0, by omega, rfl⟩
  · refine c0 ?_
    by_cases w : j < 10
    · rw [rD_I2 w]; exact (rD_m hL ha w).1
    · have e : j = 10 := by omega
      rw [e]
      show ∃ r, r ≤ 100000000 ∧ w4 (kb 47) 4 = nI r
      rcases P10 with ⟨_, h⟩ | ⟨_, h⟩
      · have h' : lg10 (kb 47) := h
        exact w4_am (by omega) rfl (Or.inl h'.2.2.1)
      · exact w4_am (hi := 100000000) (c := 100000000) (by omega) rfl (Or.inr h)
  · refine c0 ?_
    by_cases w : j < 10
    · rw [rD_I3 w]; exact (rD_m hL ha w).2.1
    · have e : j = 10 := by omega
      rw [e]
      show ∃ r, r ≤ 100000000 ∧ w4 (kb 47) 0 = nI r
      rcases P10 with ⟨_, h⟩ | ⟨_, h⟩
      · have h' : lg10 (kb 47) := h
        exact w4_am (by omega) rfl (Or.inl h'.2.1)
      · exact w4_am (hi := 100000000) (c := 100000000) (by omega) rfl (Or.inr h)
  · refine c0 ?_
    by_cases w : j < 10
    · rw [rD_I4 w]; exact (rD_m hL ha w).2.2
    · have e : j = 10 := by omega
      rw [e]
      exact ⟨0, by omega, rfl⟩
  · show ∃ t, t ≤ 2000000 ∧ w4 (kb 46) 0 = nI t
    have : ∃ t, t ≤ 1000000 ∧ w4 (kb 46) 0 = nI t := by
      rcases P9 with ⟨_, h⟩ | ⟨_, h⟩
      · have h' : lg9 (kb 46) := h
        exact w4_am (by omega) rfl (Or.inl h'.1)
      · exact w4_am (hi := 1000000) (c := 1000000) (by omega) rfl (Or.inr h)
    obtain ⟨t, t1, t2⟩ := this
    exact ⟨t, by omega, t2⟩
  · refine c0 ?_
    show ∃ r, r ≤ 100000000 ∧ w4 (kb 46) 20 = nI r
    rcases P9 with ⟨_, h⟩ | ⟨_, h⟩
    · have h' : lg9 (kb 46) := h
      exact w4_am (by omega) rfl (Or.inl h'.2.2.2.1)
    · exact w4_am (hi := 100000000) (c := 100000000) (by omega) rfl (Or.inr h)
  · refine c0 ?_
    show ∃ r, r ≤ 100000000 ∧ w4 (kb 46) 24 = nI r
    rcases P9 with ⟨_, h⟩ | ⟨_, h⟩
    · have h' : lg9 (kb 46) := h
      exact w4_am (by omega) rfl (Or.inl h'.2.2.2.2)
    · exact w4_am (hi := 100000000) (c := 100000000) (by omega) rfl (Or.inr h)
  · refine c0 ?_
    show ∃ r, r ≤ 100000000 ∧ (if v < 3 then w4 (kb (48 + v)) 4 else 0) = nI r
    rw [if_pos hv]
    rcases LG_k hL ha (k := 48 + v) (by omega) (kk11 v hv).1 (kk11 v hv).2 with ⟨_, h⟩ | ⟨_, h⟩
    · have h' : lg11 (kb (48 + v)) := h
      exact w4_am (by omega) rfl (Or.inl h'.2.1)
    · exact w4_am (hi := 100000000) (c := 100000000) (by omega) rfl (Or.inr h)
  · have h1' : (if j < 8 then b1 (kt (127 + j)) else 0) = 1 := h1
    rw [if_pos hj] at h1'
    show ptok (if j < 8 then kb (127 + j) 1 else 0) (if j < 8 then kb (127 + j) 2 else 0)
    rw [if_pos hj, if_pos hj]
    rcases LG_k hL ha (k := 127 + j) (by omega) (kk15 j hj).1 (kk15 j hj).2 with ⟨_, h⟩ | ⟨h2, h⟩
    · have h' : lg15 (kb (127 + j)) := h
      obtain ⟨a, c, a1, c1, ea, ec, r1, r2⟩ := (pt_in (v2 := nI (kb (127 + j) 1)) (v3 := nI (kb (127 + j) 2))).2.2 h'.2.1
      have g1 := hg (127 + j) 1
      have g2 := hg (127 + j) 2
      have e1 : kb (127 + j) 1 = a := (nI_eq (by omega) (by omega)).mp ea
      have e2 : kb (127 + j) 2 = c := (nI_eq (by omega) (by omega)).mp ec
      rw [e1, e2]
      exact ⟨a1, r1, fun z => by omega⟩
    · rw [h2] at h1'; cases h1'
  · obtain ⟨_, _, _, n, n1, n2⟩ := rD_tn hL ha hj h1
    exact ⟨n, by omega, n2⟩
  · obtain ⟨_, k0, kl, _⟩ := rD_tn hL ha hj h1
    unfold lg12 at kl
    rw [if_neg (by omega)] at kl
    show (if j < 16 then kb (51 + j) 1 else 0) < 5 ∧ (if j < 16 then kb (51 + j) 2 else 0) < 48 ∧ (if j < 16 then kb (51 + j) 3 else 0) ≤ 3
    rw [if_pos hj, if_pos hj, if_pos hj]
    exact ⟨kl.2.1, kl.2.2.1, kl.2.2.2.1⟩
  · obtain ⟨_, k0, kl, _⟩ := rD_tn hL ha hj h1
    unfold lg12 at kl
    rw [if_neg (by omega)] at kl
    show ∃ t, t ≤ 2000000 ∧ (if j < 16 then w4 (kb (51 + j)) 4 else 0) = nI t
    rw [if_pos hj]
    exact w4_am (by omega) rfl (Or.inl kl.2.2.2.2.1)
theorem rD_Jd (hL : LG kt kb) (hg : ∀ k j, kb k j < 256) (ha : ∀ k, k < 135 → kt k = false → ∀ j, kb k j = 0) : Jd q (rD kt kb) := by
  refine ⟨rD_KB hL hg ha, ⟨hL.n, fun i _ => pe_4 i, fun i hi hs => ?_, fun c _ => (rD_kpb hL hg ha).2.1 c⟩, hL.p, fun i j hi hj h1 h2 e => ?_, fun j hj => ?_, fun j hj h1 => ?_⟩
  · show pe kt kb i = 2 ∨ pe kt kb i = 3
    unfold pe
    by_cases w : kt (i / 110) = true
    · rw [if_pos ⟨hi, w⟩]
      rcases LG_k hL ha (k := i / 110) (by omega) (kk1 (i / 110) (by omega)).1 (kk1 (i / 110) (by omega)).2 with ⟨_, h⟩ | ⟨h2, _⟩
      · have h' : lgA1 (kb (i / 110)) := h
        have := h'.1 (i % 110) (Nat.zero_le _) (Nat.mod_lt _ (by omega)) hs
        have l : kb (i / 110) (i % 110 / 4) >>> (2 * (i % 110 % 4)) % 2 ^ 2 < 4 := Nat.mod_lt _ (by omega)
        omega
      · rw [h2] at w; cases w
    · rw [if_neg (fun z => w z.2)]
      unfold fe0
      rw [if_neg (by omega)]; exact Or.inl rfl
  · obtain ⟨_, a1, _, n, n1, n2⟩ := rD_tn hL ha hi h1
    obtain ⟨_, b1', _, m, m1, m2⟩ := rD_tn hL ha hj h2
    have e' : w4 (kb (51 + i)) 8 = w4 (kb (51 + j)) 8 := by
      have x1 : (rD kt kb).2.1 11 i = w4 (kb (51 + i)) 8 := by
        show (if i < 16 then w4 (kb (51 + i)) 8 else 0) = _
        rw [if_pos hi]
      have x2 : (rD kt kb).2.1 11 j = w4 (kb (51 + j)) 8 := by
        show (if j < 16 then w4 (kb (51 + j)) 8 else 0) = _
        rw [if_pos hj]
      rw [← x1, ← x2]; exact e
    have en : num (kb (51 + i)) 8 4 = num (kb (51 + j)) 8 4 := by
      unfold w4 at e'
      exact (nI_e32 (num_lt (n := 4) (fun i _ => hg _ _)) (num_lt (n := 4) (fun i _ => hg _ _))).mp e'
    rcases Nat.lt_trichotomy i j with w | w | w
    · exact absurd ⟨a1, b1', en⟩ (hL.a i (Nat.zero_le _) hi j (by omega) hj)
    · exact w
    · exact absurd ⟨b1', a1, en.symm⟩ (hL.a j (Nat.zero_le _) hj i (by omega) hi)
  · have hj' : j < kb 33 0 := hj
    have t := hL.t
    show 32 ≤ rtx kb j ∧ rtx kb j ≤ 126
    have := t.2.2 j (Nat.zero_le _) (by omega)
    rw [if_pos hj'] at this
    exact this
  · have h1' : (if j < 20 then b1 (kt (67 + j)) else 0) = 1 := h1
    rw [if_pos hj] at h1'
    show (if j < 20 then kb (67 + j) 1 else 0) < 5 ∧ (if j < 20 then kb (67 + j) 2 else 0) < 110
    rw [if_pos hj, if_pos hj]
    rcases LG_k hL ha (k := 67 + j) (by omega) (kk13 j hj).1 (kk13 j hj).2 with ⟨_, h⟩ | ⟨h2, h⟩
    · have h' : lg13 (kb (67 + j)) := h
      exact ⟨h'.2.1, h'.2.2.1⟩
    · rw [h2] at h1'; cases h1'
end Jr
