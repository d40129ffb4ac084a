/-! PURE (50zzo): water in the reference. -/
def wqc (N : mz_N) (h F : Nat → Int32) (m L : Nat → Int64) : mz_N := (fun z => if z = 277 then h else if z = 232 then F else N.1 z, fun z => if z = 323 then m else if z = 232 then L else N.2 z)
section Wrc
variable {N : mz_N} {h F : Nat → Int32} {m L : Nat → Int64} {i v : Int32} {w : Int64} {j : Nat}
theorem wq_h : mz_wI (wqc N h F m L) 277 i v = wqc N (upd h i.toNatClampNeg v) F m L := by
  rw [wI_s]; unfold mz_sI wqc
  refine Prod.ext (funext fun y => ?_) rfl
  simp only
  by_cases h1 : y = 277
  · subst h1; rfl
  · simp [h1]
theorem wq_F : mz_pI (wqc N h F m L) 232 j v = wqc N h (upd F j v) m L := by
  rw [pI_s]; unfold mz_sI wqc
  refine Prod.ext (funext fun y => ?_) rfl
  simp only
  by_cases h1 : y = 232
  · subst h1; rfl
  · simp [h1]
theorem wq_m : mz_wL (wqc N h F m L) 323 i w = wqc N h F (vp_updL m i.toNatClampNeg w) L := by
  rw [wL_s]; unfold mz_sL wqc
  refine Prod.ext rfl (funext fun y => ?_)
  simp only
  by_cases h1 : y = 323
  · subst h1; rfl
  · simp [h1]
theorem wq_L : mz_pL (wqc N h F m L) 232 j w = wqc N h F m (vp_updL L j w) := by
  rw [pL_s]; unfold mz_sL wqc
  refine Prod.ext rfl (funext fun y => ?_)
  simp only
  by_cases h1 : y = 232
  · subst h1; rfl
  · simp [h1]
theorem wq_self : wqc N (N.1 277) (N.1 232) (N.2 323) (N.2 232) = N := by
  unfold wqc
  refine Prod.ext (funext fun y => ?_) (funext fun y => ?_)
  · simp only
    by_cases h1 : y = 277
    · subst h1; rfl
    · by_cases h2 : y = 232
      · subst h2; rfl
      · simp [h1, h2]
  · simp only
    by_cases h1 : y = 323
    · subst h1; rfl
    · by_cases h2 : y = 232
      · subst h2; rfl
      · simp [h1, h2]
end Wrc
section Wwr
variable {N : mz_N} {e fl P : Nat → Nat} {hr tm co : Nat} {wa fit lv pu : Bool} {s : WtS} {h F : Nat → Int32} {m L : Nat → Int64}
theorem take_r {i : Nat} {v1 : Int32} {s : WtS} {y : Bool} (hi : i < 10) (h61 : F 61 = nI s.1) (hs1 : s.1 ≤ 2000) (h62 : F 62 = nI s.2.1) (hs2 : s.2.1 ≤ 20000) (hm : m i = N.2 323 i) :
    cp_522_58 y v1 (nI i) (wqc N h F m L) ∧ cf_522_58 y v1 (nI i) (wqc N h F m L) = .inl (nI (i + 1), wqc N (upd h i (nI (hot1 true s))) (upd (upd (upd (upd F 67 (mz_b01 y)) 61 (nI (s.1 - min 6 s.1))) 61 (nI (s.1 - min 6 s.1 - min 4 (s.1 - min 6 s.1)))) 62 (nI (s.2.1 - 40 * min 4 (s.1 - min 6 s.1)))) (vp_updL m i (N.2 323 i + lN (tok1 true s))) L) := by
  obtain ⟨tk, st, dr⟩ := s
  simp only at h61 hs1 h62 hs2
  have i10 : mz_ib (nI i) 10 := ib_n hi (by omega)
  have i11 : mz_ib (nI i) 11 := ib_n (by omega) (by omega)
  have last : ∀ (c q : Nat) (G : Nat → Int32), c = min 6 tk → q = min 4 (tk - min 6 tk) → G 61 = nI (tk - min 6 tk) → G 62 = nI st → cp_522_106 (nI q) v1 (nI i) (nI c) (wqc N h G m L) ∧ cf_522_106 (nI q) v1 (nI i) (nI c) (wqc N h G m L) = .inl (nI (i + 1), wqc N (upd h i (nI (hot1 true (tk, st, dr)))) (upd (upd G 61 (nI (tk - min 6 tk - min 4 (tk - min 6 tk)))) 62 (nI (st - 40 * min 4 (tk - min 6 tk)))) (vp_updL m i (N.2 323 i + lN (tok1 true (tk, st, dr)))) L) := fun c q G hc hq g61 g62 => by
    subst hc hq
    have e61 : (wqc N h G m L).1 232 61 = nI (tk - min 6 tk) := g61
    have m40 : 40 * nI (min 4 (tk - min 6 tk)) = nI (40 * min 4 (tk - min 6 tk)) := by rw [show (40 : Int32) = nI 40 from rfl, pk_mul]
    rw [cp_522_106, cf_522_106, e61, pk_sub (by omega), wq_F, m40]
    have e62 : (wqc N h (upd G 61 (nI (tk - min 6 tk - min 4 (tk - min 6 tk)))) m L).1 232 62 = nI st := g62
    rw [e62]
    have fin : ∀ x : Int32, x = nI (st - 40 * min 4 (tk - min 6 tk)) → cp_522_146 x v1 (nI i) (nI (min 6 tk)) (nI (min 4 (tk - min 6 tk))) (wqc N h (upd G 61 (nI (tk - min 6 tk - min 4 (tk - min 6 tk)))) m L) ∧ cf_522_146 x v1 (nI i) (nI (min 6 tk)) (nI (min 4 (tk - min 6 tk))) (wqc N h (upd G 61 (nI (tk - min 6 tk - min 4 (tk - min 6 tk)))) m L) = .inl (nI (i + 1), wqc N (upd h i (nI (hot1 true (tk, st, dr)))) (upd (upd G 61 (nI (tk - min 6 tk - min 4 (tk - min 6 tk)))) 62 (nI (st - 40 * min 4 (tk - min 6 tk)))) (vp_updL m i (N.2 323 i + lN (tok1 true (tk, st, dr)))) L) := fun x hx => by
      subst hx
      rw [cp_522_146, cf_522_146, wq_F, wq_h, cf_522_171, wq_m, nI_clamp (by omega), nI_1]
      have em : mz_gL (wqc N (upd h i (nI (min 4 (tk - min 6 tk)))) (upd (upd G 61 (nI (tk - min 6 tk - min 4 (tk - min 6 tk)))) 62 (nI (st - 40 * min 4 (tk - min 6 tk)))) m L) 323 (nI i) = N.2 323 i := by rw [gL_a, nI_clamp (by omega)]; exact hm
      rw [em, nI_add, nI_L (by omega)]
      exact ⟨⟨i10, i11, i11, trivial⟩, rfl⟩
    by_cases v : st < 40 * min 4 (tk - min 6 tk)
    · have lv' : nI st < nI (40 * min 4 (tk - min 6 tk)) := (nI_ltI (by omega) (by omega)).mpr v
      obtain ⟨k1, k2⟩ := fin 0 (by rw [show st - 40 * min 4 (tk - min 6 tk) = 0 by omega]; rfl)
      rw [if_pos lv', k2]
      exact ⟨⟨fun _ => k1, fun q => absurd lv' q⟩, rfl⟩
    · have lv' : ¬ nI st < nI (40 * min 4 (tk - min 6 tk)) := fun q => v ((nI_ltI (by omega) (by omega)).mp q)
      obtain ⟨k1, k2⟩ := fin (nI st - nI (40 * min 4 (tk - min 6 tk))) (pk_sub (by omega))
      rw [if_neg lv', k2]
      exact ⟨⟨fun q => absurd q lv', fun _ => k1⟩, rfl⟩
  have mid : ∀ c : Nat, c = min 6 tk → cp_522_79 (nI c) v1 (nI i) (wqc N h (upd F 67 (mz_b01 y)) m L) ∧ cf_522_79 (nI c) v1 (nI i) (wqc N h (upd F 67 (mz_b01 y)) m L) = .inl (nI (i + 1), wqc N (upd h i (nI (hot1 true (tk, st, dr)))) (upd (upd (upd (upd F 67 (mz_b01 y)) 61 (nI (tk - min 6 tk))) 61 (nI (tk - min 6 tk - min 4 (tk - min 6 tk)))) 62 (nI (st - 40 * min 4 (tk - min 6 tk)))) (vp_updL m i (N.2 323 i + lN (tok1 true (tk, st, dr)))) L) := fun c hc => by
    have e61 : (wqc N h (upd F 67 (mz_b01 y)) m L).1 232 61 = nI tk := h61
    rw [cp_522_79, cf_522_79, e61, show nI tk - nI c = nI (tk - min 6 tk) by rw [pk_sub (by omega), hc], wq_F]
    have e2 : (wqc N h (upd (upd F 67 (mz_b01 y)) 61 (nI (tk - min 6 tk))) m L).1 232 61 = nI (tk - min 6 tk) := rfl
    rw [e2]
    by_cases v : tk - min 6 tk < 4
    · have lv' : nI (tk - min 6 tk) < 4 := (nI_ltI (b := 4) (by omega) (by omega)).mpr v
      obtain ⟨k1, k2⟩ := last c (tk - min 6 tk) (upd (upd F 67 (mz_b01 y)) 61 (nI (tk - min 6 tk))) hc (by omega) rfl h62
      rw [if_pos lv', k2]
      exact ⟨⟨fun _ => k1, fun q => absurd lv' q⟩, rfl⟩
    · have lv' : ¬ nI (tk - min 6 tk) < 4 := fun q => v ((nI_ltI (b := 4) (by omega) (by omega)).mp q)
      obtain ⟨k1, k2⟩ := last c 4 (upd (upd F 67 (mz_b01 y)) 61 (nI (tk - min 6 tk))) hc (by omega) rfl h62
      have k2' : cf_522_106 4 v1 (nI i) (nI c) (wqc N h (upd (upd F 67 (mz_b01 y)) 61 (nI (tk - min 6 tk))) m L) = _ := k2
      rw [if_neg lv', k2']
      exact ⟨⟨fun q => absurd q lv', fun _ => k1⟩, rfl⟩
  have e61 : (wqc N h (upd F 67 (mz_b01 y)) m L).1 232 61 = nI tk := h61
  rw [cp_522_58, cf_522_58, wq_F, e61]
  by_cases v : tk < 6
  · have lv' : nI tk < 6 := (nI_ltI (b := 6) (by omega) (by omega)).mpr v
    obtain ⟨k1, k2⟩ := mid tk (by omega)
    rw [if_pos lv', k2]
    exact ⟨⟨fun _ => k1, fun q => absurd lv' q⟩, rfl⟩
  · have lv' : ¬ nI tk < 6 := fun q => v ((nI_ltI (b := 6) (by omega) (by omega)).mp q)
    obtain ⟨k1, k2⟩ := mid 6 (by omega)
    have k2' : cf_522_79 6 v1 (nI i) (wqc N h (upd F 67 (mz_b01 y)) m L) = _ := k2
    rw [if_neg lv', k2']
    exact ⟨⟨fun q => absurd q lv', fun _ => k1⟩, rfl⟩
/-- the pump -/
theorem pump_r {tk st : Nat} (h63 : F 63 = mz_b01 wa) (h61 : F 61 = nI tk) (htk : tk ≤ 2000) (h62 : F 62 = nI st) (hst : st ≤ 20000) (hlv : N.1 276 10 = mz_b01 lv) (hpu : pu = decide (N.1 257 12 = 1)) (hfit : N.1 307 1 = nI (b1 (!fit))) (hco : L 68 = lN co) : ∀ y : Bool, y = (wa || decide (tk < 500)) → cp_522_200 y (wqc N h F m L) ∧ ∃ F' L', cf_522_200 y (wqc N h F m L) = wqc N h F' m L' ∧ F' 63 = mz_b01 (pmp wa (pu && fit && lv) tk).1 ∧ F' 64 = mz_b01 (pmp wa (pu && fit && lv) tk).2.1 ∧ F' 61 = nI (pmp wa (pu && fit && lv) tk).2.2 ∧ L' 68 = lN (if st < 5000 then co + 1 else 0) ∧ (∀ j, j ≠ 61 → j ≠ 63 → j ≠ 64 → F' j = F j) ∧ ∀ j, j ≠ 68 → L' j = L j := by
  intro y hy
  have zF : ∀ (G : Nat → Int32) (j : Nat) (y : Bool), G j = mz_b01 y → mz_z01 ((wqc N h G m L).1 232 j) ∧ mz_fZ (wqc N h G m L) 232 j = y := fun G j y hG => by
    refine ⟨?_, ?_⟩
    · show mz_z01 (G j)
      rw [hG]; cases y; exact Or.inl rfl; exact Or.inr rfl
    · show decide (G j = 1) = y
      rw [hG]; cases y <;> rfl
  have cool : ∀ G : Nat → Int32, G 62 = nI st → cp_522_305 (wqc N h G m L) ∧ ∃ L', cf_522_305 (wqc N h G m L) = wqc N h G m L' ∧ L' 68 = lN (if st < 5000 then co + 1 else 0) ∧ ∀ j, j ≠ 68 → L' j = L j := fun G hG => by
    have e62 : (wqc N h G m L).1 232 62 = nI st := hG
    have e68 : (wqc N h G m L).2 232 68 = lN co := hco
    rw [cp_522_305, cf_522_305, e62, e68]
    by_cases v : st < 5000
    · rw [if_pos (show nI st < 5000 from (nI_ltI (b := 5000) (by omega) (by omega)).mpr v), cf_522_326, wq_L, lN_1, if_pos v]
      exact ⟨⟨fun _ => trivial, fun _ => trivial⟩, _, rfl, rfl, fun j hj => by rw [upL_a, if_neg hj]⟩
    · rw [if_neg (show ¬ nI st < 5000 from fun q => v ((nI_ltI (b := 5000) (by omega) (by omega)).mp q)), cf_522_326, wq_L, if_neg v]
      exact ⟨⟨fun _ => trivial, fun _ => trivial⟩, _, rfl, rfl, fun j hj => by rw [upL_a, if_neg hj]⟩
  have no : ¬ ((wa || decide (tk < 500)) = true ∧ (pu && fit && lv) = true) → cp_522_245 (wqc N h (upd F 63 (mz_b01 y)) m L) ∧ ∃ F' L', cf_522_245 (wqc N h (upd F 63 (mz_b01 y)) m L) = wqc N h F' m L' ∧ F' 63 = mz_b01 (pmp wa (pu && fit && lv) tk).1 ∧ F' 64 = mz_b01 (pmp wa (pu && fit && lv) tk).2.1 ∧ F' 61 = nI (pmp wa (pu && fit && lv) tk).2.2 ∧ L' 68 = lN (if st < 5000 then co + 1 else 0) ∧ (∀ j, j ≠ 61 → j ≠ 63 → j ≠ 64 → F' j = F j) ∧ ∀ j, j ≠ 68 → L' j = L j := fun q => by
    have ep : pmp wa (pu && fit && lv) tk = (wa || decide (tk < 500), false, tk) := by unfold pmp; rw [if_neg q]
    obtain ⟨z1, z2⟩ := zF (upd (upd F 63 (mz_b01 y)) 64 (mz_b01 false)) 64 false rfl
    obtain ⟨k1, L', k2, k3, k4⟩ := cool (upd (upd F 63 (mz_b01 y)) 64 (mz_b01 false)) h62
    rw [cp_522_245, cf_522_245, cp_522_246, cf_522_246, wq_F, z2, if_neg Bool.false_ne_true, k2, ep]
    refine ⟨⟨z1, fun q => absurd q Bool.false_ne_true, fun _ => k1⟩, _, L', rfl, by rw [← hy]; rfl, rfl, h61, k3, fun j a b c => by rw [up_a, if_neg c, up_a, if_neg b], k4⟩
  have yes : (wa || decide (tk < 500)) = true → (pu && fit && lv) = true → cp_522_246 true (wqc N h (upd F 63 (mz_b01 y)) m L) ∧ ∃ F' L', cf_522_246 true (wqc N h (upd F 63 (mz_b01 y)) m L) = wqc N h F' m L' ∧ F' 63 = mz_b01 (pmp wa (pu && fit && lv) tk).1 ∧ F' 64 = mz_b01 (pmp wa (pu && fit && lv) tk).2.1 ∧ F' 61 = nI (pmp wa (pu && fit && lv) tk).2.2 ∧ L' 68 = lN (if st < 5000 then co + 1 else 0) ∧ (∀ j, j ≠ 61 → j ≠ 63 → j ≠ 64 → F' j = F j) ∧ ∀ j, j ≠ 68 → L' j = L j := fun q1 q2 => by
    have ep : pmp wa (pu && fit && lv) tk = (decide (min 2000 (tk + 60) < 2000), true, min 2000 (tk + 60)) := by unfold pmp; rw [if_pos ⟨q1, q2⟩]
    obtain ⟨z1, z2⟩ := zF (upd (upd F 63 (mz_b01 y)) 64 (mz_b01 true)) 64 true rfl
    have e61 : (wqc N h (upd (upd F 63 (mz_b01 y)) 64 (mz_b01 true)) m L).1 232 61 = nI tk := h61
    have t83 : ∀ x : Int32, x = nI (min 2000 (tk + 60)) → cp_522_283 x (wqc N h (upd (upd F 63 (mz_b01 y)) 64 (mz_b01 true)) m L) ∧ ∃ F' L', cf_522_283 x (wqc N h (upd (upd F 63 (mz_b01 y)) 64 (mz_b01 true)) m L) = wqc N h F' m L' ∧ F' 63 = mz_b01 (decide (min 2000 (tk + 60) < 2000)) ∧ F' 64 = mz_b01 true ∧ F' 61 = nI (min 2000 (tk + 60)) ∧ L' 68 = lN (if st < 5000 then co + 1 else 0) ∧ (∀ j, j ≠ 61 → j ≠ 63 → j ≠ 64 → F' j = F j) ∧ ∀ j, j ≠ 68 → L' j = L j := fun x hx => by
      subst hx
      rw [cp_522_283, cf_522_283, wq_F]
      have e2 : (wqc N h (upd (upd (upd F 63 (mz_b01 y)) 64 (mz_b01 true)) 61 (nI (min 2000 (tk + 60)))) m L).1 232 61 = nI (min 2000 (tk + 60)) := rfl
      rw [e2]
      have go : ∀ b : Bool, b = decide (min 2000 (tk + 60) < 2000) → cp_522_302 b (wqc N h (upd (upd (upd F 63 (mz_b01 y)) 64 (mz_b01 true)) 61 (nI (min 2000 (tk + 60)))) m L) ∧ ∃ F' L', cf_522_302 b (wqc N h (upd (upd (upd F 63 (mz_b01 y)) 64 (mz_b01 true)) 61 (nI (min 2000 (tk + 60)))) m L) = wqc N h F' m L' ∧ F' 63 = mz_b01 (decide (min 2000 (tk + 60) < 2000)) ∧ F' 64 = mz_b01 true ∧ F' 61 = nI (min 2000 (tk + 60)) ∧ L' 68 = lN (if st < 5000 then co + 1 else 0) ∧ (∀ j, j ≠ 61 → j ≠ 63 → j ≠ 64 → F' j = F j) ∧ ∀ j, j ≠ 68 → L' j = L j := fun b hb => by
        obtain ⟨k1, L', k2, k3, k4⟩ := cool (upd (upd (upd (upd F 63 (mz_b01 y)) 64 (mz_b01 true)) 61 (nI (min 2000 (tk + 60)))) 63 (mz_b01 b)) h62
        rw [cp_522_302, cf_522_302, wq_F, k2]
        exact ⟨k1, _, L', rfl, by rw [← hb]; rfl, rfl, rfl, k3, fun j a b' c => by rw [up_a, if_neg b', up_a, if_neg a, up_a, if_neg c, up_a, if_neg b'], k4⟩
      by_cases v : min 2000 (tk + 60) < 2000
      · have lv' : nI (min 2000 (tk + 60)) < 2000 := (nI_ltI (b := 2000) (by omega) (by omega)).mpr v
        obtain ⟨k1, k2⟩ := go true (decide_eq_true v).symm
        rw [if_pos lv']
        exact ⟨⟨fun _ => k1, fun q => absurd lv' q⟩, k2⟩
      · have lv' : ¬ nI (min 2000 (tk + 60)) < 2000 := fun q => v ((nI_ltI (b := 2000) (by omega) (by omega)).mp q)
        obtain ⟨k1, k2⟩ := go false (decide_eq_false v).symm
        rw [if_neg lv']
        exact ⟨⟨fun q => absurd q lv', fun _ => k1⟩, k2⟩
    rw [cp_522_246, cf_522_246, wq_F, z2, if_pos rfl, e61, show (60 : Int32) = nI 60 from rfl, nI_add, ep]
    by_cases v : 2000 < tk + 60
    · have lv' : (2000 : Int32) < nI (tk + 60) := (nI_ltI (a := 2000) (by omega) (by omega)).mpr v
      obtain ⟨k1, k2⟩ := t83 2000 (by rw [show min 2000 (tk + 60) = 2000 by omega]; rfl)
      rw [if_pos lv']
      exact ⟨⟨z1, fun _ => ⟨fun _ => k1, fun q => absurd lv' q⟩, fun q => absurd rfl q⟩, k2⟩
    · have lv' : ¬ (2000 : Int32) < nI (tk + 60) := fun q => v ((nI_ltI (a := 2000) (by omega) (by omega)).mp q)
      obtain ⟨k1, k2⟩ := t83 (nI (tk + 60)) (by rw [show min 2000 (tk + 60) = tk + 60 by omega])
      rw [if_neg lv']
      exact ⟨⟨z1, fun _ => ⟨fun q => absurd q lv', fun _ => k1⟩, fun q => absurd rfl q⟩, k2⟩
  obtain ⟨z1, z2⟩ := zF (upd F 63 (mz_b01 y)) 63 y rfl
  have gl : mz_gI (wqc N h (upd F 63 (mz_b01 y)) m L) 276 10 = mz_b01 lv := hlv
  have gZl : mz_gZ (wqc N h (upd F 63 (mz_b01 y)) m L) 276 10 = lv := by
    show decide (mz_gI (wqc N h (upd F 63 (mz_b01 y)) m L) 276 10 = 1) = lv
    rw [gl]; cases lv <;> rfl
  have zl : mz_z01 (mz_gI (wqc N h (upd F 63 (mz_b01 y)) m L) 276 10) := by rw [gl]; cases lv; exact Or.inl rfl; exact Or.inr rfl
  have gf : mz_gI (wqc N h (upd F 63 (mz_b01 y)) m L) 307 1 = nI (b1 (!fit)) := hfit
  have gZf : mz_gZ (wqc N h (upd F 63 (mz_b01 y)) m L) 307 1 = !fit := by
    show decide (mz_gI (wqc N h (upd F 63 (mz_b01 y)) m L) 307 1 = 1) = !fit
    rw [gf]; cases fit <;> rfl
  have zf : mz_z01 (mz_gI (wqc N h (upd F 63 (mz_b01 y)) m L) 307 1) := by rw [gf]; cases fit; exact Or.inr rfl; exact Or.inl rfl
  rw [cp_522_200, cf_522_200, wq_F, z2, gZl, gZf]
  show (_ ∧ (_ → (N.1 257 12 = 1 → _) ∧ (¬ N.1 257 12 = 1 → _)) ∧ _) ∧ ∃ F' L', (if y = true then (if N.1 257 12 = 1 then _ else _) else _) = _ ∧ _
  by_cases v0 : y = true
  · have hw : (wa || decide (tk < 500)) = true := by rw [← hy]; exact v0
    rw [if_pos v0]
    by_cases v1 : N.1 257 12 = 1
    · have hp : pu = true := by rw [hpu]; exact decide_eq_true v1
      rw [if_pos v1]
      by_cases v2 : lv = true
      · rw [if_pos v2]
        by_cases v3 : fit = true
        · obtain ⟨k1, k2⟩ := yes hw (by rw [hp, v3, v2]; rfl)
          have nf : ¬ (!fit) = true := by rw [v3]; decide
          rw [if_neg nf]
          exact ⟨⟨z1, fun _ => ⟨fun _ => ⟨zl, fun _ => ⟨zf, fun q => absurd q nf, fun _ => k1⟩, fun q => absurd v2 q⟩, fun q => absurd v1 q⟩, fun q => absurd v0 q⟩, k2⟩
        · obtain ⟨k1, k2⟩ := no (fun q => by have := q.2; rw [Bool.eq_false_iff.mpr v3, Bool.and_false, Bool.false_and] at this; cases this)
          have nf : (!fit) = true := by rw [Bool.eq_false_iff.mpr v3]; rfl
          rw [if_pos nf]
          exact ⟨⟨z1, fun _ => ⟨fun _ => ⟨zl, fun _ => ⟨zf, fun _ => k1, fun q => absurd nf q⟩, fun q => absurd v2 q⟩, fun q => absurd v1 q⟩, fun q => absurd v0 q⟩, k2⟩
      · obtain ⟨k1, k2⟩ := no (fun q => by have := q.2; rw [Bool.eq_false_iff.mpr v2, Bool.and_false] at this; cases this)
        rw [if_neg v2]
        exact ⟨⟨z1, fun _ => ⟨fun _ => ⟨zl, fun q => absurd q v2, fun _ => k1⟩, fun q => absurd v1 q⟩, fun q => absurd v0 q⟩, k2⟩
    · obtain ⟨k1, k2⟩ := no (fun q => by have := q.2; rw [hpu, decide_eq_false v1, Bool.false_and, Bool.false_and] at this; cases this)
      rw [if_neg v1]
      exact ⟨⟨z1, fun _ => ⟨fun q => absurd q v1, fun _ => k1⟩, fun q => absurd v0 q⟩, k2⟩
  · obtain ⟨k1, k2⟩ := no (fun q => by rw [← hy] at q; exact v0 q.1)
    rw [if_neg v0]
    exact ⟨⟨z1, fun q => absurd q v0, fun _ => k1⟩, k2⟩
theorem wat_r (hn : pl_n e ≤ 40) (h42 : ∀ j, j < 10 → N.1 242 j = nO (pl_n e) (pl_ht e fl j)) (h44 : ∀ j, j < 240 → N.1 244 j = nI (P j)) (hP : ∀ j, P j ≤ 20) (hhr : hr < 24) (htm : N.2 232 2 = lN tm) (h61 : N.1 232 61 = nI s.1) (hs1 : s.1 ≤ 2000) (h62 : N.1 232 62 = nI s.2.1) (hs2 : s.2.1 ≤ 20000) (hd : s.2.2 = false) (h63 : N.1 232 63 = mz_b01 wa) (hlv : N.1 276 10 = mz_b01 lv) (hpu : pu = decide (N.1 257 12 = 1)) (hfit : N.1 307 1 = nI (b1 (!fit))) (hco : N.2 232 68 = lN co) :
    cp_522_0 (nI hr) N ∧ ∃ h F m L, cf_522_0 (nI hr) N = wqc N h F m L ∧ (∀ f, f < 10 → h f = nI (hot1 (lts (N.2 232 1) (lN tm) (pnt e fl P hr) f) (wtS (N.2 232 1) tm (pnt e fl P hr) f s)) ∧ m f = N.2 323 f + lN (tok1 (lts (N.2 232 1) (lN tm) (pnt e fl P hr) f) (wtS (N.2 232 1) tm (pnt e fl P hr) f s))) ∧ (∀ f, 10 ≤ f → m f = N.2 323 f) ∧
      F 62 = nI (wtS (N.2 232 1) tm (pnt e fl P hr) 10 s).2.1 ∧ F 67 = mz_b01 (wtS (N.2 232 1) tm (pnt e fl P hr) 10 s).2.2 ∧ F 63 = mz_b01 (pmp wa (pu && fit && lv) (wtS (N.2 232 1) tm (pnt e fl P hr) 10 s).1).1 ∧ F 64 = mz_b01 (pmp wa (pu && fit && lv) (wtS (N.2 232 1) tm (pnt e fl P hr) 10 s).1).2.1 ∧ F 61 = nI (pmp wa (pu && fit && lv) (wtS (N.2 232 1) tm (pnt e fl P hr) 10 s).1).2.2 ∧ L 68 = lN (if (wtS (N.2 232 1) tm (pnt e fl P hr) 10 s).2.1 < 5000 then co + 1 else 0) ∧ (∀ j, j ≠ 61 → j ≠ 62 → j ≠ 63 → j ≠ 64 → j ≠ 67 → F j = N.1 232 j) ∧ ∀ j, j ≠ 68 → L j = N.2 232 j := by
  have hpn : ∀ f, pnt e fl P hr f ≤ 20 := fun f => by unfold pnt; split; exact hP _; omega
  have e0 : mz_pI N 232 67 (mz_b01 false) = wqc N (N.1 277) (upd (N.1 232) 67 (mz_b01 false)) (N.2 323) (N.2 232) := by rw [← wq_F, wq_self]
  rw [cp_522_0, cf_522_0, e0]
  refine mz_lpn (f := cq_522_7 (nI hr)) (P := cd_522_7 (nI hr)) (Q := fun r => ∃ h F m L, r = wqc N h F m L ∧ (∀ f, f < 10 → h f = nI (hot1 (lts (N.2 232 1) (lN tm) (pnt e fl P hr) f) (wtS (N.2 232 1) tm (pnt e fl P hr) f s)) ∧ m f = N.2 323 f + lN (tok1 (lts (N.2 232 1) (lN tm) (pnt e fl P hr) f) (wtS (N.2 232 1) tm (pnt e fl P hr) f s))) ∧ (∀ f, 10 ≤ f → m f = N.2 323 f) ∧ F 62 = nI (wtS (N.2 232 1) tm (pnt e fl P hr) 10 s).2.1 ∧ F 67 = mz_b01 (wtS (N.2 232 1) tm (pnt e fl P hr) 10 s).2.2 ∧ F 63 = mz_b01 (pmp wa (pu && fit && lv) (wtS (N.2 232 1) tm (pnt e fl P hr) 10 s).1).1 ∧ F 64 = mz_b01 (pmp wa (pu && fit && lv) (wtS (N.2 232 1) tm (pnt e fl P hr) 10 s).1).2.1 ∧ F 61 = nI (pmp wa (pu && fit && lv) (wtS (N.2 232 1) tm (pnt e fl P hr) 10 s).1).2.2 ∧ L 68 = lN (if (wtS (N.2 232 1) tm (pnt e fl P hr) 10 s).2.1 < 5000 then co + 1 else 0) ∧ (∀ j, j ≠ 61 → j ≠ 62 → j ≠ 63 → j ≠ 64 → j ≠ 67 → F j = N.1 232 j) ∧ ∀ j, j ≠ 68 → L j = N.2 232 j) 10 (fun i st => ∃ h F m, st = (nI i, wqc N h F m (N.2 232)) ∧ (∀ f, f < i → h f = nI (hot1 (lts (N.2 232 1) (lN tm) (pnt e fl P hr) f) (wtS (N.2 232 1) tm (pnt e fl P hr) f s)) ∧ m f = N.2 323 f + lN (tok1 (lts (N.2 232 1) (lN tm) (pnt e fl P hr) f) (wtS (N.2 232 1) tm (pnt e fl P hr) f s))) ∧ (∀ f, i ≤ f → m f = N.2 323 f) ∧ F 61 = nI (wtS (N.2 232 1) tm (pnt e fl P hr) i s).1 ∧ F 62 = nI (wtS (N.2 232 1) tm (pnt e fl P hr) i s).2.1 ∧ F 67 = mz_b01 (wtS (N.2 232 1) tm (pnt e fl P hr) i s).2.2 ∧ ∀ j, j ≠ 61 → j ≠ 62 → j ≠ 67 → F j = N.1 232 j) ?_ ?_ (Nat.zero_le _) ⟨N.1 277, _, N.2 323, rfl, fun f hf => absurd hf (Nat.not_lt_zero _), fun _ _ => rfl, h61, h62, by show mz_b01 false = mz_b01 s.2.2; rw [hd], fun j a b c => by rw [up_a, if_neg c]⟩
  · rintro i st hi ⟨h, F, m, rfl, h1, h2, f61, f62, f67, fj⟩
    have l : nI i < 10 := (nI_ltI (b := 10) (by omega) (by omega)).mpr hi
    have i10 : mz_ib (nI i) 10 := ib_n hi (by omega)
    obtain ⟨p1, p2⟩ := prs_r (N := wqc N (upd h i 0) F m (N.2 232)) (e := e) (fl := fl) (P := P) (hr := hr) (f := i) hn h42 h44 hhr hi
    have hw := wtS_le (sd := N.2 232 1) (tm := tm) (f := i) (pn := pnt e fl P hr) hs1 hs2
    have el : cf_523_0 (nI i) (wqc N (upd h i 0) F m (N.2 232)) = ltv (N.2 232 1) (lN tm) (nI i) := by
      rw [lot_r]
      show ltv (N.2 232 1) (N.2 232 2) (nI i) = _
      rw [htm]
    have z67 : mz_z01 ((wqc N (upd h i 0) F m (N.2 232)).1 232 67) := by
      show mz_z01 (F 67)
      rw [f67]; cases (wtS (N.2 232 1) tm (pnt e fl P hr) i s).2.2; exact Or.inl rfl; exact Or.inr rfl
    have g67 : mz_fZ (wqc N (upd h i 0) F m (N.2 232)) 232 67 = (wtS (N.2 232 1) tm (pnt e fl P hr) i s).2.2 := by
      show decide (F 67 = 1) = _
      rw [f67]; cases (wtS (N.2 232 1) tm (pnt e fl P hr) i s).2.2 <;> rfl
    have e61 : (wqc N (upd h i 0) F m (N.2 232)).1 232 61 = nI (wtS (N.2 232 1) tm (pnt e fl P hr) i s).1 := f61
    rw [cd_522_7, cq_522_7]
    simp only [l, if_true, wq_h, nI_clamp (show i < 2 ^ 31 by omega), el, p2, g67, e61]
    have take : ∀ y : Bool, lts (N.2 232 1) (lN tm) (pnt e fl P hr) i = true → y = ((wtS (N.2 232 1) tm (pnt e fl P hr) i s).2.2 || decide ((wtS (N.2 232 1) tm (pnt e fl P hr) i s).1 < 10)) → cp_522_58 y (nI hr) (nI i) (wqc N (upd h i 0) F m (N.2 232)) ∧ ∃ s2, cf_522_58 y (nI hr) (nI i) (wqc N (upd h i 0) F m (N.2 232)) = .inl s2 ∧ ∃ h' F' m', s2 = (nI (i + 1), wqc N h' F' m' (N.2 232)) ∧ (∀ f, f < i + 1 → h' f = nI (hot1 (lts (N.2 232 1) (lN tm) (pnt e fl P hr) f) (wtS (N.2 232 1) tm (pnt e fl P hr) f s)) ∧ m' f = N.2 323 f + lN (tok1 (lts (N.2 232 1) (lN tm) (pnt e fl P hr) f) (wtS (N.2 232 1) tm (pnt e fl P hr) f s))) ∧ (∀ f, i + 1 ≤ f → m' f = N.2 323 f) ∧ F' 61 = nI (wtS (N.2 232 1) tm (pnt e fl P hr) (i + 1) s).1 ∧ F' 62 = nI (wtS (N.2 232 1) tm (pnt e fl P hr) (i + 1) s).2.1 ∧ F' 67 = mz_b01 (wtS (N.2 232 1) tm (pnt e fl P hr) (i + 1) s).2.2 ∧ ∀ j, j ≠ 61 → j ≠ 62 → j ≠ 67 → F' j = N.1 232 j := fun y hl hy => by
      obtain ⟨k1, k2⟩ := take_r (N := N) (h := upd h i 0) (F := F) (m := m) (L := N.2 232) (v1 := nI hr) (s := wtS (N.2 232 1) tm (pnt e fl P hr) i s) (y := y) hi f61 hw.1 f62 hw.2 (h2 i (Nat.le_refl _))
      refine ⟨k1, _, k2, _, _, _, rfl, fun f hf => ?_, fun f hf => ?_, ?_, ?_, ?_, fun j a b c => ?_⟩
      · by_cases v : f = i
        · subst v
          rw [hl]
          exact ⟨by rw [up_a, if_pos rfl], by rw [upL_a, if_pos rfl]⟩
        · rw [up_a, if_neg v, up_a, if_neg v, upL_a, if_neg v]; exact h1 f (by omega)
      · rw [upL_a, if_neg (by omega)]; exact h2 f (by omega)
      · rw [wtS_s, hl]; rfl
      · rw [wtS_s, hl]; rfl
      · rw [wtS_s, hl]
        show mz_b01 y = _
        rw [hy]; rfl
      · rw [up_a, if_neg b, up_a, if_neg a, up_a, if_neg a, up_a, if_neg c]; exact fj j a b c
    have hb61 := hw.1
    have l9 : nI (wtS (N.2 232 1) tm (pnt e fl P hr) i s).1 < 10 ↔ (wtS (N.2 232 1) tm (pnt e fl P hr) i s).1 < 10 := nI_ltI (b := 10) (by omega) (by omega)
    by_cases v : ltv (N.2 232 1) (lN tm) (nI i) < 4 * nI (pnt e fl P hr i)
    · have hl : lts (N.2 232 1) (lN tm) (pnt e fl P hr) i = true := decide_eq_true v
      rw [if_pos v]
      by_cases v2 : (wtS (N.2 232 1) tm (pnt e fl P hr) i s).2.2 = true
      · obtain ⟨k1, k2⟩ := take true hl (by rw [v2, Bool.true_or])
        rw [if_pos v2, cf_522_53]
        exact ⟨⟨fun _ => ⟨i10, p1, fun _ => ⟨z67, fun _ => k1, fun q => absurd v2 q⟩, fun q => absurd v q⟩, fun q => absurd trivial q⟩, Or.inl k2⟩
      · rw [if_neg v2]
        by_cases v3 : (wtS (N.2 232 1) tm (pnt e fl P hr) i s).1 < 10
        · obtain ⟨k1, k2⟩ := take true hl (by rw [decide_eq_true v3, Bool.or_true])
          rw [if_pos (l9.mpr v3), cf_522_53]
          exact ⟨⟨fun _ => ⟨i10, p1, fun _ => ⟨z67, fun q => absurd q v2, fun _ => ⟨fun _ => k1, fun q => absurd (l9.mpr v3) q⟩⟩, fun q => absurd v q⟩, fun q => absurd trivial q⟩, Or.inl k2⟩
        · obtain ⟨k1, k2⟩ := take false hl (by rw [decide_eq_false v3, Bool.eq_false_iff.mpr v2]; rfl)
          rw [if_neg (fun q => v3 (l9.mp q))]
          exact ⟨⟨fun _ => ⟨i10, p1, fun _ => ⟨z67, fun q => absurd q v2, fun _ => ⟨fun q => absurd (l9.mp q) v3, fun _ => k1⟩⟩, fun q => absurd v q⟩, fun q => absurd trivial q⟩, Or.inl k2⟩
    · have hl : lts (N.2 232 1) (lN tm) (pnt e fl P hr) i = false := decide_eq_false v
      rw [if_neg v, cf_522_171, nI_1]
      refine ⟨⟨fun _ => ⟨i10, p1, fun q => absurd q v, fun _ => trivial⟩, fun q => absurd trivial q⟩, Or.inl ⟨_, rfl, _, F, m, rfl, fun f hf => ?_, fun f hf => h2 f (by omega), ?_, ?_, ?_, fj⟩⟩
      · by_cases v' : f = i
        · subst v'
          rw [hl, up_a, if_pos rfl, h2 f (Nat.le_refl _)]
          exact ⟨rfl, (Int64.add_zero _).symm⟩
        · rw [up_a, if_neg v']; exact h1 f (by omega)
      · rw [wtS_s, hl]; exact f61
      · rw [wtS_s, hl]; exact f62
      · rw [wtS_s, hl]; exact f67
  · rintro st ⟨h, F, m, rfl, h1, h2, f61, f62, f67, fj⟩
    have l : ¬ nI 10 < 10 := by decide
    have hw := wtS_le (sd := N.2 232 1) (tm := tm) (f := 10) (pn := pnt e fl P hr) hs1 hs2
    have f63 : F 63 = mz_b01 wa := by rw [fj 63 (by decide) (by decide) (by decide)]; exact h63
    have key := pump_r (N := N) (h := h) (F := F) (m := m) (L := N.2 232) (wa := wa) (lv := lv) (pu := pu) (fit := fit) (co := co) f63 f61 hw.1 f62 hw.2 hlv hpu hfit hco
    have wrap : ∀ y : Bool, y = (wa || decide ((wtS (N.2 232 1) tm (pnt e fl P hr) 10 s).1 < 500)) → ∃ h' F' m' L', cf_522_200 y (wqc N h F m (N.2 232)) = wqc N h' F' m' L' ∧ (∀ f, f < 10 → h' f = nI (hot1 (lts (N.2 232 1) (lN tm) (pnt e fl P hr) f) (wtS (N.2 232 1) tm (pnt e fl P hr) f s)) ∧ m' f = N.2 323 f + lN (tok1 (lts (N.2 232 1) (lN tm) (pnt e fl P hr) f) (wtS (N.2 232 1) tm (pnt e fl P hr) f s))) ∧ (∀ f, 10 ≤ f → m' f = N.2 323 f) ∧ F' 62 = nI (wtS (N.2 232 1) tm (pnt e fl P hr) 10 s).2.1 ∧ F' 67 = mz_b01 (wtS (N.2 232 1) tm (pnt e fl P hr) 10 s).2.2 ∧ F' 63 = mz_b01 (pmp wa (pu && fit && lv) (wtS (N.2 232 1) tm (pnt e fl P hr) 10 s).1).1 ∧ F' 64 = mz_b01 (pmp wa (pu && fit && lv) (wtS (N.2 232 1) tm (pnt e fl P hr) 10 s).1).2.1 ∧ F' 61 = nI (pmp wa (pu && fit && lv) (wtS (N.2 232 1) tm (pnt e fl P hr) 10 s).1).2.2 ∧ L' 68 = lN (if (wtS (N.2 232 1) tm (pnt e fl P hr) 10 s).2.1 < 5000 then co + 1 else 0) ∧ (∀ j, j ≠ 61 → j ≠ 62 → j ≠ 63 → j ≠ 64 → j ≠ 67 → F' j = N.1 232 j) ∧ ∀ j, j ≠ 68 → L' j = N.2 232 j := fun y hy => by
      obtain ⟨k1, F', L', k2, k3, k4, k5, k6, k7, k8⟩ := key y hy
      exact ⟨h, F', m, L', k2, h1, h2, by rw [k7 62 (by decide) (by decide) (by decide)]; exact f62, by rw [k7 67 (by decide) (by decide) (by decide)]; exact f67, k3, k4, k5, k6, fun j a b c d e' => by rw [k7 j a c d]; exact fj j a b e', k8⟩
    have z63 : mz_z01 ((wqc N h F m (N.2 232)).1 232 63) := by
      show mz_z01 (F 63)
      rw [f63]; cases wa; exact Or.inl rfl; exact Or.inr rfl
    have g63 : mz_fZ (wqc N h F m (N.2 232)) 232 63 = wa := by
      show decide (F 63 = 1) = wa
      rw [f63]; cases wa <;> rfl
    have e61 : (wqc N h F m (N.2 232)).1 232 61 = nI (wtS (N.2 232 1) tm (pnt e fl P hr) 10 s).1 := f61
    have hb61 := hw.1
    have l5 : nI (wtS (N.2 232 1) tm (pnt e fl P hr) 10 s).1 < 500 ↔ (wtS (N.2 232 1) tm (pnt e fl P hr) 10 s).1 < 500 := nI_ltI (b := 500) (by omega) (by omega)
    rw [cd_522_7, cq_522_7]
    simp only [l, if_false, g63, e61]
    by_cases v : wa = true
    · have hy : true = (wa || decide ((wtS (N.2 232 1) tm (pnt e fl P hr) 10 s).1 < 500)) := by rw [v]; rfl
      rw [if_pos v, cf_522_195]
      exact ⟨⟨False.elim, fun _ => ⟨z63, fun _ => (key true hy).1, fun q => absurd v q⟩⟩, _, rfl, wrap true hy⟩
    · rw [if_neg v]
      by_cases v2 : (wtS (N.2 232 1) tm (pnt e fl P hr) 10 s).1 < 500
      · have hy : true = (wa || decide ((wtS (N.2 232 1) tm (pnt e fl P hr) 10 s).1 < 500)) := by rw [decide_eq_true v2, Bool.or_true]
        rw [if_pos (l5.mpr v2), cf_522_195]
        exact ⟨⟨False.elim, fun _ => ⟨z63, fun q => absurd q v, fun _ => ⟨fun _ => (key true hy).1, fun q => absurd (l5.mpr v2) q⟩⟩⟩, _, rfl, wrap true hy⟩
      · have hy : false = (wa || decide ((wtS (N.2 232 1) tm (pnt e fl P hr) 10 s).1 < 500)) := by rw [decide_eq_false v2, Bool.eq_false_iff.mpr v]; rfl
        rw [if_neg (fun q => v2 (l5.mp q))]
        exact ⟨⟨False.elim, fun _ => ⟨z63, fun q => absurd q v, fun _ => ⟨fun q => absurd (l5.mp q) v2, fun _ => (key false hy).1⟩⟩⟩, _, rfl, wrap false hy⟩
end Wwr
