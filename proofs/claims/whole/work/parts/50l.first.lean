/-! PURE (50l): the class's things at first. -/
section Fst
variable {N : mz_N}
theorem fq_sub {A A' B B' : List Nat} {N M : mz_N} (h : fq A B N M) (h1 : A.all (fun c => A'.contains c) = true) (h2 : B.all (fun c => B'.contains c) = true) : fq A' B' N M := by
  rw [List.all_eq_true] at h1 h2
  refine ⟨fun c hc => h.1 c ?_, fun c hc => h.2 c ?_⟩
  · cases e : A.contains c with
    | false => rfl
    | true =>
      have := h1 c (by simpa using e)
      rw [hc] at this; cases this
  · cases e : B.contains c with
    | false => rfl
    | true =>
      have := h2 c (by simpa using e)
      rw [hc] at this; cases this
theorem fillL_ok {a n : Nat} {v : Int64} (hn : n < 2 ^ 31) : cp_49_0 a n v N ∧ cf_49_0 a n v N = mz_sL N a (fun j => if j < n then v else N.2 a j) := by
  have e : Int32.ofNat n = nI n := rfl
  rw [cp_49_0, cf_49_0, e]
  refine mz_lpn (f := cq_49_6 a n v (nI n)) (P := cd_49_6 a n v (nI n)) (Q := fun t => t = mz_sL N a (fun j => if j < n then v else N.2 a j)) n (fun t s => ∃ g, s = (nI t, mz_sL N a g) ∧ ∀ j, g j = if j < t then v else N.2 a j) ?_ ?_ (Nat.zero_le _) ⟨N.2 a, by rw [sL_same]; rfl, fun j => by rw [if_neg (by omega)]⟩
  · rintro t s ht ⟨g, rfl, hg⟩
    have hlt : nI t < nI n := (nI_ltI (by omega) (by omega)).mpr ht
    rw [cd_49_6, cq_49_6]
    simp only [hlt, if_true, nI_1]
    refine ⟨⟨fun _ => ib_n ht (by omega), fun w => absurd trivial w⟩, Or.inl ⟨_, rfl, vp_updL g t v, ?_, ?_⟩⟩
    · rw [wL_s, sL_e, sL_sL, nI_clamp (by omega)]
    · intro j
      rw [upL_a, hg]
      by_cases y : j = t
      · rw [if_pos y, if_pos (by omega)]
      · rw [if_neg y]
        by_cases w : j < t
        · rw [if_pos w, if_pos (by omega)]
        · rw [if_neg w, if_neg (by omega)]
  · rintro s ⟨g, rfl, hg⟩
    have hlt : ¬ nI n < nI n := fun w => by have := (nI_ltI (by omega) (by omega)).mp w; omega
    rw [cd_49_6, cq_49_6]
    simp only [hlt, if_false]
    exact ⟨⟨False.elim, fun _ => trivial⟩, _, rfl, by rw [funext hg]⟩
theorem sd_le : ∀ e, e < 110 → ge_sd e ≤ 4 := by decide +kernel
theorem fst_k {j : Nat} (hj : j < 2 ^ 31) : cf_20_0 (mz_irem (nI j) 110) = nI (fe0 j) := by
  have e : mz_irem (nI j) 110 = nI (j % 110) := by rw [show (110 : Int32) = nI 110 from rfl, irem_n hj (by omega) (by omega)]
  have h := (ge_e (j % 110) (Nat.mod_lt _ (by omega))).2.2.2.2.1
  have hl := sd_le (j % 110) (Nat.mod_lt _ (by omega))
  have hm : nO 4 (ge_sd (j % 110)) = -1 ↔ ¬ ge_sd (j % 110) < 4 := nO_m1 (by omega)
  rw [cf_20_0, e, h]
  unfold fe0
  by_cases w : ge_sd (j % 110) = 4
  · rw [if_pos (hm.mpr (by omega)), if_pos w]; rfl
  · rw [if_neg (fun q => hm.mp q (by omega)), if_neg w]; rfl
theorem lay_c {a : Nat} : cp_19_0 a N ∧ ∃ g, cf_19_0 a N = mz_sI N a g ∧ ∀ j, g j = if 0 ≤ j ∧ j < 0 + 550 then nI (fe0 (j - 0)) else N.1 a j :=
  lp_fill (f := cq_19_2 a) (P := cd_19_2 a) (N := N) a 0 550 (fun t => nI (fe0 t)) id (by omega) (fun t ht g => by
    have hlt : nI t < 550 := (nI_ltI (b := 550) (by omega) (by omega)).mpr ht
    rw [cd_19_2, cq_19_2]
    simp only [hlt, if_true, fst_k (show t < 2 ^ 31 by omega), nI_1, Nat.zero_add]
    exact ⟨⟨fun _ => ⟨fun _ => ib_n ht (by omega), fun w => absurd trivial w⟩, fun w => absurd trivial w⟩, trivial⟩) (fun g => by
    have hlt : ¬ nI 550 < 550 := by decide
    rw [cd_19_2, cq_19_2]
    simp only [hlt, if_false]
    exact ⟨⟨False.elim, fun _ => trivial⟩, rfl⟩)
theorem fs18 : cp_18_0 N ∧ fq [2, 3, 37, 40] [] N (cf_18_0 N) ∧ (∀ j, j < 550 → (cf_18_0 N).1 3 j = nI (fe0 j)) ∧ (∀ j, j < 240 → (cf_18_0 N).1 37 j = 15) ∧ (∀ j, j < 240 → (cf_18_0 N).1 40 j = 0) ∧ (cf_18_0 N).1 2 = upd (N.1 2) 3 0 := by
  obtain ⟨p1, g, p2, p3⟩ := lay_c (N := N) (a := 3)
  obtain ⟨q1, q2⟩ := fill_ok (a := 37) (n := 240) (v := 15) (N := mz_sI N 3 g) (by omega)
  obtain ⟨r1, r2⟩ := fill_ok (a := 40) (n := 240) (v := 0) (N := mz_sI (mz_sI N 3 g) 37 (fun j => if j < 240 then 15 else (mz_sI N 3 g).1 37 j)) (by omega)
  have p2' : cf_19_0 3 N = mz_sI N 3 g := p2
  rw [cp_18_0, cf_18_0, p2', q2, r2]
  refine ⟨⟨p1, q1, r1⟩, fq_pI (fq_sI (fq_sI (fq_sI (fq_refl _ _ _) rfl) rfl) rfl) rfl, fun j hj => ?_, fun j hj => if_pos hj, fun j hj => if_pos hj, rfl⟩
  show g j = _
  rw [p3, if_pos (by omega), Nat.sub_zero]
theorem fs47 : cp_47_0 N ∧ fq [56, 58, 59, 60, 61, 62, 63, 64] [] N (cf_47_0 N) ∧ (∀ u, u < 6 → ∀ j, j < 11 → (cf_47_0 N).1 (58 + u) j = if u = 4 then 100 else 0) ∧ (∀ j, j < 10 → (cf_47_0 N).1 64 j = 0) ∧ ((cf_47_0 N).1 56 1 = 1500 ∧ (cf_47_0 N).1 56 2 = 100 ∧ (cf_47_0 N).1 56 3 = 0 ∧ (cf_47_0 N).1 56 4 = 1 ∧ (cf_47_0 N).1 56 5 = 0 ∧ (cf_47_0 N).1 56 6 = 1 ∧ (cf_47_0 N).1 56 7 = 2000 ∧ (cf_47_0 N).1 56 8 = 0 ∧ (cf_47_0 N).1 56 9 = 0 ∧ (cf_47_0 N).1 56 10 = 0 ∧ (cf_47_0 N).1 56 11 = 20000 ∧ (cf_47_0 N).1 56 12 = 0 ∧ (cf_47_0 N).1 56 13 = 0 ∧ (cf_47_0 N).1 56 15 = N.1 56 15) := by
  refine mz_lpn (f := cq_47_2) (P := cd_47_2) (Q := fun t => fq [56, 58, 59, 60, 61, 62, 63, 64] [] N t ∧ (∀ u, u < 6 → ∀ j, j < 11 → t.1 (58 + u) j = if u = 4 then 100 else 0) ∧ (∀ j, j < 10 → t.1 64 j = 0) ∧ (t.1 56 1 = 1500 ∧ t.1 56 2 = 100 ∧ t.1 56 3 = 0 ∧ t.1 56 4 = 1 ∧ t.1 56 5 = 0 ∧ t.1 56 6 = 1 ∧ t.1 56 7 = 2000 ∧ t.1 56 8 = 0 ∧ t.1 56 9 = 0 ∧ t.1 56 10 = 0 ∧ t.1 56 11 = 20000 ∧ t.1 56 12 = 0 ∧ t.1 56 13 = 0 ∧ t.1 56 15 = N.1 56 15)) 6 (fun t s => ∃ M, s = (nI t, M) ∧ fq [58, 59, 60, 61, 62, 63] [] N M ∧ ∀ u, u < t → ∀ j, j < 11 → M.1 (58 + u) j = if u = 4 then 100 else 0) ?_ ?_ (Nat.zero_le _) ⟨N, rfl, fq_refl _ _ _, fun u hu => by omega⟩
  · rintro t s ht ⟨M, rfl, h1, h2⟩
    have hlt : nI t < 6 := (nI_ltI (b := 6) (by omega) (by omega)).mpr ht
    have ec : (nI t).toNatClampNeg = t := nI_clamp (by omega)
    have hmem : [58, 59, 60, 61, 62, 63].contains (58 + t) = true := by
      have : t = 0 ∨ t = 1 ∨ t = 2 ∨ t = 3 ∨ t = 4 ∨ t = 5 := by omega
      rcases this with w | w | w | w | w | w <;> rw [w] <;> rfl
    have hstep : ∀ v : Int32, v = (if t = 4 then 100 else 0) → cp_47_25 (58 + t) v (nI t) M ∧ ∃ K, cf_47_25 (58 + t) v (nI t) M = .inl (nI (t + 1), K) ∧ fq [58, 59, 60, 61, 62, 63] [] N K ∧ ∀ u, u < t + 1 → ∀ j, j < 11 → K.1 (58 + u) j = if u = 4 then 100 else 0 := by
      intro v hv
      obtain ⟨q1, q2⟩ := fill_ok (a := 58 + t) (n := 11) (v := v) (N := M) (by omega)
      rw [cp_47_25, cf_47_25, q2, nI_1]
      refine ⟨q1, _, rfl, fq_sI h1 hmem, fun u hu j hj => ?_⟩
      by_cases w : u = t
      · rw [w, sI_e, if_pos hj, hv]
      · rw [sI_n (by omega)]; exact h2 u (by omega) j hj
    have i1 : mz_ib (nI t) 6 := ib_n ht (by omega)
    rw [cd_47_2, cq_47_2]
    simp only [hlt, if_true, ec]
    by_cases w : t = 4
    · have e4 : nI t = 4 := by rw [w]; rfl
      obtain ⟨x1, K, x2, x3, x4⟩ := hstep 100 (by rw [if_pos w])
      rw [if_pos e4, x2]
      exact ⟨⟨fun _ => ⟨i1, fun _ => x1, fun q => absurd e4 q⟩, fun q => absurd trivial q⟩, Or.inl ⟨_, rfl, K, rfl, x3, x4⟩⟩
    · have e4 : ¬ nI t = 4 := fun q => w ((nI_eq (b := 4) (by omega) (by omega)).mp q)
      obtain ⟨x1, K, x2, x3, x4⟩ := hstep 0 (by rw [if_neg w])
      rw [if_neg e4, x2]
      exact ⟨⟨fun _ => ⟨i1, fun q => absurd q e4, fun _ => x1⟩, fun q => absurd trivial q⟩, Or.inl ⟨_, rfl, K, rfl, x3, x4⟩⟩
  · rintro s ⟨M, rfl, h1, h2⟩
    have hlt : ¬ nI 6 < 6 := by decide
    rw [cd_47_2, cq_47_2]
    simp only [hlt, if_false, cp_47_57, cf_47_57, cp_47_79, cf_47_79, cp_47_101, cf_47_101]
    obtain ⟨q1, q2⟩ := fill_ok (a := 64) (n := 10) (v := 0) (N := mz_pI (mz_pI (mz_pI (mz_pI (mz_pI (mz_pI (mz_pI (mz_pI (mz_pI (mz_pI (mz_pI (mz_pI (mz_pI M 56 1 1500) 56 2 100) 56 3 0) 56 4 (mz_b01 true)) 56 5 (mz_b01 false)) 56 6 (mz_b01 true)) 56 7 2000) 56 8 (mz_b01 false)) 56 9 (mz_b01 false)) 56 10 (mz_b01 false)) 56 11 20000) 56 12 0) 56 13 0) (by omega)
    refine ⟨⟨False.elim, fun _ => q1⟩, _, rfl, ?_⟩
    rw [q2]
    refine ⟨fq_sI (fq_pI (fq_pI (fq_pI (fq_pI (fq_pI (fq_pI (fq_pI (fq_pI (fq_pI (fq_pI (fq_pI (fq_pI (fq_pI (fq_sub h1 rfl rfl) rfl) rfl) rfl) rfl) rfl) rfl) rfl) rfl) rfl) rfl) rfl) rfl) rfl) rfl, fun u hu j hj => ?_, fun j hj => if_pos hj, ⟨rfl, rfl, rfl, rfl, rfl, rfl, rfl, rfl, rfl, rfl, rfl, rfl, rfl, ?_⟩⟩
    · rw [sI_n (by omega), pI_s, sI_n (by omega), pI_s, sI_n (by omega), pI_s, sI_n (by omega), pI_s, sI_n (by omega), pI_s, sI_n (by omega), pI_s, sI_n (by omega), pI_s, sI_n (by omega), pI_s, sI_n (by omega), pI_s, sI_n (by omega), pI_s, sI_n (by omega), pI_s, sI_n (by omega), pI_s, sI_n (by omega), pI_s, sI_n (by omega)]
      exact h2 u hu j hj
    · show M.1 56 15 = N.1 56 15
      rw [h1.1 56 rfl]
end Fst
