/-! PURE (8): the class lists the cells of its spaces. -/
theorem imin_n {a b : Nat} (ha : a < 2 ^ 31) (hb : b < 2 ^ 31) : mz_imin (nI a) (nI b) = nI (min a b) := by
  unfold mz_imin
  by_cases h : b < a
  · rw [if_pos ((nI_ltI hb ha).mpr h), Nat.min_eq_right (by omega)]
  · rw [if_neg (fun z => h ((nI_ltI hb ha).mp z)), Nat.min_eq_left (by omega)]
theorem imax_n {a b : Nat} (ha : a < 2 ^ 31) (hb : b < 2 ^ 31) : mz_imax (nI a) (nI b) = nI (max a b) := by
  unfold mz_imax
  by_cases h : a < b
  · rw [if_pos ((nI_ltI ha hb).mpr h), Nat.max_eq_right (by omega)]
  · rw [if_neg (fun z => h ((nI_ltI ha hb).mp z)), Nat.max_eq_left (by omega)]
section Lst
variable {e : Nat → Nat} {fl : Nat → Nat} {M : mz_N}
theorem c_list3 (hn : pl_n e ≤ 40) (h15 : ∀ c, c < 240 → M.1 15 c = nI (pl_lab e c)) (h28 : ∀ k, k < pl_n e → M.1 28 k = nI (pl_st e k)) (h29 : ∀ k, k < pl_n e → M.1 29 k = 0) : cp_82_141 0 M ∧ ∃ f g, cf_82_141 0 M = mz_sI (mz_sI M 30 f) 29 g ∧ ∀ c, c < 240 → f (pl_ps e c) = nI c := by
  refine mz_lpn (f := cq_82_141) (P := cd_82_141) (Q := fun t => ∃ f g, t = mz_sI (mz_sI M 30 f) 29 g ∧ ∀ c, c < 240 → f (pl_ps e c) = nI c) 240 (fun t s => ∃ f g, s = (nI t, mz_sI (mz_sI M 30 f) 29 g) ∧ (∀ c, c < t → f (pl_ps e c) = nI c) ∧ ∀ k, k < pl_n e → g k = nI (cnt (pl_in e k) t)) ?_ ?_ (Nat.zero_le 240) ⟨M.1 30, M.1 29, ?_, fun c hc => absurd hc (Nat.not_lt_zero _), fun k hk => by rw [h29 k hk]; rfl⟩
  · rintro t s ht ⟨f, g, rfl, hf, hg⟩
    have hl := pl_lab_lt (e := e) ht
    have hps := pl_ps_lt (e := e) ht
    have hsz := pl_sz_le hl
    have hcl := cnt_le (pl_in e (pl_lab e t)) t
    have hst := pl_st_le (e := e) (k := pl_lab e t) (by omega)
    have g1 : mz_gI (mz_sI (mz_sI M 30 f) 29 g) 15 (nI t) = nI (pl_lab e t) := by
      rw [gI_a, sI_n (by decide), sI_n (by decide), nI_clamp (by omega), h15 t ht]
    have g2 : mz_gI (mz_sI (mz_sI M 30 f) 29 g) 28 (nI (pl_lab e t)) = nI (pl_st e (pl_lab e t)) := by
      rw [gI_a, sI_n (by decide), sI_n (by decide), nI_clamp (by omega), h28 _ hl]
    have g3 : mz_gI (mz_sI (mz_sI M 30 f) 29 g) 29 (nI (pl_lab e t)) = nI (cnt (pl_in e (pl_lab e t)) t) := by
      rw [gI_a, sI_e, nI_clamp (by omega), hg _ hl]
    have g4 : mz_gI (mz_wI (mz_sI (mz_sI M 30 f) 29 g) 30 (nI (pl_st e (pl_lab e t) + cnt (pl_in e (pl_lab e t)) t)) (nI t)) 29 (nI (pl_lab e t)) = nI (cnt (pl_in e (pl_lab e t)) t) := by
      rw [gI_a, wI_s, sI_n (by decide), sI_e, nI_clamp (by omega), hg _ hl]
    unfold pl_ps at hps
    simp (disch := omega) only [cd_82_141, cq_82_141, cf_82_180, cp_82_180, nI_ltI, (show (240 : Int32) = nI 240 from rfl), ht, g1, g2, g3, nI_add, g4, ib_i, nI_1, not_false_eq_true, not_true_eq_false, if_true, if_false, true_implies, false_implies, implies_true, and_true, true_and]
    refine ⟨by omega, Or.inl ⟨_, rfl, upd f (pl_ps e t) (nI t), upd g (pl_lab e t) (nI (cnt (pl_in e (pl_lab e t)) t + 1)), ?_, ?_, ?_⟩⟩
    · rw [Prod.mk.injEq]
      refine ⟨rfl, ?_⟩
      simp (disch := omega) only [wI_s, nI_clamp, sI_1, Nat.reduceEqDiff, if_true, if_false]
      rw [sI_4 (by decide)]
      rfl
    · intro c hc
      rw [up_a]
      by_cases z : c = t
      · subst z; rw [if_pos rfl]
      · rw [if_neg (pl_ps_inj (by omega) ht)]; exact hf c (by omega)
    · intro k hk
      rw [up_a]
      by_cases z : k = pl_lab e t
      · rw [if_pos z, cnt_s (by simp [pl_in, z]), z]
      · rw [if_neg z, cnt_sn (by simp [pl_in]; exact fun q => z q.symm)]; exact hg k hk
  · rintro s ⟨f, g, rfl, hf, hg⟩
    simp (disch := omega) only [cd_82_141, cq_82_141, nI_ltI, (show (240 : Int32) = nI 240 from rfl), Nat.lt_irrefl, not_false_eq_true, not_true_eq_false, if_true, if_false, true_implies, false_implies, implies_true, and_true, true_and]
    exact ⟨_, rfl, f, g, rfl, hf⟩
  · rw [sI_same, show M.1 29 = M.1 29 from rfl, sI_same]; rfl
theorem c_list2 (hn : pl_n e ≤ 40) (h27 : M.1 2 7 = nI (pl_n e)) (h15 : ∀ c, c < 240 → M.1 15 c = nI (pl_lab e c)) (h19 : ∀ k, k < pl_n e → M.1 19 k = nI (pl_sz e k)) (h29 : ∀ k, k < pl_n e → M.1 29 k = 0) : cp_82_104 0 0 M ∧ ∃ f g h, cf_82_104 0 0 M = mz_sI (mz_sI (mz_sI M 28 h) 30 f) 29 g ∧ (∀ c, c < 240 → f (pl_ps e c) = nI c) ∧ ∀ k, k < pl_n e → h k = nI (pl_st e k) := by
  refine mz_lpn (f := cq_82_104) (P := cd_82_104) (Q := fun t => ∃ f g h, t = mz_sI (mz_sI (mz_sI M 28 h) 30 f) 29 g ∧ (∀ c, c < 240 → f (pl_ps e c) = nI c) ∧ ∀ k, k < pl_n e → h k = nI (pl_st e k)) (pl_n e) (fun k s => ∃ h, s = (nI (pl_st e k), nI k, mz_sI M 28 h) ∧ ∀ j, j < k → h j = nI (pl_st e j)) ?_ ?_ (Nat.zero_le _) ⟨M.1 28, by rw [sI_same]; rfl, fun j hj => absurd hj (Nat.not_lt_zero _)⟩
  · rintro k s hk ⟨h, rfl, hh⟩
    have g1 : (mz_sI M 28 h).1 2 7 = nI (pl_n e) := by rw [sI_n (by decide)]; exact h27
    have g2 : mz_gI (mz_wI (mz_sI M 28 h) 28 (nI k) (nI (pl_st e k))) 19 (nI k) = nI (pl_sz e k) := by
      rw [gI_a, wI_s, sI_n (by decide), sI_n (by decide), nI_clamp (by omega), h19 k hk]
    simp (disch := omega) only [cd_82_104, cq_82_104, nI_ltI, g1, hk, g2, nI_add, nI_1, ib_i, not_false_eq_true, not_true_eq_false, if_true, if_false, true_implies, false_implies, implies_true, and_true, true_and]
    refine ⟨by omega, Or.inl ⟨_, rfl, upd h k (nI (pl_st e k)), ?_, ?_⟩⟩
    · rw [wI_s, sI_sI, sI_e, nI_clamp (by omega)]
      rfl
    · intro j hj
      rw [up_a]
      by_cases z : j = k
      · rw [if_pos z, z]
      · rw [if_neg z]; exact hh j (by omega)
  · rintro s ⟨h, rfl, hh⟩
    have g1 : (mz_sI M 28 h).1 2 7 = nI (pl_n e) := by rw [sI_n (by decide)]; exact h27
    obtain ⟨p1, f, g, p2, p3⟩ := c_list3 (M := mz_sI M 28 h) hn (fun c hc => by rw [sI_n (by decide)]; exact h15 c hc) (fun k hk => by rw [sI_e]; exact hh k hk) (fun k hk => by rw [sI_n (by decide)]; exact h29 k hk)
    simp (disch := omega) only [cd_82_104, cq_82_104, nI_ltI, g1, Nat.lt_irrefl, p1, p2, not_false_eq_true, not_true_eq_false, if_true, if_false, true_implies, false_implies, implies_true, and_true, true_and]
    exact ⟨_, rfl, f, g, h, rfl, p3, hh⟩
/-- what the class knows of each space, when its cells are listed -/
def c_li (e fl : Nat → Nat) (M : mz_N) : Prop := (∀ c, c < 240 → M.1 15 c = nI (pl_lab e c)) ∧ (∀ k, k < pl_n e → M.1 17 k = nI (pl_lc e k / 48) ∧ M.1 18 k = nI (pl_lc e k % 48) ∧ M.1 19 k = nI (pl_sz e k) ∧ M.1 20 k = nI (fl (pl_lc e k)) ∧ M.1 28 k = nI (pl_st e k)) ∧ ∀ c, c < 240 → M.1 30 (pl_ps e c) = nI c
theorem c_list (hn : pl_n e ≤ 40) (h27 : M.1 2 7 = nI (pl_n e)) (h15 : ∀ c, c < 240 → M.1 15 c = nI (pl_lab e c)) (hfl : ∀ c, c < 240 → M.1 37 c = nI (fl c)) (h19 : ∀ k, k < 40 → M.1 19 k = 0) (h29 : ∀ k, k < 40 → M.1 29 k = 0) : cp_82_0 M ∧ fr [15, 17, 18, 19, 20, 28, 29, 30] M (cf_82_0 M) ∧ c_li e fl (cf_82_0 M) := by
  refine mz_lpn (f := cq_82_2) (P := cd_82_2) (Q := fun t => fr [15, 17, 18, 19, 20, 28, 29, 30] M t ∧ c_li e fl t) 240 (fun t s => ∃ K, s = (nI t, K) ∧ fr [15, 17, 18, 19, 20] M K ∧ (∀ c, c < 240 → K.1 15 c = nI (pl_lab e c)) ∧ ∀ k, k < pl_n e → K.1 19 k = nI (cnt (pl_in e k) t) ∧ (0 < cnt (pl_in e k) t → K.1 17 k = nI (lst (pl_in e k) t / 48) ∧ K.1 18 k = nI (lst (pl_in e k) t % 48) ∧ K.1 20 k = nI (fl (lst (pl_in e k) t)))) ?_ ?_ (Nat.zero_le _) ⟨M, rfl, fr_refl _ _, h15, fun k hk => ⟨by rw [h19 k (by omega)]; rfl, fun z => absurd z (Nat.lt_irrefl _)⟩⟩
  · rintro t s ht ⟨K, rfl, hfr, hK, hk⟩
    have hl := pl_lab_lt (e := e) ht
    have hcl := cnt_le (pl_in e (pl_lab e t)) t
    have g1 : mz_gI K 15 (nI t) = nI (pl_lab e t) := by rw [gI_a, nI_clamp (by omega), hK t ht]
    have g2 : mz_imin (nI (pl_lab e t)) 39 = nI (pl_lab e t) := by rw [show (39 : Int32) = nI 39 from rfl, imin_n (by omega) (by omega), Nat.min_eq_left (by omega)]
    have g3 : mz_gI (mz_wI K 15 (nI t) (nI (pl_lab e t))) 15 (nI t) = nI (pl_lab e t) := by rw [gI_a, wI_s, sI_e, up_a, if_pos rfl]
    have g4 : mz_gI (mz_wI K 15 (nI t) (nI (pl_lab e t))) 19 (nI (pl_lab e t)) = nI (cnt (pl_in e (pl_lab e t)) t) := by rw [gI_a, wI_s, sI_n (by decide), nI_clamp (by omega), (hk _ hl).1]
    have hin : pl_in e (pl_lab e t) t = true := by simp [pl_in]
    have hK2 : ∀ c, c < 240 → (mz_wI K 15 (nI t) (nI (pl_lab e t))).1 15 c = nI (pl_lab e c) := by
      intro c hc
      rw [wI_s, sI_e, up_a, nI_clamp (by omega)]
      by_cases z : c = t
      · rw [if_pos z, z]
      · rw [if_neg z]; exact hK c hc
    have e37 : K.1 37 = M.1 37 := hfr.1 37 rfl
    by_cases h0 : cnt (pl_in e (pl_lab e t)) t = 0
    · simp (disch := omega) only [cd_82_2, cq_82_2, cf_82_68, cf_82_82, cp_82_68, cp_82_82, nI_ltI, (show (240 : Int32) = nI 240 from rfl), (show (48 : Int32) = nI 48 from rfl), ht, g1, g2, g3, g4, h0, nI_eq0, pk_div, irem_n, nI_1, ib_i, not_false_eq_true, not_true_eq_false, if_true, if_false, true_implies, false_implies, implies_true, and_true, true_and]
      refine ⟨by omega, Or.inl ⟨_, rfl, _, rfl, fr_wI (fr_wI (fr_wI (fr_wI (fr_wI hfr rfl) rfl) rfl) rfl) rfl, ?_, ?_⟩⟩
      · intro c hc
        rw [wI_s, wI_s, wI_s, wI_s, sI_n (by decide), sI_n (by decide), sI_n (by decide), sI_n (by decide)]
        exact hK2 c hc
      · intro k hkn
        have q := hk k hkn
        by_cases z : k = pl_lab e t
        · rw [z] at q ⊢
          rw [cnt_s hin, lst_new h0 hin, h0]
          simp (disch := omega) only [wI_s, gI_a, sI_1, up_a, nI_clamp, Nat.reduceEqDiff, if_true, if_false, (hk _ hl).1, h0, hfl t ht, e37]
          refine ⟨?_, fun _ => ⟨?_, ?_, ?_⟩⟩ <;> first | trivial | rfl
        · have hz : pl_in e k t = false := by simp [pl_in]; exact fun q => z q.symm
          rw [cnt_sn hz]
          simp (disch := omega) only [wI_s, sI_1, up_a, nI_clamp, Nat.reduceEqDiff, if_true, if_false, z]
          refine ⟨q.1, fun h => ?_⟩
          rw [lst_stay h]
          exact q.2 h
    · simp (disch := omega) only [cd_82_2, cq_82_2, cf_82_68, cf_82_82, cp_82_68, cp_82_82, nI_ltI, (show (240 : Int32) = nI 240 from rfl), (show (48 : Int32) = nI 48 from rfl), ht, g1, g2, g3, g4, h0, nI_eq0, pk_div, irem_n, nI_1, ib_i, not_false_eq_true, not_true_eq_false, if_true, if_false, true_implies, false_implies, implies_true, and_true, true_and]
      refine ⟨by omega, Or.inl ⟨_, rfl, _, rfl, fr_wI (fr_wI hfr rfl) rfl, ?_, ?_⟩⟩
      · intro c hc
        rw [wI_s, sI_n (by decide)]
        exact hK2 c hc
      · intro k hkn
        have q := hk k hkn
        by_cases z : k = pl_lab e t
        · rw [z] at q ⊢
          rw [cnt_s hin, lst_stay (by omega)]
          simp (disch := omega) only [wI_s, gI_a, sI_1, up_a, nI_clamp, Nat.reduceEqDiff, if_true, if_false, nI_1]
          exact ⟨trivial, fun _ => q.2 (by omega)⟩
        · have hz : pl_in e k t = false := by simp [pl_in]; exact fun q => z q.symm
          rw [cnt_sn hz]
          simp (disch := omega) only [wI_s, sI_1, up_a, nI_clamp, Nat.reduceEqDiff, if_true, if_false, z]
          refine ⟨q.1, fun h => ?_⟩
          rw [lst_stay h]
          exact q.2 h
  · rintro s ⟨K, rfl, hfr, hK, hk⟩
    have g1 : K.1 2 7 = nI (pl_n e) := by rw [hfr.1 2 rfl]; exact h27
    obtain ⟨p1, f, g, h, p2, p3, p4⟩ := c_list2 (M := K) hn g1 hK (fun k hk2 => (hk k hk2).1) (fun k hk2 => by rw [hfr.1 29 rfl]; exact h29 k (by omega))
    simp (disch := omega) only [cd_82_2, cq_82_2, nI_ltI, (show (240 : Int32) = nI 240 from rfl), Nat.lt_irrefl, p1, p2, not_false_eq_true, not_true_eq_false, if_true, if_false, true_implies, false_implies, implies_true, and_true, true_and]
    refine ⟨_, rfl, fr_sI (fr_sI (fr_sI (fr_sub hfr rfl) rfl) rfl) rfl, ?_, ?_, ?_⟩
    · intro c hc
      rw [sI_n (by decide), sI_n (by decide), sI_n (by decide)]; exact hK c hc
    · intro k hkn
      obtain ⟨q1, q2⟩ := hk k hkn
      obtain ⟨q3, q4, q5⟩ := q2 (pl_some hkn)
      simp only [sI_1, Nat.reduceEqDiff, if_true, if_false]
      exact ⟨q3, q4, q1, q5, p4 k hkn⟩
    · intro c hc
      rw [sI_n (by decide), sI_e]; exact p3 c hc
end Lst
