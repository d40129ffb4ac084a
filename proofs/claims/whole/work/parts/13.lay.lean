/-! PURE (13): the reference lays its plan. -/
def pl_btp (e : Nat → Nat) (kd a b i : Nat) : Bool := decide (ge_sd (i % 110) = 4 ∧ e i = kd ∧ ((pl_lab e (ge_ca i) = a ∧ pl_lab e (ge_cb i) = b) ∨ (pl_lab e (ge_ca i) = b ∧ pl_lab e (ge_cb i) = a)))
/-- how many between two spaces, of a kind (0: ceilings) -/
def pl_bt (e : Nat → Nat) (kd a b : Nat) : Nat := if a = b then 0 else if kd = 0 then cnt (pl_cep e a b) 192 else cnt (pl_btp e kd a b) 550
section Lay
variable {e : Nat → Nat} {fl : Nat → Nat} {M N : mz_N}
theorem m1a (x : Int32) : x + (-1) = x - 1 := (Int32.sub_eq_add_neg x 1).symm
theorem r_hrt2 {n : Nat} {lc sz : Nat → Nat} (hn : n ≤ 40) (hlc : ∀ k, k < n → lc k < 240) (hsz : ∀ k, k < n → sz k ≤ 240) (hfl : ∀ c, c < 240 → M.1 234 c = nI (fl c) ∧ fl c < 16) (h36 : ∀ k, k < n → M.1 236 k = nI (lc k)) (h37 : ∀ k, k < n → M.1 237 k = nI (sz k)) {f0 g0 : Nat → Int32} (h0 : ∀ j, j < 10 → f0 j = -1 ∧ g0 j = 0) :
    cp_435_35 (nI n - 1) (mz_sI (mz_sI M 242 f0) 243 g0) ∧ ∃ f g, cf_435_35 (nI n - 1) (mz_sI (mz_sI M 242 f0) 243 g0) = mz_sI (mz_sI M 242 f) 243 g ∧ ∀ j, j < 10 → f j = nO n (lst (fun k => decide (fl (lc k) = j)) n) ∧ g j = nI (sumN (fun k => if fl (lc k) = j then sz k else 0) n) := by
  refine mz_lpn (f := cq_435_35) (P := cd_435_35) (Q := fun t => ∃ f g, t = mz_sI (mz_sI M 242 f) 243 g ∧ ∀ j, j < 10 → f j = nO n (lst (fun k => decide (fl (lc k) = j)) n) ∧ g j = nI (sumN (fun k => if fl (lc k) = j then sz k else 0) n)) n (fun t s => ∃ f g, s = (nI (n - t) - 1, mz_sI (mz_sI M 242 f) 243 g) ∧ ∀ j, j < 10 → f j = nO n (lst (fun k => decide (n - t ≤ k ∧ fl (lc k) = j)) n) ∧ g j = nI (sumN (fun k => if fl (lc k) = j then sz k else 0) n - sumN (fun k => if fl (lc k) = j then sz k else 0) (n - t))) ?_ ?_ (Nat.zero_le _) ⟨f0, g0, by rw [Nat.sub_zero], fun j hj => ?_⟩
  · rintro t s ht ⟨f, g, rfl, hj⟩
    obtain ⟨k, hk⟩ : ∃ k, n - t = k + 1 := ⟨n - t - 1, by omega⟩
    have hkn : k < n := by omega
    have hk2 : n - (t + 1) = k := by omega
    rw [hk] at hj ⊢
    rw [hk2]
    rw [nI_pred]
    have l1 := hlc k hkn
    obtain ⟨v1, v2⟩ := hfl _ l1
    have hs := hsz k hkn
    have g1 : cf_436_0 (nI k) (mz_sI (mz_sI M 242 f) 243 g) = nI (fl (lc k)) := by
      rw [cf_436_0, gI_a, gI_a, nI_clamp (by omega)]
      simp only [sI_1, Nat.reduceEqDiff, if_false]
      rw [h36 k hkn, nI_clamp (by omega)]; exact v1
    have p1 : cp_436_0 (nI k) (mz_sI (mz_sI M 242 f) 243 g) := by
      rw [cp_436_0, gI_a, nI_clamp (by omega)]
      simp only [sI_1, Nat.reduceEqDiff, if_false]
      rw [h36 k hkn]
      exact ⟨ib_n (by omega) (by omega), ib_n l1 (by omega)⟩
    by_cases h10 : fl (lc k) < 10
    · obtain ⟨q1, q2⟩ := hj _ h10
      have hmono := sumN_mono (f := fun i => if fl (lc i) = fl (lc k) then sz i else 0) (show k + 1 ≤ n by omega)
      rw [sumN, if_pos rfl] at hmono
      have g2 : mz_gI (mz_wI (mz_sI (mz_sI M 242 f) 243 g) 242 (nI (fl (lc k))) (nI k)) 243 (nI (fl (lc k))) = nI (sumN (fun i => if fl (lc i) = fl (lc k) then sz i else 0) n - sumN (fun i => if fl (lc i) = fl (lc k) then sz i else 0) (k + 1)) := by
        rw [gI_a, wI_s, sI_n (by decide), sI_e, nI_clamp (by omega)]; exact q2
      have g3 : mz_gI (mz_wI (mz_sI (mz_sI M 242 f) 243 g) 242 (nI (fl (lc k))) (nI k)) 237 (nI k) = nI (sz k) := by
        rw [gI_a, wI_s, sI_n (by decide), sI_n (by decide), sI_n (by decide), nI_clamp (by omega)]; exact h37 k hkn
      simp (disch := omega) only [cd_435_35, cq_435_35, cf_435_73, cp_435_73, nI_lt0, p1, g1, h10, nI_ltI, (show (10 : Int32) = nI 10 from rfl), g2, g3, nI_add, m1a, ib_i, not_false_eq_true, not_true_eq_false, if_true, if_false, true_implies, false_implies, implies_true, and_true, true_and]
      refine ⟨by omega, Or.inl ⟨_, rfl, upd f (fl (lc k)) (nI k), upd g (fl (lc k)) (nI (sumN (fun i => if fl (lc i) = fl (lc k) then sz i else 0) n - sumN (fun i => if fl (lc i) = fl (lc k) then sz i else 0) (k + 1) + sz k)), ?_, fun j hj10 => ⟨?_, ?_⟩⟩⟩
      · rw [Prod.mk.injEq]
        refine ⟨rfl, ?_⟩
        simp (disch := omega) only [wI_s, nI_clamp, sI_1, Nat.reduceEqDiff, if_true, if_false]
        rw [sI_4 (by decide)]
      · rw [up_a]
        by_cases z : j = fl (lc k)
        · rw [if_pos z, lst_of (k := k) hkn (by simp [z]) (fun i hi => by simp; omega), nO_lt hkn]
        · rw [if_neg z, (hj j hj10).1]
          congr 2
          funext s
          apply decide_eq_decide.mpr
          constructor
          · rintro ⟨a1, a2⟩; exact ⟨by omega, a2⟩
          · rintro ⟨a1, a2⟩
            refine ⟨?_, a2⟩
            rcases Nat.eq_or_lt_of_le a1 with q | q
            · subst q; exact absurd a2.symm z
            · omega
      · rw [up_a]
        by_cases z : j = fl (lc k)
        · rw [if_pos z, z, sumN, if_pos rfl]
          congr 1; omega
        · rw [if_neg z, (hj j hj10).2, sumN, if_neg (fun q => z q.symm)]
          rfl
    · simp (disch := omega) only [cd_435_35, cq_435_35, cf_435_73, cp_435_73, nI_lt0, p1, g1, h10, nI_ltI, (show (10 : Int32) = nI 10 from rfl), m1a, ib_i, not_false_eq_true, not_true_eq_false, if_true, if_false, true_implies, false_implies, implies_true, and_true, true_and]
      refine Or.inl ⟨_, rfl, f, g, rfl, fun j hj10 => ⟨?_, ?_⟩⟩
      · rw [(hj j hj10).1]
        congr 2
        funext s
        apply decide_eq_decide.mpr
        constructor
        · rintro ⟨a1, a2⟩; exact ⟨by omega, a2⟩
        · rintro ⟨a1, a2⟩
          refine ⟨?_, a2⟩
          rcases Nat.eq_or_lt_of_le a1 with q | q
          · subst q; omega
          · omega
      · rw [(hj j hj10).2, sumN, if_neg (fun q => by omega)]
        rfl
  · rintro s ⟨f, g, rfl, hj⟩
    rw [Nat.sub_self] at *
    have : (nI 0 - 1 : Int32) < 0 := by decide
    simp only [cd_435_35, cq_435_35, this, not_false_eq_true, not_true_eq_false, if_true, if_false, true_implies, false_implies, implies_true, and_true, true_and]
    refine ⟨_, rfl, f, g, rfl, fun j hj10 => ?_⟩
    obtain ⟨q1, q2⟩ := hj j hj10
    simp only [Nat.zero_le, true_and] at q1
    exact ⟨q1, q2⟩
  · rw [Nat.sub_zero, (h0 j hj).1, (h0 j hj).2, Nat.sub_self]
    refine ⟨?_, rfl⟩
    rw [nO_ge]
    have h1 := lst_iff (fun k => decide (n ≤ k ∧ fl (lc k) = j)) n
    have h2 : cnt (fun k => decide (n ≤ k ∧ fl (lc k) = j)) n = 0 := by
      rw [cnt_congr (q := fun _ => false) (fun i hi => by simp; omega)]; exact cnt_none _
    omega
theorem r_hrt (hn : pl_n e ≤ 40) (hfl : ∀ c, c < 240 → M.1 234 c = nI (fl c) ∧ fl c < 16) (h7 : M.1 232 7 = nI (pl_n e)) (h36 : ∀ k, k < pl_n e → M.1 236 k = nI (pl_lc e k)) (h37 : ∀ k, k < pl_n e → M.1 237 k = nI (pl_sz e k)) :
    cp_435_0 M ∧ ∃ f g, cf_435_0 M = mz_sI (mz_sI M 242 f) 243 g ∧ ∀ j, j < 10 → f j = nO (pl_n e) (pl_ht e fl j) ∧ g j = nI (pl_ar e fl j) := by
  refine mz_lpn (f := cq_435_2) (P := cd_435_2) (Q := fun t => ∃ f g, t = mz_sI (mz_sI M 242 f) 243 g ∧ ∀ j, j < 10 → f j = nO (pl_n e) (pl_ht e fl j) ∧ g j = nI (pl_ar e fl j)) 10 (fun t s => ∃ f g, s = (nI t, mz_sI (mz_sI M 242 f) 243 g) ∧ ∀ j, j < t → f j = -1 ∧ g j = 0) ?_ ?_ (Nat.zero_le _) ⟨M.1 242, M.1 243, by rw [sI_same, sI_same]; rfl, fun j hj => absurd hj (Nat.not_lt_zero _)⟩
  · rintro t s ht ⟨f, g, rfl, hj⟩
    simp (disch := omega) only [cd_435_2, cq_435_2, nI_ltI, (show (10 : Int32) = nI 10 from rfl), ht, nI_1, ib_i, not_false_eq_true, not_true_eq_false, if_true, if_false, true_implies, false_implies, implies_true, and_true, true_and]
    refine Or.inl ⟨_, rfl, upd f t (-1), upd g t 0, ?_, fun j h => ?_⟩
    · rw [Prod.mk.injEq]; refine ⟨rfl, ?_⟩
      simp (disch := omega) only [wI_s, nI_clamp, sI_1, Nat.reduceEqDiff, if_true, if_false]
      rw [sI_4 (by decide)]
    · rw [up_a, up_a]
      by_cases z : j = t
      · simp only [z, if_true, and_self]
      · simp only [z, if_false]; exact hj j (by omega)
  · rintro s ⟨f, g, rfl, hj⟩
    obtain ⟨p1, p2⟩ := r_hrt2 (lc := pl_lc e) (sz := pl_sz e) hn (fun k hk => (pl_lc_ok hk).1) (fun k hk => by have := pl_sz_le hk; omega) hfl h36 h37 hj
    have g1 : (mz_sI (mz_sI M 242 f) 243 g).1 232 7 = nI (pl_n e) := by rw [sI_n (by decide), sI_n (by decide)]; exact h7
    simp (disch := omega) only [cd_435_2, cq_435_2, nI_ltI, (show (10 : Int32) = nI 10 from rfl), Nat.lt_irrefl, g1, p1, not_false_eq_true, not_true_eq_false, if_true, if_false, true_implies, false_implies, implies_true, and_true, true_and]
    exact ⟨_, rfl, p2⟩
/-- two spaces are near -/
theorem r_near {K : mz_N} {a b kd x y : Nat} (ha : a < 40) (hb : b < 40) (hk : kd < 4) (hab : a ≠ b) (h1 : K.1 239 (4 * (40 * a + b) + kd) = nI x) (h2 : K.1 239 (4 * (40 * b + a) + kd) = nI y) : cp_434_0 (nI a) (nI b) (nI kd) K ∧ cf_434_0 (nI a) (nI b) (nI kd) K = mz_sI K 239 (upd (upd (K.1 239) (4 * (40 * a + b) + kd) (nI (x + 1))) (4 * (40 * b + a) + kd) (nI (y + 1))) := by
  have g2 : mz_gI (mz_wI K 239 (nI (4 * (40 * a + b) + kd)) (nI (x + 1))) 239 (nI (4 * (40 * b + a) + kd)) = nI y := by
    rw [gI_a, wI_s, sI_e, nI_clamp (by omega), nI_clamp (by omega), up_a, if_neg (by omega)]; exact h2
  have g1 : mz_gI K 239 (nI (4 * (40 * a + b) + kd)) = nI x := by rw [gI_a, nI_clamp (by omega)]; exact h1
  simp (disch := omega) only [cp_434_0, cf_434_0, cp_434_24, cf_434_24, cp_434_43, cf_434_43, (show (4 : Int32) = nI 4 from rfl), (show (40 : Int32) = nI 40 from rfl), pk_mul, nI_add, nI_eq, hab, g1, g2, nI_1, ib_i, not_false_eq_true, not_true_eq_false, if_true, if_false, true_implies, false_implies, implies_true, and_true, true_and]
  refine ⟨by omega, ?_⟩
  simp (disch := omega) only [wI_s, nI_clamp, sI_e, sI_sI]
end Lay
