/-! PURE (15): the reference's plan, laid. -/
section La3
variable {e : Nat → Nat} {fl : Nat → Nat} {M N : mz_N}
/-- what the reference's plan says of its spaces -/
def r_pl (e fl : Nat → Nat) (K : mz_N) : Prop := K.1 232 7 = nI (pl_n e) ∧ (∀ c, c < 240 → K.1 235 c = nI (pl_lab e c)) ∧ (∀ k, k < pl_n e → K.1 236 k = nI (pl_lc e k) ∧ K.1 237 k = nI (pl_sz e k)) ∧
  (∀ k, k < pl_n e → K.1 240 k = nI (pl_hv e k) ∧ K.1 241 k = nI (pl_gl e k)) ∧ (∀ a b kd, a < pl_n e → b < pl_n e → kd < 4 → K.1 239 (4 * (40 * a + b) + kd) = nI (pl_bt e kd a b)) ∧ ∀ j, j < 10 → K.1 242 j = nO (pl_n e) (pl_ht e fl j) ∧ K.1 243 j = nI (pl_ar e fl j)
def rl_A : List Nat := [232, 235, 236, 237, 238, 239, 240, 241, 242, 243]
def rl_f (N M : mz_N) : Prop := fr rl_A N M ∧ ∀ k, k ≠ 7 → M.1 232 k = N.1 232 k
theorem r_ceil (hn : pl_n e ≤ 40) (hfl : ∀ c, c < 240 → M.1 234 c = nI (fl c) ∧ fl c < 16) (h7 : M.1 232 7 = nI (pl_n e)) (h35 : ∀ c, c < 240 → M.1 235 c = nI (pl_lab e c)) (h36 : ∀ k, k < pl_n e → M.1 236 k = nI (pl_lc e k) ∧ M.1 237 k = nI (pl_sz e k)) (hw : r_wl e 550 0 M) :
    cp_427_214 0 M ∧ fr [239, 242, 243] M (cf_427_214 0 M) ∧ r_pl e fl (cf_427_214 0 M) := by
  refine mz_lpn (f := cq_427_214) (P := cd_427_214) (Q := fun t => fr [239, 242, 243] M t ∧ r_pl e fl t) 192 (fun t s => ∃ K, s = (nI t, K) ∧ fr [239] M K ∧ r_wl e 550 t K) ?_ ?_ (Nat.zero_le _) ⟨M, rfl, fr_refl _ _, hw⟩
  · rintro t s ht ⟨K, rfl, hfr, k1, k2⟩
    have hla := pl_lab_lt (e := e) (show t < 240 by omega)
    have hlb := pl_lab_lt (e := e) (show t + 48 < 240 by omega)
    have hup := pl_up (e := e) ht
    have hab : pl_lab e t ≠ pl_lab e (t + 48) := by omega
    have g1 : mz_gI K 235 (nI t) = nI (pl_lab e t) := by rw [gI_a, nI_clamp (by omega), hfr.1 235 rfl]; exact h35 _ (by omega)
    have g2 : mz_gI K 235 (nI (t + 48)) = nI (pl_lab e (t + 48)) := by rw [gI_a, nI_clamp (by omega), hfr.1 235 rfl]; exact h35 _ (by omega)
    obtain ⟨p1, p2⟩ := r_near (K := K) (kd := 0) (show pl_lab e t < 40 by omega) (show pl_lab e (t + 48) < 40 by omega) (by omega) hab (k2 _ _ _ hla hlb (by omega)) (k2 _ _ _ hlb hla (by omega))
    rw [if_neg hab, if_pos rfl, if_neg (fun z => hab z.symm), if_pos rfl] at p2
    rw [nI_0] at p1 p2
    have hst : cd_427_214 (nI t, K) ∧ cq_427_214 (nI t, K) = .inl (nI (t + 1), cf_434_0 (nI (pl_lab e t)) (nI (pl_lab e (t + 48))) 0 K) := by
      simp (disch := omega) only [cd_427_214, cq_427_214, nI_ltI, (show (192 : Int32) = nI 192 from rfl), (show (48 : Int32) = nI 48 from rfl), ht, nI_add, g1, g2, p1, nI_1, ib_i, not_false_eq_true, not_true_eq_false, if_true, if_false, true_implies, false_implies, implies_true, and_true, true_and]
      omega
    refine ⟨hst.1, Or.inl ⟨_, hst.2, _, rfl, by rw [p2]; exact fr_sI hfr rfl, ?_, ?_⟩⟩
    · intro k hk; rw [p2, sI_n (by decide), sI_n (by decide)]; exact k1 k hk
    · intro a b kd h1 h2 h3
      rw [p2, sI_e, up_a, up_a]
      by_cases zab : a = b
      · rw [if_neg (by omega), if_neg (by omega), if_pos zab, k2 a b kd h1 h2 h3, if_pos zab]
      · rw [if_neg zab]
        by_cases zk : kd = 0
        · rw [if_pos zk]
          have hbt : pl_cep e a b t = decide ((a = pl_lab e t ∧ b = pl_lab e (t + 48)) ∨ (a = pl_lab e (t + 48) ∧ b = pl_lab e t)) := by
            unfold pl_cep; apply decide_eq_decide.mpr; omega
          by_cases y1 : a = pl_lab e t ∧ b = pl_lab e (t + 48)
          · rw [if_neg (by omega), if_pos (by omega), cnt_s (n := t) (by rw [hbt]; exact decide_eq_true (Or.inl y1)), y1.1, y1.2]
          · by_cases y2 : a = pl_lab e (t + 48) ∧ b = pl_lab e t
            · rw [if_pos (by omega), cnt_s (n := t) (by rw [hbt]; exact decide_eq_true (Or.inr y2)), y2.1, y2.2]
            · rw [if_neg (by omega), if_neg (by omega), cnt_sn (n := t) (by rw [hbt]; apply decide_eq_false; omega), k2 a b kd h1 h2 h3, if_neg zab, if_pos zk]
        · rw [if_neg zk, if_neg (by omega), if_neg (by omega), k2 a b kd h1 h2 h3, if_neg zab, if_neg zk]
  · rintro s ⟨K, rfl, hfr, k1, k2⟩
    obtain ⟨q1, f, g, q2, q3⟩ := r_hrt (e := e) (fl := fl) (M := K) hn (fun c hc => by rw [hfr.1 234 rfl]; exact hfl c hc) (by rw [hfr.1 232 rfl]; exact h7) (fun k hk => by rw [hfr.1 236 rfl]; exact (h36 k hk).1) (fun k hk => by rw [hfr.1 237 rfl]; exact (h36 k hk).2)
    simp (disch := omega) only [cd_427_214, cq_427_214, nI_ltI, (show (192 : Int32) = nI 192 from rfl), Nat.lt_irrefl, q1, q2, not_false_eq_true, not_true_eq_false, if_true, if_false, true_implies, false_implies, implies_true, and_true, true_and]
    refine ⟨_, rfl, fr_sI (fr_sI (fr_sub hfr rfl) rfl) rfl, ?_⟩
    unfold r_pl
    simp only [sI_1, Nat.reduceEqDiff, if_true, if_false]
    rw [hfr.1 232 rfl, hfr.1 235 rfl, hfr.1 236 rfl, hfr.1 237 rfl]
    exact ⟨h7, h35, h36, k1, k2, q3⟩
theorem r_edges (hn : pl_n e ≤ 40) (hfl : ∀ c, c < 240 → M.1 234 c = nI (fl c) ∧ fl c < 16) (h3 : ∀ i, i < 550 → M.1 233 i = nI (e i) ∧ e i < 4) (hbo : ∀ i, i < 550 → ge_sd (i % 110) < 4 → e i = 2 ∨ e i = 3) (h7 : M.1 232 7 = nI (pl_n e)) (h35 : ∀ c, c < 240 → M.1 235 c = nI (pl_lab e c)) (h36 : ∀ k, k < pl_n e → M.1 236 k = nI (pl_lc e k) ∧ M.1 237 k = nI (pl_sz e k)) (hw : r_wl e 0 0 M) :
    cp_427_59 0 M ∧ fr [239, 240, 241, 242, 243] M (cf_427_59 0 M) ∧ r_pl e fl (cf_427_59 0 M) := by
  refine mz_lpn (f := cq_427_59) (P := cd_427_59) (Q := fun t => fr [239, 240, 241, 242, 243] M t ∧ r_pl e fl t) 550 (fun t s => ∃ K, s = (nI t, K) ∧ fr [239, 240, 241] M K ∧ r_wl e t 0 K) ?_ ?_ (Nat.zero_le _) ⟨M, rfl, fr_refl _ _, hw⟩
  · rintro t s ht ⟨K, rfl, hfr, hK⟩
    have k3 : ∀ i, i < 550 → K.1 233 i = nI (e i) ∧ e i < 4 := fun i hi => by rw [hfr.1 233 rfl]; exact h3 i hi
    have k15 : ∀ c, c < 240 → K.1 235 c = nI (pl_lab e c) := fun c hc => by rw [hfr.1 235 rfl]; exact h35 c hc
    by_cases hsd : ge_sd (t % 110) < 4
    · obtain ⟨p1, K2, p2, p3, p4⟩ := r_wl_bo hn ht k3 hbo k15 hsd hK
      exact ⟨p1, Or.inl ⟨_, p2, K2, rfl, fr_trans hfr (fr_sub p3 rfl), p4⟩⟩
    · have h4 : ge_sd (t % 110) = 4 := by
        have : ge_sd (t % 110) ≤ 4 := by unfold ge_sd; repeat (split <;> try omega)
        omega
      obtain ⟨p1, K2, p2, p3, p4⟩ := r_wl_in hn ht k3 k15 h4 hK
      exact ⟨p1, Or.inl ⟨_, p2, K2, rfl, fr_trans hfr (fr_sub p3 rfl), p4⟩⟩
  · rintro s ⟨K, rfl, hfr, hK⟩
    obtain ⟨q1, q2, q3⟩ := r_ceil (e := e) (fl := fl) (M := K) hn (fun c hc => by rw [hfr.1 234 rfl]; exact hfl c hc) (by rw [hfr.1 232 rfl]; exact h7) (fun c hc => by rw [hfr.1 235 rfl]; exact h35 c hc) (fun k hk => by rw [hfr.1 236 rfl, hfr.1 237 rfl]; exact h36 k hk) hK
    simp (disch := omega) only [cd_427_59, cq_427_59, nI_ltI, (show (550 : Int32) = nI 550 from rfl), Nat.lt_irrefl, q1, not_false_eq_true, not_true_eq_false, if_true, if_false, true_implies, false_implies, implies_true, and_true, true_and]
    exact ⟨_, rfl, fr_trans (fr_sub hfr rfl) (fr_sub q2 rfl), q3⟩
theorem r_zero (hn : pl_n e ≤ 40) (hfl : ∀ c, c < 240 → M.1 234 c = nI (fl c) ∧ fl c < 16) (h3 : ∀ i, i < 550 → M.1 233 i = nI (e i) ∧ e i < 4) (hbo : ∀ i, i < 550 → ge_sd (i % 110) < 4 → e i = 2 ∨ e i = 3) (h7 : M.1 232 7 = nI (pl_n e)) (h35 : ∀ c, c < 240 → M.1 235 c = nI (pl_lab e c)) (h36 : ∀ k, k < pl_n e → M.1 236 k = nI (pl_lc e k) ∧ M.1 237 k = nI (pl_sz e k)) (hz : ∀ j, j < 6400 → M.1 239 j = 0) :
    cp_427_29 0 M ∧ fr [239, 240, 241, 242, 243] M (cf_427_29 0 M) ∧ r_pl e fl (cf_427_29 0 M) := by
  refine mz_lpn (f := cq_427_29) (P := cd_427_29) (Q := fun t => fr [239, 240, 241, 242, 243] M t ∧ r_pl e fl t) (pl_n e) (fun t s => ∃ K, s = (nI t, K) ∧ fr [240, 241] M K ∧ ∀ j, j < t → K.1 240 j = 0 ∧ K.1 241 j = 0) ?_ ?_ (Nat.zero_le _) ⟨M, rfl, fr_refl _ _, fun j hj => absurd hj (Nat.not_lt_zero _)⟩
  · rintro t s ht ⟨K, rfl, hfr, hj⟩
    have g1 : K.1 232 7 = nI (pl_n e) := by rw [hfr.1 232 rfl]; exact h7
    simp (disch := omega) only [cd_427_29, cq_427_29, nI_ltI, g1, ht, nI_1, ib_i, not_false_eq_true, not_true_eq_false, if_true, if_false, true_implies, false_implies, implies_true, and_true, true_and]
    refine ⟨by omega, Or.inl ⟨_, rfl, _, rfl, fr_wI (fr_wI hfr rfl) rfl, fun j h => ?_⟩⟩
    simp (disch := omega) only [wI_s, nI_clamp, sI_1, up_a, Nat.reduceEqDiff, if_true, if_false]
    by_cases z : j = t
    · simp only [z, if_true, and_self]
    · simp only [z, if_false]; exact hj j (by omega)
  · rintro s ⟨K, rfl, hfr, hj⟩
    have g1 : K.1 232 7 = nI (pl_n e) := by rw [hfr.1 232 rfl]; exact h7
    obtain ⟨q1, q2, q3⟩ := r_edges (e := e) (fl := fl) (M := K) hn (fun c hc => by rw [hfr.1 234 rfl]; exact hfl c hc) (fun i hi => by rw [hfr.1 233 rfl]; exact h3 i hi) hbo g1 (fun c hc => by rw [hfr.1 235 rfl]; exact h35 c hc) (fun k hk => by rw [hfr.1 236 rfl, hfr.1 237 rfl]; exact h36 k hk)
      ⟨fun k hk => by rw [(hj k hk).1, (hj k hk).2]; exact ⟨rfl, rfl⟩, fun a b kd h1 h2 h3 => by
        rw [hfr.1 239 rfl, hz _ (by omega)]
        by_cases z : a = b
        · rw [if_pos z]; rfl
        · rw [if_neg z]; by_cases z2 : kd = 0
          · rw [if_pos z2]; rfl
          · rw [if_neg z2]; rfl⟩
    simp (disch := omega) only [cd_427_29, cq_427_29, nI_ltI, g1, Nat.lt_irrefl, q1, not_false_eq_true, not_true_eq_false, if_true, if_false, true_implies, false_implies, implies_true, and_true, true_and]
    exact ⟨_, rfl, fr_trans (fr_sub hfr rfl) q2, q3⟩
theorem r_lay (hn : pl_n e ≤ 40) (hfl : ∀ c, c < 240 → N.1 234 c = nI (fl c) ∧ fl c < 16) (h3 : ∀ i, i < 550 → N.1 233 i = nI (e i) ∧ e i < 4) (hbo : ∀ i, i < 550 → ge_sd (i % 110) < 4 → e i = 2 ∨ e i = 3) : cp_427_0 N ∧ rl_f N (cf_427_0 N) ∧ r_pl e fl (cf_427_0 N) := by
  obtain ⟨p1, f, q, g, h, p2, p3, p4⟩ := r_dv (p := 0) (w := pl_w e) (N := N) (by omega) (fun k hk => by
    obtain ⟨h1, h2⟩ := h3 k hk
    rw [Nat.mul_zero, Nat.zero_add, h1, nI_eq0 (by omega), pl_w]; simp)
  rw [nI_0] at p1 p2
  rw [cp_427_0, cf_427_0, p2]
  have hfr0 : fr rl_A N (r_spN N f q g h (nI (dv (pl_w e) 240).2)) := by
    unfold r_spN
    exact fr_sI (fr_sI (fr_sI (fr_sI (fr_sI (fr_refl _ _) rfl) rfl) rfl) rfl) rfl
  have m7 : (r_spN N f q g h (nI (dv (pl_w e) 240).2)).1 232 = upd (N.1 232) 7 (nI (pl_n e)) := by
    unfold r_spN; rw [sI_e]; rfl
  have m35 : ∀ c, c < 240 → (r_spN N f q g h (nI (dv (pl_w e) 240).2)).1 235 c = nI (pl_lab e c) := by
    intro c hc
    unfold r_spN
    simp only [sI_1, Nat.reduceEqDiff, if_true, if_false]
    rw [p3 c hc]
    have := pl_lab_lt (e := e) hc
    have := pl_n_le e
    exact nO_lt (by unfold pl_lab at *; omega)
  have m36 : ∀ k, k < pl_n e → (r_spN N f q g h (nI (dv (pl_w e) 240).2)).1 236 k = nI (pl_lc e k) ∧ (r_spN N f q g h (nI (dv (pl_w e) 240).2)).1 237 k = nI (pl_sz e k) := by
    intro k hk
    unfold r_spN
    simp only [sI_1, Nat.reduceEqDiff, if_true, if_false]
    exact p4 k hk
  generalize r_spN N f q g h (nI (dv (pl_w e) 240).2) = L at *
  refine (fun (h : _ ∧ _) => ⟨⟨p1, h.1⟩, h.2⟩) (mz_lpn (f := cq_427_7) (P := cd_427_7) (Q := fun t => rl_f N t ∧ r_pl e fl t) 6400 (fun t s => ∃ K, s = (nI t, K) ∧ fr [239] L K ∧ ∀ j, j < t → K.1 239 j = 0) ?_ ?_ (Nat.zero_le _) ⟨L, rfl, fr_refl _ _, fun j hj => absurd hj (Nat.not_lt_zero _)⟩)
  · rintro t s ht ⟨K, rfl, hfr, hj⟩
    simp (disch := omega) only [cd_427_7, cq_427_7, nI_ltI, (show (6400 : Int32) = nI 6400 from rfl), ht, nI_1, ib_i, not_false_eq_true, not_true_eq_false, if_true, if_false, true_implies, false_implies, implies_true, and_true, true_and]
    refine Or.inl ⟨_, rfl, _, rfl, fr_wI hfr rfl, fun j h => ?_⟩
    rw [wI_s, sI_e, nI_clamp (by omega), up_a]
    by_cases z : j = t
    · rw [if_pos z]
    · rw [if_neg z]; exact hj j (by omega)
  · rintro s ⟨K, rfl, hfr, hj⟩
    obtain ⟨q1, q2, q3⟩ := r_zero (e := e) (fl := fl) (M := K) hn (fun c hc => by rw [hfr.1 234 rfl, hfr0.1 234 rfl]; exact hfl c hc) (fun i hi => by rw [hfr.1 233 rfl, hfr0.1 233 rfl]; exact h3 i hi) hbo (by rw [hfr.1 232 rfl, m7, up_a, if_pos rfl]) (fun c hc => by rw [hfr.1 235 rfl]; exact m35 c hc) (fun k hk => by rw [hfr.1 236 rfl, hfr.1 237 rfl]; exact m36 k hk) hj
    simp (disch := omega) only [cd_427_7, cq_427_7, nI_ltI, (show (6400 : Int32) = nI 6400 from rfl), Nat.lt_irrefl, q1, not_false_eq_true, not_true_eq_false, if_true, if_false, true_implies, false_implies, implies_true, and_true, true_and]
    refine ⟨_, rfl, ⟨fr_trans hfr0 (fr_trans (fr_sub hfr rfl) (fr_sub q2 rfl)), fun k hk => ?_⟩, q3⟩
    rw [q2.1 232 rfl, hfr.1 232 rfl, m7, up_a, if_neg hk]
end La3
