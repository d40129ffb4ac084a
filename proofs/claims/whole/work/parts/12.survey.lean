/-! PURE (12): the survey as a whole. -/
section Sv2
variable {e : Nat → Nat} {fl : Nat → Nat} {M N : mz_N}
theorem wg_le (k : Nat) : wg k ≤ 5 := by unfold wg; split <;> (try split) <;> omega
theorem sumN_bd {f : Nat → Nat} {b : Nat} : ∀ {n : Nat}, (∀ i, i < n → f i ≤ b) → sumN f n ≤ b * n := by
  intro n
  induction n with
  | zero => intro _; exact Nat.le_refl _
  | succ n ih => intro h; have := ih (fun i hi => h i (by omega)); have := h n (by omega); rw [sumN, Nat.mul_succ]; omega
theorem pl_W_lt (e : Nat → Nat) (a b : Nat) : pl_W e a b ≤ 2942 := by
  have h1 := sumN_bd (f := pl_we e a b) (b := 5) (n := 550) (fun i _ => by
    unfold pl_we
    split
    · exact wg_le _
    · omega)
  have h2 := cnt_le (pl_cep e a b) 192
  unfold pl_W
  omega
/-- what the class's plan says of its spaces -/
def c_pl (e fl : Nat → Nat) (K : mz_N) : Prop := K.1 2 7 = nI (pl_n e) ∧ c_li e fl K ∧
  (∀ k, k < pl_n e → K.1 21 k = nI (pl_hv e k) ∧ K.1 22 k = nI (pl_gl e k) ∧ (∀ d, d < 4 → K.1 (23 + d) k = nI (pl_gs e d k)) ∧ K.1 27 k = nI (pl_ls e k)) ∧ (∀ c, c < 240 → K.1 36 c = nI (b1 (pl_dm e c))) ∧
  (∃ (m : Nat) (pa pb : Nat → Nat), m ≤ 780 ∧ K.1 2 13 = nI m ∧ (∀ i, i < m → K.1 33 i = nI (pa i) ∧ K.1 34 i = nI (pb i) ∧ K.1 35 i = nI (pl_W e (pa i) (pb i)) ∧ pa i < pb i ∧ pb i < pl_n e) ∧ ∀ G : Nat → Nat → Int64, (∀ x y, pl_W e x y = 0 → G x y = 0) → sL (fun i => G (pa i) (pb i)) m = sL (fun x => sL (fun y => if x < y then G x y else 0) (pl_n e)) (pl_n e)) ∧
  ∀ j, j < 10 → K.1 38 j = nO (pl_n e) (pl_ht e fl j) ∧ K.1 39 j = nI (pl_ar e fl j)
/-- cells of the survey -/
def sv_A : List Nat := [2, 14, 15, 17, 18, 19, 20, 21, 22, 23, 24, 25, 26, 27, 28, 29, 30, 31, 33, 34, 35, 36, 38, 39]
def sv_f (N M : mz_N) : Prop := fr sv_A N M ∧ ∀ k, k ≠ 7 → k ≠ 13 → M.1 2 k = N.1 2 k
theorem c_edges (hn : pl_n e ≤ 40) (hfl : ∀ c, c < 240 → fl c < 16) (h27 : M.1 2 7 = nI (pl_n e)) (h3 : ∀ i, i < 550 → M.1 3 i = nI (e i) ∧ e i < 4) (hli : c_li e fl M) (h0 : c_wl e 0 M) : cp_77_67 0 M ∧ sv_f M (cf_77_67 0 M) ∧ c_pl e fl (cf_77_67 0 M) := by
  refine mz_lpn (f := cq_77_67) (P := cd_77_67) (Q := fun t => sv_f M t ∧ c_pl e fl t) 550 (fun t s => ∃ K, s = (nI t, K) ∧ fr [21, 22, 23, 24, 25, 26, 27, 31, 36] M K ∧ c_wl e t K) ?_ ?_ (Nat.zero_le _) ⟨M, rfl, fr_refl _ _, h0⟩
  · rintro t s ht ⟨K, rfl, hfr, hK⟩
    have d2 : mz_irem (nI t) 110 = nI (t % 110) := by rw [show (110 : Int32) = nI 110 from rfl, irem_n (by omega) (by omega) (by omega)]
    have hq : t % 110 < 110 := Nat.mod_lt _ (by omega)
    obtain ⟨-, -, -, -, e21, -⟩ := ge_e (t % 110) hq
    have k3 : ∀ i, i < 550 → K.1 3 i = nI (e i) ∧ e i < 4 := fun i hi => by rw [hfr.1 3 rfl]; exact h3 i hi
    have k15 : ∀ c, c < 240 → K.1 15 c = nI (pl_lab e c) := fun c hc => by rw [hfr.1 15 rfl]; exact hli.1 c hc
    by_cases hsd : ge_sd (t % 110) < 4
    · obtain ⟨p1, p2, p3⟩ := c_wl_bo hn ht k3 k15 hsd hK
      simp (disch := omega) only [cd_77_67, cq_77_67, cf_77_101, cp_77_101, nI_ltI, (show (550 : Int32) = nI 550 from rfl), ht, d2, e21, nO_lt hsd, nI_m1, p1, nI_1, not_false_eq_true, not_true_eq_false, if_true, if_false, true_implies, false_implies, implies_true, and_true, true_and]
      exact Or.inl ⟨_, rfl, _, rfl, fr_trans hfr (fr_sub p2 rfl), p3⟩
    · have h4 : ge_sd (t % 110) = 4 := by
        have : ge_sd (t % 110) ≤ 4 := by unfold ge_sd; repeat (split <;> try omega)
        omega
      obtain ⟨p1, p2, p3⟩ := c_wl_in hn ht k3 k15 h4 hK
      simp (disch := omega) only [cd_77_67, cq_77_67, cf_77_101, cp_77_101, nI_ltI, (show (550 : Int32) = nI 550 from rfl), ht, d2, e21, nO_ge hsd, p1, nI_1, not_false_eq_true, not_true_eq_false, if_true, if_false, true_implies, false_implies, implies_true, and_true, true_and]
      exact Or.inl ⟨_, rfl, _, rfl, fr_trans hfr (fr_sub p2 rfl), p3⟩
  · rintro s ⟨K, rfl, hfr, k1, k2, k3⟩
    have hW : ∀ a b, pl_W e a b < 2 ^ 31 := fun a b => by have := pl_W_lt e a b; omega
    obtain ⟨c1, f, g, c2, c3, c4⟩ := c_ceil (M := K) hn (fun c hc => by rw [hfr.1 15 rfl]; exact hli.1 c hc) (fun k hk => (k1 k hk).2.2.2) k2
    obtain ⟨p1, f33, f34, f35, m, p2, hm, pa, pb, p3, p4⟩ := c_pair (M := mz_sI (mz_sI K 31 f) 27 g) hn (by rw [sI_n (by decide), sI_n (by decide), hfr.1 2 rfl]; exact h27) (fun a b h1 h2 => by rw [sI_n (by decide), sI_e]; exact c3 a b h1 h2) hW
    obtain ⟨q1, f38, f39, q2, q3⟩ := c_hrt (e := e) (fl := fl) (M := pr_N (mz_sI (mz_sI K 31 f) 27 g) f33 f34 f35 m) hn hfl
      (by simp only [pr_N, sI_1, up_a, Nat.reduceEqDiff, if_true, if_false]; rw [hfr.1 2 rfl]; exact h27)
      (fun k hk => by simp only [pr_N, sI_1, Nat.reduceEqDiff, if_false]; rw [hfr.1 19 rfl]; exact (hli.2.1 k hk).2.2.1)
      (fun k hk => by simp only [pr_N, sI_1, Nat.reduceEqDiff, if_false]; rw [hfr.1 20 rfl]; exact (hli.2.1 k hk).2.2.2.1)
    simp (disch := omega) only [cd_77_67, cq_77_67, nI_ltI, (show (550 : Int32) = nI 550 from rfl), Nat.lt_irrefl, c1, c2, p1, p2, q1, q2, not_false_eq_true, not_true_eq_false, if_true, if_false, true_implies, false_implies, implies_true, and_true, true_and]
    refine ⟨_, rfl, ⟨?_, ?_⟩, ?_⟩
    · unfold pr_N
      exact fr_sI (fr_sI (fr_sI (fr_sI (fr_sI (fr_sI (fr_sI (fr_sI (fr_sub hfr rfl) rfl) rfl) rfl) rfl) rfl) rfl) rfl) rfl
    · intro k z1 z2
      simp only [pr_N, sI_1, up_a, Nat.reduceEqDiff, if_true, if_false, z2]
      rw [hfr.1 2 rfl]
    · refine ⟨?_, ⟨?_, ?_, ?_⟩, ?_, ?_, ⟨m, pa, pb, ?_, ?_, ?_, ?_⟩, ?_⟩
      · simp only [pr_N, sI_1, up_a, Nat.reduceEqDiff, if_true, if_false]; rw [hfr.1 2 rfl]; exact h27
      · intro c hc
        simp only [pr_N, sI_1, Nat.reduceEqDiff, if_false]; rw [hfr.1 15 rfl]; exact hli.1 c hc
      · intro k hk
        simp only [pr_N, sI_1, Nat.reduceEqDiff, if_false]
        rw [hfr.1 17 rfl, hfr.1 18 rfl, hfr.1 19 rfl, hfr.1 20 rfl, hfr.1 28 rfl]; exact hli.2.1 k hk
      · intro c hc
        simp only [pr_N, sI_1, Nat.reduceEqDiff, if_false]; rw [hfr.1 30 rfl]; exact hli.2.2 c hc
      · intro k hk
        obtain ⟨r1, r2, r3, r4⟩ := k1 k hk
        refine ⟨?_, ?_, ?_, ?_⟩
        · simp only [pr_N, sI_1, Nat.reduceEqDiff, if_false]; exact r1
        · simp only [pr_N, sI_1, Nat.reduceEqDiff, if_false]; exact r2
        · intro d hd
          unfold pr_N
          rw [sI_n (by omega), sI_n (by omega), sI_n (by omega), sI_n (by omega), sI_n (by omega), sI_n (by omega), sI_n (by omega), sI_n (by omega)]
          exact r3 d hd
        · simp only [pr_N, sI_1, Nat.reduceEqDiff, if_false, if_true]; exact c4 k hk
      · intro c hc
        simp only [pr_N, sI_1, Nat.reduceEqDiff, if_false]; exact k3 c hc
      · have := tri40 (pl_n e) hn
        omega
      · simp only [pr_N, sI_1, up_a, Nat.reduceEqDiff, if_true, if_false]
      · intro i hi
        simp only [pr_N, sI_1, Nat.reduceEqDiff, if_true, if_false]
        exact p3 i hi
      · intro G hz
        rw [p4 G hz, sL_lt0 (by omega)]
        exact Int64.add_zero _
      · intro j hj
        simp only [sI_1, Nat.reduceEqDiff, if_true, if_false]
        exact q3 j hj
theorem c_sv1 {N : mz_N} : cp_77_23 0 N = cp_77_23 0 N := rfl
theorem c_survey (hn : pl_n e ≤ 40) (h3 : ∀ i, i < 550 → N.1 3 i = nI (e i) ∧ e i < 4) (hfl : ∀ c, c < 240 → N.1 37 c = nI (fl c) ∧ fl c < 16) : cp_77_0 N ∧ sv_f N (cf_77_0 N) ∧ c_pl e fl (cf_77_0 N) := by
  obtain ⟨p1, f, q, p2, p3⟩ := c_dv (a1 := 3) (a2 := 15) (w := pl_w e) (N := N) (by decide) (by decide) (by decide) (fun k hk => by
    obtain ⟨h1, h2⟩ := h3 k hk
    rw [h1, nI_eq0 (by omega), pl_w]; simp)
  have hmin : mz_imin (nI (dv (pl_w e) 240).2) 40 = nI (pl_n e) := by
    rw [show (40 : Int32) = nI 40 from rfl]
    show mz_imin (nI (pl_n e)) (nI 40) = nI (pl_n e)
    rw [imin_n (by omega) (by omega), Nat.min_eq_left hn]
  rw [cp_77_0, cf_77_0, p2]
  simp only [hmin]
  refine (fun (h : _ ∧ _) => ⟨⟨p1, h.1⟩, h.2⟩) (mz_lpn (f := cq_77_23) (P := cd_77_23) (Q := fun t => sv_f N t ∧ c_pl e fl t) 13 (fun t s => ∃ K, s = (nI t, K) ∧ fr sv_A N K ∧ K.1 2 = upd (N.1 2) 7 (nI (pl_n e)) ∧ (∀ c, c < 240 → K.1 15 c = nI (pl_lab e c)) ∧ ∀ r, r < t → ∀ j, j < 40 → K.1 (17 + r) j = 0) ?_ ?_ (Nat.zero_le _) ⟨_, rfl, ?_, ?_, ?_, fun r hr => absurd hr (Nat.not_lt_zero _)⟩)
  · rintro t s ht ⟨K, rfl, hfr, k2, k15, kr⟩
    obtain ⟨r1, r2⟩ := fill_ok (a := 17 + t) (n := 40) (v := 0) (N := K) (by omega)
    simp (disch := omega) only [cd_77_23, cq_77_23, nI_ltI, (show (13 : Int32) = nI 13 from rfl), ht, nI_clamp, r1, r2, ib_i, nI_1, not_false_eq_true, not_true_eq_false, if_true, if_false, true_implies, false_implies, implies_true, and_true, true_and]
    refine Or.inl ⟨_, rfl, _, rfl, fr_sI hfr ?_, ?_, ?_, ?_⟩
    · have : t = 0 ∨ t = 1 ∨ t = 2 ∨ t = 3 ∨ t = 4 ∨ t = 5 ∨ t = 6 ∨ t = 7 ∨ t = 8 ∨ t = 9 ∨ t = 10 ∨ t = 11 ∨ t = 12 := by omega
      rcases this with z | z | z | z | z | z | z | z | z | z | z | z | z <;> rw [z] <;> rfl
    · rw [sI_n (by omega)]; exact k2
    · intro c hc; rw [sI_n (by omega)]; exact k15 c hc
    · intro r hr j hj
      by_cases z : r = t
      · rw [z, sI_e, if_pos hj]
      · rw [sI_n (by omega)]; exact kr r (by omega) j hj
  · rintro s ⟨K, rfl, hfr, k2, k15, kr⟩
    obtain ⟨r1, r2⟩ := fill_ok (a := 31) (n := 1600) (v := 0) (N := K) (by omega)
    obtain ⟨r3, r4⟩ := fill_ok (a := 36) (n := 240) (v := 0) (N := mz_sI K 31 (fun j => if j < 1600 then 0 else K.1 31 j)) (by omega)
    rw [sI_n (by decide)] at r4
    obtain ⟨l1, l2, l3⟩ := c_list (e := e) (fl := fl) (M := mz_sI (mz_sI K 31 (fun j => if j < 1600 then 0 else K.1 31 j)) 36 (fun j => if j < 240 then 0 else K.1 36 j)) hn
      (by simp only [sI_1, Nat.reduceEqDiff, if_false, k2, up_a, if_true])
      (fun c hc => by simp only [sI_1, Nat.reduceEqDiff, if_false]; exact k15 c hc)
      (fun c hc => by simp only [sI_1, Nat.reduceEqDiff, if_false]; rw [hfr.1 37 rfl]; exact (hfl c hc).1)
      (fun j hj => by simp only [sI_1, Nat.reduceEqDiff, if_false]; exact kr 2 (by omega) j hj)
      (fun j hj => by simp only [sI_1, Nat.reduceEqDiff, if_false]; exact kr 12 (by omega) j hj)
    have hfr2 : fr sv_A N (mz_sI (mz_sI K 31 (fun j => if j < 1600 then 0 else K.1 31 j)) 36 (fun j => if j < 240 then 0 else K.1 36 j)) := fr_sI (fr_sI hfr rfl) rfl
    have hrow : ∀ r, r < 13 → ∀ j, j < 40 → (mz_sI (mz_sI K 31 (fun j => if j < 1600 then 0 else K.1 31 j)) 36 (fun j => if j < 240 then 0 else K.1 36 j)).1 (17 + r) j = 0 := by
      intro r hr j hj
      rw [sI_n (by omega), sI_n (by omega)]; exact kr r hr j hj
    generalize hL : mz_sI (mz_sI K 31 (fun j => if j < 1600 then 0 else K.1 31 j)) 36 (fun j => if j < 240 then 0 else K.1 36 j) = L at *
    have h2L : L.1 2 = upd (N.1 2) 7 (nI (pl_n e)) := by rw [← hL, sI_n (by decide), sI_n (by decide)]; exact k2
    have h31L : ∀ j, j < 1600 → L.1 31 j = 0 := fun j hj => by rw [← hL, sI_n (by decide), sI_e, if_pos hj]
    have h36L : ∀ j, j < 240 → L.1 36 j = 0 := fun j hj => by rw [← hL, sI_e, if_pos hj]
    obtain ⟨m1, m2, m3⟩ := c_edges (e := e) (fl := fl) (M := cf_82_0 L) hn (fun c hc => (hfl c hc).2)
      (by rw [l2.1 2 rfl, h2L, up_a, if_pos rfl])
      (fun i hi => by rw [l2.1 3 rfl, hfr2.1 3 rfl]; exact h3 i hi) l3
      ⟨fun k hk => ⟨by rw [l2.1 21 rfl]; exact hrow 4 (by omega) k (by omega), by rw [l2.1 22 rfl]; exact hrow 5 (by omega) k (by omega), fun d hd => by
          have : [15, 17, 18, 19, 20, 28, 29, 30].contains (23 + d) = false := by
            have : d = 0 ∨ d = 1 ∨ d = 2 ∨ d = 3 := by omega
            rcases this with z | z | z | z <;> rw [z] <;> rfl
          rw [l2.1 _ this, show 23 + d = 17 + (6 + d) by omega]; exact hrow (6 + d) (by omega) k (by omega), by rw [l2.1 27 rfl]; exact hrow 10 (by omega) k (by omega)⟩,
        fun a b h1 h2 => by rw [l2.1 31 rfl]; exact h31L _ (by omega), fun c hc => by rw [l2.1 36 rfl]; exact h36L c hc⟩
    simp (disch := omega) only [cd_77_23, cq_77_23, nI_ltI, (show (13 : Int32) = nI 13 from rfl), Nat.lt_irrefl, r1, r2, r3, r4, hL, l1, m1, not_false_eq_true, not_true_eq_false, if_true, if_false, true_implies, false_implies, implies_true, and_true, true_and]
    refine ⟨_, rfl, ⟨fr_trans hfr2 (fr_trans (fr_sub l2 rfl) m2.1), fun k z1 z2 => ?_⟩, m3⟩
    rw [m2.2 k z1 z2, l2.1 2 rfl, h2L, up_a, if_neg z1]
  · exact fr_pI (fr_sI (fr_sI (fr_refl _ _) rfl) rfl) rfl
  · rw [pI_s, sI_e, sI_n (by decide), sI_n (by decide)]
  · intro c hc
    rw [pI_s, sI_n (by decide), sI_n (by decide), sI_e, p3 c hc]
    have := pl_lab_lt (e := e) hc
    have := pl_n_le e
    exact nO_lt (by unfold pl_lab at *; omega)
end Sv2
