/-! PURE (50zzu): the class boils. -/
section Boc
variable {N : mz_N} {e fl : Nat → Nat} {T : Nat → Int64} {G : Nat → Int32} {st ra q0 : Nat} {m : Nat → Nat}
theorem boil_c (hn : pl_n e ≤ 40) (hp : c_pl e fl N) (hfl : ∀ c, c < 240 → fl c < 16) (hG : ∀ j, j < 10 → N.1 53 j = G j) (hra : N.1 215 0 = nI ra) (hra2 : ra < 2 ^ 31) (h11 : N.1 56 11 = nI st) (hst : st ≤ 20000) (hm : ∀ j, j < 11 → N.1 210 j = nI (m j) ∧ m j < 2 ^ 30) (hq : N.1 208 3 = nI q0) (hT : ∀ k, k < pl_n e → N.2 74 k = T k) :
    cp_239_0 N ∧ ∃ K, cf_239_0 N = K ∧ fq [56, 208, 210] [74, 76, 77, 78] N K ∧ (∀ k, k < pl_n e → K.2 74 k = T k + lN (bs e fl T G st ra k)) ∧ (∀ j, j < 11 → K.1 210 j = nI (m j + ba e fl (bs e fl T G st ra) j)) ∧ (K.1 56 11 = nI (st + bs e fl T G st ra (pl_n e)) ∧ K.1 56 13 = nI (bv e fl T G st ra) ∧ ∀ j, j ≠ 11 → j ≠ 13 → K.1 56 j = N.1 56 j) ∧ K.1 208 3 = nI (q0 + (11 * bv e fl T G st ra + 9) / 10) ∧ ∀ j, j ≠ 3 → K.1 208 j = N.1 208 j := by
  have hsm := sm_pl hp
  have h20 : ∀ k, k < pl_n e → N.1 20 k = nI (fl (pl_lc e k)) ∧ fl (pl_lc e k) < 16 := fun k hk => ⟨(hp.2.1.2.1 k hk).2.2.2.1, hfl _ (pl_lc_ok hk).1⟩
  rw [cp_239_0, cf_239_0, hp.1, cp_239_12, cf_239_12]
  refine mz_lpn (f := cq_239_12 (nI (pl_n e))) (P := cd_239_12 (nI (pl_n e))) (Q := fun t => ∃ K, t = K ∧ fq [56, 208, 210] [74, 76, 77, 78] N K ∧ (∀ k, k < pl_n e → K.2 74 k = T k + lN (bs e fl T G st ra k)) ∧ (∀ j, j < 11 → K.1 210 j = nI (m j + ba e fl (bs e fl T G st ra) j)) ∧ (K.1 56 11 = nI (st + bs e fl T G st ra (pl_n e)) ∧ K.1 56 13 = nI (bv e fl T G st ra) ∧ ∀ j, j ≠ 11 → j ≠ 13 → K.1 56 j = N.1 56 j) ∧ K.1 208 3 = nI (q0 + (11 * bv e fl T G st ra + 9) / 10) ∧ ∀ j, j ≠ 3 → K.1 208 j = N.1 208 j) (pl_n e) (fun k s => ∃ a, s = (lN (sumN (bw e fl T G st) k), nI k, mz_sL N 76 a) ∧ ∀ j, j < k → a j = lN (bw e fl T G st j)) ?_ ?_ (Nat.zero_le _) ⟨N.2 76, by rw [sL_same]; rfl, fun j hj => absurd hj (Nat.not_lt_zero _)⟩
  · rintro k s hk ⟨a, rfl, ha⟩
    obtain ⟨f1, f2⟩ := h20 k hk
    have hz := pl_sz_le hk
    have l : nI k < nI (pl_n e) := (nI_ltI (by omega) (by omega)).mpr hk
    have i0 : mz_ib (nI k) 40 := ib_n (by omega) (by omega)
    have i1 : mz_ib (nI k) 41 := ib_n (by omega) (by omega)
    have g20 : mz_gI (mz_sL N 76 a) 20 (nI k) = nI (fl (pl_lc e k)) := by rw [gI_a, sL_1, nI_clamp (by omega)]; exact f1
    have g19 : mz_gI (mz_sL N 76 a) 19 (nI k) = nI (pl_sz e k) := by rw [gI_a, sL_1, nI_clamp (by omega)]; exact (hsm.1 k hk).1
    have g74 : mz_gL (mz_sL N 76 a) 74 (nI k) = T k := by rw [gL_a, sL_n (by decide), nI_clamp (by omega)]; exact hT k hk
    have g53 : mz_gI (mz_sL N 76 a) 53 (nI (fl (pl_lc e k))) = N.1 53 (fl (pl_lc e k)) := by rw [gI_a, sL_1, nI_clamp (by omega)]
    have st1 : ∀ s1 : Int32, s1.toInt64 = (if fl (pl_lc e k) < 10 then (G (fl (pl_lc e k))).toInt64 else 150) → cp_239_66 (100 * lN (pl_sz e k)) s1 (nI (pl_n e)) (lN (sumN (bw e fl T G st) k)) (nI k) (nI (pl_sz e k)) (mz_sL N 76 a) ∧ ∃ s2, cf_239_66 (100 * lN (pl_sz e k)) s1 (nI (pl_n e)) (lN (sumN (bw e fl T G st) k)) (nI k) (nI (pl_sz e k)) (mz_sL N 76 a) = .inl s2 ∧ ∃ a, s2 = (lN (sumN (bw e fl T G st) (k + 1)), nI (k + 1), mz_sL N 76 a) ∧ ∀ j, j < k + 1 → a j = lN (bw e fl T G st j) := fun s1 h1 => by
      have ew : mz_lmin (60 * (nI (pl_sz e k)).toInt64) (mz_lmax 0 (100 * lN (pl_sz e k) * s1.toInt64 - T k)) = lN (bw e fl T G st k) := by
        rw [nI_L (by omega), show (60 : Int64) = lN 60 from rfl, lN_mul, clp_c (by omega), h1, bw, if_pos hk, wnt]
      rw [cp_239_66, cf_239_66, cp_239_101, cf_239_101, g74, ew]
      refine ⟨⟨i0, i1, i1⟩, _, rfl, vp_updL a k (lN (bw e fl T G st k)), ?_, fun j hj => ?_⟩
      · rw [nI_1, wL_s, sL_e, sL_sL, gL_a, sL_e, nI_clamp (by omega), upL_a, if_pos rfl, lN_add, sumN]
      · rw [upL_a]
        by_cases z : j = k
        · rw [if_pos z, z]
        · rw [if_neg z]; exact ha j (by omega)
    rw [cd_239_12, cq_239_12]
    simp only [l, if_true, g20, g19, nI_L (show pl_sz e k < 2 ^ 31 by omega)]
    by_cases w : fl (pl_lc e k) < 10
    · have w2 : nI (fl (pl_lc e k)) < 10 := (nI_ltI (b := 10) (by omega) (by omega)).mpr w
      obtain ⟨p1, p2⟩ := st1 (N.1 53 (fl (pl_lc e k))) (by rw [if_pos w, hG _ w])
      simp only [w2, if_true, g53]
      exact ⟨⟨fun _ => ⟨i0, i0, fun _ => ⟨ib_n (by omega) (by omega), p1⟩, fun z => absurd trivial z⟩, fun z => absurd trivial z⟩, Or.inl p2⟩
    · have w2 : ¬ nI (fl (pl_lc e k)) < 10 := fun z => w ((nI_ltI (b := 10) (by omega) (by omega)).mp z)
      obtain ⟨p1, p2⟩ := st1 150 (by rw [if_neg w]; rfl)
      simp only [w2, if_false]
      exact ⟨⟨fun _ => ⟨i0, i0, False.elim, fun _ => p1⟩, fun z => absurd trivial z⟩, Or.inl p2⟩
  · rintro s ⟨a, rfl, ha⟩
    have l : ¬ nI (pl_n e) < nI (pl_n e) := fun q => by have := (nI_ltI (by omega) (by omega)).mp q; omega
    have i1 : mz_ib (nI (pl_n e)) 41 := ib_n (by omega) (by omega)
    have wn : bw e fl T G st (pl_n e) = min 300 (20000 - st) := by rw [bw, if_neg (Nat.lt_irrefl _)]
    have ei : (mz_imin 300 (20000 - nI st)).toInt64 = lN (bw e fl T G st (pl_n e)) := by
      rw [show (20000 : Int32) = nI 20000 from rfl, show (300 : Int32) = nI 300 from rfl, pk_sub hst, imin_n (by omega) (by omega), nI_L (by omega), wn]
    have ew : mz_wL (mz_sL N 76 a) 76 (nI (pl_n e)) (lN (bw e fl T G st (pl_n e))) = mz_sL N 76 (vp_updL a (pl_n e) (lN (bw e fl T G st (pl_n e)))) := by rw [wL_s, sL_e, sL_sL, nI_clamp (by omega)]
    have g76 : mz_gL (mz_sL N 76 (vp_updL a (pl_n e) (lN (bw e fl T G st (pl_n e))))) 76 (nI (pl_n e)) = lN (bw e fl T G st (pl_n e)) := by rw [gL_a, sL_e, nI_clamp (by omega), upL_a, if_pos rfl]
    have g215 : mz_gI (mz_sL N 76 (vp_updL a (pl_n e) (lN (bw e fl T G st (pl_n e))))) 215 0 = nI ra := by rw [gI_a, sL_1]; exact hra
    have sb := bw_s (e := e) (fl := fl) (T := T) (G := G) (st := st) hn (Nat.le_refl (pl_n e + 1))
    have ev : mz_lmin (lN ra) (lN (sumN (bw e fl T G st) (pl_n e)) + lN (bw e fl T G st (pl_n e))) = lN (bv e fl T G st ra) := by
      rw [lN_add, lmin_n (by omega) (by rw [show sumN (bw e fl T G st) (pl_n e) + bw e fl T G st (pl_n e) = sumN (bw e fl T G st) (pl_n e + 1) from rfl]; omega)]; rfl
    have hbv : bv e fl T G st ra ≤ 602700 := Nat.le_trans bv_le sb
    obtain ⟨c1, g', h', c2, c3⟩ := shr_c (N := mz_sL N 76 (vp_updL a (pl_n e) (lN (bw e fl T G st (pl_n e))))) (a1 := 76) (n1 := 41) (a3 := 77) (n3 := 41) (a4 := 78) (n4 := 41) (v := bv e fl T G st ra) (w := bw e fl T G st) (n := pl_n e + 1) (by decide) (by decide) (by decide) (by omega) (by omega) (by omega) ⟨by omega, by omega, by omega⟩ (fun i hi => by
        rw [sL_e, upL_a]
        by_cases z : i = pl_n e
        · rw [if_pos z, z]
        · rw [if_neg z]; exact ha i (by omega)) (by omega) (by omega) (fun i hi => Nat.lt_of_le_of_lt (Nat.mul_le_mul hbv (bw_b hi)) (by omega))
    have hb : ∀ k, k < pl_n e + 1 → bs e fl T G st ra k ≤ 14700 := fun k hk => Nat.le_trans (bs_le hk) (bw_b hk)
    have hbn := bs_n (e := e) (fl := fl) (T := T) (G := G) (st := st) (ra := ra)
    obtain ⟨d1, K, d2, d3, d4, d5, d6, d7, d8⟩ := add_c (e := e) (fl := fl) (st := st) (b := bs e fl T G st ra) (m := m) (Q1 := fun _ => q0) (v := bv e fl T G st ra) (M := s2 (mz_sL N 76 (vp_updL a (pl_n e) (lN (bw e fl T G st (pl_n e))))) 77 78 g' h') hn h20 (fun k hk => by rw [s2_ga, c3 k hk]; rfl) hb hm h11 hq hbv (by omega) hst
    rw [cd_239_12, cq_239_12]
    simp only [sL_1, l, if_false, h11, ei, ew, g76, g215, nI_L hra2, ev, nI_1, c2]
    refine ⟨⟨False.elim, fun _ => ⟨i1, i1, c1, d1⟩⟩, _, rfl, K, d2, ?_, fun k hk => ?_, d5, d6, d7, d8⟩
    · refine fq_trans (M := s2 (mz_sL N 76 (vp_updL a (pl_n e) (lN (bw e fl T G st (pl_n e))))) 77 78 g' h') ⟨fun c _ => rfl, fun c hc => ?_⟩ ⟨fun c hc => d3.1 c hc, fun c hc => d3.2 c ?_⟩
      · show (if c = 77 then g' else if c = 78 then h' else (mz_sL N 76 _).2 c) = N.2 c
        have h1 : c ≠ 77 := fun z => by rw [z] at hc; cases hc
        have h2 : c ≠ 78 := fun z => by rw [z] at hc; cases hc
        have h3 : c ≠ 76 := fun z => by rw [z] at hc; cases hc
        rw [if_neg h1, if_neg h2, sL_n h3]
      · have h1 : c ≠ 74 := fun z => by rw [z] at hc; cases hc
        simpa using h1
    · rw [d4 k hk]
      show N.2 74 k + _ = _
      rw [hT k hk]
end Boc
