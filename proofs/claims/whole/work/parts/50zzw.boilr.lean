/-! PURE (50zzw): the reference boils. -/
section Bor
variable {N M : mz_N} {e fl : Nat → Nat} {T : Nat → Int64} {G : Nat → Int32} {st ra q0 : Nat} {m : Nat → Nat}
theorem flt_r (hn : pl_n e ≤ 240) {k : Nat} (hk : k < pl_n e) (h34 : ∀ c, c < 240 → N.1 234 c = nI (fl c)) (h36 : ∀ k, k < pl_n e → N.1 236 k = nI (pl_lc e k)) : cp_436_0 (nI k) N ∧ cf_436_0 (nI k) N = nI (fl (pl_lc e k)) := by
  have hl := (pl_lc_ok hk).1
  have g : mz_gI N 236 (nI k) = nI (pl_lc e k) := by rw [gI_a, nI_clamp (by omega)]; exact h36 k hk
  rw [cp_436_0, cf_436_0, g]
  refine ⟨⟨ib_n (by omega) (by omega), ib_n hl (by omega)⟩, ?_⟩
  rw [gI_a, nI_clamp (by omega)]
  exact h34 _ hl
theorem add_r {b : Nat → Nat} {v : Nat} (hn : pl_n e ≤ 40) (h7 : M.1 232 7 = nI (pl_n e)) (h34 : ∀ c, c < 240 → M.1 234 c = nI (fl c)) (hfl : ∀ c, c < 240 → fl c < 16) (h36 : ∀ k, k < pl_n e → M.1 236 k = nI (pl_lc e k)) (h71 : ∀ k, k < pl_n e + 1 → M.2 271 k = lN (b k)) (hb : ∀ k, k < pl_n e + 1 → b k ≤ 14700) (hm : ∀ j, j < 11 → M.2 321 j = lN (m j)) (h62 : M.1 232 62 = nI st) (hq : M.2 232 124 = lN q0) (h66 : M.2 232 66 = lN v) (hv : v ≤ 602700) :
    cp_527_217 M ∧ ∃ K, cf_527_217 M = K ∧ fq [232] [232, 268, 321] M K ∧ (∀ k, k < pl_n e → K.2 268 k = M.2 268 k + lN (b k)) ∧ (∀ j, j < 11 → K.2 321 j = lN (m j + ba e fl b j)) ∧ (K.1 232 62 = nI (st + b (pl_n e)) ∧ ∀ j, j ≠ 62 → K.1 232 j = M.1 232 j) ∧ K.2 232 124 = lN (q0 + (11 * v + 9) / 10) ∧ ∀ j, j ≠ 124 → K.2 232 j = M.2 232 j := by
  rw [cp_527_217, cf_527_217, cp_527_219, cf_527_219]
  have h20 : ∀ k, k < pl_n e → fl (pl_lc e k) < 16 := fun k hk => hfl _ (pl_lc_ok hk).1
  have hfr : ∀ k, k < pl_n e → ∀ T' q, cp_436_0 (nI k) (s2 M 268 321 T' q) ∧ cf_436_0 (nI k) (s2 M 268 321 T' q) = nI (fl (pl_lc e k)) := fun k hk T' q => flt_r (by omega) hk h34 h36
  generalize hN : pl_n e = n at *
  refine mz_lpn (f := cq_527_219) (P := cd_527_219) (Q := fun t => ∃ K, t = K ∧ fq [232] [232, 268, 321] M K ∧ (∀ k, k < n → K.2 268 k = M.2 268 k + lN (b k)) ∧ (∀ j, j < 11 → K.2 321 j = lN (m j + ba e fl b j)) ∧ (K.1 232 62 = nI (st + b n) ∧ ∀ j, j ≠ 62 → K.1 232 j = M.1 232 j) ∧ K.2 232 124 = lN (q0 + (11 * v + 9) / 10) ∧ ∀ j, j ≠ 124 → K.2 232 j = M.2 232 j) n (fun k s => ∃ T' q, s = (nI k, s2 M 268 321 T' q) ∧ (∀ j, T' j = if j < k then M.2 268 j + lN (b j) else M.2 268 j) ∧ ∀ j, j < 11 → q j = lN (m j + bm e fl b j k)) ?_ ?_ (Nat.zero_le _) ⟨M.2 268, M.2 321, by rw [s2_0]; rfl, fun j => by rw [if_neg (Nat.not_lt_zero _)], fun j hj => hm j hj⟩
  · rintro k s hk ⟨T', q, rfl, hT, hq2⟩
    have f2 := h20 k hk
    obtain ⟨r1, r2⟩ := hfr k hk T' q
    have l : nI k < nI n := (nI_ltI (by omega) (by omega)).mpr hk
    have i0 : mz_ib (nI k) 40 := ib_n (by omega) (by omega)
    have i1 : mz_ib (nI k) 41 := ib_n (by omega) (by omega)
    have bk := hb k (by omega)
    have h7' : (s2 M 268 321 T' q).1 232 7 = nI n := h7
    have g68 : mz_gL (s2 M 268 321 T' q) 268 (nI k) = T' k := by rw [gL_a, s2_ga, nI_clamp (by omega)]
    have g71 : ∀ U V, mz_gL (s2 M 268 321 U V) 271 (nI k) = lN (b k) := fun U V => by rw [gL_a, s2_gc (by decide) (by decide), nI_clamp (by omega)]; exact h71 k (by omega)
    have ew : ∀ x, mz_wL (s2 M 268 321 T' q) 268 (nI k) x = s2 M 268 321 (vp_updL T' k x) q := fun x => by rw [s2_a, nI_clamp (by omega)]
    have st1 : ∀ s1 : Int32, s1 = nI (min (fl (pl_lc e k)) 10) → cp_527_267 s1 (nI k) (s2 M 268 321 (vp_updL T' k (T' k + lN (b k))) q) ∧ ∃ z, cf_527_267 s1 (nI k) (s2 M 268 321 (vp_updL T' k (T' k + lN (b k))) q) = .inl z ∧ ∃ T' q, z = (nI (k + 1), s2 M 268 321 T' q) ∧ (∀ j, T' j = if j < k + 1 then M.2 268 j + lN (b j) else M.2 268 j) ∧ ∀ j, j < 11 → q j = lN (m j + bm e fl b j (k + 1)) := fun s1 hs1 => by
      have i2 : mz_ib s1 11 := by rw [hs1]; exact ib_n (by omega) (by omega)
      rw [cp_527_267, cf_527_267]
      refine ⟨⟨i2, i1, i2⟩, _, rfl, vp_updL T' k (T' k + lN (b k)), vp_updL q (min (fl (pl_lc e k)) 10) (lN (m (min (fl (pl_lc e k)) 10) + bm e fl b (min (fl (pl_lc e k)) 10) k + b k)), ?_, fun j => ?_, fun j hj => ?_⟩
      · rw [nI_1, hs1, g71, gL_a, s2_gb (by decide), s2_b (by decide), nI_clamp (by omega), hq2 _ (by omega), lN_add]
      · rw [upL_a]
        by_cases z : j = k
        · rw [if_pos z, if_pos (by omega), hT k, if_neg (Nat.lt_irrefl _), z]
        · rw [if_neg z, hT j]
          by_cases y : j < k
          · rw [if_pos y, if_pos (by omega)]
          · rw [if_neg y, if_neg (by omega)]
      · rw [upL_a, bm, bm, sumN]
        by_cases z : j = min (fl (pl_lc e k)) 10
        · rw [if_pos z, if_pos z.symm, z, Nat.add_assoc]
        · rw [if_neg z, if_neg (fun y => z y.symm), hq2 j hj]; rfl
    rw [cd_527_219, cq_527_219]
    simp only [h7', l, if_true, r2, g68, g71, ew]
    by_cases w : fl (pl_lc e k) < 10
    · have w2 : nI (fl (pl_lc e k)) < 10 := (nI_ltI (b := 10) (by omega) (by omega)).mpr w
      obtain ⟨p1, p2⟩ := st1 (nI (fl (pl_lc e k))) (by rw [Nat.min_eq_left (by omega)])
      simp only [w2, if_true]
      exact ⟨⟨fun _ => ⟨r1, i0, i1, i0, fun _ => p1, fun z => absurd trivial z⟩, fun z => absurd trivial z⟩, Or.inl p2⟩
    · have w2 : ¬ nI (fl (pl_lc e k)) < 10 := fun z => w ((nI_ltI (b := 10) (by omega) (by omega)).mp z)
      obtain ⟨p1, p2⟩ := st1 10 (by rw [Nat.min_eq_right (by omega)]; rfl)
      simp only [w2, if_false]
      exact ⟨⟨fun _ => ⟨r1, i0, i1, i0, False.elim, fun _ => p1⟩, fun z => absurd trivial z⟩, Or.inl p2⟩
  · rintro s ⟨T', q, rfl, hT, hq2⟩
    have l : ¬ nI n < nI n := fun q => by have := (nI_ltI (by omega) (by omega)).mp q; omega
    have i1 : mz_ib (nI n) 41 := ib_n (by omega) (by omega)
    have bn := hb n (by omega)
    have h7' : (s2 M 268 321 T' q).1 232 7 = nI n := h7
    have h62' : (s2 M 268 321 T' q).1 232 62 = nI st := h62
    have g71 : mz_gL (s2 M 268 321 T' q) 271 (nI n) = lN (b n) := by rw [gL_a, s2_gc (by decide) (by decide), nI_clamp (by omega)]; exact h71 n (by omega)
    have g71' : ∀ x, mz_gL (mz_pI (s2 M 268 321 T' q) 232 62 x) 271 (nI n) = lN (b n) := fun x => g71
    have h7'' : ∀ x, (mz_pI (s2 M 268 321 T' q) 232 62 x).1 232 7 = nI n := fun x => h7
    have g10 : ∀ x, mz_gL (mz_pI (s2 M 268 321 T' q) 232 62 x) 321 10 = lN (m 10 + bm e fl b 10 n) := fun x => hq2 10 (by omega)
    have ev : (11 * lN v + 9) / 10 = lN ((11 * v + 9) / 10) := by
      rw [show (11 : Int64) = lN 11 from rfl, show (9 : Int64) = lN 9 from rfl, show (10 : Int64) = lN 10 from rfl, lN_mul, lN_add, pk_lDiv (by omega) (by omega) (by omega)]
    rw [cd_527_219, cq_527_219]
    simp only [h7', h62', l, if_false, g71, g71', h7'', g10, lN_32 (show b n < 2 ^ 31 by omega), nI_add, lN_add]
    refine ⟨⟨False.elim, fun _ => ⟨i1, i1, trivial⟩⟩, _, rfl, _, rfl, ?_, fun k hk => ?_, fun j hj => ?_, ⟨?_, fun j h1 => ?_⟩, ?_, fun j h1 => ?_⟩
    · rw [cf_527_321]
      refine fq_pL (fq_wL (fq_pI ⟨fun c _ => rfl, fun c hc => ?_⟩ rfl) rfl) rfl
      show (if c = 268 then T' else if c = 321 then q else M.2 c) = M.2 c
      have h1 : c ≠ 268 := fun z => by rw [z] at hc; cases hc
      have h2 : c ≠ 321 := fun z => by rw [z] at hc; cases hc
      rw [if_neg h1, if_neg h2]
    · show T' k = _
      rw [hT k, if_pos hk]
    · show vp_updL q 10 (lN (m 10 + bm e fl b 10 n + b n)) j = _
      rw [upL_a, ba, hN]
      by_cases z : j = 10
      · rw [if_pos z, if_pos z, z, Nat.add_assoc]
      · rw [if_neg z, if_neg z]; exact hq2 j hj
    · show upd (M.1 232) 62 (nI (st + b n)) 62 = _
      rw [up_a, if_pos rfl]
    · show upd (M.1 232) 62 (nI (st + b n)) j = _
      rw [up_a, if_neg h1]
    · show vp_updL (M.2 232) 124 (M.2 232 124 + (11 * M.2 232 66 + 9) / 10) 124 = _
      rw [upL_a, if_pos rfl, h66, ev, hq, lN_add]
    · show vp_updL (M.2 232) 124 (M.2 232 124 + (11 * M.2 232 66 + 9) / 10) j = _
      rw [upL_a, if_neg h1]
/-- the boiler works -/
theorem bo1_r (hn : pl_n e ≤ 40) (h7 : N.1 232 7 = nI (pl_n e)) (h34 : ∀ c, c < 240 → N.1 234 c = nI (fl c)) (hfl : ∀ c, c < 240 → fl c < 16) (h36 : ∀ k, k < pl_n e → N.1 236 k = nI (pl_lc e k) ∧ N.1 237 k = nI (pl_sz e k)) (hG : ∀ j, j < 10 → N.1 257 j = G j) (hra : N.1 232 21 = nI ra) (hra2 : ra < 2 ^ 31) (h62 : N.1 232 62 = nI st) (hst : st ≤ 20000) (hm : ∀ j, j < 11 → N.2 321 j = lN (m j)) (hq : N.2 232 124 = lN q0) (hT : ∀ k, k < pl_n e → N.2 268 k = T k) :
    cp_527_39 0 0 N ∧ ∃ K, cf_527_39 0 0 N = K ∧ fq [232] [232, 268, 270, 271, 321, 328] N K ∧ (∀ k, k < pl_n e → K.2 268 k = T k + lN (bs e fl T G st ra k)) ∧ (∀ j, j < 11 → K.2 321 j = lN (m j + ba e fl (bs e fl T G st ra) j)) ∧ (K.1 232 62 = nI (st + bs e fl T G st ra (pl_n e)) ∧ ∀ j, j ≠ 62 → K.1 232 j = N.1 232 j) ∧ K.2 232 66 = lN (bv e fl T G st ra) ∧ K.2 232 124 = lN (q0 + (11 * bv e fl T G st ra + 9) / 10) ∧ ∀ j, j ≠ 66 → j ≠ 124 → K.2 232 j = N.2 232 j := by
  rw [cp_527_39, cf_527_39]
  refine mz_lpn (f := cq_527_39) (P := cd_527_39) (Q := fun t => ∃ K, t = K ∧ fq [232] [232, 268, 270, 271, 321, 328] N K ∧ (∀ k, k < pl_n e → K.2 268 k = T k + lN (bs e fl T G st ra k)) ∧ (∀ j, j < 11 → K.2 321 j = lN (m j + ba e fl (bs e fl T G st ra) j)) ∧ (K.1 232 62 = nI (st + bs e fl T G st ra (pl_n e)) ∧ ∀ j, j ≠ 62 → K.1 232 j = N.1 232 j) ∧ K.2 232 66 = lN (bv e fl T G st ra) ∧ K.2 232 124 = lN (q0 + (11 * bv e fl T G st ra + 9) / 10) ∧ ∀ j, j ≠ 66 → j ≠ 124 → K.2 232 j = N.2 232 j) (pl_n e) (fun k s => ∃ a, s = (lN (sumN (bw e fl T G st) k), nI k, mz_sL N 270 a) ∧ ∀ j, j < k → a j = lN (bw e fl T G st j)) ?_ ?_ (Nat.zero_le _) ⟨N.2 270, by rw [sL_same]; rfl, fun j hj => absurd hj (Nat.not_lt_zero _)⟩
  · rintro k s hk ⟨a, rfl, ha⟩
    have f2 : fl (pl_lc e k) < 16 := hfl _ (pl_lc_ok hk).1
    obtain ⟨r1, r2⟩ := flt_r (N := mz_sL N 270 a) (fl := fl) (by omega) hk h34 (fun k hk => (h36 k hk).1)
    have hz := pl_sz_le hk
    have l : nI k < nI (pl_n e) := (nI_ltI (by omega) (by omega)).mpr hk
    have i0 : mz_ib (nI k) 40 := ib_n (by omega) (by omega)
    have i1 : mz_ib (nI k) 41 := ib_n (by omega) (by omega)
    have i2 : mz_ib (nI k) 240 := ib_n (by omega) (by omega)
    have g37 : mz_gI (mz_sL N 270 a) 237 (nI k) = nI (pl_sz e k) := by rw [gI_a, sL_1, nI_clamp (by omega)]; exact (h36 k hk).2
    have g68 : mz_gL (mz_sL N 270 a) 268 (nI k) = T k := by rw [gL_a, sL_n (by decide), nI_clamp (by omega)]; exact hT k hk
    have g57 : mz_gI (mz_sL N 270 a) 257 (nI (fl (pl_lc e k))) = N.1 257 (fl (pl_lc e k)) := by rw [gI_a, sL_1, nI_clamp (by omega)]
    have st1 : ∀ s0 : Int64, s0 = (if fl (pl_lc e k) < 10 then (G (fl (pl_lc e k))).toInt64 else 150) → cp_527_75 s0 (lN (sumN (bw e fl T G st) k)) (nI k) (mz_sL N 270 a) ∧ ∃ s2, cf_527_75 s0 (lN (sumN (bw e fl T G st) k)) (nI k) (mz_sL N 270 a) = .inl s2 ∧ ∃ a, s2 = (lN (sumN (bw e fl T G st) (k + 1)), nI (k + 1), mz_sL N 270 a) ∧ ∀ j, j < k + 1 → a j = lN (bw e fl T G st j) := fun s0 h0 => by
      have ew : cf_528_0 (100 * lN (pl_sz e k) * s0 - T k) 0 (60 * lN (pl_sz e k)) = lN (bw e fl T G st k) := by
        rw [show (60 : Int64) = lN 60 from rfl, lN_mul, clp_r (by omega), h0, bw, if_pos hk, wnt]
      rw [cp_527_75, cf_527_75, cp_527_119, cf_527_119, g68, g37, nI_L (show pl_sz e k < 2 ^ 31 by omega), ew]
      refine ⟨⟨i2, i0, i2, i1, i1⟩, _, rfl, vp_updL a k (lN (bw e fl T G st k)), ?_, fun j hj => ?_⟩
      · rw [nI_1, wL_s, sL_e, sL_sL, gL_a, sL_e, nI_clamp (by omega), upL_a, if_pos rfl, lN_add, sumN]
      · rw [upL_a]
        by_cases z : j = k
        · rw [if_pos z, z]
        · rw [if_neg z]; exact ha j (by omega)
    rw [cd_527_39, cq_527_39]
    simp only [sL_1, h7, l, if_true, r2]
    by_cases w : fl (pl_lc e k) < 10
    · have w2 : nI (fl (pl_lc e k)) < 10 := (nI_ltI (b := 10) (by omega) (by omega)).mpr w
      obtain ⟨p1, p2⟩ := st1 (N.1 257 (fl (pl_lc e k))).toInt64 (by rw [if_pos w, hG _ w])
      simp only [w2, if_true, g57]
      exact ⟨⟨fun _ => ⟨r1, fun _ => ⟨ib_n (by omega) (by omega), p1⟩, fun z => absurd trivial z⟩, fun z => absurd trivial z⟩, Or.inl p2⟩
    · have w2 : ¬ nI (fl (pl_lc e k)) < 10 := fun z => w ((nI_ltI (b := 10) (by omega) (by omega)).mp z)
      obtain ⟨p1, p2⟩ := st1 150 (by rw [if_neg w])
      simp only [w2, if_false]
      exact ⟨⟨fun _ => ⟨r1, False.elim, fun _ => p1⟩, fun z => absurd trivial z⟩, Or.inl p2⟩
  · rintro s ⟨a, rfl, ha⟩
    have l : ¬ nI (pl_n e) < nI (pl_n e) := fun q => by have := (nI_ltI (by omega) (by omega)).mp q; omega
    have i1 : mz_ib (nI (pl_n e)) 41 := ib_n (by omega) (by omega)
    have wn : bw e fl T G st (pl_n e) = min 300 (20000 - st) := by rw [bw, if_neg (Nat.lt_irrefl _)]
    have ei : cf_528_0 (20000 - (nI st).toInt64) 0 300 = lN (bw e fl T G st (pl_n e)) := by
      rw [nI_L (by omega), show (20000 : Int64) = lN 20000 from rfl, show (300 : Int64) = lN 300 from rfl, lN_sub hst, clp_r (by omega), wn]
      refine congrArg lN ?_
      unfold clp
      rw [lN_j (by omega)]
      omega
    have ew : mz_wL (mz_sL N 270 a) 270 (nI (pl_n e)) (lN (bw e fl T G st (pl_n e))) = mz_sL N 270 (vp_updL a (pl_n e) (lN (bw e fl T G st (pl_n e)))) := by rw [wL_s, sL_e, sL_sL, nI_clamp (by omega)]
    have sb := bw_s (e := e) (fl := fl) (T := T) (G := G) (st := st) hn (Nat.le_refl (pl_n e + 1))
    have hbv : bv e fl T G st ra ≤ 602700 := Nat.le_trans bv_le sb
    have fin : ∀ s1 : Int64, s1 = lN (bv e fl T G st ra) → cp_527_191 s1 (mz_sL N 270 (vp_updL a (pl_n e) (lN (bw e fl T G st (pl_n e))))) ∧ ∃ K, cf_527_191 s1 (mz_sL N 270 (vp_updL a (pl_n e) (lN (bw e fl T G st (pl_n e))))) = K ∧ fq [232] [232, 268, 270, 271, 321, 328] N K ∧ (∀ k, k < pl_n e → K.2 268 k = T k + lN (bs e fl T G st ra k)) ∧ (∀ j, j < 11 → K.2 321 j = lN (m j + ba e fl (bs e fl T G st ra) j)) ∧ (K.1 232 62 = nI (st + bs e fl T G st ra (pl_n e)) ∧ ∀ j, j ≠ 62 → K.1 232 j = N.1 232 j) ∧ K.2 232 66 = lN (bv e fl T G st ra) ∧ K.2 232 124 = lN (q0 + (11 * bv e fl T G st ra + 9) / 10) ∧ ∀ j, j ≠ 66 → j ≠ 124 → K.2 232 j = N.2 232 j := fun s1 h1 => by
      have e66 : (mz_pL (mz_sL N 270 (vp_updL a (pl_n e) (lN (bw e fl T G st (pl_n e))))) 232 66 s1).2 232 66 = lN (bv e fl T G st ra) := by
        show vp_updL (N.2 232) 66 s1 66 = _
        rw [upL_a, if_pos rfl, h1]
      have e7 : (mz_pL (mz_sL N 270 (vp_updL a (pl_n e) (lN (bw e fl T G st (pl_n e))))) 232 66 s1).1 232 7 = nI (pl_n e) := h7
      rw [cp_527_191, cf_527_191, e66, e7, nI_1]
      obtain ⟨c1, g', h', c2, c3⟩ := shr_r (N := mz_pL (mz_sL N 270 (vp_updL a (pl_n e) (lN (bw e fl T G st (pl_n e))))) 232 66 s1) (a1 := 270) (n1 := 41) (a3 := 271) (v := bv e fl T G st ra) (w := bw e fl T G st) (n := pl_n e + 1) (by decide) (by decide) (by decide) (by omega) (by omega) (by omega) (fun i hi => by
        rw [pL_s, sL_n (by decide), sL_e, upL_a]
        by_cases z : i = pl_n e
        · rw [if_pos z, z]
        · rw [if_neg z]; exact ha i (by omega)) (by omega) (by omega) (fun i hi => Nat.lt_of_le_of_lt (Nat.mul_le_mul hbv (bw_b hi)) (by omega))
      have hb : ∀ k, k < pl_n e + 1 → bs e fl T G st ra k ≤ 14700 := fun k hk => Nat.le_trans (bs_le hk) (bw_b hk)
      obtain ⟨d1, K, d2, d3, d4, d5, d6, d7, d8⟩ := add_r (e := e) (fl := fl) (st := st) (b := bs e fl T G st ra) (m := m) (q0 := q0) (v := bv e fl T G st ra) (M := s2 (mz_pL (mz_sL N 270 (vp_updL a (pl_n e) (lN (bw e fl T G st (pl_n e))))) 232 66 s1) 271 328 g' h') hn h7 h34 hfl (fun k hk => (h36 k hk).1) (fun k hk => by rw [s2_ga, c3 k hk]; rfl) hb hm h62 hq e66 hbv
      rw [c2]
      refine ⟨⟨c1, d1⟩, K, d2, ?_, fun k hk => ?_, d5, d6, ?_, d7, fun j h2 h3 => ?_⟩
      · refine fq_trans (M := s2 (mz_pL (mz_sL N 270 (vp_updL a (pl_n e) (lN (bw e fl T G st (pl_n e))))) 232 66 s1) 271 328 g' h') ⟨fun c _ => rfl, fun c hc => ?_⟩ ⟨fun c hc => d3.1 c hc, fun c hc => d3.2 c ?_⟩
        · show (if c = 271 then g' else if c = 328 then h' else (mz_pL (mz_sL N 270 _) 232 66 s1).2 c) = N.2 c
          have h1 : c ≠ 271 := fun z => by rw [z] at hc; cases hc
          have h2 : c ≠ 328 := fun z => by rw [z] at hc; cases hc
          have h3 : c ≠ 232 := fun z => by rw [z] at hc; cases hc
          have h4 : c ≠ 270 := fun z => by rw [z] at hc; cases hc
          rw [if_neg h1, if_neg h2, pL_s, sL_n h3, sL_n h4]
        · have h1 : c ≠ 232 := fun z => by rw [z] at hc; cases hc
          have h2 : c ≠ 268 := fun z => by rw [z] at hc; cases hc
          have h3 : c ≠ 321 := fun z => by rw [z] at hc; cases hc
          simp [h1, h2, h3]
      · rw [d4 k hk]
        show N.2 268 k + _ = _
        rw [hT k hk]
      · rw [d8 66 (by decide)]; exact e66
      · rw [d8 j h3]
        show vp_updL (N.2 232) 66 s1 j = _
        rw [upL_a, if_neg h2]
    have g70 : mz_gL (mz_sL N 270 (vp_updL a (pl_n e) (lN (bw e fl T G st (pl_n e))))) 270 (nI (pl_n e)) = lN (bw e fl T G st (pl_n e)) := by rw [gL_a, sL_e, nI_clamp (by omega), upL_a, if_pos rfl]
    have es : lN (sumN (bw e fl T G st) (pl_n e)) + lN (bw e fl T G st (pl_n e)) = lN (sumN (bw e fl T G st) (pl_n e + 1)) := by rw [lN_add, sumN]
    rw [cd_527_39, cq_527_39]
    simp only [sL_1, h7, l, if_false, h62, ei, ew]
    rw [cp_527_159, cf_527_159]
    simp only [sL_1, h7, hra, nI_L hra2, g70, es]
    by_cases w : sumN (bw e fl T G st) (pl_n e + 1) < ra
    · have w2 := (lN_lt64 (show sumN (bw e fl T G st) (pl_n e + 1) < 2 ^ 62 by omega) (show ra < 2 ^ 62 by omega)).mpr w
      obtain ⟨f1, f2⟩ := fin _ (show lN (sumN (bw e fl T G st) (pl_n e + 1)) = _ by rw [bv, Nat.min_eq_right (by omega)])
      simp only [w2, if_true]
      exact ⟨⟨False.elim, fun _ => ⟨i1, i1, fun _ => f1, fun z => absurd trivial z⟩⟩, _, rfl, f2⟩
    · have w2 : ¬ lN (sumN (bw e fl T G st) (pl_n e + 1)) < lN ra := fun z => w ((lN_lt64 (show sumN (bw e fl T G st) (pl_n e + 1) < 2 ^ 62 by omega) (show ra < 2 ^ 62 by omega)).mp z)
      obtain ⟨f1, f2⟩ := fin _ (show lN ra = _ by rw [bv, Nat.min_eq_left (by omega)])
      simp only [w2, if_false]
      exact ⟨⟨False.elim, fun _ => ⟨i1, i1, False.elim, fun _ => f1⟩⟩, _, rfl, f2⟩
end Bor
