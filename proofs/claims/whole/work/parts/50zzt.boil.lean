/-! PURE (50zzt): the boiler, and the class's. -/
def clp (x : Int64) (m : Nat) : Nat := (min (m : Int) (max 0 x.toInt)).toNat
theorem clp_le (x : Int64) (m : Nat) : clp x m ≤ m := by unfold clp; omega
theorem lN_j {m : Nat} (h : m < 2 ^ 62) : (lN m).toInt = (m : Int) := Int64.toInt_ofNat_of_lt (by omega)
theorem clp_v {x y : Int64} {m : Nat} (hm : m < 2 ^ 62) (h : y.toInt = min (m : Int) (max 0 x.toInt)) : y = lN (clp x m) := by
  apply Int64.toInt_inj.mp
  have := clp_le x m
  rw [lN_j (by omega), h]
  unfold clp
  omega
theorem clp_r {x : Int64} {m : Nat} (hm : m < 2 ^ 62) : cf_528_0 x 0 (lN m) = lN (clp x m) := by
  refine clp_v hm ?_
  rw [cf_528_0]
  by_cases w : x < 0
  · rw [if_pos w, i_0]
    have := lt_i.mp w
    rw [i_0] at this
    omega
  · rw [if_neg w]
    have h1 : ¬ x.toInt < 0 := fun z => w (lt_i.mpr (by rw [i_0]; exact z))
    by_cases v : lN m < x
    · rw [if_pos v, lN_j hm]
      have := lt_i.mp v
      rw [lN_j hm] at this
      omega
    · rw [if_neg v]
      have h2 : ¬ (m : Int) < x.toInt := fun z => v (lt_i.mpr (by rw [lN_j hm]; exact z))
      omega
theorem clp_c {x : Int64} {m : Nat} (hm : m < 2 ^ 62) : mz_lmin (lN m) (mz_lmax 0 x) = lN (clp x m) := by
  refine clp_v hm ?_
  have h1 : (mz_lmax 0 x).toInt = max 0 x.toInt := by
    rw [mz_lmax]
    by_cases w : x < 0
    · rw [if_pos w, i_0]
      have := lt_i.mp w
      rw [i_0] at this
      omega
    · rw [if_neg w]
      have h1 : ¬ x.toInt < 0 := fun z => w (lt_i.mpr (by rw [i_0]; exact z))
      omega
  rw [mz_lmin]
  by_cases w : mz_lmax 0 x < lN m
  · rw [if_pos w, h1]
    have := lt_i.mp w
    rw [h1, lN_j hm] at this
    omega
  · rw [if_neg w, lN_j hm]
    have h2 : ¬ (mz_lmax 0 x).toInt < (m : Int) := fun z => w (lt_i.mpr (by rw [lN_j hm]; exact z))
    rw [h1] at h2
    omega
theorem lmin_n {a b : Nat} (ha : a < 2 ^ 62) (hb : b < 2 ^ 62) : mz_lmin (lN a) (lN b) = lN (min a b) := by
  rw [mz_lmin]
  by_cases w : b < a
  · rw [if_pos ((lN_lt64 hb ha).mpr w), Nat.min_eq_right (by omega)]
  · rw [if_neg (fun z => w ((lN_lt64 hb ha).mp z)), Nat.min_eq_left (by omega)]
theorem lN_32 {s : Nat} (h : s < 2 ^ 31) : (lN s).toInt32 = nI s := by rw [← nI_L h, toInt64_32]
/-- what a space wants -/
noncomputable def wnt (e fl : Nat → Nat) (T : Nat → Int64) (G : Nat → Int32) (k : Nat) : Nat := clp (100 * lN (pl_sz e k) * (if fl (pl_lc e k) < 10 then (G (fl (pl_lc e k))).toInt64 else 150) - T k) (60 * pl_sz e k)
/-- weights: spaces, then the store -/
noncomputable def bw (e fl : Nat → Nat) (T : Nat → Int64) (G : Nat → Int32) (st k : Nat) : Nat := if k < pl_n e then wnt e fl T G k else min 300 (20000 - st)
noncomputable def bv (e fl : Nat → Nat) (T : Nat → Int64) (G : Nat → Int32) (st ra : Nat) : Nat := min ra (sumN (bw e fl T G st) (pl_n e + 1))
noncomputable def bs (e fl : Nat → Nat) (T : Nat → Int64) (G : Nat → Int32) (st ra k : Nat) : Nat := if 0 < sumN (bw e fl T G st) (pl_n e + 1) then shr (bv e fl T G st ra) (bw e fl T G st) (pl_n e + 1) k else 0
def bm (e fl : Nat → Nat) (b : Nat → Nat) (j t : Nat) : Nat := sumN (fun k => if min (fl (pl_lc e k)) 10 = j then b k else 0) t
def ba (e fl : Nat → Nat) (b : Nat → Nat) (j : Nat) : Nat := bm e fl b j (pl_n e) + (if j = 10 then b (pl_n e) else 0)
section Boi
variable {N : mz_N} {e fl : Nat → Nat} {T : Nat → Int64} {G : Nat → Int32} {st ra : Nat}
theorem bw_le (k : Nat) : bw e fl T G st k ≤ 60 * pl_sz e k + 300 := by
  unfold bw
  split
  · have := clp_le (100 * lN (pl_sz e k) * (if fl (pl_lc e k) < 10 then (G (fl (pl_lc e k))).toInt64 else 150) - T k) (60 * pl_sz e k)
    unfold wnt
    omega
  · omega
theorem bw_b {k : Nat} (hk : k < pl_n e + 1) : bw e fl T G st k ≤ 14700 := by
  have h := bw_le (e := e) (fl := fl) (T := T) (G := G) (st := st) k
  have h2 : pl_sz e k ≤ 240 := cnt_le _ 240
  generalize pl_sz e k = z at h h2
  omega
theorem bw_s (hn : pl_n e ≤ 40) {t : Nat} (ht : t ≤ pl_n e + 1) : sumN (bw e fl T G st) t ≤ 602700 := by
  have h := sumN_bd (f := bw e fl T G st) (b := 14700) (n := t) (fun i hi => bw_b (by omega))
  omega
theorem bv_le : bv e fl T G st ra ≤ sumN (bw e fl T G st) (pl_n e + 1) := Nat.min_le_right _ _
theorem bs_le {k : Nat} (hk : k < pl_n e + 1) : bs e fl T G st ra k ≤ bw e fl T G st k := by
  unfold bs
  by_cases w : 0 < sumN (bw e fl T G st) (pl_n e + 1)
  · rw [if_pos w]; exact shr_le w bv_le hk
  · rw [if_neg w]; exact Nat.zero_le _
theorem bs_n : bs e fl T G st ra (pl_n e) ≤ 20000 - st := by
  have h := bs_le (e := e) (fl := fl) (T := T) (G := G) (st := st) (ra := ra) (k := pl_n e) (by omega)
  unfold bw at h
  rw [if_neg (Nat.lt_irrefl _)] at h
  omega
theorem bm_le {b : Nat → Nat} {j t : Nat} (h : ∀ k, k < t → b k ≤ 14700) : bm e fl b j t ≤ 14700 * t := sumN_bd (fun k hk => by
  show (if min (fl (pl_lc e k)) 10 = j then b k else 0) ≤ 14700
  split
  · exact h k hk
  · omega)
/-- the class adds what the boiler gave -/
theorem add_c {b m Q1 : Nat → Nat} {v : Nat} {M : mz_N} (hn : pl_n e ≤ 40) (h20 : ∀ k, k < pl_n e → M.1 20 k = nI (fl (pl_lc e k)) ∧ fl (pl_lc e k) < 16) (h77 : ∀ k, k < pl_n e + 1 → M.2 77 k = lN (b k)) (hb : ∀ k, k < pl_n e + 1 → b k ≤ 14700) (hm : ∀ j, j < 11 → M.1 210 j = nI (m j) ∧ m j < 2 ^ 30) (h11 : M.1 56 11 = nI st) (hq : M.1 208 3 = nI (Q1 0)) (hv : v ≤ 602700) (h7 : b (pl_n e) ≤ 20000) (hst : st ≤ 20000) :
    cp_239_189 (nI (pl_n e)) (lN v) M ∧ ∃ K, cf_239_189 (nI (pl_n e)) (lN v) M = K ∧ fq [56, 208, 210] [74] M K ∧ (∀ k, k < pl_n e → K.2 74 k = M.2 74 k + lN (b k)) ∧ (∀ j, j < 11 → K.1 210 j = nI (m j + ba e fl b j)) ∧ (K.1 56 11 = nI (st + b (pl_n e)) ∧ K.1 56 13 = nI v ∧ ∀ j, j ≠ 11 → j ≠ 13 → K.1 56 j = M.1 56 j) ∧ K.1 208 3 = nI (Q1 0 + (11 * v + 9) / 10) ∧ ∀ j, j ≠ 3 → K.1 208 j = M.1 208 j := by
  rw [cp_239_189, cf_239_189, cp_239_192, cf_239_192]
  generalize hN : pl_n e = n at *
  refine mz_lpn (f := cq_239_192 (nI n) (lN v)) (P := cd_239_192 (nI n) (lN v)) (Q := fun t => ∃ K, t = K ∧ fq [56, 208, 210] [74] M K ∧ (∀ k, k < n → K.2 74 k = M.2 74 k + lN (b k)) ∧ (∀ j, j < 11 → K.1 210 j = nI (m j + ba e fl b j)) ∧ (K.1 56 11 = nI (st + b n) ∧ K.1 56 13 = nI v ∧ ∀ j, j ≠ 11 → j ≠ 13 → K.1 56 j = M.1 56 j) ∧ K.1 208 3 = nI (Q1 0 + (11 * v + 9) / 10) ∧ ∀ j, j ≠ 3 → K.1 208 j = M.1 208 j) n (fun k s => ∃ T' q, s = (nI k, mz_sI (mz_sL M 74 T') 210 q) ∧ (∀ j, T' j = if j < k then M.2 74 j + lN (b j) else M.2 74 j) ∧ ∀ j, j < 11 → q j = nI (m j + bm e fl b j k)) ?_ ?_ (Nat.zero_le _) ⟨M.2 74, M.1 210, by rw [sL_same, sI_same]; rfl, fun j => by rw [if_neg (Nat.not_lt_zero _)], fun j hj => (hm j hj).1⟩
  · rintro k s hk ⟨T', q, rfl, hT, hq2⟩
    obtain ⟨f1, f2⟩ := h20 k hk
    have l : nI k < nI n := (nI_ltI (by omega) (by omega)).mpr hk
    have i0 : mz_ib (nI k) 40 := ib_n (by omega) (by omega)
    have i1 : mz_ib (nI k) 41 := ib_n (by omega) (by omega)
    have bk := hb k (by omega)
    have g74 : mz_gL (mz_sI (mz_sL M 74 T') 210 q) 74 (nI k) = T' k := by rw [gL_a, sI_2, sL_e, nI_clamp (by omega)]
    have g77 : ∀ U, mz_gL (mz_sI (mz_sL M 74 U) 210 q) 77 (nI k) = lN (b k) := fun U => by rw [gL_a, sI_2, sL_n (by decide), nI_clamp (by omega)]; exact h77 k (by omega)
    have g20 : ∀ U, mz_gI (mz_sI (mz_sL M 74 U) 210 q) 20 (nI k) = nI (fl (pl_lc e k)) := fun U => by rw [gI_a, sI_n (by decide), sL_1, nI_clamp (by omega)]; exact f1
    have ew : ∀ x, mz_wL (mz_sI (mz_sL M 74 T') 210 q) 74 (nI k) x = mz_sI (mz_sL M 74 (vp_updL T' k x)) 210 q := fun x => by
      rw [wL_s, sI_2, sL_e, nI_clamp (by omega)]
      refine mz_ext (fun c => rfl) (fun c => ?_)
      rw [sL_2, sI_2, sI_2, sL_2, sL_2]
      by_cases z : c = 74
      · rw [if_pos z, if_pos z]
      · rw [if_neg z, if_neg z, if_neg z]
    have em : mz_imin (nI (fl (pl_lc e k))) 10 = nI (min (fl (pl_lc e k)) 10) := imin_n (b := 10) (by omega) (by omega)
    have i2 : mz_ib (nI (min (fl (pl_lc e k)) 10)) 11 := ib_n (by omega) (by omega)
    have g210 : ∀ U, mz_gI (mz_sI (mz_sL M 74 U) 210 q) 210 (nI (min (fl (pl_lc e k)) 10)) = nI (m (min (fl (pl_lc e k)) 10) + bm e fl b (min (fl (pl_lc e k)) 10) k) := fun U => by rw [gI_a, sI_e, nI_clamp (by omega)]; exact hq2 _ (by omega)
    rw [cd_239_192, cq_239_192]
    simp only [l, if_true, g74, g77, ew, g20, em, g210, lN_32 (show b k < 2 ^ 31 by omega), nI_add]
    refine ⟨⟨fun _ => ⟨i0, i1, i0, i0, i2, i1, i2, trivial⟩, fun z => absurd trivial z⟩, Or.inl ⟨_, rfl, vp_updL T' k (T' k + lN (b k)), upd q (min (fl (pl_lc e k)) 10) (nI (m (min (fl (pl_lc e k)) 10) + bm e fl b (min (fl (pl_lc e k)) 10) k + b k)), ?_, fun j => ?_, fun j hj => ?_⟩⟩
    · rw [nI_1]
      refine Prod.ext rfl ?_
      show mz_wI _ _ _ _ = _
      rw [wI_s, sI_e, sI_sI, nI_clamp (by omega)]
    · rw [upL_a]
      by_cases z : j = k
      · rw [if_pos z, if_pos (by omega), hT k, if_neg (Nat.lt_irrefl _), z]
      · rw [if_neg z, hT j]
        by_cases y : j < k
        · rw [if_pos y, if_pos (by omega)]
        · rw [if_neg y, if_neg (by omega)]
    · rw [up_a, bm, bm, sumN]
      by_cases z : j = min (fl (pl_lc e k)) 10
      · rw [if_pos z, if_pos z.symm, z, Nat.add_assoc]
      · rw [if_neg z, if_neg (fun y => z y.symm), hq2 j hj]; rfl
  · rintro s ⟨T', q, rfl, hT, hq2⟩
    have l : ¬ nI n < nI n := fun q => by have := (nI_ltI (by omega) (by omega)).mp q; omega
    have i1 : mz_ib (nI n) 41 := ib_n (by omega) (by omega)
    have g77 : ∀ X, mz_gL (mz_sI (mz_sI (mz_sL M 74 T') 210 q) 56 X) 77 (nI n) = lN (b n) := fun X => by rw [gL_a, sI_2, sI_2, sL_n (by decide), nI_clamp (by omega)]; exact h77 n (by omega)
    have g77' : mz_gL (mz_sI (mz_sL M 74 T') 210 q) 77 (nI n) = lN (b n) := by rw [gL_a, sI_2, sL_n (by decide), nI_clamp (by omega)]; exact h77 n (by omega)
    have g56 : (mz_sI (mz_sL M 74 T') 210 q).1 56 11 = nI st := by rw [sI_n (by decide), sL_1]; exact h11
    have e10 : (10 : Int32).toNatClampNeg = 10 := rfl
    have g210 : ∀ X, mz_gI (mz_sI (mz_sI (mz_sL M 74 T') 210 q) 56 X) 210 10 = nI (m 10 + bm e fl b 10 n) := fun X => by rw [gI_a, sI_n (by decide), sI_e, e10]; exact hq2 10 (by omega)
    have ev : ((11 * lN v + 9) / 10).toInt32 = nI ((11 * v + 9) / 10) := by
      rw [show (11 : Int64) = lN 11 from rfl, show (9 : Int64) = lN 9 from rfl, show (10 : Int64) = lN 10 from rfl, lN_mul, lN_add, pk_lDiv (by omega) (by omega) (by omega), lN_32 (by omega)]
    rw [cd_239_192, cq_239_192]
    simp only [l, if_false, pI_s, g77, g77', g56, g210, lN_32 (show b n < 2 ^ 31 by omega), nI_add]
    refine ⟨⟨False.elim, fun _ => ⟨i1, i1, trivial⟩⟩, _, rfl, _, rfl, ?_, fun k hk => ?_, fun j hj => ?_, ⟨?_, ?_, fun j h1 h2 => ?_⟩, ?_, fun j h1 => ?_⟩
    · exact fq_pI (fq_pI (fq_wI (fq_sI (fq_sI (fq_sL (fq_refl _ _ _) rfl) rfl) rfl) rfl) rfl) rfl
    · show T' k = _
      rw [hT k, if_pos hk]
    · show upd q 10 (nI (m 10 + bm e fl b 10 n + b n)) j = _
      rw [up_a, ba, hN]
      by_cases z : j = 10
      · rw [if_pos z, if_pos z, z, Nat.add_assoc]
      · rw [if_neg z, if_neg z]; exact hq2 j hj
    · show upd (upd (M.1 56) 11 (nI (st + b n))) 13 ((lN v).toInt32) 11 = _
      rfl
    · show upd (upd (M.1 56) 11 (nI (st + b n))) 13 ((lN v).toInt32) 13 = _
      rw [up_a, if_pos rfl, lN_32 (by omega)]
    · show upd (upd (M.1 56) 11 (nI (st + b n))) 13 ((lN v).toInt32) j = _
      rw [up_a, if_neg h2, up_a, if_neg h1]
    · show upd (M.1 208) 3 (M.1 208 3 + ((11 * lN v + 9) / 10).toInt32) 3 = _
      rw [up_a, if_pos rfl, ev, hq, nI_add]
    · show upd (M.1 208) 3 (M.1 208 3 + ((11 * lN v + 9) / 10).toInt32) j = _
      rw [up_a, if_neg h1]
end Boi
