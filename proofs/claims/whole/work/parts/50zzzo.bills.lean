/-! PURE (50zzzo): the month's costs are shared out. -/
theorem lp_maL {β : Type} [Nonempty β] {f : Int32 × mz_N → (Int32 × mz_N) ⊕ β} {P : Int32 × mz_N → Prop} {N : mz_N} (c n : Nat) (val : Nat → Int64) (Q : β → Prop) (hb : n < 2 ^ 31)
    (hs : ∀ t, t < n → ∀ g, g t = N.2 c t → P (nI t, mz_sL N c g) ∧ f (nI t, mz_sL N c g) = .inl (nI (t + 1), mz_wL (mz_sL N c g) c (nI t) (val t)))
    (he : ∀ g, (∀ j, g j = if j < n then val j else N.2 c j) → P (nI n, mz_sL N c g) ∧ ∃ r, f (nI n, mz_sL N c g) = .inr r ∧ Q r) :
    (∃ m, mz_ok f P m (0, N)) ∧ Q (mz_run f (0, N)) := by
  refine mz_lpn (f := f) (P := P) (Q := Q) n (fun t s => ∃ g, s = (nI t, mz_sL N c g) ∧ ∀ j, g j = if j < t then val j else N.2 c j) ?_ ?_ (Nat.zero_le _) ⟨N.2 c, by rw [sL_same]; rfl, fun j => by rw [if_neg (by omega)]⟩
  · rintro t s ht ⟨g, rfl, hg⟩
    obtain ⟨h1, h2⟩ := hs t ht g (by rw [hg t, if_neg (by omega)])
    refine ⟨h1, Or.inl ⟨_, h2, vp_updL g t (val t), ?_, fun j => ?_⟩⟩
    · rw [wL_s, sL_e, sL_sL, nI_clamp (by omega)]
    · rw [upL_a]
      by_cases w : j = t
      · rw [if_pos w, w, if_pos (by omega)]
      · rw [if_neg w, hg j]
        by_cases v : j < t
        · rw [if_pos v, if_pos (by omega)]
        · rw [if_neg v, if_neg (by omega)]
  · rintro s ⟨g, rfl, hg⟩
    obtain ⟨h1, r, h2, h3⟩ := he g hg
    exact ⟨h1, r, h2, h3⟩
abbrev blS : Type := (Nat → Int64) × Int64
noncomputable def bad (s : Nat → Nat) (x : blS) : blS := (fun j => x.1 j + lN (s j), x.2)
noncomputable def bA (v : Nat) (ar : Nat → Nat) (x : blS) : blS := if 0 < sumN ar 10 then bad (shr v ar 10) x else (x.1, x.2 + lN v)
noncomputable def bM (v : Nat) (w ar : Nat → Nat) (x : blS) : blS := if 0 < sumN w 10 then bad (shr v w 10) x else bA v ar x
def blc (N : mz_N) (x : blS) : Prop := (∀ j, j < 10 → N.2 214 j = x.1 j) ∧ N.2 208 2 = x.2
def blr (N : mz_N) (x : blS) : Prop := (∀ j, j < 10 → N.2 325 j = x.1 j) ∧ N.2 232 123 = x.2
def bfc (N M : mz_N) : Prop := fq [] [208, 214, 216, 217, 218] N M ∧ ∀ j, j ≠ 2 → M.2 208 j = N.2 208 j
def bfr (N M : mz_N) : Prop := fq [] [232, 325, 326, 327, 328] N M ∧ ∀ j, j ≠ 123 → M.2 232 j = N.2 232 j
theorem bfc_t {N M K : mz_N} (h1 : bfc N M) (h2 : bfc M K) : bfc N K := ⟨fq_trans h1.1 h2.1, fun j hj => (h2.2 j hj).trans (h1.2 j hj)⟩
theorem bfr_t {N M K : mz_N} (h1 : bfr N M) (h2 : bfr M K) : bfr N K := ⟨fq_trans h1.1 h2.1, fun j hj => (h2.2 j hj).trans (h1.2 j hj)⟩
section Bl
variable {N : mz_N} {x : blS} {s w ar : Nat → Nat} {v : Nat}
theorem sm_10 (h : ∀ i, i < 10 → w i < 2 ^ 31) : sumN w 10 < 2 ^ 61 := by
  have := sumN_bd (f := w) (b := 2 ^ 31) (n := 10) (fun i hi => Nat.le_of_lt (h i hi))
  omega
theorem fq_s2 {A B : List Nat} {a b : Nat} {g h : Nat → Int64} (ha : B.contains a = true) (hb : B.contains b = true) : fq A B N (s2 N a b g h) := by
  refine ⟨fun c _ => rfl, fun c hc => ?_⟩
  show (if c = a then g else if c = b then h else N.2 c) = N.2 c
  rw [if_neg (fun z => by rw [z, ha] at hc; cases hc), if_neg (fun z => by rw [z, hb] at hc; cases hc)]
theorem ads_c (hx : blc N x) (h : ∀ j, j < 10 → N.2 217 j = lN (s j)) : cp_275_0 N ∧ blc (cf_275_0 N) (bad s x) ∧ bfc N (cf_275_0 N) := by
  rw [cp_275_0, cf_275_0, cp_275_2, cf_275_2]
  refine lp_maL (f := cq_275_2) (P := cd_275_2) 214 10 (fun t => x.1 t + lN (s t)) (fun M => blc M (bad s x) ∧ bfc N M) (by omega) (fun t ht g hg => ?_) (fun g hg => ?_)
  · have l : nI t < 10 := (nI_ltI (b := 10) (by omega) (by omega)).mpr ht
    have e1 : mz_gL (mz_sL N 214 g) 214 (nI t) = x.1 t := by rw [gL_a, nI_clamp (by omega), sL_e, hg]; exact hx.1 t ht
    have e2 : mz_gL (mz_sL N 214 g) 217 (nI t) = lN (s t) := by rw [gL_a, nI_clamp (by omega), sL_n (by decide)]; exact h t ht
    rw [cd_275_2, cq_275_2]
    simp only [l, if_true, e1, e2, nI_1]
    exact ⟨⟨fun _ => ⟨ib_n ht (by omega), ib_n ht (by omega), ib_n ht (by omega)⟩, fun z => absurd trivial z⟩, trivial⟩
  · have l : ¬ nI 10 < 10 := by decide
    rw [cd_275_2, cq_275_2]
    simp only [l, if_false]
    refine ⟨⟨False.elim, fun _ => trivial⟩, _, rfl, ⟨fun j hj => ?_, ?_⟩, fq_sL (fq_refl _ _ _) rfl, fun j _ => ?_⟩
    · rw [sL_e, hg j, if_pos hj]; rfl
    · rw [sL_n (by decide)]; exact hx.2
    · rw [sL_n (by decide)]
theorem ads_r (hx : blr N x) (h : ∀ j, j < 10 → N.2 327 j = lN (s j)) : cp_543_0 N ∧ blr (cf_543_0 N) (bad s x) ∧ bfr N (cf_543_0 N) := by
  rw [cp_543_0, cf_543_0, cp_543_2, cf_543_2]
  refine lp_maL (f := cq_543_2) (P := cd_543_2) 325 10 (fun t => x.1 t + lN (s t)) (fun M => blr M (bad s x) ∧ bfr N M) (by omega) (fun t ht g hg => ?_) (fun g hg => ?_)
  · have l : nI t < 10 := (nI_ltI (b := 10) (by omega) (by omega)).mpr ht
    have e1 : mz_gL (mz_sL N 325 g) 325 (nI t) = x.1 t := by rw [gL_a, nI_clamp (by omega), sL_e, hg]; exact hx.1 t ht
    have e2 : mz_gL (mz_sL N 325 g) 327 (nI t) = lN (s t) := by rw [gL_a, nI_clamp (by omega), sL_n (by decide)]; exact h t ht
    rw [cd_543_2, cq_543_2]
    simp only [l, if_true, e1, e2, nI_1]
    exact ⟨⟨fun _ => ⟨ib_n ht (by omega), ib_n (by omega) (by omega), ib_n ht (by omega)⟩, fun z => absurd trivial z⟩, trivial⟩
  · have l : ¬ nI 10 < 10 := by decide
    rw [cd_543_2, cq_543_2]
    simp only [l, if_false]
    refine ⟨⟨False.elim, fun _ => trivial⟩, _, rfl, ⟨fun j hj => ?_, ?_⟩, fq_sL (fq_refl _ _ _) rfl, fun j _ => ?_⟩
    · rw [sL_e, hg j, if_pos hj]; rfl
    · rw [sL_n (by decide)]; exact hx.2
    · rw [sL_n (by decide)]
theorem cha_c (hx : blc N x) (har : ∀ i, i < 10 → N.1 39 i = nI (ar i) ∧ ar i < 2 ^ 31) (hv : v < 2 ^ 62) (hb : ∀ i, i < 10 → v * ar i < 2 ^ 62) : cp_276_0 (lN v) N ∧ blc (cf_276_0 (lN v) N) (bA v ar x) ∧ bfc N (cf_276_0 (lN v) N) := by
  rw [cp_276_0, cf_276_0, cp_276_3, cf_276_3]
  refine lp_maL (f := cq_276_3 (lN v)) (P := cd_276_3 (lN v)) 216 10 (fun t => lN (ar t)) (fun M => blc M (bA v ar x) ∧ bfc N M) (by omega) (fun t ht g hg => ?_) (fun g hg => ?_)
  · have l : nI t < 10 := (nI_ltI (b := 10) (by omega) (by omega)).mpr ht
    have e1 : (mz_gI (mz_sL N 216 g) 39 (nI t)).toInt64 = lN (ar t) := by rw [gI_a, nI_clamp (by omega), sL_1, (har t ht).1, nI_L (har t ht).2]
    rw [cd_276_3, cq_276_3]
    simp only [l, if_true, e1, nI_1]
    exact ⟨⟨fun _ => ⟨ib_n ht (by omega), ib_n ht (by omega)⟩, fun z => absurd trivial z⟩, trivial⟩
  · have l : ¬ nI 10 < 10 := by decide
    obtain ⟨c1, g', h', c2, c3⟩ := shr_c (N := mz_sL N 216 g) (w := ar) (v := v) (n := 10) (a1 := 216) (n1 := 10) (a3 := 217) (n3 := 10) (a4 := 218) (n4 := 10) (by decide) (by decide) (by decide) (by omega) (by omega) (by omega) ⟨by omega, by omega, by omega⟩ (fun i hi => by rw [sL_e, hg i, if_pos hi]) hv (sm_10 (fun i hi => (har i hi).2)) hb
    have k1 : bfc N (s2 (mz_sL N 216 g) 217 218 g' h') := by
      refine ⟨fq_trans (M := mz_sL N 216 g) (fq_sL (fq_refl _ _ _) rfl) (fq_s2 rfl rfl), fun j _ => ?_⟩
      rw [s2_gc (by decide) (by decide), sL_n (by decide)]
    have k2 : blc (s2 (mz_sL N 216 g) 217 218 g' h') x := by
      refine ⟨fun j hj => ?_, ?_⟩
      · rw [s2_gc (by decide) (by decide), sL_n (by decide)]; exact hx.1 j hj
      · rw [s2_gc (by decide) (by decide), sL_n (by decide)]; exact hx.2
    have k3 : ∀ j, j < 10 → (s2 (mz_sL N 216 g) 217 218 g' h').2 217 j = g' j := fun j _ => s2_ga j
    rw [cd_276_3, cq_276_3]
    simp only [l, if_false]
    have e10 : (10 : Int32) = nI 10 := rfl
    rw [← e10] at c1 c2
    rw [c2]
    generalize s2 (mz_sL N 216 g) 217 218 g' h' = K at k1 k2 k3
    by_cases z : 0 < sumN ar 10
    · obtain ⟨d1, d2, d3⟩ := ads_c (N := K) (x := x) (s := shr v ar 10) k2 (fun j hj => by rw [k3 j hj, c3 j hj, if_pos z])
      rw [decide_eq_true z, bA, if_pos z]
      exact ⟨⟨False.elim, fun _ => ⟨c1, fun _ => d1, fun y => absurd rfl y⟩⟩, _, if_pos rfl, d2, bfc_t k1 d3⟩
    · rw [decide_eq_false z, bA, if_neg z]
      refine ⟨⟨False.elim, fun _ => ⟨c1, (fun y => by cases y), fun _ => trivial⟩⟩, _, if_neg (fun y => by cases y), ⟨fun j hj => ?_, ?_⟩, bfc_t k1 ⟨?_, fun j hj => ?_⟩⟩
      · rw [cf_276_66, pL_s, sL_n (by decide)]; exact k2.1 j hj
      · rw [cf_276_66, pL_s, sL_e, upL_a, if_pos rfl, k2.2]
      · rw [cf_276_66]; exact fq_pL (fq_refl _ _ _) rfl
      · rw [cf_276_66, pL_s, sL_e, upL_a, if_neg hj]
theorem cha_r (hx : blr N x) (har : ∀ i, i < 10 → N.1 243 i = nI (ar i) ∧ ar i < 2 ^ 31) (hv : v < 2 ^ 62) (hb : ∀ i, i < 10 → v * ar i < 2 ^ 62) : cp_544_0 (lN v) N ∧ blr (cf_544_0 (lN v) N) (bA v ar x) ∧ bfr N (cf_544_0 (lN v) N) := by
  rw [cp_544_0, cf_544_0, cp_544_2, cf_544_2]
  refine lp_maL (f := cq_544_2 (lN v)) (P := cd_544_2 (lN v)) 326 10 (fun t => lN (ar t)) (fun M => blr M (bA v ar x) ∧ bfr N M) (by omega) (fun t ht g hg => ?_) (fun g hg => ?_)
  · have l : nI t < 10 := (nI_ltI (b := 10) (by omega) (by omega)).mpr ht
    have e1 : (mz_gI (mz_sL N 326 g) 243 (nI t)).toInt64 = lN (ar t) := by rw [gI_a, nI_clamp (by omega), sL_1, (har t ht).1, nI_L (har t ht).2]
    rw [cd_544_2, cq_544_2]
    simp only [l, if_true, e1, nI_1]
    exact ⟨⟨fun _ => ⟨ib_n ht (by omega), ib_n (by omega) (by omega)⟩, fun z => absurd trivial z⟩, trivial⟩
  · have l : ¬ nI 10 < 10 := by decide
    obtain ⟨c1, g', h', c2, c3⟩ := shr_r (N := mz_sL N 326 g) (w := ar) (v := v) (n := 10) (a1 := 326) (n1 := 41) (a3 := 327) (by decide) (by decide) (by decide) (by omega) (by omega) (by omega) (fun i hi => by rw [sL_e, hg i, if_pos hi]) hv (sm_10 (fun i hi => (har i hi).2)) hb
    have k1 : bfr N (s2 (mz_sL N 326 g) 327 328 g' h') := by
      refine ⟨fq_trans (M := mz_sL N 326 g) (fq_sL (fq_refl _ _ _) rfl) (fq_s2 rfl rfl), fun j _ => ?_⟩
      rw [s2_gc (by decide) (by decide), sL_n (by decide)]
    have k2 : blr (s2 (mz_sL N 326 g) 327 328 g' h') x := by
      refine ⟨fun j hj => ?_, ?_⟩
      · rw [s2_gc (by decide) (by decide), sL_n (by decide)]; exact hx.1 j hj
      · rw [s2_gc (by decide) (by decide), sL_n (by decide)]; exact hx.2
    have k3 : ∀ j, j < 10 → (s2 (mz_sL N 326 g) 327 328 g' h').2 327 j = g' j := fun j _ => s2_ga j
    rw [cd_544_2, cq_544_2]
    simp only [l, if_false]
    have e10 : (10 : Int32) = nI 10 := rfl
    rw [← e10] at c1 c2
    rw [c2]
    generalize s2 (mz_sL N 326 g) 327 328 g' h' = K at k1 k2 k3
    by_cases z : 0 < sumN ar 10
    · obtain ⟨d1, d2, d3⟩ := ads_r (N := K) (x := x) (s := shr v ar 10) k2 (fun j hj => by rw [k3 j hj, c3 j hj, if_pos z])
      rw [decide_eq_true z, bA, if_pos z]
      exact ⟨⟨False.elim, fun _ => ⟨c1, fun _ => d1, fun y => absurd rfl y⟩⟩, _, if_pos rfl, d2, bfr_t k1 d3⟩
    · rw [decide_eq_false z, bA, if_neg z]
      refine ⟨⟨False.elim, fun _ => ⟨c1, (fun y => by cases y), fun _ => trivial⟩⟩, _, if_neg (fun y => by cases y), ⟨fun j hj => ?_, ?_⟩, bfr_t k1 ⟨?_, fun j hj => ?_⟩⟩
      · rw [cf_544_62, pL_s, sL_n (by decide)]; exact k2.1 j hj
      · rw [cf_544_62, pL_s, sL_e, upL_a, if_pos rfl, k2.2]
      · rw [cf_544_62]; exact fq_pL (fq_refl _ _ _) rfl
      · rw [cf_544_62, pL_s, sL_e, upL_a, if_neg hj]
theorem chm_c {u : Nat} (hu : u < 3) (hx : blc N x) (hw : ∀ i, i < 10 → N.1 (210 + u) i = nI (w i) ∧ w i < 2 ^ 31) (har : ∀ i, i < 10 → N.1 39 i = nI (ar i) ∧ ar i < 2 ^ 31) (hv : v < 2 ^ 62) (hbw : ∀ i, i < 10 → v * w i < 2 ^ 62) (hb : ∀ i, i < 10 → v * ar i < 2 ^ 62) : cp_274_0 (lN v) (nI u) N ∧ blc (cf_274_0 (lN v) (nI u) N) (bM v w ar x) ∧ bfc N (cf_274_0 (lN v) (nI u) N) := by
  rw [cp_274_0, cf_274_0, cp_274_3, cf_274_3]
  refine lp_maL (f := cq_274_3 (lN v) (nI u)) (P := cd_274_3 (lN v) (nI u)) 216 10 (fun t => lN (w t)) (fun M => blc M (bM v w ar x) ∧ bfc N M) (by omega) (fun t ht g hg => ?_) (fun g hg => ?_)
  · have l : nI t < 10 := (nI_ltI (b := 10) (by omega) (by omega)).mpr ht
    have e1 : (mz_gI (mz_sL N 216 g) (210 + u) (nI t)).toInt64 = lN (w t) := by rw [gI_a, nI_clamp (by omega), sL_1, (hw t ht).1, nI_L (hw t ht).2]
    rw [cd_274_3, cq_274_3]
    simp only [l, if_true, nI_clamp (show u < 2 ^ 31 by omega), e1, nI_1]
    exact ⟨⟨fun _ => ⟨ib_n hu (by omega), ib_n (by omega) (by omega), ib_n ht (by omega)⟩, fun z => absurd trivial z⟩, trivial⟩
  · have l : ¬ nI 10 < 10 := by decide
    obtain ⟨c1, g', h', c2, c3⟩ := shr_c (N := mz_sL N 216 g) (w := w) (v := v) (n := 10) (a1 := 216) (n1 := 10) (a3 := 217) (n3 := 10) (a4 := 218) (n4 := 10) (by decide) (by decide) (by decide) (by omega) (by omega) (by omega) ⟨by omega, by omega, by omega⟩ (fun i hi => by rw [sL_e, hg i, if_pos hi]) hv (sm_10 (fun i hi => (hw i hi).2)) hbw
    have k1 : bfc N (s2 (mz_sL N 216 g) 217 218 g' h') := by
      refine ⟨fq_trans (M := mz_sL N 216 g) (fq_sL (fq_refl _ _ _) rfl) (fq_s2 rfl rfl), fun j _ => ?_⟩
      rw [s2_gc (by decide) (by decide), sL_n (by decide)]
    have k2 : blc (s2 (mz_sL N 216 g) 217 218 g' h') x := by
      refine ⟨fun j hj => ?_, ?_⟩
      · rw [s2_gc (by decide) (by decide), sL_n (by decide)]; exact hx.1 j hj
      · rw [s2_gc (by decide) (by decide), sL_n (by decide)]; exact hx.2
    have k3 : ∀ j, j < 10 → (s2 (mz_sL N 216 g) 217 218 g' h').2 217 j = g' j := fun j _ => s2_ga j
    rw [cd_274_3, cq_274_3]
    simp only [l, if_false]
    have e10 : (10 : Int32) = nI 10 := rfl
    rw [← e10] at c1 c2
    rw [c2]
    generalize s2 (mz_sL N 216 g) 217 218 g' h' = K at k1 k2 k3
    by_cases z : 0 < sumN w 10
    · obtain ⟨d1, d2, d3⟩ := ads_c (N := K) (x := x) (s := shr v w 10) k2 (fun j hj => by rw [k3 j hj, c3 j hj, if_pos z])
      rw [decide_eq_true z, bM, if_pos z]
      exact ⟨⟨False.elim, fun _ => ⟨c1, fun _ => d1, fun y => absurd rfl y⟩⟩, _, if_pos rfl, d2, bfc_t k1 d3⟩
    · obtain ⟨d1, d2, d3⟩ := cha_c (N := K) (x := x) (ar := ar) (v := v) k2 (fun i hi => by rw [k1.1.1 39 rfl]; exact har i hi) hv hb
      rw [decide_eq_false z, bM, if_neg z]
      exact ⟨⟨False.elim, fun _ => ⟨c1, (fun y => by cases y), fun _ => d1⟩⟩, _, if_neg (fun y => by cases y), d2, bfc_t k1 d3⟩
theorem chm_r {c : Nat} (hc1 : c ≠ 327) (hc2 : c ≠ 328) (hx : blr N x) (hw : ∀ i, i < 10 → N.2 c i = lN (w i) ∧ w i < 2 ^ 31) (har : ∀ i, i < 10 → N.1 243 i = nI (ar i) ∧ ar i < 2 ^ 31) (hv : v < 2 ^ 62) (hbw : ∀ i, i < 10 → v * w i < 2 ^ 62) (hb : ∀ i, i < 10 → v * ar i < 2 ^ 62) : cp_542_0 c (lN v) N ∧ blr (cf_542_0 c (lN v) N) (bM v w ar x) ∧ bfr N (cf_542_0 c (lN v) N) := by
  obtain ⟨c1, g', h', c2, c3⟩ := shr_r (N := N) (w := w) (v := v) (n := 10) (a1 := c) (n1 := 11) (a3 := 327) hc1 hc2 (by decide) (by omega) (by omega) (by omega) (fun i hi => (hw i hi).1) hv (sm_10 (fun i hi => (hw i hi).2)) hbw
  have k1 : bfr N (s2 N 327 328 g' h') := by
    refine ⟨fq_s2 rfl rfl, fun j _ => ?_⟩
    rw [s2_gc (by decide) (by decide)]
  have k2 : blr (s2 N 327 328 g' h') x := by
    refine ⟨fun j hj => ?_, ?_⟩
    · rw [s2_gc (by decide) (by decide)]; exact hx.1 j hj
    · rw [s2_gc (by decide) (by decide)]; exact hx.2
  have k3 : ∀ j, j < 10 → (s2 N 327 328 g' h').2 327 j = g' j := fun j _ => s2_ga j
  have e10 : (10 : Int32) = nI 10 := rfl
  rw [← e10] at c1 c2
  rw [cp_542_0, cf_542_0, c2]
  generalize s2 N 327 328 g' h' = K at k1 k2 k3
  by_cases z : 0 < sumN w 10
  · obtain ⟨d1, d2, d3⟩ := ads_r (N := K) (x := x) (s := shr v w 10) k2 (fun j hj => by rw [k3 j hj, c3 j hj, if_pos z])
    rw [decide_eq_true z, bM, if_pos z, if_pos rfl]
    exact ⟨⟨c1, fun _ => d1, fun y => absurd rfl y⟩, d2, bfr_t k1 d3⟩
  · obtain ⟨d1, d2, d3⟩ := cha_r (N := K) (x := x) (ar := ar) (v := v) k2 (fun i hi => by rw [k1.1.1 243 rfl]; exact har i hi) hv hb
    rw [decide_eq_false z, bM, if_neg z, if_neg (fun y => by cases y)]
    exact ⟨⟨c1, (fun y => by cases y), fun _ => d1⟩, d2, bfr_t k1 d3⟩
end Bl
