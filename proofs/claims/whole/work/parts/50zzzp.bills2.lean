/-! PURE (50zzzp): the month's bills. -/
/-- what a month has: gas, care, prices, three rows of meters, areas -/
def blI : Type := (Nat) × (Nat) × (Nat) × (Nat) × (Nat) × (Nat → Nat) × (Nat → Nat) × (Nat → Nat) × (Nat → Nat)
abbrev blI.gas (x : blI) : Nat := x.1
abbrev blI.care (x : blI) : Nat := x.2.1
abbrev blI.p1 (x : blI) : Nat := x.2.2.1
abbrev blI.p2 (x : blI) : Nat := x.2.2.2.1
abbrev blI.p3 (x : blI) : Nat := x.2.2.2.2.1
abbrev blI.w0 (x : blI) : Nat → Nat := x.2.2.2.2.2.1
abbrev blI.w1 (x : blI) : Nat → Nat := x.2.2.2.2.2.2.1
abbrev blI.w2 (x : blI) : Nat → Nat := x.2.2.2.2.2.2.2.1
abbrev blI.ar (x : blI) : Nat → Nat := x.2.2.2.2.2.2.2.2
def blI.A (b : blI) : Nat := b.gas * b.p1 / 100
def blI.B (b : blI) : Nat := sumN b.w1 11 * b.p2 / 100
def blI.C (b : blI) : Nat := sumN b.w2 11 * b.p3 / 100
def blI.cost (b : blI) : Nat := b.A + b.B + b.C + b.care
def blI.ok (b : blI) : Prop := (b.gas ≤ 900000000) ∧ (b.care ≤ 1000000000) ∧ (b.p1 ≤ 1000) ∧ (b.p2 ≤ 1000) ∧ (b.p3 ≤ 1000) ∧ (∀ i, i < 11 → b.w0 i ≤ 600000000) ∧ (∀ i, i < 11 → b.w1 i ≤ 200000000) ∧ (∀ i, i < 11 → b.w2 i ≤ 200000000) ∧ (∀ i, i < 10 → b.ar i ≤ 240)
theorem blI.ok.gas {b : blI} (h : blI.ok b) : b.gas ≤ 900000000 := h.1
theorem blI.ok.care {b : blI} (h : blI.ok b) : b.care ≤ 1000000000 := h.2.1
theorem blI.ok.p1 {b : blI} (h : blI.ok b) : b.p1 ≤ 1000 := h.2.2.1
theorem blI.ok.p2 {b : blI} (h : blI.ok b) : b.p2 ≤ 1000 := h.2.2.2.1
theorem blI.ok.p3 {b : blI} (h : blI.ok b) : b.p3 ≤ 1000 := h.2.2.2.2.1
theorem blI.ok.w0 {b : blI} (h : blI.ok b) : ∀ i, i < 11 → b.w0 i ≤ 600000000 := h.2.2.2.2.2.1
theorem blI.ok.w1 {b : blI} (h : blI.ok b) : ∀ i, i < 11 → b.w1 i ≤ 200000000 := h.2.2.2.2.2.2.1
theorem blI.ok.w2 {b : blI} (h : blI.ok b) : ∀ i, i < 11 → b.w2 i ≤ 200000000 := h.2.2.2.2.2.2.2.1
theorem blI.ok.ar {b : blI} (h : blI.ok b) : ∀ i, i < 10 → b.ar i ≤ 240 := h.2.2.2.2.2.2.2.2
noncomputable def blX (b : blI) (l : Int64) : blS := bA b.care b.ar (bM b.C b.w2 b.ar (bM b.B b.w1 b.ar (bA (b.A - b.A * 7 / 10) b.ar (bM (b.A * 7 / 10) b.w0 b.ar (fun _ => 0, l)))))
section Bi
variable {N : mz_N} {b : blI}
theorem mul_b {x y a c : Nat} (h1 : x ≤ a) (h2 : y ≤ c) (h3 : a * c < 2 ^ 62) : x * y < 2 ^ 62 := Nat.lt_of_le_of_lt (Nat.mul_le_mul h1 h2) h3
theorem bA_b (h : b.ok) : b.A ≤ 9000000000 := by
  have := Nat.mul_le_mul h.gas h.p1
  unfold blI.A
  omega
theorem bB_b (h : b.ok) : b.B ≤ 22000000000 := by
  have h1 := sumN_bd (f := b.w1) (b := 200000000) (n := 11) h.w1
  have := Nat.mul_le_mul h1 h.p2
  unfold blI.B
  omega
theorem bC_b (h : b.ok) : b.C ≤ 22000000000 := by
  have h1 := sumN_bd (f := b.w2) (b := 200000000) (n := 11) h.w2
  have := Nat.mul_le_mul h1 h.p3
  unfold blI.C
  omega
theorem l100 {x : Nat} (h : x < 2 ^ 62) : lN x / 100 = lN (x / 100) := pk_lDiv (b := 100) (by omega) (by omega) (by omega)
theorem l710 {x : Nat} (h : x < 2 ^ 50) : lN x * 7 / 10 = lN (x * 7 / 10) := by
  rw [show (7 : Int64) = lN 7 from rfl, lN_mul]
  exact pk_lDiv (b := 10) (by omega) (by omega) (by omega)
theorem smt_c {u : Nat} {w : Nat → Nat} (hu : u < 3) (hw : ∀ i, i < 11 → N.1 (210 + u) i = nI (w i) ∧ w i < 2 ^ 31) : cp_273_0 (nI u) N ∧ cf_273_0 (nI u) N = lN (sumN w 11) := by
  have hx := mz_lps (f := cq_273_5 (nI u) N) (P := cd_273_5 (nI u) N) (t := lN (sumN w 11)) 11 (fun j => (lN (sumN w j), nI j)) (fun j hj => ?_) ?_ (k := 0) (Nat.zero_le _)
  · rw [cp_273_0, cf_273_0, cp_273_5, cf_273_5]; exact hx
  · have l : nI j < 11 := (nI_ltI (b := 11) (by omega) (by omega)).mpr hj
    have e1 : (mz_gI N (210 + u) (nI j)).toInt64 = lN (w j) := by rw [gI_a, nI_clamp (by omega), (hw j hj).1, nI_L (hw j hj).2]
    rw [cd_273_5, cq_273_5]
    simp only [l, if_true, nI_clamp (show u < 2 ^ 31 by omega), e1, lN_add]
    refine ⟨⟨fun _ => ⟨ib_n hu (by omega), ib_n hj (by omega)⟩, fun z => absurd trivial z⟩, ?_⟩
    rw [nI_1, sumN]
  · have l : ¬ nI 11 < 11 := by decide
    rw [cd_273_5, cq_273_5]
    simp only [l, if_false]
    exact ⟨⟨False.elim, fun _ => trivial⟩, trivial⟩
/-- what lies in the class for a month -/
def blC (N : mz_N) (b : blI) : Prop := (N.1 208 3 = nI b.gas) ∧ (N.1 208 4 = nI b.care) ∧ (N.1 215 1 = nI b.p1) ∧ (N.1 215 2 = nI b.p2) ∧ (N.1 215 3 = nI b.p3) ∧ (∀ i, i < 11 → N.1 210 i = nI (b.w0 i)) ∧ (∀ i, i < 11 → N.1 211 i = nI (b.w1 i)) ∧ (∀ i, i < 11 → N.1 212 i = nI (b.w2 i)) ∧ (∀ i, i < 10 → N.1 39 i = nI (b.ar i))
theorem blC.gas {N : mz_N} {b : blI} (h : blC N b) : N.1 208 3 = nI b.gas := h.1
theorem blC.care {N : mz_N} {b : blI} (h : blC N b) : N.1 208 4 = nI b.care := h.2.1
theorem blC.p1 {N : mz_N} {b : blI} (h : blC N b) : N.1 215 1 = nI b.p1 := h.2.2.1
theorem blC.p2 {N : mz_N} {b : blI} (h : blC N b) : N.1 215 2 = nI b.p2 := h.2.2.2.1
theorem blC.p3 {N : mz_N} {b : blI} (h : blC N b) : N.1 215 3 = nI b.p3 := h.2.2.2.2.1
theorem blC.w0 {N : mz_N} {b : blI} (h : blC N b) : ∀ i, i < 11 → N.1 210 i = nI (b.w0 i) := h.2.2.2.2.2.1
theorem blC.w1 {N : mz_N} {b : blI} (h : blC N b) : ∀ i, i < 11 → N.1 211 i = nI (b.w1 i) := h.2.2.2.2.2.2.1
theorem blC.w2 {N : mz_N} {b : blI} (h : blC N b) : ∀ i, i < 11 → N.1 212 i = nI (b.w2 i) := h.2.2.2.2.2.2.2.1
theorem blC.ar {N : mz_N} {b : blI} (h : blC N b) : ∀ i, i < 10 → N.1 39 i = nI (b.ar i) := h.2.2.2.2.2.2.2.2
theorem blC_f {M : mz_N} (h : blC N b) (hf : fq [] [208, 214, 216, 217, 218] N M) : blC M b := by
  obtain ⟨h1, h2, h3, h4, h5, h6, h7, h8, h9⟩ := h
  exact ⟨by rw [hf.1 208 rfl]; exact h1, by rw [hf.1 208 rfl]; exact h2, by rw [hf.1 215 rfl]; exact h3, by rw [hf.1 215 rfl]; exact h4, by rw [hf.1 215 rfl]; exact h5, by rw [hf.1 210 rfl]; exact h6, by rw [hf.1 211 rfl]; exact h7, by rw [hf.1 212 rfl]; exact h8, by rw [hf.1 39 rfl]; exact h9⟩
def blcP (N M : mz_N) (b : blI) : Prop := (fq [208, 210, 211, 212] [208, 213, 214, 216, 217, 218] N M) ∧ (∀ j, j < 10 → M.2 214 j = (blX b (N.2 208 2)).1 j) ∧ (M.2 208 2 = (blX b (N.2 208 2)).2) ∧ (M.2 208 1 = N.2 208 1 - lN b.cost) ∧ (∀ j, j ≠ 1 → j ≠ 2 → M.2 208 j = N.2 208 j) ∧ (∀ j, j < 10 → M.2 213 j = N.2 213 j - (blX b (N.2 208 2)).1 j) ∧ (∀ u, u < 3 → ∀ j, j < 11 → M.1 (210 + u) j = 0) ∧ (M.1 208 = upd (upd (N.1 208) 3 0) 4 0)
theorem blcP.f {N M : mz_N} {b : blI} (h : blcP N M b) : fq [208, 210, 211, 212] [208, 213, 214, 216, 217, 218] N M := h.1
theorem blcP.bl {N M : mz_N} {b : blI} (h : blcP N M b) : ∀ j, j < 10 → M.2 214 j = (blX b (N.2 208 2)).1 j := h.2.1
theorem blcP.lo {N M : mz_N} {b : blI} (h : blcP N M b) : M.2 208 2 = (blX b (N.2 208 2)).2 := h.2.2.1
theorem blcP.mo {N M : mz_N} {b : blI} (h : blcP N M b) : M.2 208 1 = N.2 208 1 - lN b.cost := h.2.2.2.1
theorem blcP.re {N M : mz_N} {b : blI} (h : blcP N M b) : ∀ j, j ≠ 1 → j ≠ 2 → M.2 208 j = N.2 208 j := h.2.2.2.2.1
theorem blcP.ac {N M : mz_N} {b : blI} (h : blcP N M b) : ∀ j, j < 10 → M.2 213 j = N.2 213 j - (blX b (N.2 208 2)).1 j := h.2.2.2.2.2.1
theorem blcP.me {N M : mz_N} {b : blI} (h : blcP N M b) : ∀ u, u < 3 → ∀ j, j < 11 → M.1 (210 + u) j = 0 := h.2.2.2.2.2.2.1
theorem blcP.fi {N M : mz_N} {b : blI} (h : blcP N M b) : M.1 208 = upd (upd (N.1 208) 3 0) 4 0 := h.2.2.2.2.2.2.2
theorem bil_c (hc : blC N b) (ho : b.ok) : cp_272_0 N ∧ blcP N (cf_272_0 N) b := by
  have qA := bA_b ho
  have qB := bB_b ho
  have qC := bC_b ho
  obtain ⟨a1, a2⟩ := fillL_ok (a := 214) (n := 10) (v := 0) (N := N) (by omega)
  rw [cp_272_0, cf_272_0, a2]
  generalize hK1 : mz_sL N 214 (fun j => if j < 10 then 0 else N.2 214 j) = K1
  have f1 : bfc N K1 := by rw [← hK1]; exact ⟨fq_sL (fq_refl _ _ _) rfl, fun j _ => by rw [sL_n (by decide)]⟩
  have x1 : blc K1 (fun _ => 0, N.2 208 2) := by
    rw [← hK1]
    exact ⟨fun j hj => by rw [sL_e, if_pos hj], by rw [sL_n (by decide)]⟩
  have c1 := blC_f hc f1.1
  clear hK1 a2
  have har : ∀ {M : mz_N}, blC M b → ∀ i, i < 10 → M.1 39 i = nI (b.ar i) ∧ b.ar i < 2 ^ 31 := fun h i hi => ⟨h.ar i hi, by have := ho.ar i hi; omega⟩
  have e3 : (K1.1 208 3).toInt64 = lN b.gas := by rw [c1.gas, nI_L (by have := ho.gas; omega)]
  have ep1 : (mz_gI K1 215 1).toInt64 = lN b.p1 := by rw [gI_a]; show (K1.1 215 1).toInt64 = _; rw [c1.p1, nI_L (by have := ho.p1; omega)]
  have ep2 : (mz_gI K1 215 2).toInt64 = lN b.p2 := by rw [gI_a]; show (K1.1 215 2).toInt64 = _; rw [c1.p2, nI_L (by have := ho.p2; omega)]
  have ep3 : (mz_gI K1 215 3).toInt64 = lN b.p3 := by rw [gI_a]; show (K1.1 215 3).toInt64 = _; rw [c1.p3, nI_L (by have := ho.p3; omega)]
  obtain ⟨s1, s1'⟩ := smt_c (N := K1) (u := 1) (w := b.w1) (by omega) (fun i hi => ⟨c1.w1 i hi, by have := ho.w1 i hi; omega⟩)
  obtain ⟨s2, s2'⟩ := smt_c (N := K1) (u := 2) (w := b.w2) (by omega) (fun i hi => ⟨c1.w2 i hi, by have := ho.w2 i hi; omega⟩)
  have t1 : cf_273_0 1 K1 = lN (sumN b.w1 11) := s1'
  have t2 : cf_273_0 2 K1 = lN (sumN b.w2 11) := s2'
  have m1 : b.gas * b.p1 < 2 ^ 62 := mul_b ho.gas ho.p1 (by decide)
  have m2 : sumN b.w1 11 * b.p2 < 2 ^ 62 := mul_b (sumN_bd (f := b.w1) (b := 200000000) (n := 11) ho.w1) ho.p2 (by decide)
  have m3 : sumN b.w2 11 * b.p3 < 2 ^ 62 := mul_b (sumN_bd (f := b.w2) (b := 200000000) (n := 11) ho.w2) ho.p3 (by decide)
  have eA : lN b.gas * lN b.p1 / 100 = lN b.A := by rw [lN_mul, l100 m1]; rfl
  have eB : lN (sumN b.w1 11) * lN b.p2 / 100 = lN b.B := by rw [lN_mul, l100 m2]; rfl
  have eC : lN (sumN b.w2 11) * lN b.p3 / 100 = lN b.C := by rw [lN_mul, l100 m3]; rfl
  rw [t1, t2, e3, ep1, ep2, ep3, eA, eB, eC, l710 (by omega), lN_sub (show b.A * 7 / 10 ≤ b.A by omega)]
  obtain ⟨d1, x2, f2⟩ := chm_c (N := K1) (u := 0) (v := b.A * 7 / 10) (w := b.w0) (ar := b.ar) (by omega) x1 (fun i hi => ⟨c1.w0 i (by omega), by have := ho.w0 i (by omega); omega⟩) (har c1) (by omega) (fun i hi => mul_b (show b.A * 7 / 10 ≤ 6300000000 by omega) (ho.w0 i (by omega)) (by decide)) (fun i hi => mul_b (show b.A * 7 / 10 ≤ 6300000000 by omega) (ho.ar i hi) (by decide))
  have d1' : cp_274_0 (lN (b.A * 7 / 10)) 0 K1 := d1
  have f2' : bfc K1 (cf_274_0 (lN (b.A * 7 / 10)) 0 K1) := f2
  have x2' : blc (cf_274_0 (lN (b.A * 7 / 10)) 0 K1) _ := x2
  clear d1 f2 x2
  generalize cf_274_0 (lN (b.A * 7 / 10)) 0 K1 = K2 at f2' x2' ⊢
  have c2 := blC_f c1 f2'.1
  obtain ⟨d2, x3, f3⟩ := cha_c (N := K2) (v := b.A - b.A * 7 / 10) (ar := b.ar) x2' (har c2) (by omega) (fun i hi => mul_b (show b.A - b.A * 7 / 10 ≤ 9000000000 by omega) (ho.ar i hi) (by decide))
  generalize cf_276_0 (lN (b.A - b.A * 7 / 10)) K2 = K3 at f3 x3 ⊢
  have c3 := blC_f c2 f3.1
  rw [cp_272_92, cf_272_92]
  obtain ⟨d3, x4, f4⟩ := chm_c (N := K3) (u := 1) (v := b.B) (w := b.w1) (ar := b.ar) (by omega) x3 (fun i hi => ⟨c3.w1 i (by omega), by have := ho.w1 i (by omega); omega⟩) (har c3) (by omega) (fun i hi => mul_b qB (ho.w1 i (by omega)) (by decide)) (fun i hi => mul_b qB (ho.ar i hi) (by decide))
  have d3' : cp_274_0 (lN b.B) 1 K3 := d3
  have f4' : bfc K3 (cf_274_0 (lN b.B) 1 K3) := f4
  have x4' : blc (cf_274_0 (lN b.B) 1 K3) _ := x4
  clear d3 f4 x4
  generalize cf_274_0 (lN b.B) 1 K3 = K4 at f4' x4' ⊢
  have c4 := blC_f c3 f4'.1
  obtain ⟨d4, x5, f5⟩ := chm_c (N := K4) (u := 2) (v := b.C) (w := b.w2) (ar := b.ar) (by omega) x4' (fun i hi => ⟨c4.w2 i (by omega), by have := ho.w2 i (by omega); omega⟩) (har c4) (by omega) (fun i hi => mul_b qC (ho.w2 i (by omega)) (by decide)) (fun i hi => mul_b qC (ho.ar i hi) (by decide))
  have d4' : cp_274_0 (lN b.C) 2 K4 := d4
  have f5' : bfc K4 (cf_274_0 (lN b.C) 2 K4) := f5
  have x5' : blc (cf_274_0 (lN b.C) 2 K4) _ := x5
  clear d4 f5 x5
  generalize cf_274_0 (lN b.C) 2 K4 = K5 at f5' x5' ⊢
  have c5 := blC_f c4 f5'.1
  have e4 : (K5.1 208 4).toInt64 = lN b.care := by rw [c5.care, nI_L (by have := ho.care; omega)]
  rw [e4]
  obtain ⟨d5, x6, f6⟩ := cha_c (N := K5) (v := b.care) (ar := b.ar) x5' (har c5) (by have := ho.care; omega) (fun i hi => mul_b ho.care (ho.ar i hi) (by decide))
  generalize cf_276_0 (lN b.care) K5 = K6 at f6 x6 ⊢
  have c6 := blC_f c5 f6.1
  have ff : bfc N K6 := bfc_t f1 (bfc_t f2' (bfc_t f3 (bfc_t f4' (bfc_t f5' f6))))
  have e5 : (K6.1 208 4).toInt64 = lN b.care := by rw [c6.care, nI_L (by have := ho.care; omega)]
  rw [cp_272_118, cf_272_118, e5, lN_add, lN_add, lN_add, ff.2 1 (by decide)]
  generalize hK7 : mz_pL K6 208 1 (N.2 208 1 - lN (b.A + b.B + b.C + b.care)) = K7
  have g7 : fq [] [208, 213, 214, 216, 217, 218] N K7 := by rw [← hK7]; exact fq_pL (fq_sub ff.1 rfl rfl) rfl
  have m7 : K7.2 208 1 = N.2 208 1 - lN b.cost := by rw [← hK7, pL_s, sL_e, upL_a, if_pos rfl]; rfl
  have n7 : ∀ j, j ≠ 1 → j ≠ 2 → K7.2 208 j = N.2 208 j := fun j h1 h2 => by rw [← hK7, pL_s, sL_e, upL_a, if_neg h1]; exact ff.2 j h2
  have o7 : K7.2 208 2 = (blX b (N.2 208 2)).2 := by rw [← hK7, pL_s, sL_e, upL_a, if_neg (by decide)]; exact x6.2
  have x7 : ∀ j, j < 10 → K7.2 214 j = (blX b (N.2 208 2)).1 j := fun j hj => by rw [← hK7, pL_s, sL_n (by decide)]; exact x6.1 j hj
  have y7 : K7.2 213 = N.2 213 := by rw [← hK7, pL_s, sL_n (by decide)]; exact ff.1.2 213 rfl
  clear hK7
  have L : cp_272_140 K7 ∧ blcP N (cf_272_140 K7) b := by
    rw [cp_272_140, cf_272_140, cp_272_143, cf_272_143]
    refine lp_maL (f := cq_272_143) (P := cd_272_143) 213 10 (fun t => N.2 213 t - (blX b (N.2 208 2)).1 t) (fun M => blcP N M b) (by omega) (fun t ht g hg => ?_) (fun g hg => ?_)
    · have l : nI t < 10 := (nI_ltI (b := 10) (by omega) (by omega)).mpr ht
      have e1 : mz_gL (mz_sL K7 213 g) 213 (nI t) = N.2 213 t := by rw [gL_a, nI_clamp (by omega), sL_e, hg, y7]
      have e2 : mz_gL (mz_sL K7 213 g) 214 (nI t) = (blX b (N.2 208 2)).1 t := by rw [gL_a, nI_clamp (by omega), sL_n (by decide)]; exact x7 t ht
      rw [cd_272_143, cq_272_143]
      simp only [l, if_true, e1, e2, nI_1]
      exact ⟨⟨fun _ => ⟨ib_n ht (by omega), ib_n ht (by omega), ib_n ht (by omega)⟩, fun z => absurd trivial z⟩, trivial⟩
    · have l : ¬ nI 10 < 10 := by decide
      obtain ⟨z1, z2, z3, z4⟩ := fs54 (N := mz_sL K7 213 g)
      rw [cd_272_143, cq_272_143]
      simp only [l, if_false]
      refine ⟨⟨False.elim, fun _ => z1⟩, _, rfl, ?_⟩
      generalize cf_54_0 (mz_sL K7 213 g) = K9 at z2 z3 z4 ⊢
      have q2 : ∀ c, K9.2 c = (mz_sL K7 213 g).2 c := fun c => z2.2 c rfl
      refine ⟨fq_trans (fq_sub g7 rfl rfl) (fq_trans (M := mz_sL K7 213 g) (fq_sL (fq_refl _ _ _) rfl) (fq_sub z2 rfl rfl)), fun j hj => ?_, ?_, ?_, fun j h1 h2 => ?_, fun j hj => ?_, z3, ?_⟩
      · rw [q2, sL_n (by decide)]; exact x7 j hj
      · rw [q2, sL_n (by decide)]; exact o7
      · rw [q2, sL_n (by decide)]; exact m7
      · rw [q2, sL_n (by decide)]; exact n7 j h1 h2
      · rw [q2, sL_e, hg j, if_pos hj]
      · rw [z4, sL_1, g7.1 208 rfl]
  exact ⟨⟨a1, s1, s2, d1', d2, d3', d4', d5, L.1⟩, L.2⟩
/-- what lies in the reference for a month -/
def blR (N : mz_N) (b : blI) : Prop := (N.2 232 124 = lN b.gas) ∧ (N.2 232 125 = lN b.care) ∧ (N.1 249 0 = nI b.p1) ∧ (N.1 249 1 = nI b.p2) ∧ (N.1 249 2 = nI b.p3) ∧ (∀ i, i < 11 → N.2 321 i = lN (b.w0 i)) ∧ (∀ i, i < 11 → N.2 322 i = lN (b.w1 i)) ∧ (∀ i, i < 11 → N.2 323 i = lN (b.w2 i)) ∧ (∀ i, i < 10 → N.1 243 i = nI (b.ar i))
theorem blR.gas {N : mz_N} {b : blI} (h : blR N b) : N.2 232 124 = lN b.gas := h.1
theorem blR.care {N : mz_N} {b : blI} (h : blR N b) : N.2 232 125 = lN b.care := h.2.1
theorem blR.p1 {N : mz_N} {b : blI} (h : blR N b) : N.1 249 0 = nI b.p1 := h.2.2.1
theorem blR.p2 {N : mz_N} {b : blI} (h : blR N b) : N.1 249 1 = nI b.p2 := h.2.2.2.1
theorem blR.p3 {N : mz_N} {b : blI} (h : blR N b) : N.1 249 2 = nI b.p3 := h.2.2.2.2.1
theorem blR.w0 {N : mz_N} {b : blI} (h : blR N b) : ∀ i, i < 11 → N.2 321 i = lN (b.w0 i) := h.2.2.2.2.2.1
theorem blR.w1 {N : mz_N} {b : blI} (h : blR N b) : ∀ i, i < 11 → N.2 322 i = lN (b.w1 i) := h.2.2.2.2.2.2.1
theorem blR.w2 {N : mz_N} {b : blI} (h : blR N b) : ∀ i, i < 11 → N.2 323 i = lN (b.w2 i) := h.2.2.2.2.2.2.2.1
theorem blR.ar {N : mz_N} {b : blI} (h : blR N b) : ∀ i, i < 10 → N.1 243 i = nI (b.ar i) := h.2.2.2.2.2.2.2.2
theorem blR_f {M : mz_N} (h : blR N b) (hf : bfr N M) : blR M b := by
  obtain ⟨h1, h2, h3, h4, h5, h6, h7, h8, h9⟩ := h
  exact ⟨by rw [hf.2 124 (by decide)]; exact h1, by rw [hf.2 125 (by decide)]; exact h2, by rw [hf.1.1 249 rfl]; exact h3, by rw [hf.1.1 249 rfl]; exact h4, by rw [hf.1.1 249 rfl]; exact h5, by rw [hf.1.2 321 rfl]; exact h6, by rw [hf.1.2 322 rfl]; exact h7, by rw [hf.1.2 323 rfl]; exact h8, by rw [hf.1.1 243 rfl]; exact h9⟩
def blrP (N M : mz_N) (b : blI) : Prop := (fq [] [232, 321, 322, 323, 324, 325, 326, 327, 328] N M) ∧ (∀ j, j < 10 → M.2 325 j = (blX b (N.2 232 123)).1 j) ∧ (M.2 232 123 = (blX b (N.2 232 123)).2) ∧ (M.2 232 122 = N.2 232 122 - lN b.cost) ∧ (∀ j, j ≠ 122 → j ≠ 123 → j ≠ 124 → j ≠ 125 → M.2 232 j = N.2 232 j) ∧ (∀ j, j < 10 → M.2 324 j = N.2 324 j - (blX b (N.2 232 123)).1 j) ∧ (∀ u, u < 3 → ∀ j, j < 11 → M.2 (321 + u) j = 0) ∧ (M.2 232 124 = 0) ∧ (M.2 232 125 = 0)
theorem blrP.f {N M : mz_N} {b : blI} (h : blrP N M b) : fq [] [232, 321, 322, 323, 324, 325, 326, 327, 328] N M := h.1
theorem blrP.bl {N M : mz_N} {b : blI} (h : blrP N M b) : ∀ j, j < 10 → M.2 325 j = (blX b (N.2 232 123)).1 j := h.2.1
theorem blrP.lo {N M : mz_N} {b : blI} (h : blrP N M b) : M.2 232 123 = (blX b (N.2 232 123)).2 := h.2.2.1
theorem blrP.mo {N M : mz_N} {b : blI} (h : blrP N M b) : M.2 232 122 = N.2 232 122 - lN b.cost := h.2.2.2.1
theorem blrP.re {N M : mz_N} {b : blI} (h : blrP N M b) : ∀ j, j ≠ 122 → j ≠ 123 → j ≠ 124 → j ≠ 125 → M.2 232 j = N.2 232 j := h.2.2.2.2.1
theorem blrP.ac {N M : mz_N} {b : blI} (h : blrP N M b) : ∀ j, j < 10 → M.2 324 j = N.2 324 j - (blX b (N.2 232 123)).1 j := h.2.2.2.2.2.1
theorem blrP.me {N M : mz_N} {b : blI} (h : blrP N M b) : ∀ u, u < 3 → ∀ j, j < 11 → M.2 (321 + u) j = 0 := h.2.2.2.2.2.2.1
theorem blrP.g0 {N M : mz_N} {b : blI} (h : blrP N M b) : M.2 232 124 = 0 := h.2.2.2.2.2.2.2.1
theorem blrP.c0 {N M : mz_N} {b : blI} (h : blrP N M b) : M.2 232 125 = 0 := h.2.2.2.2.2.2.2.2
theorem bie_r {x : blS} {K : mz_N} (h1 : fq [] [232, 325, 326, 327, 328] N K) (h2 : blr K x) (h3 : K.2 232 122 = N.2 232 122 - lN b.cost) (h4 : ∀ j, j ≠ 122 → j ≠ 123 → K.2 232 j = N.2 232 j) (hx : x = blX b (N.2 232 123)) : cp_541_190 K ∧ blrP N (cf_541_190 K) b := by
  subst hx
  rw [cp_541_190, cf_541_190, cp_541_193, cf_541_193]
  refine lp_gen (f := cq_541_193) (P := cd_541_193) (N := K) 11 [] [321, 322, 323] (fun j M => M.2 321 j = 0 ∧ M.2 322 j = 0 ∧ M.2 323 j = 0) (fun M => blrP N M b) (fun t M ht => ?_) (fun M hM hz => ?_)
  · have l : nI t < 11 := (nI_ltI (b := 11) (by omega) (by omega)).mpr ht
    rw [cd_541_193, cq_541_193]
    simp only [l, if_true, nI_1]
    refine ⟨⟨fun _ => ⟨ib_n ht (by omega), ib_n ht (by omega), ib_n ht (by omega)⟩, fun z => absurd trivial z⟩, _, rfl, fq_wL (fq_wL (fq_wL (fq_refl _ _ _) rfl) rfl) rfl, ?_, fun u hu hq => ?_⟩
    · simp [wL_s, sL_2, upL_a, nI_clamp (show t < 2 ^ 31 by omega)]
    · obtain ⟨k1, k2, k3⟩ := hq
      have n1 : ¬ u = t := by omega
      simp [wL_s, sL_2, upL_a, nI_clamp (show t < 2 ^ 31 by omega), n1, k1, k2, k3]
  · have l : ¬ nI 11 < 11 := by decide
    rw [cd_541_193, cq_541_193]
    simp only [l, if_false]
    generalize hL : mz_pL (mz_pL M 232 124 0) 232 125 0 = L
    have fL : fq [] [232, 321, 322, 323, 325, 326, 327, 328] N L := by rw [← hL]; exact fq_pL (fq_pL (fq_trans (fq_sub h1 rfl rfl) (fq_sub hM rfl rfl)) rfl) rfl
    have kM : M.2 232 = K.2 232 := hM.2 232 rfl
    have eL : ∀ j, L.2 232 j = if j = 125 then 0 else if j = 124 then 0 else K.2 232 j := fun j => by
      rw [← hL, pL_s, sL_e, upL_a, pL_s, sL_e, upL_a, kM]
    have oL : ∀ c, c ≠ 232 → L.2 c = M.2 c := fun c hc => by rw [← hL, pL_s, sL_n hc, pL_s, sL_n hc]
    have x7 : ∀ j, j < 10 → L.2 325 j = (blX b (N.2 232 123)).1 j := fun j hj => by rw [oL 325 (by decide), hM.2 325 rfl]; exact h2.1 j hj
    have y7 : L.2 324 = N.2 324 := fL.2 324 rfl
    clear hL
    have Z : cp_541_243 0 L ∧ blrP N (cf_541_243 0 L) b := by
      rw [cp_541_243, cf_541_243]
      refine lp_maL (f := cq_541_243) (P := cd_541_243) 324 10 (fun t => N.2 324 t - (blX b (N.2 232 123)).1 t) (fun M => blrP N M b) (by omega) (fun t ht g hg => ?_) (fun g hg => ?_)
      · have l : nI t < 10 := (nI_ltI (b := 10) (by omega) (by omega)).mpr ht
        have e1 : mz_gL (mz_sL L 324 g) 324 (nI t) = N.2 324 t := by rw [gL_a, nI_clamp (by omega), sL_e, hg, y7]
        have e2 : mz_gL (mz_sL L 324 g) 325 (nI t) = (blX b (N.2 232 123)).1 t := by rw [gL_a, nI_clamp (by omega), sL_n (by decide)]; exact x7 t ht
        rw [cd_541_243, cq_541_243]
        simp only [l, if_true, e1, e2, nI_1]
        exact ⟨⟨fun _ => ⟨ib_n ht (by omega), ib_n ht (by omega), ib_n ht (by omega)⟩, fun z => absurd trivial z⟩, trivial⟩
      · have l : ¬ nI 10 < 10 := by decide
        rw [cd_541_243, cq_541_243]
        simp only [l, if_false]
        refine ⟨⟨False.elim, fun _ => trivial⟩, _, rfl, ?_⟩
        refine ⟨fq_sL (fq_sub fL rfl rfl) rfl, fun j hj => ?_, ?_, ?_, fun j j1 j2 j3 j4 => ?_, fun j hj => ?_, fun u hu j hj => ?_, ?_, ?_⟩
        · rw [sL_n (by decide)]; exact x7 j hj
        · rw [sL_n (by decide), eL, if_neg (by decide), if_neg (by decide)]; exact h2.2
        · rw [sL_n (by decide), eL, if_neg (by decide), if_neg (by decide)]; exact h3
        · rw [sL_n (by decide), eL, if_neg j4, if_neg j3]; exact h4 j j1 j2
        · rw [sL_e, hg j, if_pos hj]
        · obtain ⟨z1, z2, z3⟩ := hz j hj
          rw [sL_n (by omega), oL _ (by omega)]
          rcases (show u = 0 ∨ u = 1 ∨ u = 2 by omega) with rfl | rfl | rfl
          · exact z1
          · exact z2
          · exact z3
        · rw [sL_n (by decide), eL, if_neg (by decide), if_pos rfl]
        · rw [sL_n (by decide), eL, if_pos rfl]
    exact ⟨⟨False.elim, fun _ => Z.1⟩, _, rfl, Z.2⟩
theorem bil_r (hc : blR N b) (ho : b.ok) : cp_541_0 N ∧ blrP N (cf_541_0 N) b := by
  have qA := bA_b ho
  have qB := bB_b ho
  have qC := bC_b ho
  rw [cp_541_0, cf_541_0, cp_541_2, cf_541_2]
  refine lp_maL (f := cq_541_2) (P := cd_541_2) 325 10 (fun t => 0) (fun M => blrP N M b) (by omega) (fun t ht g hg => ?_) (fun g hg => ?_)
  · have l : nI t < 10 := (nI_ltI (b := 10) (by omega) (by omega)).mpr ht
    rw [cd_541_2, cq_541_2]
    simp only [l, if_true, nI_1]
    exact ⟨⟨fun _ => ib_n ht (by omega), fun z => absurd trivial z⟩, trivial⟩
  · have l : ¬ nI 10 < 10 := by decide
    rw [cd_541_2, cq_541_2]
    simp only [l, if_false]
    have f1 : bfr N (mz_sL N 325 g) := ⟨fq_sL (fq_refl _ _ _) rfl, fun j _ => by rw [sL_n (by decide)]⟩
    have x1 : blr (mz_sL N 325 g) (fun _ => 0, N.2 232 123) := ⟨fun j hj => by rw [sL_e, hg j, if_pos hj], by rw [sL_n (by decide)]⟩
    generalize mz_sL N 325 g = K1 at f1 x1 ⊢
    have c1 := blR_f hc f1
    have har : ∀ {M : mz_N}, blR M b → ∀ i, i < 10 → M.1 243 i = nI (b.ar i) ∧ b.ar i < 2 ^ 31 := fun h i hi => ⟨h.ar i hi, by have := ho.ar i hi; omega⟩
    have hw0 : ∀ {M : mz_N}, blR M b → ∀ i, i < 10 → M.2 321 i = lN (b.w0 i) ∧ b.w0 i < 2 ^ 31 := fun h i hi => ⟨h.w0 i (by omega), by have := ho.w0 i (by omega); omega⟩
    have hw1 : ∀ {M : mz_N}, blR M b → ∀ i, i < 10 → M.2 322 i = lN (b.w1 i) ∧ b.w1 i < 2 ^ 31 := fun h i hi => ⟨h.w1 i (by omega), by have := ho.w1 i (by omega); omega⟩
    have hw2 : ∀ {M : mz_N}, blR M b → ∀ i, i < 10 → M.2 323 i = lN (b.w2 i) ∧ b.w2 i < 2 ^ 31 := fun h i hi => ⟨h.w2 i (by omega), by have := ho.w2 i (by omega); omega⟩
    have Z : cp_541_28 0 0 0 K1 ∧ blrP N (cf_541_28 0 0 0 K1) b := by
      rw [cp_541_28, cf_541_28]
      refine mz_lpn (f := cq_541_28 K1) (P := cd_541_28 K1) (Q := fun M => blrP N M b) 11 (fun t s => s = (lN (sumN b.w1 t), lN (sumN b.w2 t), nI t)) ?_ ?_ (Nat.zero_le _) rfl
      · rintro t s ht rfl
        have l : nI t < 11 := (nI_ltI (b := 11) (by omega) (by omega)).mpr ht
        have e1 : mz_gL K1 322 (nI t) = lN (b.w1 t) := by rw [gL_a, nI_clamp (by omega)]; exact c1.w1 t ht
        have e2 : mz_gL K1 323 (nI t) = lN (b.w2 t) := by rw [gL_a, nI_clamp (by omega)]; exact c1.w2 t ht
        rw [cd_541_28, cq_541_28]
        simp only [l, if_true, e1, e2, nI_1, lN_add]
        refine ⟨⟨fun _ => ⟨ib_n ht (by omega), ib_n ht (by omega)⟩, fun z => absurd trivial z⟩, Or.inl ⟨_, rfl, ?_⟩⟩
        rw [sumN, sumN]
      · rintro s rfl
        have l : ¬ nI 11 < 11 := by decide
        rw [cd_541_28, cq_541_28]
        simp only [l, if_false]
        have ep1 : (mz_gI K1 249 0).toInt64 = lN b.p1 := by rw [gI_a]; show (K1.1 249 0).toInt64 = _; rw [c1.p1, nI_L (by have := ho.p1; omega)]
        have ep2 : (mz_gI K1 249 1).toInt64 = lN b.p2 := by rw [gI_a]; show (K1.1 249 1).toInt64 = _; rw [c1.p2, nI_L (by have := ho.p2; omega)]
        have ep3 : (mz_gI K1 249 2).toInt64 = lN b.p3 := by rw [gI_a]; show (K1.1 249 2).toInt64 = _; rw [c1.p3, nI_L (by have := ho.p3; omega)]
        have m1 : b.gas * b.p1 < 2 ^ 62 := mul_b ho.gas ho.p1 (by decide)
        have m2 : sumN b.w1 11 * b.p2 < 2 ^ 62 := mul_b (sumN_bd (f := b.w1) (b := 200000000) (n := 11) ho.w1) ho.p2 (by decide)
        have m3 : sumN b.w2 11 * b.p3 < 2 ^ 62 := mul_b (sumN_bd (f := b.w2) (b := 200000000) (n := 11) ho.w2) ho.p3 (by decide)
        have eA : lN b.gas * lN b.p1 / 100 = lN b.A := by rw [lN_mul, l100 m1]; rfl
        have eB : lN (sumN b.w1 11) * lN b.p2 / 100 = lN b.B := by rw [lN_mul, l100 m2]; rfl
        have eC : lN (sumN b.w2 11) * lN b.p3 / 100 = lN b.C := by rw [lN_mul, l100 m3]; rfl
        rw [c1.gas, ep1, ep2, ep3, eA, eB, eC, l710 (by omega), lN_sub (show b.A * 7 / 10 ≤ b.A by omega)]
        obtain ⟨d1, x2, f2⟩ := chm_r (N := K1) (c := 321) (v := b.A * 7 / 10) (w := b.w0) (ar := b.ar) (by decide) (by decide) x1 (hw0 c1) (har c1) (by omega) (fun i hi => mul_b (show b.A * 7 / 10 ≤ 6300000000 by omega) (ho.w0 i (by omega)) (by decide)) (fun i hi => mul_b (show b.A * 7 / 10 ≤ 6300000000 by omega) (ho.ar i hi) (by decide))
        generalize cf_542_0 321 (lN (b.A * 7 / 10)) K1 = K2 at f2 x2 ⊢
        have c2 := blR_f c1 f2
        obtain ⟨d2, x3, f3⟩ := cha_r (N := K2) (v := b.A - b.A * 7 / 10) (ar := b.ar) x2 (har c2) (by omega) (fun i hi => mul_b (show b.A - b.A * 7 / 10 ≤ 9000000000 by omega) (ho.ar i hi) (by decide))
        generalize cf_544_0 (lN (b.A - b.A * 7 / 10)) K2 = K3 at f3 x3 ⊢
        have c3 := blR_f c2 f3
        obtain ⟨d3, x4, f4⟩ := chm_r (N := K3) (c := 322) (v := b.B) (w := b.w1) (ar := b.ar) (by decide) (by decide) x3 (hw1 c3) (har c3) (by omega) (fun i hi => mul_b qB (ho.w1 i (by omega)) (by decide)) (fun i hi => mul_b qB (ho.ar i hi) (by decide))
        generalize cf_542_0 322 (lN b.B) K3 = K4 at f4 x4 ⊢
        have c4 := blR_f c3 f4
        rw [cp_541_150, cf_541_150]
        obtain ⟨d4, x5, f5⟩ := chm_r (N := K4) (c := 323) (v := b.C) (w := b.w2) (ar := b.ar) (by decide) (by decide) x4 (hw2 c4) (har c4) (by omega) (fun i hi => mul_b qC (ho.w2 i (by omega)) (by decide)) (fun i hi => mul_b qC (ho.ar i hi) (by decide))
        generalize cf_542_0 323 (lN b.C) K4 = K5 at f5 x5 ⊢
        have c5 := blR_f c4 f5
        rw [c5.care]
        obtain ⟨d5, x6, f6⟩ := cha_r (N := K5) (v := b.care) (ar := b.ar) x5 (har c5) (by have := ho.care; omega) (fun i hi => mul_b ho.care (ho.ar i hi) (by decide))
        generalize cf_544_0 (lN b.care) K5 = K6 at f6 x6 ⊢
        have c6 := blR_f c5 f6
        have ff : bfr N K6 := bfr_t f1 (bfr_t f2 (bfr_t f3 (bfr_t f4 (bfr_t f5 f6))))
        rw [c6.care, lN_add, lN_add, lN_add, ff.2 122 (by decide)]
        have L := bie_r (N := N) (b := b) (K := mz_pL K6 232 122 (N.2 232 122 - lN (b.A + b.B + b.C + b.care))) (x := blX b (N.2 232 123)) (fq_pL ff.1 rfl) ⟨fun j hj => by rw [pL_s, sL_n (by decide)]; exact x6.1 j hj, by rw [pL_s, sL_e, upL_a, if_neg (by decide)]; exact x6.2⟩ (by rw [pL_s, sL_e, upL_a, if_pos rfl]; rfl) (fun j h1 h2 => by rw [pL_s, sL_e, upL_a, if_neg h1]; exact ff.2 j h2) rfl
        exact ⟨⟨False.elim, fun _ => ⟨d1, d2, d3, d4, d5, L.1⟩⟩, _, rfl, L.2⟩
    exact ⟨⟨False.elim, fun _ => Z.1⟩, _, rfl, Z.2⟩
end Bi
