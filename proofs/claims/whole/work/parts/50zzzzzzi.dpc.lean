/-! PURE (50zzzzzzi): the class's ways. -/
def ad (x y : Nat) : Nat := (x - y) + (y - x)
def wy (a c : Nat) : Nat := ad (a % 8) (c % 8) + ad (a % 48 / 8) (c % 48 / 8) + 10 * ad (a / 48) (c / 48)
theorem wy_b {a c : Nat} (ha : a < 240) (hc : c < 240) : wy a c ≤ 60 := by unfold wy ad; omega
theorem or_b : ∀ m, m < 64 → ∀ j, j < 6 → nI m ||| mz_ishl 1 (nI j) = nI (m ||| 1 <<< j) := by decide +kernel
theorem sh_b : ∀ m, m < 64 → ∀ j, j < 6 → (mz_ishr (nI m) (nI j) &&& 1 = 0) = (m.testBit j = false) := by
  have h : ∀ m, m < 64 → ∀ j, j < 6 → decide (mz_ishr (nI m) (nI j) &&& 1 = 0) = decide (m.testBit j = false) := by decide +kernel
  intro m hm j hj
  have := h m hm j hj
  refine propext ⟨fun z => ?_, fun z => ?_⟩
  · rw [decide_eq_true z] at this; exact of_decide_eq_true this.symm
  · rw [decide_eq_true z] at this; exact of_decide_eq_true this
/-- where the chosen tickets lie -/
def spX (N : mz_N) (n : Nat) (pl sp : Nat → Nat) : Prop := (∀ i, i < n → N.1 142 i = nI (pl i) ∧ pl i < 16 ∧ sp i < 240 ∧ N.1 118 (pl i) = nI (sp i / 48) ∧ N.1 119 (pl i) = nI (sp i % 48))
theorem spX.a {N : mz_N} {n : Nat} {pl sp : Nat → Nat} (h : spX N n pl sp) : ∀ i, i < n → N.1 142 i = nI (pl i) ∧ pl i < 16 ∧ sp i < 240 ∧ N.1 118 (pl i) = nI (sp i / 48) ∧ N.1 119 (pl i) = nI (sp i % 48) := h
/-- the ways on from the mask k -/
def bst (N : mz_N) (n : Nat) (W : Nat → Nat → Nat) (k : Nat) : Prop := ∀ i, i < n → N.1 (144 + k) i = nI (W k i) ∧ W k i ≤ 500
section Dc
variable {N M : mz_N} {n m a j : Nat} {pl sp : Nat → Nat} {W : Nat → Nat → Nat}
theorem iabs_n {x y : Nat} (hx : x < 2 ^ 30) (hy : y < 2 ^ 30) : mz_iabs (nI x - nI y) = nI (ad x y) := by
  unfold mz_iabs ad
  by_cases w : y ≤ x
  · have e : nI x - nI y = nI (x - y) := pk_sub w
    rw [e]
    have p0 : (0 : Int32) ≤ nI (x - y) := by
      rw [Int32.le_iff_toInt_le, nI_toInt (by omega)]
      have t0 : (0 : Int32).toInt = 0 := rfl
      rw [t0]; omega
    rw [if_pos p0, show y - x = 0 by omega, Nat.add_zero]
  · have e : nI y - nI x = nI (y - x) := pk_sub (by omega)
    have e2 : nI x - nI y = -(nI (y - x)) := by rw [← e, Int32.neg_sub]
    have hneg : ¬ (0 : Int32) ≤ nI x - nI y := by
      rw [e2, Int32.le_iff_toInt_le, Int32.toInt_neg, nI_toInt (by omega)]
      have t0 : (0 : Int32).toInt = 0 := rfl
      rw [t0, Int.bmod_eq_of_le (by omega) (by omega)]; omega
    rw [if_neg hneg, Int32.zero_sub, Int32.neg_sub, e, show x - y = 0 by omega, Nat.zero_add]
theorem way_c {c : Nat} (ha : a < 240) (hc : c < 240) : cf_345_0 (nI a) (nI c) = nI (wy a c) := by
  have r8 : ∀ x, x < 240 → mz_irem (nI x) 8 = nI (x % 8) := fun x hx => irem_n (d := 8) (by omega) (by omega) (by omega)
  have r48 : ∀ x, x < 240 → mz_irem (nI x) 48 = nI (x % 48) := fun x hx => irem_n (d := 48) (by omega) (by omega) (by omega)
  have d8 : ∀ x, x < 48 → nI x / 8 = nI (x / 8) := fun x hx => pk_div (d := 8) (by omega) (by omega) (by omega)
  have d48 : ∀ x, x < 240 → nI x / 48 = nI (x / 48) := fun x hx => pk_div (d := 48) (by omega) (by omega) (by omega)
  rw [cf_345_0, r8 a ha, r8 c hc, r48 a ha, r48 c hc, d8 _ (by omega), d8 _ (by omega), d48 a ha, d48 c hc, iabs_n (by omega) (by omega), iabs_n (by omega) (by omega), iabs_n (by omega) (by omega), show (10 : Int32) = nI 10 from rfl, pk_mul, nI_add, nI_add]
  rfl
theorem spot_c (h : spX N n pl sp) (hn : n ≤ 6) (hj : j < n) : cp_342_0 (nI j) N ∧ cf_342_0 (nI j) N = nI (sp j) := by
  obtain ⟨h1, h2, h3, h4, h5⟩ := h.a j hj
  have g1 : mz_gI N 142 (nI j) = nI (pl j) := by rw [gI_a, nI_clamp (by omega)]; exact h1
  have g2 : mz_gI N 118 (nI (pl j)) = nI (sp j / 48) := by rw [gI_a, nI_clamp (by omega)]; exact h4
  have g3 : mz_gI N 119 (nI (pl j)) = nI (sp j % 48) := by rw [gI_a, nI_clamp (by omega)]; exact h5
  have i1 : mz_ib (nI j) 6 := ib_n (by omega) (by omega)
  have i2 : mz_ib (nI (pl j)) 16 := ib_n h2 (by omega)
  rw [cp_342_0, cf_342_0, g1, g2, g3, show (48 : Int32) = nI 48 from rfl, pk_mul, nI_add, show sp j / 48 * 48 + sp j % 48 = sp j by omega]
  exact ⟨⟨i1, i2, i1, i2⟩, rfl⟩
theorem over_c (h : spX N n pl sp) (hn : n ≤ 6) (hm : m < 64) (ha : a < 240) (hj : j < n) (hb : m.testBit j = false) (hB : bst N n W (m ||| 1 <<< j)) : cp_344_0 (nI m) (nI a) (nI j) N ∧ cf_344_0 (nI m) (nI a) (nI j) N = nI (wy a (sp j) + W (m ||| 1 <<< j) j) := by
  obtain ⟨s1, s2⟩ := spot_c h hn hj
  obtain ⟨r1, r2, r3⟩ := rem_in n (by omega) m hm j hj hb
  have hs := (h.a j hj).2.2.1
  have ob := or_b m hm j (by omega)
  obtain ⟨b1', b2⟩ := hB j hj
  have g1 : mz_gI N (144 + (m ||| 1 <<< j)) (nI j) = nI (W (m ||| 1 <<< j) j) := by rw [gI_a, nI_clamp (by omega)]; exact b1'
  rw [cp_344_0, cf_344_0, s2, way_c ha hs, ob, nI_clamp (by omega), g1, nI_add]
  exact ⟨⟨s1, ib_n r1 (by omega), ib_n (by omega) (by omega)⟩, rfl⟩
theorem best_c (h : spX N n pl sp) (hn : n ≤ 6) (hm : m < 64) (ha : a < 240) (hB : ∀ j, j < n → m.testBit j = false → bst N n W (m ||| 1 <<< j)) : cp_343_0 (nI n) (nI m) (nI a) N ∧ cf_343_0 (nI n) (nI m) (nI a) N = nO 6 (bnx (fun j => wy a (sp j) + W (m ||| 1 <<< j) j) m n) := by
  have Hf : ∀ j, j < n → m.testBit j = false → wy a (sp j) + W (m ||| 1 <<< j) j ≤ 560 := fun j hj hb => by
    have := wy_b ha (h.a j hj).2.2.1
    have := (hB j hj hb j hj).2
    omega
  rw [cp_343_0, cf_343_0, cp_343_6, cf_343_6]
  have inv : ∀ k, k ≤ n → (bnx (fun j => wy a (sp j) + W (m ||| 1 <<< j) j) m k < 6 → bnx (fun j => wy a (sp j) + W (m ||| 1 <<< j) j) m k < n ∧ m.testBit (bnx (fun j => wy a (sp j) + W (m ||| 1 <<< j) j) m k) = false) := fun k hk h6 => by
    rw [bn_L k (by omega)] at h6 ⊢
    have ne : rem k m ≠ [] := fun z => by rw [z] at h6; exact absurd h6 (show ¬ (6 : Nat) < 6 by decide)
    have := rem_mem.mp (bnL_m (f := fun j => wy a (sp j) + W (m ||| 1 <<< j) j) ne)
    exact ⟨by omega, this.2⟩
  generalize hf : (fun j => wy a (sp j) + W (m ||| 1 <<< j) j) = f at inv
  have Hf' : ∀ j, j < n → m.testBit j = false → f j ≤ 560 := fun j hj hb => by rw [← hf]; exact Hf j hj hb
  have Ho : ∀ j, j < n → m.testBit j = false → cp_344_0 (nI m) (nI a) (nI j) N ∧ cf_344_0 (nI m) (nI a) (nI j) N = nI (f j) := fun j hj hb => by rw [← hf]; exact over_c h hn hm ha hj hb (hB j hj hb)
  refine mz_lps (f := cq_343_6 (nI n) (nI m) (nI a) N) (P := cd_343_6 (nI n) (nI m) (nI a) N) n (fun k => (nO 6 (bnx f m k), nI k)) (fun k hk => ?_) ?_ (k := 0) (Nat.zero_le _)
  · have l : nI k < nI n := (nI_ltI (by omega) (by omega)).mpr hk
    have sb := sh_b m hm k (by omega)
    have iv := inv k (by omega)
    have m1 : (nO 6 (bnx f m k) = -1) = (¬ bnx f m k < 6) := propext (nO_m1 (by omega))
    rw [cd_343_6, cq_343_6]
    simp only [l, if_true, sb, m1]
    rw [bnx]
    by_cases w : m.testBit k = false
    · rw [if_pos w, if_neg (show ¬ m.testBit k = true by rw [w]; exact fun z => by cases z)]
      obtain ⟨k1, k2⟩ := Ho k hk w
      by_cases y : bnx f m k < 6
      · obtain ⟨v1, v2⟩ := iv y
        obtain ⟨o1, o2⟩ := Ho _ v1 v2
        have l1 := Hf' k hk w
        have l2 := Hf' _ v1 v2
        have lt : (nI (f k) < nI (f (bnx f m k))) = (f k < f (bnx f m k)) := propext (nI_ltI (by omega) (by omega))
        rw [if_neg (show ¬ ¬ bnx f m k < 6 from fun z => z y), if_neg (show ¬ ¬ bnx f m k < 6 from fun z => z y), nO_lt y, k2, o2]
        simp only [lt]
        refine ⟨⟨fun _ => ⟨fun _ => ⟨fun _ => trivial, fun _ => ⟨k1, o1, fun _ => trivial, fun _ => trivial⟩⟩, fun _ => trivial⟩, fun z => absurd trivial z⟩, ?_⟩
        by_cases u : f k < f (bnx f m k)
        · rw [if_pos u, if_pos u, cf_343_46, cf_343_50, nI_1, nO_lt (by omega)]
        · rw [if_neg u, if_neg u, cf_343_50, nI_1, nO_lt y]
      · rw [if_pos y, if_pos y, cf_343_46, cf_343_50, nI_1, nO_lt (show k < 6 by omega)]
        exact ⟨⟨fun _ => ⟨fun _ => ⟨fun _ => trivial, fun z => absurd y z⟩, fun _ => trivial⟩, fun z => absurd trivial z⟩, rfl⟩
    · rw [if_neg w, if_pos (show m.testBit k = true by cases e : m.testBit k; exact absurd e w; rfl), cf_343_50, nI_1]
      exact ⟨⟨fun _ => ⟨fun z => absurd z w, fun _ => trivial⟩, fun z => absurd trivial z⟩, rfl⟩
  · have l : ¬ nI n < nI n := fun z => by have := (nI_ltI (by omega) (by omega)).mp z; omega
    rw [cd_343_6, cq_343_6]
    simp only [l, if_false]
    exact ⟨⟨False.elim, fun _ => trivial⟩, trivial⟩
end Dc
