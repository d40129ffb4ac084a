/-! PURE (50zzzzzs): a merge's trial. -/
/-- the plan with a desk's own edges -/
def tri (E P G : Nat → Nat) (i : Nat) : Nat := if i < 550 then (if P i ≠ G i then P i else E i) else E i
section Tr
variable {N N1 N2 M1 M2 K : mz_N} {b : Bool} {B q d : Nat} {E P G e fl : Nat → Nat}
theorem tri_e {i : Nat} (hi : i < 550) : tri E P G i = if P i ≠ G i then P i else E i := if_pos hi
theorem tri_4 (h : dkR N1 N2 d E P G) {i : Nat} (hi : i < 550) : tri E P G i < 4 := by
  obtain ⟨b1', b2, b3⟩ := h.b i hi
  rw [tri_e hi]; split <;> assumption
theorem dkR_f (h : dkR N1 N2 d E P G) (h1 : M1.1 3 = N1.1 3) (h2 : M1.1 (5 + d) = N1.1 (5 + d)) (h3 : M1.1 (9 + d) = N1.1 (9 + d)) (h4 : ∀ j, j < 3850 → M2.1 233 j = N2.1 233 j) (hd : d < 3) : dkR M1 M2 d E P G :=
  ⟨fun i hi => by rw [h1, h2, h3]; exact h.c i hi, fun i hi => by rw [h4 _ (by omega), h4 _ (by omega), h4 _ (by omega)]; exact h.r i hi, h.b⟩
theorem tri_c (hd : d < 3) (h : dkR N1 N2 d E P G) : cp_115_0 (nI d) N1 ∧ ∃ T f q, cf_115_0 (nI d) N1 = (nI (pl_n (tri E P G)), mz_sI (mz_sI (mz_sI N1 12 T) 13 f) 14 q) ∧ ∀ i, i < 550 → T i = nI (tri E P G i) := by
  have ec : (nI d).toNatClampNeg = d := nI_clamp (by omega)
  have i3 : mz_ib (nI d) 3 := ib_n hd (by omega)
  rw [cp_115_0, cf_115_0, cp_115_2, cf_115_2]
  refine mz_lpn (f := cq_115_2 (nI d)) (P := cd_115_2 (nI d)) (Q := fun r => ∃ T f q, r = (nI (pl_n (tri E P G)), mz_sI (mz_sI (mz_sI N1 12 T) 13 f) 14 q) ∧ ∀ i, i < 550 → T i = nI (tri E P G i)) 550 (fun k s => ∃ T, s = (nI k, mz_sI N1 12 T) ∧ ∀ i, i < k → T i = nI (tri E P G i)) ?_ ?_ (Nat.zero_le _) ⟨N1.1 12, by rw [sI_same]; rfl, fun i hi => absurd hi (Nat.not_lt_zero i)⟩
  · rintro k s hk ⟨T, rfl, hT⟩
    have l : nI k < 550 := (nI_ltI (b := 550) (by omega) (by omega)).mpr hk
    have hh : dkR (mz_sI N1 12 T) N2 d E P G := dkR_f h (sI_n (by decide)) (sI_n (by omega)) (sI_n (by omega)) (fun _ _ => rfl) hd
    obtain ⟨a1, _, a3, _⟩ := conf_i hd hh hk
    have i5 : mz_ib (nI k) 550 := ib_n hk (by omega)
    have g1 : mz_gI (mz_sI N1 12 T) (5 + d) (nI k) = nI (P k) := by rw [gI_a, nI_clamp (by omega)]; exact (hh.c k hk).2.1
    have g2 : mz_gI (mz_sI N1 12 T) 3 (nI k) = nI (E k) := by rw [gI_a, nI_clamp (by omega)]; exact (hh.c k hk).1
    rw [cd_115_2, cq_115_2]
    simp only [l, if_true, a3, ec, g1, g2]
    refine ⟨⟨fun _ => ⟨a1, fun _ => ⟨i3, i5, i5⟩, fun _ => ⟨i5, i5⟩⟩, fun z => absurd trivial z⟩, Or.inl ?_⟩
    have hn : ∀ y, y = tri E P G k → ∃ s2, (Sum.inl (nI k + 1, mz_wI (mz_sI N1 12 T) 12 (nI k) (nI y)) : (Int32 × mz_N) ⊕ (Int32 × mz_N)) = Sum.inl s2 ∧ ∃ T, s2 = (nI (k + 1), mz_sI N1 12 T) ∧ ∀ i, i < k + 1 → T i = nI (tri E P G i) := fun y hy => by
      refine ⟨_, rfl, upd T k (nI y), ?_, fun i hi => ?_⟩
      · rw [nI_1, wI_s, nI_clamp (by omega), sI_e, sI_sI]
      · rw [up_a]
        by_cases w : i = k
        · rw [if_pos w, hy, w]
        · rw [if_neg w]; exact hT i (by omega)
    by_cases w : P k = G k
    · rw [if_neg (show ¬ (decide (P k ≠ G k) = true) from fun z => (of_decide_eq_true z) w)]
      exact hn (E k) (by rw [tri_e hk, if_neg (fun z => z w)])
    · rw [if_pos (show decide (P k ≠ G k) = true from decide_eq_true w)]
      exact hn (P k) (by rw [tri_e hk, if_pos w])
  · rintro s ⟨T, rfl, hT⟩
    have l : ¬ nI 550 < 550 := by decide
    obtain ⟨p1, f, q, p2, _⟩ := c_dv (a1 := 12) (a2 := 13) (w := pl_w (tri E P G)) (N := mz_sI N1 12 T) (by decide) (by decide) (by decide) (fun k hk => by
      have := tri_4 h hk
      rw [sI_e, hT k hk, nI_eq0 (by omega), pl_w]; simp)
    rw [cd_115_2, cq_115_2]
    simp only [l, if_false, cp_116_0, cf_116_0, p2]
    exact ⟨⟨False.elim, fun _ => p1⟩, _, rfl, T, f, q, rfl, hT⟩
/-- the reference's trial lies in its plan 7 -/
def trM (N K : mz_N) (t : Nat → Nat) : Prop := (fr [232, 233, 235, 236, 237, 238] N K) ∧ (∀ z, z ≠ 7 → K.1 232 z = N.1 232 z) ∧ (K.1 232 7 = nI (pl_n t)) ∧ (∀ j, j < 3850 → K.1 233 j = N.1 233 j) ∧ (∀ i, i < 550 → K.1 233 (3850 + i) = nI (t i))
theorem trM.f {N K : mz_N} {t : Nat → Nat} (h : trM N K t) : fr [232, 233, 235, 236, 237, 238] N K := h.1
theorem trM.i {N K : mz_N} {t : Nat → Nat} (h : trM N K t) : ∀ z, z ≠ 7 → K.1 232 z = N.1 232 z := h.2.1
theorem trM.n {N K : mz_N} {t : Nat → Nat} (h : trM N K t) : K.1 232 7 = nI (pl_n t) := h.2.2.1
theorem trM.o {N K : mz_N} {t : Nat → Nat} (h : trM N K t) : ∀ j, j < 3850 → K.1 233 j = N.1 233 j := h.2.2.2.1
theorem trM.t {N K : mz_N} {t : Nat → Nat} (h : trM N K t) : ∀ i, i < 550 → K.1 233 (3850 + i) = nI (t i) := h.2.2.2.2
theorem tri_r (hd : d < 3) (h : dkR N1 N2 d E P G) (hc : ∀ K, trM N2 K (tri E P G) → (40 < K.1 232 7 → cp_428_0 0 K) ∧ (¬ 40 < K.1 232 7 → cp_467_114 (nI d) 0 (cf_471_0 K))) : cp_467_29 (nI d) 0 N2 ∧ ∃ K, trM N2 K (tri E P G) ∧ cf_467_29 (nI d) 0 N2 = if 40 < K.1 232 7 then (-1002, cf_428_0 0 K) else cf_467_114 (nI d) 0 (cf_471_0 K) := by
  rw [cp_467_29, cf_467_29]
  refine mz_lpn (f := cq_467_29 (nI d)) (P := cd_467_29 (nI d)) (Q := fun r => ∃ K, trM N2 K (tri E P G) ∧ r = if 40 < K.1 232 7 then (-1002, cf_428_0 0 K) else cf_467_114 (nI d) 0 (cf_471_0 K)) 550 (fun k s => ∃ T, s = (nI k, mz_sI N2 233 T) ∧ (∀ j, j < 3850 → T j = N2.1 233 j) ∧ ∀ i, i < k → T (3850 + i) = nI (tri E P G i)) ?_ ?_ (Nat.zero_le _) ⟨N2.1 233, by rw [sI_same]; rfl, fun _ _ => rfl, fun i hi => absurd hi (Nat.not_lt_zero i)⟩
  · rintro k s hk ⟨T, rfl, hO, hT⟩
    have l : nI k < 550 := (nI_ltI (b := 550) (by omega) (by omega)).mpr hk
    have hh : dkR N1 (mz_sI N2 233 T) d E P G := dkR_f h rfl rfl rfl (fun j hj => by rw [sI_e]; exact hO j hj) hd
    obtain ⟨_, a2, _, a4, _⟩ := conf_i hd hh hk
    have i5 : mz_ib (nI k) 4400 := ib_n (by omega) (by omega)
    have i6 : mz_ib (nI (3850 + k)) 4400 := ib_n (by omega) (by omega)
    have i7 : mz_ib (nI (550 * (1 + d) + k)) 4400 := ib_n (by omega) (by omega)
    have x3 : 3850 + nI k = nI (3850 + k) := by rw [show (3850 : Int32) = nI 3850 from rfl, nI_add]
    have g1 : mz_gI (mz_sI N2 233 T) 233 (nI (550 * (1 + d) + k)) = nI (P k) := by rw [gI_a, nI_clamp (by omega)]; exact (hh.r k hk).2.1
    have g2 : mz_gI (mz_sI N2 233 T) 233 (nI k) = nI (E k) := by rw [gI_a, nI_clamp (by omega)]; exact (hh.r k hk).1
    rw [cd_467_29, cq_467_29]
    simp only [l, if_true, a4, ix_1, x3, g1, g2]
    refine ⟨⟨fun _ => ⟨a2, fun _ => ⟨i7, i6⟩, fun _ => ⟨i5, i6⟩⟩, fun z => absurd trivial z⟩, Or.inl ?_⟩
    have hn : ∀ y, y = tri E P G k → ∃ s2, (Sum.inl (nI k + 1, mz_wI (mz_sI N2 233 T) 233 (nI (3850 + k)) (nI y)) : (Int32 × mz_N) ⊕ (Int32 × mz_N)) = Sum.inl s2 ∧ ∃ T, s2 = (nI (k + 1), mz_sI N2 233 T) ∧ (∀ j, j < 3850 → T j = N2.1 233 j) ∧ ∀ i, i < k + 1 → T (3850 + i) = nI (tri E P G i) := fun y hy => by
      refine ⟨_, rfl, upd T (3850 + k) (nI y), ?_, fun j hj => ?_, fun i hi => ?_⟩
      · rw [nI_1, wI_s, nI_clamp (by omega), sI_e, sI_sI]
      · rw [up_a, if_neg (by omega)]; exact hO j hj
      · rw [up_a]
        by_cases w : i = k
        · rw [if_pos (by omega), hy, w]
        · rw [if_neg (by omega)]; exact hT i (by omega)
    by_cases w : P k = G k
    · rw [if_neg (show ¬ (decide (P k ≠ G k) = true) from fun z => (of_decide_eq_true z) w)]
      exact hn (E k) (by rw [tri_e hk, if_neg (fun z => z w)])
    · rw [if_pos (show decide (P k ≠ G k) = true from decide_eq_true w)]
      exact hn (P k) (by rw [tri_e hk, if_pos w])
  · rintro s ⟨T, rfl, hO, hT⟩
    have l : ¬ nI 550 < 550 := by decide
    obtain ⟨p1, f, q, g, h', p2, _, _⟩ := r_dv (p := 7) (w := pl_w (tri E P G)) (N := mz_sI N2 233 T) (by omega) (fun k hk => by
      have := tri_4 h hk
      rw [sI_e, show 550 * 7 + k = 3850 + k by omega, hT k hk, nI_eq0 (by omega), pl_w]; simp)
    have p1' : cp_428_0 7 (mz_sI N2 233 T) := p1
    have p2' : cf_428_0 7 (mz_sI N2 233 T) = r_spN (mz_sI N2 233 T) f q g h' (nI (dv (pl_w (tri E P G)) 240).2) := p2
    have tm : trM N2 (r_spN (mz_sI N2 233 T) f q g h' (nI (dv (pl_w (tri E P G)) 240).2)) (tri E P G) := by
      unfold r_spN
      refine ⟨fr_sI (fr_sI (fr_sI (fr_sI (fr_sI (fr_sI (fr_refl _ _) rfl) rfl) rfl) rfl) rfl) rfl, fun z hz => ?_, ?_, fun j hj => ?_, fun i hi => ?_⟩
      · rw [sI_e, up_a, if_neg hz, sI_n (by decide)]
      · rw [sI_e, up_a, if_pos rfl]; rfl
      · rw [sI_n (by decide), sI_n (by decide), sI_n (by decide), sI_n (by decide), sI_n (by decide), sI_e]; exact hO j hj
      · rw [sI_n (by decide), sI_n (by decide), sI_n (by decide), sI_n (by decide), sI_n (by decide), sI_e]; exact hT i hi
    rw [cd_467_29, cq_467_29, p2']
    generalize r_spN (mz_sI N2 233 T) f q g h' (nI (dv (pl_w (tri E P G)) 240).2) = K at tm
    obtain ⟨h1, h2⟩ := hc K tm
    simp only [l, if_false]
    refine ⟨⟨False.elim, fun _ => ⟨p1', h1, h2⟩⟩, ?_⟩
    by_cases w : 40 < K.1 232 7
    · rw [if_pos w]; exact ⟨_, rfl, K, tm, by rw [if_pos w]⟩
    · rw [if_neg w]; exact ⟨_, rfl, K, tm, by rw [if_neg w]⟩
/-- the reference lays its spaces again -/
theorem r_relay (hn : pl_n e ≤ 40) (hp : r_pl e fl N) (hc : ∀ c, c = 239 ∨ c = 240 ∨ c = 241 ∨ c = 242 ∨ c = 243 → K.1 c = N.1 c) (h3 : ∀ i, i < 550 → K.1 233 i = nI (e i) ∧ e i < 4) : cp_428_0 0 K ∧ fr [232, 235, 236, 237, 238] K (cf_428_0 0 K) ∧ (∀ z, z ≠ 7 → (cf_428_0 0 K).1 232 z = K.1 232 z) ∧ r_pl e fl (cf_428_0 0 K) := by
  obtain ⟨p1, f, q, g, h, p2, p3, p4⟩ := r_dv (p := 0) (w := pl_w e) (N := K) (by omega) (fun k hk => by
    obtain ⟨h1, h2⟩ := h3 k hk
    rw [Nat.mul_zero, Nat.zero_add, h1, nI_eq0 (by omega), pl_w]; simp)
  rw [nI_0] at p1 p2
  rw [p2]
  have hfr0 : fr [232, 235, 236, 237, 238] K (r_spN K f q g h (nI (dv (pl_w e) 240).2)) := by
    unfold r_spN
    exact fr_sI (fr_sI (fr_sI (fr_sI (fr_sI (fr_refl _ _) rfl) rfl) rfl) rfl) rfl
  have m7 : (r_spN K f q g h (nI (dv (pl_w e) 240).2)).1 232 = upd (K.1 232) 7 (nI (pl_n e)) := by
    unfold r_spN; rw [sI_e]; rfl
  have m35 : ∀ c, c < 240 → (r_spN K f q g h (nI (dv (pl_w e) 240).2)).1 235 c = nI (pl_lab e c) := by
    intro c hc
    unfold r_spN
    simp only [sI_1, Nat.reduceEqDiff, if_true, if_false]
    rw [p3 c hc]
    have := pl_lab_lt (e := e) hc
    have := pl_n_le e
    exact nO_lt (by unfold pl_lab at *; omega)
  have m36 : ∀ k, k < pl_n e → (r_spN K f q g h (nI (dv (pl_w e) 240).2)).1 236 k = nI (pl_lc e k) ∧ (r_spN K f q g h (nI (dv (pl_w e) 240).2)).1 237 k = nI (pl_sz e k) := by
    intro k hk
    unfold r_spN
    simp only [sI_1, Nat.reduceEqDiff, if_true, if_false]
    exact p4 k hk
  generalize r_spN K f q g h (nI (dv (pl_w e) 240).2) = W at *
  obtain ⟨t1, t2, t3, t4, t5, t6⟩ := hp
  refine ⟨p1, hfr0, fun z hz => by rw [m7, up_a, if_neg hz], by rw [m7, up_a, if_pos rfl], m35, m36, ?_, ?_, ?_⟩
  · rw [hfr0.1 240 rfl, hfr0.1 241 rfl, hc 240 (by omega), hc 241 (by omega)]; exact t4
  · rw [hfr0.1 239 rfl, hc 239 (by omega)]; exact t5
  · rw [hfr0.1 242 rfl, hfr0.1 243 rfl, hc 242 (by omega), hc 243 (by omega)]; exact t6
end Tr
