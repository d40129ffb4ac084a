/-! PURE (14): the reference lays its plan, whole. -/
section La2
variable {e : Nat → Nat} {fl : Nat → Nat} {M N : mz_N}
def r_wl (e : Nat → Nat) (t u : Nat) (K : mz_N) : Prop := (∀ k, k < pl_n e → K.1 240 k = nI (cnt (pl_hvp e k) t) ∧ K.1 241 k = nI (cnt (pl_glp e k) t)) ∧ ∀ a b kd, a < pl_n e → b < pl_n e → kd < 4 → K.1 239 (4 * (40 * a + b) + kd) = nI (if a = b then 0 else if kd = 0 then cnt (pl_cep e a b) u else cnt (pl_btp e kd a b) t)
theorem ge_cl_r {t : Nat} (ht : t < 550) (h : ge_sd (t % 110) ≠ 4) : ge_cl t < 240 ∧ ((cf_432_0 (nI (t % 110)) < 0 ∧ 48 * nI (t / 110) + cf_433_0 (nI (t % 110)) = nI (ge_cl t)) ∨ (¬ cf_432_0 (nI (t % 110)) < 0 ∧ cf_433_0 (nI (t % 110)) < 0 ∧ 48 * nI (t / 110) + cf_432_0 (nI (t % 110)) = nI (ge_cl t))) := by
  have hq : t % 110 < 110 := Nat.mod_lt _ (by omega)
  obtain ⟨-, -, e1, e2, -⟩ := ge_e (t % 110) hq
  rw [e1, e2, nO_neg (by omega), nO_neg (by omega), show (48 : Int32) = nI 48 from rfl]
  unfold ge_cl
  rcases (ge_b (t % 110) hq).2 h with ⟨h1, h2⟩ | ⟨h1, h2⟩
  · rw [if_neg (by omega), nO_lt h2, pk_mul, nI_add]
    exact ⟨by omega, Or.inl ⟨by omega, rfl⟩⟩
  · rw [if_pos h1, nO_lt h1, pk_mul, nI_add]
    exact ⟨by omega, Or.inr ⟨by omega, by omega, rfl⟩⟩
theorem r_wl_bo (hn : pl_n e ≤ 40) {K : mz_N} {t : Nat} (ht : t < 550) (h3 : ∀ i, i < 550 → K.1 233 i = nI (e i) ∧ e i < 4) (hbo : ∀ i, i < 550 → ge_sd (i % 110) < 4 → e i = 2 ∨ e i = 3) (h15 : ∀ c, c < 240 → K.1 235 c = nI (pl_lab e c)) (hsd : ge_sd (t % 110) < 4) (hK : r_wl e t 0 K) :
    cd_427_59 (nI t, K) ∧ ∃ K2, cq_427_59 (nI t, K) = .inl (nI (t + 1), K2) ∧ fr [240, 241] K K2 ∧ r_wl e (t + 1) 0 K2 := by
  obtain ⟨ha, hcs⟩ := ge_cl_r ht (by omega : ge_sd (t % 110) ≠ 4)
  have hla := pl_lab_lt (e := e) ha
  obtain ⟨ht3, he4⟩ := h3 t ht
  have d1 : nI t / 110 = nI (t / 110) := by rw [show (110 : Int32) = nI 110 from rfl, pk_div (by omega) (by omega) (by omega)]
  have d2 : mz_irem (nI t) 110 = nI (t % 110) := by rw [show (110 : Int32) = nI 110 from rfl, irem_n (by omega) (by omega) (by omega)]
  have g1 : mz_gI K 235 (nI (ge_cl t)) = nI (pl_lab e (ge_cl t)) := by rw [gI_a, nI_clamp (by omega), h15 _ ha]
  have g3 : mz_gI K 233 (nI t) = nI (e t) := by rw [gI_a, nI_clamp (by omega), ht3]
  obtain ⟨k1, k2⟩ := hK
  obtain ⟨q1, q2⟩ := k1 _ hla
  have g4 : mz_gI K 240 (nI (pl_lab e (ge_cl t))) = nI (cnt (pl_hvp e (pl_lab e (ge_cl t))) t) := by rw [gI_a, nI_clamp (by omega)]; exact q1
  have g5 : ∀ x, mz_gI (mz_wI K 240 (nI (pl_lab e (ge_cl t))) x) 241 (nI (pl_lab e (ge_cl t))) = nI (cnt (pl_glp e (pl_lab e (ge_cl t))) t) := fun x => by rw [gI_a, wI_s, sI_n (by decide), nI_clamp (by omega)]; exact q2
  have hst : cd_427_59 (nI t, K) ∧ cq_427_59 (nI t, K) = .inl (nI (t + 1), mz_wI (mz_wI K 240 (nI (pl_lab e (ge_cl t))) (nI (cnt (pl_hvp e (pl_lab e (ge_cl t))) t + b1 (decide (e t = 2))))) 241 (nI (pl_lab e (ge_cl t))) (nI (cnt (pl_glp e (pl_lab e (ge_cl t))) t + b1 (decide (e t = 3))))) := by
    rcases hcs with ⟨c1, c2⟩ | ⟨c1, c2, c3⟩
    · rcases hbo t ht hsd with z | z
      · simp (disch := omega) only [cd_427_59, cq_427_59, cp_427_106, cf_427_106, cp_427_126, cf_427_126, cp_427_148, cf_427_148, cp_427_168, cf_427_168, cp_427_206, cf_427_206, nI_ltI, (show (550 : Int32) = nI 550 from rfl), (show (2 : Int32) = nI 2 from rfl), (show (3 : Int32) = nI 3 from rfl), ht, d1, d2, c1, c2, g1, g3, g4, g5, z, nI_eq, mz_b01, cond_true, cond_false, nI_1, ib_i, b1, decide_true, decide_false, Nat.reduceEqDiff, Int32.add_zero, Nat.add_zero, Bool.false_eq_true, not_false_eq_true, not_true_eq_false, if_true, if_false, true_implies, false_implies, implies_true, and_true, true_and]
        omega
      · simp (disch := omega) only [cd_427_59, cq_427_59, cp_427_106, cf_427_106, cp_427_126, cf_427_126, cp_427_148, cf_427_148, cp_427_168, cf_427_168, cp_427_206, cf_427_206, nI_ltI, (show (550 : Int32) = nI 550 from rfl), (show (2 : Int32) = nI 2 from rfl), (show (3 : Int32) = nI 3 from rfl), ht, d1, d2, c1, c2, g1, g3, g4, g5, z, nI_eq, mz_b01, cond_true, cond_false, nI_1, ib_i, b1, decide_true, decide_false, Nat.reduceEqDiff, Int32.add_zero, Nat.add_zero, Bool.false_eq_true, not_false_eq_true, not_true_eq_false, if_true, if_false, true_implies, false_implies, implies_true, and_true, true_and]
        omega
    · rcases hbo t ht hsd with z | z
      · simp (disch := omega) only [cd_427_59, cq_427_59, cp_427_106, cf_427_106, cp_427_126, cf_427_126, cp_427_148, cf_427_148, cp_427_168, cf_427_168, cp_427_206, cf_427_206, nI_ltI, (show (550 : Int32) = nI 550 from rfl), (show (2 : Int32) = nI 2 from rfl), (show (3 : Int32) = nI 3 from rfl), ht, d1, d2, c1, c2, c3, g1, g3, g4, g5, z, nI_eq, mz_b01, cond_true, cond_false, nI_1, ib_i, b1, decide_true, decide_false, Nat.reduceEqDiff, Int32.add_zero, Nat.add_zero, Bool.false_eq_true, not_false_eq_true, not_true_eq_false, if_true, if_false, true_implies, false_implies, implies_true, and_true, true_and]
        omega
      · simp (disch := omega) only [cd_427_59, cq_427_59, cp_427_106, cf_427_106, cp_427_126, cf_427_126, cp_427_148, cf_427_148, cp_427_168, cf_427_168, cp_427_206, cf_427_206, nI_ltI, (show (550 : Int32) = nI 550 from rfl), (show (2 : Int32) = nI 2 from rfl), (show (3 : Int32) = nI 3 from rfl), ht, d1, d2, c1, c2, c3, g1, g3, g4, g5, z, nI_eq, mz_b01, cond_true, cond_false, nI_1, ib_i, b1, decide_true, decide_false, Nat.reduceEqDiff, Int32.add_zero, Nat.add_zero, Bool.false_eq_true, not_false_eq_true, not_true_eq_false, if_true, if_false, true_implies, false_implies, implies_true, and_true, true_and]
        omega
  refine ⟨hst.1, _, hst.2, fr_wI (fr_wI (fr_refl _ _) rfl) rfl, ?_, ?_⟩
  · intro k hk
    obtain ⟨r1, r2⟩ := k1 k hk
    simp (disch := omega) only [wI_s, nI_clamp, sI_1, up_a, Nat.reduceEqDiff, if_true, if_false]
    have z1 : pl_hvp e k t = decide (k = pl_lab e (ge_cl t) ∧ e t = 2) := by
      unfold pl_hvp; apply decide_eq_decide.mpr; rcases hbo t ht hsd with z | z <;> omega
    have z2 : pl_glp e k t = decide (k = pl_lab e (ge_cl t) ∧ e t = 3) := by
      unfold pl_glp; apply decide_eq_decide.mpr; rcases hbo t ht hsd with z | z <;> omega
    rw [cnt, cnt, z1, z2]
    by_cases z : k = pl_lab e (ge_cl t)
    · rw [if_pos z, if_pos z, z]
      simp only [true_and]
      constructor
      · congr 1; unfold b1; by_cases y : e t = 2 <;> simp [y]
      · congr 1; unfold b1; by_cases y : e t = 3 <;> simp [y]
    · rw [if_neg z, if_neg z, r1, r2]
      simp [z]
  · intro a b kd h1 h2 h3
    simp (disch := omega) only [wI_s, sI_1, Nat.reduceEqDiff, if_true, if_false]
    rw [k2 a b kd h1 h2 h3, cnt_sn (n := t) (by unfold pl_btp; simp; omega)]
theorem r_wl_in (hn : pl_n e ≤ 40) {K : mz_N} {t : Nat} (ht : t < 550) (h3 : ∀ i, i < 550 → K.1 233 i = nI (e i) ∧ e i < 4) (h15 : ∀ c, c < 240 → K.1 235 c = nI (pl_lab e c)) (hsd : ge_sd (t % 110) = 4) (hK : r_wl e t 0 K) :
    cd_427_59 (nI t, K) ∧ ∃ K2, cq_427_59 (nI t, K) = .inl (nI (t + 1), K2) ∧ fr [239] K K2 ∧ r_wl e (t + 1) 0 K2 := by
  obtain ⟨ha, hb, -, -, e1, e2⟩ := ge_ab_ok ht hsd
  have hla := pl_lab_lt (e := e) ha
  have hlb := pl_lab_lt (e := e) hb
  obtain ⟨ht3, he4⟩ := h3 t ht
  have hq : t % 110 < 110 := Nat.mod_lt _ (by omega)
  obtain ⟨-, -, e3, e4, -⟩ := ge_e (t % 110) hq
  obtain ⟨hb1, hb2, -⟩ := (ge_b (t % 110) hq).1 hsd
  have n1 : ¬ cf_432_0 (nI (t % 110)) < 0 := by rw [e3, nO_neg (by omega)]; omega
  have n2 : ¬ cf_433_0 (nI (t % 110)) < 0 := by rw [e4, nO_neg (by omega)]; omega
  have d1 : nI t / 110 = nI (t / 110) := by rw [show (110 : Int32) = nI 110 from rfl, pk_div (by omega) (by omega) (by omega)]
  have d2 : mz_irem (nI t) 110 = nI (t % 110) := by rw [show (110 : Int32) = nI 110 from rfl, irem_n (by omega) (by omega) (by omega)]
  have g1 : mz_gI K 235 (nI (ge_ca t)) = nI (pl_lab e (ge_ca t)) := by rw [gI_a, nI_clamp (by omega), h15 _ ha]
  have g2 : mz_gI K 235 (nI (ge_cb t)) = nI (pl_lab e (ge_cb t)) := by rw [gI_a, nI_clamp (by omega), h15 _ hb]
  have g3 : mz_gI K 233 (nI t) = nI (e t) := by rw [gI_a, nI_clamp (by omega), ht3]
  obtain ⟨k1, k2⟩ := hK
  have z1 : ∀ k, pl_hvp e k t = false := fun k => by simp [pl_hvp, hsd]
  have z2 : ∀ k, pl_glp e k t = false := fun k => by simp [pl_glp, hsd]
  by_cases hab : pl_lab e (ge_ca t) = pl_lab e (ge_cb t)
  · have hcf : cf_434_0 (nI (pl_lab e (ge_cb t))) (nI (pl_lab e (ge_cb t))) (nI (e t)) K = K := by rw [cf_434_0, if_pos rfl]
    have hcp : cp_434_0 (nI (pl_lab e (ge_cb t))) (nI (pl_lab e (ge_cb t))) (nI (e t)) K := ⟨fun _ => trivial, fun h => absurd rfl h⟩
    have hst : cd_427_59 (nI t, K) ∧ cq_427_59 (nI t, K) = .inl (nI (t + 1), K) := by
      simp (disch := omega) only [cd_427_59, cq_427_59, cp_427_206, cf_427_206, nI_ltI, (show (550 : Int32) = nI 550 from rfl), ht, d1, d2, n1, n2, e1, e2, g1, g2, g3, hab, hcf, hcp, nI_1, ib_i, ite_self, not_false_eq_true, not_true_eq_false, if_true, if_false, true_implies, false_implies, implies_true, and_true, true_and]
      omega
    refine ⟨hst.1, _, hst.2, fr_refl _ _, fun k hk => by rw [cnt_sn (z1 k), cnt_sn (z2 k)]; exact k1 k hk, ?_⟩
    intro a b kd h1 h2 h3
    rw [k2 a b kd h1 h2 h3]
    by_cases zab : a = b
    · rw [if_pos zab, if_pos zab]
    · rw [if_neg zab, if_neg zab, cnt_sn (n := t) (by unfold pl_btp; apply decide_eq_false; omega)]
  · have h0 : e t ≠ 0 := fun z => hab (pl_open2 ht hsd z)
    obtain ⟨p1, p2⟩ := r_near (K := K) (show pl_lab e (ge_ca t) < 40 by omega) (show pl_lab e (ge_cb t) < 40 by omega) he4 hab (k2 _ _ _ hla hlb he4) (k2 _ _ _ hlb hla he4)
    rw [if_neg hab, if_neg h0, if_neg (fun z => hab z.symm), if_neg h0] at p2
    have hst : cd_427_59 (nI t, K) ∧ cq_427_59 (nI t, K) = .inl (nI (t + 1), cf_434_0 (nI (pl_lab e (ge_ca t))) (nI (pl_lab e (ge_cb t))) (nI (e t)) K) := by
      simp (disch := omega) only [cd_427_59, cq_427_59, cp_427_206, cf_427_206, nI_ltI, (show (550 : Int32) = nI 550 from rfl), ht, d1, d2, n1, n2, e1, e2, g1, g2, g3, nI_gt0, show 0 < e t by omega, p1, nI_1, ib_i, not_false_eq_true, not_true_eq_false, if_true, if_false, true_implies, false_implies, implies_true, and_true, true_and]
      omega
    refine ⟨hst.1, _, hst.2, by rw [p2]; exact fr_sI (fr_refl _ _) rfl, ?_, ?_⟩
    · intro k hk
      rw [cnt_sn (z1 k), cnt_sn (z2 k), p2, sI_n (by decide), sI_n (by decide)]; exact k1 k hk
    · intro a b kd h1 h2 h3
      rw [p2, sI_e, up_a, up_a]
      by_cases zab : a = b
      · rw [if_neg (by omega), if_neg (by omega), if_pos zab, k2 a b kd h1 h2 h3, if_pos zab]
      · rw [if_neg zab]
        by_cases zk : kd = 0
        · rw [if_neg (by omega), if_neg (by omega), if_pos zk, k2 a b kd h1 h2 h3, if_neg zab, if_pos zk]
        · rw [if_neg zk]
          have hbt : pl_btp e kd a b t = decide ((a = pl_lab e (ge_ca t) ∧ b = pl_lab e (ge_cb t) ∧ kd = e t) ∨ (a = pl_lab e (ge_cb t) ∧ b = pl_lab e (ge_ca t) ∧ kd = e t)) := by
            unfold pl_btp; apply decide_eq_decide.mpr; omega
          by_cases y1 : a = pl_lab e (ge_ca t) ∧ b = pl_lab e (ge_cb t) ∧ kd = e t
          · rw [if_neg (by omega), if_pos (by omega), cnt_s (n := t) (by rw [hbt]; exact decide_eq_true (Or.inl y1)), y1.1, y1.2.1, y1.2.2]
          · by_cases y2 : a = pl_lab e (ge_cb t) ∧ b = pl_lab e (ge_ca t) ∧ kd = e t
            · rw [if_pos (by omega), cnt_s (n := t) (by rw [hbt]; exact decide_eq_true (Or.inr y2)), y2.1, y2.2.1, y2.2.2]
            · rw [if_neg (by omega), if_neg (by omega), cnt_sn (n := t) (by rw [hbt]; apply decide_eq_false; omega), k2 a b kd h1 h2 h3, if_neg zab, if_neg zk]
end La2
