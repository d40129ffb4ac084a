/-! PURE (24): the reference's snapshot. -/
section Sn2
variable {N : mz_N} {kt : Nat → Bool} {kb : Nat → Nat → Nat} {d : Nat → Nat → Nat}
theorem sn_stay {kt : Nat → Bool} {kb : Nat → Nat → Nat} {to : Nat} {g : Int64} {d : Nat → Nat → Nat} {z : Int32} {k : Nat} (hf : (sn_k kt kb to g d z k).2.2.2 = false) : ∀ j, k ≤ j → sn_k kt kb to g d z j = sn_k kt kb to g d z k := by
  intro j
  induction j with
  | zero => intro h; have : k = 0 := by omega
            rw [this]
  | succ j ih =>
    intro hkj
    by_cases w : k = j + 1
    · rw [w]
    · have e := ih (by omega)
      have e2 : sn_k kt kb to g d z (j + 1) = sn_1 kt kb to (cnt kt 135) g j (sn_k kt kb to g d z j) := rfl
      rw [e2, e]
      unfold sn_1
      rw [if_neg (fun q => by rw [hf] at q; cases q.1)]
theorem b1_1 (b : Bool) : nI (b1 b) = 1 ↔ b = true := by cases b <;> simp [b1] <;> decide
theorem z01_b (b : Bool) : mz_z01 (nI (b1 b)) := by cases b; exact Or.inl rfl; exact Or.inr rfl
/-- a key's bytes are fetched, and its row is written -/
theorem r_key {a1 a2 to k row : Nat} {g : Int64} {z : Int32} {pay : Nat → Nat} {la : Bool} {v3 : Int32} {M : mz_N} (hto : to < 2) (hk : k < 135) (hrow : row < 200) (h7 : N.1 232 137 = 0) (hla : (nI k = v3) ↔ la = true) (h2 : [232, 329, 332, 341].contains a2 = false) (hkb : ∀ i, i < 28 → N.1 a2 (28 * k + i) = by8 (pay i)) (hpay : ∀ i, pay i < 256) (hM : r_w N d z M) :
    cp_475_139 a1 a2 v3 (nI to) g (nI row) (nI k) 0 M ∧ ∃ K, cf_475_139 a1 a2 v3 (nI to) g (nI row) (nI k) 0 M = (if z = 0 then .inr (false, K) else .inl (nI row, nI (k + 1), K)) ∧
      (z ≠ 0 → r_w N (dkw d to row (rw0 (kdk k) (ixk k) la row g pay) true) (fus1 z) K) ∧ (z = 0 → r_x N (dkw d to row (rw0 (kdk k) (ixk k) la row g pay) false) K) := by
  obtain ⟨kd1, kd2⟩ := kd_r hk
  have ix2 := ix_r hk
  obtain ⟨k1, k2, k3, k4, k5, -⟩ := kdk_ok k hk
  refine mz_lpn (f := cq_475_139 a1 a2 v3 (nI to) g (nI row) (nI k)) (P := cd_475_139 a1 a2 v3 (nI to) g (nI row) (nI k)) (Q := fun t => ∃ K, t = (if z = 0 then .inr (false, K) else .inl (nI row, nI (k + 1), K)) ∧ (z ≠ 0 → r_w N (dkw d to row (rw0 (kdk k) (ixk k) la row g pay) true) (fus1 z) K) ∧ (z = 0 → r_x N (dkw d to row (rw0 (kdk k) (ixk k) la row g pay) false) K)) 28 (fun t s => ∃ f, s = (nI t, mz_sI M 332 f) ∧ ∀ j, j < t → f j = by8 (pay j)) ?_ ?_ (Nat.zero_le _) ⟨M.1 332, by rw [sI_same]; rfl, fun j hj => absurd hj (Nat.not_lt_zero _)⟩
  · rintro t s ht ⟨f, rfl, hf⟩
    have ha2 : a2 ≠ 332 := fun w => by rw [w] at h2; cases h2
    have g1 : mz_nb (mz_gI (mz_sI M 332 f) a2 (nI (28 * k + t))) = by8 (pay t) := by rw [gI_a, sI_n ha2, nI_clamp (by omega), hM.1.1 a2 h2, hkb t ht, by8_nb]
    simp (disch := omega) only [cd_475_139, cq_475_139, nI_ltI, (show (28 : Int32) = nI 28 from rfl), ht, pk_mul, nI_add, g1, nI_1, ib_i, not_false_eq_true, not_true_eq_false, if_true, if_false, true_implies, false_implies, implies_true, and_true, true_and]
    refine ⟨by omega, Or.inl ⟨_, rfl, upd f t (by8 (pay t)), ?_, ?_⟩⟩
    · rw [wI_s, sI_e, sI_sI, nI_clamp (by omega)]
    · intro j hj
      rw [up_a]
      by_cases y : j = t
      · rw [if_pos y, y]
      · rw [if_neg y]; exact hf j (by omega)
  · rintro s ⟨f, rfl, hf⟩
    obtain ⟨r1, K, r2, -, r3, r4⟩ := r_row (N := N) (d := d) (a := to) (n := row) (kd := kdk k) (ix := ixk k) (la := la) (g := g) (z := z) (pay := pay) (M := M) (f := f) hto hrow (by omega) (by omega) h7 hM hf hpay
    have e201 : cp_475_201 a1 a2 (nI to) (nI row) (nI (kdk k)) (nI (ixk k)) la v3 (nI to) g (nI row) (nI k) (mz_sI M 332 f) ∧ cf_475_201 a1 a2 (nI to) (nI row) (nI (kdk k)) (nI (ixk k)) la v3 (nI to) g (nI row) (nI k) (mz_sI M 332 f) = (if z = 0 then .inr (false, K) else .inl (nI row, nI (k + 1), K)) := by
      by_cases h0 : z = 0
      · rw [show decide (z ≠ 0) = false from decide_eq_false (fun w => w h0)] at r2
        simp only [cp_475_201, cf_475_201, r1, r2, h0, Bool.false_eq_true, not_false_eq_true, not_true_eq_false, if_true, if_false, true_implies, false_implies, implies_true, and_true, true_and]
      · rw [show decide (z ≠ 0) = true from decide_eq_true h0] at r2
        simp only [cp_475_201, cf_475_201, cp_475_211, cf_475_211, r1, r2, h0, nI_1, not_false_eq_true, not_true_eq_false, if_true, if_false, true_implies, false_implies, implies_true, and_true, true_and]
    cases la with
    | true =>
      have hv := hla.mpr rfl
      simp (disch := omega) only [cd_475_139, cq_475_139, nI_ltI, (show (28 : Int32) = nI 28 from rfl), Nat.lt_irrefl, kd1, kd2, ix2, not_false_eq_true, not_true_eq_false, if_true, if_false, true_implies, false_implies, implies_true, and_true, true_and]
      rw [if_pos hv]
      exact ⟨⟨fun _ => e201.1, fun w => absurd hv w⟩, _, rfl, K, e201.2, r3, r4⟩
    | false =>
      have hv : ¬ nI k = v3 := fun w => by have := hla.mp w; cases this
      simp (disch := omega) only [cd_475_139, cq_475_139, nI_ltI, (show (28 : Int32) = nI 28 from rfl), Nat.lt_irrefl, kd1, kd2, ix2, not_false_eq_true, not_true_eq_false, if_true, if_false, true_implies, false_implies, implies_true, and_true, true_and]
      rw [if_neg hv]
      exact ⟨⟨fun w => absurd w hv, fun _ => e201.1⟩, _, rfl, K, e201.2, r3, r4⟩
theorem r_snap1 {a1 a2 to : Nat} {g : Int64} {z : Int32} (hto : to < 2) (h7 : N.1 232 137 = 0) (h1 : [232, 329, 332, 341].contains a1 = false) (h2 : [232, 329, 332, 341].contains a2 = false) (hkt : ∀ k, k < 135 → N.1 a1 k = nI (b1 (kt k))) (hkb : ∀ k, k < 135 → kt k = true → ∀ i, i < 28 → N.1 a2 (28 * k + i) = by8 (kb k i)) (hkb2 : ∀ k i, kb k i < 256) (hd : r_dk d N) (hz : N.1 232 136 = z) :
    cp_475_118 a1 a2 (nO 135 (las kt 135)) (nI to) g 0 0 N ∧ ∃ K, cf_475_118 a1 a2 (nO 135 (las kt 135)) (nI to) g 0 0 N = ((sn kt kb to g d z).2.2.2, K) ∧ fr [232, 329, 332, 341] N (K.1, N.2) ∧ (∀ c, c ≠ 232 → K.2 c = N.2 c) ∧ r_dk (sn kt kb to g d z).1 K ∧
      (K.1 232 = if (sn kt kb to g d z).2.2.2 = true then upd (upd (upd (N.1 232) 136 (sn kt kb to g d z).2.1) 133 (nI to)) 135 (nI (cnt kt 135 + 1)) else upd (upd (N.1 232) 136 0) 137 1) ∧
      (K.2 232 = if (sn kt kb to g d z).2.2.2 = true then vp_updL (N.2 232) 134 g else N.2 232) := by
  have hcnt : ∀ k, cnt kt k ≤ k := cnt_le kt
  have hc135 := hcnt 135
  refine mz_lpn (f := cq_475_118 a1 a2 (nO 135 (las kt 135)) (nI to) g) (P := cd_475_118 a1 a2 (nO 135 (las kt 135)) (nI to) g) (Q := fun t => ∃ K, t = ((sn kt kb to g d z).2.2.2, K) ∧ fr [232, 329, 332, 341] N (K.1, N.2) ∧ (∀ c, c ≠ 232 → K.2 c = N.2 c) ∧ r_dk (sn kt kb to g d z).1 K ∧ (K.1 232 = if (sn kt kb to g d z).2.2.2 = true then upd (upd (upd (N.1 232) 136 (sn kt kb to g d z).2.1) 133 (nI to)) 135 (nI (cnt kt 135 + 1)) else upd (upd (N.1 232) 136 0) 137 1) ∧ (K.2 232 = if (sn kt kb to g d z).2.2.2 = true then vp_updL (N.2 232) 134 g else N.2 232)) 135 (fun k s => ∃ M, s = (nI (sn_k kt kb to g d z k).2.2.1, nI k, M) ∧ (sn_k kt kb to g d z k).2.2.2 = true ∧ r_w N (sn_k kt kb to g d z k).1 (sn_k kt kb to g d z k).2.1 M) ?_ ?_ (Nat.zero_le _) ⟨N, rfl, rfl, fr_refl _ _, hd, ?_⟩
  · rintro k s hk ⟨M, rfl, hok, hM⟩
    have hrow := sn_row hok
    have hck := hcnt k
    have e : sn_k kt kb to g d z (k + 1) = sn_1 kt kb to (cnt kt 135) g k (sn_k kt kb to g d z k) := rfl
    have st := sn_stay (kt := kt) (kb := kb) (to := to) (g := g) (d := d) (z := z) (k := k + 1)
    generalize hS : sn_k kt kb to g d z k = S at *
    have g2 : mz_gI M a1 (nI k) = nI (b1 (kt k)) := by rw [gI_a, nI_clamp (by omega), hM.1.1 a1 h1, hkt k hk]
    have gz : mz_gZ M a1 (nI k) = kt k := by
      rw [gZ_a]
      have : M.1 a1 (nI k).toNatClampNeg = nI (b1 (kt k)) := g2
      rw [this]
      cases kt k <;> decide
    have z1 : mz_z01 (mz_gI M a1 (nI k)) := by rw [g2]; exact z01_b _
    cases hktk : kt k with
    | true =>
      have e1 : sn_1 kt kb to (cnt kt 135) g k S = (dkw S.1 to (S.2.2.1 + 1) (rw0 (kdk k) (ixk k) (decide (S.2.2.1 + 1 = cnt kt 135)) (S.2.2.1 + 1) g (kb k)) (decide (S.2.1 ≠ 0)), fus1 S.2.1, S.2.2.1 + 1, decide (S.2.1 ≠ 0)) := by
        unfold sn_1; rw [if_pos ⟨hok, hktk⟩]
      rw [e1] at e
      have hlast : (nI k = nO 135 (las kt 135)) ↔ decide (S.2.2.1 + 1 = cnt kt 135) = true := by
        have hl := las_iff hktk hk (Nat.le_refl 135)
        rw [cnt_s hktk] at hl
        rw [decide_eq_true_eq, hrow, ← hl]
        by_cases y : las kt 135 < 135
        · rw [nO_lt y, nI_eq (by omega) (by omega)]; exact eq_comm
        · rw [nO_ge y, nI_m1 (by omega)]
          exact ⟨False.elim, fun w => by omega⟩
      obtain ⟨r1, K, r2, r3, r4⟩ := r_key (N := N) (d := S.1) (a1 := a1) (a2 := a2) (to := to) (k := k) (row := S.2.2.1 + 1) (g := g) (z := S.2.1) (pay := kb k) (la := decide (S.2.2.1 + 1 = cnt kt 135)) (v3 := nO 135 (las kt 135)) (M := M) hto hk (by omega) h7 hlast h2 (hkb k hk hktk) (hkb2 k) hM
      have hst : cd_475_118 a1 a2 (nO 135 (las kt 135)) (nI to) g (nI S.2.2.1, nI k, M) ∧ cq_475_118 a1 a2 (nO 135 (las kt 135)) (nI to) g (nI S.2.2.1, nI k, M) = (if S.2.1 = 0 then .inr (false, K) else .inl (nI (S.2.2.1 + 1), nI (k + 1), K)) := by
        simp (disch := omega) only [cd_475_118, cq_475_118, nI_ltI, (show (135 : Int32) = nI 135 from rfl), hk, gz, z1, hktk, nI_1, ib_i, r1, r2, not_false_eq_true, not_true_eq_false, if_true, if_false, true_implies, false_implies, implies_true, and_true, true_and]
      refine ⟨hst.1, ?_⟩
      by_cases h0 : S.2.1 = 0
      · rw [if_pos h0] at hst
        rw [show decide (S.2.1 ≠ 0) = false from decide_eq_false (fun w => w h0)] at e
        have hfin : sn kt kb to g d z = sn_k kt kb to g d z (k + 1) := by
          unfold sn
          rw [st (by rw [e]) 135 (by omega), sn_h, if_neg (by rw [e]; exact fun w => by cases w)]
        obtain ⟨x1, x2, x3⟩ := r4 h0
        refine Or.inr ⟨_, hst.2, K, ?_, ?_⟩
        · rw [hfin, e]
        · rw [hfin, e]
          refine ⟨⟨x1.1, rfl⟩, fun c _ => by rw [x1.2], x2, ?_, ?_⟩
          · rw [if_neg (by exact fun w => by cases w)]; exact x3
          · rw [if_neg (by exact fun w => by cases w), x1.2]
      · rw [if_neg h0] at hst
        rw [show decide (S.2.1 ≠ 0) = true from decide_eq_true h0] at e
        exact Or.inl ⟨_, hst.2, K, by rw [e], by rw [e], by rw [e]; exact r3 h0⟩
    | false =>
      have e1 : sn_1 kt kb to (cnt kt 135) g k S = S := by
        unfold sn_1; rw [if_neg (fun w => by rw [hktk] at w; cases w.2)]
      rw [e1] at e
      simp (disch := omega) only [cd_475_118, cq_475_118, cp_475_211, cf_475_211, nI_ltI, (show (135 : Int32) = nI 135 from rfl), hk, gz, z1, hktk, nI_1, ib_i, Bool.false_eq_true, not_false_eq_true, not_true_eq_false, if_true, if_false, true_implies, false_implies, implies_true, and_true, true_and]
      exact Or.inl ⟨_, rfl, M, by rw [e], by rw [e]; exact hok, by rw [e]; exact hM⟩
  · rintro s ⟨M, rfl, hok, hM⟩
    have hrow := sn_row hok
    unfold sn
    generalize hS : sn_k kt kb to g d z 135 = S at *
    obtain ⟨q1, K, q2, q3, q4⟩ := r_head (N := N) (d := S.1) (to := to) (m := S.2.2.1) (g := g) (z := S.2.1) (M := M) hto (by omega) h7 hM
    have hh : sn_h to (cnt kt 135) g S = (dkw S.1 to 0 (rw0 0 0 true 0 g (hdp (cnt kt 135))) (decide (S.2.1 ≠ 0)), fus1 S.2.1, S.2.2.1, decide (S.2.1 ≠ 0)) := by
      unfold sn_h; rw [if_pos hok]
    rw [hh]
    rw [hrow] at q1 q2 q3 q4 ⊢
    by_cases h0 : S.2.1 = 0
    · have hz0 : decide (S.2.1 ≠ 0) = false := decide_eq_false (fun w => w h0)
      rw [hz0] at q2 ⊢
      obtain ⟨x1, x2, x3⟩ := q4 h0
      simp (disch := omega) only [cd_475_118, cq_475_118, nI_ltI, (show (135 : Int32) = nI 135 from rfl), Nat.lt_irrefl, q1, q2, Bool.false_eq_true, not_false_eq_true, not_true_eq_false, if_true, if_false, true_implies, false_implies, implies_true, and_true, true_and]
      exact ⟨_, rfl, K, rfl, ⟨x1.1, rfl⟩, fun c _ => by rw [x1.2], x2, x3, by rw [x1.2]⟩
    · have hz0 : decide (S.2.1 ≠ 0) = true := decide_eq_true h0
      rw [hz0] at q2 ⊢
      obtain ⟨x1, x2, x3⟩ := q3 h0
      simp (disch := omega) only [cd_475_118, cq_475_118, nI_ltI, (show (135 : Int32) = nI 135 from rfl), Nat.lt_irrefl, q1, q2, nI_1, not_false_eq_true, not_true_eq_false, if_true, if_false, true_implies, false_implies, implies_true, and_true, true_and]
      refine ⟨_, rfl, _, rfl, ⟨?_, rfl⟩, ?_, ?_, ?_, ?_⟩
      · intro c hc
        have hc2 : c ≠ 232 := fun w => by rw [w] at hc; cases hc
        simp only [pI_s, pL_s, sI_1, sL_1, hc2, if_false]
        exact x1.1 c hc
      · intro c hc
        simp only [pI_s, pL_s, sI_2, sL_2, hc, if_false]
        rw [x1.2]
      · intro a' ha' j hj
        simp only [pI_s, pL_s, sI_1, sL_1, Nat.reduceEqDiff, if_false]
        exact x2 a' ha' j hj
      · simp only [pI_s, pL_s, sI_1, sL_1, if_true]
        rw [x3]
      · simp only [pI_s, pL_s, sI_2, sL_2, if_true]
        rw [x1.2]
  · funext k
    rw [up_a]
    by_cases w : k = 136
    · rw [if_pos w, w]; exact hz
    · rw [if_neg w]
end Sn2
