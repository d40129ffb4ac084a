/-! PURE (6): the reference's spaces. -/
section Rdv
variable {w : Nat → Bool} {N : mz_N} {p : Nat}
theorem dv_step {w : Nat → Bool} {k : Nat} (hk : k < 240) (h0 : (dv w k).1 k = 240) : (∀ m, m < (dv w k).2 → (fun c => decide ((dv w (k + 1)).1 c = m)) = fun c => decide ((dv w k).1 c = m)) ∧ lst (fun c => decide ((dv w (k + 1)).1 c = (dv w k).2)) 240 = k ∧ cnt (fun c => decide ((dv w (k + 1)).1 c = (dv w k).2)) 240 = (fl w k (dv w k).2 (dv w k).1).2.2 ∧ dv w (k + 1) = ((fl w k (dv w k).2 (dv w k).1).1, (dv w k).2 + 1) := by
  have hdv := dv_ok w k (by omega)
  have e : dv w (k + 1) = ((fl w k (dv w k).2 (dv w k).1).1, (dv w k).2 + 1) := by
    show dv_1 w k (dv w k) = _
    unfold dv_1
    rw [if_pos h0]
  obtain ⟨f1, f2, f3, f4⟩ := fl_ok (w := w) hk hdv.1 h0 hdv.2.1
  rw [e]
  simp only
  generalize fl w k (dv w k).2 (dv w k).1 = x at *
  generalize dv w k = y at *
  obtain ⟨a1, a2, a3, a4, a5, a6⟩ := hdv
  obtain ⟨g1, g2, g3, g4, g5⟩ := f1
  refine ⟨fun m hm => funext fun c => ?_, ?_, g5, trivial⟩
  · have : (x.1 c = m) ↔ (y.1 c = m) := by
      rcases g4 c with q | ⟨q1, q2, -⟩
      · rw [q]
      · rw [q1, q2]; constructor <;> intro z <;> omega
    exact decide_eq_decide.mpr this
  · refine lst_of hk (by simpa using f4) (fun i hi => ?_)
    have := a3 i hi
    rcases g4 i with q | ⟨q1, q2, -⟩
    · rw [q]; simp; omega
    · omega
/-- what is known of the spaces, in the reference's cells -/
def r_sp (lab : Nat → Nat) (n : Nat) (f g h : Nat → Int32) : Prop := (∀ c, c < 240 → f c = nO 240 (lab c)) ∧ ∀ m, m < n → g m = nI (lst (fun c => decide (lab c = m)) 240) ∧ h m = nI (cnt (fun c => decide (lab c = m)) 240)
def r_spN (N : mz_N) (f q g h : Nat → Int32) (n : Int32) : mz_N := mz_sI (mz_sI (mz_sI (mz_sI (mz_sI N 235 f) 238 q) 236 g) 237 h) 232 (upd (N.1 232) 7 n)
set_option maxHeartbeats 4000000 in
theorem r_dv2 (hp : p < 8) (hw : ∀ k, k < 550 → (N.1 233 (550 * p + k) = 0 ↔ w k = true)) {f0 : Nat → Int32} (hf0 : ∀ c, c < 240 → f0 c = -1) : cp_428_29 (nI p) 0 (mz_sI (mz_sI N 235 f0) 232 (upd (N.1 232) 7 0)) ∧ ∃ f q g h, cf_428_29 (nI p) 0 (mz_sI (mz_sI N 235 f0) 232 (upd (N.1 232) 7 0)) = r_spN N f q g h (nI (dv w 240).2) ∧ r_sp (dv w 240).1 (dv w 240).2 f g h := by
  refine mz_lpn (f := cq_428_29 (nI p)) (P := cd_428_29 (nI p)) (Q := fun t => ∃ f q g h, t = r_spN N f q g h (nI (dv w 240).2) ∧ r_sp (dv w 240).1 (dv w 240).2 f g h) 240 (fun k s1 => ∃ f q g h, s1 = (nI k, r_spN N f q g h (nI (dv w k).2)) ∧ r_sp (dv w k).1 (dv w k).2 f g h) ?_ ?_ (Nat.zero_le 240) ⟨f0, N.1 238, N.1 236, N.1 237, ?_, fun c hc => ?_, fun m hm => absurd hm (Nat.not_lt_zero _)⟩
  · rintro k s1 hk ⟨f, q, g, h, rfl, hf, hg⟩
    have hdv := dv_ok w k (by omega)
    have hle : (dv w k).1 k ≤ 240 := by have := hdv.1; rcases hdv.2.1 k with z | ⟨-, z⟩ <;> omega
    have hl : mz_gI (r_spN N f q g h (nI (dv w k).2)) 235 (nI k) = nO 240 ((dv w k).1 k) := by
      simp only [r_spN, gI_a, sI_1, nI_clamp (show k < 2 ^ 31 by omega), hf k hk, reduceIte, Nat.reduceEqDiff]
    have hn : (r_spN N f q g h (nI (dv w k).2)).1 232 7 = nI (dv w k).2 := by
      simp only [r_spN, sI_e, up_a, if_true]
    by_cases h0 : (dv w k).1 k = 240
    · obtain ⟨s1, s2, s3, s4⟩ := dv_step hk h0
      have hnk := hdv.1
      have hN2 : ∀ j, j < 550 → ((mz_sI (mz_sI (mz_sI N 236 (upd g (dv w k).2 (nI k))) 237 h) 232 (upd (N.1 232) 7 (nI (dv w k).2))).1 233 (550 * p + j) = 0 ↔ w j = true) := by
        intro j hj
        simp only [sI_1, Nat.reduceEqDiff, if_false]
        exact hw j hj
      have e1 : mz_wI (r_spN N f q g h (nI (dv w k).2)) 236 (nI (dv w k).2) (nI k) = mz_sI (mz_sI (mz_sI (mz_sI (mz_sI N 236 (upd g (dv w k).2 (nI k))) 237 h) 232 (upd (N.1 232) 7 (nI (dv w k).2))) 235 f) 238 q := by
        rw [wI_s, nI_clamp (by omega)]
        refine mz_ext (fun c => ?_) (fun c => rfl)
        simp only [r_spN, sI_1]
        by_cases z1 : c = 232
        · subst z1; simp
        · by_cases z2 : c = 235
          · subst z2; simp
          · by_cases z3 : c = 236
            · subst z3; simp
            · by_cases z4 : c = 237
              · subst z4; simp
              · simp [z1, z2, z3, z4]
      obtain ⟨p1, f2, q2, p2, p3⟩ := r_fl (N := mz_sI (mz_sI (mz_sI N 236 (upd g (dv w k).2 (nI k))) 237 h) 232 (upd (N.1 232) 7 (nI (dv w k).2))) hp hN2 hk hdv.1 h0 hdv.2.1 ⟨f, q, rfl, hf⟩
      have hn2 : (mz_sI (mz_sI (mz_sI (mz_sI (mz_sI N 236 (upd g (dv w k).2 (nI k))) 237 h) 232 (upd (N.1 232) 7 (nI (dv w k).2))) 235 f) 238 q).1 232 7 = nI (dv w k).2 := by
        simp [sI_1, up_a]
      simp (disch := omega) only [cd_428_29, cq_428_29, cf_428_84, cp_428_84, nI_ltI, (show (240 : Int32) = nI 240 from rfl), hk, hl, h0, nO_neg, hn, e1, hn2, p1, p2, ib_i, nI_1, Nat.lt_irrefl, not_false_eq_true, not_true_eq_false, if_true, if_false, true_implies, false_implies, implies_true, and_true, true_and]
      refine ⟨⟨by omega, by omega⟩, Or.inl ⟨_, rfl, f2, q2, upd g (dv w k).2 (nI k), upd h (dv w k).2 (nI (fl w k (dv w k).2 (dv w k).1).2.2), ?_, ?_, ?_⟩⟩
      · rw [Prod.mk.injEq]
        refine ⟨rfl, ?_⟩
        rw [s4]
        refine mz_ext (fun c => ?_) (fun c => rfl)
        simp only [r_spN, sI_1, wI_s, pI_s, nI_clamp (show (dv w k).2 < 2 ^ 31 by omega)]
        by_cases z1 : c = 232
        · subst z1
          funext j
          by_cases z : j = 7
          · subst z; simp [up_a, nI_1]
          · simp [up_a, z]
        · by_cases z2 : c = 235
          · subst z2; simp
          · by_cases z3 : c = 236
            · subst z3; simp
            · by_cases z4 : c = 237
              · subst z4; simp
              · simp [z1, z2, z3, z4]
      · intro c hc
        simp only [s4]
        exact p3 c hc
      · intro m hm
        by_cases em : m = (dv w k).2
        · subst em
          simp only [s2, s3, up_a, if_true, and_self]
        · rw [s4] at hm
          have hm2 : m < (dv w k).2 := by have : m < (dv w k).2 + 1 := hm; omega
          rw [s1 m hm2]
          simp only [up_a, em, if_false]
          exact hg m hm2
    · have e : dv w (k + 1) = dv w k := by
        show dv_1 w k (dv w k) = _
        unfold dv_1
        rw [if_neg h0]
      simp (disch := omega) only [cd_428_29, cq_428_29, cf_428_84, cp_428_84, nI_ltI, (show (240 : Int32) = nI 240 from rfl), hk, hl, nO_lt (show (dv w k).1 k < 240 by omega), nI_lt0, ib_i, nI_1, e, not_false_eq_true, not_true_eq_false, if_true, if_false, true_implies, false_implies, implies_true, and_true, true_and]
      exact Or.inl ⟨_, rfl, f, q, g, h, rfl, hf, hg⟩
  · rintro s1 ⟨f, q, g, h, rfl, hf⟩
    simp (disch := omega) only [cd_428_29, cq_428_29, nI_ltI, (show (240 : Int32) = nI 240 from rfl), Nat.lt_irrefl, not_false_eq_true, not_true_eq_false, if_true, if_false, true_implies, false_implies, implies_true, and_true, true_and]
    exact ⟨_, rfl, f, q, g, h, rfl, hf⟩
  · refine Prod.ext rfl (mz_ext (fun c => ?_) (fun c => rfl))
    show (mz_sI (mz_sI N 235 f0) 232 (upd (N.1 232) 7 0)).1 c = (r_spN N f0 (N.1 238) (N.1 236) (N.1 237) (nI 0)).1 c
    simp only [r_spN, sI_1, nI_0]
    by_cases z1 : c = 232
    · subst z1; simp
    · by_cases z2 : c = 235
      · subst z2; simp
      · by_cases z3 : c = 236
        · subst z3; simp
        · by_cases z4 : c = 237
          · subst z4; simp
          · by_cases z5 : c = 238
            · subst z5; simp
            · simp [z1, z2, z3, z4, z5]
  · rw [hf0 c hc]; rfl
theorem r_dv (hp : p < 8) (hw : ∀ k, k < 550 → (N.1 233 (550 * p + k) = 0 ↔ w k = true)) : cp_428_0 (nI p) N ∧ ∃ f q g h, cf_428_0 (nI p) N = r_spN N f q g h (nI (dv w 240).2) ∧ r_sp (dv w 240).1 (dv w 240).2 f g h := by
  have hh := mz_lpn (f := cq_428_7 (nI p)) (P := cd_428_7 (nI p)) (Q := fun t => ∃ f q g h, t = r_spN N f q g h (nI (dv w 240).2) ∧ r_sp (dv w 240).1 (dv w 240).2 f g h) 240 (fun k s1 => ∃ f, s1 = (nI k, mz_sI (mz_sI N 235 f) 232 (upd (N.1 232) 7 0)) ∧ ∀ c, c < k → f c = -1) ?_ ?_ (Nat.zero_le 240) (s := (nI 0, mz_pI N 232 7 0)) ⟨N.1 235, by rw [sI_same, pI_s], fun c hc => absurd hc (Nat.not_lt_zero _)⟩
  · exact hh
  · rintro k s1 hk ⟨f, rfl, hf⟩
    simp (disch := omega) only [cd_428_7, cq_428_7, nI_ltI, (show (240 : Int32) = nI 240 from rfl), hk, ib_i, nI_1, not_false_eq_true, not_true_eq_false, if_true, if_false, true_implies, false_implies, implies_true, and_true, true_and]
    refine Or.inl ⟨_, rfl, upd f k (-1), ?_, ?_⟩
    · congr 1
      rw [wI_s, nI_clamp (by omega), sI_comm (by decide), sI_n (by decide), sI_e, sI_sI]
    · intro c hc
      rw [up_a]
      by_cases e : c = k
      · rw [if_pos e]
      · rw [if_neg e]; exact hf c (by omega)
  · rintro s1 ⟨f, rfl, hf⟩
    obtain ⟨p1, p2⟩ := r_dv2 hp hw hf
    simp (disch := omega) only [cd_428_7, cq_428_7, nI_ltI, (show (240 : Int32) = nI 240 from rfl), Nat.lt_irrefl, p1, not_false_eq_true, not_true_eq_false, if_true, if_false, true_implies, false_implies, implies_true, and_true, true_and]
    exact ⟨_, rfl, p2⟩
end Rdv
