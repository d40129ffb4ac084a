/-! PURE (10): the class's survey of its plan. -/
theorem dv_mono (w : Nat → Bool) : ∀ k, k ≤ 240 → (∀ c, (dv w k).1 c ≠ 240 → c / 48 ≤ k / 48) ∧ ∀ c c', (dv w k).1 c ≠ 240 → (dv w k).1 c' ≠ 240 → c / 48 < c' / 48 → (dv w k).1 c < (dv w k).1 c' := by
  intro k
  induction k with
  | zero => intro _; exact ⟨fun c h => absurd rfl h, fun c c' h => absurd rfl h⟩
  | succ k ih =>
    intro hk
    obtain ⟨i1, i2⟩ := ih (by omega)
    have hI := dv_ok w k (by omega)
    by_cases h0 : (dv w k).1 k = 240
    · obtain ⟨s1, s2, s3, s4⟩ := dv_step (by omega) h0
      obtain ⟨f1, f2, f3, f4⟩ := fl_ok (w := w) (show k < 240 by omega) hI.1 h0 hI.2.1
      rw [s4]
      simp only
      generalize fl w k (dv w k).2 (dv w k).1 = x at *
      obtain ⟨g1, g2, g3, g4, g5⟩ := f1
      have key : ∀ c, x.1 c ≠ 240 → (x.1 c = (dv w k).1 c ∧ (dv w k).1 c ≠ 240) ∨ (x.1 c = (dv w k).2 ∧ c / 48 = k / 48) := by
        intro c hc
        rcases g4 c with q | ⟨q1, q2, j, hj, q3⟩
        · exact Or.inl ⟨q, fun z => hc (by omega)⟩
        · have := (g3 j hj).1
          exact Or.inr ⟨q2, by omega⟩
      refine ⟨fun c hc => ?_, fun c c' hc hc' hs => ?_⟩
      · rcases key c hc with ⟨q, z⟩ | ⟨q, z⟩
        · have := i1 c z; omega
        · omega
      · rcases key c hc with ⟨q, z⟩ | ⟨q, z⟩
        · rcases key c' hc' with ⟨q', z'⟩ | ⟨q', z'⟩
          · have := i2 c c' z z' hs; omega
          · rcases hI.2.1 c with r | r <;> omega
        · rcases key c' hc' with ⟨q', z'⟩ | ⟨q', z'⟩
          · have := i1 c' z'; omega
          · omega
    · have e : dv w (k + 1) = dv w k := by
        show dv_1 w k (dv w k) = _
        unfold dv_1
        rw [if_neg h0]
      rw [e]
      exact ⟨fun c hc => by have := i1 c hc; omega, i2⟩
theorem pl_up {e : Nat → Nat} {c : Nat} (hc : c < 192) : pl_lab e c < pl_lab e (c + 48) := by
  have h1 := pl_lab_lt (e := e) (show c < 240 by omega)
  have h2 := pl_lab_lt (e := e) (show c + 48 < 240 by omega)
  have h3 := pl_n_le e
  exact (dv_mono (pl_w e) 240 (Nat.le_refl _)).2 c (c + 48) (by unfold pl_lab at h1; omega) (by unfold pl_lab at h2; omega) (by omega)
def pl_cep (e : Nat → Nat) (a b c : Nat) : Bool := decide ((pl_lab e c = a ∧ pl_lab e (c + 48) = b) ∨ (pl_lab e c = b ∧ pl_lab e (c + 48) = a))
def pl_tpp (e : Nat → Nat) (k c : Nat) : Bool := decide (192 ≤ c ∧ pl_lab e c = k)
/-- the weight between two spaces -/
def pl_W (e : Nat → Nat) (a b : Nat) : Nat := sumN (pl_we e a b) 550 + cnt (pl_cep e a b) 192
def pl_hv (e : Nat → Nat) (k : Nat) : Nat := cnt (pl_hvp e k) 550
def pl_gl (e : Nat → Nat) (k : Nat) : Nat := cnt (pl_glp e k) 550
def pl_gs (e : Nat → Nat) (d k : Nat) : Nat := cnt (pl_gsp e d k) 550
def pl_ls (e : Nat → Nat) (k : Nat) : Nat := pl_hv e k + 4 * pl_gl e k + cnt (pl_tpp e k) 240
def pl_dm (e : Nat → Nat) (c : Nat) : Bool := decide (0 < cnt (pl_dmp e c) 550)
section Srv
variable {e : Nat → Nat} {fl : Nat → Nat} {M : mz_N}
theorem c_ceil (hn : pl_n e ≤ 40) (h15 : ∀ c, c < 240 → M.1 15 c = nI (pl_lab e c)) (h27 : ∀ k, k < pl_n e → M.1 27 k = nI (pl_hv e k + 4 * pl_gl e k)) (h31 : ∀ a b, a < b → b < pl_n e → M.1 31 (40 * a + b) = nI (sumN (pl_we e a b) 550)) :
    cp_87_0 M ∧ ∃ f g, cf_87_0 M = mz_sI (mz_sI M 31 f) 27 g ∧ (∀ a b, a < b → b < pl_n e → f (40 * a + b) = nI (pl_W e a b)) ∧ ∀ k, k < pl_n e → g k = nI (pl_ls e k) := by
  refine mz_lpn (f := cq_87_2) (P := cd_87_2) (Q := fun t => ∃ f g, t = mz_sI (mz_sI M 31 f) 27 g ∧ (∀ a b, a < b → b < pl_n e → f (40 * a + b) = nI (pl_W e a b)) ∧ ∀ k, k < pl_n e → g k = nI (pl_ls e k)) 240 (fun t s => ∃ f g, s = (nI t, mz_sI (mz_sI M 31 f) 27 g) ∧ (∀ a b, a < b → b < pl_n e → f (40 * a + b) = nI (sumN (pl_we e a b) 550 + cnt (pl_cep e a b) (min t 192))) ∧ ∀ k, k < pl_n e → g k = nI (pl_hv e k + 4 * pl_gl e k + cnt (pl_tpp e k) t)) ?_ ?_ (Nat.zero_le 240) ⟨M.1 31, M.1 27, by rw [sI_same, sI_same]; rfl, fun a b h1 h2 => by rw [h31 a b h1 h2, Nat.zero_min, cnt, Nat.add_zero], fun k hk => by rw [h27 k hk, cnt, Nat.add_zero]⟩
  · rintro t s ht ⟨f, g, rfl, hf, hg⟩
    have hl := pl_lab_lt (e := e) ht
    have g1 : mz_gI (mz_sI (mz_sI M 31 f) 27 g) 15 (nI t) = nI (pl_lab e t) := by rw [gI_a, sI_n (by decide), sI_n (by decide), nI_clamp (by omega), h15 t ht]
    by_cases h : t < 192
    · have hl2 := pl_lab_lt (e := e) (show t + 48 < 240 by omega)
      have hup := pl_up (e := e) h
      have g2 : mz_gI (mz_sI (mz_sI M 31 f) 27 g) 15 (nI (t + 48)) = nI (pl_lab e (t + 48)) := by rw [gI_a, sI_n (by decide), sI_n (by decide), nI_clamp (by omega), h15 _ (by omega)]
      have g3 : mz_gI (mz_sI (mz_sI M 31 f) 27 g) 31 (nI (pl_lab e t * 40 + pl_lab e (t + 48))) = nI (sumN (pl_we e (pl_lab e t) (pl_lab e (t + 48))) 550 + cnt (pl_cep e (pl_lab e t) (pl_lab e (t + 48))) t) := by
        rw [gI_a, sI_n (by decide), sI_e, nI_clamp (by omega), Nat.mul_comm, hf _ _ hup hl2, Nat.min_eq_left (by omega)]
      simp (disch := omega) only [cd_87_2, cq_87_2, cf_87_47, cf_87_68, cp_87_47, cp_87_68, nI_ltI, (show (240 : Int32) = nI 240 from rfl), (show (48 : Int32) = nI 48 from rfl), (show (40 : Int32) = nI 40 from rfl), ht, nI_add, g1, g2, pk_mul, g3, show t + 48 < 240 by omega, ib_i, nI_1, not_false_eq_true, not_true_eq_false, if_true, if_false, true_implies, false_implies, implies_true, and_true, true_and]
      refine ⟨by omega, Or.inl ⟨_, rfl, upd f (40 * pl_lab e t + pl_lab e (t + 48)) (nI (sumN (pl_we e (pl_lab e t) (pl_lab e (t + 48))) 550 + cnt (pl_cep e (pl_lab e t) (pl_lab e (t + 48))) t + 1)), g, ?_, ?_, ?_⟩⟩
      · rw [Prod.mk.injEq]
        refine ⟨rfl, ?_⟩
        rw [wI_s, nI_clamp (by omega), sI_n (by decide), sI_e, sI_comm (by decide), sI_sI, Nat.mul_comm (pl_lab e t) 40]
      · intro a b h1 h2
        rw [up_a, Nat.min_eq_left (by omega)]
        have hc : pl_cep e a b t = decide (a = pl_lab e t ∧ b = pl_lab e (t + 48)) := by
          unfold pl_cep
          apply decide_eq_decide.mpr
          omega
        by_cases hz : a = pl_lab e t ∧ b = pl_lab e (t + 48)
        · rw [if_pos (by omega), cnt_s (by rw [hc]; simpa using hz), ← hz.1, ← hz.2, Nat.add_assoc]
        · rw [if_neg (by omega), cnt_sn (by rw [hc]; simpa using hz), hf a b h1 h2, Nat.min_eq_left (by omega)]
      · intro k hk
        rw [cnt_sn (by simp [pl_tpp]; omega)]; exact hg k hk
    · have g3 : mz_gI (mz_sI (mz_sI M 31 f) 27 g) 27 (nI (pl_lab e t)) = nI (pl_hv e (pl_lab e t) + 4 * pl_gl e (pl_lab e t) + cnt (pl_tpp e (pl_lab e t)) t) := by
        rw [gI_a, sI_e, nI_clamp (by omega), hg _ hl]
      simp (disch := omega) only [cd_87_2, cq_87_2, cf_87_47, cf_87_68, cp_87_47, cp_87_68, nI_ltI, (show (240 : Int32) = nI 240 from rfl), (show (48 : Int32) = nI 48 from rfl), (show (40 : Int32) = nI 40 from rfl), ht, nI_add, g1, g3, show ¬ t + 48 < 240 by omega, ib_i, nI_1, not_false_eq_true, not_true_eq_false, if_true, if_false, true_implies, false_implies, implies_true, and_true, true_and]
      refine ⟨by omega, Or.inl ⟨_, rfl, f, upd g (pl_lab e t) (nI (pl_hv e (pl_lab e t) + 4 * pl_gl e (pl_lab e t) + cnt (pl_tpp e (pl_lab e t)) t + 1)), ?_, ?_, ?_⟩⟩
      · rw [Prod.mk.injEq]
        refine ⟨rfl, ?_⟩
        rw [wI_s, nI_clamp (by omega), sI_e, sI_sI]
      · intro a b h1 h2
        rw [hf a b h1 h2, Nat.min_eq_right (by omega), Nat.min_eq_right (by omega)]
      · intro k hk
        rw [up_a]
        by_cases hz : k = pl_lab e t
        · rw [if_pos hz, cnt_s (by simp [pl_tpp, hz]; omega), hz, Nat.add_assoc]
        · rw [if_neg hz, cnt_sn (by simp [pl_tpp]; exact fun _ q => hz q.symm)]; exact hg k hk
  · rintro s ⟨f, g, rfl, hf, hg⟩
    simp (disch := omega) only [cd_87_2, cq_87_2, nI_ltI, (show (240 : Int32) = nI 240 from rfl), Nat.lt_irrefl, not_false_eq_true, not_true_eq_false, if_true, if_false, true_implies, false_implies, implies_true, and_true, true_and]
    exact ⟨_, rfl, f, g, rfl, hf, hg⟩
end Srv
