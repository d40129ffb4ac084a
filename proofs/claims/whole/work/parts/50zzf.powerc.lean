/-! PURE (50zzf): power in the class. -/
/-- the cells of power: loads, heating, tripped, shed, fields, meters -/
def pmc (N : mz_N) (a b c d F m : Nat → Int32) : mz_N := (fun z => if z = 58 then a else if z = 59 then b else if z = 60 then c else if z = 61 then d else if z = 56 then F else if z = 211 then m else N.1 z, N.2)
section Pwc
variable {N : mz_N} {a b c d F m : Nat → Int32} {i v : Int32} {j : Nat}
theorem pm_w {z : Nat} {g : Nat → Int32} (h : z = 58 ∨ z = 59 ∨ z = 60 ∨ z = 61 ∨ z = 56 ∨ z = 211) : mz_sI (pmc N a b c d F m) z g = pmc N (if z = 58 then g else a) (if z = 59 then g else b) (if z = 60 then g else c) (if z = 61 then g else d) (if z = 56 then g else F) (if z = 211 then g else m) := by
  unfold mz_sI pmc
  refine Prod.ext (funext fun y => ?_) rfl
  rcases h with rfl | rfl | rfl | rfl | rfl | rfl
  all_goals
    simp only
    by_cases h1 : y = 58
    · subst h1; rfl
    · by_cases h2 : y = 59
      · subst h2; rfl
      · by_cases h3 : y = 60
        · subst h3; rfl
        · by_cases h4 : y = 61
          · subst h4; rfl
          · by_cases h5 : y = 56
            · subst h5; rfl
            · by_cases h6 : y = 211
              · subst h6; rfl
              · simp [h1, h2, h3, h4, h5, h6]
theorem pm_58 : mz_wI (pmc N a b c d F m) 58 i v = pmc N (upd a i.toNatClampNeg v) b c d F m := by rw [wI_s, pm_w (Or.inl rfl)]; rfl
theorem pm_59 : mz_wI (pmc N a b c d F m) 59 i v = pmc N a (upd b i.toNatClampNeg v) c d F m := by rw [wI_s, pm_w (Or.inr (Or.inl rfl))]; rfl
theorem pm_60 : mz_wI (pmc N a b c d F m) 60 i v = pmc N a b (upd c i.toNatClampNeg v) d F m := by rw [wI_s, pm_w (Or.inr (Or.inr (Or.inl rfl)))]; rfl
theorem pm_61 : mz_wI (pmc N a b c d F m) 61 i v = pmc N a b c (upd d i.toNatClampNeg v) F m := by rw [wI_s, pm_w (Or.inr (Or.inr (Or.inr (Or.inl rfl))))]; rfl
theorem pm_56 : mz_pI (pmc N a b c d F m) 56 j v = pmc N a b c d (upd F j v) m := by rw [pI_s, pm_w (Or.inr (Or.inr (Or.inr (Or.inr (Or.inl rfl)))))]; rfl
theorem pm_m : mz_wI (pmc N a b c d F m) 211 i v = pmc N a b c d F (upd m i.toNatClampNeg v) := by rw [wI_s, pm_w (Or.inr (Or.inr (Or.inr (Or.inr (Or.inr rfl)))))]; rfl
theorem pm_self : pmc N (N.1 58) (N.1 59) (N.1 60) (N.1 61) (N.1 56) (N.1 211) = N := by
  unfold pmc
  refine Prod.ext (funext fun y => ?_) rfl
  by_cases h1 : y = 58
  · subst h1; rfl
  · by_cases h2 : y = 59
    · subst h2; rfl
    · by_cases h3 : y = 60
      · subst h3; rfl
      · by_cases h4 : y = 61
        · subst h4; rfl
        · by_cases h5 : y = 56
          · subst h5; rfl
          · by_cases h6 : y = 211
            · subst h6; rfl
            · simp [h1, h2, h3, h4, h5, h6]
theorem pm_n {z : Nat} (h : z ≠ 58 ∧ z ≠ 59 ∧ z ≠ 60 ∧ z ≠ 61 ∧ z ≠ 56 ∧ z ≠ 211) : (pmc N a b c d F m).1 z = N.1 z := by
  unfold pmc
  simp [h]
end Pwc
/-- who is there -/
def pnt (e fl : Nat → Nat) (P : Nat → Nat) (hr f : Nat) : Nat := if pl_ht e fl f < pl_n e then P (24 * f + hr) else 0
section Pwd
variable {N : mz_N} {e fl P : Nat → Nat} {hr f : Nat}
theorem prs_c (hn : pl_n e ≤ 40) (h38 : ∀ j, j < 10 → N.1 38 j = nO (pl_n e) (pl_ht e fl j)) (h40 : ∀ j, j < 240 → N.1 40 j = nI (P j)) (hhr : hr < 24) (hf : f < 10) : cp_221_0 (nI f) (nI hr) N ∧ cf_221_0 (nI f) (nI hr) N = nI (pnt e fl P hr f) := by
  have l0 : ¬ nI f < 0 := nI_pos (by omega)
  have l1 : nI f < 10 := (nI_ltI (b := 10) (by omega) (by omega)).mpr hf
  have g : mz_gI N 38 (nI f) = nO (pl_n e) (pl_ht e fl f) := by rw [gI_a, nI_clamp (by omega)]; exact h38 f hf
  have ix : nI f * 24 + nI hr = nI (24 * f + hr) := by rw [show (24 : Int32) = nI 24 from rfl, pk_mul, nI_add, Nat.mul_comm]
  rw [cp_221_0, cf_221_0, cp_222_0, cf_222_0, if_neg l0, if_pos l1, g, ix, gI_a, nI_clamp (by omega), h40 _ (by omega)]
  have i1 : mz_ib (nI (24 * f + hr)) 240 := ib_n (by omega) (by omega)
  refine ⟨⟨⟨fun _ => trivial, fun _ => ⟨fun _ => ib_n hf (by omega), fun _ => trivial⟩⟩, fun _ => i1, fun _ => trivial⟩, ?_⟩
  unfold pnt
  by_cases w : pl_ht e fl f < pl_n e
  · rw [if_neg (show ¬ nO (pl_n e) (pl_ht e fl f) = -1 by rw [nO_m1 (by omega)]; exact fun q => q w), if_pos rfl, if_pos w]
  · rw [if_pos (show nO (pl_n e) (pl_ht e fl f) = -1 by rw [nO_m1 (by omega)]; exact w), if_neg Bool.false_ne_true, if_neg w]; rfl
theorem prs_r (hn : pl_n e ≤ 40) (h42 : ∀ j, j < 10 → N.1 242 j = nO (pl_n e) (pl_ht e fl j)) (h44 : ∀ j, j < 240 → N.1 244 j = nI (P j)) (hhr : hr < 24) (hf : f < 10) : cp_519_0 (nI f) (nI hr) N ∧ cf_519_0 (nI f) (nI hr) N = nI (pnt e fl P hr f) := by
  have g : mz_gI N 242 (nI f) = nO (pl_n e) (pl_ht e fl f) := by rw [gI_a, nI_clamp (by omega)]; exact h42 f hf
  have ix : 24 * nI f + nI hr = nI (24 * f + hr) := by rw [show (24 : Int32) = nI 24 from rfl, pk_mul, nI_add]
  rw [cp_519_0, cf_519_0, g, ix, gI_a, nI_clamp (by omega), h44 _ (by omega)]
  refine ⟨⟨ib_n hf (by omega), fun _ => trivial, fun _ => ib_n (by omega) (by omega)⟩, ?_⟩
  unfold pnt
  by_cases w : pl_ht e fl f < pl_n e
  · rw [if_neg (show ¬ nO (pl_n e) (pl_ht e fl f) < 0 by rw [nO_lt w]; exact nI_pos (by omega)), if_pos w]
  · rw [if_pos (show nO (pl_n e) (pl_ht e fl f) < 0 by rw [nO_ge w]; decide), if_neg w]; rfl
end Pwd
