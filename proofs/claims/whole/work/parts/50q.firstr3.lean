/-! PURE (50q): the reference's things at first: together. -/
theorem lay_r {N : mz_N} : cp_416_0 0 N ∧ ∃ g, cf_416_0 0 N = mz_sI N 233 g ∧ ∀ j, g j = if 0 ≤ j ∧ j < 0 + 550 then nI (fe0 (j - 0)) else N.1 233 j :=
  lp_fill (f := cq_416_2 0) (P := cd_416_2 0) (N := N) 233 0 550 (fun t => nI (fe0 t)) id (by omega) (fun t ht g => by
    have hlt : nI t < 550 := (nI_ltI (b := 550) (by omega) (by omega)).mpr ht
    have e : mz_irem (nI t) 110 = nI (t % 110) := by rw [show (110 : Int32) = nI 110 from rfl, irem_n (by omega) (by omega) (by omega)]
    have e0 : 550 * 0 + nI t = nI t := by rw [show (550 * 0 : Int32) = nI 0 by decide, nI_add, Nat.zero_add]
    have h := (ge_e (t % 110) (Nat.mod_lt _ (by omega))).2.2.2.2.2
    have hl := sd_le (t % 110) (Nat.mod_lt _ (by omega))
    have i1 : mz_ib (nI t) 4400 := ib_n (by omega) (by omega)
    rw [cd_416_2, cq_416_2]
    simp only [hlt, if_true, e, e0, h, cp_416_35, cf_416_35, nI_1, Nat.zero_add]
    refine ⟨⟨fun _ => ⟨fun _ => i1, fun _ => i1⟩, fun w => absurd trivial w⟩, ?_⟩
    by_cases w : ge_sd (t % 110) = 4
    · have hd : decide (ge_sd (t % 110) < 4) = false := decide_eq_false (by omega)
      rw [hd, if_neg Bool.false_ne_true, show fe0 t = 0 from if_pos w]; rfl
    · have hd : decide (ge_sd (t % 110) < 4) = true := decide_eq_true (by omega)
      rw [hd, if_pos rfl, show fe0 t = 2 from if_neg w]; rfl) (fun g => by
    have hlt : ¬ nI 550 < 550 := by decide
    rw [cd_416_2, cq_416_2]
    simp only [hlt, if_false]
    exact ⟨⟨False.elim, fun _ => trivial⟩, rfl⟩)
/-- what isn't kept, at first -/
def r_nf (M : mz_N) : Prop :=
  (∀ j, j < 11 → M.1 272 j = 0 ∧ M.1 273 j = 0 ∧ M.1 274 j = 0 ∧ M.1 275 j = 0) ∧ (∀ j, j < 240 → M.2 260 j = 18000 ∧ M.2 261 j = 0 ∧ M.2 262 j = 0 ∧ M.2 263 j = 0 ∧ M.2 264 j = 0 ∧ M.2 265 j = 0) ∧ (∀ j, j < 10 → M.1 278 j = 0) ∧ (∀ j, j < 18 → M.1 279 j = 0) ∧ (∀ j, j < 8 → M.1 285 j = 0) ∧ (∀ j, j < 40 → M.1 316 j = -1) ∧ (∀ j, j < 2 → M.2 298 j = -1 ∧ M.1 296 j = 0 ∧ M.1 297 j = 0) ∧
  (M.2 232 66 = 0 ∧ M.2 232 68 = 0 ∧ M.1 232 52 = 1 ∧ M.1 232 53 = 100 ∧ M.1 232 54 = 1500 ∧ M.1 232 55 = 0 ∧ M.1 232 61 = 2000 ∧ M.1 232 62 = 20000 ∧ M.1 232 63 = 0 ∧ M.1 232 64 = 0 ∧ M.1 232 65 = 0 ∧ M.1 232 67 = 0 ∧ M.1 232 72 = 0 ∧ M.1 232 112 = 0 ∧ M.1 232 96 = 0 ∧ M.1 232 141 = 0 ∧ M.1 232 143 = 0 ∧ M.1 232 25 = 0 ∧ M.1 232 36 = 0 ∧ M.1 232 4 = 0)
def rfA : List Nat := [233, 234, 244, 246, 245, 247, 248, 272, 273, 274, 275, 278, 249, 250, 306, 307, 252, 232, 296, 297, 311, 316, 308, 287, 282, 285, 279]
def rfB : List Nat := [260, 261, 262, 263, 264, 265, 321, 322, 323, 324, 325, 305, 232, 298]
theorem r_first {N : mz_N} : cp_415_0 N ∧ fq rfA rfB N (cf_415_0 N) ∧ r_kp (cf_415_0 N) H0 ∧ r_ks (cf_415_0 N) H0 ∧ r_nf (cf_415_0 N) ∧ (∀ f, f ≠ 4 → rfF.contains f = false → (cf_415_0 N).1 232 f = N.1 232 f) ∧ ∀ f, rfG.contains f = false → (cf_415_0 N).2 232 f = N.2 232 f := by
  obtain ⟨p1, g, p2, p3⟩ := lay_r (N := N)
  have p2' : cf_416_0 0 N = mz_sI N 233 g := p2
  rw [cp_415_0, cf_415_0, p2']
  obtain ⟨q1, q2, ⟨t6, t5, t4, t3, t2, t1, ⟨u1, u2, u3⟩, ⟨v1, v2, v3, v4, v5, v6, v7⟩, ⟨w1, w2, w3, w4, w5, w6, w7, w8, w9, w10, w11, w12, w13, w14, w15, w16⟩, x6, x5, x4, x3, x2, x1⟩, q4, q5⟩ := rg6 (N := mz_pI (mz_sI N 233 g) 232 4 0)
  have h233 : (cf_415_12 0 (mz_pI (mz_sI N 233 g) 232 4 0)).1 233 = g := (q2.1 233 rfl).trans (by rw [pI_s, sI_n (by decide), sI_e])
  have h4 : (cf_415_12 0 (mz_pI (mz_sI N 233 g) 232 4 0)).1 232 4 = 0 := q4 4 rfl
  have hfr : fq rfA rfB N (cf_415_12 0 (mz_pI (mz_sI N 233 g) 232 4 0)) := fq_trans (fq_pI (fq_sI (fq_refl _ _ _) rfl) rfl) (fq_sub q2 rfl rfl)
  have ho1 : ∀ f, f ≠ 4 → rfF.contains f = false → (cf_415_12 0 (mz_pI (mz_sI N 233 g) 232 4 0)).1 232 f = N.1 232 f := fun f f4 hf => by
    rw [q4 f hf, pI_s, sI_e, up_a, if_neg f4, sI_n (by decide)]
  have ho2 : ∀ f, rfG.contains f = false → (cf_415_12 0 (mz_pI (mz_sI N 233 g) 232 4 0)).2 232 f = N.2 232 f := fun f hf => q5 f hf
  generalize cf_415_12 0 (mz_pI (mz_sI N 233 g) 232 4 0) = M at *
  refine ⟨⟨p1, q1⟩, hfr, ⟨fun j hj => ?_, fun j hj => (t6 j hj).1, fun j hj => (t6 j hj).2.1, fun j hj => ?_, fun j hj => (t5 j (by omega)).1, u1, fun j hj => t1 j hj, fun j hj => ⟨(t4 j hj).1, (t4 j hj).2.1⟩, fun j hj => ⟨(t4 j hj).2.2.2.2.2.2.1, (t4 j hj).2.2.2.2.2.2.2.1, (t4 j hj).2.2.2.2.2.2.2.2⟩, fun j hj => ⟨(t3 j hj).1, (t3 j hj).2.1⟩, ⟨v1, v2, v3, v4, v5⟩, ⟨w1, fun j hj => ?_⟩, fun j hj => ⟨(t2 j hj).2.1, (t2 j hj).2.2.1, (t2 j hj).2.2.2.1, (t2 j hj).2.2.2.2⟩, fun j hj => ⟨x4 j hj, (fun q => by cases q)⟩, fun j hj => ⟨x3 j hj, (fun q => by cases q)⟩, fun j hj => ⟨(x2 j hj).1, (fun q => by cases q)⟩, fun j hj => ⟨(x5 j hj).1, (fun q => by cases q)⟩⟩, (fun j hj q => by cases q), ⟨fun j hj => ⟨(t4 j hj).2.2.1, (t4 j hj).2.2.2.1, (t4 j hj).2.2.2.2.1, (t4 j hj).2.2.2.2.2.1⟩, fun j hj => (t6 j hj).2.2, fun j hj => (t3 j hj).2.2, x6, fun j hj => (x5 j hj).2, fun j hj => (x2 j hj).2, x1, v6, v7, w2, w3, w4, w5, w6, w7, w8, w9, w10, w11, w12, w13, w14, w15, w16, u2, u3, h4⟩, ho1, ho2⟩
  · rw [h233, p3, if_pos (by omega), Nat.sub_zero]; rfl
  · have := (t5 j (by omega)).2
    rw [Nat.mod_eq_of_lt hj] at this
    rw [this]; rfl
  · rw [(t2 j hj).1]
    show (0 : Int32) = if j + 1 = 0 then 5000 else 0
    rw [if_neg (by omega)]
