/-! PURE (9): the class weighs walls and ceilings. -/
def ge_cl (i : Nat) : Nat := 48 * (i / 110) + (if ge_bf (i % 110) < 48 then ge_bf (i % 110) else ge_bh (i % 110))
def ge_ca (i : Nat) : Nat := 48 * (i / 110) + ge_bf (i % 110)
def ge_cb (i : Nat) : Nat := 48 * (i / 110) + ge_bh (i % 110)
def wg (k : Nat) : Nat := if k = 1 then 3 else if k = 3 then 5 else 1
def pl_hvp (e : Nat → Nat) (k i : Nat) : Bool := decide (ge_sd (i % 110) < 4 ∧ pl_lab e (ge_cl i) = k ∧ e i ≠ 3)
def pl_glp (e : Nat → Nat) (k i : Nat) : Bool := decide (ge_sd (i % 110) < 4 ∧ pl_lab e (ge_cl i) = k ∧ e i = 3)
def pl_gsp (e : Nat → Nat) (d k i : Nat) : Bool := decide (ge_sd (i % 110) = d ∧ pl_lab e (ge_cl i) = k ∧ e i = 3)
def pl_dmp (e : Nat → Nat) (c i : Nat) : Bool := decide (ge_sd (i % 110) < 4 ∧ ge_cl i = c ∧ e i ≠ 3)
def pl_we (e : Nat → Nat) (a b i : Nat) : Nat := if ge_sd (i % 110) = 4 ∧ ((pl_lab e (ge_ca i) = a ∧ pl_lab e (ge_cb i) = b) ∨ (pl_lab e (ge_ca i) = b ∧ pl_lab e (ge_cb i) = a)) then wg (e i) else 0
def b1 (b : Bool) : Nat := if b then 1 else 0
theorem imax_m1 {x : Nat} (hx : x < 2 ^ 31) : mz_imax (-1) (nI x) = nI x ∧ mz_imax (nI x) (-1) = nI x := by
  have h1 : (-1 : Int32) < nI x := by
    rw [Int32.lt_iff_toInt_lt, nI_toInt hx, show Int32.toInt (-1) = -1 by decide]; omega
  have h2 : ¬ nI x < (-1 : Int32) := by
    rw [Int32.lt_iff_toInt_lt, nI_toInt hx, show Int32.toInt (-1) = -1 by decide]; omega
  unfold mz_imax
  exact ⟨if_pos h1, if_neg h2⟩
theorem ge_cl_ok {t : Nat} (ht : t < 550) (h : ge_sd (t % 110) ≠ 4) : ge_cl t < 240 ∧ nI (t / 110) * 48 + mz_imax (cf_84_0 (nI (t % 110))) (cf_85_0 (nI (t % 110))) = nI (ge_cl t) := by
  have hq : t % 110 < 110 := Nat.mod_lt _ (by omega)
  obtain ⟨e1, e2, -⟩ := ge_e (t % 110) hq
  rw [e1, e2, show (48 : Int32) = nI 48 from rfl]
  unfold ge_cl
  rcases (ge_b (t % 110) hq).2 h with ⟨h1, h2⟩ | ⟨h1, h2⟩
  · rw [if_neg (by omega), nO_ge (by omega), nO_lt h2, (imax_m1 (by omega)).1, pk_mul, nI_add]
    exact ⟨by omega, by congr 1; omega⟩
  · rw [if_pos h1, nO_lt h1, nO_ge (by omega), (imax_m1 (by omega)).2, pk_mul, nI_add]
    exact ⟨by omega, by congr 1; omega⟩
theorem ge_ab_ok {t : Nat} (ht : t < 550) (h : ge_sd (t % 110) = 4) : ge_ca t < 240 ∧ ge_cb t < 240 ∧ nI (t / 110) * 48 + cf_84_0 (nI (t % 110)) = nI (ge_ca t) ∧ nI (t / 110) * 48 + cf_85_0 (nI (t % 110)) = nI (ge_cb t) ∧ 48 * nI (t / 110) + cf_432_0 (nI (t % 110)) = nI (ge_ca t) ∧ 48 * nI (t / 110) + cf_433_0 (nI (t % 110)) = nI (ge_cb t) := by
  have hq : t % 110 < 110 := Nat.mod_lt _ (by omega)
  obtain ⟨e1, e2, e3, e4, -⟩ := ge_e (t % 110) hq
  obtain ⟨h1, h2, -⟩ := (ge_b (t % 110) hq).1 h
  rw [e1, e2, e3, e4, show (48 : Int32) = nI 48 from rfl, nO_lt h1, nO_lt h2, pk_mul, pk_mul, nI_add, nI_add, nI_add, nI_add]
  unfold ge_ca ge_cb
  exact ⟨by omega, by omega, by congr 1; omega, by congr 1; omega, rfl, rfl⟩
/-- an open edge lies within a space -/
theorem pl_open2 {e : Nat → Nat} {t : Nat} (ht : t < 550) (h : ge_sd (t % 110) = 4) (h0 : e t = 0) : pl_lab e (ge_ca t) = pl_lab e (ge_cb t) := by
  have hq : t % 110 < 110 := Nat.mod_lt _ (by omega)
  obtain ⟨h1, h2, d, hd, h3, h4⟩ := (ge_b (t % 110) hq).1 h
  have := pl_open (e := e) (s := t / 110) (c := ge_bf (t % 110)) (d := d) (by omega) h1 hd (by rw [h3]; exact h2) (by rw [h4, show 110 * (t / 110) + t % 110 = t by omega]; exact h0)
  rw [h3] at this
  exact this.symm
section Wgh
variable {e : Nat → Nat} {M : mz_N}
/-- walls weighed up to the edge t -/
def c_wl (e : Nat → Nat) (t : Nat) (K : mz_N) : Prop := (∀ k, k < pl_n e → K.1 21 k = nI (cnt (pl_hvp e k) t) ∧ K.1 22 k = nI (cnt (pl_glp e k) t) ∧ (∀ d, d < 4 → K.1 (23 + d) k = nI (cnt (pl_gsp e d k) t)) ∧ K.1 27 k = nI (cnt (pl_hvp e k) t + 4 * cnt (pl_glp e k) t)) ∧
  (∀ a b, a < b → b < pl_n e → K.1 31 (40 * a + b) = nI (sumN (pl_we e a b) t)) ∧ ∀ c, c < 240 → K.1 36 c = nI (b1 (decide (0 < cnt (pl_dmp e c) t)))
theorem c_wl_in (hn : pl_n e ≤ 40) {K : mz_N} {t : Nat} (ht : t < 550) (h3 : ∀ i, i < 550 → K.1 3 i = nI (e i) ∧ e i < 4) (h15 : ∀ c, c < 240 → K.1 15 c = nI (pl_lab e c)) (hsd : ge_sd (t % 110) = 4) (hK : c_wl e t K) : cp_83_0 (nI t) K ∧ fr [31] K (cf_83_0 (nI t) K) ∧ c_wl e (t + 1) (cf_83_0 (nI t) K) := by
  obtain ⟨ha, hb, e1, e2, -, -⟩ := ge_ab_ok ht hsd
  have hla := pl_lab_lt (e := e) ha
  have hlb := pl_lab_lt (e := e) hb
  obtain ⟨ht3, he4⟩ := h3 t ht
  have d1 : nI t / 110 = nI (t / 110) := by rw [show (110 : Int32) = nI 110 from rfl, pk_div (by omega) (by omega) (by omega)]
  have d2 : mz_irem (nI t) 110 = nI (t % 110) := by rw [show (110 : Int32) = nI 110 from rfl, irem_n (by omega) (by omega) (by omega)]
  have g1 : mz_gI K 15 (nI (ge_ca t)) = nI (pl_lab e (ge_ca t)) := by rw [gI_a, nI_clamp (by omega), h15 _ ha]
  have g2 : mz_gI K 15 (nI (ge_cb t)) = nI (pl_lab e (ge_cb t)) := by rw [gI_a, nI_clamp (by omega), h15 _ hb]
  have g3 : mz_gI K 3 (nI t) = nI (e t) := by rw [gI_a, nI_clamp (by omega), ht3]
  obtain ⟨k1, k2, k3⟩ := hK
  have z1 : ∀ k, pl_hvp e k t = false := fun k => by simp [pl_hvp, hsd]
  have z2 : ∀ k, pl_glp e k t = false := fun k => by simp [pl_glp, hsd]
  have z3 : ∀ d k, d < 4 → pl_gsp e d k t = false := fun d k hd => by simp [pl_gsp, hsd]; omega
  have z4 : ∀ c, pl_dmp e c t = false := fun c => by simp [pl_dmp, hsd]
  by_cases hab : pl_lab e (ge_ca t) = pl_lab e (ge_cb t)
  · simp (disch := omega) only [cp_83_0, cf_83_0, d1, d2, e1, e2, g1, g2, g3, hab, ib_i, ha, hb, not_false_eq_true, not_true_eq_false, if_true, if_false, true_implies, false_implies, implies_true, and_true, true_and]
    refine ⟨fr_refl _ _, ?_, ?_, ?_⟩
    · intro k hk
      obtain ⟨q1, q2, q3, q4⟩ := k1 k hk
      rw [cnt_sn (z1 k), cnt_sn (z2 k)]
      exact ⟨q1, q2, fun d hd => by rw [cnt_sn (z3 d k hd)]; exact q3 d hd, q4⟩
    · intro a b h1 h2
      rw [sumN, k2 a b h1 h2, show pl_we e a b t = 0 from if_neg (fun z => by rcases z.2 with z | z <;> omega)]
      rfl
    · intro c hc; rw [cnt_sn (z4 c)]; exact k3 c hc
  · have hw : ∀ x : Nat, cf_83_74 (nI x) (nI (pl_lab e (ge_ca t))) (nI (pl_lab e (ge_cb t))) K = mz_sI K 31 (upd (K.1 31) (40 * min (pl_lab e (ge_ca t)) (pl_lab e (ge_cb t)) + max (pl_lab e (ge_ca t)) (pl_lab e (ge_cb t))) (nI (sumN (pl_we e (min (pl_lab e (ge_ca t)) (pl_lab e (ge_cb t))) (max (pl_lab e (ge_ca t)) (pl_lab e (ge_cb t)))) t + x))) := by
      intro x
      rw [cf_83_74, cf_83_102, imin_n (by omega) (by omega), imax_n (by omega) (by omega), wI_s, show (40 : Int32) = nI 40 from rfl, pk_mul, nI_add, gI_a, nI_clamp (by omega), show min (pl_lab e (ge_ca t)) (pl_lab e (ge_cb t)) * 40 + max (pl_lab e (ge_ca t)) (pl_lab e (ge_cb t)) = 40 * min (pl_lab e (ge_ca t)) (pl_lab e (ge_cb t)) + max (pl_lab e (ge_ca t)) (pl_lab e (ge_cb t)) by omega, k2 _ _ (by omega) (by omega), nI_add]
    have hp : ∀ x : Int32, cp_83_74 x (nI (pl_lab e (ge_ca t))) (nI (pl_lab e (ge_cb t))) K := by
      intro x
      rw [cp_83_74, cp_83_102, imin_n (by omega) (by omega), imax_n (by omega) (by omega), show (40 : Int32) = nI 40 from rfl, pk_mul, nI_add]
      simp (disch := omega) only [ib_i, not_false_eq_true, not_true_eq_false, if_true, if_false, true_implies, false_implies, implies_true, and_true, true_and]
      omega
    have hcp : cp_83_0 (nI t) K := by
      simp (disch := omega) only [cp_83_0, d1, d2, e1, e2, g1, g2, g3, hab, ib_i, ha, hb, nI_eq, hp, not_false_eq_true, not_true_eq_false, if_true, if_false, true_implies, false_implies, implies_true, and_true, true_and] <;> first | omega | simp
    have hcf : cf_83_0 (nI t) K = cf_83_74 (nI (wg (e t))) (nI (pl_lab e (ge_ca t))) (nI (pl_lab e (ge_cb t))) K := by
      simp (disch := omega) only [cf_83_0, d1, d2, e1, e2, g1, g2, g3, hab, nI_eq, (show (1 : Int32) = nI 1 from rfl), (show (3 : Int32) = nI 3 from rfl), (show (5 : Int32) = nI 5 from rfl), not_false_eq_true, not_true_eq_false, if_true, if_false, true_implies, false_implies, implies_true, and_true, true_and]
      unfold wg
      split
      · rfl
      · split <;> rfl
    rw [hcf, hw]
    refine ⟨hcp, fr_sI (fr_refl _ _) rfl, ?_, ?_, ?_⟩
    · intro k hk
      obtain ⟨q1, q2, q3, q4⟩ := k1 k hk
      rw [cnt_sn (z1 k), cnt_sn (z2 k), sI_n (by decide), sI_n (by decide), sI_n (by decide)]
      exact ⟨q1, q2, fun d hd => by rw [cnt_sn (z3 d k hd), sI_n (by omega)]; exact q3 d hd, q4⟩
    · intro a b h1 h2
      rw [sI_e, up_a, sumN]
      by_cases hz : a = min (pl_lab e (ge_ca t)) (pl_lab e (ge_cb t)) ∧ b = max (pl_lab e (ge_ca t)) (pl_lab e (ge_cb t))
      · rw [if_pos (by omega), ← hz.1, ← hz.2, show pl_we e a b t = wg (e t) from if_pos ⟨hsd, by omega⟩]
      · rw [if_neg (by omega), k2 a b h1 h2, show pl_we e a b t = 0 from if_neg (fun z => hz (by omega))]
        rfl
    · intro c hc; rw [cnt_sn (z4 c), sI_n (by decide)]; exact k3 c hc
theorem c_wl_bo (hn : pl_n e ≤ 40) {K : mz_N} {t : Nat} (ht : t < 550) (h3 : ∀ i, i < 550 → K.1 3 i = nI (e i) ∧ e i < 4) (h15 : ∀ c, c < 240 → K.1 15 c = nI (pl_lab e c)) (hsd : ge_sd (t % 110) < 4) (hK : c_wl e t K) : cp_86_0 (nI t) (nI (ge_sd (t % 110))) K ∧ fr [21, 22, 23, 24, 25, 26, 27, 36] K (cf_86_0 (nI t) (nI (ge_sd (t % 110))) K) ∧ c_wl e (t + 1) (cf_86_0 (nI t) (nI (ge_sd (t % 110))) K) := by
  obtain ⟨ha, e1⟩ := ge_cl_ok ht (by omega : ge_sd (t % 110) ≠ 4)
  have hla := pl_lab_lt (e := e) ha
  obtain ⟨ht3, he4⟩ := h3 t ht
  have d1 : nI t / 110 = nI (t / 110) := by rw [show (110 : Int32) = nI 110 from rfl, pk_div (by omega) (by omega) (by omega)]
  have d2 : mz_irem (nI t) 110 = nI (t % 110) := by rw [show (110 : Int32) = nI 110 from rfl, irem_n (by omega) (by omega) (by omega)]
  have g1 : mz_gI K 15 (nI (ge_cl t)) = nI (pl_lab e (ge_cl t)) := by rw [gI_a, nI_clamp (by omega), h15 _ ha]
  have g3 : mz_gI K 3 (nI t) = nI (e t) := by rw [gI_a, nI_clamp (by omega), ht3]
  obtain ⟨k1, k2, k3⟩ := hK
  have zw : ∀ a b, pl_we e a b t = 0 := fun a b => if_neg (fun z => by omega)
  obtain ⟨q1, q2, q3, q4⟩ := k1 _ hla
  by_cases h33 : e t = 3
  · have z1 : ∀ k, pl_hvp e k t = false := fun k => by simp [pl_hvp, h33]
    have z2 : ∀ k, pl_glp e k t = decide (pl_lab e (ge_cl t) = k) := fun k => by simp [pl_glp, h33, hsd]
    have z3 : ∀ d k, pl_gsp e d k t = decide (ge_sd (t % 110) = d ∧ pl_lab e (ge_cl t) = k) := fun d k => by simp [pl_gsp, h33]
    have z4 : ∀ c, pl_dmp e c t = false := fun c => by simp [pl_dmp, h33]
    have hcp : cp_86_0 (nI t) (nI (ge_sd (t % 110))) K := by
      simp (disch := omega) only [cp_86_0, cp_86_58, cp_86_74, cp_86_118, d1, d2, e1, g1, g3, h33, ib_i, ha, nI_eq, nI_add, (show (3 : Int32) = nI 3 from rfl), (show (6 : Int32) = nI 6 from rfl), not_false_eq_true, not_true_eq_false, if_true, if_false, true_implies, false_implies, implies_true, and_true, true_and] <;> omega
    have hcf : cf_86_0 (nI t) (nI (ge_sd (t % 110))) K = mz_sI (mz_sI (mz_sI K 22 (upd (K.1 22) (pl_lab e (ge_cl t)) (nI (cnt (pl_glp e (pl_lab e (ge_cl t))) t + 1)))) (23 + ge_sd (t % 110)) (upd (K.1 (23 + ge_sd (t % 110))) (pl_lab e (ge_cl t)) (nI (cnt (pl_gsp e (ge_sd (t % 110)) (pl_lab e (ge_cl t))) t + 1)))) 27 (upd (K.1 27) (pl_lab e (ge_cl t)) (nI (cnt (pl_hvp e (pl_lab e (ge_cl t))) t + 4 * cnt (pl_glp e (pl_lab e (ge_cl t))) t + 4))) := by
      simp (disch := omega) only [cf_86_0, cf_86_58, cf_86_74, d1, d2, e1, g1, g3, h33, nI_eq, nI_add, (show (3 : Int32) = nI 3 from rfl), (show (4 : Int32) = nI 4 from rfl), (show (6 : Int32) = nI 6 from rfl), nI_1, wI_s, wL_s, pI_s, pL_s, yI_s, yL_s, sI_1, sI_2, sL_1, sL_2, gI_a, gL_a, nI_clamp, show 17 + (6 + ge_sd (t % 110)) = 23 + ge_sd (t % 110) by omega, show ¬ 27 = 23 + ge_sd (t % 110) by omega, show ¬ 23 + ge_sd (t % 110) = 22 by omega, Nat.reduceEqDiff, q2, q3 _ hsd, q4, not_false_eq_true, not_true_eq_false, if_true, if_false, true_implies, false_implies, implies_true, and_true, true_and]
    rw [hcf]
    refine ⟨hcp, fr_sI (fr_sI (fr_sI (fr_refl _ _) rfl) ?_) rfl, ?_, ?_, ?_⟩
    · have : ge_sd (t % 110) = 0 ∨ ge_sd (t % 110) = 1 ∨ ge_sd (t % 110) = 2 ∨ ge_sd (t % 110) = 3 := by omega
      rcases this with z | z | z | z <;> rw [z] <;> rfl
    · intro k hk
      obtain ⟨r1, r2, r3, r4⟩ := k1 k hk
      rw [cnt_sn (z1 k)]
      by_cases z : k = pl_lab e (ge_cl t)
      · rw [z, cnt_s (by rw [z2]; simp)]
        refine ⟨?_, ?_, ?_, ?_⟩
        · rw [sI_n (by decide), sI_n (by omega), sI_n (by decide), ← z]; exact r1
        · rw [sI_n (by decide), sI_n (by omega), sI_e, up_a, if_pos rfl]
        · intro d hd
          rw [sI_n (by omega)]
          by_cases zd : d = ge_sd (t % 110)
          · rw [zd, sI_e, up_a, if_pos rfl, cnt_s (by rw [z3]; simp)]
          · rw [sI_n (by omega), sI_n (by omega), cnt_sn (by rw [z3]; simp; omega)]; exact q3 d hd
        · rw [sI_e, up_a, if_pos rfl]
          congr 1
      · rw [cnt_sn (by rw [z2]; simp; exact fun q => z q.symm)]
        refine ⟨?_, ?_, ?_, ?_⟩
        · rw [sI_n (by decide), sI_n (by omega), sI_n (by decide)]; exact r1
        · rw [sI_n (by decide), sI_n (by omega), sI_e, up_a, if_neg z]; exact r2
        · intro d hd
          rw [sI_n (by omega), cnt_sn (by rw [z3]; simp; exact fun _ q => z q.symm)]
          by_cases zd : d = ge_sd (t % 110)
          · rw [← zd, sI_e, up_a, if_neg z]; exact r3 d hd
          · rw [sI_n (by omega), sI_n (by omega)]; exact r3 d hd
        · rw [sI_e, up_a, if_neg z]; exact r4
    · intro a b h1 h2
      rw [sI_n (by decide), sI_n (by omega), sI_n (by decide), sumN, zw]; exact k2 a b h1 h2
    · intro c hc
      rw [sI_n (by decide), sI_n (by omega), sI_n (by decide), cnt_sn (z4 c)]; exact k3 c hc
  · have z1 : ∀ k, pl_hvp e k t = decide (pl_lab e (ge_cl t) = k) := fun k => by simp [pl_hvp, h33, hsd]
    have z2 : ∀ k, pl_glp e k t = false := fun k => by simp [pl_glp, h33]
    have z3 : ∀ d k, pl_gsp e d k t = false := fun d k => by simp [pl_gsp, h33]
    have z4 : ∀ c, pl_dmp e c t = decide (ge_cl t = c) := fun c => by simp [pl_dmp, h33, hsd]
    have hcp : cp_86_0 (nI t) (nI (ge_sd (t % 110))) K := by
      simp (disch := omega) only [cp_86_0, cp_86_58, cp_86_74, cp_86_118, d1, d2, e1, g1, g3, h33, ib_i, ha, nI_eq, nI_add, (show (3 : Int32) = nI 3 from rfl), (show (6 : Int32) = nI 6 from rfl), not_false_eq_true, not_true_eq_false, if_true, if_false, true_implies, false_implies, implies_true, and_true, true_and] <;> omega
    have hcf : cf_86_0 (nI t) (nI (ge_sd (t % 110))) K = mz_sI (mz_sI (mz_sI K 21 (upd (K.1 21) (pl_lab e (ge_cl t)) (nI (cnt (pl_hvp e (pl_lab e (ge_cl t))) t + 1)))) 27 (upd (K.1 27) (pl_lab e (ge_cl t)) (nI (cnt (pl_hvp e (pl_lab e (ge_cl t))) t + 4 * cnt (pl_glp e (pl_lab e (ge_cl t))) t + 1)))) 36 (upd (K.1 36) (ge_cl t) 1) := by
      simp (disch := omega) only [cf_86_0, cf_86_118, d1, d2, e1, g1, g3, h33, nI_eq, nI_add, (show (3 : Int32) = nI 3 from rfl), nI_1, wI_s, wL_s, pI_s, pL_s, yI_s, yL_s, sI_1, sI_2, sL_1, sL_2, gI_a, gL_a, nI_clamp, Nat.reduceEqDiff, q1, q4, not_false_eq_true, not_true_eq_false, if_true, if_false, true_implies, false_implies, implies_true, and_true, true_and]
    rw [hcf]
    refine ⟨hcp, fr_sI (fr_sI (fr_sI (fr_refl _ _) rfl) rfl) rfl, ?_, ?_, ?_⟩
    · intro k hk
      obtain ⟨r1, r2, r3, r4⟩ := k1 k hk
      rw [cnt_sn (z2 k)]
      by_cases z : k = pl_lab e (ge_cl t)
      · rw [z, cnt_s (by rw [z1]; simp)]
        refine ⟨?_, ?_, ?_, ?_⟩
        · rw [sI_n (by decide), sI_n (by decide), sI_e, up_a, if_pos rfl]
        · rw [sI_n (by decide), sI_n (by decide), sI_n (by decide)]; exact q2
        · intro d hd
          rw [sI_n (by omega), sI_n (by omega), sI_n (by omega), cnt_sn (z3 d _)]; exact q3 d hd
        · rw [sI_n (by decide), sI_e, up_a, if_pos rfl]
          congr 1; omega
      · rw [cnt_sn (by rw [z1]; simp; exact fun q => z q.symm)]
        refine ⟨?_, ?_, ?_, ?_⟩
        · rw [sI_n (by decide), sI_n (by decide), sI_e, up_a, if_neg z]; exact r1
        · rw [sI_n (by decide), sI_n (by decide), sI_n (by decide)]; exact r2
        · intro d hd
          rw [sI_n (by omega), sI_n (by omega), sI_n (by omega), cnt_sn (z3 d _)]; exact r3 d hd
        · rw [sI_n (by decide), sI_e, up_a, if_neg z]; exact r4
    · intro a b h1 h2
      rw [sI_n (by decide), sI_n (by decide), sI_n (by decide), sumN, zw]; exact k2 a b h1 h2
    · intro c hc
      rw [sI_e, up_a]
      by_cases z : c = ge_cl t
      · rw [if_pos z, cnt_s (by rw [z4, z]; simp)]
        rfl
      · rw [if_neg z, cnt_sn (by rw [z4]; simp; exact fun q => z q.symm)]; exact k3 c hc
end Wgh
