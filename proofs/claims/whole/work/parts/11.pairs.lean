/-! PURE (11): pairs of spaces; hearts of flats. -/
section Prs
variable {e : Nat → Nat} {fl : Nat → Nat} {M : mz_N}
def pr_N (M : mz_N) (f g h : Nat → Int32) (m : Nat) : mz_N := mz_sI (mz_sI (mz_sI (mz_sI M 33 f) 34 g) 35 h) 2 (upd (M.1 2) 13 (nI m))
/-- the pairs so far: those of first spaces below a, and of a with spaces below b -/
def pr_I (e : Nat → Nat) (a b m : Nat) (f g h : Nat → Int32) : Prop := m ≤ sumN (fun x => 39 - x) a + (b - (a + 1)) ∧ ∃ pa pb : Nat → Nat, (∀ i, i < m → f i = nI (pa i) ∧ g i = nI (pb i) ∧ h i = nI (pl_W e (pa i) (pb i)) ∧ pa i < pb i ∧ pb i < pl_n e) ∧
  ∀ G : Nat → Nat → Int64, (∀ x y, pl_W e x y = 0 → G x y = 0) → sL (fun i => G (pa i) (pb i)) m = sL (fun x => sL (fun y => if x < y then G x y else 0) (pl_n e)) a + sL (fun y => if a < y then G a y else 0) b
theorem pr_add {M : mz_N} {f g h : Nat → Int32} {m : Nat} {x y z : Int32} (hm : m < 2 ^ 31) : mz_pI (mz_wI (mz_wI (mz_wI (pr_N M f g h m) 33 (nI m) x) 34 (nI m) y) 35 (nI m) z) 2 13 (nI (m + 1)) = pr_N M (upd f m x) (upd g m y) (upd h m z) (m + 1) := by
  simp only [wI_s, pI_s, nI_clamp hm]
  refine mz_ext (fun c => ?_) (fun c => rfl)
  simp only [pr_N, sI_1]
  by_cases z1 : c = 2
  · subst z1
    simp only [if_true, Nat.reduceEqDiff, if_false]
    funext j
    simp only [up_a]
    by_cases zj : j = 13 <;> simp [zj]
  · by_cases z2 : c = 33
    · subst z2; simp
    · by_cases z3 : c = 34
      · subst z3; simp
      · by_cases z4 : c = 35
        · subst z4; simp
        · simp [z1, z2, z3, z4]
theorem tri40 : ∀ a, a ≤ 40 → sumN (fun x => 39 - x) a ≤ 780 := by decide
theorem sL_lt0 {a : Nat} {G : Nat → Int64} : ∀ {n : Nat}, n ≤ a + 1 → sL (fun y => if a < y then G y else 0) n = 0 := by
  intro n
  induction n with
  | zero => intro _; rfl
  | succ n ih => intro h; rw [sL, ih (by omega), if_neg (by omega)]; rfl
theorem c_pair1 (hn : pl_n e ≤ 40) (h27 : M.1 2 7 = nI (pl_n e)) (h31 : ∀ a b, a < b → b < pl_n e → M.1 31 (40 * a + b) = nI (pl_W e a b)) (hW : ∀ a b, pl_W e a b < 2 ^ 31) {a m : Nat} {f g h : Nat → Int32} (ha : a < pl_n e) (hI : pr_I e a (a + 1) m f g h) :
    cp_88_19 (nI a) (nI (a + 1)) (pr_N M f g h m) ∧ ∃ f2 g2 h2 m2, cf_88_19 (nI a) (nI (a + 1)) (pr_N M f g h m) = .inl (nI (a + 1), pr_N M f2 g2 h2 m2) ∧ pr_I e (a + 1) (a + 1 + 1) m2 f2 g2 h2 := by
  refine mz_lpn (f := cq_88_19 (nI a)) (P := cd_88_19 (nI a)) (Q := fun t => ∃ f2 g2 h2 m2, t = .inl (nI (a + 1), pr_N M f2 g2 h2 m2) ∧ pr_I e (a + 1) (a + 1 + 1) m2 f2 g2 h2) (pl_n e) (fun b s => ∃ f g h m, s = (nI b, pr_N M f g h m) ∧ a < b ∧ pr_I e a b m f g h) ?_ ?_ (show a + 1 ≤ pl_n e from ha) ⟨f, g, h, m, rfl, by omega, hI⟩
  · rintro b s hb ⟨f, g, h, m, rfl, hab, hm, pa, pb, hi, hG⟩
    have g1 : (pr_N M f g h m).1 2 7 = nI (pl_n e) := by simp only [pr_N, sI_e, up_a, Nat.reduceEqDiff, if_false]; exact h27
    have g2 : (pr_N M f g h m).1 2 13 = nI m := by simp only [pr_N, sI_e, up_a, if_true]
    have g3 : mz_gI (pr_N M f g h m) 31 (nI (a * 40 + b)) = nI (pl_W e a b) := by
      simp only [pr_N, gI_a, sI_1, Nat.reduceEqDiff, if_false, nI_clamp (show a * 40 + b < 2 ^ 31 by omega)]
      rw [Nat.mul_comm, h31 a b hab hb]
    have hWb := hW a b
    have ht := tri40 (a + 1) (by omega)
    rw [sumN] at ht
    by_cases hw : 0 < pl_W e a b
    · have g4 : (mz_wI (pr_N M f g h m) 33 (nI m) (nI a)).1 2 13 = nI m := by rw [wI_s, sI_n (by decide)]; exact g2
      have g5 : (mz_wI (mz_wI (pr_N M f g h m) 33 (nI m) (nI a)) 34 (nI m) (nI b)).1 2 13 = nI m := by rw [wI_s, sI_n (by decide)]; exact g4
      have g6 : (mz_wI (mz_wI (mz_wI (pr_N M f g h m) 33 (nI m) (nI a)) 34 (nI m) (nI b)) 35 (nI m) (nI (pl_W e a b))).1 2 13 = nI m := by rw [wI_s, sI_n (by decide)]; exact g5
      simp (disch := omega) only [cd_88_19, cq_88_19, cf_88_67, cf_88_89, cp_88_67, cp_88_89, nI_ltI, g1, hb, (show (40 : Int32) = nI 40 from rfl), pk_mul, nI_add, g3, nI_gt0, hw, g2, g4, g5, g6, pr_add, nI_1, ib_i, not_false_eq_true, not_true_eq_false, if_true, if_false, true_implies, false_implies, implies_true, and_true, true_and]
      refine ⟨by omega, Or.inl ⟨_, rfl, upd f m (nI a), upd g m (nI b), upd h m (nI (pl_W e a b)), m + 1, rfl, by omega, by omega, up pa m a, up pb m b, ?_, ?_⟩⟩
      · intro i hi2
        rw [up_a, up_a, up_a, up_d, up_d]
        by_cases z : i = m
        · simp only [z, if_true]
          exact ⟨trivial, trivial, trivial, hab, hb⟩
        · simp only [z, if_false]
          exact hi i (by omega)
      · intro G hz
        rw [sL, sL, if_pos hab, up_e, up_e, ← Int64.add_assoc, ← hG G hz]
        congr 1
        exact sL_congr fun i hi => by rw [up_n (by omega), up_n (by omega)]
    · simp (disch := omega) only [cd_88_19, cq_88_19, cf_88_67, cf_88_89, cp_88_67, cp_88_89, nI_ltI, g1, hb, (show (40 : Int32) = nI 40 from rfl), pk_mul, nI_add, g3, nI_gt0, hw, nI_1, ib_i, not_false_eq_true, not_true_eq_false, if_true, if_false, true_implies, false_implies, implies_true, and_true, true_and]
      refine ⟨by omega, Or.inl ⟨_, rfl, f, g, h, m, rfl, by omega, by omega, pa, pb, hi, ?_⟩⟩
      intro G hz
      rw [sL, if_pos hab, hz a b (by omega), hG G hz]
      exact congrArg _ (Int64.add_zero _).symm
  · rintro s ⟨f, g, h, m, rfl, hab, hm, pa, pb, hi, hG⟩
    have g1 : (pr_N M f g h m).1 2 7 = nI (pl_n e) := by simp only [pr_N, sI_e, up_a, Nat.reduceEqDiff, if_false]; exact h27
    simp (disch := omega) only [cd_88_19, cq_88_19, nI_ltI, g1, Nat.lt_irrefl, nI_1, not_false_eq_true, not_true_eq_false, if_true, if_false, true_implies, false_implies, implies_true, and_true, true_and]
    refine ⟨_, rfl, f, g, h, m, rfl, by rw [sumN]; omega, pa, pb, hi, ?_⟩
    intro G hz
    rw [hG G hz, sL_lt0 (a := a + 1) (n := a + 1 + 1) (by omega), Int64.add_zero]
    rfl
theorem c_pair (hn : pl_n e ≤ 40) (h27 : M.1 2 7 = nI (pl_n e)) (h31 : ∀ a b, a < b → b < pl_n e → M.1 31 (40 * a + b) = nI (pl_W e a b)) (hW : ∀ a b, pl_W e a b < 2 ^ 31) :
    cp_88_0 M ∧ ∃ f g h m, cf_88_0 M = pr_N M f g h m ∧ pr_I e (pl_n e) (pl_n e + 1) m f g h := by
  refine mz_lpn (f := cq_88_7) (P := cd_88_7) (Q := fun t => ∃ f g h m, t = pr_N M f g h m ∧ pr_I e (pl_n e) (pl_n e + 1) m f g h) (pl_n e) (fun a s => ∃ f g h m, s = (nI a, pr_N M f g h m) ∧ pr_I e a (a + 1) m f g h) ?_ ?_ (Nat.zero_le _) ⟨M.1 33, M.1 34, M.1 35, 0, ?_, Nat.zero_le _, fun _ => 0, fun _ => 0, fun i hi => absurd hi (Nat.not_lt_zero _), fun G _ => rfl⟩
  · rintro a s ha ⟨f, g, h, m, rfl, hI⟩
    have g1 : (pr_N M f g h m).1 2 7 = nI (pl_n e) := by simp only [pr_N, sI_e, up_a, Nat.reduceEqDiff, if_false]; exact h27
    obtain ⟨p1, f2, g2, h2, m2, p2, p3⟩ := c_pair1 hn h27 h31 hW ha hI
    simp (disch := omega) only [cd_88_7, cq_88_7, nI_ltI, g1, ha, nI_1, p1, p2, not_false_eq_true, not_true_eq_false, if_true, if_false, true_implies, false_implies, implies_true, and_true, true_and]
    exact Or.inl ⟨_, rfl, f2, g2, h2, m2, rfl, p3⟩
  · rintro s ⟨f, g, h, m, rfl, hI⟩
    have g1 : (pr_N M f g h m).1 2 7 = nI (pl_n e) := by simp only [pr_N, sI_e, up_a, Nat.reduceEqDiff, if_false]; exact h27
    simp (disch := omega) only [cd_88_7, cq_88_7, nI_ltI, g1, Nat.lt_irrefl, not_false_eq_true, not_true_eq_false, if_true, if_false, true_implies, false_implies, implies_true, and_true, true_and]
    exact ⟨_, rfl, f, g, h, m, rfl, hI⟩
  · refine Prod.ext rfl (mz_ext (fun c => ?_) (fun c => rfl))
    show (mz_pI M 2 13 0).1 c = (pr_N M (M.1 33) (M.1 34) (M.1 35) 0).1 c
    simp only [pr_N, pI_s, sI_1, nI_0]
    by_cases z1 : c = 2
    · subst z1; simp
    · by_cases z2 : c = 33
      · subst z2; simp
      · by_cases z3 : c = 34
        · subst z3; simp
        · by_cases z4 : c = 35
          · subst z4; simp
          · simp [z1, z2, z3, z4]
def pl_fp (e fl : Nat → Nat) (f k : Nat) : Bool := decide (fl (pl_lc e k) = f)
/-- a flat's heart: the first space that is its (their number: none) -/
def pl_ht (e fl : Nat → Nat) (f : Nat) : Nat := lst (pl_fp e fl f) (pl_n e)
def pl_arp (e fl : Nat → Nat) (f k : Nat) : Nat := if fl (pl_lc e k) = f then pl_sz e k else 0
def pl_ar (e fl : Nat → Nat) (f : Nat) : Nat := sumN (pl_arp e fl f) (pl_n e)
theorem nO_lst {p : Nat → Bool} {t : Nat} : nO (t + 1) (lst p (t + 1)) = if lst p t < t then nO t (lst p t) else if p t = true then nI t else -1 := by
  rw [lst]
  by_cases h : lst p t < t
  · rw [if_pos h, if_pos h, nO_lt (by omega), nO_lt h]
  · rw [if_neg h, if_neg h]
    by_cases hp : p t = true
    · rw [if_pos hp, if_pos hp, nO_lt (by omega)]
    · rw [if_neg hp, if_neg hp, nO_ge (by omega)]
theorem c_hrt (hn : pl_n e ≤ 40) (hfl : ∀ c, c < 240 → fl c < 16) (h27 : M.1 2 7 = nI (pl_n e)) (h19 : ∀ k, k < pl_n e → M.1 19 k = nI (pl_sz e k)) (h20 : ∀ k, k < pl_n e → M.1 20 k = nI (fl (pl_lc e k))) :
    cp_89_0 M ∧ ∃ f g, cf_89_0 M = mz_sI (mz_sI M 38 f) 39 g ∧ ∀ j, j < 10 → f j = nO (pl_n e) (pl_ht e fl j) ∧ g j = nI (pl_ar e fl j) := by
  obtain ⟨p1, e1⟩ := fill_ok (a := 38) (n := 10) (v := -1) (N := M) (by omega)
  obtain ⟨p2, e2⟩ := fill_ok (a := 39) (n := 10) (v := 0) (N := cf_13_0 38 10 (-1) M) (by omega)
  rw [cp_89_0, cf_89_0, e2, e1, sI_n (by decide)]
  rw [e1] at p2
  have hh := mz_lpn (f := cq_89_18) (P := cd_89_18) (Q := fun t => ∃ f g, t = mz_sI (mz_sI M 38 f) 39 g ∧ ∀ j, j < 10 → f j = nO (pl_n e) (pl_ht e fl j) ∧ g j = nI (pl_ar e fl j)) (pl_n e) (fun t s => ∃ f g, s = (nI t, mz_sI (mz_sI M 38 f) 39 g) ∧ ∀ j, j < 10 → f j = nO t (lst (pl_fp e fl j) t) ∧ g j = nI (sumN (pl_arp e fl j) t)) ?_ ?_ (Nat.zero_le _) ⟨fun j => if j < 10 then -1 else M.1 38 j, fun j => if j < 10 then 0 else M.1 39 j, rfl, fun j hj => by simp only [hj, if_true]; exact ⟨rfl, rfl⟩⟩
  · exact ⟨⟨p1, p2, hh.1⟩, hh.2⟩
  · rintro t s ht ⟨f, g, rfl, hj⟩
    have hlc := pl_lc_ok ht
    have hf16 := hfl _ hlc.1
    have hsz := pl_sz_le ht
    have g1 : (mz_sI (mz_sI M 38 f) 39 g).1 2 7 = nI (pl_n e) := by rw [sI_n (by decide), sI_n (by decide)]; exact h27
    have g2 : mz_gI (mz_sI (mz_sI M 38 f) 39 g) 20 (nI t) = nI (fl (pl_lc e t)) := by rw [gI_a, sI_n (by decide), sI_n (by decide), nI_clamp (by omega)]; exact h20 t ht
    have g3 : mz_gI (mz_sI (mz_sI M 38 f) 39 g) 19 (nI t) = nI (pl_sz e t) := by rw [gI_a, sI_n (by decide), sI_n (by decide), nI_clamp (by omega)]; exact h19 t ht
    by_cases h10 : fl (pl_lc e t) < 10
    · obtain ⟨q1, q2⟩ := hj _ h10
      have g4 : mz_gI (mz_sI (mz_sI M 38 f) 39 g) 39 (nI (fl (pl_lc e t))) = nI (sumN (pl_arp e fl (fl (pl_lc e t))) t) := by rw [gI_a, sI_e, nI_clamp (by omega)]; exact q2
      have g5 : mz_gI (mz_wI (mz_sI (mz_sI M 38 f) 39 g) 39 (nI (fl (pl_lc e t))) (nI (sumN (pl_arp e fl (fl (pl_lc e t))) t + pl_sz e t))) 38 (nI (fl (pl_lc e t))) = nO t (lst (pl_fp e fl (fl (pl_lc e t))) t) := by
        rw [gI_a, wI_s, sI_n (by decide), sI_n (by decide), sI_e, nI_clamp (by omega)]; exact q1
      have hg : ∀ j, j < 10 → upd g (fl (pl_lc e t)) (nI (sumN (pl_arp e fl (fl (pl_lc e t))) t + pl_sz e t)) j = nI (sumN (pl_arp e fl j) (t + 1)) := by
        intro j hj10
        rw [up_a, sumN]
        by_cases z : j = fl (pl_lc e t)
        · rw [if_pos z, show pl_arp e fl j t = pl_sz e t from if_pos z.symm, z]
        · rw [if_neg z, show pl_arp e fl j t = 0 from if_neg (fun q => z q.symm)]; exact (hj j hj10).2
      by_cases hb : lst (pl_fp e fl (fl (pl_lc e t))) t < t
      · simp (disch := omega) only [cd_89_18, cq_89_18, cf_89_58, cf_89_75, cp_89_58, cp_89_75, nI_ltI, g1, ht, g2, g3, g4, nI_add, g5, nO_m1, hb, h10, (show (10 : Int32) = nI 10 from rfl), ib_i, nI_1, not_false_eq_true, not_true_eq_false, if_true, if_false, true_implies, false_implies, implies_true, and_true, true_and]
        refine ⟨by omega, Or.inl ⟨_, rfl, f, upd g (fl (pl_lc e t)) (nI (sumN (pl_arp e fl (fl (pl_lc e t))) t + pl_sz e t)), ?_, fun j hj10 => ⟨?_, hg j hj10⟩⟩⟩
        · rw [Prod.mk.injEq]; refine ⟨rfl, ?_⟩
          rw [wI_s, nI_clamp (by omega), sI_e, sI_sI]
        · rw [nO_lst]
          by_cases z : lst (pl_fp e fl j) t < t
          · rw [if_pos z]; exact (hj j hj10).1
          · rw [if_neg z, if_neg (fun q => z (by rw [← (of_decide_eq_true q : fl (pl_lc e t) = j)]; exact hb)), (hj j hj10).1, nO_ge z]
      · simp (disch := omega) only [cd_89_18, cq_89_18, cf_89_58, cf_89_75, cp_89_58, cp_89_75, nI_ltI, g1, ht, g2, g3, g4, nI_add, g5, nO_m1, hb, h10, (show (10 : Int32) = nI 10 from rfl), ib_i, nI_1, not_false_eq_true, not_true_eq_false, if_true, if_false, true_implies, false_implies, implies_true, and_true, true_and]
        refine ⟨by omega, Or.inl ⟨_, rfl, upd f (fl (pl_lc e t)) (nI t), upd g (fl (pl_lc e t)) (nI (sumN (pl_arp e fl (fl (pl_lc e t))) t + pl_sz e t)), ?_, fun j hj10 => ⟨?_, hg j hj10⟩⟩⟩
        · rw [Prod.mk.injEq]; refine ⟨rfl, ?_⟩
          simp (disch := omega) only [wI_s, nI_clamp, sI_1, Nat.reduceEqDiff, if_true, if_false]
          rw [sI_sI, sI_comm (by decide), sI_sI]
        · rw [nO_lst, up_a]
          by_cases zj : j = fl (pl_lc e t)
          · rw [if_pos zj, if_neg (by rw [zj]; exact hb), if_pos (show pl_fp e fl j t = true from decide_eq_true zj.symm)]
          · rw [if_neg zj]
            by_cases z : lst (pl_fp e fl j) t < t
            · rw [if_pos z]; exact (hj j hj10).1
            · rw [if_neg z, if_neg (fun (q : pl_fp e fl j t = true) => zj (of_decide_eq_true q : fl (pl_lc e t) = j).symm), (hj j hj10).1, nO_ge z]
    · simp (disch := omega) only [cd_89_18, cq_89_18, cf_89_58, cf_89_75, cp_89_58, cp_89_75, nI_ltI, g1, ht, g2, h10, (show (10 : Int32) = nI 10 from rfl), ib_i, nI_1, not_false_eq_true, not_true_eq_false, if_true, if_false, true_implies, false_implies, implies_true, and_true, true_and]
      refine ⟨by omega, Or.inl ⟨_, rfl, f, g, rfl, fun j hj10 => ⟨?_, ?_⟩⟩⟩
      · rw [nO_lst]
        by_cases z : lst (pl_fp e fl j) t < t
        · rw [if_pos z]; exact (hj j hj10).1
        · rw [if_neg z, if_neg (fun q => by have := (of_decide_eq_true q : fl (pl_lc e t) = j); omega), (hj j hj10).1, nO_ge z]
      · rw [sumN, show pl_arp e fl j t = 0 from if_neg (fun q => by omega)]; exact (hj j hj10).2
  · rintro s ⟨f, g, rfl, hj⟩
    have g1 : (mz_sI (mz_sI M 38 f) 39 g).1 2 7 = nI (pl_n e) := by rw [sI_n (by decide), sI_n (by decide)]; exact h27
    simp (disch := omega) only [cd_89_18, cq_89_18, nI_ltI, g1, Nat.lt_irrefl, not_false_eq_true, not_true_eq_false, if_true, if_false, true_implies, false_implies, implies_true, and_true, true_and]
    exact ⟨_, rfl, f, g, rfl, hj⟩
end Prs
