/-! PURE (50zzzzk): how far heat and air may come. -/
theorem fl_i {x : Int64} {d : Nat} (h0 : 0 < d) (hd : d < 2 ^ 31) (hx : -(2 ^ 62 : Int) ≤ x.toInt ∧ x.toInt ≤ 2 ^ 62) : (cf_489_0 x (lN d)).toInt = x.toInt / (d : Int) := by
  have hd0 : (d : Int) ≠ 0 := by omega
  have hl : (lN d).toInt = (d : Int) := lN_j (by omega)
  have hm : (mz_lrem x (lN d)).toInt = x.toInt.tmod d := by rw [lrem_i, hl]
  have e0 := Int.mul_tdiv_add_tmod x.toInt d
  have hlt := Int.tmod_lt_of_pos x.toInt (show (0 : Int) < d by omega)
  have hgt : -(d : Int) < x.toInt.tmod d := by
    have := Int.tmod_lt_of_pos (-x.toInt) (show (0 : Int) < d by omega)
    rw [Int.neg_tmod] at this
    omega
  have hq : -(2 ^ 62 : Int) ≤ x.toInt.tdiv d ∧ x.toInt.tdiv d ≤ 2 ^ 62 := by
    rcases Int.lt_or_le x.toInt 0 with w | w
    · have h1 : Int.tdiv x.toInt d = -((-x.toInt) / d) := by
        rw [← Int.tdiv_eq_ediv_of_nonneg (show 0 ≤ -x.toInt by omega), Int.neg_tdiv, Int.neg_neg]
      have h2 := Int.ediv_le_self (a := -x.toInt) d (by omega)
      have h3 := Int.ediv_nonneg (show 0 ≤ -x.toInt by omega) (show (0 : Int) ≤ d by omega)
      rw [h1]; omega
    · have h2 := Int.ediv_le_self (a := x.toInt) d w
      have h3 := Int.ediv_nonneg w (show (0 : Int) ≤ d by omega)
      rw [Int.tdiv_eq_ediv_of_nonneg w]; omega
  have e1 : (x / lN d).toInt = x.toInt.tdiv d := by
    rw [Int64.toInt_div, hl]
    exact Int.bmod_eq_of_le (by omega) (by omega)
  have uniq : ∀ (m t : Int), x.toInt = m + d * t → 0 ≤ m → m < d → x.toInt / d = t := fun m t h1 h2 h3 => by
    rw [h1, Int.add_mul_ediv_left _ _ hd0, Int.ediv_eq_zero_of_lt h2 h3, Int.zero_add]
  rw [cf_489_0]
  by_cases w : mz_lrem x (lN d) < 0
  · rw [if_pos w, Int64.toInt_sub, e1, show (1 : Int64).toInt = 1 from rfl, Int.bmod_eq_of_le (by omega) (by omega)]
    have w' : x.toInt.tmod d < 0 := by rw [lt_i, hm, i_0] at w; exact w
    exact (uniq (x.toInt.tmod d + d) (x.toInt.tdiv d - 1) (by rw [Int.mul_sub, Int.mul_one]; omega) (by omega) (by omega)).symm
  · rw [if_neg w, e1]
    have w' : 0 ≤ x.toInt.tmod d := by
      rcases Int.lt_or_le (x.toInt.tmod d) 0 with z | z
      · exact absurd (by rw [lt_i, hm, i_0]; exact z) w
      · exact z
    exact (uniq (x.toInt.tmod d) (x.toInt.tdiv d) (by omega) w' hlt).symm
theorem fl_b {x : Int64} {n : Nat} {lo hi : Int} (h0 : 0 < n) (hn : n < 2 ^ 31) (hx : -(2 ^ 62 : Int) ≤ x.toInt ∧ x.toInt ≤ 2 ^ 62) (h1 : lo * n ≤ x.toInt) (h2 : x.toInt ≤ hi * n) : lo ≤ (cf_489_0 x (lN n)).toInt ∧ (cf_489_0 x (lN n)).toInt ≤ hi := by
  rw [fl_i h0 hn hx]
  refine ⟨Int.le_ediv_of_mul_le (by omega) h1, ?_⟩
  have : x.toInt / (n : Int) ≤ hi * n / (n : Int) := Int.ediv_le_ediv (by omega) h2
  rw [Int.mul_ediv_cancel _ (by omega)] at this
  exact this
/-- a sum of longs that stays small -/
theorem sL_i {f : Nat → Int64} {lo hi : Nat → Nat} : ∀ n, (∀ i, i < n → -(lo i : Int) ≤ (f i).toInt ∧ (f i).toInt ≤ (hi i : Int)) → sumN lo n < 2 ^ 62 → sumN hi n < 2 ^ 62 → -(sumN lo n : Int) ≤ (sL f n).toInt ∧ (sL f n).toInt ≤ (sumN hi n : Int) := by
  intro n
  induction n with
  | zero => intro _ _ _; exact ⟨by show -((0 : Nat) : Int) ≤ (0 : Int64).toInt; decide, by show (0 : Int64).toInt ≤ ((0 : Nat) : Int); decide⟩
  | succ n ih =>
    intro h h1 h2
    have e1 : sumN lo (n + 1) = sumN lo n + lo n := rfl
    have e2 : sumN hi (n + 1) = sumN hi n + hi n := rfl
    obtain ⟨i1, i2⟩ := ih (fun i hi => h i (by omega)) (by omega) (by omega)
    obtain ⟨j1, j2⟩ := h n (by omega)
    have e3 : (sL f (n + 1)).toInt = (sL f n).toInt + (f n).toInt := by
      show (sL f n + f n).toInt = _
      rw [Int64.toInt_add, Int.bmod_eq_of_le (by omega) (by omega)]
    rw [e3, e1, e2]
    omega
theorem sum_in {p : Nat → Bool} {M : Nat} : ∀ n, sumN (fun c => if p c = true then M else 0) n = M * cnt p n := by
  intro n
  induction n with
  | zero => rfl
  | succ n ih =>
    show sumN _ n + (if p n = true then M else 0) = _
    rw [ih]
    cases h : p n with
    | true => rw [cnt_s h, if_pos rfl, Nat.mul_add, Nat.mul_one]
    | false => rw [cnt_sn h, if_neg (fun z => by cases z), Nat.add_zero]
section Bd
variable {e fl : Nat → Nat} {w : Nat → Int64} {k : Nat}
theorem ts_b {lo hi : Nat} (hl : lo < 2 ^ 40) (hh : hi < 2 ^ 40) (h : ∀ c, c < 240 → -(lo : Int) ≤ (w c).toInt ∧ (w c).toInt ≤ (hi : Int)) : -((lo * pl_sz e k : Nat) : Int) ≤ (ts e w k).toInt ∧ (ts e w k).toInt ≤ ((hi * pl_sz e k : Nat) : Int) := by
  have hs : pl_sz e k ≤ 240 := cnt_le _ 240
  have h1 := sum_in (p := pl_in e k) (M := lo) 240
  have h2 := sum_in (p := pl_in e k) (M := hi) 240
  have h3 : lo * pl_sz e k ≤ lo * 240 := Nat.mul_le_mul_left _ hs
  have h4 : hi * pl_sz e k ≤ hi * 240 := Nat.mul_le_mul_left _ hs
  have := sL_i (f := fun c => if pl_in e k c = true then w c else 0) (lo := fun c => if pl_in e k c = true then lo else 0) (hi := fun c => if pl_in e k c = true then hi else 0) 240 (fun c hc => by
    by_cases z : pl_in e k c = true
    · simp only [if_pos z]; exact h c hc
    · simp only [if_neg z]; exact ⟨by decide, by decide⟩) (by rw [h1]; show lo * pl_sz e k < _; omega) (by rw [h2]; show hi * pl_sz e k < _; omega)
  rw [h1, h2] at this
  exact this
theorem wrm_bn {q : Nat} (hq : q < 2 ^ 15) (hk : k < pl_n e) (h : ∀ c, c < 240 → -(100000 + 100000 * (q : Int)) ≤ (w c).toInt ∧ (w c).toInt ≤ 100000 + 100000 * (q : Int)) : -(1000 + 1000 * (q : Int)) ≤ (wrm e w k).toInt ∧ (wrm e w k).toInt ≤ 1000 + 1000 * (q : Int) := by
  obtain ⟨s1, s2⟩ := sz_b hk
  obtain ⟨t1, t2⟩ := ts_b (e := e) (w := w) (k := k) (lo := 100000 + 100000 * q) (hi := 100000 + 100000 * q) (by omega) (by omega) (fun c hc => by have := h c hc; omega)
  have h3 : (100000 + 100000 * q) * pl_sz e k ≤ (100000 + 100000 * q) * 240 := Nat.mul_le_mul_left _ s2
  unfold wrm
  generalize pl_sz e k = n at *
  have e1 : ((100000 + 100000 * q) * n : Nat) = (1000 + 1000 * q) * (100 * n) := by
    rw [← Nat.mul_assoc, show (1000 + 1000 * q) * 100 = 100000 + 100000 * q by omega]
  refine fl_b (by omega) (by omega) (by omega) ?_ ?_
  · rw [e1] at t1
    have : -(1000 + 1000 * (q : Int)) * ((100 * n : Nat) : Int) = -(((1000 + 1000 * q) * (100 * n) : Nat) : Int) := by
      rw [Int.natCast_mul, Int.neg_mul]
      congr 1
    omega
  · rw [e1] at t2
    have : (1000 + 1000 * (q : Int)) * ((100 * n : Nat) : Int) = (((1000 + 1000 * q) * (100 * n) : Nat) : Int) := by
      rw [Int.natCast_mul]
      congr 1
    omega
theorem stq_bn {C : Nat} (hC : C < 2 ^ 39) (hk : k < pl_n e) (h : smb w C) : 0 ≤ (stq e w k).toInt ∧ (stq e w k).toInt ≤ (C : Int) := by
  obtain ⟨s1, s2⟩ := sz_b hk
  obtain ⟨t1, t2⟩ := ts_b (e := e) (w := w) (k := k) (lo := 0) (hi := C) (by omega) (by omega) (fun c hc => by have := h c hc; omega)
  have h3 : C * pl_sz e k ≤ C * 240 := Nat.mul_le_mul_left _ s2
  unfold stq
  rw [Nat.one_mul]
  generalize pl_sz e k = n at *
  rw [Nat.zero_mul] at t1
  exact fl_b (by omega) (by omega) (by omega) (by omega) (by rw [← Int.natCast_mul]; exact t2)
/-- what a cell gets of what its space has -/
theorem spd_b {T : Nat → Int64} {lo hi : Int} {c : Nat} (hc : c < 240) (hT : -(2 ^ 61 : Int) ≤ (T (pl_lab e c)).toInt ∧ (T (pl_lab e c)).toInt ≤ 2 ^ 61) (hb : -(2 ^ 61 : Int) ≤ lo ∧ hi ≤ 2 ^ 61) (h1 : lo * (pl_sz e (pl_lab e c) : Int) ≤ (T (pl_lab e c)).toInt) (h2 : (T (pl_lab e c)).toInt ≤ hi * (pl_sz e (pl_lab e c) : Int)) : lo ≤ (spd e T c).toInt ∧ (spd e T c).toInt ≤ hi + 1 := by
  obtain ⟨s1, s2⟩ := sz_b (pl_lab_lt (e := e) hc)
  obtain ⟨f1, f2⟩ := fl_b (x := T (pl_lab e c)) (n := pl_sz e (pl_lab e c)) (lo := lo) (hi := hi) s1 (by omega) (by omega) h1 h2
  unfold spd spi
  have e1 : (spq e T (pl_lab e c) + 1).toInt = (spq e T (pl_lab e c)).toInt + 1 := by
    rw [Int64.toInt_add, show (1 : Int64).toInt = 1 from rfl]
    unfold spq
    exact Int.bmod_eq_of_le (by omega) (by omega)
  split
  · rw [e1]; unfold spq; omega
  · unfold spq; omega
theorem cnt_imp {p r : Nat → Bool} : ∀ n, (∀ i, i < n → p i = true → r i = true) → cnt p n ≤ cnt r n := by
  intro n
  induction n with
  | zero => intro _; exact Nat.le_refl _
  | succ n ih =>
    intro h
    have h1 := ih (fun i hi => h i (by omega))
    cases hp : p n with
    | true => rw [cnt_s hp, cnt_s (h n (by omega) hp)]; omega
    | false =>
      rw [cnt_sn hp]
      exact Nat.le_trans h1 (cnt_mono (by omega))
theorem gl_140 : pl_gl e k ≤ 140 := by
  have h : cnt (fun i => decide (ge_sd (i % 110) < 4)) 550 = 140 := by decide +kernel
  unfold pl_gl
  rw [← h]
  refine cnt_imp 550 (fun i _ hp => ?_)
  unfold pl_glp at hp
  have := of_decide_eq_true hp
  exact decide_eq_true this.1
theorem hrt_b {A : Nat → Nat} {C : Nat} (h : ∀ j, j < 10 → A j ≤ C) : hrt e fl A k ≤ C * 10 := by
  unfold hrt
  exact sumN_bd (fun i hi => by split; exact h i hi; exact Nat.zero_le _)
theorem sal_b {P : Nat → Nat} {hr vv q : Nat} (hq : q < 2 ^ 15) (hP : ∀ j, P j ≤ 20) (hv : vv ≤ 90) (h : smb w (5000 * q)) : smb (spd e (arT e fl (fun j => 20 * pnt e fl P hr j) vv w)) (5000 * (q + 1)) := by
  intro c hc
  have hk := pl_lab_lt (e := e) hc
  have hpn : ∀ j, j < 10 → 20 * pnt e fl P hr j ≤ 400 := fun j _ => by
    have : pnt e fl P hr j ≤ 20 := by unfold pnt; split; exact hP _; omega
    omega
  have hh := hrt_b (e := e) (fl := fl) (k := pl_lab e c) (A := fun j => 20 * pnt e fl P hr j) (C := 400) hpn
  obtain ⟨s1, s2⟩ := sz_b hk
  have hg := gl_140 (e := e) (k := pl_lab e c)
  obtain ⟨t1, t2⟩ := ts_b (e := e) (w := w) (k := pl_lab e c) (lo := 0) (hi := 5000 * q) (by omega) (by omega) (fun c hc => by have := h c hc; omega)
  have h3 : 5000 * q * pl_sz e (pl_lab e c) ≤ 5000 * q * 240 := Nat.mul_le_mul_left _ s2
  have h4 : 4000 ≤ 4000 * pl_sz e (pl_lab e c) := Nat.le_mul_of_pos_right _ s1
  have U : (arT e fl (fun j => 20 * pnt e fl P hr j) vv w (pl_lab e c)).toInt = (ts e w (pl_lab e c)).toInt + (hrt e fl (fun j => 20 * pnt e fl P hr j) (pl_lab e c) : Int) - ((ts e w (pl_lab e c)).toInt + (hrt e fl (fun j => 20 * pnt e fl P hr j) (pl_lab e c) : Int)) * ((2 * pl_gl e (pl_lab e c) + vv : Nat) : Int) / 1000 := by
    unfold arT vnt
    dsimp only
    generalize hrt e fl (fun j => 20 * pnt e fl P hr j) (pl_lab e c) = r at *
    generalize pl_gl e (pl_lab e c) = g at *
    generalize pl_sz e (pl_lab e c) = n at *
    generalize ts e w (pl_lab e c) = t at *
    rw [Nat.zero_mul] at t1
    have e1 : (t + lN r).toInt = t.toInt + (r : Int) := by rw [Int64.toInt_add, lN_j (by omega), Int.bmod_eq_of_le (by omega) (by omega)]
    have hu0 : 0 ≤ t.toInt + (r : Int) := by omega
    have hu1 : t.toInt + (r : Int) ≤ 2 ^ 40 := by omega
    generalize t.toInt + (r : Int) = U at *
    have hg2 : 2 * g + vv ≤ 370 := by omega
    have p1 : 0 ≤ U * ((2 * g + vv : Nat) : Int) := Int.mul_nonneg hu0 (by omega)
    have p2 : U * ((2 * g + vv : Nat) : Int) ≤ U * 370 := Int.mul_le_mul_of_nonneg_left (by omega) hu0
    have e2 : ((t + lN r) * lN (2 * g + vv)).toInt = U * ((2 * g + vv : Nat) : Int) := by
      rw [Int64.toInt_mul, e1, lN_j (by omega), Int.bmod_eq_of_le (by omega) (by omega)]
    have e3 : ((t + lN r) * lN (2 * g + vv) / 1000).toInt = U * ((2 * g + vv : Nat) : Int) / 1000 := by
      rw [Int64.toInt_div, e2, show (1000 : Int64).toInt = 1000 from rfl, Int.tdiv_eq_ediv_of_nonneg p1, Int.bmod_eq_of_le (by omega) (by omega)]
    rw [Int64.toInt_sub, e1, e3, Int.bmod_eq_of_le (by omega) (by omega)]
  generalize hrt e fl (fun j => 20 * pnt e fl P hr j) (pl_lab e c) = r at *
  rw [Nat.zero_mul] at t1
  have hr0 : (0 : Int) ≤ (r : Int) := by omega
  have V0 : 0 ≤ (arT e fl (fun j => 20 * pnt e fl P hr j) vv w (pl_lab e c)).toInt ∧ (arT e fl (fun j => 20 * pnt e fl P hr j) vv w (pl_lab e c)).toInt ≤ (ts e w (pl_lab e c)).toInt + (r : Int) := by
    rw [U]
    have hu0 : 0 ≤ (ts e w (pl_lab e c)).toInt + (r : Int) := by omega
    generalize (ts e w (pl_lab e c)).toInt + (r : Int) = X at *
    have p1 : 0 ≤ X * ((2 * pl_gl e (pl_lab e c) + vv : Nat) : Int) := Int.mul_nonneg hu0 (by omega)
    have p2 : X * ((2 * pl_gl e (pl_lab e c) + vv : Nat) : Int) ≤ X * 370 := Int.mul_le_mul_of_nonneg_left (by omega) hu0
    omega
  obtain ⟨v0, v1⟩ := V0
  clear U
  have R := spd_b (e := e) (T := arT e fl (fun j => 20 * pnt e fl P hr j) vv w) (lo := 0) (hi := ((5000 * q + 4000 : Nat) : Int)) hc ⟨by omega, by omega⟩ ⟨by omega, by omega⟩ (by rw [Int.zero_mul]; exact v0) (by
    rw [← Int.natCast_mul, Nat.add_mul]
    omega)
  omega
end Bd
