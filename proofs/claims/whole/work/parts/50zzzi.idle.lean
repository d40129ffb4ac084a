/-! PURE (50zzzi): no fire does nothing; smoke stays within bounds. -/
def smb (s : Nat → Int64) (B : Nat) : Prop := ∀ c, c < 240 → 0 ≤ (s c).toInt ∧ (s c).toInt ≤ (B : Int)
section Idl
variable {e F : Nat → Nat} {s h : Nat → Int64} {lv sp : Bool} {vn tk B : Nat}
theorem drf_0 {s0 f : Nat → Int64} (h0 : ∀ c, c < 240 → s0 c = 0) (hf : ∀ c, c < 240 → f c = 0) : ∀ t, t ≤ 550 → ∀ c, c < 240 → drf e s0 t f c = 0 := by
  intro t
  induction t with
  | zero => intro _ c hc; exact hf c hc
  | succ t ih =>
    intro ht
    have hi := ih (by omega)
    show ∀ c, c < 240 → dr1 e s0 t (drf e s0 t f) c = 0
    generalize drf e s0 t f = a at hi
    intro c hc
    unfold dr1
    by_cases w : e t = 0 ∧ ge_sd (t % 110) = 4
    · obtain ⟨g1, g2, _⟩ := ge_ab_ok (show t < 550 by omega) w.2
      rw [if_pos w]
      have eq : drq s0 t = 0 := by rw [drq, h0 _ g1, h0 _ g2]; rfl
      rw [eq, upL_a, upL_a, upL_a, hi _ g1, hi _ g2, hi c hc, Int64.sub_zero, ite_self, ite_self, Int64.add_zero]
      exact ite_self 0
    · rw [if_neg w]; exact hi c hc
theorem lg_id {f : Nat → Nat} (h : ∀ c, c < 240 → F c ≠ 100) : ∀ t, t ≤ 240 → lg e F t f = f := by
  intro t
  induction t with
  | zero => intro _; rfl
  | succ t ih =>
    intro ht
    have es : lg e F (t + 1) f = if F t = 100 then it (lg1 e t) 4 (lg e F t f) else lg e F t f := rfl
    rw [es, if_neg (h t (by omega)), ih (by omega)]
theorem idle (hF : ∀ c, c < 240 → F c = 0) (hs : ∀ c, c < 240 → s c = 0) : (∀ c, c < 240 → (frX e F s lv vn sp tk).1 c = 0) ∧ (frX e F s lv vn sp tk).2 = tk ∧ (∀ c, c < 240 → frS e F s lv vn c = 0) ∧ ∀ c, c < 240 → gH F h c = h c := by
  have g0 : ∀ c, c < 240 → gS F s c = 0 := fun c hc => by rw [gS, hF c hc, if_neg (Nat.lt_irrefl _), hs c hc]
  have s0 : ∀ c, c < 240 → frS e F s lv vn c = 0 := fun c hc => by
    rw [frS, vts, drf_0 g0 g0 550 (Nat.le_refl _) c hc]
    split
    · rw [Int64.zero_mul]; rfl
    · rfl
  have l0 : lg e F 240 (gF F) = gF F := lg_id (fun c hc => by rw [hF c hc]; decide) 240 (Nat.le_refl _)
  have f0 : ∀ c, c < 240 → gF F c = 0 := fun c hc => by rw [gF, hF c hc, if_neg (Nat.lt_irrefl _)]
  have sA : ∀ t, spA e (frS e F s lv vn) t (gF F, tk) = (gF F, tk) := fun t => by
    induction t with
    | zero => rw [spA_0]
    | succ t ih =>
      rw [spA_s, ih, if_neg]
      intro z
      have z' := of_decide_eq_true z
      rw [ts_0 s0] at z'
      have h1 : 0 ≤ (20 * lN (pl_sz e t)).toInt := by
        have h2 : pl_sz e t ≤ 240 := cnt_le _ 240
        generalize pl_sz e t = y at h2
        rw [show (20 : Int64) = lN 20 from rfl, lN_mul, lN_j (by omega)]
        omega
      have := lt_i.mp z'
      rw [i_0] at this
      omega
  have hX : frX e F s lv vn sp tk = (gF F, tk) := by
    rw [frX, l0, sA]
    exact ite_self _
  refine ⟨fun c hc => by rw [hX]; exact f0 c hc, by rw [hX], s0, fun c hc => by rw [gH, hF c hc, if_neg (Nat.lt_irrefl _)]⟩
theorem tdv4 (x y B : Int) (hx : 0 ≤ x ∧ x ≤ B) (hy : 0 ≤ y ∧ y ≤ B) : -y ≤ 4 * Int.tdiv (x - y) 4 ∧ 4 * Int.tdiv (x - y) 4 ≤ B - y ∧ -x ≤ -(4 * Int.tdiv (x - y) 4) ∧ -(4 * Int.tdiv (x - y) 4) ≤ B - x := by
  rcases Int.lt_or_le (x - y) 0 with w | w
  · have h1 : Int.tdiv (x - y) 4 = -((-(x - y)) / 4) := by
      rw [← Int.tdiv_eq_ediv_of_nonneg (show 0 ≤ -(x - y) by omega), Int.neg_tdiv, Int.neg_neg]
    rw [h1]
    omega
  · rw [Int.tdiv_eq_ediv_of_nonneg w]
    omega
/-- flows into a cell -/
def flo (e : Nat → Nat) (s : Nat → Int64) (c i : Nat) : Int := if e i = 0 ∧ ge_sd (i % 110) = 4 then (if ge_cb i = c then Int.tdiv ((s (ge_ca i)).toInt - (s (ge_cb i)).toInt) 4 else if ge_ca i = c then -(Int.tdiv ((s (ge_ca i)).toInt - (s (ge_cb i)).toInt) 4) else 0) else 0
def sZ (f : Nat → Int) : Nat → Int
  | 0 => 0
  | n + 1 => sZ f n + f n
def atc (c i : Nat) : Bool := decide (ge_sd (i % 110) = 4 ∧ (ge_ca i = c ∨ ge_cb i = c))
theorem at_4 : ∀ c, c < 48 → cnt (fun i => decide (ge_sd i = 4 ∧ (ge_bf i = c ∨ ge_bh i = c))) 110 ≤ 4 := by decide +kernel
theorem cnt_win {p : Nat → Bool} (a : Nat) : ∀ n, cnt p (a + n) = cnt p a + cnt (fun j => p (a + j)) n := by
  intro n
  induction n with
  | zero => rfl
  | succ n ih =>
    by_cases z : p (a + n) = true
    · rw [show a + (n + 1) = a + n + 1 from rfl, cnt_s z, cnt_s (p := fun j => p (a + j)) z, ih]; omega
    · have z' : p (a + n) = false := by simpa using z
      rw [show a + (n + 1) = a + n + 1 from rfl, cnt_sn z', cnt_sn (p := fun j => p (a + j)) z', ih]
theorem cnt_non2 {p : Nat → Bool} : ∀ n, (∀ i, i < n → p i = false) → cnt p n = 0 := by
  intro n
  induction n with
  | zero => intro _; rfl
  | succ n ih => intro h; rw [cnt_sn (h n (by omega)), ih (fun i hi => h i (by omega))]
theorem atc_4 {c : Nat} (hc : c < 240) : cnt (atc c) 550 ≤ 4 := by
  have h1 : ∀ j, j < 110 → ge_sd j = 4 → ge_bf j < 48 ∧ ge_bh j < 48 := by decide +kernel
  have no : ∀ i, i < 550 → i / 110 ≠ c / 48 → atc c i = false := fun i hi hne => by
    unfold atc
    refine decide_eq_false (fun z => hne ?_)
    obtain ⟨b1', b2'⟩ := h1 (i % 110) (by omega) z.1
    have z2 := z.2
    unfold ge_ca ge_cb at z2
    omega
  have e1 : 550 = 110 * (c / 48) + 110 + (550 - (110 * (c / 48) + 110)) := by omega
  rw [e1, cnt_win, cnt_win, cnt_non2 (p := atc c) (110 * (c / 48)) (fun i hi => no i (by omega) (by omega)), cnt_non2 (550 - (110 * (c / 48) + 110)) (fun i hi => no _ (by omega) (by omega))]
  have h2 := at_4 (c % 48) (by omega)
  rw [cnt_cg (p := fun j => atc c (110 * (c / 48) + j)) (q := fun i => decide (ge_sd i = 4 ∧ (ge_bf i = c % 48 ∨ ge_bh i = c % 48))) (fun j hj => ?_)]
  · omega
  · show decide _ = decide _
    refine decide_eq_decide.mpr ?_
    have m1 : (110 * (c / 48) + j) % 110 = j := by omega
    have m2 : (110 * (c / 48) + j) / 110 = c / 48 := by omega
    unfold ge_ca ge_cb
    rw [m1, m2]
    constructor
    · rintro ⟨a, b⟩
      obtain ⟨b1', b2'⟩ := h1 j hj a
      exact ⟨a, by omega⟩
    · rintro ⟨a, b⟩
      exact ⟨a, by omega⟩
theorem flo_b (hs : smb s B) {c i : Nat} (hc : c < 240) (hi : i < 550) : (atc c i = false → flo e s c i = 0) ∧ -((s c).toInt) ≤ 4 * flo e s c i ∧ 4 * flo e s c i ≤ (B : Int) - (s c).toInt := by
  have hcb := hs c hc
  unfold flo
  by_cases w : e i = 0 ∧ ge_sd (i % 110) = 4
  · rw [if_pos w]
    obtain ⟨g1, g2, _⟩ := ge_ab_ok hi w.2
    have t := tdv4 (s (ge_ca i)).toInt (s (ge_cb i)).toInt B (hs _ g1) (hs _ g2)
    by_cases z : ge_cb i = c
    · rw [if_pos z]
      refine ⟨fun hn => ?_, ?_⟩
      · unfold atc at hn
        exact absurd ⟨w.2, Or.inr z⟩ (of_decide_eq_false hn)
      · rw [z] at t ⊢
        omega
    · rw [if_neg z]
      by_cases y : ge_ca i = c
      · rw [if_pos y]
        refine ⟨fun hn => ?_, ?_⟩
        · unfold atc at hn
          exact absurd ⟨w.2, Or.inl y⟩ (of_decide_eq_false hn)
        · rw [y] at t ⊢
          omega
      · rw [if_neg y]
        exact ⟨fun _ => rfl, by omega, by omega⟩
  · rw [if_neg w]
    exact ⟨fun _ => rfl, by omega, by omega⟩
theorem flo_s (hs : smb s B) {c : Nat} (hc : c < 240) : ∀ t, t ≤ 550 → -((cnt (atc c) t : Int) * (s c).toInt) ≤ 4 * sZ (flo e s c) t ∧ 4 * sZ (flo e s c) t ≤ (cnt (atc c) t : Int) * ((B : Int) - (s c).toInt) := by
  intro t
  induction t with
  | zero =>
    intro _
    show -(((0 : Nat) : Int) * (s c).toInt) ≤ 4 * 0 ∧ 4 * 0 ≤ ((0 : Nat) : Int) * ((B : Int) - (s c).toInt)
    simp
  | succ t ih =>
    intro ht
    obtain ⟨i1, i2⟩ := ih (by omega)
    obtain ⟨f1, f2, f3⟩ := flo_b (e := e) hs hc (show t < 550 by omega)
    rw [sZ]
    cases ha : atc c t with
    | true =>
      rw [cnt_s ha, show ((cnt (atc c) t + 1 : Nat) : Int) = (cnt (atc c) t : Int) + 1 from rfl, Int.add_mul, Int.add_mul, Int.one_mul, Int.one_mul]
      omega
    | false =>
      rw [cnt_sn ha, f1 ha, Int.add_zero]
      exact ⟨i1, i2⟩
theorem flo_a (hs : smb s B) {c : Nat} (hc : c < 240) : ∀ t, t ≤ 550 → -(B : Int) ≤ sZ (flo e s c) t ∧ sZ (flo e s c) t ≤ B := by
  intro t ht
  obtain ⟨h1, h2⟩ := flo_s (e := e) hs hc t ht
  have h4 : cnt (atc c) t ≤ 4 := Nat.le_trans (cnt_mono ht) (atc_4 hc)
  have hb := hs c hc
  have m1 : (cnt (atc c) t : Int) * (s c).toInt ≤ 4 * (s c).toInt := Int.mul_le_mul_of_nonneg_right (by omega) hb.1
  have m2 : (cnt (atc c) t : Int) * ((B : Int) - (s c).toInt) ≤ 4 * ((B : Int) - (s c).toInt) := Int.mul_le_mul_of_nonneg_right (by omega) (by omega)
  omega
theorem drf_i (hB : B < 2 ^ 40) (hs : smb s B) : ∀ t, t ≤ 550 → ∀ c, c < 240 → (drf e s t s c).toInt = (s c).toInt + sZ (flo e s c) t := by
  intro t
  induction t with
  | zero => intro _ c hc; show (s c).toInt = (s c).toInt + 0; omega
  | succ t ih =>
    intro ht c hc
    have hi := ih (by omega)
    have ha := flo_a (e := e) hs hc (t + 1) ht
    have hcb := hs c hc
    show (dr1 e s t (drf e s t s) c).toInt = _
    rw [sZ] at ha ⊢
    have hic := hi c hc
    generalize sZ (flo e s c) t = m at hic ha ⊢
    generalize drf e s t s = f at hic
    unfold dr1
    by_cases w : e t = 0 ∧ ge_sd (t % 110) = 4
    · obtain ⟨g1, g2, _⟩ := ge_ab_ok (show t < 550 by omega) w.2
      have hab : ge_ca t ≠ ge_cb t := fun z => by
        have h1 : ∀ j, j < 110 → ge_sd j = 4 → ge_bf j ≠ ge_bh j := by decide +kernel
        unfold ge_ca ge_cb at z
        exact h1 (t % 110) (by omega) w.2 (by omega)
      have hA := hs _ g1
      have hBb := hs _ g2
      have eq : (drq s t).toInt = Int.tdiv ((s (ge_ca t)).toInt - (s (ge_cb t)).toInt) 4 := by
        rw [drq, Int64.toInt_div, Int64.toInt_sub, Int.bmod_eq_of_le (n := (s (ge_ca t)).toInt - (s (ge_cb t)).toInt) (by omega) (by omega)]
        have tb := tdv4 (s (ge_ca t)).toInt (s (ge_cb t)).toInt B hA hBb
        rw [show (4 : Int64).toInt = 4 from rfl]
        exact Int.bmod_eq_of_le (by omega) (by omega)
      have tb := tdv4 (s (ge_ca t)).toInt (s (ge_cb t)).toInt B hA hBb
      rw [if_pos w, two_up hab c]
      unfold flo at ha ⊢
      rw [if_pos w] at ha ⊢
      by_cases z : ge_cb t = c
      · rw [if_pos z] at ha ⊢
        rw [if_pos z, if_neg (fun y => hab (y.trans z.symm)), Int64.sub_zero, Int64.toInt_add, hic, eq, Int.bmod_eq_of_le (by omega) (by omega)]
        omega
      · rw [if_neg z] at ha ⊢
        by_cases y : ge_ca t = c
        · rw [if_pos y] at ha ⊢
          rw [if_neg z, if_pos y, Int64.zero_sub, ← Int64.sub_eq_add_neg, Int64.toInt_sub, hic, eq, Int.bmod_eq_of_le (by omega) (by omega)]
          omega
        · rw [if_neg y, if_neg z, if_neg y, Int64.sub_zero, Int64.add_zero, hic]
          omega
    · rw [if_neg w, hic, flo, if_neg w]
      omega
theorem drf_b (hB : B < 2 ^ 40) (hs : smb s B) : smb (drf e s 550 s) B := by
  intro c hc
  rw [drf_i hB hs 550 (Nat.le_refl _) c hc]
  obtain ⟨h1, h2⟩ := flo_s (e := e) hs hc 550 (Nat.le_refl _)
  have h4 := atc_4 hc
  have hb := hs c hc
  have m1 : (cnt (atc c) 550 : Int) * (s c).toInt ≤ 4 * (s c).toInt := Int.mul_le_mul_of_nonneg_right (by omega) hb.1
  have m2 : (cnt (atc c) 550 : Int) * ((B : Int) - (s c).toInt) ≤ 4 * ((B : Int) - (s c).toInt) := Int.mul_le_mul_of_nonneg_right (by omega) (by omega)
  omega
theorem gS_b (hB : B < 2 ^ 40) (hs : smb s B) (hF : ∀ c, c < 240 → F c ≤ 100) : smb (gS F s) (B + 200) := by
  intro c hc
  have hb := hs c hc
  have hf := hF c hc
  unfold gS
  split
  · rw [Int64.toInt_add, lN_j (by omega), Int.bmod_eq_of_le (by omega) (by omega)]
    omega
  · omega
theorem vts_b (hB : B < 2 ^ 40) (hs : smb s B) (hv : vn ≤ 50) : smb (vts lv vn s) B := by
  intro c hc
  have hb := hs c hc
  unfold vts
  split
  · have m1 : (s c).toInt * (vn : Int) ≤ (s c).toInt * 50 := Int.mul_le_mul_of_nonneg_left (by omega) hb.1
    have m0 : 0 ≤ (s c).toInt * (vn : Int) := Int.mul_nonneg hb.1 (by omega)
    have e1 : (s c * lN vn).toInt = (s c).toInt * (vn : Int) := by
      rw [Int64.toInt_mul, lN_j (by omega)]
      exact Int.bmod_eq_of_le (by omega) (by omega)
    have e2 : ((s c * lN vn) / 50).toInt = ((s c).toInt * (vn : Int)) / 50 := by
      rw [Int64.toInt_div, e1, show (50 : Int64).toInt = 50 from rfl, Int.tdiv_eq_ediv_of_nonneg m0]
      exact Int.bmod_eq_of_le (by omega) (by omega)
    rw [Int64.toInt_sub, e2, Int.bmod_eq_of_le (by omega) (by omega)]
    omega
  · exact hb
theorem frS_b (hB : B < 2 ^ 39) (hs : smb s B) (hF : ∀ c, c < 240 → F c ≤ 100) (hv : vn ≤ 50) : smb (frS e F s lv vn) (B + 200) := vts_b (by omega) (drf_b (by omega) (gS_b (by omega) hs hF)) hv
/-- without flames and with no smoke above nothing there is none -/
theorem anl_f : ∀ n, anl F s n = false → ∀ c, c < n → F c = 0 ∧ ¬ 0 < s c := by
  intro n
  induction n with
  | zero => intro _ c hc; exact absurd hc (Nat.not_lt_zero _)
  | succ n ih =>
    intro h c hc
    have h' : (anl F s n || decide (0 < F n ∨ 0 < s n)) = false := h
    have h1 := Bool.or_eq_false_iff.mp h'
    by_cases z : c = n
    · have h2 := of_decide_eq_false h1.2
      rw [z]
      exact ⟨by have : ¬ 0 < F n := fun y => h2 (Or.inl y); omega, fun y => h2 (Or.inr y)⟩
    · exact ih h1.1 c (by omega)
theorem smb_0 (hs : smb s B) {c : Nat} (hc : c < 240) (h : ¬ 0 < s c) : s c = 0 := by
  have h1 := hs c hc
  apply Int64.toInt_inj.mp
  rw [i_0]
  have : ¬ 0 < (s c).toInt := fun z => h (lt_i.mpr (by rw [i_0]; exact z))
  omega
end Idl
