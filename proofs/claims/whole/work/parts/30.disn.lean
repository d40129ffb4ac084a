/-! PURE (30): what reopening finds, when a snapshot is written. -/
section Dsn
variable {d : Nat → Nat → Nat} {a gn us : Nat} {kt : Nat → Bool} {kb : Nat → Nat → Nat} {z : Int32}
theorem le_mm {x g a b : Nat} (h : x ≤ g) : x ≤ max a (max b g) := Nat.le_trans h (Nat.le_trans (Nat.le_max_right _ _) (Nat.le_max_right _ _))
theorem le_ml {x g a b : Nat} (h : x ≤ g) : x ≤ max a (max g b) := Nat.le_trans h (Nat.le_trans (Nat.le_max_left _ _) (Nat.le_max_right _ _))
theorem fkb_0 {d : Nat → Nat → Nat} {a : Nat} : ∀ {n k : Nat}, fkt d a n k = false → ∀ i, fkb d a n k i = 0 := by
  intro n
  induction n with
  | zero => intro k _ i; rfl
  | succ n ih =>
    intro k h i
    rw [fkt, up_d] at h
    rw [fkb, up_d]
    by_cases w : k = rky d a (n + 1)
    · rw [if_pos w] at h; cases h
    · rw [if_neg w] at h ⊢; exact ih h i
/-- a snapshot so far -/
def sn_P (d : Nat → Nat → Nat) (a g : Nat) (kt : Nat → Bool) (kb : Nat → Nat → Nat) (k : Nat) (e : Nat → Nat → Nat) : Prop := (∀ n, rsm e d a n) ∧ (∀ n, n = 0 ∨ cnt kt k < n → rsm e d (1 - a) n) ∧ (∀ n, 1 ≤ n → n ≤ cnt kt k → krw e (1 - a) n g ∧ e (1 - a) (48 * n + 3) = 0 ∧ (e (1 - a) (48 * n + 2) = b1 (decide (n = cnt kt 135)))) ∧ (∀ q, fkt e (1 - a) (cnt kt k) q = decide (q < k ∧ kt q = true)) ∧ ∀ q i, i < 28 → fkb e (1 - a) (cnt kt k) q i = if q < k ∧ kt q = true then kb q i else 0
theorem sn_P1 {g : Nat} (ha : a < 2) (hg : g < 2 ^ 32) (hkb : ∀ k i, kb k i < 256) : ∀ k, k ≤ 135 → (sn_k kt kb (1 - a) (lN g) d z k).2.2.2 = true → sn_P d a g kt kb k (sn_k kt kb (1 - a) (lN g) d z k).1 := by
  intro k
  induction k with
  | zero => intro _ _; exact ⟨fun n j _ => rfl, fun n _ j _ => rfl, fun n h1 h2 => absurd h1 (by rw [cnt] at h2; omega), fun q => (decide_eq_false (fun w => absurd w.1 (Nat.not_lt_zero _))).symm, fun q i _ => (if_neg (fun w => absurd w.1 (Nat.not_lt_zero _))).symm⟩
  | succ k ih =>
    intro hk hok
    have e0 : sn_k kt kb (1 - a) (lN g) d z (k + 1) = sn_1 kt kb (1 - a) (cnt kt 135) (lN g) k (sn_k kt kb (1 - a) (lN g) d z k) := rfl
    rw [e0] at hok ⊢
    have hrow := sn_row (kt := kt) (kb := kb) (to := 1 - a) (g := lN g) (d := d) (z := z) (k := k)
    generalize hS : sn_k kt kb (1 - a) (lN g) d z k = S at *
    have hck := cnt_le kt k
    unfold sn_1 at hok ⊢
    by_cases hs : S.2.2.2 = true ∧ kt k = true
    · rw [if_pos hs] at hok ⊢
      obtain ⟨h1, h2, h3, h4, h5⟩ := ih (by omega) hs.1
      have hr := hrow hs.1
      simp only at hok ⊢
      rw [hok, hr]
      obtain ⟨q1, q2, q3, q4, q5, -⟩ := kdk_ok k (by omega)
      obtain ⟨r1, r2, r3, r4, r5, r6⟩ := row_t (d := S.1) (a := 1 - a) (n := cnt kt k + 1) (kd := kdk k) (ix := ixk k) (la := decide (cnt kt k + 1 = cnt kt 135)) (g := g) (pay := kb k) (by omega) (by omega) (hkb _) (by omega) hg
      have hoth : ∀ a' n', (a' ≠ 1 - a ∨ n' ≠ cnt kt k + 1) → rsm (dkw S.1 (1 - a) (cnt kt k + 1) (rw0 (kdk k) (ixk k) (decide (cnt kt k + 1 = cnt kt 135)) (cnt kt k + 1) (lN g) (kb k)) true) S.1 a' n' := fun a' n' h => dkw_rsm h
      generalize dkw S.1 (1 - a) (cnt kt k + 1) (rw0 (kdk k) (ixk k) (decide (cnt kt k + 1 = cnt kt 135)) (cnt kt k + 1) (lN g) (kb k)) true = E at *
      unfold sn_P
      rw [cnt_s hs.2]
      have hky : rky E (1 - a) (cnt kt k + 1) = k := by unfold rky; rw [r3, r4, kyo_k (by omega)]
      have hold : ∀ m, 1 ≤ m → m ≤ cnt kt k → rsm E S.1 (1 - a) m := fun m _ hm => hoth _ _ (Or.inr (by omega))
      refine ⟨fun n j hj => ?_, fun n hn j hj => ?_, fun n hn1 hn2 => ?_, fun q => ?_, fun q i hi => ?_⟩
      · rw [hoth a n (by omega) j hj]; exact h1 n j hj
      · rw [hoth (1 - a) n (by omega) j hj]; exact h2 n (by omega) j hj
      · by_cases w : n = cnt kt k + 1
        · subst w
          refine ⟨⟨r1, r2, ?_⟩, r1.1, r5⟩
          rw [r3, r4, kyo_k (by omega)]; omega
        · have e1 := hold n hn1 (by omega)
          obtain ⟨y1, y2, y3⟩ := h3 n hn1 (by omega)
          exact ⟨(rsm_krw e1).mpr y1, by rw [e1 3 (by omega)]; exact y2, by rw [e1 2 (by omega)]; exact y3⟩
      · rw [fkt, hky, up_d, fkt_congr (e := S.1) hold, h4]
        by_cases w : q = k
        · rw [if_pos w, w]; simp [hs.2]
        · rw [if_neg w]; apply decide_eq_decide.mpr; constructor
          · rintro ⟨w1, w2⟩; exact ⟨by omega, w2⟩
          · rintro ⟨w1, w2⟩; exact ⟨by omega, w2⟩
      · rw [fkb, hky, up_d]
        by_cases w : q = k
        · rw [if_pos w, w, if_pos ⟨by omega, hs.2⟩]
          exact r6 i hi
        · rw [if_neg w, fkb_congr (e := S.1) hold q i hi, h5 q i hi]
          by_cases w2 : q < k ∧ kt q = true
          · rw [if_pos w2, if_pos ⟨by omega, w2.2⟩]
          · rw [if_neg w2, if_neg (fun y => w2 ⟨by omega, y.2⟩)]
    · rw [if_neg hs] at hok ⊢
      have hkk : kt k = false := by cases e : kt k with | false => rfl | true => exact absurd ⟨hok, e⟩ hs
      obtain ⟨h1, h2, h3, h4, h5⟩ := ih (by omega) hok
      unfold sn_P
      rw [cnt_sn hkk]
      refine ⟨h1, h2, h3, fun q => ?_, fun q i hi => ?_⟩
      · rw [h4]; apply decide_eq_decide.mpr; constructor
        · rintro ⟨w1, w2⟩; exact ⟨by omega, w2⟩
        · rintro ⟨w1, w2⟩
          refine ⟨?_, w2⟩
          rcases Nat.lt_or_ge q k with y | y
          · exact y
          · have : q = k := by omega
            rw [this, hkk] at w2; cases w2
      · rw [h5 q i hi]
        by_cases w2 : q < k ∧ kt q = true
        · rw [if_pos w2, if_pos ⟨by omega, w2.2⟩]
        · have hn : ¬ (q < k + 1 ∧ kt q = true) := by
            rintro ⟨y1, y3⟩
            rcases Nat.lt_or_ge q k with y2 | y2
            · exact w2 ⟨y2, y3⟩
            · have : q = k := by omega
              rw [this, hkk] at y3; cases y3
          rw [if_neg w2, if_neg hn]
/-- the other area may change, if its head isn't good then -/
theorem DI_oth (h : DI d a gn us kt kb) {e : Nat → Nat → Nat} (h1 : ∀ n, rsm e d a n) (h2 : whl e (1 - a) 0 → ag e (1 - a) 0 < gn) (h3 : ∀ n, n < 200 → ag e (1 - a) n ≤ max gn (max (ag e (1 - a) 0) (ag e (1 - a) 1))) (h4 : ∀ n, n < 200 → e (1 - a) (48 * n + 3) ≤ 1) : DI e a gn us kt kb := by
  obtain ⟨i1, i2, i3, ⟨g1, g2, g3, g4, g5, g6, g7⟩, i5, i6, i7, i8, i9, i10, i11, i12, i13, i14, i15⟩ := h
  have r0 := h1 0
  have ec : cnn e a = cnn d a := num_congr (fun i hi => by have := r0 (12 + i) (by omega); simpa using this)
  have ea0 : ag e a 0 = ag d a 0 := rsm_ag r0
  refine ⟨i1, i2, i3, ⟨(rsm_whl r0).mpr g1, ?_, ?_, ?_, by rw [ec]; exact g5, ?_, ?_⟩, by rw [ea0]; exact i5, by rw [ec]; exact i6, fun n a b => (rsm_krw (h1 n)).mpr (i7 n a b), ?_, fun n hn hn2 q1 q2 => i9 n hn hn2 ((rsm_krw (h1 n)).mp q1) ((rsm_lsr (h1 n)).mp q2), ?_, ?_, h2, h3, fun n hn => by rw [rsm_ag (h1 n)]; exact i14 n hn, ?_⟩
  · have := r0 0 (by omega); simp at this; rw [this]; exact g2
  · have := r0 1 (by omega); simp at this; rw [this]; exact g3
  · have := r0 2 (by omega); simp at this; rw [this]; exact g4
  · intro n hn1 hn2
    rw [ec] at hn2
    rw [ea0]
    exact (rsm_krw (h1 n)).mpr (g6 n hn1 hn2)
  · rw [ec]
    rcases g7 with w | w
    · exact Or.inl w
    · exact Or.inr ((rsm_lsr (h1 _)).mpr w)
  · rw [ec]
    rcases i8 with w | w
    · exact Or.inl w
    · exact Or.inr ((rsm_lsr (h1 _)).mpr w)
  · intro k hk; rw [i10 k hk, fkt_congr (fun m _ _ => rsm_symm (h1 m))]
  · intro k hk i hi; rw [i11 k hk i hi, fkb_congr (fun m _ _ => rsm_symm (h1 m)) k i hi]
  · intro a' n ha' hn
    by_cases w : a' = a
    · subst w; rw [h1 n 3 (by omega)]; exact i15 a' n ha' hn
    · have : a' = 1 - a := by omega
      subst this
      exact h4 n hn
theorem sn_DI (h : DI d a gn us kt kb) (hg : nxg d (1 - a) gn < 2 ^ 32) (hkb : ∀ k i, kb k i < 256) :
    ((sn kt kb (1 - a) (lN (nxg d (1 - a) gn)) d z).2.2.2 = true → DI (sn kt kb (1 - a) (lN (nxg d (1 - a) gn)) d z).1 (1 - a) (nxg d (1 - a) gn) (cnt kt 135 + 1) kt kb) ∧ ((sn kt kb (1 - a) (lN (nxg d (1 - a) gn)) d z).2.2.2 = false → DI (sn kt kb (1 - a) (lN (nxg d (1 - a) gn)) d z).1 a gn us kt kb) := by
  have ha := h.1
  have hDI := h
  obtain ⟨i1, i2, i3, gdd, i5, i6, i7, i8, i9, i10, i11, i12, i13, i14, i15⟩ := h
  have hnx : ∀ n, n < 200 → ag d (1 - a) n < nxg d (1 - a) gn := fun n hn => by have := i13 n hn; unfold nxg; omega
  have hgg : gn < nxg d (1 - a) gn := by unfold nxg; omega
  generalize nxg d (1 - a) gn = g at *
  have hP1 := sn_P1 (d := d) (kt := kt) (kb := kb) (z := z) ha hg hkb
  have hrow : ∀ k, (sn_k kt kb (1 - a) (lN g) d z k).2.2.2 = true → (sn_k kt kb (1 - a) (lN g) d z k).2.2.1 = cnt kt k := fun k => sn_row
  have c135 := cpk135 kt
  -- the rows so far leave what counts
  have hopen : ∀ k e, k ≤ 135 → sn_P d a g kt kb k e → DI e a gn us kt kb := by
    rintro k e hk ⟨h1, h2, h3, -, -⟩
    have hck := cnt_le kt k
    have e0 := h2 0 (Or.inl rfl)
    refine DI_oth hDI h1 (fun w => by rw [rsm_ag e0]; exact i12 ((rsm_whl e0).mp w)) (fun n hn => ?_) (fun n hn => ?_)
    · by_cases w : n = 0 ∨ cnt kt k < n
      · rw [rsm_ag (h2 n w)]
        by_cases w1 : cnt kt k < 1
        · rw [rsm_ag e0, rsm_ag (h2 1 (Or.inr w1))]; exact i13 n hn
        · have := (h3 1 (by omega) (by omega)).1.2.1
          rw [this]
          exact le_mm (Nat.le_of_lt (hnx n hn))
      · have := (h3 n (by omega) (by omega)).1.2.1
        rw [this]
        have := (h3 1 (by omega) (by omega)).1.2.1
        rw [this]
        exact le_mm (Nat.le_refl _)
    · by_cases w : n = 0 ∨ cnt kt k < n
      · rw [h2 n w 3 (by omega)]; exact i15 (1 - a) n (by omega) hn
      · rw [(h3 n (by omega) (by omega)).2.1]; omega
  -- a row that was cut
  have hcut : ∀ k, k ≤ 135 → (sn_k kt kb (1 - a) (lN g) d z k).2.2.2 = false → DI (sn_k kt kb (1 - a) (lN g) d z k).1 a gn us kt kb := by
    intro k
    induction k with
    | zero => intro _ w; cases w
    | succ k ih =>
      intro hk hf
      have e0 : sn_k kt kb (1 - a) (lN g) d z (k + 1) = sn_1 kt kb (1 - a) (cnt kt 135) (lN g) k (sn_k kt kb (1 - a) (lN g) d z k) := rfl
      rw [e0] at hf ⊢
      have hr := hrow k
      have hP := hP1 k (by omega)
      generalize hS : sn_k kt kb (1 - a) (lN g) d z k = S at *
      have hck := cnt_le kt k
      unfold sn_1 at hf ⊢
      by_cases hs : S.2.2.2 = true ∧ kt k = true
      · rw [if_pos hs] at hf ⊢
        have hD := hopen k S.1 (by omega) (hP hs.1)
        obtain ⟨h1, h2, h3, h4, h5⟩ := hP hs.1
        simp only at hf ⊢
        rw [hf, hr hs.1]
        obtain ⟨r1, r2, r3⟩ := row_f (d := S.1) (a := 1 - a) (n := cnt kt k + 1) (kd := kdk k) (ix := ixk k) (la := decide (cnt kt k + 1 = cnt kt 135)) (g := g) (pay := kb k) hg
        have hoth : ∀ a' n', (a' ≠ 1 - a ∨ n' ≠ cnt kt k + 1) → rsm (dkw S.1 (1 - a) (cnt kt k + 1) (rw0 (kdk k) (ixk k) (decide (cnt kt k + 1 = cnt kt 135)) (cnt kt k + 1) (lN g) (kb k)) false) S.1 a' n' := fun a' n' h => dkw_rsm h
        generalize dkw S.1 (1 - a) (cnt kt k + 1) (rw0 (kdk k) (ixk k) (decide (cnt kt k + 1 = cnt kt 135)) (cnt kt k + 1) (lN g) (kb k)) false = E at *
        obtain ⟨-, -, -, -, -, -, -, -, -, -, -, j12, j13, -, j15⟩ := hD
        have hE0 := hoth (1 - a) 0 (Or.inr (by omega))
        have hag1 : ag E (1 - a) 1 = g := by
          by_cases w : cnt kt k = 0
          · rw [w] at r2; exact r2
          · rw [rsm_ag (hoth (1 - a) 1 (Or.inr (by omega)))]; exact (h3 1 (by omega) (by omega)).1.2.1
        refine DI_oth hDI (fun n j hj => by rw [hoth a n (by omega) j hj]; exact h1 n j hj) (fun w => by rw [rsm_ag hE0]; exact j12 ((rsm_whl hE0).mp w)) (fun n hn => ?_) (fun n hn => ?_)
        · rw [hag1]
          by_cases w : n = cnt kt k + 1
          · rw [w, r2]; exact le_mm (Nat.le_refl _)
          · rw [rsm_ag (hoth (1 - a) n (Or.inr w))]
            by_cases w2 : n = 0 ∨ cnt kt k < n
            · rw [rsm_ag (h2 n w2)]; exact le_mm (Nat.le_of_lt (hnx n hn))
            · rw [(h3 n (by omega) (by omega)).1.2.1]; exact le_mm (Nat.le_refl _)
        · by_cases w : n = cnt kt k + 1
          · rw [w, r3]; omega
          · rw [hoth (1 - a) n (Or.inr w) 3 (by omega)]; exact j15 (1 - a) n (by omega) hn
      · rw [if_neg hs] at hf ⊢
        exact ih (by omega) hf
  have hrow135 := hrow 135
  have hPf := hP1 135 (Nat.le_refl _)
  have hcf := hcut 135 (Nat.le_refl _)
  unfold sn
  generalize hS : sn_k kt kb (1 - a) (lN g) d z 135 = S at *
  unfold sn_h
  by_cases hs : S.2.2.2 = true
  · rw [if_pos hs]
    have hP := hPf hs
    obtain ⟨h1, h2, h3, h4, h5⟩ := hP
    simp only
    constructor
    · intro hok
      rw [hok]
      obtain ⟨r1, r2, r3, r4, r5, r6⟩ := row_t (d := S.1) (a := 1 - a) (n := 0) (kd := 0) (ix := 0) (la := true) (g := g) (pay := hdp (cnt kt 135)) (by omega) (by omega) (hdp_lt _) (by omega) hg
      have hoth : ∀ a' n', (a' ≠ 1 - a ∨ n' ≠ 0) → rsm (dkw S.1 (1 - a) 0 (rw0 0 0 true 0 (lN g) (hdp (cnt kt 135))) true) S.1 a' n' := fun a' n' h => dkw_rsm h
      generalize dkw S.1 (1 - a) 0 (rw0 0 0 true 0 (lN g) (hdp (cnt kt 135))) true = E at *
      have hcn : cnn E (1 - a) = cnt kt 135 := by
        refine num_lN (by omega) (fun i hi => ?_)
        have := r6 i (by omega)
        simp only [Nat.mul_zero, Nat.zero_add] at this
        rw [this]
        unfold hdp
        rw [if_pos hi]
      have hE : ∀ n, 1 ≤ n → rsm E S.1 (1 - a) n := fun n hn => hoth (1 - a) n (Or.inr (by omega))
      have hEa : ∀ n, rsm E d a n := fun n j hj => by rw [hoth a n (by omega) j hj]; exact h1 n j hj
      have hfin : ∀ q, fkt E (1 - a) (cnt kt 135) q = fkt S.1 (1 - a) (cnt kt 135) q := fun q => by rw [fkt_congr (e := S.1) (fun m hm _ => hE m hm)]
      simp only [Nat.mul_zero, Nat.zero_add] at r3 r4 r5
      refine ⟨by omega, by omega, by omega, ⟨r1, r3, r4, r5, by rw [hcn]; omega, fun n hn1 hn2 => ?_, ?_⟩, r2, by rw [hcn]; omega, fun n hn1 hn2 => ?_, Or.inl (by rw [hcn]), fun n hn1 hn2 q1 q2 => ?_, fun k hk => ?_, fun k hk i hi => ?_, fun w => ?_, fun n hn => ?_, fun n hn => ?_, fun a' n ha' hn => ?_⟩
      · rw [hcn] at hn2
        rw [r2]
        exact (rsm_krw (hE n hn1)).mpr (h3 n hn1 hn2).1
      · rw [hcn]
        by_cases w : cnt kt 135 = 0
        · exact Or.inl w
        · refine Or.inr ?_
          unfold lsr
          rw [hE _ (by omega) 2 (by omega), (h3 (cnt kt 135) (by omega) (Nat.le_refl _)).2.2]
          unfold b1
          rw [if_pos (by simp)]
      · exact (rsm_krw (hE n hn1)).mpr (h3 n hn1 (by omega)).1
      · have e1 := hE n (by omega)
        have := ((rsm_krw e1).mp q1).2.1
        rw [rsm_ag (h2 n (Or.inr (by omega)))] at this
        have := hnx n hn2
        omega
      · rw [Nat.add_sub_cancel, hfin, h4 k]
        cases e : kt k with
        | true => simp [hk]
        | false => simp
      · rw [Nat.add_sub_cancel, fkb_congr (e := S.1) (fun m hm _ => hE m hm) k i hi, h5 k i hi]
        by_cases w : kt k = true
        · rw [if_pos ⟨hk, w⟩]
        · rw [if_neg (fun y => w y.2), i11 k hk i hi]
          exact fkb_0 (by rw [← i10 k hk]; simpa using w) i
      · rw [show 1 - (1 - a) = a by omega] at w ⊢
        rw [rsm_ag (hEa 0), i5]; exact hgg
      · rw [show 1 - (1 - a) = a by omega, rsm_ag (hEa n)]
        exact Nat.le_trans (i14 n hn) (Nat.le_trans (Nat.le_of_lt hgg) (Nat.le_max_left _ _))
      · by_cases w : n = 0
        · rw [w, r2]; exact Nat.le_refl _
        · rw [rsm_ag (hE n (by omega))]
          by_cases w2 : cnt kt 135 < n
          · rw [rsm_ag (h2 n (Or.inr w2))]; exact Nat.le_of_lt (hnx n hn)
          · rw [(h3 n (by omega) (by omega)).1.2.1]; exact Nat.le_refl _
      · by_cases w : a' = a
        · subst w; rw [hEa n 3 (by omega)]; exact i15 a' n ha' hn
        · have : a' = 1 - a := by omega
          subst this
          by_cases w0 : n = 0
          · rw [w0, r1.1]; omega
          · rw [hE n (by omega) 3 (by omega)]
            by_cases w2 : cnt kt 135 < n
            · rw [h2 n (Or.inr w2) 3 (by omega)]; exact i15 (1 - a) n ha' hn
            · rw [(h3 n (by omega) (by omega)).2.1]; omega
    · intro hbad
      rw [hbad]
      obtain ⟨r1, r2, r3⟩ := row_f (d := S.1) (a := 1 - a) (n := 0) (kd := 0) (ix := 0) (la := true) (g := g) (pay := hdp (cnt kt 135)) hg
      have hoth : ∀ a' n', (a' ≠ 1 - a ∨ n' ≠ 0) → rsm (dkw S.1 (1 - a) 0 (rw0 0 0 true 0 (lN g) (hdp (cnt kt 135))) false) S.1 a' n' := fun a' n' h => dkw_rsm h
      have hD := hopen 135 S.1 (Nat.le_refl _) ⟨h1, h2, h3, h4, h5⟩
      generalize dkw S.1 (1 - a) 0 (rw0 0 0 true 0 (lN g) (hdp (cnt kt 135))) false = E at *
      obtain ⟨-, -, -, -, -, -, -, -, -, -, -, j12, j13, -, j15⟩ := hD
      refine DI_oth hDI (fun n j hj => by rw [hoth a n (by omega) j hj]; exact h1 n j hj) (fun w => absurd w r1) (fun n hn => ?_) (fun n hn => ?_)
      · rw [r2]
        by_cases w : n = 0
        · rw [w, r2]; exact le_ml (Nat.le_refl _)
        · rw [rsm_ag (hoth (1 - a) n (Or.inr w))]
          by_cases w2 : cnt kt 135 < n
          · rw [rsm_ag (h2 n (Or.inr w2))]; exact le_ml (Nat.le_of_lt (hnx n hn))
          · rw [(h3 n (by omega) (by omega)).1.2.1]; exact le_ml (Nat.le_refl _)
      · by_cases w : n = 0
        · rw [w, r3]; omega
        · rw [hoth (1 - a) n (Or.inr w) 3 (by omega)]; exact j15 (1 - a) n (by omega) hn
  · rw [if_neg hs]
    exact ⟨fun w => absurd w hs, hcf⟩
end Dsn
