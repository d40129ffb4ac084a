/-! PURE (50zzzzzzzo): put: a snapshot of other keys. -/
section Dsq
variable {d : Nat → Nat → Nat} {a gn us : Nat} {kt k0 : Nat → Bool} {kb b0 : Nat → Nat → Nat} {z : Int32}
/-- a snapshot of keys that are not the disk's own -/
theorem sn_DI2 (h : DI d a gn us k0 b0) (h0 : ∀ k, k < 135 → kt k = false → ∀ i, i < 28 → kb k i = 0) (hg : nxg d (1 - a) gn < 2 ^ 32) (hkb : ∀ k i, kb k i < 256) :
    ((sn kt kb (1 - a) (lN (nxg d (1 - a) gn)) d z).2.2.2 = true → DI (sn kt kb (1 - a) (lN (nxg d (1 - a) gn)) d z).1 (1 - a) (nxg d (1 - a) gn) (cnt kt 135 + 1) kt kb) ∧ ((sn kt kb (1 - a) (lN (nxg d (1 - a) gn)) d z).2.2.2 = false → DI (sn kt kb (1 - a) (lN (nxg d (1 - a) gn)) d z).1 a gn us k0 b0) := by
  have ha := h.1
  have hDI := h
  obtain ⟨i1, i2, i3, gdd, i5, i6, i7, i8, i9, i10, i11, i12, i13, i14, i15⟩ := h
  have hnx : ∀ n, n < 200 → ag d (1 - a) n < nxg d (1 - a) gn := fun n hn => by have := i13 n hn; unfold nxg; omega
  have hgg : gn < nxg d (1 - a) gn := by unfold nxg; omega
  generalize nxg d (1 - a) gn = g at *
  have hP1 := sn_P1 (d := d) (kt := kt) (kb := kb) (z := z) ha hg hkb
  have hrow : ∀ k, (sn_k kt kb (1 - a) (lN g) d z k).2.2.2 = true → (sn_k kt kb (1 - a) (lN g) d z k).2.2.1 = cnt kt k := fun k => sn_row
  have c135 := cpk135 kt
  -- the rows so far leave what counts
  have hopen : ∀ k e, k ≤ 135 → sn_P d a g kt kb k e → DI e a gn us k0 b0 := by
    rintro k e hk ⟨h1, h2, h3, -, -⟩
    have hck := cnt_le kt k
    have e0 := h2 0 (Or.inl rfl)
    refine DI_oth hDI h1 (fun w => by rw [rsm_ag e0]; exact i12 ((rsm_whl e0).mp w)) (fun n hn => ?_) (fun n hn => ?_)
    · by_cases w : n = 0 ∨ cnt kt k < n
      · rw [rsm_ag (h2 n w)]
        by_cases w1 : cnt kt k < 1
        · rw [rsm_ag e0, rsm_ag (h2 1 (Or.inr w1))]; exact i13 n hn
        · have := (h3 1 (by omega) (by omega)).1.2.1
          rw [this]
          exact le_mm (Nat.le_of_lt (hnx n hn))
      · have := (h3 n (by omega) (by omega)).1.2.1
        rw [this]
        have := (h3 1 (by omega) (by omega)).1.2.1
        rw [this]
        exact le_mm (Nat.le_refl _)
    · by_cases w : n = 0 ∨ cnt kt k < n
      · rw [h2 n w 3 (by omega)]; exact i15 (1 - a) n (by omega) hn
      · rw [(h3 n (by omega) (by omega)).2.1]; omega
  -- a row that was cut
  have hcut : ∀ k, k ≤ 135 → (sn_k kt kb (1 - a) (lN g) d z k).2.2.2 = false → DI (sn_k kt kb (1 - a) (lN g) d z k).1 a gn us k0 b0 := by
    intro k
    induction k with
    | zero => intro _ w; cases w
    | succ k ih =>
      intro hk hf
      have e0 : sn_k kt kb (1 - a) (lN g) d z (k + 1) = sn_1 kt kb (1 - a) (cnt kt 135) (lN g) k (sn_k kt kb (1 - a) (lN g) d z k) := rfl
      rw [e0] at hf ⊢
      have hr := hrow k
      have hP := hP1 k (by omega)
      generalize hS : sn_k kt kb (1 - a) (lN g) d z k = S at *
      have hck := cnt_le kt k
      unfold sn_1 at hf ⊢
      by_cases hs : S.2.2.2 = true ∧ kt k = true
      · rw [if_pos hs] at hf ⊢
        have hD := hopen k S.1 (by omega) (hP hs.1)
        obtain ⟨h1, h2, h3, h4, h5⟩ := hP hs.1
        simp only at hf ⊢
        rw [hf, hr hs.1]
        obtain ⟨r1, r2, r3⟩ := row_f (d := S.1) (a := 1 - a) (n := cnt kt k + 1) (kd := kdk k) (ix := ixk k) (la := decide (cnt kt k + 1 = cnt kt 135)) (g := g) (pay := kb k) hg
        have hoth : ∀ a' n', (a' ≠ 1 - a ∨ n' ≠ cnt kt k + 1) → rsm (dkw S.1 (1 - a) (cnt kt k + 1) (rw0 (kdk k) (ixk k) (decide (cnt kt k + 1 = cnt kt 135)) (cnt kt k + 1) (lN g) (kb k)) false) S.1 a' n' := fun a' n' h => dkw_rsm h
        generalize dkw S.1 (1 - a) (cnt kt k + 1) (rw0 (kdk k) (ixk k) (decide (cnt kt k + 1 = cnt kt 135)) (cnt kt k + 1) (lN g) (kb k)) false = E at *
        obtain ⟨-, -, -, -, -, -, -, -, -, -, -, j12, j13, -, j15⟩ := hD
        have hE0 := hoth (1 - a) 0 (Or.inr (by omega))
        have hag1 : ag E (1 - a) 1 = g := by
          by_cases w : cnt kt k = 0
          · rw [w] at r2; exact r2
          · rw [rsm_ag (hoth (1 - a) 1 (Or.inr (by omega)))]; exact (h3 1 (by omega) (by omega)).1.2.1
        refine DI_oth hDI (fun n j hj => by rw [hoth a n (by omega) j hj]; exact h1 n j hj) (fun w => by rw [rsm_ag hE0]; exact j12 ((rsm_whl hE0).mp w)) (fun n hn => ?_) (fun n hn => ?_)
        · rw [hag1]
          by_cases w : n = cnt kt k + 1
          · rw [w, r2]; exact le_mm (Nat.le_refl _)
          · rw [rsm_ag (hoth (1 - a) n (Or.inr w))]
            by_cases w2 : n = 0 ∨ cnt kt k < n
            · rw [rsm_ag (h2 n w2)]; exact le_mm (Nat.le_of_lt (hnx n hn))
            · rw [(h3 n (by omega) (by omega)).1.2.1]; exact le_mm (Nat.le_refl _)
        · by_cases w : n = cnt kt k + 1
          · rw [w, r3]; omega
          · rw [hoth (1 - a) n (Or.inr w) 3 (by omega)]; exact j15 (1 - a) n (by omega) hn
      · rw [if_neg hs] at hf ⊢
        exact ih (by omega) hf
  have hrow135 := hrow 135
  have hPf := hP1 135 (Nat.le_refl _)
  have hcf := hcut 135 (Nat.le_refl _)
  unfold sn
  generalize hS : sn_k kt kb (1 - a) (lN g) d z 135 = S at *
  unfold sn_h
  by_cases hs : S.2.2.2 = true
  · rw [if_pos hs]
    have hP := hPf hs
    obtain ⟨h1, h2, h3, h4, h5⟩ := hP
    simp only
    constructor
    · intro hok
      rw [hok]
      obtain ⟨r1, r2, r3, r4, r5, r6⟩ := row_t (d := S.1) (a := 1 - a) (n := 0) (kd := 0) (ix := 0) (la := true) (g := g) (pay := hdp (cnt kt 135)) (by omega) (by omega) (hdp_lt _) (by omega) hg
      have hoth : ∀ a' n', (a' ≠ 1 - a ∨ n' ≠ 0) → rsm (dkw S.1 (1 - a) 0 (rw0 0 0 true 0 (lN g) (hdp (cnt kt 135))) true) S.1 a' n' := fun a' n' h => dkw_rsm h
      generalize dkw S.1 (1 - a) 0 (rw0 0 0 true 0 (lN g) (hdp (cnt kt 135))) true = E at *
      have hcn : cnn E (1 - a) = cnt kt 135 := by
        refine num_lN (by omega) (fun i hi => ?_)
        have := r6 i (by omega)
        simp only [Nat.mul_zero, Nat.zero_add] at this
        rw [this]
        unfold hdp
        rw [if_pos hi]
      have hE : ∀ n, 1 ≤ n → rsm E S.1 (1 - a) n := fun n hn => hoth (1 - a) n (Or.inr (by omega))
      have hEa : ∀ n, rsm E d a n := fun n j hj => by rw [hoth a n (by omega) j hj]; exact h1 n j hj
      have hfin : ∀ q, fkt E (1 - a) (cnt kt 135) q = fkt S.1 (1 - a) (cnt kt 135) q := fun q => by rw [fkt_congr (e := S.1) (fun m hm _ => hE m hm)]
      simp only [Nat.mul_zero, Nat.zero_add] at r3 r4 r5
      refine ⟨by omega, by omega, by omega, ⟨r1, r3, r4, r5, by rw [hcn]; omega, fun n hn1 hn2 => ?_, ?_⟩, r2, by rw [hcn]; omega, fun n hn1 hn2 => ?_, Or.inl (by rw [hcn]), fun n hn1 hn2 q1 q2 => ?_, fun k hk => ?_, fun k hk i hi => ?_, fun w => ?_, fun n hn => ?_, fun n hn => ?_, fun a' n ha' hn => ?_⟩
      · rw [hcn] at hn2
        rw [r2]
        exact (rsm_krw (hE n hn1)).mpr (h3 n hn1 hn2).1
      · rw [hcn]
        by_cases w : cnt kt 135 = 0
        · exact Or.inl w
        · refine Or.inr ?_
          unfold lsr
          rw [hE _ (by omega) 2 (by omega), (h3 (cnt kt 135) (by omega) (Nat.le_refl _)).2.2]
          unfold b1
          rw [if_pos (by simp)]
      · exact (rsm_krw (hE n hn1)).mpr (h3 n hn1 (by omega)).1
      · have e1 := hE n (by omega)
        have := ((rsm_krw e1).mp q1).2.1
        rw [rsm_ag (h2 n (Or.inr (by omega)))] at this
        have := hnx n hn2
        omega
      · rw [Nat.add_sub_cancel, hfin, h4 k]
        cases e : kt k with
        | true => simp [hk]
        | false => simp
      · rw [Nat.add_sub_cancel, fkb_congr (e := S.1) (fun m hm _ => hE m hm) k i hi, h5 k i hi]
        by_cases w : kt k = true
        · rw [if_pos ⟨hk, w⟩]
        · rw [if_neg (fun y => w y.2)]
          exact h0 k hk (by simpa using w) i hi
      · rw [show 1 - (1 - a) = a by omega] at w ⊢
        rw [rsm_ag (hEa 0), i5]; exact hgg
      · rw [show 1 - (1 - a) = a by omega, rsm_ag (hEa n)]
        exact Nat.le_trans (i14 n hn) (Nat.le_trans (Nat.le_of_lt hgg) (Nat.le_max_left _ _))
      · by_cases w : n = 0
        · rw [w, r2]; exact Nat.le_refl _
        · rw [rsm_ag (hE n (by omega))]
          by_cases w2 : cnt kt 135 < n
          · rw [rsm_ag (h2 n (Or.inr w2))]; exact Nat.le_of_lt (hnx n hn)
          · rw [(h3 n (by omega) (by omega)).1.2.1]; exact Nat.le_refl _
      · by_cases w : a' = a
        · subst w; rw [hEa n 3 (by omega)]; exact i15 a' n ha' hn
        · have : a' = 1 - a := by omega
          subst this
          by_cases w0 : n = 0
          · rw [w0, r1.1]; omega
          · rw [hE n (by omega) 3 (by omega)]
            by_cases w2 : cnt kt 135 < n
            · rw [h2 n (Or.inr w2) 3 (by omega)]; exact i15 (1 - a) n ha' hn
            · rw [(h3 n (by omega) (by omega)).2.1]; omega
    · intro hbad
      rw [hbad]
      obtain ⟨r1, r2, r3⟩ := row_f (d := S.1) (a := 1 - a) (n := 0) (kd := 0) (ix := 0) (la := true) (g := g) (pay := hdp (cnt kt 135)) hg
      have hoth : ∀ a' n', (a' ≠ 1 - a ∨ n' ≠ 0) → rsm (dkw S.1 (1 - a) 0 (rw0 0 0 true 0 (lN g) (hdp (cnt kt 135))) false) S.1 a' n' := fun a' n' h => dkw_rsm h
      have hD := hopen 135 S.1 (Nat.le_refl _) ⟨h1, h2, h3, h4, h5⟩
      generalize dkw S.1 (1 - a) 0 (rw0 0 0 true 0 (lN g) (hdp (cnt kt 135))) false = E at *
      obtain ⟨-, -, -, -, -, -, -, -, -, -, -, j12, j13, -, j15⟩ := hD
      refine DI_oth hDI (fun n j hj => by rw [hoth a n (by omega) j hj]; exact h1 n j hj) (fun w => absurd w r1) (fun n hn => ?_) (fun n hn => ?_)
      · rw [r2]
        by_cases w : n = 0
        · rw [w, r2]; exact le_ml (Nat.le_refl _)
        · rw [rsm_ag (hoth (1 - a) n (Or.inr w))]
          by_cases w2 : cnt kt 135 < n
          · rw [rsm_ag (h2 n (Or.inr w2))]; exact le_ml (Nat.le_of_lt (hnx n hn))
          · rw [(h3 n (by omega) (by omega)).1.2.1]; exact le_ml (Nat.le_refl _)
      · by_cases w : n = 0
        · rw [w, r3]; omega
        · rw [hoth (1 - a) n (Or.inr w) 3 (by omega)]; exact j15 (1 - a) n (by omega) hn
  · rw [if_neg hs]
    exact ⟨fun w => absurd w hs, hcf⟩
end Dsq
