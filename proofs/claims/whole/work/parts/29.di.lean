/-! PURE (29): what reopening finds, when rows are written. -/
section Dap
variable {d : Nat → Nat → Nat} {a gn us gc : Nat} {kt : Nat → Bool} {kb x : Nat → Nat → Nat} {gk : Nat → Nat} {z : Int32}
theorem kyo_k {k : Nat} (hk : k < 135) : kyo (kdk k) (ixk k) = k := kyo_of k hk
/-- rows of a group so far -/
def ap_P (d : Nat → Nat → Nat) (gk : Nat → Nat) (gc : Nat) (x : Nat → Nat → Nat) (a us gn i : Nat) (e : Nat → Nat → Nat) : Prop := (∀ n, n < us ∨ us + i ≤ n → rsm e d a n) ∧ (∀ n, rsm e d (1 - a) n) ∧ ∀ j, j < i → krw e a (us + j) gn ∧ rky e a (us + j) = gk j ∧ e a (48 * (us + j) + 2) = b1 (decide (j + 1 = gc)) ∧ e a (48 * (us + j) + 3) = 0 ∧ ∀ t, t < 28 → e a (48 * (us + j) + 12 + t) = x (gk j) t
theorem ap_P1 (ha : a < 2) (hgn : gn < 2 ^ 32) (hus : us + gc ≤ 200) (hg : ∀ i, i < gc → gk i < 135) (hx : ∀ k j, x k j < 256) : ∀ i, i ≤ gc → (ap gk gc x a us (lN gn) d z i).2.2 = true → ap_P d gk gc x a us gn i (ap gk gc x a us (lN gn) d z i).1 := by
  intro i
  induction i with
  | zero => intro _ _; exact ⟨fun n _ j _ => rfl, fun n j _ => rfl, fun j hj => absurd hj (Nat.not_lt_zero _)⟩
  | succ i ih =>
    intro hi hok
    rw [ap_s] at hok ⊢
    generalize hS : ap gk gc x a us (lN gn) d z i = S at *
    unfold ap_1 at hok ⊢
    by_cases hs : S.2.2 = true
    · rw [if_pos hs] at hok ⊢
      obtain ⟨h1, h2, h3⟩ := ih (by omega) hs
      simp only at hok ⊢
      rw [hok]
      have hk := hg i (by omega)
      obtain ⟨q1, q2, q3, q4, q5, -⟩ := kdk_ok (gk i) hk
      obtain ⟨r1, r2, r3, r4, r5, r6⟩ := row_t (d := S.1) (a := a) (n := us + i) (kd := kdk (gk i)) (ix := ixk (gk i)) (la := decide (i + 1 = gc)) (g := gn) (pay := x (gk i)) (by omega) (by omega) (hx _) (by omega) hgn
      have hoth : ∀ a' n', (a' ≠ a ∨ n' ≠ us + i) → rsm (dkw S.1 a (us + i) (rw0 (kdk (gk i)) (ixk (gk i)) (decide (i + 1 = gc)) (us + i) (lN gn) (x (gk i))) true) S.1 a' n' := fun a' n' h => dkw_rsm h
      generalize dkw S.1 a (us + i) (rw0 (kdk (gk i)) (ixk (gk i)) (decide (i + 1 = gc)) (us + i) (lN gn) (x (gk i))) true = E at *
      refine ⟨fun n hn j hj => ?_, fun n j hj => ?_, fun j hj => ?_⟩
      · rw [hoth a n (by omega) j hj]; exact h1 n (by omega) j hj
      · rw [hoth (1 - a) n (by omega) j hj]; exact h2 n j hj
      · by_cases w : j = i
        · subst w
          refine ⟨⟨r1, r2, by rw [r3, r4, kyo_k hk]; exact hk⟩, by unfold rky; rw [r3, r4, kyo_k hk], r5, r1.1, r6⟩
        · have e1 := hoth a (us + j) (by omega)
          obtain ⟨y1, y2, y3, y4, y5⟩ := h3 j (by omega)
          refine ⟨(rsm_krw e1).mpr y1, ?_, by rw [e1 2 (by omega)]; exact y3, by rw [e1 3 (by omega)]; exact y4, fun t ht => by rw [Nat.add_assoc, e1 (12 + t) (by omega), ← Nat.add_assoc]; exact y5 t ht⟩
          unfold rky at y2 ⊢
          rw [e1 1 (by omega), show E a (48 * (us + j)) = S.1 a (48 * (us + j)) from e1 0 (by omega)]
          exact y2
    · rw [if_neg hs] at hok
      exact absurd hok hs
/-- a group that isn't ended leaves what counts -/
theorem DI_open (h : DI d a gn us kt kb) {e : Nat → Nat → Nat} {i : Nat} (hi : i < gc) (hus : us + gc ≤ 200) (hP : ap_P d gk gc x a us gn i e) : DI e a gn us kt kb := by
  obtain ⟨h1, h2, h3⟩ := hP
  refine DI_new h (fun n hn => h1 n (Or.inl hn)) (fun n hn hn2 => ?_) (fun n _ => h2 n)
  obtain ⟨i1, i2, i3, -, i5, i6, i7, i8, i9, i10, i11, i12, i13, i14, i15⟩ := h
  by_cases w : n < us + i
  · obtain ⟨j, rfl⟩ : ∃ j, n = us + j := ⟨n - us, by omega⟩
    obtain ⟨y1, y2, y3, y4, y5⟩ := h3 j (by omega)
    refine ⟨fun _ q => ?_, by rw [y1.2.1]; exact Nat.le_refl _, by rw [y4]; omega⟩
    unfold lsr at q
    rw [y3] at q
    unfold b1 at q
    rw [if_neg (by simp; omega)] at q
    cases q
  · have e1 := h1 n (Or.inr (by omega))
    refine ⟨fun q1 q2 => i9 n hn hn2 ((rsm_krw e1).mp q1) ((rsm_lsr e1).mp q2), by rw [rsm_ag e1]; exact i14 n hn2, by rw [e1 3 (by omega)]; exact i15 a n i1 hn2⟩
theorem ap_DI (h : DI d a gn us kt kb) (hgn : gn < 2 ^ 32) (hus : us + gc ≤ 200) (hg : ∀ i, i < gc → gk i < 135) (hx : ∀ k j, x k j < 256) :
    ((ap gk gc x a us (lN gn) d z gc).2.2 = true → DI (ap gk gc x a us (lN gn) d z gc).1 a gn (us + gc) (gkt gk kt gc) (gkb gk x kb gc)) ∧ ((ap gk gc x a us (lN gn) d z gc).2.2 = false → DI (ap gk gc x a us (lN gn) d z gc).1 a gn us kt kb) := by
  have ha := h.1
  constructor
  · intro hok
    have hP := ap_P1 (d := d) (z := z) ha hgn hus hg hx gc (Nat.le_refl _) hok
    generalize (ap gk gc x a us (lN gn) d z gc).1 = e at *
    obtain ⟨h1, h2, h3⟩ := hP
    by_cases hgc : gc = 0
    · subst hgc
      exact DI_new h (fun n hn => h1 n (Or.inl hn)) (fun n hn hn2 => by
        have e1 := h1 n (Or.inr (by omega))
        obtain ⟨i1, i2, i3, -, i5, i6, i7, i8, i9, i10, i11, i12, i13, i14, i15⟩ := h
        exact ⟨fun q1 q2 => i9 n hn hn2 ((rsm_krw e1).mp q1) ((rsm_lsr e1).mp q2), by rw [rsm_ag e1]; exact i14 n hn2, by rw [e1 3 (by omega)]; exact i15 a n i1 hn2⟩) (fun n _ => h2 n)
    · obtain ⟨i1, i2, i3, ⟨g1, g2, g3, g4, g5, g6, g7⟩, i5, i6, i7, i8, i9, i10, i11, i12, i13, i14, i15⟩ := h
      have r0 := h1 0 (by omega)
      have ec : cnn e a = cnn d a := num_congr (fun i hi => by have := r0 (12 + i) (by omega); simpa using this)
      have ea0 : ag e a 0 = ag d a 0 := rsm_ag r0
      have q0 := h2 0
      have q1 := h2 1
      have kfold : ∀ j, j ≤ gc → (∀ k, k < 135 → fkt e a (us - 1 + j) k = gkt gk kt j k) ∧ ∀ k, k < 135 → ∀ i, i < 28 → fkb e a (us - 1 + j) k i = gkb gk x kb j k i := by
        intro j
        induction j with
        | zero =>
          intro _
          rw [Nat.add_zero]
          refine ⟨fun k hk => ?_, fun k hk i hi => ?_⟩
          · rw [fkt_congr (e := d) (fun m _ hm => h1 m (by omega)), gkt, i10 k hk]
          · rw [fkb_congr (e := d) (fun m _ hm => h1 m (by omega)) k i hi, gkb, i11 k hk i hi]
        | succ j ihj =>
          intro hj
          obtain ⟨y1, y2, y3, y4, y5⟩ := h3 j (by omega)
          obtain ⟨u1, u2⟩ := ihj (by omega)
          have en : us - 1 + j + 1 = us + j := by omega
          rw [show us - 1 + (j + 1) = us - 1 + j + 1 by omega]
          refine ⟨fun k hk => ?_, fun k hk i hi => ?_⟩
          · rw [fkt, gkt, en, y2, up_d, up_d]
            split
            · rfl
            · exact u1 k hk
          · rw [fkb, gkb, en, y2, up_d, up_d]
            split
            · exact y5 i hi
            · exact u2 k hk i hi
      refine ⟨i1, by omega, by omega, ⟨(rsm_whl r0).mpr g1, ?_, ?_, ?_, by rw [ec]; exact g5, ?_, ?_⟩, by rw [ea0]; exact i5, by rw [ec]; omega, ?_, ?_, ?_, ?_, ?_, ?_, ?_, ?_, ?_⟩
      · have := r0 0 (by omega); simp at this; rw [this]; exact g2
      · have := r0 1 (by omega); simp at this; rw [this]; exact g3
      · have := r0 2 (by omega); simp at this; rw [this]; exact g4
      · intro n hn1 hn2
        rw [ec] at hn2
        rw [ea0]
        exact (rsm_krw (h1 n (by omega))).mpr (g6 n hn1 hn2)
      · rw [ec]
        rcases g7 with w | w
        · exact Or.inl w
        · exact Or.inr ((rsm_lsr (h1 _ (by omega))).mpr w)
      · intro n hn1 hn2
        by_cases w : n < us
        · exact (rsm_krw (h1 n (Or.inl w))).mpr (i7 n hn1 w)
        · obtain ⟨j, rfl⟩ : ∃ j, n = us + j := ⟨n - us, by omega⟩
          exact (h3 j (by omega)).1
      · refine Or.inr ?_
        have := (h3 (gc - 1) (by omega)).2.2.1
        unfold lsr
        rw [show us + gc - 1 = us + (gc - 1) by omega, this]
        unfold b1
        rw [if_pos (by simp; omega)]
      · intro n hn1 hn2 q1 q2
        have e1 := h1 n (Or.inr hn1)
        exact i9 n (by omega) hn2 ((rsm_krw e1).mp q1) ((rsm_lsr e1).mp q2)
      · intro k hk; rw [show us + gc - 1 = us - 1 + gc by omega]; exact ((kfold gc (Nat.le_refl _)).1 k hk).symm
      · intro k hk i hi; rw [show us + gc - 1 = us - 1 + gc by omega]; exact ((kfold gc (Nat.le_refl _)).2 k hk i hi).symm
      · intro w; rw [rsm_ag q0]; exact i12 ((rsm_whl q0).mp w)
      · intro n hn; rw [rsm_ag (h2 n), rsm_ag q0, rsm_ag q1]; exact i13 n hn
      · intro n hn
        by_cases w : n < us ∨ us + gc ≤ n
        · rw [rsm_ag (h1 n w)]; exact i14 n hn
        · obtain ⟨j, rfl⟩ : ∃ j, n = us + j := ⟨n - us, by omega⟩
          rw [(h3 j (by omega)).1.2.1]; exact Nat.le_refl _
      · intro a' n ha' hn
        by_cases w : a' = a
        · subst w
          by_cases w2 : n < us ∨ us + gc ≤ n
          · rw [h1 n w2 3 (by omega)]; exact i15 a' n ha' hn
          · obtain ⟨j, rfl⟩ : ∃ j, n = us + j := ⟨n - us, by omega⟩
            rw [(h3 j (by omega)).2.2.2.1]; omega
        · have : a' = 1 - a := by omega
          subst this
          rw [h2 n 3 (by omega)]; exact i15 (1 - a) n ha' hn
  · intro hbad
    -- the first row that was cut
    have key : ∀ i, i ≤ gc → (ap gk gc x a us (lN gn) d z i).2.2 = false → DI (ap gk gc x a us (lN gn) d z i).1 a gn us kt kb := by
      intro i
      induction i with
      | zero => intro _ w; cases w
      | succ i ih =>
        intro hi hf
        have hP := ap_P1 (d := d) (z := z) ha hgn hus hg hx i (by omega)
        rw [ap_s] at hf ⊢
        generalize hS : ap gk gc x a us (lN gn) d z i = S at *
        unfold ap_1 at hf ⊢
        by_cases hs : S.2.2 = true
        · rw [if_pos hs] at hf ⊢
          simp only at hf ⊢
          rw [hf]
          have hP1 := hP hs
          have hD := DI_open h (show i < gc by omega) hus hP1
          obtain ⟨h1, h2, h3⟩ := hP1
          obtain ⟨r1, r2, r3⟩ := row_f (d := S.1) (a := a) (n := us + i) (kd := kdk (gk i)) (ix := ixk (gk i)) (la := decide (i + 1 = gc)) (g := gn) (pay := x (gk i)) hgn
          have hoth : ∀ a' n', (a' ≠ a ∨ n' ≠ us + i) → rsm (dkw S.1 a (us + i) (rw0 (kdk (gk i)) (ixk (gk i)) (decide (i + 1 = gc)) (us + i) (lN gn) (x (gk i))) false) S.1 a' n' := fun a' n' h => dkw_rsm h
          generalize dkw S.1 a (us + i) (rw0 (kdk (gk i)) (ixk (gk i)) (decide (i + 1 = gc)) (us + i) (lN gn) (x (gk i))) false = E at *
          refine DI_new hD (fun n hn => hoth a n (by omega)) (fun n hn hn2 => ?_) (fun n _ => hoth (1 - a) n (by omega))
          by_cases w : n = us + i
          · subst w
            exact ⟨fun q => absurd q.1 r1, by rw [r2]; exact Nat.le_refl _, by rw [r3]; omega⟩
          · have e1 := hoth a n (Or.inr w)
            obtain ⟨i1, i2, i3, -, i5, i6, i7, i8, i9, i10, i11, i12, i13, i14, i15⟩ := hD
            exact ⟨fun q1 q2 => i9 n hn hn2 ((rsm_krw e1).mp q1) ((rsm_lsr e1).mp q2), by rw [rsm_ag e1]; exact i14 n hn2, by rw [e1 3 (by omega)]; exact i15 a n i1 hn2⟩
        · rw [if_neg hs] at hf ⊢
          exact ih (by omega) hf
    exact key gc (Nat.le_refl _) hbad
end Dap
