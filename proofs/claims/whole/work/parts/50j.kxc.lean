/-! PURE (50j): bytes depend on the key's things alone. -/
section Kxc
variable {D E : Kp} {ix kd : Nat}
theorem orp_congr {w m : Nat} {f g : Nat → Nat} : ∀ {n : Nat}, (∀ t, t < n → f t = g t) → orp w m f n = orp w m g n := by
  intro n
  induction n with
  | zero => intro _; rfl
  | succ n ih => intro h; rw [orp_s, orp_s, ih (fun t ht => h t (by omega)), h n (by omega)]
theorem wrd_congr {f g : Nat → Int64} : ∀ {n : Nat}, (∀ t, t < n → f t = g t) → wrd f n = wrd g n := by
  intro n
  induction n with
  | zero => intro _; rfl
  | succ n ih => intro h; rw [wrd_s, wrd_s, ih (fun t ht => h t (by omega)), h n (by omega)]
theorem cut_congr {f g : Nat → Nat} {n : Nat} (h : ∀ t, t < n → f t = g t) : cut n f = cut n g := by
  funext j
  unfold cut
  by_cases w : j < n
  · rw [if_pos w, if_pos w, h j w]
  · rw [if_neg w, if_neg w]
theorem kx_congr (b1' : 1 ≤ kd) (b2 : kd ≤ 15) (hb : ∀ j, D.1 8 j ≤ 1) (ht : kxt D kd ix) (h : kag D E kd ix) : kx D kd ix = kx E kd ix := by
  have hcase : kd = 1 ∨ kd = 2 ∨ kd = 3 ∨ kd = 4 ∨ kd = 5 ∨ kd = 6 ∨ kd = 7 ∨ kd = 8 ∨ kd = 9 ∨ kd = 10 ∨ kd = 11 ∨ kd = 12 ∨ kd = 13 ∨ kd = 14 ∨ kd = 15 := by omega
  rcases hcase with w | w | w | w | w | w | w | w | w | w | w | w | w | w | w
  · subst w
    exact orp_congr (fun t ht => h _ (by omega) (by omega))
  · subst w
    exact orp_congr (fun t ht => h _ (by omega) (by omega))
  · subst w
    exact cut_congr (fun t ht => h _ (by omega) (by omega))
  · subst w
    exact wrd_congr (fun t ht => congrArg Int32.toInt64 (h _ (by omega) (by omega)))
  · subst w
    exact cut_congr (fun t ht => h _ (by omega) (by omega))
  · subst w
    replace h : if ix = 7 then D.1 5 0 = E.1 5 0 else ∀ j, 28 * ix ≤ j → j < 28 * ix + 28 → D.1 4 j = E.1 4 j := h
    show (if ix = 7 then up (fun _ => 0) 0 (D.1 5 0) else cut 28 (fun t => D.1 4 (28 * ix + t))) = (if ix = 7 then up (fun _ => 0) 0 (E.1 5 0) else cut 28 (fun t => E.1 4 (28 * ix + t)))
    by_cases w : ix = 7
    · rw [if_pos w] at h ⊢; rw [if_pos w, h]
    · rw [if_neg w] at h ⊢; rw [if_neg w]; exact cut_congr (fun t ht => h _ (by omega) (by omega))
  · subst w
    replace h : if ix = 0 then ∀ j, j < 11 → D.2.1 1 j = E.2.1 1 j else ∀ j, j < 11 → D.1 6 j = E.1 6 j := h
    show (if ix = 0 then wrd (fun t => (D.2.1 1 t).toInt64) 11 else cut 11 (D.1 6)) = (if ix = 0 then wrd (fun t => (E.2.1 1 t).toInt64) 11 else cut 11 (E.1 6))
    by_cases w : ix = 0
    · rw [if_pos w] at h ⊢; rw [if_pos w]; exact wrd_congr (fun t ht => congrArg Int32.toInt64 (h t ht))
    · rw [if_neg w] at h ⊢; rw [if_neg w]; exact cut_congr h
  · subst w
    obtain ⟨y1, y2, y3, y4, y5⟩ := h
    show pb (pb (pb (pb (pb (fun _ => 0) 0 8 (D.2.2 0 ix)) 8 8 (D.2.2 1 ix)) 16 4 (D.2.1 2 ix).toInt64) 20 4 (D.2.1 3 ix).toInt64) 24 4 (D.2.1 4 ix).toInt64 = pb (pb (pb (pb (pb (fun _ => 0) 0 8 (E.2.2 0 ix)) 8 8 (E.2.2 1 ix)) 16 4 (E.2.1 2 ix).toInt64) 20 4 (E.2.1 3 ix).toInt64) 24 4 (E.2.1 4 ix).toInt64
    rw [y1, y2, y3, y4, y5]
  · subst w
    obtain ⟨y1, y2⟩ := h
    show pb (pb (pb (pb (pb (fun _ => 0) 0 4 (D.2.1 5 0).toInt64) 4 8 (D.2.2 2 0)) 12 8 (D.2.2 2 1)) 20 4 (D.2.1 5 1).toInt64) 24 4 (D.2.1 5 2).toInt64 = pb (pb (pb (pb (pb (fun _ => 0) 0 4 (E.2.1 5 0).toInt64) 4 8 (E.2.2 2 0)) 12 8 (E.2.2 2 1)) 20 4 (E.2.1 5 1).toInt64) 24 4 (E.2.1 5 2).toInt64
    rw [y1 0 (by omega), y1 1 (by omega), y1 2 (by omega), y2 0 (by omega), y2 1 (by omega)]
  · subst w
    obtain ⟨y1, y2, y3⟩ := h
    show pb (pb (pb (pb (pb (pb (fun _ => 0) 0 4 (D.2.1 3 10).toInt64) 4 4 (D.2.1 2 10).toInt64) 8 4 (D.2.1 6 0).toInt64) 12 4 (D.2.1 6 1).toInt64) 16 4 (D.2.1 6 2).toInt64) 20 4 (D.2.1 6 3).toInt64 = pb (pb (pb (pb (pb (pb (fun _ => 0) 0 4 (E.2.1 3 10).toInt64) 4 4 (E.2.1 2 10).toInt64) 8 4 (E.2.1 6 0).toInt64) 12 4 (E.2.1 6 1).toInt64) 16 4 (E.2.1 6 2).toInt64) 20 4 (E.2.1 6 3).toInt64
    rw [y1, y2, y3 0 (by omega), y3 1 (by omega), y3 2 (by omega), y3 3 (by omega)]
  · subst w
    obtain ⟨y1, y2, y3, y4⟩ := h
    show up (pb (pb (pb (fun _ => 0) 0 4 (D.2.1 7 ix).toInt64) 4 4 (D.2.1 8 ix).toInt64) 8 4 (D.2.1 9 ix).toInt64) 12 (D.1 7 ix) = up (pb (pb (pb (fun _ => 0) 0 4 (E.2.1 7 ix).toInt64) 4 4 (E.2.1 8 ix).toInt64) 8 4 (E.2.1 9 ix).toInt64) 12 (E.1 7 ix)
    rw [y1, y2, y3, y4]
  · subst w
    have hc : D.1 8 ix = 0 ∨ D.1 8 ix = 1 := by have := hb ix; omega
    rcases hc with w | w
    · rw [k12_0 w, k12_0 (h.1.symm.trans w)]
    · obtain ⟨y1, y2, y3, y4, y5⟩ := h.2 w
      rw [k12_1 w, k12_1 (h.1.symm.trans w), y1, y2, y3, y4, y5]
  · subst w
    obtain ⟨y1, y2⟩ := h.2 (ht.1 rfl)
    show up (up (up (fun _ => 0) 0 1) 1 (D.1 13 ix)) 2 (D.1 14 ix) = up (up (up (fun _ => 0) 0 1) 1 (E.1 13 ix)) 2 (E.1 14 ix)
    rw [y1, y2]
  · subst w
    obtain ⟨y1, y2, y3, y4⟩ := h.2 (ht.2.1 rfl)
    show pb (up (up (up (up (fun _ => 0) 0 1) 1 (D.1 16 ix)) 2 (D.1 17 ix)) 3 (D.1 18 ix)) 4 4 (D.2.1 12 ix).toInt64 = pb (up (up (up (up (fun _ => 0) 0 1) 1 (E.1 16 ix)) 2 (E.1 17 ix)) 3 (E.1 18 ix)) 4 4 (E.2.1 12 ix).toInt64
    rw [y1, y2, y3, y4]
  · subst w
    obtain ⟨y1, y2⟩ := h.2 (ht.2.2 rfl)
    show up (up (up (fun _ => 0) 0 1) 1 (D.1 20 ix)) 2 (D.1 21 ix) = up (up (up (fun _ => 0) 0 1) 1 (E.1 20 ix)) 2 (E.1 21 ix)
    rw [y1, y2]
theorem kxt_congr (b1' : 1 ≤ kd) (b2 : kd ≤ 15) (h : kag D E kd ix) (ht : kxt E kd ix) : kxt D kd ix := by
  refine ⟨fun w => ?_, fun w => ?_, fun w => ?_⟩
  · subst w; exact h.1.trans (ht.1 rfl)
  · subst w; exact h.1.trans (ht.2.1 rfl)
  · subst w; exact h.1.trans (ht.2.2 rfl)
theorem kpl_congr (b1' : 1 ≤ kd) (b2 : kd ≤ 15) (h : kag D E kd ix) (hl : kpl E kd ix) : kpl D kd ix := by
  refine ⟨fun w => ?_, fun w => ?_, fun w => ?_⟩
  · subst w
    intro t ht
    have y : D.2.1 0 (12 * ix + t) = E.2.1 0 (12 * ix + t) := h (12 * ix + t) (by omega) (by omega)
    rw [y]; exact hl.1 rfl t ht
  · subst w
    intro w0 t ht
    subst w0
    have y : D.2.1 1 t = E.2.1 1 t := h t ht
    rw [y]; exact hl.2.1 rfl rfl t ht
  · subst w
    intro w1
    have y : D.2.1 11 ix = E.2.1 11 ix := (h.2 w1).2.2.2.2
    rw [y]; exact hl.2.2 rfl (h.1.symm.trans w1)
/-- a thing taken is one's own, the other's, or 'there' -/
theorem dec_mem {H G : Kp} (f j : Nat) : (dec H G kd ix).1 f j = H.1 f j ∨ (dec H G kd ix).1 f j = G.1 f j ∨ ((f = 12 ∨ f = 15 ∨ f = 19) ∧ (dec H G kd ix).1 f j = 1) := by
  have hu : ∀ (T : Nat → Nat → Nat) (a : Nat) (g : Nat → Nat), (∀ f j, T f j = H.1 f j ∨ T f j = G.1 f j ∨ ((f = 12 ∨ f = 15 ∨ f = 19) ∧ T f j = 1)) → (∀ j, g j = H.1 a j ∨ g j = G.1 a j ∨ ((a = 12 ∨ a = 15 ∨ a = 19) ∧ g j = 1)) → ∀ f j, up T a g f j = H.1 f j ∨ up T a g f j = G.1 f j ∨ ((f = 12 ∨ f = 15 ∨ f = 19) ∧ up T a g f j = 1) := by
    intro T a g h1 h2 f j
    rw [up_d]
    by_cases w : f = a
    · rw [if_pos w, w]; exact h2 j
    · rw [if_neg w]; exact h1 f j
  have h0 : ∀ f j, H.1 f j = H.1 f j ∨ H.1 f j = G.1 f j ∨ ((f = 12 ∨ f = 15 ∨ f = 19) ∧ H.1 f j = 1) := fun _ _ => Or.inl rfl
  have hg : ∀ a p n j, rg p n (G.1 a) (H.1 a) j = H.1 a j ∨ rg p n (G.1 a) (H.1 a) j = G.1 a j ∨ ((a = 12 ∨ a = 15 ∨ a = 19) ∧ rg p n (G.1 a) (H.1 a) j = 1) := by
    intro a p n j
    unfold rg
    split
    · exact Or.inr (Or.inl rfl)
    · exact Or.inl rfl
  have h1 : ∀ a i j, up (H.1 a) i (G.1 a i) j = H.1 a j ∨ up (H.1 a) i (G.1 a i) j = G.1 a j ∨ ((a = 12 ∨ a = 15 ∨ a = 19) ∧ up (H.1 a) i (G.1 a i) j = 1) := by
    intro a i j
    rw [up_d]
    by_cases w : j = i
    · rw [if_pos w, w]; exact Or.inr (Or.inl rfl)
    · rw [if_neg w]; exact Or.inl rfl
  have ho : ∀ a i j, (a = 12 ∨ a = 15 ∨ a = 19) → up (H.1 a) i 1 j = H.1 a j ∨ up (H.1 a) i 1 j = G.1 a j ∨ ((a = 12 ∨ a = 15 ∨ a = 19) ∧ up (H.1 a) i 1 j = 1) := by
    intro a i j ha
    rw [up_d]
    by_cases w : j = i
    · rw [if_pos w]; exact Or.inr (Or.inr ⟨ha, rfl⟩)
    · rw [if_neg w]; exact Or.inl rfl
  unfold dec
  by_cases w1 : kd = 1
  · rw [if_pos w1]; exact hu _ _ _ h0 (hg _ _ _) f j
  rw [if_neg w1]
  by_cases w2 : kd = 2
  · rw [if_pos w2]; exact hu _ _ _ h0 (hg _ _ _) f j
  rw [if_neg w2]
  by_cases w3 : kd = 3
  · rw [if_pos w3]; exact hu _ _ _ h0 (hg _ _ _) f j
  rw [if_neg w3]
  by_cases w4 : kd = 4
  · rw [if_pos w4]; exact h0 f j
  rw [if_neg w4]
  by_cases w5 : kd = 5
  · rw [if_pos w5]; exact hu _ _ _ h0 (hg _ _ _) f j
  rw [if_neg w5]
  by_cases w6 : kd = 6
  · rw [if_pos w6]
    by_cases y : ix = 7
    · rw [if_pos y]; exact hu _ _ _ h0 (h1 _ _) f j
    · rw [if_neg y]; exact hu _ _ _ h0 (hg _ _ _) f j
  rw [if_neg w6]
  by_cases w7 : kd = 7
  · rw [if_pos w7]
    by_cases y : ix = 0
    · rw [if_pos y]; exact h0 f j
    · rw [if_neg y]; exact hu _ _ _ h0 (hg _ _ _) f j
  rw [if_neg w7]
  by_cases w8 : kd = 8
  · rw [if_pos w8]; exact h0 f j
  rw [if_neg w8]
  by_cases w9 : kd = 9
  · rw [if_pos w9]; exact h0 f j
  rw [if_neg w9]
  by_cases w10 : kd = 10
  · rw [if_pos w10]; exact h0 f j
  rw [if_neg w10]
  by_cases w11 : kd = 11
  · rw [if_pos w11]; exact hu _ _ _ h0 (h1 _ _) f j
  rw [if_neg w11]
  by_cases w12 : kd = 12
  · rw [if_pos w12]; exact hu _ _ _ (hu _ _ _ (hu _ _ _ (hu _ _ _ h0 (h1 _ _)) (h1 _ _)) (h1 _ _)) (h1 _ _) f j
  rw [if_neg w12]
  by_cases w13 : kd = 13
  · rw [if_pos w13]; exact hu _ _ _ (hu _ _ _ (hu _ _ _ h0 (fun j => ho _ _ j (Or.inl rfl))) (h1 _ _)) (h1 _ _) f j
  rw [if_neg w13]
  by_cases w14 : kd = 14
  · rw [if_pos w14]; exact hu _ _ _ (hu _ _ _ (hu _ _ _ (hu _ _ _ h0 (fun j => ho _ _ j (Or.inr (Or.inl rfl)))) (h1 _ _)) (h1 _ _)) (h1 _ _) f j
  rw [if_neg w14]
  exact hu _ _ _ (hu _ _ _ (hu _ _ _ h0 (fun j => ho _ _ j (Or.inr (Or.inr rfl)))) (h1 _ _)) (h1 _ _) f j
end Kxc
