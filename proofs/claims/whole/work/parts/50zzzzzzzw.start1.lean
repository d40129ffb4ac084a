/-! PURE (50zzzzzzzw): the start: an empty reel is legal; the first disk. -/
section Sta
theorem pl_n0 : pl_n fe0 = 5 := by decide +kernel
theorem prs0 {tx : Nat → Nat} : (prs tx 0).1 = 0 := by rfl
theorem LG0 : LG (fun _ => false) (fun _ _ => 0) := by
  refine ⟨(fun k _ _ h => by cases h), ?_, (fun v _ _ s _ _ h => absurd h.1 (show ¬ (0 : Nat) = 1 by decide)), ⟨(by show 0 < 197; omega), ?_, ?_⟩, prs0⟩
  · have e : pe (fun _ => false) (fun _ _ => 0) = fe0 := by
      funext j
      unfold pe
      rw [if_neg (fun z => by cases z.2)]
    rw [e, pl_n0]; omega
  · intro j _ _; rfl
  · intro t _ ht
    show (if t < 0 then _ else _)
    rw [if_neg (by omega)]
    show (if t < 196 then 0 else 0) = 0
    split <;> rfl
/-- the disk of a new house -/
def d00 : Nat → Nat → Nat := dkw (fun _ _ => 0) 0 0 (rw0 0 0 true 0 (lN 1) (fun _ => 0)) true
theorem num_zz {d : Nat → Nat} {p : Nat} : ∀ n, (∀ i, i < n → d (p + i) = 0) → num d p n = 0 := by
  intro n
  induction n with
  | zero => intro _; rfl
  | succ n ih => intro h; rw [num, ih (fun i hi => h i (by omega)), h n (by omega)]; omega
theorem d00_z {a n j : Nat} (h : a ≠ 0 ∨ n ≠ 0) (hj : j < 48) : d00 a (48 * n + j) = 0 := by
  unfold d00
  rw [dkw_rsm h j hj]
theorem d00_lt : ∀ a j, d00 a j < 256 := fun a j => dkw_lt (fun _ _ => by omega) (rw0_lt2 (by omega) (by omega) (fun _ => by omega)) a j
theorem ag_z {a n : Nat} (h : a ≠ 0 ∨ n ≠ 0) : ag d00 a n = 0 := num_zz 4 (fun i hi => by rw [Nat.add_assoc]; exact d00_z h (by omega))
theorem d00_DI : DI d00 0 1 1 (fun _ => false) (fun _ _ => 0) := by
  obtain ⟨r1, r2, r3, r4, r5, r6⟩ := row_t (d := fun _ _ => 0) (a := 0) (n := 0) (kd := 0) (ix := 0) (la := true) (g := 1) (pay := fun _ => 0) (by omega) (by omega) (fun _ => by omega) (by omega) (by omega)
  have hw : ∀ n, 1 ≤ n → n < 200 → ¬ whl d00 0 n := fun n h1 _ h => by
    have := h.2.2
    rw [num_zz 4 (fun i hi => by rw [Nat.add_assoc]; exact d00_z (Or.inr (by omega)) (by omega))] at this
    omega
  have hc : cnn d00 0 = 0 := by
    refine num_zz 4 (fun i hi => ?_)
    have := r6 i (by omega)
    simp only [Nat.mul_zero, Nat.zero_add] at this
    exact this
  have a0 : ag d00 0 0 = 1 := r2
  simp only [Nat.mul_zero, Nat.zero_add] at r3 r4 r5
  refine ⟨by omega, by omega, by omega, ⟨r1, r3, r4, r5, by rw [hc]; omega, fun n h1 h2 => by rw [hc] at h2; omega, Or.inl hc⟩, a0, by rw [hc]; omega, fun n h1 h2 => by omega, Or.inl (by rw [hc]), fun n h1 h2 h3 => absurd h3.1 (hw n h1 h2), fun k _ => rfl, fun k _ i _ => rfl, fun _ => ?_, fun n _ => ?_, fun n hn => ?_, fun a' n ha' hn => ?_⟩
  · rw [ag_z (Or.inl (by omega))]; omega
  · rw [ag_z (Or.inl (by omega))]; exact Nat.zero_le _
  · by_cases w : n = 0
    · rw [w, a0]; omega
    · rw [ag_z (Or.inr w)]; omega
  · by_cases w : a' = 0 ∧ n = 0
    · rw [w.1, w.2]
      have : d00 0 (48 * 0 + 3) = 0 := r1.1
      rw [this]; omega
    · rw [d00_z (by omega) (by omega)]; omega
theorem d00_S : S_ok 1 (d00, -1, 0, 1, 1, (fun _ => false), fun _ _ => 0) (rD (fun _ => false) (fun _ _ => 0)) := by
  refine ⟨⟨⟨d00_lt, Or.inl rfl, (by show 0 < 2; omega), Nat.le_refl _, fun a n _ _ => ?_, (by show 1 ≤ 200; omega), (fun _ _ => by show 0 < 256; omega)⟩, d00_DI⟩, rD_st LG0 (fun _ _ => by show 0 < 256; omega) (fun _ _ _ _ => rfl)⟩
  by_cases w : a = 0 ∧ n = 0
  · rw [w.1, w.2]
    have := d00_DI.2.2.2.2.1
    show ag d00 0 0 ≤ 1
    omega
  · show ag d00 a n ≤ 1
    rw [ag_z (by omega)]; omega
end Sta
