/-! PURE (50f): reading a key changes its things alone. -/
section Kag
variable {H G : Kp} {ix ix' : Nat}
theorem up_o2 {α : Type} {g : Nat → α} {p j : Nat} {x : α} (h : p ≠ j) : up g p x j = g j := if_neg (fun q => h q.symm)
theorem up_i2 {α : Type} {g : Nat → α} {p : Nat} {x : α} : up g p x p = x := if_pos rfl
theorem dec_oth1 {kd' : Nat} (h1 : ix < nky 1) (a1 : 1 ≤ kd') (a2 : kd' ≤ 15) (h2 : ix' < nky kd') (hne : ¬ (1 = kd' ∧ ix = ix')) : kag (dec H G 1 ix) H kd' ix' := by
  have hcase : kd' = 1 ∨ kd' = 2 ∨ kd' = 3 ∨ kd' = 4 ∨ kd' = 5 ∨ kd' = 6 ∨ kd' = 7 ∨ kd' = 8 ∨ kd' = 9 ∨ kd' = 10 ∨ kd' = 11 ∨ kd' = 12 ∨ kd' = 13 ∨ kd' = 14 ∨ kd' = 15 := by omega
  rcases hcase with w | w | w | w | w | w | w | w | w | w | w | w | w | w | w
  · subst w
    replace hne : ix ≠ ix' := fun q => hne ⟨rfl, q⟩
    exact fun j a c => (show rg (110 * ix) 110 (G.1 0) (H.1 0) j = H.1 0 j from rg_out (by omega))
  · subst w
    exact fun _ _ _ => rfl
  · subst w
    exact fun _ _ _ => rfl
  · subst w
    exact fun _ _ _ => rfl
  · subst w
    exact fun _ _ _ => rfl
  · subst w
    show (if ix' = 7 then _ else _)
    split
    · rfl
    · exact fun _ _ _ => rfl
  · subst w
    show (if ix' = 0 then _ else _)
    split
    · exact fun _ _ => rfl
    · exact fun _ _ => rfl
  · subst w
    exact ⟨rfl, rfl, rfl, rfl, rfl⟩
  · subst w
    exact ⟨fun _ _ => rfl, fun _ _ => rfl⟩
  · subst w
    exact ⟨rfl, rfl, fun _ _ => rfl⟩
  · subst w
    exact ⟨rfl, rfl, rfl, rfl⟩
  · subst w
    exact ⟨rfl, fun _ => ⟨rfl, rfl, rfl, rfl, rfl⟩⟩
  · subst w
    exact ⟨rfl, fun _ => ⟨rfl, rfl⟩⟩
  · subst w
    exact ⟨rfl, fun _ => ⟨rfl, rfl, rfl, rfl⟩⟩
  · subst w
    exact ⟨rfl, fun _ => ⟨rfl, rfl⟩⟩
theorem dec_oth2 {kd' : Nat} (h1 : ix < nky 2) (a1 : 1 ≤ kd') (a2 : kd' ≤ 15) (h2 : ix' < nky kd') (hne : ¬ (2 = kd' ∧ ix = ix')) : kag (dec H G 2 ix) H kd' ix' := by
  have hcase : kd' = 1 ∨ kd' = 2 ∨ kd' = 3 ∨ kd' = 4 ∨ kd' = 5 ∨ kd' = 6 ∨ kd' = 7 ∨ kd' = 8 ∨ kd' = 9 ∨ kd' = 10 ∨ kd' = 11 ∨ kd' = 12 ∨ kd' = 13 ∨ kd' = 14 ∨ kd' = 15 := by omega
  rcases hcase with w | w | w | w | w | w | w | w | w | w | w | w | w | w | w
  · subst w
    exact fun _ _ _ => rfl
  · subst w
    replace hne : ix ≠ ix' := fun q => hne ⟨rfl, q⟩
    exact fun j a c => (show rg (48 * ix) 48 (G.1 1) (H.1 1) j = H.1 1 j from rg_out (by omega))
  · subst w
    exact fun _ _ _ => rfl
  · subst w
    exact fun _ _ _ => rfl
  · subst w
    exact fun _ _ _ => rfl
  · subst w
    show (if ix' = 7 then _ else _)
    split
    · rfl
    · exact fun _ _ _ => rfl
  · subst w
    show (if ix' = 0 then _ else _)
    split
    · exact fun _ _ => rfl
    · exact fun _ _ => rfl
  · subst w
    exact ⟨rfl, rfl, rfl, rfl, rfl⟩
  · subst w
    exact ⟨fun _ _ => rfl, fun _ _ => rfl⟩
  · subst w
    exact ⟨rfl, rfl, fun _ _ => rfl⟩
  · subst w
    exact ⟨rfl, rfl, rfl, rfl⟩
  · subst w
    exact ⟨rfl, fun _ => ⟨rfl, rfl, rfl, rfl, rfl⟩⟩
  · subst w
    exact ⟨rfl, fun _ => ⟨rfl, rfl⟩⟩
  · subst w
    exact ⟨rfl, fun _ => ⟨rfl, rfl, rfl, rfl⟩⟩
  · subst w
    exact ⟨rfl, fun _ => ⟨rfl, rfl⟩⟩
theorem dec_oth3 {kd' : Nat} (h1 : ix < nky 3) (a1 : 1 ≤ kd') (a2 : kd' ≤ 15) (h2 : ix' < nky kd') (hne : ¬ (3 = kd' ∧ ix = ix')) : kag (dec H G 3 ix) H kd' ix' := by
  have hcase : kd' = 1 ∨ kd' = 2 ∨ kd' = 3 ∨ kd' = 4 ∨ kd' = 5 ∨ kd' = 6 ∨ kd' = 7 ∨ kd' = 8 ∨ kd' = 9 ∨ kd' = 10 ∨ kd' = 11 ∨ kd' = 12 ∨ kd' = 13 ∨ kd' = 14 ∨ kd' = 15 := by omega
  rcases hcase with w | w | w | w | w | w | w | w | w | w | w | w | w | w | w
  · subst w
    exact fun _ _ _ => rfl
  · subst w
    exact fun _ _ _ => rfl
  · subst w
    replace hne : ix ≠ ix' := fun q => hne ⟨rfl, q⟩
    exact fun j a c => (show rg (24 * ix) 24 (G.1 2) (H.1 2) j = H.1 2 j from rg_out (by omega))
  · subst w
    exact fun _ _ _ => rfl
  · subst w
    exact fun _ _ _ => rfl
  · subst w
    show (if ix' = 7 then _ else _)
    split
    · rfl
    · exact fun _ _ _ => rfl
  · subst w
    show (if ix' = 0 then _ else _)
    split
    · exact fun _ _ => rfl
    · exact fun _ _ => rfl
  · subst w
    exact ⟨rfl, rfl, rfl, rfl, rfl⟩
  · subst w
    exact ⟨fun _ _ => rfl, fun _ _ => rfl⟩
  · subst w
    exact ⟨rfl, rfl, fun _ _ => rfl⟩
  · subst w
    exact ⟨rfl, rfl, rfl, rfl⟩
  · subst w
    exact ⟨rfl, fun _ => ⟨rfl, rfl, rfl, rfl, rfl⟩⟩
  · subst w
    exact ⟨rfl, fun _ => ⟨rfl, rfl⟩⟩
  · subst w
    exact ⟨rfl, fun _ => ⟨rfl, rfl, rfl, rfl⟩⟩
  · subst w
    exact ⟨rfl, fun _ => ⟨rfl, rfl⟩⟩
theorem dec_oth4 {kd' : Nat} (h1 : ix < nky 4) (a1 : 1 ≤ kd') (a2 : kd' ≤ 15) (h2 : ix' < nky kd') (hne : ¬ (4 = kd' ∧ ix = ix')) : kag (dec H G 4 ix) H kd' ix' := by
  have hcase : kd' = 1 ∨ kd' = 2 ∨ kd' = 3 ∨ kd' = 4 ∨ kd' = 5 ∨ kd' = 6 ∨ kd' = 7 ∨ kd' = 8 ∨ kd' = 9 ∨ kd' = 10 ∨ kd' = 11 ∨ kd' = 12 ∨ kd' = 13 ∨ kd' = 14 ∨ kd' = 15 := by omega
  rcases hcase with w | w | w | w | w | w | w | w | w | w | w | w | w | w | w
  · subst w
    exact fun _ _ _ => rfl
  · subst w
    exact fun _ _ _ => rfl
  · subst w
    exact fun _ _ _ => rfl
  · subst w
    replace hne : ix ≠ ix' := fun q => hne ⟨rfl, q⟩
    exact fun j a c => (show rg (12 * ix) 12 (G.2.1 0) (H.2.1 0) j = H.2.1 0 j from rg_out (by omega))
  · subst w
    exact fun _ _ _ => rfl
  · subst w
    show (if ix' = 7 then _ else _)
    split
    · rfl
    · exact fun _ _ _ => rfl
  · subst w
    show (if ix' = 0 then _ else _)
    split
    · exact fun _ _ => rfl
    · exact fun _ _ => rfl
  · subst w
    exact ⟨rfl, rfl, rfl, rfl, rfl⟩
  · subst w
    exact ⟨fun _ _ => rfl, fun _ _ => rfl⟩
  · subst w
    exact ⟨rfl, rfl, fun _ _ => rfl⟩
  · subst w
    exact ⟨rfl, rfl, rfl, rfl⟩
  · subst w
    exact ⟨rfl, fun _ => ⟨rfl, rfl, rfl, rfl, rfl⟩⟩
  · subst w
    exact ⟨rfl, fun _ => ⟨rfl, rfl⟩⟩
  · subst w
    exact ⟨rfl, fun _ => ⟨rfl, rfl, rfl, rfl⟩⟩
  · subst w
    exact ⟨rfl, fun _ => ⟨rfl, rfl⟩⟩
theorem dec_oth5 {kd' : Nat} (h1 : ix < nky 5) (a1 : 1 ≤ kd') (a2 : kd' ≤ 15) (h2 : ix' < nky kd') (hne : ¬ (5 = kd' ∧ ix = ix')) : kag (dec H G 5 ix) H kd' ix' := by
  have hcase : kd' = 1 ∨ kd' = 2 ∨ kd' = 3 ∨ kd' = 4 ∨ kd' = 5 ∨ kd' = 6 ∨ kd' = 7 ∨ kd' = 8 ∨ kd' = 9 ∨ kd' = 10 ∨ kd' = 11 ∨ kd' = 12 ∨ kd' = 13 ∨ kd' = 14 ∨ kd' = 15 := by omega
  rcases hcase with w | w | w | w | w | w | w | w | w | w | w | w | w | w | w
  · subst w
    exact fun _ _ _ => rfl
  · subst w
    exact fun _ _ _ => rfl
  · subst w
    exact fun _ _ _ => rfl
  · subst w
    exact fun _ _ _ => rfl
  · subst w
    replace hne : ix ≠ ix' := fun q => hne ⟨rfl, q⟩
    exact fun j a c => (show rg (24 * ix) 24 (G.1 3) (H.1 3) j = H.1 3 j from rg_out (by omega))
  · subst w
    show (if ix' = 7 then _ else _)
    split
    · rfl
    · exact fun _ _ _ => rfl
  · subst w
    show (if ix' = 0 then _ else _)
    split
    · exact fun _ _ => rfl
    · exact fun _ _ => rfl
  · subst w
    exact ⟨rfl, rfl, rfl, rfl, rfl⟩
  · subst w
    exact ⟨fun _ _ => rfl, fun _ _ => rfl⟩
  · subst w
    exact ⟨rfl, rfl, fun _ _ => rfl⟩
  · subst w
    exact ⟨rfl, rfl, rfl, rfl⟩
  · subst w
    exact ⟨rfl, fun _ => ⟨rfl, rfl, rfl, rfl, rfl⟩⟩
  · subst w
    exact ⟨rfl, fun _ => ⟨rfl, rfl⟩⟩
  · subst w
    exact ⟨rfl, fun _ => ⟨rfl, rfl, rfl, rfl⟩⟩
  · subst w
    exact ⟨rfl, fun _ => ⟨rfl, rfl⟩⟩
theorem dec_oth6 {kd' : Nat} (h1 : ix < nky 6) (a1 : 1 ≤ kd') (a2 : kd' ≤ 15) (h2 : ix' < nky kd') (hne : ¬ (6 = kd' ∧ ix = ix')) : kag (dec H G 6 ix) H kd' ix' := by
  have e : dec H G 6 ix = if ix = 7 then (up H.1 5 (up (H.1 5) 0 (G.1 5 0)), H.2) else (up H.1 4 (rg (28 * ix) 28 (G.1 4) (H.1 4)), H.2) := rfl
  rw [e]
  have hcase : kd' = 1 ∨ kd' = 2 ∨ kd' = 3 ∨ kd' = 4 ∨ kd' = 5 ∨ kd' = 6 ∨ kd' = 7 ∨ kd' = 8 ∨ kd' = 9 ∨ kd' = 10 ∨ kd' = 11 ∨ kd' = 12 ∨ kd' = 13 ∨ kd' = 14 ∨ kd' = 15 := by omega
  rcases hcase with w | w | w | w | w | w | w | w | w | w | w | w | w | w | w
  · subst w
    split
    · exact fun _ _ _ => rfl
    · exact fun _ _ _ => rfl
  · subst w
    split
    · exact fun _ _ _ => rfl
    · exact fun _ _ _ => rfl
  · subst w
    split
    · exact fun _ _ _ => rfl
    · exact fun _ _ _ => rfl
  · subst w
    split
    · exact fun _ _ _ => rfl
    · exact fun _ _ _ => rfl
  · subst w
    split
    · exact fun _ _ _ => rfl
    · exact fun _ _ _ => rfl
  · subst w
    replace hne : ix ≠ ix' := fun q => hne ⟨rfl, q⟩
    have l1 : ix < 8 := h1
    have l2 : ix' < 8 := h2
    show (if ix' = 7 then _ else _)
    by_cases w7 : ix = 7
    · rw [if_pos w7, if_neg (by omega)]
      exact fun _ _ _ => rfl
    · rw [if_neg w7]
      split
      · rfl
      · exact fun j a c => (show rg (28 * ix) 28 (G.1 4) (H.1 4) j = H.1 4 j from rg_out (by omega))
  · subst w
    split
    · show (if ix' = 0 then _ else _)
      split
      · exact fun _ _ => rfl
      · exact fun _ _ => rfl
    · show (if ix' = 0 then _ else _)
      split
      · exact fun _ _ => rfl
      · exact fun _ _ => rfl
  · subst w
    split
    · exact ⟨rfl, rfl, rfl, rfl, rfl⟩
    · exact ⟨rfl, rfl, rfl, rfl, rfl⟩
  · subst w
    split
    · exact ⟨fun _ _ => rfl, fun _ _ => rfl⟩
    · exact ⟨fun _ _ => rfl, fun _ _ => rfl⟩
  · subst w
    split
    · exact ⟨rfl, rfl, fun _ _ => rfl⟩
    · exact ⟨rfl, rfl, fun _ _ => rfl⟩
  · subst w
    split
    · exact ⟨rfl, rfl, rfl, rfl⟩
    · exact ⟨rfl, rfl, rfl, rfl⟩
  · subst w
    split
    · exact ⟨rfl, fun _ => ⟨rfl, rfl, rfl, rfl, rfl⟩⟩
    · exact ⟨rfl, fun _ => ⟨rfl, rfl, rfl, rfl, rfl⟩⟩
  · subst w
    split
    · exact ⟨rfl, fun _ => ⟨rfl, rfl⟩⟩
    · exact ⟨rfl, fun _ => ⟨rfl, rfl⟩⟩
  · subst w
    split
    · exact ⟨rfl, fun _ => ⟨rfl, rfl, rfl, rfl⟩⟩
    · exact ⟨rfl, fun _ => ⟨rfl, rfl, rfl, rfl⟩⟩
  · subst w
    split
    · exact ⟨rfl, fun _ => ⟨rfl, rfl⟩⟩
    · exact ⟨rfl, fun _ => ⟨rfl, rfl⟩⟩
theorem dec_oth7 {kd' : Nat} (h1 : ix < nky 7) (a1 : 1 ≤ kd') (a2 : kd' ≤ 15) (h2 : ix' < nky kd') (hne : ¬ (7 = kd' ∧ ix = ix')) : kag (dec H G 7 ix) H kd' ix' := by
  have e : dec H G 7 ix = if ix = 0 then (H.1, up H.2.1 1 (rg 0 11 (G.2.1 1) (H.2.1 1)), H.2.2) else (up H.1 6 (rg 0 11 (G.1 6) (H.1 6)), H.2) := rfl
  rw [e]
  have hcase : kd' = 1 ∨ kd' = 2 ∨ kd' = 3 ∨ kd' = 4 ∨ kd' = 5 ∨ kd' = 6 ∨ kd' = 7 ∨ kd' = 8 ∨ kd' = 9 ∨ kd' = 10 ∨ kd' = 11 ∨ kd' = 12 ∨ kd' = 13 ∨ kd' = 14 ∨ kd' = 15 := by omega
  rcases hcase with w | w | w | w | w | w | w | w | w | w | w | w | w | w | w
  · subst w
    split
    · exact fun _ _ _ => rfl
    · exact fun _ _ _ => rfl
  · subst w
    split
    · exact fun _ _ _ => rfl
    · exact fun _ _ _ => rfl
  · subst w
    split
    · exact fun _ _ _ => rfl
    · exact fun _ _ _ => rfl
  · subst w
    split
    · exact fun _ _ _ => rfl
    · exact fun _ _ _ => rfl
  · subst w
    split
    · exact fun _ _ _ => rfl
    · exact fun _ _ _ => rfl
  · subst w
    split
    · show (if ix' = 7 then _ else _)
      split
      · rfl
      · exact fun _ _ _ => rfl
    · show (if ix' = 7 then _ else _)
      split
      · rfl
      · exact fun _ _ _ => rfl
  · subst w
    replace hne : ix ≠ ix' := fun q => hne ⟨rfl, q⟩
    have l1 : ix < 2 := h1
    have l2 : ix' < 2 := h2
    show (if ix' = 0 then _ else _)
    by_cases w7 : ix = 0
    · rw [if_pos w7, if_neg (by omega)]
      exact fun _ _ => rfl
    · rw [if_neg w7, if_pos (by omega)]
      exact fun _ _ => rfl
  · subst w
    split
    · exact ⟨rfl, rfl, rfl, rfl, rfl⟩
    · exact ⟨rfl, rfl, rfl, rfl, rfl⟩
  · subst w
    split
    · exact ⟨fun _ _ => rfl, fun _ _ => rfl⟩
    · exact ⟨fun _ _ => rfl, fun _ _ => rfl⟩
  · subst w
    split
    · exact ⟨rfl, rfl, fun _ _ => rfl⟩
    · exact ⟨rfl, rfl, fun _ _ => rfl⟩
  · subst w
    split
    · exact ⟨rfl, rfl, rfl, rfl⟩
    · exact ⟨rfl, rfl, rfl, rfl⟩
  · subst w
    split
    · exact ⟨rfl, fun _ => ⟨rfl, rfl, rfl, rfl, rfl⟩⟩
    · exact ⟨rfl, fun _ => ⟨rfl, rfl, rfl, rfl, rfl⟩⟩
  · subst w
    split
    · exact ⟨rfl, fun _ => ⟨rfl, rfl⟩⟩
    · exact ⟨rfl, fun _ => ⟨rfl, rfl⟩⟩
  · subst w
    split
    · exact ⟨rfl, fun _ => ⟨rfl, rfl, rfl, rfl⟩⟩
    · exact ⟨rfl, fun _ => ⟨rfl, rfl, rfl, rfl⟩⟩
  · subst w
    split
    · exact ⟨rfl, fun _ => ⟨rfl, rfl⟩⟩
    · exact ⟨rfl, fun _ => ⟨rfl, rfl⟩⟩
theorem dec_oth8 {kd' : Nat} (h1 : ix < nky 8) (a1 : 1 ≤ kd') (a2 : kd' ≤ 15) (h2 : ix' < nky kd') (hne : ¬ (8 = kd' ∧ ix = ix')) : kag (dec H G 8 ix) H kd' ix' := by
  have hcase : kd' = 1 ∨ kd' = 2 ∨ kd' = 3 ∨ kd' = 4 ∨ kd' = 5 ∨ kd' = 6 ∨ kd' = 7 ∨ kd' = 8 ∨ kd' = 9 ∨ kd' = 10 ∨ kd' = 11 ∨ kd' = 12 ∨ kd' = 13 ∨ kd' = 14 ∨ kd' = 15 := by omega
  rcases hcase with w | w | w | w | w | w | w | w | w | w | w | w | w | w | w
  · subst w
    exact fun _ _ _ => rfl
  · subst w
    exact fun _ _ _ => rfl
  · subst w
    exact fun _ _ _ => rfl
  · subst w
    exact fun _ _ _ => rfl
  · subst w
    exact fun _ _ _ => rfl
  · subst w
    show (if ix' = 7 then _ else _)
    split
    · rfl
    · exact fun _ _ _ => rfl
  · subst w
    show (if ix' = 0 then _ else _)
    split
    · exact fun _ _ => rfl
    · exact fun _ _ => rfl
  · subst w
    replace hne : ix ≠ ix' := fun q => hne ⟨rfl, q⟩
    exact ⟨(show up (H.2.1 2) ix (G.2.1 2 ix) ix' = H.2.1 2 ix' from up_o2 hne), (show up (H.2.1 3) ix (G.2.1 3 ix) ix' = H.2.1 3 ix' from up_o2 hne), (show up (H.2.1 4) ix (G.2.1 4 ix) ix' = H.2.1 4 ix' from up_o2 hne), (show up (H.2.2 0) ix (G.2.2 0 ix) ix' = H.2.2 0 ix' from up_o2 hne), (show up (H.2.2 1) ix (G.2.2 1 ix) ix' = H.2.2 1 ix' from up_o2 hne)⟩
  · subst w
    exact ⟨fun _ _ => rfl, fun _ _ => rfl⟩
  · subst w
    have l1 : ix < 10 := h1
    exact ⟨(show up (H.2.1 2) ix (G.2.1 2 ix) 10 = H.2.1 2 10 from up_o2 (by omega)), (show up (H.2.1 3) ix (G.2.1 3 ix) 10 = H.2.1 3 10 from up_o2 (by omega)), fun _ _ => rfl⟩
  · subst w
    exact ⟨rfl, rfl, rfl, rfl⟩
  · subst w
    exact ⟨rfl, fun _ => ⟨rfl, rfl, rfl, rfl, rfl⟩⟩
  · subst w
    exact ⟨rfl, fun _ => ⟨rfl, rfl⟩⟩
  · subst w
    exact ⟨rfl, fun _ => ⟨rfl, rfl, rfl, rfl⟩⟩
  · subst w
    exact ⟨rfl, fun _ => ⟨rfl, rfl⟩⟩
theorem dec_oth9 {kd' : Nat} (h1 : ix < nky 9) (a1 : 1 ≤ kd') (a2 : kd' ≤ 15) (h2 : ix' < nky kd') (hne : ¬ (9 = kd' ∧ ix = ix')) : kag (dec H G 9 ix) H kd' ix' := by
  have hcase : kd' = 1 ∨ kd' = 2 ∨ kd' = 3 ∨ kd' = 4 ∨ kd' = 5 ∨ kd' = 6 ∨ kd' = 7 ∨ kd' = 8 ∨ kd' = 9 ∨ kd' = 10 ∨ kd' = 11 ∨ kd' = 12 ∨ kd' = 13 ∨ kd' = 14 ∨ kd' = 15 := by omega
  rcases hcase with w | w | w | w | w | w | w | w | w | w | w | w | w | w | w
  · subst w
    exact fun _ _ _ => rfl
  · subst w
    exact fun _ _ _ => rfl
  · subst w
    exact fun _ _ _ => rfl
  · subst w
    exact fun _ _ _ => rfl
  · subst w
    exact fun _ _ _ => rfl
  · subst w
    show (if ix' = 7 then _ else _)
    split
    · rfl
    · exact fun _ _ _ => rfl
  · subst w
    show (if ix' = 0 then _ else _)
    split
    · exact fun _ _ => rfl
    · exact fun _ _ => rfl
  · subst w
    exact ⟨rfl, rfl, rfl, rfl, rfl⟩
  · subst w
    replace hne : ix ≠ ix' := fun q => hne ⟨rfl, q⟩
    exact absurd (show ix = ix' by simp only [show nky 9 = 1 from rfl] at h1 h2; omega) hne
  · subst w
    exact ⟨rfl, rfl, fun _ _ => rfl⟩
  · subst w
    exact ⟨rfl, rfl, rfl, rfl⟩
  · subst w
    exact ⟨rfl, fun _ => ⟨rfl, rfl, rfl, rfl, rfl⟩⟩
  · subst w
    exact ⟨rfl, fun _ => ⟨rfl, rfl⟩⟩
  · subst w
    exact ⟨rfl, fun _ => ⟨rfl, rfl, rfl, rfl⟩⟩
  · subst w
    exact ⟨rfl, fun _ => ⟨rfl, rfl⟩⟩
theorem dec_oth10 {kd' : Nat} (h1 : ix < nky 10) (a1 : 1 ≤ kd') (a2 : kd' ≤ 15) (h2 : ix' < nky kd') (hne : ¬ (10 = kd' ∧ ix = ix')) : kag (dec H G 10 ix) H kd' ix' := by
  have hcase : kd' = 1 ∨ kd' = 2 ∨ kd' = 3 ∨ kd' = 4 ∨ kd' = 5 ∨ kd' = 6 ∨ kd' = 7 ∨ kd' = 8 ∨ kd' = 9 ∨ kd' = 10 ∨ kd' = 11 ∨ kd' = 12 ∨ kd' = 13 ∨ kd' = 14 ∨ kd' = 15 := by omega
  rcases hcase with w | w | w | w | w | w | w | w | w | w | w | w | w | w | w
  · subst w
    exact fun _ _ _ => rfl
  · subst w
    exact fun _ _ _ => rfl
  · subst w
    exact fun _ _ _ => rfl
  · subst w
    exact fun _ _ _ => rfl
  · subst w
    exact fun _ _ _ => rfl
  · subst w
    show (if ix' = 7 then _ else _)
    split
    · rfl
    · exact fun _ _ _ => rfl
  · subst w
    show (if ix' = 0 then _ else _)
    split
    · exact fun _ _ => rfl
    · exact fun _ _ => rfl
  · subst w
    have l2 : ix' < 10 := h2
    exact ⟨(show up (H.2.1 2) 10 (G.2.1 2 10) ix' = H.2.1 2 ix' from up_o2 (by omega)), (show up (H.2.1 3) 10 (G.2.1 3 10) ix' = H.2.1 3 ix' from up_o2 (by omega)), rfl, rfl, rfl⟩
  · subst w
    exact ⟨fun _ _ => rfl, fun _ _ => rfl⟩
  · subst w
    replace hne : ix ≠ ix' := fun q => hne ⟨rfl, q⟩
    exact absurd (show ix = ix' by simp only [show nky 10 = 1 from rfl] at h1 h2; omega) hne
  · subst w
    exact ⟨rfl, rfl, rfl, rfl⟩
  · subst w
    exact ⟨rfl, fun _ => ⟨rfl, rfl, rfl, rfl, rfl⟩⟩
  · subst w
    exact ⟨rfl, fun _ => ⟨rfl, rfl⟩⟩
  · subst w
    exact ⟨rfl, fun _ => ⟨rfl, rfl, rfl, rfl⟩⟩
  · subst w
    exact ⟨rfl, fun _ => ⟨rfl, rfl⟩⟩
theorem dec_oth11 {kd' : Nat} (h1 : ix < nky 11) (a1 : 1 ≤ kd') (a2 : kd' ≤ 15) (h2 : ix' < nky kd') (hne : ¬ (11 = kd' ∧ ix = ix')) : kag (dec H G 11 ix) H kd' ix' := by
  have hcase : kd' = 1 ∨ kd' = 2 ∨ kd' = 3 ∨ kd' = 4 ∨ kd' = 5 ∨ kd' = 6 ∨ kd' = 7 ∨ kd' = 8 ∨ kd' = 9 ∨ kd' = 10 ∨ kd' = 11 ∨ kd' = 12 ∨ kd' = 13 ∨ kd' = 14 ∨ kd' = 15 := by omega
  rcases hcase with w | w | w | w | w | w | w | w | w | w | w | w | w | w | w
  · subst w
    exact fun _ _ _ => rfl
  · subst w
    exact fun _ _ _ => rfl
  · subst w
    exact fun _ _ _ => rfl
  · subst w
    exact fun _ _ _ => rfl
  · subst w
    exact fun _ _ _ => rfl
  · subst w
    show (if ix' = 7 then _ else _)
    split
    · rfl
    · exact fun _ _ _ => rfl
  · subst w
    show (if ix' = 0 then _ else _)
    split
    · exact fun _ _ => rfl
    · exact fun _ _ => rfl
  · subst w
    exact ⟨rfl, rfl, rfl, rfl, rfl⟩
  · subst w
    exact ⟨fun _ _ => rfl, fun _ _ => rfl⟩
  · subst w
    exact ⟨rfl, rfl, fun _ _ => rfl⟩
  · subst w
    replace hne : ix ≠ ix' := fun q => hne ⟨rfl, q⟩
    exact ⟨(show up (H.2.1 7) ix (G.2.1 7 ix) ix' = H.2.1 7 ix' from up_o2 hne), (show up (H.2.1 8) ix (G.2.1 8 ix) ix' = H.2.1 8 ix' from up_o2 hne), (show up (H.2.1 9) ix (G.2.1 9 ix) ix' = H.2.1 9 ix' from up_o2 hne), (show up (H.1 7) ix (G.1 7 ix) ix' = H.1 7 ix' from up_o2 hne)⟩
  · subst w
    exact ⟨rfl, fun _ => ⟨rfl, rfl, rfl, rfl, rfl⟩⟩
  · subst w
    exact ⟨rfl, fun _ => ⟨rfl, rfl⟩⟩
  · subst w
    exact ⟨rfl, fun _ => ⟨rfl, rfl, rfl, rfl⟩⟩
  · subst w
    exact ⟨rfl, fun _ => ⟨rfl, rfl⟩⟩
theorem dec_oth12 {kd' : Nat} (h1 : ix < nky 12) (a1 : 1 ≤ kd') (a2 : kd' ≤ 15) (h2 : ix' < nky kd') (hne : ¬ (12 = kd' ∧ ix = ix')) : kag (dec H G 12 ix) H kd' ix' := by
  have hcase : kd' = 1 ∨ kd' = 2 ∨ kd' = 3 ∨ kd' = 4 ∨ kd' = 5 ∨ kd' = 6 ∨ kd' = 7 ∨ kd' = 8 ∨ kd' = 9 ∨ kd' = 10 ∨ kd' = 11 ∨ kd' = 12 ∨ kd' = 13 ∨ kd' = 14 ∨ kd' = 15 := by omega
  rcases hcase with w | w | w | w | w | w | w | w | w | w | w | w | w | w | w
  · subst w
    exact fun _ _ _ => rfl
  · subst w
    exact fun _ _ _ => rfl
  · subst w
    exact fun _ _ _ => rfl
  · subst w
    exact fun _ _ _ => rfl
  · subst w
    exact fun _ _ _ => rfl
  · subst w
    show (if ix' = 7 then _ else _)
    split
    · rfl
    · exact fun _ _ _ => rfl
  · subst w
    show (if ix' = 0 then _ else _)
    split
    · exact fun _ _ => rfl
    · exact fun _ _ => rfl
  · subst w
    exact ⟨rfl, rfl, rfl, rfl, rfl⟩
  · subst w
    exact ⟨fun _ _ => rfl, fun _ _ => rfl⟩
  · subst w
    exact ⟨rfl, rfl, fun _ _ => rfl⟩
  · subst w
    exact ⟨rfl, rfl, rfl, rfl⟩
  · subst w
    replace hne : ix ≠ ix' := fun q => hne ⟨rfl, q⟩
    exact ⟨(show up (H.1 8) ix (G.1 8 ix) ix' = H.1 8 ix' from up_o2 hne), fun _ => ⟨(show up (H.1 9) ix (G.1 9 ix) ix' = H.1 9 ix' from up_o2 hne), (show up (H.1 10) ix (G.1 10 ix) ix' = H.1 10 ix' from up_o2 hne), (show up (H.1 11) ix (G.1 11 ix) ix' = H.1 11 ix' from up_o2 hne), (show up (H.2.1 10) ix (G.2.1 10 ix) ix' = H.2.1 10 ix' from up_o2 hne), (show up (H.2.1 11) ix (G.2.1 11 ix) ix' = H.2.1 11 ix' from up_o2 hne)⟩⟩
  · subst w
    exact ⟨rfl, fun _ => ⟨rfl, rfl⟩⟩
  · subst w
    exact ⟨rfl, fun _ => ⟨rfl, rfl, rfl, rfl⟩⟩
  · subst w
    exact ⟨rfl, fun _ => ⟨rfl, rfl⟩⟩
theorem dec_oth13 {kd' : Nat} (h1 : ix < nky 13) (a1 : 1 ≤ kd') (a2 : kd' ≤ 15) (h2 : ix' < nky kd') (hne : ¬ (13 = kd' ∧ ix = ix')) : kag (dec H G 13 ix) H kd' ix' := by
  have hcase : kd' = 1 ∨ kd' = 2 ∨ kd' = 3 ∨ kd' = 4 ∨ kd' = 5 ∨ kd' = 6 ∨ kd' = 7 ∨ kd' = 8 ∨ kd' = 9 ∨ kd' = 10 ∨ kd' = 11 ∨ kd' = 12 ∨ kd' = 13 ∨ kd' = 14 ∨ kd' = 15 := by omega
  rcases hcase with w | w | w | w | w | w | w | w | w | w | w | w | w | w | w
  · subst w
    exact fun _ _ _ => rfl
  · subst w
    exact fun _ _ _ => rfl
  · subst w
    exact fun _ _ _ => rfl
  · subst w
    exact fun _ _ _ => rfl
  · subst w
    exact fun _ _ _ => rfl
  · subst w
    show (if ix' = 7 then _ else _)
    split
    · rfl
    · exact fun _ _ _ => rfl
  · subst w
    show (if ix' = 0 then _ else _)
    split
    · exact fun _ _ => rfl
    · exact fun _ _ => rfl
  · subst w
    exact ⟨rfl, rfl, rfl, rfl, rfl⟩
  · subst w
    exact ⟨fun _ _ => rfl, fun _ _ => rfl⟩
  · subst w
    exact ⟨rfl, rfl, fun _ _ => rfl⟩
  · subst w
    exact ⟨rfl, rfl, rfl, rfl⟩
  · subst w
    exact ⟨rfl, fun _ => ⟨rfl, rfl, rfl, rfl, rfl⟩⟩
  · subst w
    replace hne : ix ≠ ix' := fun q => hne ⟨rfl, q⟩
    exact ⟨(show up (H.1 12) ix 1 ix' = H.1 12 ix' from up_o2 hne), fun _ => ⟨(show up (H.1 13) ix (G.1 13 ix) ix' = H.1 13 ix' from up_o2 hne), (show up (H.1 14) ix (G.1 14 ix) ix' = H.1 14 ix' from up_o2 hne)⟩⟩
  · subst w
    exact ⟨rfl, fun _ => ⟨rfl, rfl, rfl, rfl⟩⟩
  · subst w
    exact ⟨rfl, fun _ => ⟨rfl, rfl⟩⟩
theorem dec_oth14 {kd' : Nat} (h1 : ix < nky 14) (a1 : 1 ≤ kd') (a2 : kd' ≤ 15) (h2 : ix' < nky kd') (hne : ¬ (14 = kd' ∧ ix = ix')) : kag (dec H G 14 ix) H kd' ix' := by
  have hcase : kd' = 1 ∨ kd' = 2 ∨ kd' = 3 ∨ kd' = 4 ∨ kd' = 5 ∨ kd' = 6 ∨ kd' = 7 ∨ kd' = 8 ∨ kd' = 9 ∨ kd' = 10 ∨ kd' = 11 ∨ kd' = 12 ∨ kd' = 13 ∨ kd' = 14 ∨ kd' = 15 := by omega
  rcases hcase with w | w | w | w | w | w | w | w | w | w | w | w | w | w | w
  · subst w
    exact fun _ _ _ => rfl
  · subst w
    exact fun _ _ _ => rfl
  · subst w
    exact fun _ _ _ => rfl
  · subst w
    exact fun _ _ _ => rfl
  · subst w
    exact fun _ _ _ => rfl
  · subst w
    show (if ix' = 7 then _ else _)
    split
    · rfl
    · exact fun _ _ _ => rfl
  · subst w
    show (if ix' = 0 then _ else _)
    split
    · exact fun _ _ => rfl
    · exact fun _ _ => rfl
  · subst w
    exact ⟨rfl, rfl, rfl, rfl, rfl⟩
  · subst w
    exact ⟨fun _ _ => rfl, fun _ _ => rfl⟩
  · subst w
    exact ⟨rfl, rfl, fun _ _ => rfl⟩
  · subst w
    exact ⟨rfl, rfl, rfl, rfl⟩
  · subst w
    exact ⟨rfl, fun _ => ⟨rfl, rfl, rfl, rfl, rfl⟩⟩
  · subst w
    exact ⟨rfl, fun _ => ⟨rfl, rfl⟩⟩
  · subst w
    replace hne : ix ≠ ix' := fun q => hne ⟨rfl, q⟩
    exact ⟨(show up (H.1 15) ix 1 ix' = H.1 15 ix' from up_o2 hne), fun _ => ⟨(show up (H.1 16) ix (G.1 16 ix) ix' = H.1 16 ix' from up_o2 hne), (show up (H.1 17) ix (G.1 17 ix) ix' = H.1 17 ix' from up_o2 hne), (show up (H.1 18) ix (G.1 18 ix) ix' = H.1 18 ix' from up_o2 hne), (show up (H.2.1 12) ix (G.2.1 12 ix) ix' = H.2.1 12 ix' from up_o2 hne)⟩⟩
  · subst w
    exact ⟨rfl, fun _ => ⟨rfl, rfl⟩⟩
theorem dec_oth15 {kd' : Nat} (h1 : ix < nky 15) (a1 : 1 ≤ kd') (a2 : kd' ≤ 15) (h2 : ix' < nky kd') (hne : ¬ (15 = kd' ∧ ix = ix')) : kag (dec H G 15 ix) H kd' ix' := by
  have hcase : kd' = 1 ∨ kd' = 2 ∨ kd' = 3 ∨ kd' = 4 ∨ kd' = 5 ∨ kd' = 6 ∨ kd' = 7 ∨ kd' = 8 ∨ kd' = 9 ∨ kd' = 10 ∨ kd' = 11 ∨ kd' = 12 ∨ kd' = 13 ∨ kd' = 14 ∨ kd' = 15 := by omega
  rcases hcase with w | w | w | w | w | w | w | w | w | w | w | w | w | w | w
  · subst w
    exact fun _ _ _ => rfl
  · subst w
    exact fun _ _ _ => rfl
  · subst w
    exact fun _ _ _ => rfl
  · subst w
    exact fun _ _ _ => rfl
  · subst w
    exact fun _ _ _ => rfl
  · subst w
    show (if ix' = 7 then _ else _)
    split
    · rfl
    · exact fun _ _ _ => rfl
  · subst w
    show (if ix' = 0 then _ else _)
    split
    · exact fun _ _ => rfl
    · exact fun _ _ => rfl
  · subst w
    exact ⟨rfl, rfl, rfl, rfl, rfl⟩
  · subst w
    exact ⟨fun _ _ => rfl, fun _ _ => rfl⟩
  · subst w
    exact ⟨rfl, rfl, fun _ _ => rfl⟩
  · subst w
    exact ⟨rfl, rfl, rfl, rfl⟩
  · subst w
    exact ⟨rfl, fun _ => ⟨rfl, rfl, rfl, rfl, rfl⟩⟩
  · subst w
    exact ⟨rfl, fun _ => ⟨rfl, rfl⟩⟩
  · subst w
    exact ⟨rfl, fun _ => ⟨rfl, rfl, rfl, rfl⟩⟩
  · subst w
    replace hne : ix ≠ ix' := fun q => hne ⟨rfl, q⟩
    exact ⟨(show up (H.1 19) ix 1 ix' = H.1 19 ix' from up_o2 hne), fun _ => ⟨(show up (H.1 20) ix (G.1 20 ix) ix' = H.1 20 ix' from up_o2 hne), (show up (H.1 21) ix (G.1 21 ix) ix' = H.1 21 ix' from up_o2 hne)⟩⟩
theorem dec_oth {kd kd' : Nat} (b1' : 1 ≤ kd) (b2 : kd ≤ 15) (h1 : ix < nky kd) (a1 : 1 ≤ kd') (a2 : kd' ≤ 15) (h2 : ix' < nky kd') (hne : ¬ (kd = kd' ∧ ix = ix')) : kag (dec H G kd ix) H kd' ix' := by
  have hcase : kd = 1 ∨ kd = 2 ∨ kd = 3 ∨ kd = 4 ∨ kd = 5 ∨ kd = 6 ∨ kd = 7 ∨ kd = 8 ∨ kd = 9 ∨ kd = 10 ∨ kd = 11 ∨ kd = 12 ∨ kd = 13 ∨ kd = 14 ∨ kd = 15 := by omega
  rcases hcase with w | w | w | w | w | w | w | w | w | w | w | w | w | w | w
  · subst w; exact dec_oth1 h1 a1 a2 h2 hne
  · subst w; exact dec_oth2 h1 a1 a2 h2 hne
  · subst w; exact dec_oth3 h1 a1 a2 h2 hne
  · subst w; exact dec_oth4 h1 a1 a2 h2 hne
  · subst w; exact dec_oth5 h1 a1 a2 h2 hne
  · subst w; exact dec_oth6 h1 a1 a2 h2 hne
  · subst w; exact dec_oth7 h1 a1 a2 h2 hne
  · subst w; exact dec_oth8 h1 a1 a2 h2 hne
  · subst w; exact dec_oth9 h1 a1 a2 h2 hne
  · subst w; exact dec_oth10 h1 a1 a2 h2 hne
  · subst w; exact dec_oth11 h1 a1 a2 h2 hne
  · subst w; exact dec_oth12 h1 a1 a2 h2 hne
  · subst w; exact dec_oth13 h1 a1 a2 h2 hne
  · subst w; exact dec_oth14 h1 a1 a2 h2 hne
  · subst w; exact dec_oth15 h1 a1 a2 h2 hne
theorem dec_self {kd : Nat} (b1' : 1 ≤ kd) (b2 : kd ≤ 15) (ht : kxt G kd ix) : kag (dec H G kd ix) G kd ix := by
  have hcase : kd = 1 ∨ kd = 2 ∨ kd = 3 ∨ kd = 4 ∨ kd = 5 ∨ kd = 6 ∨ kd = 7 ∨ kd = 8 ∨ kd = 9 ∨ kd = 10 ∨ kd = 11 ∨ kd = 12 ∨ kd = 13 ∨ kd = 14 ∨ kd = 15 := by omega
  rcases hcase with w | w | w | w | w | w | w | w | w | w | w | w | w | w | w
  · subst w
    exact fun j a c => (show rg (110 * ix) 110 (G.1 0) (H.1 0) j = G.1 0 j from rg_in a c)
  · subst w
    exact fun j a c => (show rg (48 * ix) 48 (G.1 1) (H.1 1) j = G.1 1 j from rg_in a c)
  · subst w
    exact fun j a c => (show rg (24 * ix) 24 (G.1 2) (H.1 2) j = G.1 2 j from rg_in a c)
  · subst w
    exact fun j a c => (show rg (12 * ix) 12 (G.2.1 0) (H.2.1 0) j = G.2.1 0 j from rg_in a c)
  · subst w
    exact fun j a c => (show rg (24 * ix) 24 (G.1 3) (H.1 3) j = G.1 3 j from rg_in a c)
  · subst w
    have e : dec H G 6 ix = if ix = 7 then (up H.1 5 (up (H.1 5) 0 (G.1 5 0)), H.2) else (up H.1 4 (rg (28 * ix) 28 (G.1 4) (H.1 4)), H.2) := rfl
    rw [e]
    show (if ix = 7 then _ else _)
    by_cases w7 : ix = 7
    · rw [if_pos w7, if_pos w7]; rfl
    · rw [if_neg w7, if_neg w7]
      exact fun j a c => (show rg (28 * ix) 28 (G.1 4) (H.1 4) j = G.1 4 j from rg_in a c)
  · subst w
    have e : dec H G 7 ix = if ix = 0 then (H.1, up H.2.1 1 (rg 0 11 (G.2.1 1) (H.2.1 1)), H.2.2) else (up H.1 6 (rg 0 11 (G.1 6) (H.1 6)), H.2) := rfl
    rw [e]
    show (if ix = 0 then _ else _)
    by_cases w7 : ix = 0
    · rw [if_pos w7, if_pos w7]
      exact fun j a => (show rg 0 11 (G.2.1 1) (H.2.1 1) j = G.2.1 1 j from rg_in (by omega) (by omega))
    · rw [if_neg w7, if_neg w7]
      exact fun j a => (show rg 0 11 (G.1 6) (H.1 6) j = G.1 6 j from rg_in (by omega) (by omega))
  · subst w
    exact ⟨(show up (H.2.1 2) ix (G.2.1 2 ix) ix = G.2.1 2 ix from up_i2), (show up (H.2.1 3) ix (G.2.1 3 ix) ix = G.2.1 3 ix from up_i2), (show up (H.2.1 4) ix (G.2.1 4 ix) ix = G.2.1 4 ix from up_i2), (show up (H.2.2 0) ix (G.2.2 0 ix) ix = G.2.2 0 ix from up_i2), (show up (H.2.2 1) ix (G.2.2 1 ix) ix = G.2.2 1 ix from up_i2)⟩
  · subst w
    exact ⟨fun j a => (show rg 0 3 (G.2.1 5) (H.2.1 5) j = G.2.1 5 j from rg_in (by omega) (by omega)), fun j a => (show rg 0 2 (G.2.2 2) (H.2.2 2) j = G.2.2 2 j from rg_in (by omega) (by omega))⟩
  · subst w
    exact ⟨rfl, rfl, fun j a => (show rg 0 4 (G.2.1 6) (H.2.1 6) j = G.2.1 6 j from rg_in (by omega) (by omega))⟩
  · subst w
    exact ⟨(show up (H.2.1 7) ix (G.2.1 7 ix) ix = G.2.1 7 ix from up_i2), (show up (H.2.1 8) ix (G.2.1 8 ix) ix = G.2.1 8 ix from up_i2), (show up (H.2.1 9) ix (G.2.1 9 ix) ix = G.2.1 9 ix from up_i2), (show up (H.1 7) ix (G.1 7 ix) ix = G.1 7 ix from up_i2)⟩
  · subst w
    exact ⟨(show up (H.1 8) ix (G.1 8 ix) ix = G.1 8 ix from up_i2), fun _ => ⟨(show up (H.1 9) ix (G.1 9 ix) ix = G.1 9 ix from up_i2), (show up (H.1 10) ix (G.1 10 ix) ix = G.1 10 ix from up_i2), (show up (H.1 11) ix (G.1 11 ix) ix = G.1 11 ix from up_i2), (show up (H.2.1 10) ix (G.2.1 10 ix) ix = G.2.1 10 ix from up_i2), (show up (H.2.1 11) ix (G.2.1 11 ix) ix = G.2.1 11 ix from up_i2)⟩⟩
  · subst w
    exact ⟨(show up (H.1 12) ix 1 ix = G.1 12 ix from up_i2.trans (ht.1 rfl).symm), fun _ => ⟨(show up (H.1 13) ix (G.1 13 ix) ix = G.1 13 ix from up_i2), (show up (H.1 14) ix (G.1 14 ix) ix = G.1 14 ix from up_i2)⟩⟩
  · subst w
    exact ⟨(show up (H.1 15) ix 1 ix = G.1 15 ix from up_i2.trans (ht.2.1 rfl).symm), fun _ => ⟨(show up (H.1 16) ix (G.1 16 ix) ix = G.1 16 ix from up_i2), (show up (H.1 17) ix (G.1 17 ix) ix = G.1 17 ix from up_i2), (show up (H.1 18) ix (G.1 18 ix) ix = G.1 18 ix from up_i2), (show up (H.2.1 12) ix (G.2.1 12 ix) ix = G.2.1 12 ix from up_i2)⟩⟩
  · subst w
    exact ⟨(show up (H.1 19) ix 1 ix = G.1 19 ix from up_i2.trans (ht.2.2 rfl).symm), fun _ => ⟨(show up (H.1 20) ix (G.1 20 ix) ix = G.1 20 ix from up_i2), (show up (H.1 21) ix (G.1 21 ix) ix = G.1 21 ix from up_i2)⟩⟩
end Kag
