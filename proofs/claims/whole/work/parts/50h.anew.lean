/-! PURE (50h): what the keys tell is read again, all of them. -/
/-- the kind of an edge at first -/
def fe0 (j : Nat) : Nat := if ge_sd (j % 110) = 4 then 0 else 2
/-- the things at first -/
def H0 : Kp := (fun f j => if f = 0 then fe0 j else if f = 1 then 15 else 0, fun f j => if f = 1 then 100 else if f = 6 then (if j = 0 then 5000 else 0) else if f = 7 then 5000 else 0, fun _ _ => 0)
/-- the store's keys tell the house D -/
def st_D (kt : Nat → Bool) (kb : Nat → Nat → Nat) (D : Kp) : Prop := kpb D ∧ D.2.1 4 10 = 0 ∧ ∀ k, k < 135 → (kt k = true → kxt D (kdk k) (ixk k) ∧ kpl D (kdk k) (ixk k) ∧ ∀ j, j < 28 → kb k j = xk D k j) ∧ (kt k = false → kag H0 D (kdk k) (ixk k))
/-- read so far -/
def RS (kt : Nat → Bool) (D : Kp) (k : Nat) : Kp := it (fun i H => if kt i = true then dec H D (kdk i) (ixk i) else H) k H0
def NN (kt : Nat → Bool) (D : Kp) (k : Nat) : Nat := it (fun i n => if kt i = true then nxn D (kdk i) (ixk i) n else n) k 0
section Anw
variable {kt : Nat → Bool} {kb : Nat → Nat → Nat} {D : Kp}
theorem RS_s (k : Nat) : RS kt D (k + 1) = if kt k = true then dec (RS kt D k) D (kdk k) (ixk k) else RS kt D k := rfl
theorem NN_s (k : Nat) : NN kt D (k + 1) = if kt k = true then nxn D (kdk k) (ixk k) (NN kt D k) else NN kt D k := rfl
theorem kag_refl {E : Kp} {kd ix : Nat} (h1 : 1 ≤ kd) (h2 : kd ≤ 15) : kag E E kd ix := by
  have hcase : kd = 1 ∨ kd = 2 ∨ kd = 3 ∨ kd = 4 ∨ kd = 5 ∨ kd = 6 ∨ kd = 7 ∨ kd = 8 ∨ kd = 9 ∨ kd = 10 ∨ kd = 11 ∨ kd = 12 ∨ kd = 13 ∨ kd = 14 ∨ kd = 15 := by omega
  rcases hcase with w | w | w | w | w | w | w | w | w | w | w | w | w | w | w
  · subst w; exact fun _ _ _ => rfl
  · subst w; exact fun _ _ _ => rfl
  · subst w; exact fun _ _ _ => rfl
  · subst w; exact fun _ _ _ => rfl
  · subst w; exact fun _ _ _ => rfl
  · subst w
    show (if ix = 7 then _ else _)
    split
    · rfl
    · exact fun _ _ _ => rfl
  · subst w
    show (if ix = 0 then _ else _)
    split
    · exact fun _ _ => rfl
    · exact fun _ _ => rfl
  · subst w; exact ⟨rfl, rfl, rfl, rfl, rfl⟩
  · subst w; exact ⟨fun _ _ => rfl, fun _ _ => rfl⟩
  · subst w; exact ⟨rfl, rfl, fun _ _ => rfl⟩
  · subst w; exact ⟨rfl, rfl, rfl, rfl⟩
  · subst w; exact ⟨rfl, fun _ => ⟨rfl, rfl, rfl, rfl, rfl⟩⟩
  · subst w; exact ⟨rfl, fun _ => ⟨rfl, rfl⟩⟩
  · subst w; exact ⟨rfl, fun _ => ⟨rfl, rfl, rfl, rfl⟩⟩
  · subst w; exact ⟨rfl, fun _ => ⟨rfl, rfl⟩⟩
theorem key_ne {k k' : Nat} (hk : k < 135) (hk' : k' < 135) (h : k ≠ k') : ¬ (kdk k = kdk k' ∧ ixk k = ixk k') := by
  rintro ⟨a, c⟩
  have h1 := kyo_of k hk
  have h2 := kyo_of k' hk'
  rw [a, c, h2] at h1
  exact h h1.symm
theorem RS_kag (hD : st_D kt kb D) : ∀ k, k ≤ 135 → ∀ k', k' < 135 → (k' < k → kag (RS kt D k) D (kdk k') (ixk k')) ∧ (k ≤ k' → kag (RS kt D k) H0 (kdk k') (ixk k')) := by
  intro k
  induction k with
  | zero =>
    intro _ k' hk'
    obtain ⟨a1, a2, -⟩ := kdk_ok k' hk'
    exact ⟨fun q => by omega, fun _ => kag_refl a1 a2⟩
  | succ k ih =>
    intro hk k' hk'
    obtain ⟨a1, a2, -⟩ := kdk_ok k' hk'
    obtain ⟨c1, c2, -⟩ := kdk_ok k (by omega)
    have hI := ih (by omega)
    obtain ⟨d1, d2⟩ := hD.2.2 k (by omega)
    rw [RS_s]
    by_cases w : kt k = true
    · rw [if_pos w]
      by_cases y : k = k'
      · subst y
        exact ⟨fun _ => dec_self c1 c2 (d1 w).1, fun q => by omega⟩
      · have ho := dec_oth (H := RS kt D k) (G := D) c1 c2 (ixk_lt k (by omega)) a1 a2 (ixk_lt k' hk') (key_ne (by omega) hk' y)
        exact ⟨fun q => kag_trans a1 a2 ho ((hI k' hk').1 (by omega)), fun q => kag_trans a1 a2 ho ((hI k' hk').2 (by omega))⟩
    · rw [if_neg w]
      by_cases y : k = k'
      · subst y
        exact ⟨fun _ => kag_trans c1 c2 ((hI k hk').2 (Nat.le_refl _)) (d2 (by simpa using w)), fun q => by omega⟩
      · exact ⟨fun q => (hI k' hk').1 (by omega), fun q => (hI k' hk').2 (by omega)⟩
theorem RS_kal (hD : st_D kt kb D) : kal (RS kt D 135) D := kal_of (fun k hk => (RS_kag hD 135 (Nat.le_refl _) k hk).1 hk)
theorem dec_4 {H G : Kp} {kd ix : Nat} (h1 : 1 ≤ kd) (h2 : kd ≤ 15) (hix : ix < nky kd) : (dec H G kd ix).2.1 4 10 = H.2.1 4 10 := by
  have hcase : kd = 1 ∨ kd = 2 ∨ kd = 3 ∨ kd = 4 ∨ kd = 5 ∨ kd = 6 ∨ kd = 7 ∨ kd = 8 ∨ kd = 9 ∨ kd = 10 ∨ kd = 11 ∨ kd = 12 ∨ kd = 13 ∨ kd = 14 ∨ kd = 15 := by omega
  rcases hcase with w | w | w | w | w | w | w | w | w | w | w | w | w | w | w
  · subst w; rfl
  · subst w; rfl
  · subst w; rfl
  · subst w; rfl
  · subst w; rfl
  · subst w
    have e : dec H G 6 ix = if ix = 7 then (up H.1 5 (up (H.1 5) 0 (G.1 5 0)), H.2) else (up H.1 4 (rg (28 * ix) 28 (G.1 4) (H.1 4)), H.2) := rfl
    rw [e]
    split <;> rfl
  · subst w
    have e : dec H G 7 ix = if ix = 0 then (H.1, up H.2.1 1 (rg 0 11 (G.2.1 1) (H.2.1 1)), H.2.2) else (up H.1 6 (rg 0 11 (G.1 6) (H.1 6)), H.2) := rfl
    rw [e]
    split <;> rfl
  · subst w
    have l : ix < 10 := hix
    exact (show up (H.2.1 4) ix (G.2.1 4 ix) 10 = H.2.1 4 10 from up_o2 (by omega))
  · subst w; rfl
  · subst w; rfl
  · subst w; rfl
  · subst w; rfl
  · subst w; rfl
  · subst w; rfl
  · subst w; rfl
theorem RS_4 : ∀ k, k ≤ 135 → (RS kt D k).2.1 4 10 = 0 := by
  intro k
  induction k with
  | zero => intro _; rfl
  | succ k ih =>
    intro hk
    obtain ⟨c1, c2, -⟩ := kdk_ok k (by omega)
    rw [RS_s]
    split
    · rw [dec_4 c1 c2 (ixk_lt k (by omega))]; exact ih (by omega)
    · exact ih (by omega)
theorem NN_le (hD : st_D kt kb D) : ∀ k, k ≤ 135 → NN kt D k ≤ 2000000001 := by
  intro k
  induction k with
  | zero => intro _; exact Nat.zero_le _
  | succ k ih =>
    intro hk
    have hI := ih (by omega)
    rw [NN_s]
    by_cases w : kt k = true
    · rw [if_pos w]
      unfold nxn
      by_cases y : kdk k = 12 ∧ D.1 8 (ixk k) = 1
      · rw [if_pos y]
        obtain ⟨n, hn, en⟩ := ((hD.2.2 k (by omega)).1 w).2.1.2.2 y.1 y.2
        rw [en, nI_clamp (by omega)]
        exact Nat.max_le.mpr ⟨hI, by omega⟩
      · rw [if_neg y]; exact hI
    · rw [if_neg w]; exact hI
end Anw
