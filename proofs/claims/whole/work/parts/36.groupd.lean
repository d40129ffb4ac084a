/-! PURE (36): what a group leaves of the store's invariants. -/
section Gdi
variable {d : Nat → Nat → Nat} {a gn us gc B : Nat} {kt : Nat → Bool} {kb x : Nat → Nat → Nat} {gk : Nat → Nat} {z : Int32}
theorem ag_dkw {n kd ix g : Nat} {la full : Bool} {pay : Nat → Nat} (hkd : kd < 256) (hix : ix < 256) (hp : ∀ i, pay i < 256) (hn : n < 200) (hg : g < 2 ^ 32) (hgB : g ≤ B) (h : ∀ a n, a < 2 → n < 200 → ag d a n ≤ B) : ∀ a' n', a' < 2 → n' < 200 → ag (dkw d a n (rw0 kd ix la n (lN g) pay) full) a' n' ≤ B := by
  intro a' n' ha' hn'
  by_cases w : a' = a ∧ n' = n
  · obtain ⟨rfl, rfl⟩ := w
    cases full
    · rw [(row_f hg).2.1]; exact hgB
    · rw [(row_t hkd hix hp hn hg).2.1]; exact hgB
  · rw [rsm_ag (dkw_rsm (by omega))]; exact h a' n' ha' hn'
theorem sn_ag {to g : Nat} (hg : g < 2 ^ 32) (hgB : g ≤ B) (hkb : ∀ k i, kb k i < 256) (h : ∀ a n, a < 2 → n < 200 → ag d a n ≤ B) : ∀ k, k ≤ 135 → ∀ a' n', a' < 2 → n' < 200 → ag (sn_k kt kb to (lN g) d z k).1 a' n' ≤ B := by
  intro k
  induction k with
  | zero => intro _; exact h
  | succ k ih =>
    intro hk
    have e : sn_k kt kb to (lN g) d z (k + 1) = sn_1 kt kb to (cnt kt 135) (lN g) k (sn_k kt kb to (lN g) d z k) := rfl
    have hr := sn_row (kt := kt) (kb := kb) (to := to) (g := lN g) (d := d) (z := z) (k := k)
    have hc := cnt_le kt k
    have hi := ih (by omega)
    rw [e]
    generalize sn_k kt kb to (lN g) d z k = s at *
    generalize cnt kt 135 = m
    unfold sn_1
    by_cases w : s.2.2.2 = true ∧ kt k = true
    · rw [if_pos w]
      have hs := hr w.1
      obtain ⟨k1, k2, k3, k4, k5, -⟩ := kdk_ok k (by omega)
      exact ag_dkw (by omega) (by omega) (hkb k) (by omega) hg hgB hi
    · rw [if_neg w]; exact hi
theorem sn_agh {to g : Nat} (hg : g < 2 ^ 32) (hgB : g ≤ B) (hkb : ∀ k i, kb k i < 256) (h : ∀ a n, a < 2 → n < 200 → ag d a n ≤ B) : ∀ a' n', a' < 2 → n' < 200 → ag (sn kt kb to (lN g) d z).1 a' n' ≤ B := by
  have hi := sn_ag (kt := kt) (kb := kb) (z := z) (to := to) hg hgB hkb h 135 (Nat.le_refl _)
  unfold sn
  generalize cnt kt 135 = m at *
  generalize sn_k kt kb to (lN g) d z 135 = s at *
  unfold sn_h
  by_cases w : s.2.2.2 = true
  · rw [if_pos w]; exact ag_dkw (by omega) (by omega) (hdp_lt _) (by omega) hg hgB hi
  · rw [if_neg w]; exact hi
theorem sn_lth {to : Nat} {g : Int64} (hd : ∀ a j, d a j < 256) (hb : ∀ k i, kb k i < 256) : ∀ a j, (sn kt kb to g d z).1 a j < 256 := by
  have hi := sn_lt (kt := kt) (kb := kb) (z := z) (to := to) (g := g) hd hb (Nat.le_refl 135)
  unfold sn
  generalize cnt kt 135 = m at *
  generalize sn_k kt kb to g d z 135 = s at *
  unfold sn_h
  by_cases w : s.2.2.2 = true
  · rw [if_pos w]; exact dkw_lt hi (rw0_lt2 (by omega) (by omega) (hdp_lt _))
  · rw [if_neg w]; exact hi
theorem sn_fush {to : Nat} {g : Int64} (hz : fus z) : fus (sn kt kb to g d z).2.1 := by
  have hi := sn_fus (kt := kt) (kb := kb) (d := d) (to := to) (g := g) hz (k := 135)
  unfold sn
  generalize cnt kt 135 = m at *
  generalize sn_k kt kb to g d z 135 = s at *
  unfold sn_h
  by_cases w : s.2.2.2 = true
  · rw [if_pos w]
    by_cases h0 : s.2.1 = 0
    · simp only [h0]; exact Or.inr ⟨0, by omega, rfl⟩
    · exact fus_1 hi h0
  · rw [if_neg w]; exact hi
theorem ap_ag {g : Nat} (hus : us + gc ≤ 200) (hg : g < 2 ^ 32) (hgB : g ≤ B) (hgk : ∀ i, i < gc → gk i < 135) (hx : ∀ k j, x k j < 256) (h : ∀ a n, a < 2 → n < 200 → ag d a n ≤ B) : ∀ i, i ≤ gc → ∀ a' n', a' < 2 → n' < 200 → ag (ap gk gc x a us (lN g) d z i).1 a' n' ≤ B := by
  intro i
  induction i with
  | zero => intro _; exact h
  | succ i ih =>
    intro hi
    have h2 := ih (by omega)
    rw [ap_s]
    generalize ap gk gc x a us (lN g) d z i = s at *
    unfold ap_1
    by_cases w : s.2.2 = true
    · rw [if_pos w]
      obtain ⟨k1, k2, k3, k4, k5, -⟩ := kdk_ok (gk i) (hgk i (by omega))
      exact ag_dkw (by omega) (by omega) (hx _) (by omega) hg hgB h2
    · rw [if_neg w]; exact h2
theorem gkb_lt (hx : ∀ k j, x k j < 256) (hkb : ∀ k i, kb k i < 256) : ∀ n k i, gkb gk x kb n k i < 256 := by
  intro n
  induction n with
  | zero => exact hkb
  | succ n ih =>
    intro k i
    rw [gkb, up_d]
    split
    · exact hx _ _
    · exact ih k i
/-- a store whose disk tells its keys -/
def st_I (B : Nat) (s : st_S) : Prop := st_ok B s ∧ DI s.1 s.2.2.1 s.2.2.2.1 s.2.2.2.2.1 s.2.2.2.2.2.1 s.2.2.2.2.2.2
/-- a disk that tells keys -/
def dk_I (B : Nat) (d : Nat → Nat → Nat) (kt : Nat → Bool) (kb : Nat → Nat → Nat) : Prop := (∀ a j, d a j < 256) ∧ (∀ a n, a < 2 → n < 200 → ag d a n ≤ B) ∧ (∀ k i, kb k i < 256) ∧ ∃ a gn us, gn ≤ B ∧ DI d a gn us kt kb
theorem wg1_I {s : st_S} (hs : st_I B s) (hB : B < 2 ^ 31) (hus : s.2.2.2.2.1 + gc ≤ 200) (hg : ∀ i, i < gc → gk i < 135) (hx : ∀ k j, x k j < 256) :
    ((wg1 gk gc x s).1 = true → st_I B (wg1 gk gc x s).2) ∧ ((wg1 gk gc x s).1 = false → dk_I B (wg1 gk gc x s).2.1 s.2.2.2.2.2.1 s.2.2.2.2.2.2) := by
  obtain ⟨d, z, a, gn, us, kt, kb⟩ := s
  obtain ⟨⟨o1, o2, o3, o4, o5, o6, o7⟩, hD⟩ := hs
  simp only at o1 o2 o3 o4 o5 o6 o7 hD hus
  have h1 := ap_DI (x := x) (gk := gk) (z := z) hD (by omega) hus hg hx
  have h2 := ap_lt (gk := gk) (gc := gc) (x := x) (a := a) (us := us) (g := lN gn) (z := z) o1 hg hx (Nat.le_refl gc)
  have h3 := ap_fus (gk := gk) (gc := gc) (x := x) (a := a) (us := us) (g := lN gn) (d := d) (i := gc) o2
  have h4 := ap_ag (x := x) (gk := gk) (z := z) (a := a) hus (show gn < 2 ^ 32 by omega) o4 hg hx o5 gc (Nat.le_refl _)
  unfold wg1
  simp only
  generalize ap gk gc x a us (lN gn) d z gc = S at *
  exact ⟨fun w => ⟨⟨h2, h3, o3, o4, h4, hus, gkb_lt hx o7 gc⟩, h1.1 w⟩, fun w => ⟨h2, h4, o7, a, gn, us, o4, h1.2 w⟩⟩
theorem wgr_I {s : st_S} (hs : st_I B s) (hB : B + 1 < 2 ^ 31) (hgc : gc ≤ 16) (hg : ∀ i, i < gc → gk i < 135) (hx : ∀ k j, x k j < 256) :
    ((wgr gk gc x s).1 = true → st_I (B + 1) (wgr gk gc x s).2 ∧ (wgr gk gc x s).2.2.2.2.2.2.1 = gkt gk s.2.2.2.2.2.1 gc ∧ (wgr gk gc x s).2.2.2.2.2.2.2 = gkb gk x s.2.2.2.2.2.2 gc) ∧ ((wgr gk gc x s).1 = false → dk_I (B + 1) (wgr gk gc x s).2.1 s.2.2.2.2.2.1 s.2.2.2.2.2.2) := by
  obtain ⟨d, z, a, gn, us, kt, kb⟩ := s
  have hs2 := hs
  obtain ⟨⟨o1, o2, o3, o4, o5, o6, o7⟩, hD⟩ := hs
  simp only at o1 o2 o3 o4 o5 o6 o7 hD
  have up1 : ∀ a n, a < 2 → n < 200 → ag d a n ≤ B + 1 := fun a n h1 h2 => Nat.le_succ_of_le (o5 a n h1 h2)
  unfold wgr
  by_cases hroom : 200 < us + gc
  · have hnx : nxg d (1 - a) gn ≤ B + 1 := by
      have q1 := o5 (1 - a) 0 (by omega) (by omega)
      have q2 := o5 (1 - a) 1 (by omega) (by omega)
      have q3 : max (ag d (1 - a) 0) (ag d (1 - a) 1) ≤ B := Nat.max_le.mpr ⟨q1, q2⟩
      have q4 : max gn (max (ag d (1 - a) 0) (ag d (1 - a) 1)) ≤ B := Nat.max_le.mpr ⟨o4, q3⟩
      unfold nxg
      omega
    have h1 := sn_DI (z := z) hD (by omega) o7
    have h2 := sn_lth (kt := kt) (kb := kb) (z := z) (to := 1 - a) (g := lN (nxg d (1 - a) gn)) o1 o7
    have h3 := sn_fush (kt := kt) (kb := kb) (d := d) (to := 1 - a) (g := lN (nxg d (1 - a) gn)) o2
    have h4 := sn_agh (kt := kt) (kb := kb) (z := z) (to := 1 - a) (show nxg d (1 - a) gn < 2 ^ 32 by omega) hnx o7 up1
    have hw0 : wg0 gc (d, z, a, gn, us, kt, kb) = ((sn kt kb (1 - a) (lN (nxg d (1 - a) gn)) d z).2.2.2, (sn kt kb (1 - a) (lN (nxg d (1 - a) gn)) d z).1, (sn kt kb (1 - a) (lN (nxg d (1 - a) gn)) d z).2.1, 1 - a, nxg d (1 - a) gn, cnt kt 135 + 1, kt, kb) := by simp only [wg0, hroom, if_true]
    have c135 := cpk135 kt
    rw [hw0]
    generalize nxg d (1 - a) gn = gg at *
    generalize sn kt kb (1 - a) (lN gg) d z = S at *
    generalize cnt kt 135 = cc at *
    cases hok : S.2.2.2 with
    | true =>
      rw [if_pos rfl]
      have hI : st_I (B + 1) (S.1, S.2.1, 1 - a, gg, cc + 1, kt, kb) := ⟨⟨h2, h3, by simp only; omega, hnx, h4, by simp only; omega, o7⟩, h1.1 hok⟩
      obtain ⟨y1, y2⟩ := wg1_I (gk := gk) (gc := gc) (x := x) hI hB (by simp only; omega) hg hx
      exact ⟨fun w => ⟨y1 w, rfl, rfl⟩, y2⟩
    | false =>
      rw [if_neg Bool.false_ne_true]
      refine ⟨(fun w => by cases w), fun _ => ⟨h2, h4, o7, a, gn, us, by omega, h1.2 hok⟩⟩
  · have hw0 : wg0 gc (d, z, a, gn, us, kt, kb) = (true, d, z, a, gn, us, kt, kb) := by simp only [wg0, hroom, if_false]
    rw [hw0, if_pos rfl]
    have hI : st_I (B + 1) (d, z, a, gn, us, kt, kb) := ⟨⟨o1, o2, o3, Nat.le_succ_of_le o4, up1, o6, o7⟩, hD⟩
    obtain ⟨y1, y2⟩ := wg1_I (gk := gk) (gc := gc) (x := x) hI hB (by simp only; omega) hg hx
    exact ⟨fun w => ⟨y1 w, rfl, rfl⟩, y2⟩
end Gdi
