/-! PURE (50r): the next number of a ticket. -/
def MX (D : Kp) (n : Nat) : Nat := it (fun j m => if D.1 8 j = 1 then max m ((D.2.1 11 j).toNatClampNeg + 1) else m) n 0
section Nxt
variable {kt : Nat → Bool} {kb : Nat → Nat → Nat} {D : Kp}
theorem MX_s (n : Nat) : MX D (n + 1) = if D.1 8 n = 1 then max (MX D n) ((D.2.1 11 n).toNatClampNeg + 1) else MX D n := rfl
theorem key12 : ∀ k, k < 135 → (kdk k = 12 ↔ 51 ≤ k ∧ k < 67) ∧ (51 ≤ k → k < 67 → ixk k = k - 51) := by decide +kernel
theorem NN_MX (hD : st_D kt kb D) : ∀ k, k ≤ 135 → NN kt D k = MX D (min (k - 51) 16) := by
  intro k
  induction k with
  | zero => intro _; rfl
  | succ k ih =>
    intro hk
    have hI := ih (by omega)
    obtain ⟨a1, a2⟩ := key12 k (by omega)
    obtain ⟨d1, d2⟩ := hD.2.2 k (by omega)
    rw [NN_s]
    by_cases w : 51 ≤ k ∧ k < 67
    · have e1 := a1.mpr w
      have e2 := a2 w.1 w.2
      rw [show min (k + 1 - 51) 16 = (k - 51) + 1 by omega, MX_s]
      rw [show min (k - 51) 16 = k - 51 by omega] at hI
      by_cases y : kt k = true
      · rw [if_pos y, hI]
        unfold nxn
        rw [e2]
        by_cases z : D.1 8 (k - 51) = 1
        · rw [if_pos ⟨e1, z⟩, if_pos z]
        · rw [if_neg (fun q => z q.2), if_neg z]
      · rw [if_neg y, hI]
        have hag := d2 (by simpa using y)
        rw [e1, e2] at hag
        have z : D.1 8 (k - 51) = 0 := hag.1.symm
        rw [if_neg (by omega)]
    · have hmin : min (k + 1 - 51) 16 = min (k - 51) 16 := by omega
      rw [hmin, ← hI]
      by_cases y : kt k = true
      · rw [if_pos y]
        unfold nxn
        rw [if_neg (fun q => w (a1.mp q.1))]
      · rw [if_neg y]
/-- tickets have numbers -/
def tkn (D : Kp) : Prop := ∀ j, j < 16 → D.1 8 j = 1 → ∃ n, n ≤ 2000000000 ∧ D.2.1 11 j = nI n
theorem st_tkn (hD : st_D kt kb D) : tkn D := by
  intro j hj h1
  obtain ⟨a1, a2⟩ := key12 (51 + j) (by omega)
  obtain ⟨d1, d2⟩ := hD.2.2 (51 + j) (by omega)
  have e1 := a1.mpr (by omega)
  have e2 := a2 (by omega) (by omega)
  rw [Nat.add_sub_cancel_left] at e2
  rw [e1, e2] at d1 d2
  cases y : kt (51 + j) with
  | true => exact (d1 y).2.1.2.2 rfl h1
  | false =>
    have := (d2 y).1
    rw [h1] at this
    cases this
theorem MX_le (h : tkn D) : ∀ n, n ≤ 16 → MX D n ≤ 2000000001 := by
  intro n
  induction n with
  | zero => intro _; exact Nat.zero_le _
  | succ n ih =>
    intro hn
    rw [MX_s]
    by_cases w : D.1 8 n = 1
    · obtain ⟨m, hm, em⟩ := h n (by omega) w
      rw [if_pos w, em, nI_clamp (by omega)]
      exact Nat.max_le.mpr ⟨ih (by omega), by omega⟩
    · rw [if_neg w]; exact ih (by omega)
theorem nx_r {X : mz_N} (hb : ∀ j, D.1 8 j ≤ 1) (ht : tkn D) (h : ∀ j, j < 16 → X.1 287 j = nI (D.1 8 j) ∧ (D.1 8 j = 1 → X.2 292 j = (D.2.1 11 j).toInt64)) : cp_414_98 0 (mz_pL X 232 87 0) ∧ cf_414_98 0 (mz_pL X 232 87 0) = mz_pL X 232 87 (lN (MX D 16)) := by
  refine mz_lpn (f := cq_414_98) (P := cd_414_98) (Q := fun t => t = mz_pL X 232 87 (lN (MX D 16))) 16 (fun t s => s = (nI t, mz_pL X 232 87 (lN (MX D t)))) ?_ ?_ (Nat.zero_le _) rfl
  · rintro t s ht2 rfl
    obtain ⟨h1, h2⟩ := h t ht2
    have hlt : nI t < 16 := (nI_ltI (b := 16) (by omega) (by omega)).mpr ht2
    have i1 : mz_ib (nI t) 16 := ib_n ht2 (by omega)
    have hbt := hb t
    have g1 : mz_gI (mz_pL X 232 87 (lN (MX D t))) 287 (nI t) = nI (D.1 8 t) := by rw [gI_a, nI_clamp (by omega)]; exact h1
    have gz : mz_gZ (mz_pL X 232 87 (lN (MX D t))) 287 (nI t) = decide (D.1 8 t = 1) := by
      unfold mz_gZ
      rw [nI_clamp (by omega), show (mz_pL X 232 87 (lN (MX D t))).1 287 t = nI (D.1 8 t) from h1, decide_eq_decide, show (1 : Int32) = nI 1 from rfl, nI_eq (by omega) (by omega)]
    have g87 : (mz_pL X 232 87 (lN (MX D t))).2 232 87 = lN (MX D t) := by rw [pL_s, sL_e, upL_a, if_pos rfl]
    have zz : mz_z01 (nI (D.1 8 t)) := z01_n hbt
    have epp : ∀ a c, mz_pL (mz_pL X 232 87 a) 232 87 c = mz_pL X 232 87 c := fun a c => by
      rw [pL_s, pL_s, sL_e, sL_sL, pL_s]
      congr 1
      funext j
      rw [upL_a, upL_a, upL_a]
      split <;> rfl
    have hmx := MX_le ht t (by omega)
    have hms := MX_s (D := D) t
    rw [cd_414_98, cq_414_98]
    simp only [hlt, if_true, g1, gz, g87, cp_414_139, cf_414_139, cp_414_143, cf_414_143, nI_1]
    by_cases w : D.1 8 t = 1
    · have wd : decide (D.1 8 t = 1) = true := decide_eq_true w
      obtain ⟨n, hn, en⟩ := ht t ht2 w
      have g92 : mz_gL (mz_pL X 232 87 (lN (MX D t))) 292 (nI t) = lN n := by
        rw [gL_a, nI_clamp (by omega), show (mz_pL X 232 87 (lN (MX D t))).2 292 t = (D.2.1 11 t).toInt64 from h2 w, en]
        exact nI_l (by omega)
      rw [wd, if_pos rfl, g92]
      rw [if_pos w, en, nI_clamp (by omega)] at hms
      by_cases y : n < MX D t
      · have y' : lN n < lN (MX D t) := (lN_lt64 (by omega) (by omega)).mpr y
        rw [if_pos y', epp]
        refine ⟨⟨fun _ => ⟨i1, zz, fun _ => ⟨i1, fun _ => trivial, fun q => absurd y' q⟩, fun q => absurd rfl q⟩, fun q => absurd trivial q⟩, Or.inl ⟨_, rfl, ?_⟩⟩
        rw [hms, Nat.max_eq_left (by omega)]
      · have y' : ¬ lN n < lN (MX D t) := fun q => y ((lN_lt64 (by omega) (by omega)).mp q)
        have e1 : lN n + 1 = lN (n + 1) := by rw [show (1 : Int64) = lN 1 from rfl, lN_add]
        rw [if_neg y', epp, e1]
        refine ⟨⟨fun _ => ⟨i1, zz, fun _ => ⟨i1, fun q => absurd q y', fun _ => ⟨i1, trivial⟩⟩, fun q => absurd rfl q⟩, fun q => absurd trivial q⟩, Or.inl ⟨_, rfl, ?_⟩⟩
        rw [hms, Nat.max_eq_right (by omega)]
    · have wd : decide (D.1 8 t = 1) = false := decide_eq_false w
      rw [if_neg w] at hms
      rw [wd, if_neg Bool.false_ne_true, epp]
      refine ⟨⟨fun _ => ⟨i1, zz, fun q => absurd q Bool.false_ne_true, fun _ => trivial⟩, fun q => absurd trivial q⟩, Or.inl ⟨_, rfl, ?_⟩⟩
      rw [hms]
  · rintro s rfl
    have hlt : ¬ nI 16 < 16 := by decide
    rw [cd_414_98, cq_414_98]
    simp only [hlt, if_false]
    exact ⟨⟨False.elim, fun _ => trivial⟩, _, rfl, rfl⟩
end Nxt
