/-! PURE (50zc): both run over a number. -/
/-- the number that t digits tell, six at most -/
def nvd (tx : Nat → Nat) (p : Nat) : Nat → Nat
  | 0 => 0
  | t + 1 => if t < 6 then nvd tx p t * 10 + (tx (p + t) - 48) else nvd tx p t
theorem nvd_s (tx : Nat → Nat) (p t : Nat) : nvd tx p (t + 1) = if t < 6 then nvd tx p t * 10 + (tx (p + t) - 48) else nvd tx p t := rfl
theorem nvd_lt {tx : Nat → Nat} {p : Nat} : ∀ t, (∀ i, i < t → dg (tx (p + i)) = true) → nvd tx p t < 10 ^ (min t 6) := by
  intro t
  induction t with
  | zero => intro _; exact Nat.one_pos
  | succ t ih =>
    intro h
    have hI := ih (fun i hi => h i (by omega))
    have hd : 48 ≤ tx (p + t) ∧ tx (p + t) ≤ 57 := by simpa [dg] using h t (by omega)
    rw [nvd_s]
    by_cases w : t < 6
    · rw [if_pos w, show min (t + 1) 6 = t + 1 by omega, Nat.pow_succ]
      rw [show min t 6 = t by omega] at hI
      generalize 10 ^ t = z at *
      omega
    · rw [if_neg w, show min (t + 1) 6 = min t 6 by omega]; exact hI
theorem nvd_6 {tx : Nat → Nat} {p t : Nat} (h : ∀ i, i < t → dg (tx (p + i)) = true) : nvd tx p t < 1000000 := by
  have h1 := nvd_lt t h
  have h2 : 10 ^ (min t 6) ≤ 10 ^ 6 := Nat.pow_le_pow_right (by omega) (by omega)
  omega
/-- two fields of an object set -/
def row2 (N : mz_N) (o f g : Nat) (a c : Int32) : mz_N := mz_sI N o (fun j => if j = g then c else if j = f then a else N.1 o j)
section Nmb
variable {N : mz_N} {o n p : Nat} {tx : Nat → Nat}
theorem num_r (hn : n ≤ 196) (ht : rs_t N n tx) (htx : ∀ j, tx j < 128) (h51 : N.1 232 151 = nI p) (h48 : N.1 232 148 = nI p) (h53 : N.1 232 153 = 0) (hp : p ≤ n) (he : cp_440_253 (row2 N 232 153 151 (nI (nvd tx p (rl (fun i => dg (tx i)) n p))) (nI (p + rl (fun i => dg (tx i)) n p)))) : cp_440_169 N ∧ cf_440_169 N = cf_440_253 (row2 N 232 153 151 (nI (nvd tx p (rl (fun i => dg (tx i)) n p))) (nI (p + rl (fun i => dg (tx i)) n p))) := by
  obtain ⟨r1, r2, r3⟩ := rl_ok (P := fun i => dg (tx i)) hp
  obtain ⟨t1, t2⟩ := ht
  have g51 : ∀ a c, (row2 N 232 153 151 a c).1 232 151 = c := fun a c => by unfold row2; rw [sI_e]; rfl
  have g53 : ∀ a c, (row2 N 232 153 151 a c).1 232 153 = a := fun a c => by unfold row2; rw [sI_e]; rfl
  have g47 : ∀ a c, (row2 N 232 153 151 a c).1 232 147 = nI n := fun a c => by unfold row2; rw [sI_e]; exact t1
  have g48 : ∀ a c, (row2 N 232 153 151 a c).1 232 148 = nI p := fun a c => by unfold row2; rw [sI_e]; exact h48
  have gt : ∀ a c j, j < n → mz_gI (row2 N 232 153 151 a c) 338 (nI j) = nI (tx j) := fun a c j hj => by
    unfold row2; rw [gI_a, sI_n (by decide), nI_clamp (by omega)]; exact t2 j hj
  have epp : ∀ a c x y, mz_pI (mz_pI (row2 N 232 153 151 a c) 232 153 x) 232 151 y = row2 N 232 153 151 x y := fun a c x y => by
    unfold row2
    rw [pI_s, pI_s, sI_e, sI_sI, sI_e, sI_sI]
    congr 1
    funext j
    rw [up_a, up_a]
    by_cases w : j = 151
    · rw [if_pos w, if_pos w]
    · by_cases w2 : j = 153
      · simp only [w, w2, if_true, if_false]
      · simp only [w, w2, if_false]
  have gp : ∀ a c x, (mz_pI (row2 N 232 153 151 a c) 232 153 x).1 232 151 = c := fun a c x => by
    rw [pI_s, sI_e, up_a, if_neg (by decide)]; exact g51 a c
  generalize hk : rl (fun i => dg (tx i)) n p = k at *
  refine mz_lpn (f := cq_440_169) (P := cd_440_169) (Q := fun t => t = cf_440_253 (row2 N 232 153 151 (nI (nvd tx p k)) (nI (p + k)))) k (fun t s => s = row2 N 232 153 151 (nI (nvd tx p t)) (nI (p + t))) ?_ ?_ (Nat.zero_le _) ?_
  · rintro t s ht rfl
    have hlt : nI (p + t) < nI n := (nI_ltI (by omega) (by omega)).mpr (by omega)
    have hs := r2 t ht
    have hd : 48 ≤ tx (p + t) ∧ tx (p + t) ≤ 57 := by simpa [dg] using hs
    obtain ⟨-, c2, -, -, -⟩ := ch_ok (tx (p + t)) (htx _)
    have i1 : mz_ib (nI (p + t)) 196 := ib_n (by omega) (by omega)
    have hv := nvd_6 (tx := tx) (p := p) (t := t) (fun i hi => r2 i (by omega))
    have esub : nI (p + t) - nI p = nI t := by rw [pk_sub (by omega), Nat.add_sub_cancel_left]
    have ev : 10 * nI (nvd tx p t) + nI (tx (p + t)) - 48 = nI (nvd tx p t * 10 + (tx (p + t) - 48)) := by
      rw [show (10 : Int32) = nI 10 from rfl, show (48 : Int32) = nI 48 from rfl, pk_mul, nI_add, pk_sub (by omega)]
      congr 1
      omega
    rw [cd_440_169, cq_440_169]
    simp only [g51, g53, g47, g48, gt _ _ (p + t) (by omega), hlt, if_true, c2, hs, esub, ev, cp_440_237, cf_440_237, gp, epp, nI_1]
    by_cases w : t < 6
    · have w' : nI t < 6 := (nI_ltI (b := 6) (by omega) (by omega)).mpr w
      rw [if_pos w']
      refine ⟨by simp [i1], Or.inl ⟨_, rfl, ?_⟩⟩
      rw [nvd_s, if_pos w, Nat.add_assoc]
    · have w' : ¬ nI t < 6 := fun q => w ((nI_ltI (b := 6) (by omega) (by omega)).mp q)
      rw [if_neg w']
      refine ⟨by simp [i1], Or.inl ⟨_, rfl, ?_⟩⟩
      rw [nvd_s, if_neg w, Nat.add_assoc]
  · rintro s rfl
    rw [cd_440_169, cq_440_169]
    simp only [g51, g47]
    by_cases w : p + k < n
    · have hlt : nI (p + k) < nI n := (nI_ltI (by omega) (by omega)).mpr w
      have hs := r3 w
      obtain ⟨-, c2, -, -, -⟩ := ch_ok (tx (p + k)) (htx _)
      have i1 : mz_ib (nI (p + k)) 196 := ib_n (by omega) (by omega)
      simp only [gt _ _ (p + k) w, hlt, if_true, c2]
      rw [show dg (tx (p + k)) = false from hs]
      simp [i1, he]
    · have hlt : ¬ nI (p + k) < nI n := fun q => w ((nI_ltI (by omega) (by omega)).mp q)
      simp only [hlt, if_false]
      simp [he]
  · unfold row2
    rw [show (fun j => if j = 151 then nI (p + 0) else if j = 153 then nI (nvd tx p 0) else N.1 232 j) = N.1 232 from funext fun j => ?_, sI_same]
    by_cases w : j = 151
    · rw [if_pos w, w, h51, Nat.add_zero]
    · rw [if_neg w]
      by_cases w2 : j = 153
      · rw [if_pos w2, w2, h53]; rfl
      · rw [if_neg w2]
end Nmb
