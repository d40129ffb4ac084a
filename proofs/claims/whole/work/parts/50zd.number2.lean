/-! PURE (50zd): the class runs over a number. -/
section Nmc
variable {N : mz_N} {o n p : Nat} {tx : Nat → Nat}
theorem num_c (hn : n ≤ 196) (ht : rd_t N o n tx) (htx : ∀ j, tx j < 128) (h8 : N.1 o 8 = nI p) (h9 : N.1 o 9 = nI p) (h11 : N.1 o 11 = 0) (hp : p ≤ n) : cp_26_10 o N ∧ cf_26_10 o N = cf_26_87 o (row2 N o 11 8 (nI (nvd tx p (rl (fun i => dg (tx i)) n p))) (nI (p + rl (fun i => dg (tx i)) n p))) := by
  obtain ⟨r1, r2, r3⟩ := rl_ok (P := fun i => dg (tx i)) hp
  obtain ⟨t1, t2⟩ := ht
  have g8 : ∀ a c, (row2 N o 11 8 a c).1 o 8 = c := fun a c => by unfold row2; rw [sI_e]; rfl
  have g11 : ∀ a c, (row2 N o 11 8 a c).1 o 11 = a := fun a c => by unfold row2; rw [sI_e]; rfl
  have g1 : ∀ a c, (row2 N o 11 8 a c).1 o 1 = nI n := fun a c => by unfold row2; rw [sI_e]; exact t1
  have g9 : ∀ a c, (row2 N o 11 8 a c).1 o 9 = nI p := fun a c => by unfold row2; rw [sI_e]; exact h9
  have gt : ∀ a c j, j < n → mz_gI (row2 N o 11 8 a c) (o + 1) (nI j) = nI (tx j) := fun a c j hj => by
    unfold row2; rw [gI_a, sI_n (by omega), nI_clamp (by omega)]; exact t2 j hj
  have epp : ∀ a c x y, mz_pI (mz_pI (row2 N o 11 8 a c) o 11 x) o 8 y = row2 N o 11 8 x y := fun a c x y => by
    unfold row2
    rw [pI_s, pI_s, sI_e, sI_sI, sI_e, sI_sI]
    congr 1
    funext j
    rw [up_a, up_a]
    by_cases w : j = 8
    · rw [if_pos w, if_pos w]
    · by_cases w2 : j = 11
      · simp only [w, w2, if_true, if_false]
      · simp only [w, w2, if_false]
  have ep8 : ∀ a c y, mz_pI (row2 N o 11 8 a c) o 8 y = row2 N o 11 8 a y := fun a c y => by
    unfold row2
    rw [pI_s, sI_e, sI_sI]
    congr 1
    funext j
    rw [up_a]
    by_cases w : j = 8
    · rw [if_pos w, if_pos w]
    · simp only [w, if_false]
  have gp : ∀ a c x, (mz_pI (row2 N o 11 8 a c) o 11 x).1 o 8 = c := fun a c x => by
    rw [pI_s, sI_e, up_a, if_neg (by decide)]; exact g8 a c
  generalize hk : rl (fun i => dg (tx i)) n p = k at *
  refine mz_lpn (f := cq_26_10 o) (P := cd_26_10 o) (Q := fun t => t = cf_26_87 o (row2 N o 11 8 (nI (nvd tx p k)) (nI (p + k)))) k (fun t s => s = row2 N o 11 8 (nI (nvd tx p t)) (nI (p + t))) ?_ ?_ (Nat.zero_le _) ?_
  · rintro t s ht rfl
    have hlt : nI (p + t) < nI n := (nI_ltI (by omega) (by omega)).mpr (by omega)
    have hs := r2 t ht
    have hd : 48 ≤ tx (p + t) ∧ tx (p + t) ≤ 57 := by simpa [dg] using hs
    obtain ⟨c1, -, -, -, -⟩ := ch_ok (tx (p + t)) (htx _)
    have i1 : mz_ib (nI (p + t)) 196 := ib_n (by omega) (by omega)
    have hv := nvd_6 (tx := tx) (p := p) (t := t) (fun i hi => r2 i (by omega))
    have esub : nI (p + t) - nI p = nI t := by rw [pk_sub (by omega), Nat.add_sub_cancel_left]
    have ev : nI (nvd tx p t) * 10 + nI (tx (p + t)) - 48 = nI (nvd tx p t * 10 + (tx (p + t) - 48)) := by
      rw [show (10 : Int32) = nI 10 from rfl, show (48 : Int32) = nI 48 from rfl, pk_mul, nI_add, pk_sub (by omega)]
      congr 1
      omega
    rw [cd_26_10, cq_26_10]
    simp only [g8, g11, g1, g9, gt _ _ (p + t) (by omega), hlt, if_true, c1, hs, esub, ev, cp_26_74, cf_26_74, gp, epp, ep8, nI_1]
    by_cases w : t < 6
    · have w' : nI t < 6 := (nI_ltI (b := 6) (by omega) (by omega)).mpr w
      rw [if_pos w']
      refine ⟨by simp [i1], Or.inl ⟨_, rfl, ?_⟩⟩
      rw [nvd_s, if_pos w, Nat.add_assoc]
    · have w' : ¬ nI t < 6 := fun q => w ((nI_ltI (b := 6) (by omega) (by omega)).mp q)
      rw [if_neg w']
      refine ⟨by simp [i1], Or.inl ⟨_, rfl, ?_⟩⟩
      rw [nvd_s, if_neg w, Nat.add_assoc]
  · rintro s rfl
    rw [cd_26_10, cq_26_10]
    simp only [g8, g1]
    by_cases w : p + k < n
    · have hlt : nI (p + k) < nI n := (nI_ltI (by omega) (by omega)).mpr w
      have hs := r3 w
      obtain ⟨c1, -, -, -, -⟩ := ch_ok (tx (p + k)) (htx _)
      have i1 : mz_ib (nI (p + k)) 196 := ib_n (by omega) (by omega)
      simp only [gt _ _ (p + k) w, hlt, if_true, c1]
      rw [show dg (tx (p + k)) = false from hs]
      simp [i1, cp_26_87]
    · have hlt : ¬ nI (p + k) < nI n := fun q => w ((nI_ltI (by omega) (by omega)).mp q)
      simp only [hlt, if_false]
      simp [cp_26_87]
  · unfold row2
    rw [show (fun j => if j = 8 then nI (p + 0) else if j = 11 then nI (nvd tx p 0) else N.1 o j) = N.1 o from funext fun j => ?_, sI_same]
    by_cases w : j = 8
    · rw [if_pos w, w, h8, Nat.add_zero]
    · rw [if_neg w]
      by_cases w2 : j = 11
      · rw [if_pos w2, w2, h11]; rfl
      · rw [if_neg w2]
end Nmc
