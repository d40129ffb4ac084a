/-! PURE (50zf): names: the reference. -/
section Nmr
variable {N : mz_N} {n p q : Nat} {tx : Nat → Nat}
theorem ch_r2 : ∀ c, c < 128 → ∀ d, d < 10 → (if nI c = 115 then nI d else if nI c = 119 then 16 + nI d else if nI c = 99 then 26 + nI d else if nI c = 100 then 36 + nI d else -1) = nO 53 (nm2 c d) := by decide +kernel
theorem name_r (hn : n ≤ 196) (ht : rs_t N n tx) (htx : ∀ j, tx j < 128) (h51 : N.1 232 151 = nI q) (h50 : N.1 232 150 = nI p) (hpq : p < q) (hq : q ≤ n) : cp_446_0 N ∧ cf_446_0 N = nO 53 (wnm tx p q) := by
  obtain ⟨t1, t2⟩ := ht
  have gt : ∀ j, j < n → mz_gI N 338 (nI j) = nI (tx j) := fun j hj => by
    rw [gI_a, nI_clamp (by omega)]; exact t2 j hj
  have esub : nI q - nI p = nI (q - p) := by rw [pk_sub (by omega)]
  have i1 : mz_ib (nI p) 196 := ib_n (by omega) (by omega)
  rw [cp_446_0, cf_446_0]
  simp only [h51, h50, esub, nI_1, gt p (by omega), cp_446_108]
  unfold wnm
  by_cases w2 : q - p = 2
  · have e2 : nI (q - p) = 2 := by rw [w2]; rfl
    have i2 : mz_ib (nI (p + 1)) 196 := ib_n (by omega) (by omega)
    obtain ⟨-, c2, -⟩ := ch_ok (tx (p + 1)) (htx _)
    rw [if_pos e2, gt (p + 1) (by omega), c2, if_neg (show ¬ q - p = 1 by omega)]
    by_cases w3 : dg (tx (p + 1)) = true
    · have hd : 48 ≤ tx (p + 1) ∧ tx (p + 1) ≤ 57 := by simpa [dg] using w3
      have es : nI (tx (p + 1)) - 48 = nI (tx (p + 1) - 48) := by rw [show (48 : Int32) = nI 48 from rfl, pk_sub (by omega)]
      rw [if_pos w3, es, ch_r2 (tx p) (htx p) (tx (p + 1) - 48) (by omega), if_pos (show q - p = 2 ∧ dg (tx (p + 1)) = true from ⟨w2, w3⟩)]
      exact ⟨⟨i1, fun _ => ⟨i2, fun _ => i2, fun _ => trivial⟩, fun z => absurd e2 z⟩, rfl⟩
    · have n1 : ¬ nI (q - p) = 1 := fun z => by have := (nI_eq (b := 1) (by omega) (by omega)).mp z; omega
      rw [if_neg w3, if_neg (fun z => w3 z.2), cf_446_108, if_neg n1]
      exact ⟨⟨i1, fun _ => ⟨i2, fun z => absurd z w3, fun _ => trivial⟩, fun z => absurd e2 z⟩, rfl⟩
  · have e2 : ¬ nI (q - p) = 2 := fun z => w2 ((nI_eq (b := 2) (by omega) (by omega)).mp z)
    rw [if_neg e2]
    by_cases w1 : q - p = 1
    · have e1 : nI (q - p) = 1 := by rw [w1]; rfl
      rw [if_pos w1, e1, ch_r1 _ (htx p)]
      exact ⟨⟨i1, fun z => absurd z (by decide), fun _ => trivial⟩, rfl⟩
    · have n1 : ¬ nI (q - p) = 1 := fun z => w1 ((nI_eq (b := 1) (by omega) (by omega)).mp z)
      rw [if_neg w1, if_neg (fun z => w2 z.1), cf_446_108, if_neg n1]
      exact ⟨⟨i1, fun z => absurd z e2, fun _ => trivial⟩, rfl⟩
end Nmr
