/-! PURE (50ze): names on both sides. -/
/-- the name that the characters p .. q - 1 tell; 53: none -/
def wnm (tx : Nat → Nat) (p q : Nat) : Nat := if q - p = 1 then nm1 (tx p) else if q - p = 2 ∧ dg (tx (p + 1)) = true then nm2 (tx p) (tx (p + 1) - 48) else 53
section Nms
variable {N : mz_N} {o n p q : Nat} {tx : Nat → Nat}
theorem name_c (hn : n ≤ 196) (ht : rd_t N o n tx) (htx : ∀ j, tx j < 128) (h8 : N.1 o 8 = nI q) (h9 : N.1 o 9 = nI p) (hpq : p < q) (hq : q ≤ n) : cp_29_59 o N ∧ cf_29_59 o N = mz_pI N o 11 (nO 53 (wnm tx p q)) := by
  obtain ⟨t1, t2⟩ := ht
  have g8 : (mz_pI N o 11 (-1)).1 o 8 = nI q := by rw [pI_s, sI_e, up_a, if_neg (by decide)]; exact h8
  have g9 : (mz_pI N o 11 (-1)).1 o 9 = nI p := by rw [pI_s, sI_e, up_a, if_neg (by decide)]; exact h9
  have gt : ∀ j, j < n → mz_gI (mz_pI N o 11 (-1)) (o + 1) (nI j) = nI (tx j) := fun j hj => by
    rw [gI_a, pI_s, sI_n (by omega), nI_clamp (by omega)]; exact t2 j hj
  have esub : nI q - nI p = nI (q - p) := by rw [pk_sub (by omega)]
  have i1 : mz_ib (nI p) 196 := ib_n (by omega) (by omega)
  rw [cp_29_59, cf_29_59]
  simp only [g8, g9, esub, nI_1, pI_pI, gt p (by omega), ch_n1 _ (htx p), cp_29_94, cp_29_157, cf_29_94, cf_29_157]
  unfold wnm
  by_cases w1 : q - p = 1
  · have e1 : nI (q - p) = 1 := by rw [w1]; rfl
    rw [if_pos e1, if_pos w1]
    exact ⟨⟨fun _ => ⟨i1, trivial⟩, fun z => absurd e1 z⟩, rfl⟩
  · have e1 : ¬ nI (q - p) = 1 := fun z => w1 ((nI_eq (b := 1) (by omega) (by omega)).mp z)
    rw [if_neg e1, if_neg w1]
    by_cases w2 : q - p = 2
    · have e2 : nI (q - p) = 2 := by rw [w2]; rfl
      have i2 : mz_ib (nI (p + 1)) 196 := ib_n (by omega) (by omega)
      obtain ⟨c1, -⟩ := ch_ok (tx (p + 1)) (htx _)
      rw [if_pos e2, gt (p + 1) (by omega), c1]
      by_cases w3 : dg (tx (p + 1)) = true
      · have hd : 48 ≤ tx (p + 1) ∧ tx (p + 1) ≤ 57 := by simpa [dg] using w3
        have es : nI (tx (p + 1)) - 48 = nI (tx (p + 1) - 48) := by rw [show (48 : Int32) = nI 48 from rfl, pk_sub (by omega)]
        rw [if_pos w3, if_pos ⟨w2, w3⟩, es, ch_n2 _ (htx p) _ (by omega)]
        exact ⟨⟨fun z => absurd z e1, fun _ => ⟨fun _ => ⟨i2, fun _ => ⟨i1, i2, trivial⟩, fun z => absurd w3 z⟩, fun z => absurd e2 z⟩⟩, rfl⟩
      · rw [if_neg w3, if_neg (fun z => w3 z.2)]
        exact ⟨⟨fun z => absurd z e1, fun _ => ⟨fun _ => ⟨i2, fun z => absurd z w3, fun _ => trivial⟩, fun z => absurd e2 z⟩⟩, rfl⟩
    · have e2 : ¬ nI (q - p) = 2 := fun z => w2 ((nI_eq (b := 2) (by omega) (by omega)).mp z)
      rw [if_neg e2, if_neg (fun z => w2 z.1)]
      exact ⟨⟨fun z => absurd z e1, fun _ => ⟨fun z => absurd z e2, fun _ => trivial⟩⟩, rfl⟩
end Nms
