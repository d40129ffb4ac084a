/-! PURE (50x): the text's keys. -/
section Tx2
variable {N : mz_N} {kt : Nat → Bool} {kb : Nat → Nat → Nat} {D : Kp} {d : Nat → Nat → Nat} {a gn us : Nat}
theorem DI_0 (h : DI d a gn us kt kb) {k : Nat} (hk : k < 135) (hf : kt k = false) : ∀ j, j < 28 → kb k j = 0 := by
  obtain ⟨-, -, -, -, -, -, -, -, -, i10, i11, -⟩ := h
  intro j hj
  rw [i11 k hk j hj]
  exact fkb_0 (by rw [← i10 k hk]; exact hf) j
theorem key6 : ∀ ix, ix < 8 → kdk (26 + ix) = 6 ∧ ixk (26 + ix) = ix := by decide +kernel
theorem tx_st (hD : st_D kt kb D) (h0 : ∀ k, k < 135 → kt k = false → ∀ j, j < 28 → kb k j = 0) (hk : ∀ k, k < 135 → ∀ j, j < 28 → N.1 223 (28 * k + j) = nI (kb k j)) : tx3 223 728 N D := by
  have hb := hD.1
  have hkey : ∀ ix, ix < 8 → ∀ j, j < 28 → (kt (26 + ix) = true → kb (26 + ix) j = kx D 6 ix j) ∧ (kt (26 + ix) = false → kb (26 + ix) j = 0 ∧ kag H0 D 6 ix) := by
    intro ix hix j hj
    obtain ⟨e1, e2⟩ := key6 ix hix
    obtain ⟨d1, d2⟩ := hD.2.2 (26 + ix) (by omega)
    rw [e1, e2] at d1 d2
    refine ⟨fun w => ?_, fun w => ⟨h0 _ (by omega) w j hj, d2 w⟩⟩
    rw [(d1 w).2.2 j hj]
    unfold xk
    rw [e1, e2]
  refine ⟨fun j hj => ?_, ?_, fun j h1 h2 => ?_⟩
  · have e : 728 + j = 28 * (26 + j / 28) + j % 28 := by omega
    rw [e, hk _ (by omega) _ (Nat.mod_lt _ (by omega))]
    obtain ⟨a1, a2⟩ := hkey (j / 28) (by omega) (j % 28) (Nat.mod_lt _ (by omega))
    cases w : kt (26 + j / 28) with
    | true =>
      rw [a1 w]
      have : kx D 6 (j / 28) (j % 28) = D.1 4 j := by
        show (if j / 28 = 7 then up (fun _ => 0) 0 (D.1 5 0) else cut 28 (fun t => D.1 4 (28 * (j / 28) + t))) (j % 28) = _
        rw [if_neg (by omega)]
        unfold cut
        rw [if_pos (Nat.mod_lt _ (by omega))]
        show D.1 4 (28 * (j / 28) + j % 28) = _
        rw [Nat.div_add_mod]
      rw [this]
    | false =>
      obtain ⟨z1, z2⟩ := a2 w
      have q : if j / 28 = 7 then H0.1 5 0 = D.1 5 0 else ∀ i, 28 * (j / 28) ≤ i → i < 28 * (j / 28) + 28 → H0.1 4 i = D.1 4 i := z2
      rw [if_neg (by omega)] at q
      rw [z1, ← q j (by omega) (by omega)]
      rfl
  · have := hk 33 (by omega) 0 (by omega)
    rw [show 728 + 196 = 28 * 33 + 0 from rfl, this]
    obtain ⟨a1, a2⟩ := hkey 7 (by omega) 0 (by omega)
    cases w : kt (26 + 7) with
    | true => rw [show (33 : Nat) = 26 + 7 from rfl, a1 w]; rfl
    | false =>
      obtain ⟨z1, z2⟩ := a2 w
      have q : H0.1 5 0 = D.1 5 0 := z2
      rw [show (33 : Nat) = 26 + 7 from rfl, z1, ← q]; rfl
  · have := hk 33 (by omega) j (by omega)
    rw [show 728 + 196 + j = 28 * 33 + j from rfl, this]
    obtain ⟨a1, a2⟩ := hkey 7 (by omega) j (by omega)
    cases w : kt (26 + 7) with
    | true =>
      rw [show (33 : Nat) = 26 + 7 from rfl, a1 w]
      have : kx D 6 7 j = 0 := by
        show up (fun _ => 0) 0 (D.1 5 0) j = 0
        rw [up_d, if_neg (by omega)]
      rw [this]; rfl
    | false =>
      rw [show (33 : Nat) = 26 + 7 from rfl, (a2 w).1]; rfl
end Tx2
