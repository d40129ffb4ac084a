/-! PURE (50zzzzzzzv): the law's loop. -/
section Lo
variable {N : mz_N} {b : Bool} {B q L : Nat} {xs : Nat → Int32}
theorem law_loop (hL : L ≤ 449) (hq : q + 8500 < 2 ^ 15) (hB : B + 111000 < 2 ^ 30) (h : Sm q B N b N) : cp_622_35 L xs 1 N b 0 ∧ (cf_622_35 L xs 1 N b 0).1 = true := by
  have cnd : ∀ k, k ≤ 64 → (Int32.ofNat L - 7 < nI (1 + 7 * k) ↔ L < 8 + 7 * k) := fun k hk => by
    have e : Int32.ofNat L - 7 = iI ((L : Int) - 7) := by
      rw [show Int32.ofNat L = iI (L : Int) from iI_n L, show (7 : Int32) = iI 7 from rfl]
      exact (Int32.ofInt_sub _ _).symm
    rw [e, iI_n, iI_lt (by omega) (by omega)]
    omega
  have ib : ∀ k j, k ≤ 64 → j ≤ 6 → ¬ L < 8 + 7 * k → mz_ib (nI (1 + 7 * k) + nI j) L := fun k j hk hj hn => by
    rw [nI_add]; exact ib_n (by omega) (by omega)
  refine mz_lpn (f := cq_622_35 L xs) (P := cd_622_35 L xs) (Q := fun r => r.1 = true) 64 (fun k s => ∃ K b' t, s = (nI (1 + 7 * k), K, b', t) ∧ t ≤ k ∧ Sm (q + 130 * k) (B + 1700 * k) K b' K) ?_ ?_ (Nat.zero_le _) ⟨N, b, 0, rfl, Nat.le_refl _, h⟩
  · rintro k s hk ⟨K, b', t, rfl, ht, hs⟩
    by_cases w : L < 8 + 7 * k
    · have w' := (cnd k (by omega)).mpr w
      refine ⟨⟨fun _ => trivial, fun z => absurd w' z⟩, Or.inr ⟨(true, K, b', t), ?_, rfl⟩⟩
      exact if_pos w'
    · have w' : ¬ Int32.ofNat L - 7 < nI (1 + 7 * k) := fun z => w ((cnd k (by omega)).mp z)
      obtain ⟨p1, K', b2, t2, e, e2, e3⟩ := law_step (xs := xs) (q := q + 130 * k) (B := B + 1700 * k) (t := t) (by omega) (by omega) (by omega) hs w' (by have := ib k 0 (by omega) (by omega) w; rw [nI_add] at this; exact this) (ib k 1 (by omega) (by omega) w) (ib k 2 (by omega) (by omega) w) (ib k 3 (by omega) (by omega) w) (ib k 4 (by omega) (by omega) w) (ib k 5 (by omega) (by omega) w) (ib k 6 (by omega) (by omega) w)
      refine ⟨p1, Or.inl ⟨_, e, K', b2, t2, ?_, by omega, Sm_m (by omega) (by omega) e3⟩⟩
      rw [show (7 : Int32) = nI 7 from rfl, nI_add, show 1 + 7 * k + 7 = 1 + 7 * (k + 1) by omega]
  · rintro s ⟨K, b', t, rfl, ht, hs⟩
    have w' := (cnd 64 (by omega)).mpr (show L < 8 + 7 * 64 by omega)
    refine ⟨⟨fun _ => trivial, fun z => absurd w' z⟩, (true, K, b', t), ?_, rfl⟩
    exact if_pos w'
end Lo
