/-! PURE (50zzzzzzzl): put: bounds of a reel's numbers. -/
section Bn
variable {kt : Nat → Bool} {kb : Nat → Nat → Nat} {g : Nat → Nat} {p : Nat}
theorem in_x {x : Int32} {lo hi : Int64} (h : cf_393_0 x.toInt64 lo hi = true) : lo.toInt ≤ x.toInt ∧ x.toInt ≤ hi.toInt := by
  rw [cf_393_0] at h
  have e : x.toInt64.toInt = x.toInt := Int32.toInt_toInt64 x
  by_cases w1 : x.toInt64 < lo
  · rw [if_pos w1] at h; cases h
  · rw [if_neg w1] at h
    by_cases w2 : hi < x.toInt64
    · rw [if_pos w2] at h; cases h
    · rw [Int64.lt_iff_toInt_lt, e] at w1 w2
      omega
theorem in_rr {x : Int32} {lo hi : Nat} (hh : hi < 2 ^ 31) (h : (lo : Int) ≤ x.toInt ∧ x.toInt ≤ (hi : Int)) : ∃ r, lo ≤ r ∧ r ≤ hi ∧ x = nI r := by
  refine ⟨x.toInt.toNat, by omega, by omega, ?_⟩
  apply Int32.toInt_inj.mp
  rw [nI_toInt (by omega)]
  omega
theorem w2_q : (w2 g p).toInt64 = qv2 g p := by unfold w2 qv2; exact Int16.toInt64_toInt32 _
theorem w4_in {lo hi : Nat} {a c : Int64} (hh : hi < 2 ^ 31) (ea : a.toInt = (lo : Int)) (ec : c.toInt = (hi : Int)) (h : in4 g p a c) : ∃ r, lo ≤ r ∧ r ≤ hi ∧ w4 g p = nI r := by
  have h' : cf_393_0 (w4 g p).toInt64 a c = true := h
  have := in_x h'
  rw [ea, ec] at this
  exact in_rr hh this
theorem w4_z (h : ∀ j, g j = 0) : w4 g p = nI 0 := by unfold w4; rw [num_z (fun i _ => h _)]
theorem w2_z (h : ∀ j, g j = 0) : w2 g p = 0 := by unfold w2; rw [num_z (fun i _ => h _)]; rfl
end Bn
section Rs
variable {kt : Nat → Bool} {kb : Nat → Nat → Nat}
/-- a key that is there is legal, one that isn't is empty -/
theorem LG_k (hL : LG kt kb) (ha : ∀ k, k < 135 → kt k = false → ∀ j, kb k j = 0) {k kd ix : Nat} (hk : k < 135) (h1 : kdk k = kd) (h2 : ixk k = ix) : (kt k = true ∧ lgk kd ix (kb k)) ∨ (kt k = false ∧ ∀ j, kb k j = 0) := by
  cases e : kt k with
  | true => exact Or.inl ⟨rfl, by rw [← h1, ← h2]; exact hL.k k (Nat.zero_le _) hk e⟩
  | false => exact Or.inr ⟨rfl, ha k hk e⟩
theorem kk1 : ∀ j, j < 5 → kdk j = 1 ∧ ixk j = j := by decide
theorem kk2 : ∀ j, j < 5 → kdk (5 + j) = 2 ∧ ixk (5 + j) = j := by decide
theorem kk3 : ∀ j, j < 10 → kdk (10 + j) = 3 ∧ ixk (10 + j) = j := by decide
theorem kk4 : ∀ j, j < 2 → kdk (20 + j) = 4 ∧ ixk (20 + j) = j := by decide
theorem kk5 : ∀ j, j < 4 → kdk (22 + j) = 5 ∧ ixk (22 + j) = j := by decide
theorem kk7 : ∀ j, j < 2 → kdk (34 + j) = 7 ∧ ixk (34 + j) = j := by decide
theorem kk8 : ∀ j, j < 10 → kdk (36 + j) = 8 ∧ ixk (36 + j) = j := by decide
theorem kk11 : ∀ j, j < 3 → kdk (48 + j) = 11 ∧ ixk (48 + j) = j := by decide
theorem kk12 : ∀ j, j < 16 → kdk (51 + j) = 12 ∧ ixk (51 + j) = j := by decide
theorem kk13 : ∀ j, j < 20 → kdk (67 + j) = 13 ∧ ixk (67 + j) = j := by decide
theorem kk14 : ∀ j, j < 40 → kdk (87 + j) = 14 ∧ ixk (87 + j) = j := by decide
theorem kk15 : ∀ j, j < 8 → kdk (127 + j) = 15 ∧ ixk (127 + j) = j := by decide
theorem rD_tk (hL : LG kt kb) (ha : ∀ k, k < 135 → kt k = false → ∀ j, kb k j = 0) {j : Nat} (hj : j < 16) : kb (51 + j) 0 ≤ 1 := by
  rcases LG_k hL ha (k := 51 + j) (by omega) (kk12 j hj).1 (kk12 j hj).2 with ⟨_, h⟩ | ⟨_, h⟩
  · have h' : lg12 (kb (51 + j)) := h
    unfold lg12 at h'
    by_cases w : kb (51 + j) 0 = 0
    · omega
    · rw [if_neg w] at h'; omega
  · rw [h 0]; omega
theorem rD_kpb (hL : LG kt kb) (hg : ∀ k j, kb k j < 256) (ha : ∀ k, k < 135 → kt k = false → ∀ j, kb k j = 0) : kpb (rD kt kb) := by
  have c2 : ∀ (P : Prop) [Decidable P] (x : Nat), x < 256 → (if P then x else 0) < 256 := fun P _ x hx => by split; exact hx; omega
  have t := hL.t
  refine ⟨fun j => pe_4 j, fun j => ?_, fun j => c2 _ _ (hg _ _), fun j => c2 _ _ (hg _ _), ?_, fun j => tok_128 t.2.2 j, fun j hj => ?_, fun j => c2 _ _ (hg _ _), fun j => ?_, fun j => ?_, fun j => ⟨c2 _ _ (hg _ _), c2 _ _ (hg _ _), c2 _ _ (hg _ _)⟩, fun j => ?_, fun j => ⟨c2 _ _ (hg _ _), c2 _ _ (hg _ _)⟩, fun j => ?_, fun j => ⟨c2 _ _ (hg _ _), c2 _ _ (hg _ _), ?_⟩, fun j => ?_, fun j => ⟨c2 _ _ (hg _ _), c2 _ _ (hg _ _)⟩⟩
  · show (if j < 240 ∧ kt (5 + j / 48) = true then kb (5 + j / 48) (j % 48 / 2) >>> (4 * (j % 48 % 2)) % 2 ^ 4 else 15) < 16
    split
    · exact Nat.mod_lt _ (by omega)
    · omega
  · show kb 33 0 ≤ 196
    omega
  · have hj' : kb 33 0 ≤ j := hj
    show rtx kb j = 0
    by_cases w : j < 196
    · have := t.2.2 j (Nat.zero_le _) w
      rw [if_neg (by omega)] at this; exact this
    · unfold rtx; rw [if_neg w]
  · show (if j < 3 then kb (48 + j) 12 else 0) ≤ 1
    by_cases w : j < 3
    · rw [if_pos w]
      rcases LG_k hL ha (k := 48 + j) (by omega) (kk11 j w).1 (kk11 j w).2 with ⟨_, h⟩ | ⟨_, h⟩
      · have h' : lg11 (kb (48 + j)) := h
        have := h'.2.2.2.1; omega
      · rw [h 12]; omega
    · rw [if_neg w]; omega
  · show (if j < 16 then kb (51 + j) 0 else 0) ≤ 1
    by_cases w : j < 16
    · rw [if_pos w]; exact rD_tk hL ha w
    · rw [if_neg w]; omega
  · show (if j < 20 then b1 (kt (67 + j)) else 0) ≤ 1
    split
    · cases kt (67 + j) <;> decide
    · omega
  · show (if j < 40 then b1 (kt (87 + j)) else 0) ≤ 1
    split
    · cases kt (87 + j) <;> decide
    · omega
  · show (if j < 40 then kb (87 + j) 3 else 0) ≤ 1
    by_cases w : j < 40
    · rw [if_pos w]
      rcases LG_k hL ha (k := 87 + j) (by omega) (kk14 j w).1 (kk14 j w).2 with ⟨_, h⟩ | ⟨_, h⟩
      · have h' : lg14 (kb (87 + j)) := h
        have := h'.2.2.2.1; omega
      · rw [h 3]; omega
    · rw [if_neg w]; omega
  · show (if j < 8 then b1 (kt (127 + j)) else 0) ≤ 1
    split
    · cases kt (127 + j) <;> decide
    · omega
end Rs
