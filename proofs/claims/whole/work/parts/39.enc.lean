/-! PURE (39): the class makes the bytes of its keys. -/
section Enc
variable {M : mz_N} {i ix : Nat} {o : Nat → Int32} {H : Kp} {b : Bool}
theorem stg_n1 {p k : Nat} {g : Nat → Nat} {v : Int64} (hp : p + k ≤ 28) (hk : k ≤ 8) (hi : i < 16) : cp_14_0 227 448 (nI (28 * i + p)) (nI k) v (mz_sI M 227 (stg i g o)) ↔ True := ⟨fun _ => trivial, fun _ => (stg_n hp hk hi).1⟩
theorem stg_n2 {p k : Nat} {g : Nat → Nat} {v : Int64} (hp : p + k ≤ 28) (hk : k ≤ 8) (hi : i < 16) : cf_14_0 227 448 (nI (28 * i + p)) (nI k) v (mz_sI M 227 (stg i g o)) = mz_sI M 227 (stg i (pb g p k v) o) := (stg_n hp hk hi).2
theorem stg_n10 {k : Nat} {g : Nat → Nat} {v : Int64} (hk : k ≤ 8) (hi : i < 16) : cp_14_0 227 448 (nI (28 * i)) (nI k) v (mz_sI M 227 (stg i g o)) ↔ True := stg_n1 (p := 0) (by omega) hk hi
theorem stg_n20 {k : Nat} {g : Nat → Nat} {v : Int64} (hk : k ≤ 8) (hi : i < 16) : cf_14_0 227 448 (nI (28 * i)) (nI k) v (mz_sI M 227 (stg i g o)) = mz_sI M 227 (stg i (pb g 0 k v) o) := stg_n2 (p := 0) (by omega) hk hi
theorem stg_w0 {x : Nat} {g : Nat → Nat} (hi : i < 16) : mz_wI (mz_sI M 227 (stg i g o)) 227 (nI (28 * i)) (nI x) = mz_sI M 227 (stg i (up g 0 x) o) := stg_w (p := 0) (by omega) hi
theorem rd_s {f : Nat → Int32} {q j : Nat} (hq : q ≠ 227) (hj : j < 2 ^ 31) : mz_gI (mz_sI M 227 f) q (nI j) = M.1 q j := by rw [gI_a, sI_n hq, nI_clamp hj]
theorem rd_sL {f : Nat → Int32} {q j : Nat} (hj : j < 2 ^ 31) : mz_gL (mz_sI M 227 f) q (nI j) = M.2 q j := by rw [gL_a, nI_clamp hj]; rfl
theorem cut_0 {f : Nat → Nat} : cut 0 f = fun _ => 0 := funext fun j => if_neg (Nat.not_lt_zero _)
theorem cut_s {f : Nat → Nat} {t : Nat} : cut (t + 1) f = up (cut t f) t (f t) := by
  funext j
  rw [up_d]
  unfold cut
  by_cases y : j = t
  · rw [if_pos y, if_pos (by omega), y]
  · rw [if_neg y]
    by_cases y2 : j < t
    · rw [if_pos y2, if_pos (by omega)]
    · rw [if_neg y2, if_neg (by omega)]
theorem e1_c (hi : i < 16) (hix : ix < 5) (hb : kpb H) (hk : ∀ j, j < 550 → M.1 3 j = nI (H.1 0 j)) : cp_123_0 (nI ix) (nI (28 * i)) (mz_sI M 227 (stg i (fun _ => 0) o)) ∧ cf_123_0 (nI ix) (nI (28 * i)) (mz_sI M 227 (stg i (fun _ => 0) o)) = mz_sI M 227 (stg i (kx H 1 ix) o) := by
  show cp_123_3 (nI ix) (nI (28 * i)) 0 (mz_sI M 227 (stg i (fun _ => 0) o)) ∧ cf_123_3 (nI ix) (nI (28 * i)) 0 (mz_sI M 227 (stg i (fun _ => 0) o)) = _
  refine mz_lpn (f := cq_123_3 (nI ix) (nI (28 * i))) (P := cd_123_3 (nI ix) (nI (28 * i))) (Q := fun t => t = mz_sI M 227 (stg i (kx H 1 ix) o)) 110 (fun t s => s = (nI t, mz_sI M 227 (stg i (orp 4 2 (fun t => H.1 0 (110 * ix + t)) t) o))) ?_ ?_ (Nat.zero_le _) rfl
  · rintro t s ht rfl
    have e4 : nI t / 4 = nI (t / 4) := by rw [show (4 : Int32) = nI 4 from rfl, pk_div (by omega) (by omega) (by omega)]
    have e5 : 2 * mz_irem (nI t) 4 = nI (2 * (t % 4)) := by rw [show (4 : Int32) = nI 4 from rfl, show (2 : Int32) = nI 2 from rfl, irem_n (by omega) (by omega) (by omega), pk_mul]
    have e6 : nI ix * 110 + nI t = nI (110 * ix + t) := by rw [show (110 : Int32) = nI 110 from rfl, pk_mul, nI_add, Nat.mul_comm]
    have g3 : mz_gI (mz_sI M 227 (stg i (orp 4 2 (fun t => H.1 0 (110 * ix + t)) t) o)) 3 (nI (110 * ix + t)) = nI (H.1 0 (110 * ix + t)) := by rw [rd_s (by decide) (by omega), hk _ (by omega)]
    have g27 : ∀ p g, p < 28 → mz_gI (mz_sI M 227 (stg i g o)) 227 (nI (28 * i + p)) = nI (g p) := fun p g hp => by
      rw [gI_a, sI_e, nI_clamp (by omega)]; unfold stg; rw [if_pos (by omega), Nat.add_sub_cancel_left]
    have hlt : nI t < 110 := (nI_ltI (b := 110) (by omega) (by omega)).mpr ht
    have hs := or_c (H.1 0 (110 * ix + t)) (by have := hb.1 (110 * ix + t); omega) (2 * (t % 4)) (by omega)
    rw [cd_123_3, cq_123_3]
    simp only [hlt, if_true, e4, e5, e6, nI_add, g3, hs, cf_123_40, cp_123_40, nI_1]
    rw [g27 _ _ (by omega), or_n, stg_w (by omega) hi]
    refine ⟨⟨fun _ => ⟨ib_n (by omega) (by omega), ib_n (by omega) (by omega), ib_n (by omega) (by omega), trivial⟩, fun w => absurd trivial w⟩, Or.inl ⟨_, rfl, rfl⟩⟩
  · rintro s rfl
    have hlt : ¬ nI 110 < 110 := by decide
    rw [cd_123_3, cq_123_3]
    simp only [hlt, if_false]
    exact ⟨⟨False.elim, fun _ => trivial⟩, _, rfl, rfl⟩
theorem e2_c (hi : i < 16) (hix : ix < 5) (hb : kpb H) (hk : ∀ j, j < 240 → M.1 37 j = nI (H.1 1 j)) : cp_124_0 (nI ix) (nI (28 * i)) (mz_sI M 227 (stg i (fun _ => 0) o)) ∧ cf_124_0 (nI ix) (nI (28 * i)) (mz_sI M 227 (stg i (fun _ => 0) o)) = mz_sI M 227 (stg i (kx H 2 ix) o) := by
  show cp_124_3 (nI ix) (nI (28 * i)) 0 (mz_sI M 227 (stg i (fun _ => 0) o)) ∧ cf_124_3 (nI ix) (nI (28 * i)) 0 (mz_sI M 227 (stg i (fun _ => 0) o)) = _
  refine mz_lpn (f := cq_124_3 (nI ix) (nI (28 * i))) (P := cd_124_3 (nI ix) (nI (28 * i))) (Q := fun t => t = mz_sI M 227 (stg i (kx H 2 ix) o)) 48 (fun t s => s = (nI t, mz_sI M 227 (stg i (orp 2 4 (fun t => H.1 1 (48 * ix + t)) t) o))) ?_ ?_ (Nat.zero_le _) rfl
  · rintro t s ht rfl
    have e4 : nI t / 2 = nI (t / 2) := by rw [show (2 : Int32) = nI 2 from rfl, pk_div (by omega) (by omega) (by omega)]
    have e5 : 4 * mz_irem (nI t) 2 = nI (4 * (t % 2)) := by rw [show (4 : Int32) = nI 4 from rfl, show (2 : Int32) = nI 2 from rfl, irem_n (by omega) (by omega) (by omega), pk_mul]
    have e6 : nI ix * 48 + nI t = nI (48 * ix + t) := by rw [show (48 : Int32) = nI 48 from rfl, pk_mul, nI_add, Nat.mul_comm]
    have g3 : mz_gI (mz_sI M 227 (stg i (orp 2 4 (fun t => H.1 1 (48 * ix + t)) t) o)) 37 (nI (48 * ix + t)) = nI (H.1 1 (48 * ix + t)) := by rw [rd_s (by decide) (by omega), hk _ (by omega)]
    have g27 : ∀ p g, p < 28 → mz_gI (mz_sI M 227 (stg i g o)) 227 (nI (28 * i + p)) = nI (g p) := fun p g hp => by
      rw [gI_a, sI_e, nI_clamp (by omega)]; unfold stg; rw [if_pos (by omega), Nat.add_sub_cancel_left]
    have hlt : nI t < 48 := (nI_ltI (b := 48) (by omega) (by omega)).mpr ht
    have hs := or_c (H.1 1 (48 * ix + t)) (hb.2.1 (48 * ix + t)) (4 * (t % 2)) (by omega)
    rw [cd_124_3, cq_124_3]
    simp only [hlt, if_true, e4, e5, e6, nI_add, g3, hs, cf_124_40, cp_124_40, nI_1]
    rw [g27 _ _ (by omega), or_n, stg_w (by omega) hi]
    refine ⟨⟨fun _ => ⟨ib_n (by omega) (by omega), ib_n (by omega) (by omega), ib_n (by omega) (by omega), trivial⟩, fun w => absurd trivial w⟩, Or.inl ⟨_, rfl, rfl⟩⟩
  · rintro s rfl
    have hlt : ¬ nI 48 < 48 := by decide
    rw [cd_124_3, cq_124_3]
    simp only [hlt, if_false]
    exact ⟨⟨False.elim, fun _ => trivial⟩, _, rfl, rfl⟩
theorem e4_c (hi : i < 16) (hix : ix < 2) (hk : ∀ j, j < 24 → M.1 66 j = H.2.1 0 j) : cp_125_0 (nI ix) (nI (28 * i)) (mz_sI M 227 (stg i (fun _ => 0) o)) ∧ cf_125_0 (nI ix) (nI (28 * i)) (mz_sI M 227 (stg i (fun _ => 0) o)) = mz_sI M 227 (stg i (kx H 4 ix) o) := by
  show cp_125_3 (nI ix) (nI (28 * i)) 0 (mz_sI M 227 (stg i (fun _ => 0) o)) ∧ cf_125_3 (nI ix) (nI (28 * i)) 0 (mz_sI M 227 (stg i (fun _ => 0) o)) = _
  refine mz_lpn (f := cq_125_3 (nI ix) (nI (28 * i))) (P := cd_125_3 (nI ix) (nI (28 * i))) (Q := fun t => t = mz_sI M 227 (stg i (kx H 4 ix) o)) 12 (fun t s => s = (nI t, mz_sI M 227 (stg i (wrd (fun t => (H.2.1 0 (12 * ix + t)).toInt64) t) o))) ?_ ?_ (Nat.zero_le _) rfl
  · rintro t s ht rfl
    have g3 : mz_gI (mz_sI M 227 (stg i (wrd (fun t => (H.2.1 0 (12 * ix + t)).toInt64) t) o)) 66 (nI (12 * ix + t)) = H.2.1 0 (12 * ix + t) := by rw [rd_s (by decide) (by omega), hk _ (by omega)]
    simp (disch := omega) only [cd_125_3, cq_125_3, cp_125_34, cf_125_34, nI_ltI, (show (12 : Int32) = nI 12 from rfl), (show (2 : Int32) = nI 2 from rfl), ht, pk_mul, nI_add, g3, stg_n1, stg_n2, nI_1, ib_i, not_false_eq_true, not_true_eq_false, if_true, if_false, true_implies, false_implies, implies_true, and_true, true_and]
    refine ⟨by omega, Or.inl ⟨_, rfl, rfl⟩⟩
  · rintro s rfl
    have hlt : ¬ nI 12 < 12 := by decide
    rw [cd_125_3, cq_125_3]
    simp only [hlt, if_false]
    exact ⟨⟨False.elim, fun _ => trivial⟩, _, rfl, rfl⟩
theorem e6_c (hi : i < 16) (hix : ix < 8) (hb : kpb H) (h1 : M.1 (mz_lv b) 1 = nI (H.1 5 0)) (h2 : ∀ j, j < H.1 5 0 → M.1 (mz_lv b + 1) j = nI (H.1 4 j)) : cp_126_0 (nI ix) (nI (28 * i)) (mz_sI M 227 (stg i (fun _ => 0) o)) b ∧ cf_126_0 (nI ix) (nI (28 * i)) (mz_sI M 227 (stg i (fun _ => 0) o)) b = mz_sI M 227 (stg i (kx H 6 ix) o) := by
  have hlv : mz_lv b ≠ 227 ∧ mz_lv b + 1 ≠ 227 := by cases b <;> exact ⟨by decide, by decide⟩
  obtain ⟨-, -, -, -, b5, b4, b6, -⟩ := hb
  by_cases w7 : ix = 7
  · have e : kx H 6 ix = up (fun _ => 0) 0 (H.1 5 0) := by rw [w7]; rfl
    rw [e, cp_126_0, cf_126_0, if_pos (by rw [w7]; rfl), sI_n hlv.1, h1, stg_w0 hi]
    exact ⟨⟨fun _ => ib_n (by omega) (by omega), fun w => absurd (by rw [w7]; rfl) w⟩, rfl⟩
  · have e : kx H 6 ix = cut 28 (fun t => H.1 4 (28 * ix + t)) := by
      show (if ix = 7 then up (fun _ => 0) 0 (H.1 5 0) else cut 28 (fun t => H.1 4 (28 * ix + t))) = _
      rw [if_neg w7]
    have n7 : ¬ nI ix = 7 := fun q => w7 ((nI_eq (b := 7) (by omega) (by omega)).mp q)
    rw [e, cp_126_0, cf_126_0, if_neg n7]
    have key : cp_126_20 (nI ix) (nI (28 * i)) 0 (mz_sI M 227 (stg i (fun _ => 0) o)) b ∧ cf_126_20 (nI ix) (nI (28 * i)) 0 (mz_sI M 227 (stg i (fun _ => 0) o)) b = mz_sI M 227 (stg i (cut 28 (fun t => H.1 4 (28 * ix + t))) o) := by
      refine mz_lpn (f := cq_126_20 (nI ix) (nI (28 * i)) b) (P := cd_126_20 (nI ix) (nI (28 * i)) b) (Q := fun t => t = mz_sI M 227 (stg i (cut 28 (fun t => H.1 4 (28 * ix + t))) o)) 28 (fun t s => s = (nI t, mz_sI M 227 (stg i (cut t (fun t => H.1 4 (28 * ix + t))) o))) ?_ ?_ (Nat.zero_le _) ?_
      · rintro t s ht rfl
        have hlt : nI t < 28 := (nI_ltI (b := 28) (by omega) (by omega)).mpr ht
        have e6 : nI ix * 28 + nI t = nI (28 * ix + t) := by rw [show (28 : Int32) = nI 28 from rfl, pk_mul, nI_add, Nat.mul_comm]
        have g1 : (mz_sI M 227 (stg i (cut t (fun t => H.1 4 (28 * ix + t))) o)).1 (mz_lv b) 1 = nI (H.1 5 0) := by rw [sI_n hlv.1]; exact h1
        rw [cd_126_20, cq_126_20]
        simp only [hlt, if_true, e6, g1, nI_1]
        by_cases w : 28 * ix + t < H.1 5 0
        · have w' : nI (28 * ix + t) < nI (H.1 5 0) := (nI_ltI (by omega) (by omega)).mpr w
          have g2 : mz_gI (mz_sI M 227 (stg i (cut t (fun t => H.1 4 (28 * ix + t))) o)) (mz_lv b + 1) (nI (28 * ix + t)) = nI (H.1 4 (28 * ix + t)) := by rw [rd_s hlv.2 (by omega), h2 _ w]
          rw [if_pos w', g2, nI_add, stg_w ht hi]
          refine ⟨⟨fun _ => ⟨fun _ => ⟨ib_n (by omega) (by omega), ib_n (by omega) (by omega)⟩, fun q => absurd w' q⟩, fun q => absurd trivial q⟩, Or.inl ⟨_, rfl, ?_⟩⟩
          rw [cut_s]
        · have w' : ¬ nI (28 * ix + t) < nI (H.1 5 0) := fun q => w ((nI_ltI (by omega) (by omega)).mp q)
          rw [if_neg w']
          refine ⟨⟨fun _ => ⟨fun q => absurd q w', fun _ => trivial⟩, fun q => absurd trivial q⟩, Or.inr ⟨_, rfl, ?_⟩⟩
          rw [show cut t (fun t => H.1 4 (28 * ix + t)) = cut 28 (fun t => H.1 4 (28 * ix + t)) from ?_]
          funext j
          unfold cut
          by_cases y : j < t
          · rw [if_pos y, if_pos (by omega)]
          · rw [if_neg y]
            by_cases y2 : j < 28
            · rw [if_pos y2]; exact (b6 (28 * ix + j) (by omega)).symm
            · rw [if_neg y2]
      · rintro s rfl
        have hlt : ¬ nI 28 < 28 := by decide
        rw [cd_126_20, cq_126_20]
        simp only [hlt, if_false]
        exact ⟨⟨False.elim, fun _ => trivial⟩, _, rfl, rfl⟩
      · rw [cut_0]; rfl
    exact ⟨⟨fun q => absurd q n7, fun _ => key.1⟩, key.2⟩
end Enc
