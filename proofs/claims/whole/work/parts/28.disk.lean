/-! PURE (28): rows of the disk, read again. -/
/-- a check as a number -/
def cru (d : Nat → Nat) (p n : Nat) : Nat := crs d p n ^^^ (2 ^ 32 - 1)
theorem crv_n (d : Nat → Nat) (p n : Nat) : crv d p n = nI (cru d p n) := by
  unfold crv cru
  rw [← nI_xor, show nI (2 ^ 32 - 1) = (-1 : Int32) by decide]
theorem cru_lt {d : Nat → Nat} {p n : Nat} (h : ∀ i, i < n → d (p + i) < 256) : cru d p n < 2 ^ 32 := Nat.xor_lt_two_pow (crs_lt h) (by omega)
theorem nI_32 {a b : Nat} (ha : a < 2 ^ 32) (hb : b < 2 ^ 32) : nI a = nI b ↔ a = b := by
  constructor
  · intro h
    have := congrArg (fun z => z.toBitVec.toNat) h
    simp only [nI_bv, BitVec.toNat_ofNat, Nat.mod_eq_of_lt ha, Nat.mod_eq_of_lt hb] at this
    exact this
  · intro h; rw [h]
/-- a row is whole -/
def whl (d : Nat → Nat → Nat) (a n : Nat) : Prop := d a (48 * n + 3) = 0 ∧ num (d a) (48 * n + 44) 4 = cru (d a) (48 * n) 44 ∧ num (d a) (48 * n + 4) 4 = n
/-- a whole row of a key, of an age -/
def krw (d : Nat → Nat → Nat) (a n g : Nat) : Prop := whl d a n ∧ ag d a n = g ∧ kyo (d a (48 * n)) (d a (48 * n + 1)) < 135
def lsr (d : Nat → Nat → Nat) (a n : Nat) : Prop := d a (48 * n + 2) = 1
def cnn (d : Nat → Nat → Nat) (a : Nat) : Nat := num (d a) 12 4
/-- an area whose snapshot is good -/
def gda (d : Nat → Nat → Nat) (a : Nat) : Prop := whl d a 0 ∧ d a 0 = 0 ∧ d a 1 = 0 ∧ d a 2 = 1 ∧ cnn d a < 200 ∧ (∀ n, 1 ≤ n → n ≤ cnn d a → krw d a n (ag d a 0)) ∧ (cnn d a = 0 ∨ lsr d a (cnn d a))
/-- rows that are the same -/
def rsm (d e : Nat → Nat → Nat) (a n : Nat) : Prop := ∀ j, j < 48 → d a (48 * n + j) = e a (48 * n + j)
theorem rsm_whl {d e : Nat → Nat → Nat} {a n : Nat} (h : rsm d e a n) : whl d a n ↔ whl e a n := by
  unfold whl
  rw [h 3 (by omega), num_congr (e := e a) (q := 48 * n + 44) (fun i hi => by rw [Nat.add_assoc]; exact h _ (by omega)), num_congr (d := d a) (e := e a) (q := 48 * n + 4) (fun i hi => by rw [Nat.add_assoc]; exact h _ (by omega))]
  unfold cru
  rw [crs_congr (e := e a) (q := 48 * n) (fun i hi => h i (by omega))]
theorem rsm_ag {d e : Nat → Nat → Nat} {a n : Nat} (h : rsm d e a n) : ag d a n = ag e a n := num_congr (fun i hi => by rw [Nat.add_assoc]; exact h _ (by omega))
theorem rsm_krw {d e : Nat → Nat → Nat} {a n g : Nat} (h : rsm d e a n) : krw d a n g ↔ krw e a n g := by
  unfold krw
  rw [rsm_whl h, rsm_ag h, h 1 (by omega), show d a (48 * n) = e a (48 * n) from h 0 (by omega)]
theorem rsm_lsr {d e : Nat → Nat → Nat} {a n : Nat} (h : rsm d e a n) : lsr d a n ↔ lsr e a n := by unfold lsr; rw [h 2 (by omega)]
theorem rsm_symm {d e : Nat → Nat → Nat} {a n : Nat} (h : rsm d e a n) : rsm e d a n := fun j hj => (h j hj).symm
/-- writing a row leaves the others -/
theorem dkw_rsm {d : Nat → Nat → Nat} {a n : Nat} {r : Nat → Nat} {full : Bool} {a' n' : Nat} (h : a' ≠ a ∨ n' ≠ n) : rsm (dkw d a n r full) d a' n' := by
  intro j hj
  unfold dkw
  rw [if_neg]
  intro q
  have : (if full = true then 48 else 24) ≤ 48 := by split <;> omega
  omega
theorem dkw_t {d : Nat → Nat → Nat} {a n : Nat} {r : Nat → Nat} {j : Nat} (hj : j < 48) : dkw d a n r true a (48 * n + j) = rwk r j := by
  unfold dkw
  rw [if_pos ⟨rfl, by omega, by simp; omega⟩, if_pos rfl, Nat.add_sub_cancel_left]
theorem dkw_f {d : Nat → Nat → Nat} {a n : Nat} {r : Nat → Nat} {j : Nat} (hj : j < 24) : dkw d a n r false a (48 * n + j) = if j = 3 then 1 else r j := by
  unfold dkw
  rw [if_pos ⟨rfl, by omega, by simp; omega⟩, if_neg (by decide), Nat.add_sub_cancel_left]
theorem lb_lN {n i : Nat} : lb (lN n) i = n % 2 ^ 64 / 2 ^ (8 * i) % 256 := by
  unfold lb uv
  rw [lN_bv2, BitVec.toNat_ofNat]
theorem num_lN {d : Nat → Nat} {p n : Nat} (hn : n < 2 ^ 32) (h : ∀ i, i < 4 → d (p + i) = lb (lN n) i) : num d p 4 = n := by
  rw [num_lb (v := lN n) h, uv_lN (by omega)]
  exact Nat.mod_eq_of_lt hn
theorem toInt64_uv (n : Nat) (hn : n < 2 ^ 32) : uv ((nI n).toInt64) % 2 ^ 32 = n := by
  unfold uv
  rw [Int32.toBitVec_toInt64, nI_bv]
  have h : ((BitVec.ofNat 32 n).signExtend 64).setWidth 32 = BitVec.ofNat 32 n := by
    apply BitVec.eq_of_getLsbD_eq
    intro i hi
    rw [BitVec.getLsbD_setWidth, BitVec.getLsbD_signExtend]
    simp [hi, show i < 64 by omega]
  have h2 := congrArg BitVec.toNat h
  rw [BitVec.toNat_setWidth, BitVec.toNat_ofNat, Nat.mod_eq_of_lt hn] at h2
  exact h2
section Dsk
variable {d : Nat → Nat → Nat} {a n kd ix g : Nat} {la : Bool} {pay : Nat → Nat}
/-- a row that was written whole -/
theorem row_t (hkd : kd < 256) (hix : ix < 256) (hp : ∀ i, pay i < 256) (hn : n < 200) (hg : g < 2 ^ 32) :
    whl (dkw d a n (rw0 kd ix la n (lN g) pay) true) a n ∧ ag (dkw d a n (rw0 kd ix la n (lN g) pay) true) a n = g ∧ dkw d a n (rw0 kd ix la n (lN g) pay) true a (48 * n) = kd ∧ dkw d a n (rw0 kd ix la n (lN g) pay) true a (48 * n + 1) = ix ∧ dkw d a n (rw0 kd ix la n (lN g) pay) true a (48 * n + 2) = b1 la ∧ ∀ i, i < 28 → dkw d a n (rw0 kd ix la n (lN g) pay) true a (48 * n + 12 + i) = pay i := by
  have hr : ∀ j, rw0 kd ix la n (lN g) pay j < 256 := rw0_lt2 hkd hix hp
  have hk : ∀ j, j < 44 → rwk (rw0 kd ix la n (lN g) pay) j = rw0 kd ix la n (lN g) pay j := fun j hj => if_pos hj
  have key : ∀ j, j < 44 → dkw d a n (rw0 kd ix la n (lN g) pay) true a (48 * n + j) = rw0 kd ix la n (lN g) pay j := fun j hj => by rw [dkw_t (by omega), hk j hj]
  refine ⟨⟨?_, ?_, ?_⟩, ?_, ?_, ?_, ?_, ?_⟩
  · rw [key 3 (by omega)]; unfold rw0; simp
  · have e1 : cru (dkw d a n (rw0 kd ix la n (lN g) pay) true a) (48 * n) 44 = cru (rw0 kd ix la n (lN g) pay) 0 44 := by
      unfold cru
      rw [crs_congr (e := rw0 kd ix la n (lN g) pay) (q := 0) (fun i hi => by rw [key i hi, Nat.zero_add])]
    have hl : cru (rw0 kd ix la n (lN g) pay) 0 44 < 2 ^ 32 := cru_lt (fun i _ => hr _)
    rw [e1, num_lb (v := (crv (rw0 kd ix la n (lN g) pay) 0 44).toInt64) (fun i hi => by
      rw [Nat.add_assoc, dkw_t (by omega)]
      unfold rwk
      rw [if_neg (by omega), Nat.add_sub_cancel_left]), crv_n]
    exact toInt64_uv _ hl
  · refine num_lN (by omega) (fun i hi => ?_)
    rw [Nat.add_assoc, key _ (by omega)]
    unfold rw0
    rw [if_neg (by omega), if_neg (by omega), if_neg (by omega), if_neg (by omega), if_pos (by omega), Nat.add_sub_cancel_left]
  · refine num_lN hg (fun i hi => ?_)
    rw [Nat.add_assoc, key _ (by omega)]
    unfold rw0
    rw [if_neg (by omega), if_neg (by omega), if_neg (by omega), if_neg (by omega), if_neg (by omega), if_pos (by omega), Nat.add_sub_cancel_left]
  · have := key 0 (by omega); rw [Nat.add_zero] at this; rw [this]; unfold rw0; simp
  · rw [key 1 (by omega)]; unfold rw0; simp
  · rw [key 2 (by omega)]; unfold rw0; simp
  · intro i hi
    rw [Nat.add_assoc, key _ (by omega)]
    unfold rw0
    rw [if_neg (by omega), if_neg (by omega), if_neg (by omega), if_neg (by omega), if_neg (by omega), if_neg (by omega), if_pos (by omega), Nat.add_sub_cancel_left]
/-- a row that was cut -/
theorem row_f (hg : g < 2 ^ 32) : ¬ whl (dkw d a n (rw0 kd ix la n (lN g) pay) false) a n ∧ ag (dkw d a n (rw0 kd ix la n (lN g) pay) false) a n = g ∧ dkw d a n (rw0 kd ix la n (lN g) pay) false a (48 * n + 3) = 1 := by
  have h3 : dkw d a n (rw0 kd ix la n (lN g) pay) false a (48 * n + 3) = 1 := by rw [dkw_f (by omega), if_pos rfl]
  refine ⟨fun h => ?_, ?_, h3⟩
  · have := h.1
    rw [h3] at this
    cases this
  · refine num_lN hg (fun i hi => ?_)
    rw [Nat.add_assoc, dkw_f (by omega), if_neg (by omega)]
    unfold rw0
    rw [if_neg (by omega), if_neg (by omega), if_neg (by omega), if_neg (by omega), if_neg (by omega), if_pos (by omega), Nat.add_sub_cancel_left]
end Dsk
/-- the key of a row -/
def rky (d : Nat → Nat → Nat) (a n : Nat) : Nat := kyo (d a (48 * n)) (d a (48 * n + 1))
/-- keys found in the rows 1 .. n -/
def fkt (d : Nat → Nat → Nat) (a : Nat) : Nat → Nat → Bool
  | 0 => fun _ => false
  | n + 1 => up (fkt d a n) (rky d a (n + 1)) true
def fkb (d : Nat → Nat → Nat) (a : Nat) : Nat → Nat → Nat → Nat
  | 0 => fun _ _ => 0
  | n + 1 => up (fkb d a n) (rky d a (n + 1)) (fun i => d a (48 * (n + 1) + 12 + i))
/-- what reopening finds: area, generation, rows, keys -/
def DI (d : Nat → Nat → Nat) (a gn us : Nat) (kt : Nat → Bool) (kb : Nat → Nat → Nat) : Prop :=
  a < 2 ∧ 1 ≤ us ∧ us ≤ 200 ∧ gda d a ∧ ag d a 0 = gn ∧ cnn d a < us ∧ (∀ n, 1 ≤ n → n < us → krw d a n gn) ∧ (us = cnn d a + 1 ∨ lsr d a (us - 1)) ∧
  (∀ n, us ≤ n → n < 200 → krw d a n gn → ¬ lsr d a n) ∧ (∀ k, k < 135 → kt k = fkt d a (us - 1) k) ∧ (∀ k, k < 135 → ∀ i, i < 28 → kb k i = fkb d a (us - 1) k i) ∧
  (whl d (1 - a) 0 → ag d (1 - a) 0 < gn) ∧ (∀ n, n < 200 → ag d (1 - a) n ≤ max gn (max (ag d (1 - a) 0) (ag d (1 - a) 1))) ∧ (∀ n, n < 200 → ag d a n ≤ gn) ∧ ∀ a' n, a' < 2 → n < 200 → d a' (48 * n + 3) ≤ 1
theorem fkt_congr {d e : Nat → Nat → Nat} {a : Nat} : ∀ {n : Nat}, (∀ m, 1 ≤ m → m ≤ n → rsm d e a m) → fkt d a n = fkt e a n := by
  intro n
  induction n with
  | zero => intro _; rfl
  | succ n ih =>
    intro h
    have h1 := h (n + 1) (by omega) (Nat.le_refl _)
    rw [fkt, fkt, ih (fun m h1 h2 => h m h1 (by omega))]
    unfold rky
    rw [h1 1 (by omega), show d a (48 * (n + 1)) = e a (48 * (n + 1)) from h1 0 (by omega)]
theorem fkb_congr {d e : Nat → Nat → Nat} {a : Nat} : ∀ {n : Nat}, (∀ m, 1 ≤ m → m ≤ n → rsm d e a m) → ∀ k i, i < 28 → fkb d a n k i = fkb e a n k i := by
  intro n
  induction n with
  | zero => intro _ k i _; rfl
  | succ n ih =>
    intro h k i hi
    have h1 := h (n + 1) (by omega) (Nat.le_refl _)
    rw [fkb, fkb]
    unfold rky
    rw [h1 1 (by omega), show d a (48 * (n + 1)) = e a (48 * (n + 1)) from h1 0 (by omega), up_d, up_d]
    split
    · show d a (48 * (n + 1) + 12 + i) = e a (48 * (n + 1) + 12 + i)
      rw [Nat.add_assoc]; exact h1 (12 + i) (by omega)
    · exact ih (fun m h1 h2 => h m h1 (by omega)) k i hi
/-- rows behind those that count may change -/
theorem DI_new {d e : Nat → Nat → Nat} {a gn us : Nat} {kt : Nat → Bool} {kb : Nat → Nat → Nat} (h : DI d a gn us kt kb) (h1 : ∀ n, n < us → rsm e d a n) (h2 : ∀ n, us ≤ n → n < 200 → (krw e a n gn → ¬ lsr e a n) ∧ ag e a n ≤ gn ∧ e a (48 * n + 3) ≤ 1) (h3 : ∀ n, n < 200 → rsm e d (1 - a) n) : DI e a gn us kt kb := by
  obtain ⟨i1, i2, i3, ⟨g1, g2, g3, g4, g5, g6, g7⟩, i5, i6, i7, i8, i9, i10, i11, i12, i13, i14, i15⟩ := h
  have r0 := h1 0 (by omega)
  have ec : cnn e a = cnn d a := num_congr (fun i hi => by have := r0 (12 + i) (by omega); simpa using this)
  have ea0 : ag e a 0 = ag d a 0 := rsm_ag r0
  have q0 := h3 0 (by omega)
  have q1 := h3 1 (by omega)
  refine ⟨i1, i2, i3, ⟨(rsm_whl r0).mpr g1, ?_, ?_, ?_, by rw [ec]; exact g5, ?_, ?_⟩, by rw [ea0]; exact i5, by rw [ec]; exact i6, ?_, ?_, fun n hn hn2 => (h2 n hn hn2).1, ?_, ?_, ?_, ?_, ?_, ?_⟩
  · have := r0 0 (by omega); simp at this; rw [this]; exact g2
  · have := r0 1 (by omega); simp at this; rw [this]; exact g3
  · have := r0 2 (by omega); simp at this; rw [this]; exact g4
  · intro n hn1 hn2
    rw [ec] at hn2
    rw [ea0]
    exact (rsm_krw (h1 n (by omega))).mpr (g6 n hn1 hn2)
  · rw [ec]
    rcases g7 with w | w
    · exact Or.inl w
    · exact Or.inr ((rsm_lsr (h1 _ (by omega))).mpr w)
  · intro n hn1 hn2; exact (rsm_krw (h1 n hn2)).mpr (i7 n hn1 hn2)
  · rw [ec]
    rcases i8 with w | w
    · exact Or.inl w
    · exact Or.inr ((rsm_lsr (h1 _ (by omega))).mpr w)
  · intro k hk; rw [i10 k hk, fkt_congr (fun m _ hm => rsm_symm (h1 m (by omega)))]
  · intro k hk i hi; rw [i11 k hk i hi, fkb_congr (fun m _ hm => rsm_symm (h1 m (by omega))) k i hi]
  · intro w; rw [rsm_ag q0]; exact i12 ((rsm_whl q0).mp w)
  · intro n hn; rw [rsm_ag (h3 n hn), rsm_ag q0, rsm_ag q1]; exact i13 n hn
  · intro n hn
    by_cases w : n < us
    · rw [rsm_ag (h1 n w)]; exact i14 n hn
    · exact (h2 n (by omega) hn).2.1
  · intro a' n ha' hn
    by_cases w : a' = a
    · subst w
      by_cases w2 : n < us
      · rw [h1 n w2 3 (by omega)]; exact i15 a' n ha' hn
      · exact (h2 n (by omega) hn).2.2
    · have : a' = 1 - a := by omega
      subst this
      rw [h3 n hn 3 (by omega)]; exact i15 (1 - a) n ha' hn
