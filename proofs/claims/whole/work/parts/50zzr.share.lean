/-! PURE (50zzr): a sum shared out by weights; the greatest remainders first. -/
def mxi (R : Nat → Nat) : Nat → Nat
  | 0 => 0
  | j + 1 => if R (mxi R j) < R j then j else mxi R j
theorem mxi_lt {R : Nat → Nat} : ∀ {j : Nat}, 0 < j → mxi R j < j := by
  intro j
  induction j with
  | zero => intro h; exact absurd h (Nat.lt_irrefl _)
  | succ j ih =>
    intro _
    rw [mxi]
    split
    · omega
    · rcases Nat.eq_zero_or_pos j with w | w
      · rw [w]; exact Nat.lt_succ_self _
      · have := ih w; omega
theorem mxi_ge {R : Nat → Nat} : ∀ {n j : Nat}, j < n → R j ≤ R (mxi R n) := by
  intro n
  induction n with
  | zero => intro j h; exact absurd h (Nat.not_lt_zero _)
  | succ n ih =>
    intro j h
    rw [mxi]
    by_cases w : j = n
    · rw [w]
      split
      · exact Nat.le_refl _
      · omega
    · have := ih (j := j) (by omega)
      split
      · omega
      · exact this
def dst1 (n : Nat) (x : (Nat → Nat) × (Nat → Nat)) : (Nat → Nat) × (Nat → Nat) := (up x.1 (mxi x.2 n) (x.1 (mxi x.2 n) + 1), up x.2 (mxi x.2 n) 0)
def dst (n : Nat) : Nat → (Nat → Nat) × (Nat → Nat) → (Nat → Nat) × (Nat → Nat)
  | 0, x => x
  | t + 1, x => dst1 n (dst n t x)
theorem dst_le {n : Nat} {x : (Nat → Nat) × (Nat → Nat)} {j : Nat} : ∀ t, (dst n t x).2 j ≤ x.2 j := by
  intro t
  induction t with
  | zero => exact Nat.le_refl _
  | succ t ih =>
    show up (dst n t x).2 (mxi (dst n t x).2 n) 0 j ≤ _
    unfold up
    split
    · exact Nat.zero_le _
    · exact ih
def shq (v : Nat) (w : Nat → Nat) (n i : Nat) : Nat := v * w i / sumN w n
def shm (v : Nat) (w : Nat → Nat) (n i : Nat) : Nat := v * w i % sumN w n
def shl (v : Nat) (w : Nat → Nat) (n : Nat) : Nat := v - sumN (shq v w n) n
def shr (v : Nat) (w : Nat → Nat) (n i : Nat) : Nat := (dst n (shl v w n) (shq v w n, fun i => shm v w n i + 1)).1 i
section Shr
variable {v n : Nat} {w : Nat → Nat}
theorem sumN_mul (a : Nat) (f : Nat → Nat) : ∀ n, sumN (fun i => a * f i) n = a * sumN f n := by
  intro n
  induction n with
  | zero => rfl
  | succ n ih => rw [sumN, sumN, ih, Nat.mul_add]
theorem sh_eq : sumN w n * sumN (shq v w n) n + sumN (shm v w n) n = v * sumN w n := by
  rw [← sumN_mul, ← sumN_add, ← sumN_mul]
  exact sumN_congr (fun i _ => Nat.div_add_mod (v * w i) (sumN w n))
theorem shq_le (h : 0 < sumN w n) : sumN (shq v w n) n ≤ v := by
  have e := sh_eq (v := v) (w := w) (n := n)
  have h2 : sumN w n * sumN (shq v w n) n ≤ sumN w n * v := by rw [Nat.mul_comm (sumN w n) v]; omega
  exact Nat.le_of_mul_le_mul_left h2 h
theorem shl_eq (h : 0 < sumN w n) : sumN w n * shl v w n = sumN (shm v w n) n := by
  have e := sh_eq (v := v) (w := w) (n := n)
  have l := shq_le (v := v) h
  rw [shl, Nat.mul_sub, Nat.mul_comm (sumN w n) v]
  omega
theorem shm_lt (h : 0 < sumN w n) (i : Nat) : shm v w n i < sumN w n := Nat.mod_lt _ h
theorem shl_le (h : 0 < sumN w n) : shl v w n ≤ n := by
  have e := shl_eq (v := v) h
  have b : sumN (shm v w n) n ≤ sumN w n * n := sumN_bd (fun i _ => Nat.le_of_lt (shm_lt h i))
  exact Nat.le_of_mul_le_mul_left (by omega) h
/-- who is picked has a remainder -/
theorem dst_I (h : 0 < sumN w n) : ∀ t, t ≤ shl v w n → cnt (fun j => decide ((dst n t (shq v w n, fun i => shm v w n i + 1)).2 j = 0)) n ≤ t ∧ ∀ j, j < n → ((dst n t (shq v w n, fun i => shm v w n i + 1)).1 j = shq v w n j ∧ (dst n t (shq v w n, fun i => shm v w n i + 1)).2 j = shm v w n j + 1) ∨ ((dst n t (shq v w n, fun i => shm v w n i + 1)).1 j = shq v w n j + 1 ∧ (dst n t (shq v w n, fun i => shm v w n i + 1)).2 j = 0 ∧ 1 ≤ shm v w n j) := by
  intro t
  induction t with
  | zero =>
    intro _
    refine ⟨?_, fun j _ => Or.inl ⟨rfl, rfl⟩⟩
    rw [cnt_cg (q := fun _ => false) (fun i _ => by show decide (shm v w n i + 1 = 0) = false; simp)]
    have : ∀ m, cnt (fun _ => false) m = 0 := fun m => by
      induction m with
      | zero => rfl
      | succ m ih => rw [cnt_sn rfl, ih]
    rw [this]
    exact Nat.le_refl _
  | succ t ih =>
    intro ht
    obtain ⟨c1, c2⟩ := ih (by omega)
    have e := shl_eq (v := v) h
    show cnt (fun j => decide ((dst1 n (dst n t (shq v w n, fun i => shm v w n i + 1))).2 j = 0)) n ≤ t + 1 ∧ ∀ j, j < n → ((dst1 n (dst n t (shq v w n, fun i => shm v w n i + 1))).1 j = shq v w n j ∧ (dst1 n (dst n t (shq v w n, fun i => shm v w n i + 1))).2 j = shm v w n j + 1) ∨ ((dst1 n (dst n t (shq v w n, fun i => shm v w n i + 1))).1 j = shq v w n j + 1 ∧ (dst1 n (dst n t (shq v w n, fun i => shm v w n i + 1))).2 j = 0 ∧ 1 ≤ shm v w n j)
    generalize dst n t (shq v w n, fun i => shm v w n i + 1) = x at c1 c2 ⊢
    have hx : ∃ j, j < n ∧ 1 ≤ shm v w n j ∧ x.2 j = shm v w n j + 1 := by
      refine Classical.byContradiction fun hc => ?_
      have hz : ∀ j, j < n → shm v w n j ≤ (sumN w n - 1) * (if x.2 j = 0 then 1 else 0) := fun j hj => by
        rcases c2 j hj with k | k
        · have : shm v w n j = 0 := by
            rcases Nat.eq_zero_or_pos (shm v w n j) with z | z
            · exact z
            · exact absurd ⟨j, hj, z, k.2⟩ hc
          rw [this]; exact Nat.zero_le _
        · rw [if_pos k.2.1, Nat.mul_one]; have := shm_lt (v := v) h j; omega
      have h1 := sumN_le hz
      rw [sumN_mul] at h1
      have hcnt : ∀ m, sumN (fun j => if x.2 j = 0 then 1 else 0) m = cnt (fun j => decide (x.2 j = 0)) m := fun m => by
        induction m with
        | zero => rfl
        | succ m ih =>
          by_cases z : x.2 m = 0
          · rw [sumN, cnt_s (by simpa using z), ih, if_pos z]
          · rw [sumN, cnt_sn (by simpa using z), ih, if_neg z]; rfl
      rw [hcnt] at h1
      have h2 : (sumN w n - 1) * cnt (fun j => decide (x.2 j = 0)) n ≤ (sumN w n - 1) * t := Nat.mul_le_mul_left _ c1
      have h3 : sumN w n * (t + 1) ≤ sumN w n * shl v w n := Nat.mul_le_mul_left _ ht
      have h4 : (sumN w n - 1) * t ≤ sumN w n * t := Nat.mul_le_mul_right _ (by omega)
      rw [Nat.mul_succ] at h3
      omega
    obtain ⟨j0, j1, j2, j3⟩ := hx
    have hn : 0 < n := by omega
    have hg := mxi_lt (R := x.2) hn
    have hm := mxi_ge (R := x.2) j1
    generalize hgg : mxi x.2 n = g at hg hm
    have kg : x.1 g = shq v w n g ∧ x.2 g = shm v w n g + 1 := by
      rcases c2 g hg with k | k
      · exact k
      · have := k.2.1; omega
    have d1 : (dst1 n x).1 = up x.1 g (x.1 g + 1) := by rw [dst1, hgg]
    have d2 : (dst1 n x).2 = up x.2 g 0 := by rw [dst1, hgg]
    rw [d1, d2]
    refine ⟨?_, fun j hj => ?_⟩
    · have : ∀ m, cnt (fun j => decide (up x.2 g 0 j = 0)) m ≤ cnt (fun j => decide (x.2 j = 0)) m + (if g < m then 1 else 0) := fun m => by
        induction m with
        | zero => exact Nat.zero_le _
        | succ m ih =>
          by_cases z : m = g
          · rw [cnt_s (by show decide (up x.2 g 0 m = 0) = true; unfold up; rw [if_pos z]; rfl), if_pos (by omega)]
            rw [if_neg (by omega)] at ih
            have : cnt (fun j => decide (x.2 j = 0)) m ≤ cnt (fun j => decide (x.2 j = 0)) (m + 1) := cnt_mono (by omega)
            omega
          · have e2 : up x.2 g 0 m = x.2 m := if_neg z
            have ig : (if g < m + 1 then 1 else 0) = (if g < m then 1 else 0) := by
              by_cases y : g < m
              · rw [if_pos y, if_pos (by omega)]
              · rw [if_neg y, if_neg (by omega)]
            rw [ig]
            by_cases y : x.2 m = 0
            · rw [cnt_s (by show decide (up x.2 g 0 m = 0) = true; rw [e2]; simpa using y), cnt_s (p := fun j => decide (x.2 j = 0)) (by simpa using y)]
              omega
            · rw [cnt_sn (by show decide (up x.2 g 0 m = 0) = false; rw [e2]; simpa using y), cnt_sn (p := fun j => decide (x.2 j = 0)) (by simpa using y)]
              exact ih
      have h1 := this n
      rw [if_pos hg] at h1
      omega
    · by_cases z : j = g
      · refine Or.inr ⟨?_, ?_, ?_⟩
        · show up x.1 g (x.1 g + 1) j = _
          unfold up; rw [if_pos z, kg.1, z]
        · show up x.2 g 0 j = _
          unfold up; rw [if_pos z]
        · rw [z]; have := kg.2; omega
      · have a1 : up x.1 g (x.1 g + 1) j = x.1 j := if_neg z
        have a2 : up x.2 g 0 j = x.2 j := if_neg z
        rw [a1, a2]
        exact c2 j hj
theorem shr_le {i : Nat} (h : 0 < sumN w n) (hv : v ≤ sumN w n) (hi : i < n) : shr v w n i ≤ w i := by
  have q1 : shq v w n i ≤ w i := by
    unfold shq
    exact Nat.div_le_of_le_mul (Nat.mul_le_mul_right _ hv)
  rcases (dst_I (v := v) h (shl v w n) (Nat.le_refl _)).2 i hi with k | k
  · rw [shr, k.1]; exact q1
  · rw [shr, k.1]
    have m1 := k.2.2
    have e := Nat.div_add_mod (v * w i) (sumN w n)
    have hle : v * w i ≤ sumN w n * w i := Nat.mul_le_mul_right _ hv
    rcases Nat.lt_or_ge (shq v w n i) (w i) with z | z
    · exact z
    · have q2 : shq v w n i = w i := Nat.le_antisymm q1 z
      unfold shq at q2
      unfold shm at m1
      rw [q2] at e
      omega
end Shr
/-- remainders in memory: 0 stands for -1 -/
noncomputable def mr (x : Nat) : Int64 := lN x - 1
theorem mr_s (x : Nat) : mr (x + 1) = lN x := by rw [mr, ← lN_add, show lN 1 = (1 : Int64) from rfl, Int64.add_sub_cancel]
theorem mr_i {x : Nat} (h : x < 2 ^ 62) : (mr x).toInt = (x : Int) - 1 := by
  cases x with
  | zero => rfl
  | succ n => rw [mr_s, show (lN n).toInt = (n : Int) from Int64.toInt_ofNat_of_lt (by omega)]; omega
theorem mr_lt {x y : Nat} (hx : x < 2 ^ 62) (hy : y < 2 ^ 62) : mr x < mr y ↔ x < y := by
  rw [lt_i, mr_i hx, mr_i hy]; omega
