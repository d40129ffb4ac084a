/-! PURE (37): bytes of keys: how they are laid on both sides. -/
/-- 28 bytes in the class's stage -/
def stg (i : Nat) (g : Nat → Nat) (o : Nat → Int32) : Nat → Int32 := fun j => if 28 * i ≤ j ∧ j < 28 * i + 28 then nI (g (j - 28 * i)) else o j
/-- 28 bytes in the reference's row -/
def stm (g : Nat → Nat) (o : Nat → Int32) : Nat → Int32 := fun j => if j < 28 then by8 (g j) else o j
/-- k bytes of a number at p -/
def pb (g : Nat → Nat) (p k : Nat) (v : Int64) : Nat → Nat := fun j => if p ≤ j ∧ j < p + k then lb v (j - p) else g j
/-- small numbers packed, w a byte, m bits each -/
def orp (w m : Nat) (f : Nat → Nat) : Nat → Nat → Nat
  | 0 => fun _ => 0
  | n + 1 => up (orp w m f n) (n / w) (orp w m f n (n / w) ||| f n <<< (m * (n % w)))
/-- bytes as they are -/
def cut (n : Nat) (f : Nat → Nat) : Nat → Nat := fun j => if j < n then f j else 0
/-- numbers of two bytes -/
def wrd (f : Nat → Int64) : Nat → Nat → Nat
  | 0 => fun _ => 0
  | n + 1 => pb (wrd f n) (2 * n) 2 (f n)
section Stg
variable {M : mz_N} {i p k : Nat} {g h : Nat → Nat} {o : Nat → Int32} {v : Int64}
theorem stg_up {x : Nat} (hp : p < 28) : upd (stg i g o) (28 * i + p) (nI x) = stg i (up g p x) o := by
  funext j
  rw [up_a]
  unfold stg
  rw [up_d]
  by_cases w : j = 28 * i + p
  · rw [if_pos w, if_pos (by omega), if_pos (by omega)]
  · rw [if_neg w]
    by_cases w2 : 28 * i ≤ j ∧ j < 28 * i + 28
    · rw [if_pos w2, if_pos w2, if_neg (by omega)]
    · rw [if_neg w2, if_neg w2]
theorem stg_w {x : Nat} (hp : p < 28) (hi : i < 16) : mz_wI (mz_sI M 227 (stg i g o)) 227 (nI (28 * i + p)) (nI x) = mz_sI M 227 (stg i (up g p x) o) := by
  rw [wI_s, sI_e, sI_sI, nI_clamp (by omega), stg_up hp]
theorem stg_n (hp : p + k ≤ 28) (hk : k ≤ 8) (hi : i < 16) : cp_14_0 227 448 (nI (28 * i + p)) (nI k) v (mz_sI M 227 (stg i g o)) ∧ cf_14_0 227 448 (nI (28 * i + p)) (nI k) v (mz_sI M 227 (stg i g o)) = mz_sI M 227 (stg i (pb g p k v) o) := by
  obtain ⟨q1, f, q2, q3⟩ := wr_c (a := 227) (n := 448) (p := 28 * i + p) (k := k) (v := v) (N := mz_sI M 227 (stg i g o)) (by omega) (by omega) hk
  refine ⟨q1, ?_⟩
  rw [q2, sI_sI]
  congr 1
  funext j
  rw [q3, sI_e]
  unfold stg pb
  by_cases w : 28 * i + p ≤ j ∧ j < 28 * i + p + k
  · rw [if_pos w, if_pos (by omega), if_pos (by omega), show j - (28 * i + p) = j - 28 * i - p by omega]
  · rw [if_neg w]
    by_cases w2 : 28 * i ≤ j ∧ j < 28 * i + 28
    · rw [if_pos w2, if_pos w2, if_neg (by omega)]
    · rw [if_neg w2, if_neg w2]
theorem stg_0 (hi : i < 16) : cp_45_0 227 448 (nI (28 * i)) (nI (28 * i) + 28) 0 M ∧ cf_45_0 227 448 (nI (28 * i)) (nI (28 * i) + 28) 0 M = mz_sI M 227 (stg i (fun _ => 0) (M.1 227)) := by
  have e : nI (28 * i) + 28 = nI (28 * i + 28) := by rw [show (28 : Int32) = nI 28 from rfl, nI_add]
  rw [cp_45_0, cf_45_0, e]
  have key : cp_45_10 227 448 (nI (28 * i + 28)) 0 (nI (28 * i)) M ∧ cf_45_10 227 448 (nI (28 * i + 28)) 0 (nI (28 * i)) M = mz_sI M 227 (stg i (fun _ => 0) (M.1 227)) := by
    refine mz_lpn (f := cq_45_10 227 448 (nI (28 * i + 28)) 0) (P := cd_45_10 227 448 (nI (28 * i + 28)) 0) (Q := fun t => t = mz_sI M 227 (stg i (fun _ => 0) (M.1 227))) (28 * i + 28) (fun t s => ∃ f, s = (nI t, mz_sI M 227 f) ∧ 28 * i ≤ t ∧ ∀ j, f j = if 28 * i ≤ j ∧ j < t then 0 else M.1 227 j) ?_ ?_ (show 28 * i ≤ 28 * i + 28 by omega) ⟨M.1 227, by rw [sI_same], Nat.le_refl _, fun j => by rw [if_neg (by omega)]⟩
    · rintro t s ht ⟨f, rfl, h1, hf⟩
      have hlt : nI t < nI (28 * i + 28) := (nI_ltI (by omega) (by omega)).mpr ht
      rw [cd_45_10, cq_45_10]
      simp only [hlt, if_true, nI_1]
      refine ⟨⟨fun _ => ib_n (by omega) (by omega), fun w => absurd trivial w⟩, Or.inl ⟨_, rfl, upd f t 0, ?_, by omega, ?_⟩⟩
      · rw [wI_s, sI_e, sI_sI, nI_clamp (by omega)]
      · intro j
        rw [up_a, hf]
        by_cases y : j = t
        · rw [if_pos y, if_pos (by omega)]
        · rw [if_neg y]
          by_cases w : 28 * i ≤ j ∧ j < t
          · rw [if_pos w, if_pos (by omega)]
          · rw [if_neg w, if_neg (by omega)]
    · rintro s ⟨f, rfl, h1, hf⟩
      have hlt : ¬ nI (28 * i + 28) < nI (28 * i + 28) := fun w => by have := (nI_ltI (by omega) (by omega)).mp w; omega
      rw [cd_45_10, cq_45_10]
      simp only [hlt, if_false]
      refine ⟨⟨False.elim, fun _ => trivial⟩, _, rfl, ?_⟩
      congr 1
      funext j
      rw [hf]
      unfold stg
      split <;> rfl
  have r1 : ¬ nI (28 * i + 28) < nI (28 * i) := fun w => by have := (nI_ltI (by omega) (by omega)).mp w; omega
  have r2 : ¬ nI 448 < nI (28 * i + 28) := fun w => by have := (nI_ltI (by omega) (by omega)).mp w; omega
  exact ⟨⟨⟨fun w => r1 w, fun _ => ⟨fun w => (nI_lt0 (show 28 * i < 2 ^ 31 by omega)).mp w, fun _ => ⟨fun w => r2 w, fun _ => trivial⟩⟩⟩, key.1⟩, key.2⟩
theorem stg_y {q s : Nat} {f : Nat → Nat} (hq : q ≠ 227) (hi : i < 16) (hs : s + 24 < 2 ^ 30) (hf : ∀ t, t < 24 → M.1 q (s + t) = nI (f t)) : mz_yI (mz_sI M 227 (stg i (fun _ => 0) o)) q (nI s) 227 (nI (28 * i)) 24 = mz_sI M 227 (stg i (cut 24 f) o) := by
  rw [yI_s, show (24 : Int32) = nI 24 from rfl, nI_clamp (by omega), nI_clamp (by omega), nI_clamp (by omega), sI_n hq, sI_e, sI_sI]
  congr 1
  funext j
  rw [cpy_a]
  unfold stg cut
  by_cases w : 28 * i ≤ j ∧ j < 28 * i + 24
  · rw [if_pos w, if_pos (by omega), if_pos (by omega), hf _ (by omega)]
  · rw [if_neg w]
    by_cases w2 : 28 * i ≤ j ∧ j < 28 * i + 28
    · rw [if_pos w2, if_pos w2, if_neg (by omega)]
    · rw [if_neg w2, if_neg w2]
/-- the reference's side -/
theorem stm_up {x : Nat} (hp : p < 28) : upd (stm g o) p (by8 x) = stm (up g p x) o := by
  funext j
  rw [up_a]
  unfold stm
  rw [up_d]
  by_cases w : j = p
  · rw [if_pos w, if_pos (by omega), if_pos w]
  · rw [if_neg w, if_neg w]
theorem stm_w {x : Nat} (hp : p < 28) : mz_wI (mz_sI M 332 (stm g o)) 332 (nI p) (by8 x) = mz_sI M 332 (stm (up g p x) o) := by
  rw [wI_s, sI_e, sI_sI, nI_clamp (by omega), stm_up hp]
theorem stm_n (hp : p + k ≤ 28) (hk : k ≤ 8) : cp_410_0 (nI p) (nI k) v (mz_sI M 332 (stm g o)) ∧ cf_410_0 (nI p) (nI k) v (mz_sI M 332 (stm g o)) = mz_sI M 332 (stm (pb g p k v) o) := by
  obtain ⟨q1, f, q2, q3⟩ := wr_m (p := p) (k := k) (v := v) (N := mz_sI M 332 (stm g o)) (by omega) hk
  refine ⟨q1, ?_⟩
  rw [q2, sI_sI]
  congr 1
  funext j
  rw [q3, sI_e]
  unfold stm pb
  by_cases w : p ≤ j ∧ j < p + k
  · rw [if_pos w, if_pos (by omega), if_pos (by omega)]
  · rw [if_neg w]
    by_cases w2 : j < 28
    · rw [if_pos w2, if_pos w2, if_neg (by omega)]
    · rw [if_neg w2, if_neg w2]
end Stg
