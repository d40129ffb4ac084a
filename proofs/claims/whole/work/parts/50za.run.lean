/-! PURE (50za): runs of characters; both skip spaces alike. -/
/-- how many places from p on, below n, satisfy P -/
def rlf (P : Nat → Bool) (n : Nat) : Nat → Nat → Nat
  | 0, _ => 0
  | f + 1, p => if p < n ∧ P p = true then rlf P n f (p + 1) + 1 else 0
def rl (P : Nat → Bool) (n p : Nat) : Nat := rlf P n (n - p) p
theorem rlf_ok {P : Nat → Bool} {n : Nat} : ∀ f p, n - p ≤ f → p ≤ n → p + rlf P n f p ≤ n ∧ (∀ i, i < rlf P n f p → P (p + i) = true) ∧ (p + rlf P n f p < n → P (p + rlf P n f p) = false) := by
  intro f
  induction f with
  | zero =>
    intro p h1 h2
    show p + 0 ≤ n ∧ (∀ i, i < 0 → P (p + i) = true) ∧ (p + 0 < n → P (p + 0) = false)
    exact ⟨by omega, fun i hi => by omega, fun h => by omega⟩
  | succ f ih =>
    intro p h1 h2
    have e : rlf P n (f + 1) p = if p < n ∧ P p = true then rlf P n f (p + 1) + 1 else 0 := rfl
    rw [e]
    by_cases w : p < n ∧ P p = true
    · rw [if_pos w]
      obtain ⟨a, c, d⟩ := ih (p + 1) (by omega) (by omega)
      refine ⟨by omega, fun i hi => ?_, fun h => ?_⟩
      · by_cases y : i = 0
        · rw [y]; exact w.2
        · rw [show p + i = p + 1 + (i - 1) by omega]; exact c (i - 1) (by omega)
      · rw [show p + (rlf P n f (p + 1) + 1) = p + 1 + rlf P n f (p + 1) by omega]; exact d (by omega)
    · rw [if_neg w]
      refine ⟨by omega, fun i hi => by omega, fun h => ?_⟩
      rw [Nat.add_zero] at h ⊢
      cases e2 : P p with
      | false => rfl
      | true => exact absurd ⟨h, e2⟩ w
theorem rl_ok {P : Nat → Bool} {n p : Nat} (h : p ≤ n) : p + rl P n p ≤ n ∧ (∀ i, i < rl P n p → P (p + i) = true) ∧ (p + rl P n p < n → P (p + rl P n p) = false) := rlf_ok (n - p) p (Nat.le_refl _) h
def spc (tx : Nat → Nat) (i : Nat) : Bool := decide (tx i = 32)
section Skp
variable {N : mz_N} {o n p : Nat} {tx : Nat → Nat}
/-- the class's reader: text and length -/
def rd_t (N : mz_N) (o n : Nat) (tx : Nat → Nat) : Prop := N.1 o 1 = nI n ∧ ∀ j, j < n → N.1 (o + 1) j = nI (tx j)
theorem skip_c (hn : n ≤ 196) (ht : rd_t N o n tx) (htx : ∀ j, tx j < 128) (h8 : N.1 o 8 = nI p) (hp : p ≤ n) (he : cp_24_38 o (mz_pI N o 8 (nI (p + rl (spc tx) n p)))) : cp_24_0 o N ∧ cf_24_0 o N = cf_24_38 o (mz_pI N o 8 (nI (p + rl (spc tx) n p))) := by
  obtain ⟨r1, r2, r3⟩ := rl_ok (P := spc tx) hp
  obtain ⟨t1, t2⟩ := ht
  have e0 : mz_pI N o 8 (nI (p + 0)) = N := by
    rw [Nat.add_zero, ← h8, pI_s, show upd (N.1 o) 8 (N.1 o 8) = N.1 o from funext fun j => by rw [up_a]; split <;> simp_all, sI_same]
  have g8 : ∀ v, (mz_pI N o 8 v).1 o 8 = v := fun v => by rw [pI_s, sI_e, up_a, if_pos rfl]
  have g1 : ∀ v, (mz_pI N o 8 v).1 o 1 = nI n := fun v => by rw [pI_s, sI_e, up_a, if_neg (by decide)]; exact t1
  have gt : ∀ v j, j < n → mz_gI (mz_pI N o 8 v) (o + 1) (nI j) = nI (tx j) := fun v j hj => by
    rw [gI_a, pI_s, sI_n (by omega), nI_clamp (by omega)]; exact t2 j hj
  have epp : ∀ v w, mz_pI (mz_pI N o 8 v) o 8 w = mz_pI N o 8 w := fun v w => by
    rw [pI_s, pI_s, sI_e, sI_sI, pI_s]
    congr 1
    funext j
    rw [up_a, up_a, up_a]
    split <;> rfl
  generalize hk : rl (spc tx) n p = k at *
  refine mz_lpn (f := cq_24_0 o) (P := cd_24_0 o) (Q := fun t => t = cf_24_38 o (mz_pI N o 8 (nI (p + k)))) k (fun t s => s = mz_pI N o 8 (nI (p + t))) ?_ ?_ (Nat.zero_le _) e0.symm
  · rintro t s ht rfl
    have hlt : nI (p + t) < nI n := (nI_ltI (by omega) (by omega)).mpr (by omega)
    have hs : tx (p + t) = 32 := by simpa [spc] using r2 t ht
    have e32 : nI (tx (p + t)) = 32 := by rw [hs]; rfl
    have i1 : mz_ib (nI (p + t)) 196 := ib_n (by omega) (by omega)
    rw [cd_24_0, cq_24_0]
    simp only [g8, g1, gt _ (p + t) (by omega), hlt, if_true, e32, nI_1, epp]
    refine ⟨?_, Or.inl ⟨_, rfl, by rw [Nat.add_assoc]⟩⟩
    exact ⟨fun _ => ⟨i1, fun _ => trivial, fun w => absurd trivial w⟩, fun w => absurd trivial w⟩
  · rintro s rfl
    rw [cd_24_0, cq_24_0]
    simp only [g8, g1]
    by_cases w : p + k < n
    · have hlt : nI (p + k) < nI n := (nI_ltI (by omega) (by omega)).mpr w
      have hs : ¬ tx (p + k) = 32 := by simpa [spc] using r3 w
      have e32 : ¬ nI (tx (p + k)) = 32 := fun q => hs ((nI_eq (b := 32) (by have := htx (p + k); omega) (by omega)).mp q)
      have i1 : mz_ib (nI (p + k)) 196 := ib_n (by omega) (by omega)
      simp only [gt _ (p + k) w, hlt, if_true, e32, if_false]
      exact ⟨⟨fun _ => ⟨i1, False.elim, fun _ => he⟩, fun q => absurd trivial q⟩, _, rfl, rfl⟩
    · have hlt : ¬ nI (p + k) < nI n := fun q => w ((nI_ltI (by omega) (by omega)).mp q)
      simp only [hlt, if_false]
      exact ⟨⟨False.elim, fun _ => he⟩, _, rfl, rfl⟩
end Skp
