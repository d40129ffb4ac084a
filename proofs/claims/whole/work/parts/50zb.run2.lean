/-! PURE (50zb): the reference skips spaces; both run over a word. -/
theorem pI_same {N : mz_N} {o fd : Nat} {v : Int32} (h : N.1 o fd = v) : mz_pI N o fd v = N := by
  rw [← h, pI_s, show upd (N.1 o) fd (N.1 o fd) = N.1 o from funext fun j => by rw [up_a]; split <;> simp_all, sI_same]
theorem pI_pI {N : mz_N} {o fd : Nat} {v w : Int32} : mz_pI (mz_pI N o fd v) o fd w = mz_pI N o fd w := by
  rw [pI_s, pI_s, sI_e, sI_sI, pI_s]
  congr 1
  funext j
  rw [up_a, up_a, up_a]
  split <;> rfl
/-- a loop that runs a field on -/
theorem lp_run {β : Type} [Nonempty β] {f : mz_N → mz_N ⊕ β} {P : mz_N → Prop} {N : mz_N} {p : Nat} (o fd k : Nat) (R : mz_N → β) (h0 : N.1 o fd = nI p)
    (hs : ∀ t, t < k → P (mz_pI N o fd (nI (p + t))) ∧ f (mz_pI N o fd (nI (p + t))) = .inl (mz_pI N o fd (nI (p + t + 1))))
    (he : P (mz_pI N o fd (nI (p + k))) ∧ f (mz_pI N o fd (nI (p + k))) = .inr (R (mz_pI N o fd (nI (p + k))))) :
    (∃ m, mz_ok f P m N) ∧ mz_run f N = R (mz_pI N o fd (nI (p + k))) := by
  refine mz_lpn (f := f) (P := P) (Q := fun t => t = R (mz_pI N o fd (nI (p + k)))) k (fun t s => s = mz_pI N o fd (nI (p + t))) ?_ ?_ (Nat.zero_le _) (by rw [Nat.add_zero]; exact (pI_same h0).symm)
  · rintro t s ht rfl
    obtain ⟨a, c⟩ := hs t ht
    exact ⟨a, Or.inl ⟨_, c, rfl⟩⟩
  · rintro s rfl
    exact ⟨he.1, _, he.2, rfl⟩
section Rn2
variable {N : mz_N} {o n p : Nat} {tx : Nat → Nat}
/-- the reference's text and length -/
def rs_t (N : mz_N) (n : Nat) (tx : Nat → Nat) : Prop := N.1 232 147 = nI n ∧ ∀ j, j < n → N.1 338 j = nI (tx j)
theorem skip_r (hn : n ≤ 196) (ht : rs_t N n tx) (htx : ∀ j, tx j < 128) (h8 : N.1 232 148 = nI p) (hp : p ≤ n) (he : cp_440_38 (mz_pI N 232 148 (nI (p + rl (spc tx) n p)))) : cp_440_0 N ∧ cf_440_0 N = cf_440_38 (mz_pI N 232 148 (nI (p + rl (spc tx) n p))) := by
  obtain ⟨r1, r2, r3⟩ := rl_ok (P := spc tx) hp
  obtain ⟨t1, t2⟩ := ht
  have g8 : ∀ v, (mz_pI N 232 148 v).1 232 148 = v := fun v => by rw [pI_s, sI_e, up_a, if_pos rfl]
  have g1 : ∀ v, (mz_pI N 232 148 v).1 232 147 = nI n := fun v => by rw [pI_s, sI_e, up_a, if_neg (by decide)]; exact t1
  have gt : ∀ v j, j < n → mz_gI (mz_pI N 232 148 v) 338 (nI j) = nI (tx j) := fun v j hj => by
    rw [gI_a, pI_s, sI_n (by omega), nI_clamp (by omega)]; exact t2 j hj
  generalize hk : rl (spc tx) n p = k at *
  refine lp_run (f := cq_440_0) (P := cd_440_0) (N := N) (p := p) 232 148 k cf_440_38 h8 (fun t ht => ?_) ?_
  · have hlt : nI (p + t) < nI n := (nI_ltI (by omega) (by omega)).mpr (by omega)
    have hs : tx (p + t) = 32 := by simpa [spc] using r2 t ht
    have e32 : nI (tx (p + t)) = 32 := by rw [hs]; rfl
    have i1 : mz_ib (nI (p + t)) 196 := ib_n (by omega) (by omega)
    rw [cd_440_0, cq_440_0]
    simp only [g8, g1, gt _ (p + t) (by omega), hlt, if_true, e32, nI_1, pI_pI]
    exact ⟨⟨fun _ => ⟨i1, fun _ => trivial, fun w => absurd trivial w⟩, fun w => absurd trivial w⟩, trivial⟩
  · rw [cd_440_0, cq_440_0]
    simp only [g8, g1]
    by_cases w : p + k < n
    · have hlt : nI (p + k) < nI n := (nI_ltI (by omega) (by omega)).mpr w
      have hs : ¬ tx (p + k) = 32 := by simpa [spc] using r3 w
      have e32 : ¬ nI (tx (p + k)) = 32 := fun q => hs ((nI_eq (b := 32) (by have := htx (p + k); omega) (by omega)).mp q)
      have i1 : mz_ib (nI (p + k)) 196 := ib_n (by omega) (by omega)
      simp only [gt _ (p + k) w, hlt, if_true, e32, if_false]
      exact ⟨⟨fun _ => ⟨i1, False.elim, fun _ => he⟩, fun q => absurd trivial q⟩, trivial⟩
    · have hlt : ¬ nI (p + k) < nI n := fun q => w ((nI_ltI (by omega) (by omega)).mp q)
      simp only [hlt, if_false]
      exact ⟨⟨False.elim, fun _ => he⟩, trivial⟩
theorem p441 (v : Int32) : cp_441_0 v := by unfold cp_441_0 cp_441_12; simp
theorem p28 (v : Int32) : cp_28_0 v := by unfold cp_28_0 cp_28_12; simp
def wrc (tx : Nat → Nat) (i : Nat) : Bool := lt' (tx i) || dg (tx i)
theorem word_r (hn : n ≤ 196) (ht : rs_t N n tx) (htx : ∀ j, tx j < 128) (h8 : N.1 232 151 = nI p) (hp : p ≤ n) : cp_440_98 N ∧ cf_440_98 N = cf_440_302 (mz_pI N 232 151 (nI (p + rl (wrc tx) n p))) := by
  obtain ⟨r1, r2, r3⟩ := rl_ok (P := wrc tx) hp
  obtain ⟨t1, t2⟩ := ht
  have g8 : ∀ v, (mz_pI N 232 151 v).1 232 151 = v := fun v => by rw [pI_s, sI_e, up_a, if_pos rfl]
  have g1 : ∀ v, (mz_pI N 232 151 v).1 232 147 = nI n := fun v => by rw [pI_s, sI_e, up_a, if_neg (by decide)]; exact t1
  have gt : ∀ v j, j < n → mz_gI (mz_pI N 232 151 v) 338 (nI j) = nI (tx j) := fun v j hj => by
    rw [gI_a, pI_s, sI_n (by omega), nI_clamp (by omega)]; exact t2 j hj
  generalize hk : rl (wrc tx) n p = k at *
  refine lp_run (f := cq_440_98) (P := cd_440_98) (N := N) (p := p) 232 151 k cf_440_302 h8 (fun t ht => ?_) ?_
  · have hlt : nI (p + t) < nI n := (nI_ltI (by omega) (by omega)).mpr (by omega)
    have hs := r2 t ht
    obtain ⟨-, c2, -, c4, -⟩ := ch_ok (tx (p + t)) (htx _)
    have i1 : mz_ib (nI (p + t)) 196 := ib_n (by omega) (by omega)
    rw [cd_440_98, cq_440_98]
    simp only [g8, g1, gt _ (p + t) (by omega), hlt, if_true, c2, c4, cp_440_139, cf_440_139, nI_1, pI_pI]
    unfold wrc at hs
    cases e1 : lt' (tx (p + t)) with
    | true => simp [i1, p441]
    | false =>
      rw [e1, Bool.false_or] at hs
      simp [hs, i1, p441]
  · rw [cd_440_98, cq_440_98]
    simp only [g8, g1]
    by_cases w : p + k < n
    · have hlt : nI (p + k) < nI n := (nI_ltI (by omega) (by omega)).mpr w
      have hs := r3 w
      obtain ⟨-, c2, -, c4, -⟩ := ch_ok (tx (p + k)) (htx _)
      have i1 : mz_ib (nI (p + k)) 196 := ib_n (by omega) (by omega)
      unfold wrc at hs
      rw [Bool.or_eq_false_iff] at hs
      simp only [gt _ (p + k) w, hlt, if_true, c2, c4, hs.1, hs.2]
      simp [i1, cp_440_302, p441]
    · have hlt : ¬ nI (p + k) < nI n := fun q => w ((nI_ltI (by omega) (by omega)).mp q)
      simp only [hlt, if_false]
      simp [cp_440_302]
theorem word_c (hn : n ≤ 196) (ht : rd_t N o n tx) (htx : ∀ j, tx j < 128) (h8 : N.1 o 8 = nI p) (hp : p ≤ n) (he : cp_29_59 o (mz_pI N o 8 (nI (p + rl (wrc tx) n p)))) : cp_29_5 o N ∧ cf_29_5 o N = cf_29_59 o (mz_pI N o 8 (nI (p + rl (wrc tx) n p))) := by
  obtain ⟨r1, r2, r3⟩ := rl_ok (P := wrc tx) hp
  obtain ⟨t1, t2⟩ := ht
  have g8 : ∀ v, (mz_pI N o 8 v).1 o 8 = v := fun v => by rw [pI_s, sI_e, up_a, if_pos rfl]
  have g1 : ∀ v, (mz_pI N o 8 v).1 o 1 = nI n := fun v => by rw [pI_s, sI_e, up_a, if_neg (by decide)]; exact t1
  have gt : ∀ v j, j < n → mz_gI (mz_pI N o 8 v) (o + 1) (nI j) = nI (tx j) := fun v j hj => by
    rw [gI_a, pI_s, sI_n (by omega), nI_clamp (by omega)]; exact t2 j hj
  generalize hk : rl (wrc tx) n p = k at *
  refine lp_run (f := cq_29_5 o) (P := cd_29_5 o) (N := N) (p := p) o 8 k (cf_29_59 o) h8 (fun t ht => ?_) ?_
  · have hlt : nI (p + t) < nI n := (nI_ltI (by omega) (by omega)).mpr (by omega)
    have hs := r2 t ht
    obtain ⟨c1, -, c3, -, -⟩ := ch_ok (tx (p + t)) (htx _)
    have i1 : mz_ib (nI (p + t)) 196 := ib_n (by omega) (by omega)
    rw [cd_29_5, cq_29_5]
    simp only [g8, g1, gt _ (p + t) (by omega), hlt, if_true, c1, c3, cp_29_46, cf_29_46, nI_1, pI_pI]
    unfold wrc at hs
    cases e1 : lt' (tx (p + t)) with
    | true => simp [i1, p28]
    | false =>
      rw [e1, Bool.false_or] at hs
      simp [hs, i1, p28]
  · rw [cd_29_5, cq_29_5]
    simp only [g8, g1]
    by_cases w : p + k < n
    · have hlt : nI (p + k) < nI n := (nI_ltI (by omega) (by omega)).mpr w
      have hs := r3 w
      obtain ⟨c1, -, c3, -, -⟩ := ch_ok (tx (p + k)) (htx _)
      have i1 : mz_ib (nI (p + k)) 196 := ib_n (by omega) (by omega)
      unfold wrc at hs
      rw [Bool.or_eq_false_iff] at hs
      simp only [gt _ (p + k) w, hlt, if_true, c1, c3, hs.1, hs.2]
      simp [i1, he, p28]
    · have hlt : ¬ nI (p + k) < nI n := fun q => w ((nI_ltI (by omega) (by omega)).mp q)
      simp only [hlt, if_false]
      simp [he]
end Rn2
