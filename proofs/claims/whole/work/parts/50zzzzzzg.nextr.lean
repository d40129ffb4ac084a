/-! PURE (50zzzzzzg): the reference goes to the next order. -/
section Nx
variable {N : mz_N} {a c : Nat → Nat} {n p : Nat}
theorem nI_m {k : Nat} (h : 1 ≤ k) : nI k + (-1) = nI (k - 1) := by rw [← nI_pr h]; exact (Int32.sub_eq_add_neg _ _).symm
theorem pv_skip : ∀ K k, pv a K < k → k ≤ K → a k < a (k - 1) := by
  intro K
  induction K with
  | zero => intro k h1 h2; omega
  | succ K ih =>
    intro k h1 h2
    rw [pv] at h1
    by_cases w : a (K + 1) < a K
    · rw [if_pos w] at h1
      by_cases e : k = K + 1
      · rw [e]; exact w
      · exact ih k h1 (by omega)
    · rw [if_neg w] at h1; omega
theorem jv_skip {v : Nat} : ∀ K k, jv a v K < k → k ≤ K → a k < v := by
  intro K
  induction K with
  | zero => intro k h1 h2; omega
  | succ K ih =>
    intro k h1 h2
    rw [jv] at h1
    by_cases w : a (K + 1) < v
    · rw [if_pos w] at h1
      by_cases e : k = K + 1
      · rw [e]; exact w
      · exact ih k h1 (by omega)
    · rw [if_neg w] at h1; omega
theorem jv_stop {v : Nat} : ∀ K, 0 < jv a v K → ¬ a (jv a v K) < v := by
  intro K
  induction K with
  | zero => intro h; exact absurd h (Nat.not_lt_zero _)
  | succ K ih =>
    intro h
    rw [jv] at h ⊢
    by_cases w : a (K + 1) < v
    · rw [if_pos w] at h ⊢; exact ih h
    · rw [if_neg w]; exact w
/-- the end is turned round, t places from each side -/
def rvt (p n t : Nat) (c : Nat → Nat) : Nat → Nat := fun i => if (p + 1 ≤ i ∧ i < p + 1 + t) ∨ (n - 1 - t < i ∧ i < n) then c (p + n - i) else c i
theorem turn_r (hn : n ≤ 6) (hp : p + 1 < n) (hc : ∀ i, i < n → N.1 299 i = nI (c i)) : cp_570_100 (nI (p + 1)) (nI (n - 1)) N ∧ ∃ g, cf_570_100 (nI (p + 1)) (nI (n - 1)) N = (true, mz_sI N 299 g) ∧ ∀ i, i < n → g i = nI (if p + 1 ≤ i then c (p + n - i) else c i) := by
  rw [cp_570_100, cf_570_100]
  refine mz_lpn (f := cq_570_100) (P := cd_570_100) (Q := fun r => ∃ g, r = (true, mz_sI N 299 g) ∧ ∀ i, i < n → g i = nI (if p + 1 ≤ i then c (p + n - i) else c i)) ((n - 1 - p) / 2) (fun t s => ∃ g, s = (nI (p + 1 + t), nI (n - 1 - t), mz_sI N 299 g) ∧ ∀ i, i < n → g i = nI (rvt p n t c i)) ?_ ?_ (Nat.zero_le _) ⟨N.1 299, by rw [sI_same]; rfl, fun i hi => ?_⟩
  · rintro t s ht ⟨g, rfl, hg⟩
    have l : nI (p + 1 + t) < nI (n - 1 - t) := (nI_ltI (by omega) (by omega)).mpr (by omega)
    have g1 : mz_gI (mz_sI N 299 g) 299 (nI (n - 1 - t)) = nI (c (n - 1 - t)) := by
      rw [gI_a, sI_e, nI_clamp (by omega), hg _ (by omega)]; unfold rvt; rw [if_neg (by omega)]
    have g2 : mz_gI (mz_sI N 299 g) 299 (nI (p + 1 + t)) = nI (c (p + 1 + t)) := by
      rw [gI_a, sI_e, nI_clamp (by omega), hg _ (by omega)]; unfold rvt; rw [if_neg (by omega)]
    have e1 : nI (n - 1 - t) + (-1) = nI (n - 1 - (t + 1)) := by
      rw [show (n - 1 - (t + 1)) = (n - 1 - t) - 1 by omega]; exact nI_m (by omega)
    rw [cd_570_100, cq_570_100]
    simp only [l, if_true, g1, g2, nI_1, e1]
    refine ⟨⟨fun _ => ⟨ib_n (by omega) (by omega), ib_n (by omega) (by omega), ib_n (by omega) (by omega), ib_n (by omega) (by omega)⟩, fun z => absurd trivial z⟩, Or.inl ⟨_, rfl, upd (upd g (p + 1 + t) (nI (c (n - 1 - t)))) (n - 1 - t) (nI (c (p + 1 + t))), ?_, fun i hi => ?_⟩⟩
    · simp (disch := omega) only [wI_s, nI_clamp, sI_e, sI_sI, Nat.add_assoc (p + 1) t 1]
    · rw [up_a]
      by_cases y : i = n - 1 - t
      · rw [if_pos y]; unfold rvt; rw [if_pos (by omega), show p + n - i = p + 1 + t by omega]
      · rw [if_neg y, up_a]
        by_cases y2 : i = p + 1 + t
        · rw [if_pos y2]; unfold rvt; rw [if_pos (by omega), show p + n - i = n - 1 - t by omega]
        · rw [if_neg y2, hg i hi]; unfold rvt
          by_cases y3 : (p + 1 ≤ i ∧ i < p + 1 + t) ∨ (n - 1 - t < i ∧ i < n)
          · rw [if_pos y3, if_pos (by omega)]
          · rw [if_neg y3, if_neg (by omega)]
  · rintro s ⟨g, rfl, hg⟩
    have l : ¬ nI (p + 1 + (n - 1 - p) / 2) < nI (n - 1 - (n - 1 - p) / 2) := fun z => by have := (nI_ltI (by omega) (by omega)).mp z; omega
    rw [cd_570_100, cq_570_100]
    simp only [l, if_false]
    refine ⟨⟨False.elim, fun _ => trivial⟩, _, rfl, g, rfl, fun i hi => ?_⟩
    rw [hg i hi]; unfold rvt
    by_cases y : p + 1 ≤ i
    · rw [if_pos y]
      by_cases y2 : (p + 1 ≤ i ∧ i < p + 1 + (n - 1 - p) / 2) ∨ (n - 1 - (n - 1 - p) / 2 < i ∧ i < n)
      · rw [if_pos y2]
      · rw [if_neg y2, show p + n - i = i by omega]
    · rw [if_neg y, if_neg (by omega)]
  · rw [hc i hi]; unfold rvt; rw [if_neg (by omega)]
theorem next_r (h1 : 1 ≤ n) (h6 : n ≤ 6) (ha : ∀ i, i < n → N.1 299 i = nI (a i) ∧ a i < 6) : cp_570_0 (nI n) N ∧ (pv a (n - 1) = 0 → cf_570_0 (nI n) N = (false, N)) ∧ (0 < pv a (n - 1) → ∃ g, cf_570_0 (nI n) N = (true, mz_sI N 299 g) ∧ ∀ i, i < n → g i = nI (nxa n a (pv a (n - 1) - 1) i)) := by
  have gi : ∀ i, i < n → mz_gI N 299 (nI i) = nI (a i) := fun i hi => by rw [gI_a, nI_clamp (by omega)]; exact (ha i hi).1
  have lt : ∀ i j, i < n → j < n → ((nI (a i) < nI (a j)) = (a i < a j)) := fun i j hi hj => propext (nI_ltI (by have := (ha i hi).2; omega) (by have := (ha j hj).2; omega))
  have hpl := pv_le (a := a) (n - 1)
  -- what is done where p gives way
  have tail : 0 < pv a (n - 1) → cp_570_31 (nI n) (nI (pv a (n - 1) - 1)) N ∧ ∃ g, cf_570_31 (nI n) (nI (pv a (n - 1) - 1)) N = (true, mz_sI N 299 g) ∧ ∀ i, i < n → g i = nI (nxa n a (pv a (n - 1) - 1) i) := fun h0 => by
    have hup := pv_up (a := a) (n - 1) h0
    obtain ⟨p, hp⟩ : ∃ p, pv a (n - 1) = p + 1 := ⟨pv a (n - 1) - 1, by omega⟩
    rw [hp] at hup hpl ⊢
    have hup' : ¬ a (p + 1) < a p := hup
    have e0 : p + 1 - 1 = p := by omega
    rw [e0]
    have n0 := (nI_neg2 (k := p) (by omega)).2
    have hj1 := jv_ge (a := a) (v := a p) hup' (n - 1) (by omega)
    have hj2 := jv_le (a := a) (v := a p) (n - 1)
    have hstop := jv_stop (a := a) (v := a p) (n - 1) (by omega)
    have hskip := jv_skip (a := a) (v := a p) (n - 1)
    obtain ⟨j, hj⟩ : ∃ j, jv a (a p) (n - 1) = j := ⟨_, rfl⟩
    have hnx : ∀ i, nxa n a p i = if p + 1 ≤ i ∧ i < n then swp a p j (p + n - i) else swp a p j i := fun i => by unfold nxa; rw [hj]
    rw [hj] at hj1 hj2 hstop hskip
    have e1 : nI n - 1 = nI (n - 1) := nI_pr h1
    have e2 : nI p + 1 = nI (p + 1) := nI_1 p
    have ibp : mz_ib (nI p) 6 := ib_n (by omega) (by omega)
    have ibj : mz_ib (nI j) 6 := ib_n (by omega) (by omega)
    have sw : ∀ i, i < n → (mz_wI (mz_wI N 299 (nI p) (nI (a j))) 299 (nI j) (nI (a p))).1 299 i = nI (swp a p j i) := fun i hi => by
      rw [wI_at (by omega), wI_at (by omega)]; unfold swp
      by_cases y : i = j
      · rw [if_pos y, if_neg (by omega), if_pos y]
      · rw [if_neg y]
        by_cases y2 : i = p
        · rw [if_pos y2, if_pos y2]
        · rw [if_neg y2, if_neg y2, if_neg y]; exact (ha i hi).1
    obtain ⟨t1, g, t2, t3⟩ := turn_r (N := mz_wI (mz_wI N 299 (nI p) (nI (a j))) 299 (nI j) (nI (a p))) (c := swp a p j) (p := p) h6 (by omega) sw
    have loop : cp_570_41 (nI n) (nI p) (nI (n - 1)) N ∧ cf_570_41 (nI n) (nI p) (nI (n - 1)) N = (true, mz_sI (mz_wI (mz_wI N 299 (nI p) (nI (a j))) 299 (nI j) (nI (a p))) 299 g) := by
      rw [cp_570_41, cf_570_41]
      refine mz_lps (f := cq_570_41 (nI n) (nI p) N) (P := cd_570_41 (nI n) (nI p) N) (n - 1 - j) (fun t => nI (n - 1 - t)) (fun t ht => ?_) ?_ (k := 0) (Nat.zero_le _)
      · have l : a (n - 1 - t) < a p := hskip (n - 1 - t) (by omega) (by omega)
        have em : nI (n - 1 - t) + (-1) = nI (n - 1 - (t + 1)) := by
          rw [show (n - 1 - (t + 1)) = (n - 1 - t) - 1 by omega]; exact nI_m (by omega)
        have l' : nI (a (n - 1 - t)) < nI (a p) := by rw [lt _ _ (by omega) (by omega)]; exact l
        rw [cd_570_41, cq_570_41, gi _ (by omega), gi p (by omega), em, if_pos l']
        exact ⟨⟨ib_n (by omega) (by omega), ibp, fun _ => trivial, fun z => absurd l' z⟩, rfl⟩
      · have hs' : ¬ nI (a j) < nI (a p) := by rw [lt _ _ (by omega) (by omega)]; exact hstop
        rw [show n - 1 - (n - 1 - j) = j by omega, cd_570_41, cq_570_41, gi _ (by omega), gi p (by omega), if_neg hs', e1, e2, t2]
        exact ⟨⟨ibj, ibp, fun z => absurd z hs', fun _ => ⟨ibp, ibj, ibp, ibj, t1⟩⟩, rfl⟩
    rw [cp_570_31, cf_570_31, if_neg n0, e1, loop.2]
    refine ⟨⟨fun z => absurd z n0, fun _ => loop.1⟩, g, ?_, fun i hi => ?_⟩
    · refine Prod.ext rfl ?_
      show mz_sI _ 299 g = mz_sI N 299 g
      rw [wI_s, sI_sI, wI_s, sI_sI]
    · rw [t3 i hi, hnx]
      by_cases y : p + 1 ≤ i
      · rw [if_pos y, if_pos ⟨y, hi⟩]
      · rw [if_neg y, if_neg (fun z => y z.1)]
  -- the search
  have sk : ∀ k, k ≤ 5 → nI (k + 1) - 1 = nI k := fun k _ => nI_pr (k := k + 1) (by omega)
  have st : nI n - 2 = nI (n - 1) - 1 := by
    rcases (show n = 1 ∨ n = 2 ∨ n = 3 ∨ n = 4 ∨ n = 5 ∨ n = 6 by omega) with w | w | w | w | w | w <;> subst w <;> decide
  have run : ∀ r, (cd_570_4 (nI n) N (nI (pv a (n - 1)) - 1) ∧ cq_570_4 (nI n) N (nI (pv a (n - 1)) - 1) = .inr r) → cp_570_0 (nI n) N ∧ cf_570_0 (nI n) N = r := fun r hr => by
    rw [cp_570_0, cf_570_0, cp_570_4, cf_570_4, st]
    refine mz_lps (f := cq_570_4 (nI n) N) (P := cd_570_4 (nI n) N) (n - 1 - pv a (n - 1)) (fun t => nI (n - 1 - t) - 1) (fun t ht => ?_) ?_ (k := 0) (Nat.zero_le _)
    · obtain ⟨k, hk⟩ : ∃ k, n - 1 - t = k + 1 := ⟨n - 1 - t - 1, by omega⟩
      have l : a (k + 1) < a k := by
        have := pv_skip (a := a) (n - 1) (k + 1) (by omega) (by omega)
        exact this
      have n0 := (nI_neg2 (k := k) (by omega)).2
      have em : nI k + (-1) = nI (n - 1 - (t + 1)) - 1 := by rw [show n - 1 - (t + 1) = k by omega]; exact (Int32.sub_eq_add_neg _ _).symm
      have l' : nI (a (k + 1)) < nI (a k) := by rw [lt _ _ (by omega) (by omega)]; exact l
      rw [hk, sk k (by omega), cd_570_4, cq_570_4, if_neg n0, nI_1, gi _ (by omega), gi k (by omega), if_pos l', em]
      exact ⟨⟨fun z => absurd z n0, fun _ => ⟨ib_n (by omega) (by omega), ib_n (by omega) (by omega), fun _ => trivial, fun z => absurd l' z⟩⟩, rfl⟩
    · rw [show n - 1 - (n - 1 - pv a (n - 1)) = pv a (n - 1) by omega]; exact hr
  by_cases w : pv a (n - 1) = 0
  · have m0 : (nI 0 - 1 : Int32) < 0 := by decide
    obtain ⟨r1, r2⟩ := run (false, N) (by
      rw [w, cd_570_4, cq_570_4, if_pos m0, cp_570_31, cf_570_31, if_pos m0]
      exact ⟨⟨fun _ => ⟨fun _ => trivial, fun z => absurd m0 z⟩, fun z => absurd m0 z⟩, rfl⟩)
    exact ⟨r1, fun _ => r2, fun z => absurd w (by omega)⟩
  · obtain ⟨t1, g, t2, t3⟩ := tail (by omega)
    have hup := pv_up (a := a) (n - 1) (by omega)
    obtain ⟨p, hp⟩ : ∃ p, pv a (n - 1) = p + 1 := ⟨pv a (n - 1) - 1, by omega⟩
    rw [hp] at t1 t2 hup hpl
    have e0 : p + 1 - 1 = p := by omega
    rw [e0] at t1 t2 hup
    have n0 := (nI_neg2 (k := p) (by omega)).2
    have hs' : ¬ nI (a (p + 1)) < nI (a p) := by rw [lt _ _ (by omega) (by omega)]; exact hup
    obtain ⟨r1, r2⟩ := run (true, mz_sI N 299 g) (by
      rw [hp, sk p (by omega), cd_570_4, cq_570_4, if_neg n0, nI_1, gi _ (by omega), gi p (by omega), if_neg hs', t2]
      exact ⟨⟨fun z => absurd z n0, fun _ => ⟨ib_n (by omega) (by omega), ib_n (by omega) (by omega), fun z => absurd z hs', fun _ => t1⟩⟩, rfl⟩)
    exact ⟨r1, fun z => absurd z (by omega), fun _ => ⟨g, r2, t3⟩⟩
end Nx
