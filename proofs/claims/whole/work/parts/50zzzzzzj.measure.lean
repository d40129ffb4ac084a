/-! PURE (50zzzzzzj): the class measures all ways. -/
section Ms
variable {N M : mz_N} {n m a j : Nat} {pl sp : Nat → Nat}
theorem gv_b (hs : ∀ j, sp j < 240) : ∀ k a l, a < 240 → gv wy sp k a l ≤ 60 * (k + 1) := by
  intro k
  induction k with
  | zero => intro a l ha; exact Nat.le_trans (wy_b ha (show 0 < 240 by omega)) (by omega)
  | succ k ih =>
    intro a l ha
    rw [gv]
    cases picks l with
    | nil => exact Nat.le_trans (wy_b ha (show 0 < 240 by omega)) (by omega)
    | cons y ys =>
      show (fun z : Nat × List Nat => wy a (sp z.1) + gv wy sp k (sp z.1) z.2) (fm (fun z : Nat × List Nat => wy a (sp z.1) + gv wy sp k (sp z.1) z.2) y ys) ≤ _
      generalize fm (fun z : Nat × List Nat => wy a (sp z.1) + gv wy sp k (sp z.1) z.2) y ys = z
      show wy a (sp z.1) + gv wy sp k (sp z.1) z.2 ≤ _
      have h1 := wy_b ha (hs z.1)
      have h2 := ih (sp z.1) z.2 (hs z.1)
      omega
theorem GV_b (hs : ∀ j, sp j < 240) (hn : n ≤ 6) (ha : a < 240) : GV wy sp n m a ≤ 500 := by
  unfold GV
  have h1 := gv_b hs (rem n m).length a (rem n m) ha
  have h2 : (rem n m).length ≤ n := by
    unfold rem
    have := List.length_filter_le (fun j => !m.testBit j) (List.range n)
    rw [List.length_range] at this
    exact this
  omega
/-- the ways on, by mask and place -/
def Wy (sp : Nat → Nat) (n : Nat) : Nat → Nat → Nat := fun k i => GV wy sp n k (sp i)
theorem bst_f {W : Nat → Nat → Nat} {k : Nat} (h : bst N n W k) (e : M.1 (144 + k) = N.1 (144 + k)) : bst M n W k := fun i hi => by rw [e]; exact h i hi
theorem spX_f (h : spX N n pl sp) (e1 : M.1 142 = N.1 142) (e2 : M.1 118 = N.1 118) (e3 : M.1 119 = N.1 119) : spX M n pl sp := fun i hi => by rw [e1, e2, e3]; exact h.a i hi
theorem step_v (h : spX N n pl sp) (hs : ∀ j, sp j < 240) (hn : n ≤ 6) (hm : m < 64) (ha : a < 240) (hB : ∀ j, j < n → m.testBit j = false → bst N n (Wy sp n) (m ||| 1 <<< j)) : (rem n m = [] → cf_343_0 (nI n) (nI m) (nI a) N = -1) ∧ (rem n m ≠ [] → ∃ j, j < n ∧ m.testBit j = false ∧ cf_343_0 (nI n) (nI m) (nI a) N = nI j ∧ GV wy sp n m a = wy a (sp j) + Wy sp n (m ||| 1 <<< j) j ∧ GP wy sp n m a = j :: GP wy sp n (m ||| 1 <<< j) (sp j)) := by
  obtain ⟨_, b2⟩ := best_c h hn hm ha hB
  have hf : (fun j => wy a (sp j) + Wy sp n (m ||| 1 <<< j) j) = gf wy sp n m a := rfl
  rw [hf, bn_L n hn] at b2
  refine ⟨fun e => ?_, fun e => ?_⟩
  · rw [b2, e]; rfl
  · have hj := rem_mem.mp (bnL_m (f := gf wy sp n m a) e)
    obtain ⟨g1, g2⟩ := GV_s (w := wy) (sp := sp) (a := a) (show n < 7 by omega) hm e
    refine ⟨_, hj.1, hj.2, ?_, g1, g2⟩
    rw [b2, nO_lt (by omega)]
theorem row_c (h : spX N n pl sp) (hs : ∀ j, sp j < 240) (h1 : 1 ≤ n) (hn : n ≤ 6) (hm0 : 1 ≤ m) (hm : m < 64) (hB : ∀ j, j < n → m.testBit j = false → bst N n (Wy sp n) (m ||| 1 <<< j)) : cp_341_12 (nI n) (nI m) 0 N ∧ ∃ g, cf_341_12 (nI n) (nI m) 0 N = .inl (nI m + (-1), mz_sI N (144 + m) g) ∧ ∀ x, x < n → g x = nI (Wy sp n m x) := by
  rw [cp_341_12, cf_341_12]
  refine mz_lpn (f := cq_341_12 (nI n) (nI m)) (P := cd_341_12 (nI n) (nI m)) (Q := fun r => ∃ g, r = .inl (nI m + (-1), mz_sI N (144 + m) g) ∧ ∀ x, x < n → g x = nI (Wy sp n m x)) n (fun i s => ∃ g, s = (nI i, mz_sI N (144 + m) g) ∧ ∀ x, x < i → g x = nI (Wy sp n m x)) ?_ ?_ (Nat.zero_le _) ⟨N.1 (144 + m), by rw [sI_same]; rfl, fun x hx => absurd hx (Nat.not_lt_zero x)⟩
  · rintro i s hi ⟨g, rfl, hg⟩
    have l : nI i < nI n := (nI_ltI (by omega) (by omega)).mpr hi
    have hX : spX (mz_sI N (144 + m) g) n pl sp := spX_f h (sI_n (by omega)) (sI_n (by omega)) (sI_n (by omega))
    have hB' : ∀ j, j < n → m.testBit j = false → bst (mz_sI N (144 + m) g) n (Wy sp n) (m ||| 1 <<< j) := fun j hj hb => bst_f (hB j hj hb) (sI_n (by have := (rem_in n (by omega) m hm j hj hb).2.2; omega))
    obtain ⟨p1, p2⟩ := spot_c hX hn hi
    have hsi := hs i
    obtain ⟨q1, _⟩ := best_c hX hn hm hsi hB'
    obtain ⟨v1, v2⟩ := step_v hX hs hn hm hsi hB'
    have im : mz_ib (nI m) 64 := ib_n hm (by omega)
    have ii : mz_ib (nI i) 6 := ib_n (by omega) (by omega)
    have cm : (nI m).toNatClampNeg = m := nI_clamp (by omega)
    have w0 : cf_345_0 (nI (sp i)) 0 = nI (wy (sp i) 0) := way_c hsi (show 0 < 240 by omega)
    rw [cd_341_12, cq_341_12]
    simp only [l, if_true, p2, cm]
    have fin : ∀ y, y = Wy sp n m i → ∃ s2, (Sum.inl (nI i + 1, mz_wI (mz_sI N (144 + m) g) (144 + m) (nI i) (nI y)) : (Int32 × mz_N) ⊕ ((Int32 × mz_N) ⊕ mz_N)) = Sum.inl s2 ∧ ∃ g, s2 = (nI (i + 1), mz_sI N (144 + m) g) ∧ ∀ x, x < i + 1 → g x = nI (Wy sp n m x) := fun y hy => by
      refine ⟨_, rfl, upd g i (nI y), ?_, fun x hx => ?_⟩
      · rw [nI_1, wI_s, nI_clamp (by omega), sI_e, sI_sI]
      · rw [up_a]
        by_cases e : x = i
        · rw [if_pos e, hy, e]
        · rw [if_neg e]; exact hg x (by omega)
    by_cases e : rem n m = []
    · have f1 := v1 e
      rw [f1, if_pos rfl, cf_341_67, w0]
      refine ⟨⟨fun _ => ⟨p1, q1, im, fun _ => ⟨p1, ii⟩, fun z => absurd rfl z⟩, fun z => absurd trivial z⟩, Or.inl (fin _ ?_)⟩
      show _ = GV wy sp n m (sp i)
      exact (GV_0 e).1.symm
    · obtain ⟨j, j1, j2, j3, j4, _⟩ := v2 e
      obtain ⟨o1, o2⟩ := over_c hX hn hm hsi j1 j2 (hB' j j1 j2)
      have nj := (nI_neg2 (k := j) (by omega)).1
      rw [j3, if_neg nj, cf_341_67, o2]
      exact ⟨⟨fun _ => ⟨p1, by rw [← j3] at *; exact q1, im, fun z => absurd z nj, fun _ => ⟨p1, o1, ii⟩⟩, fun z => absurd trivial z⟩, Or.inl (fin _ j4.symm)⟩
  · rintro s ⟨g, rfl, hg⟩
    have l : ¬ nI n < nI n := fun z => by have := (nI_ltI (by omega) (by omega)).mp z; omega
    rw [cd_341_12, cq_341_12]
    simp only [l, if_false]
    exact ⟨⟨False.elim, fun _ => trivial⟩, _, rfl, g, rfl, hg⟩
theorem or_ge : ∀ n, n < 7 → ∀ m, m < 2 ^ n → ∀ j, j < n → ((m.testBit j) || (decide (m < (m ||| 1 <<< j)) && decide ((m ||| 1 <<< j) < 2 ^ n))) = true := by decide +kernel
/-- all rows are measured -/
theorem ways_c (h : spX N n pl sp) (hs : ∀ j, sp j < 240) (h1 : 1 ≤ n) (hn : n ≤ 6) : cp_341_0 (nI n) N ∧ (∀ c, c < 145 ∨ 208 ≤ c → (cf_341_0 (nI n) N).1 c = N.1 c) ∧ (cf_341_0 (nI n) N).2 = N.2 ∧ ∀ k, 1 ≤ k → k < 2 ^ n → bst (cf_341_0 (nI n) N) n (Wy sp n) k := by
  have e0 : mz_ishl 1 (nI n) - 1 = nI (2 ^ n - 1) := by
    rcases (show n = 1 ∨ n = 2 ∨ n = 3 ∨ n = 4 ∨ n = 5 ∨ n = 6 by omega) with w | w | w | w | w | w <;> subst w <;> decide
  have p64 : 2 ^ n ≤ 64 := by
    rcases (show n = 1 ∨ n = 2 ∨ n = 3 ∨ n = 4 ∨ n = 5 ∨ n = 6 by omega) with w | w | w | w | w | w <;> subst w <;> decide
  have p2 : 2 ≤ 2 ^ n := by
    rcases (show n = 1 ∨ n = 2 ∨ n = 3 ∨ n = 4 ∨ n = 5 ∨ n = 6 by omega) with w | w | w | w | w | w <;> subst w <;> decide
  rw [cp_341_0, cf_341_0, e0, cp_341_6, cf_341_6]
  refine mz_lpn (f := cq_341_6 (nI n)) (P := cd_341_6 (nI n)) (Q := fun r => (∀ c, c < 145 ∨ 208 ≤ c → r.1 c = N.1 c) ∧ r.2 = N.2 ∧ ∀ k, 1 ≤ k → k < 2 ^ n → bst r n (Wy sp n) k) (2 ^ n - 1) (fun t s => ∃ M, s = (nI (2 ^ n - 1 - t), M) ∧ (∀ c, c < 145 ∨ 208 ≤ c → M.1 c = N.1 c) ∧ M.2 = N.2 ∧ ∀ k, 2 ^ n - 1 - t < k → k < 2 ^ n → bst M n (Wy sp n) k) ?_ ?_ (Nat.zero_le _) ⟨N, by rw [Nat.sub_zero], fun _ _ => rfl, rfl, fun k a c => by omega⟩
  · rintro t s ht ⟨M, rfl, k1, k2, k3⟩
    generalize hm : 2 ^ n - 1 - t = m at k3
    have hm2 : m < 2 ^ n := by omega
    have l : 0 < nI m := (nI_gt0 (by omega)).mpr (by omega)
    have hX : spX M n pl sp := spX_f h (k1 142 (by omega)) (k1 118 (by omega)) (k1 119 (by omega))
    obtain ⟨r1, g, r2, r3⟩ := row_c (m := m) hX hs h1 hn (by omega) (by omega) (fun j hj hb => by
      have c := or_ge n (by omega) m hm2 j hj
      rw [hb, Bool.false_or] at c
      simp only [Bool.and_eq_true] at c
      exact k3 _ (of_decide_eq_true c.1) (of_decide_eq_true c.2))
    rw [cd_341_6, cq_341_6, if_pos l, r2]
    refine ⟨⟨fun _ => r1, fun z => absurd l z⟩, Or.inl ⟨_, rfl, mz_sI M (144 + m) g, by rw [nI_m (by omega), show 2 ^ n - 1 - (t + 1) = m - 1 by omega], fun c hc => by rw [sI_n (by omega)]; exact k1 c hc, k2, fun k a c => ?_⟩⟩
    by_cases e : k = m
    · intro x hx
      rw [e, sI_e]
      exact ⟨r3 x hx, GV_b hs hn (hs x)⟩
    · exact bst_f (k3 k (by omega) c) (sI_n (by omega))
  · rintro s ⟨M, rfl, k1, k2, k3⟩
    rw [Nat.sub_self] at k3 ⊢
    have l : ¬ (0 : Int32) < nI 0 := by decide
    rw [cd_341_6, cq_341_6, if_neg l]
    exact ⟨⟨fun z => absurd z l, fun _ => trivial⟩, _, rfl, k1, k2, fun k a c => k3 k (by omega) c⟩
end Ms
