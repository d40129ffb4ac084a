/-! PURE (50zzzzzzm): the reference looks through all orders. -/
/-- an order lies in a cell -/
def oin (N : mz_N) (c n : Nat) (p : List Nat) : Prop := p.length = n ∧ ∀ i, i < n → N.1 c i = nI (gd p i) ∧ gd p i < n
section Sr
variable {N M : mz_N} {n u : Nat} {pl sp : Nat → Nat}
theorem gd_r {n : Nat} {f : Nat → Nat} {i : Nat} (hi : i < n) : gd ((List.range n).map f) i = f i := by
  unfold gd
  rw [List.getD_eq_getElem?_getD, List.getElem?_map, List.getElem?_range hi]; rfl
theorem copy_o {p : List Nat} {v3 v4 : Int32} (h1 : 1 ≤ n) (hn : n ≤ 6) (hp : oin N 299 n p) : cp_565_208 (nI u) (nI n) v3 v4 0 N ∧ ((v4 < v3 → ∃ g, cf_565_208 (nI u) (nI n) v3 v4 0 N = .inl (v4, mz_sI N 300 g) ∧ ∀ i, i < n → g i = nI (gd p i)) ∧ (¬ v4 < v3 → cf_565_208 (nI u) (nI n) v3 v4 0 N = .inl (v3, N))) := by
  rw [cp_565_208, cf_565_208]
  have C : ∀ K, cp_565_240 (nI u) (nI n) v3 v4 K := fun K => ⟨fun _ => trivial, fun _ => trivial⟩
  by_cases w : v4 < v3
  · have key := mz_lpn (f := cq_565_208 (nI u) (nI n) v3 v4) (P := cd_565_208 (nI u) (nI n) v3 v4) (Q := fun r => ∃ g, r = .inl (v4, mz_sI N 300 g) ∧ ∀ i, i < n → g i = nI (gd p i)) n (fun k s => ∃ g, s = (nI k, mz_sI N 300 g) ∧ ∀ i, i < k → g i = nI (gd p i)) (k := 0) (s := (0, N)) ?_ ?_ (Nat.zero_le _) ⟨N.1 300, by rw [sI_same]; rfl, fun i hi => absurd hi (Nat.not_lt_zero i)⟩
    · exact ⟨key.1, fun _ => key.2, fun z => absurd w z⟩
    · rintro k s hk ⟨g, rfl, hg⟩
      have l : nI k < nI n := (nI_ltI (by omega) (by omega)).mpr hk
      have g1 : mz_gI (mz_sI N 300 g) 299 (nI k) = nI (gd p k) := by rw [gI_a, nI_clamp (by omega), sI_n (by decide)]; exact (hp.2 k hk).1
      have ib : mz_ib (nI k) 6 := ib_n (by omega) (by omega)
      rw [cd_565_208, cq_565_208]
      simp only [l, if_true, if_pos w, g1, nI_1]
      refine ⟨⟨fun _ => ⟨fun _ => ⟨ib, ib⟩, fun z => absurd w z⟩, fun z => absurd trivial z⟩, Or.inl ⟨_, rfl, upd g k (nI (gd p k)), by rw [wI_s, nI_clamp (by omega), sI_e, sI_sI], fun i hi => ?_⟩⟩
      rw [up_a]
      by_cases e : i = k
      · rw [if_pos e, e]
      · rw [if_neg e]; exact hg i (by omega)
    · rintro s ⟨g, rfl, hg⟩
      have l : ¬ nI n < nI n := fun z => by have := (nI_ltI (by omega) (by omega)).mp z; omega
      rw [cd_565_208, cq_565_208]
      simp only [l, if_false, cf_565_240, if_pos w, cf_565_252]
      exact ⟨⟨False.elim, fun _ => C _⟩, _, rfl, g, rfl, hg⟩
  · have l : (0 : Int32) < nI n := (nI_gt0 (by omega)).mpr (by omega)
    have key := mz_lps (f := cq_565_208 (nI u) (nI n) v3 v4) (P := cd_565_208 (nI u) (nI n) v3 v4) (t := .inl (v3, N)) 0 (fun _ => (0, N)) (fun k hk => absurd hk (Nat.not_lt_zero k)) (by
      rw [cd_565_208, cq_565_208]
      simp only [l, if_true, if_neg w, cf_565_240, cf_565_252]
      exact ⟨⟨fun _ => ⟨fun z => absurd z w, fun _ => C _⟩, fun z => absurd trivial z⟩, trivial⟩) (k := 0) (Nat.le_refl _)
    exact ⟨key.1, fun z => absurd z w, fun _ => key.2⟩
theorem srch_r {p0 b0 : List Nat} {r0 : List (List Nat)} (hX : spR N n pl sp) (hs : ∀ j, sp j < 240) (h1 : 1 ≤ n) (hn : n ≤ 6) (hc : chn n (p0 :: r0) = true) (hp : oin N 299 n p0) (hb : oin N 300 n b0)
    (he : ∀ M, fq [299, 300] [] N M → oin M 300 n (fm (pwc wy sp 0) b0 r0) → cp_565_268 (nI u) (nI n) (M.2 232 2) (-1) 0 M) : cp_565_190 (nI u) (nI n) (nI (pwc wy sp 0 b0)) N ∧ ∃ M, cf_565_190 (nI u) (nI n) (nI (pwc wy sp 0 b0)) N = cf_565_268 (nI u) (nI n) (M.2 232 2) (-1) 0 M ∧ fq [299, 300] [] N M ∧ oin M 300 n (fm (pwc wy sp 0) b0 r0) := by
  rw [cp_565_190, cf_565_190]
  generalize hF : fm (pwc wy sp 0) b0 r0 = F at he
  refine mz_lpn (f := cq_565_190 (nI u) (nI n)) (P := cd_565_190 (nI u) (nI n)) (Q := fun r => ∃ M, r = cf_565_268 (nI u) (nI n) (M.2 232 2) (-1) 0 M ∧ fq [299, 300] [] N M ∧ oin M 300 n F) r0.length (fun k s => ∃ p r b M, s = (nI (pwc wy sp 0 b), M) ∧ r.length = r0.length - k ∧ chn n (p :: r) = true ∧ oin M 299 n p ∧ oin M 300 n b ∧ fm (pwc wy sp 0) b r = F ∧ fq [299, 300] [] N M) ?_ ?_ (Nat.zero_le _) ⟨p0, r0, b0, N, rfl, by omega, hc, hp, hb, hF, fq_refl _ _ _⟩
  · rintro k s hk ⟨p, r, b, M, rfl, hr, hch, hpM, hbM, hfm, fM⟩
    cases r with
    | nil => have : (0 : Nat) = r0.length - k := hr; omega
    | cons q r =>
      obtain ⟨c1, c2, c3, c4, c5⟩ := chn_c hch
      obtain ⟨q1, q2, _⟩ := chn_c c5
      have hnx := c4 q r rfl
      obtain ⟨n1, n2, n3⟩ := next_r (N := M) (a := gd p) h1 hn (fun i hi => ⟨(hpM.2 i hi).1, by have := (hpM.2 i hi).2; omega⟩)
      have hpos : 0 < pv (gd p) (n - 1) := Nat.pos_of_ne_zero (fun z => by unfold nxl at hnx; rw [if_pos z] at hnx; cases hnx)
      have hq : q = (List.range n).map (nxa n (gd p) (pv (gd p) (n - 1) - 1)) := by
        unfold nxl at hnx
        rw [if_neg (by omega)] at hnx
        exact (Option.some.inj hnx).symm
      obtain ⟨g, g1, g2⟩ := n3 hpos
      have hqM : oin (mz_sI M 299 g) 299 n q := ⟨q1, fun i hi => ⟨by rw [sI_e, g2 i hi, hq, gd_r hi], q2 i hi⟩⟩
      have hXM : spR (mz_sI M 299 g) n pl sp := fun i hi => by rw [sI_n (by decide), sI_n (by decide), sI_n (by decide), fM.1 301 rfl, fM.1 288 rfl, fM.1 289 rfl]; exact hX.a i hi
      obtain ⟨t1, t2⟩ := thru_r hXM hs hn q1 hqM.2
      have b1' := pwc_b hs q 0 (by omega)
      have b2 := pwc_b hs b 0 (by omega)
      rw [q1] at b1'
      rw [hbM.1] at b2
      have lt : (nI (pwc wy sp 0 q) < nI (pwc wy sp 0 b)) = (pwc wy sp 0 q < pwc wy sp 0 b) := propext (nI_ltI (by omega) (by omega))
      obtain ⟨d1, d2, d3⟩ := copy_o (u := u) (v3 := nI (pwc wy sp 0 b)) (v4 := nI (pwc wy sp 0 q)) h1 hn hqM
      rw [lt] at d2 d3
      have fM' : fq [299, 300] [] N (mz_sI M 299 g) := fq_sI fM rfl
      rw [cd_565_190, cq_565_190, g1]
      simp only [if_true, t2]
      refine ⟨⟨n1, fun _ => ⟨t1, d1⟩, fun z => absurd trivial z⟩, Or.inl ?_⟩
      have hfm' : fm (pwc wy sp 0) (if pwc wy sp 0 q < pwc wy sp 0 b then q else b) r = F := hfm
      have hlen : r.length = r0.length - (k + 1) := by have : r.length + 1 = r0.length - k := hr; omega
      by_cases w : pwc wy sp 0 q < pwc wy sp 0 b
      · obtain ⟨g', e1, e2⟩ := d2 w
        rw [if_pos w] at hfm'
        exact ⟨_, e1, q, r, q, _, rfl, hlen, c5, ⟨q1, fun i hi => by rw [sI_n (by decide)]; exact hqM.2 i hi⟩, ⟨q1, fun i hi => ⟨by rw [sI_e]; exact e2 i hi, q2 i hi⟩⟩, hfm', fq_sI fM' rfl⟩
      · rw [if_neg w] at hfm'
        exact ⟨_, d3 w, q, r, b, _, rfl, hlen, c5, hqM, ⟨hbM.1, fun i hi => by rw [sI_n (by decide)]; exact hbM.2 i hi⟩, hfm', fM'⟩
  · rintro s ⟨p, r, b, M, rfl, hr, hch, hpM, hbM, hfm, fM⟩
    rw [Nat.sub_self] at hr
    have er := List.eq_nil_of_length_eq_zero hr
    subst er
    obtain ⟨c1, c2, c3, c4, c5⟩ := chn_c hch
    have hnx := c3 rfl
    have hz : pv (gd p) (n - 1) = 0 := Decidable.byContradiction (fun z => by unfold nxl at hnx; rw [if_neg z] at hnx; cases hnx)
    obtain ⟨n1, n2, n3⟩ := next_r (N := M) (a := gd p) h1 hn (fun i hi => ⟨(hpM.2 i hi).1, by have := (hpM.2 i hi).2; omega⟩)
    have hfm' : b = F := hfm
    rw [hfm'] at hbM
    rw [cd_565_190, cq_565_190, n2 hz]
    exact ⟨⟨n1, fun z => (by cases z), fun _ => he M fM hbM⟩, _, rfl, M, rfl, fM, hbM⟩
end Sr
