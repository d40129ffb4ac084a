/-! PURE (50zzz): air, and the class's. -/
theorem lp_hrt {β : Type} [Nonempty β] {f : Int32 × mz_N → (Int32 × mz_N) ⊕ β} {P : Int32 × mz_N → Prop} {Q : β → Prop} {N : mz_N} {c : Nat} {e fl A : Nat → Nat} {f0 : Nat → Int64} (hn : pl_n e ≤ 240)
    (hs : ∀ i, i < 10 → ∀ g, P (nI i, mz_sL N c g) ∧ f (nI i, mz_sL N c g) = .inl (nI (i + 1), if pl_ht e fl i < pl_n e then mz_wL (mz_sL N c g) c (nI (pl_ht e fl i)) (g (pl_ht e fl i) + lN (A i)) else mz_sL N c g))
    (he : ∀ g, (∀ k, k < pl_n e → g k = f0 k + lN (hrt e fl A k)) → P (nI 10, mz_sL N c g) ∧ ∃ t, f (nI 10, mz_sL N c g) = .inr t ∧ Q t) :
    (∃ m, mz_ok f P m (0, mz_sL N c f0)) ∧ Q (mz_run f (0, mz_sL N c f0)) := by
  refine mz_lpn (f := f) (P := P) (Q := Q) 10 (fun i s => ∃ g, s = (nI i, mz_sL N c g) ∧ ∀ k, k < pl_n e → g k = f0 k + lN (sumN (fun j => if pl_ht e fl j = k then A j else 0) i)) ?_ ?_ (Nat.zero_le _) ⟨f0, rfl, fun k _ => (Int64.add_zero _).symm⟩
  · rintro i s hi ⟨g, rfl, hg⟩
    obtain ⟨h1, h2⟩ := hs i hi g
    by_cases w : pl_ht e fl i < pl_n e
    · rw [if_pos w] at h2
      refine ⟨h1, Or.inl ⟨_, h2, vp_updL g (pl_ht e fl i) (g (pl_ht e fl i) + lN (A i)), ?_, fun k hk => ?_⟩⟩
      · rw [wL_s, sL_e, sL_sL, nI_clamp (by omega)]
      · rw [upL_a, sumN]
        by_cases z : k = pl_ht e fl i
        · rw [if_pos z, if_pos z.symm, hg _ w, Int64.add_assoc, lN_add, z]
        · rw [if_neg z, if_neg (fun y => z y.symm), hg k hk, Nat.add_zero]
    · rw [if_neg w] at h2
      refine ⟨h1, Or.inl ⟨_, h2, g, rfl, fun k hk => ?_⟩⟩
      rw [sumN, if_neg (fun y => w (by omega)), Nat.add_zero]; exact hg k hk
  · rintro s ⟨g, rfl, hg⟩
    exact he g hg
/-- aired -/
noncomputable def vnt (e : Nat → Nat) (vv : Nat) (T : Nat → Int64) (k : Nat) : Int64 := T k - (T k * lN (2 * pl_gl e k + vv)) / 1000
/-- a space's air behind people and airing -/
noncomputable def arT (e fl A : Nat → Nat) (vv : Nat) (h : Nat → Int64) (k : Nat) : Int64 := vnt e vv (fun k => ts e h k + lN (hrt e fl A k)) k
/-- mould -/
def mou (dm : Bool) (w d : Int64) (mo : Nat) : Nat := if dm = true then (if w < 130 ∧ 300 < d then min 1000 (mo + 1) else mo - 1) else mo
theorem vnt_cg {e : Nat → Nat} {vv k : Nat} {T U : Nat → Int64} (h : T k = U k) : vnt e vv T k = vnt e vv U k := by rw [vnt, vnt, h]
theorem spd_cg {e : Nat → Nat} {T U : Nat → Int64} (h : ∀ k, k < pl_n e → T k = U k) {c : Nat} (hc : c < 240) : spd e T c = spd e U c := by
  have hl := pl_lab_lt (e := e) hc
  rw [spd, spd, spi, spi, spq, spq, h _ hl]
theorem pl_gl_le {e : Nat → Nat} {k : Nat} : pl_gl e k ≤ 550 := cnt_le _ 550
section Airc
variable {N : mz_N} {e fl : Nat → Nat} {P hw mo : Nat → Nat} {hr vv : Nat} {W : Nat → Int64}
theorem ven_c (hn : pl_n e ≤ 40) (h7 : N.1 2 7 = nI (pl_n e)) (h22 : ∀ k, k < pl_n e → N.1 22 k = nI (pl_gl e k)) (hv : vv ≤ 1000) : cp_245_0 (nI vv) N ∧ ∃ f, cf_245_0 (nI vv) N = mz_sL N 74 f ∧ ∀ k, k < pl_n e → f k = vnt e vv (N.2 74) k := by
  rw [cp_245_0, cf_245_0, cp_245_2, cf_245_2]
  refine mz_lpn (f := cq_245_2 (nI vv)) (P := cd_245_2 (nI vv)) (Q := fun t => ∃ f, t = mz_sL N 74 f ∧ ∀ k, k < pl_n e → f k = vnt e vv (N.2 74) k) (pl_n e) (fun x s => ∃ f, s = (nI x, mz_sL N 74 f) ∧ ∀ k, f k = if k < x then vnt e vv (N.2 74) k else N.2 74 k) ?_ ?_ (Nat.zero_le _) ⟨N.2 74, by rw [sL_same]; rfl, fun k => by rw [if_neg (Nat.not_lt_zero _)]⟩
  · rintro x s hx ⟨f, rfl, hf⟩
    have l : nI x < nI (pl_n e) := (nI_ltI (by omega) (by omega)).mpr hx
    have ix : mz_ib (nI x) 40 := ib_n (by omega) (by omega)
    have hg := pl_gl_le (e := e) (k := x)
    have g22 : mz_gI (mz_sL N 74 f) 22 (nI x) = nI (pl_gl e x) := by rw [gI_a, sL_1, nI_clamp (by omega)]; exact h22 x hx
    have g74 : mz_gL (mz_sL N 74 f) 74 (nI x) = N.2 74 x := by rw [gL_a, sL_e, nI_clamp (by omega), hf x, if_neg (Nat.lt_irrefl _)]
    have ev : (2 * nI (pl_gl e x) + nI vv).toInt64 = lN (2 * pl_gl e x + vv) := by
      rw [show (2 : Int32) = nI 2 from rfl, pk_mul, nI_add, nI_L (by omega)]
    rw [cd_245_2, cq_245_2]
    simp only [sL_1, h7, l, if_true, g22, g74, ev]
    refine ⟨⟨fun _ => ⟨ix, ix, ix, ix, trivial⟩, fun _ => trivial⟩, Or.inl ⟨_, rfl, vp_updL f x (vnt e vv (N.2 74) x), ?_, fun k => ?_⟩⟩
    · rw [nI_1, wL_s, sL_e, sL_sL, nI_clamp (by omega)]; rfl
    · rw [upL_a]
      by_cases z : k = x
      · rw [if_pos z, if_pos (by omega), z]
      · rw [if_neg z, hf k]
        by_cases y : k < x
        · rw [if_pos y, if_pos (by omega)]
        · rw [if_neg y, if_neg (by omega)]
  · rintro s ⟨f, rfl, hf⟩
    have l : ¬ nI (pl_n e) < nI (pl_n e) := fun q => by have := (nI_ltI (by omega) (by omega)).mp q; omega
    rw [cd_245_2, cq_245_2]
    simp only [sL_1, h7, l, if_false]
    exact ⟨⟨False.elim, fun _ => trivial⟩, _, rfl, f, rfl, fun k hk => by rw [hf k, if_pos hk]⟩
theorem mou_c (hn : pl_n e ≤ 40) (h15 : ∀ c, c < 240 → N.1 15 c = nI (pl_lab e c)) (h36 : ∀ c, c < 240 → N.1 36 c = nI (b1 (pl_dm e c))) (h75 : ∀ k, k < pl_n e → N.2 75 k = W k) (h72 : ∀ c, c < 240 → N.1 72 c = nI (mo c) ∧ mo c ≤ 1000) : cp_246_0 N ∧ ∃ f, cf_246_0 N = mz_sI N 72 f ∧ ∀ c, c < 240 → f c = nI (mou (pl_dm e c) (W (pl_lab e c)) (N.2 70 c) (mo c)) := by
  rw [cp_246_0, cf_246_0, cp_246_2, cf_246_2]
  refine mz_lpn (f := cq_246_2) (P := cd_246_2) (Q := fun t => ∃ f, t = mz_sI N 72 f ∧ ∀ c, c < 240 → f c = nI (mou (pl_dm e c) (W (pl_lab e c)) (N.2 70 c) (mo c))) 240 (fun x s => ∃ f, s = (nI x, mz_sI N 72 f) ∧ ∀ c, f c = if c < x then nI (mou (pl_dm e c) (W (pl_lab e c)) (N.2 70 c) (mo c)) else N.1 72 c) ?_ ?_ (Nat.zero_le _) ⟨N.1 72, by rw [sI_same]; rfl, fun k => by rw [if_neg (Nat.not_lt_zero _)]⟩
  · rintro x s hx ⟨f, rfl, hf⟩
    have l : nI x < 240 := (nI_ltI (b := 240) (by omega) (by omega)).mpr hx
    have ix : mz_ib (nI x) 240 := ib_n (by omega) (by omega)
    have hl := pl_lab_lt (e := e) hx
    obtain ⟨m1, m2⟩ := h72 x hx
    have g36 : mz_gI (mz_sI N 72 f) 36 (nI x) = nI (b1 (pl_dm e x)) := by rw [gI_a, sI_n (by decide), nI_clamp (by omega)]; exact h36 x hx
    have g15 : mz_gI (mz_sI N 72 f) 15 (nI x) = nI (pl_lab e x) := by rw [gI_a, sI_n (by decide), nI_clamp (by omega)]; exact h15 x hx
    have g75 : mz_gL (mz_sI N 72 f) 75 (nI (pl_lab e x)) = W (pl_lab e x) := by rw [gL_a, sI_2, nI_clamp (by omega)]; exact h75 _ hl
    have g70 : mz_gL (mz_sI N 72 f) 70 (nI x) = N.2 70 x := by rw [gL_a, sI_2, nI_clamp (by omega)]
    have g72 : mz_gI (mz_sI N 72 f) 72 (nI x) = nI (mo x) := by rw [gI_a, sI_e, nI_clamp (by omega), hf x, if_neg (Nat.lt_irrefl _), m1]
    have nxt : ∀ v : Nat, v = mou (pl_dm e x) (W (pl_lab e x)) (N.2 70 x) (mo x) → ∃ s2, cf_246_95 (nI x) (mz_wI (mz_sI N 72 f) 72 (nI x) (nI v)) = .inl s2 ∧ ∃ f, s2 = (nI (x + 1), mz_sI N 72 f) ∧ ∀ c, f c = if c < x + 1 then nI (mou (pl_dm e c) (W (pl_lab e c)) (N.2 70 c) (mo c)) else N.1 72 c := fun v hv => by
      refine ⟨_, rfl, upd f x (nI v), by rw [nI_1, wI_s, sI_e, sI_sI, nI_clamp (by omega)], fun c => ?_⟩
      rw [up_a]
      by_cases z : c = x
      · rw [if_pos z, if_pos (by omega), z, hv]
      · rw [if_neg z, hf c]
        by_cases y : c < x
        · rw [if_pos y, if_pos (by omega)]
        · rw [if_neg y, if_neg (by omega)]
    have eup : mz_imin 1000 (nI (mo x) + 1) = nI (min 1000 (mo x + 1)) := by rw [nI_1, show (1000 : Int32) = nI 1000 from rfl, imin_n (by omega) (by omega)]
    have edn : mz_imax 0 (nI (mo x) - 1) = nI (mo x - 1) := imaxsub (b := 1) (by omega) (by omega)
    have p1 : ∀ b, cp_246_55 b (nI x) (mz_sI N 72 f) := fun b => ⟨fun _ => ⟨ix, ix, trivial⟩, fun _ => ⟨ix, ix, trivial⟩⟩
    have up1 : pl_dm e x = true → (W (pl_lab e x) < 130 ∧ 300 < N.2 70 x) → ∃ s2, cf_246_55 true (nI x) (mz_sI N 72 f) = .inl s2 ∧ ∃ f, s2 = (nI (x + 1), mz_sI N 72 f) ∧ ∀ c, f c = if c < x + 1 then nI (mou (pl_dm e c) (W (pl_lab e c)) (N.2 70 c) (mo c)) else N.1 72 c := fun hd hw => by
      rw [cf_246_55, if_pos rfl, cf_246_94, g72, eup]
      exact nxt _ (by rw [mou, if_pos hd, if_pos hw])
    have dn1 : pl_dm e x = true → ¬ (W (pl_lab e x) < 130 ∧ 300 < N.2 70 x) → ∃ s2, cf_246_54 (nI x) (mz_sI N 72 f) = .inl s2 ∧ ∃ f, s2 = (nI (x + 1), mz_sI N 72 f) ∧ ∀ c, f c = if c < x + 1 then nI (mou (pl_dm e c) (W (pl_lab e c)) (N.2 70 c) (mo c)) else N.1 72 c := fun hd hw => by
      rw [cf_246_54, cf_246_55, if_neg (by decide), cf_246_94, g72, edn]
      exact nxt _ (by rw [mou, if_pos hd, if_neg hw])
    rw [cd_246_2, cq_246_2]
    simp only [l, if_true, g36, g15, g75, g70]
    cases hd : pl_dm e x with
    | false =>
      have d1 : ¬ nI (b1 false) = 1 := by decide
      simp only [d1, if_false]
      refine ⟨⟨fun _ => ⟨ix, False.elim, fun _ => trivial⟩, fun _ => trivial⟩, Or.inl ?_⟩
      refine ⟨_, rfl, f, by rw [nI_1], fun c => ?_⟩
      by_cases z : c = x
      · rw [if_pos (by omega), z, hf x, if_neg (Nat.lt_irrefl _), m1, hd]; rfl
      · rw [hf c]
        by_cases y : c < x
        · rw [if_pos y, if_pos (by omega)]
        · rw [if_neg y, if_neg (by omega)]
    | true =>
      have d1 : nI (b1 true) = 1 := rfl
      by_cases y1 : W (pl_lab e x) < 130
      · by_cases y2 : 300 < N.2 70 x
        · simp only [d1, y1, y2, if_true]
          exact ⟨⟨fun _ => ⟨ix, fun _ => ⟨ix, ib_n (by omega) (by omega), fun _ => ⟨ix, fun _ => p1 true, fun z => absurd trivial z⟩, fun z => absurd trivial z⟩, fun z => absurd trivial z⟩, fun _ => trivial⟩, Or.inl (up1 hd ⟨y1, y2⟩)⟩
        · simp only [d1, y1, y2, if_true, if_false]
          exact ⟨⟨fun _ => ⟨ix, fun _ => ⟨ix, ib_n (by omega) (by omega), fun _ => ⟨ix, False.elim, fun _ => p1 false⟩, fun z => absurd trivial z⟩, fun z => absurd trivial z⟩, fun _ => trivial⟩, Or.inl (dn1 hd (fun z => y2 z.2))⟩
      · simp only [d1, y1, if_true, if_false]
        exact ⟨⟨fun _ => ⟨ix, fun _ => ⟨ix, ib_n (by omega) (by omega), False.elim, fun _ => p1 false⟩, fun z => absurd trivial z⟩, fun _ => trivial⟩, Or.inl (dn1 hd (fun z => y1 z.1))⟩
  · rintro s ⟨f, rfl, hf⟩
    rw [cd_246_2, cq_246_2]
    exact ⟨⟨fun z => absurd z (show ¬ nI 240 < 240 by decide), fun _ => trivial⟩, _, if_neg (show ¬ (nI 240 : Int32) < 240 by decide), f, rfl, fun c hc => by rw [hf c, if_pos hc]⟩
end Airc
