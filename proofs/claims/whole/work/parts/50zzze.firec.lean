/-! PURE (50zzze): smoke, sprinklers, the fire in the class. -/
theorem it_s {α : Type} (f : Nat → α → α) (n : Nat) (x : α) : it f (n + 1) x = f n (it f n x) := rfl
theorem it_0 {α : Type} (f : Nat → α → α) (x : α) : it f 0 x = x := rfl
theorem spA_0 {e : Nat → Nat} {w : Nat → Int64} {x : (Nat → Nat) × Nat} : spA e w 0 x = x := it_0 _ x
theorem spA_s {e : Nat → Nat} {w : Nat → Int64} {t : Nat} {x : (Nat → Nat) × Nat} : spA e w (t + 1) x = if dtc e w t = true then spk e t 240 (spA e w t x) else spA e w t x := it_s _ t x
theorem spk_0 {e : Nat → Nat} {k : Nat} {x : (Nat → Nat) × Nat} : spk e k 0 x = x := it_0 _ x
theorem spk_s {e : Nat → Nat} {k t : Nat} {x : (Nat → Nat) × Nat} : spk e k (t + 1) x = if pl_lab e t = k then sp1 t (spk e k t x) else spk e k t x := it_s _ t x
theorem ts_cg {e : Nat → Nat} {w u : Nat → Int64} {k : Nat} (h : ∀ c, c < 240 → w c = u c) : ts e w k = ts e u k := sL_congr (fun c hc => by rw [h c hc])
theorem dtc_cg {e : Nat → Nat} {w u : Nat → Int64} {k : Nat} (h : ∀ c, c < 240 → w c = u c) : dtc e w k = dtc e u k := by rw [dtc, dtc, ts_cg h]
theorem spA_cg {e : Nat → Nat} {w u : Nat → Int64} (h : ∀ c, c < 240 → w c = u c) (x : (Nat → Nat) × Nat) : ∀ t, spA e w t x = spA e u t x := by
  intro t
  induction t with
  | zero => rw [spA_0, spA_0]
  | succ t ih => rw [spA_s, spA_s, ih, dtc_cg h]
theorem drf_cg {e : Nat → Nat} {s0 s1 f g : Nat → Int64} (h0 : ∀ c, c < 240 → s0 c = s1 c) (hf : ∀ c, c < 240 → f c = g c) : ∀ t, t ≤ 550 → ∀ c, c < 240 → drf e s0 t f c = drf e s1 t g c := by
  intro t
  induction t with
  | zero => intro _ c hc; exact hf c hc
  | succ t ih =>
    intro ht
    have hi := ih (by omega)
    show ∀ c, c < 240 → dr1 e s0 t (drf e s0 t f) c = dr1 e s1 t (drf e s1 t g) c
    generalize drf e s0 t f = a at hi
    generalize drf e s1 t g = b at hi
    intro c hc
    unfold dr1
    by_cases w : e t = 0 ∧ ge_sd (t % 110) = 4
    · obtain ⟨g1, g2, _⟩ := ge_ab_ok (show t < 550 by omega) w.2
      rw [if_pos w, if_pos w]
      have eq : drq s0 t = drq s1 t := by rw [drq, drq, h0 _ g1, h0 _ g2]
      rw [eq, upL_a, upL_a, upL_a, upL_a, upL_a, upL_a, hi _ g1, hi _ g2, hi c hc]
    · rw [if_neg w, if_neg w]; exact hi c hc
theorem anl_cg {F E : Nat → Nat} {s u : Nat → Int64} : ∀ n, (∀ c, c < n → F c = E c ∧ s c = u c) → anl F s n = anl E u n := by
  intro n
  induction n with
  | zero => intro _; rfl
  | succ n ih =>
    intro h
    show (anl F s n || decide (0 < F n ∨ 0 < s n)) = (anl E u n || decide (0 < E n ∨ 0 < u n))
    rw [ih (fun c hc => h c (by omega)), (h n (by omega)).1, (h n (by omega)).2]
theorem anl_t {F : Nat → Nat} {s : Nat → Int64} {c : Nat} (h : 0 < F c ∨ 0 < s c) : ∀ n, c < n → anl F s n = true := by
  intro n
  induction n with
  | zero => intro hc; exact absurd hc (Nat.not_lt_zero _)
  | succ n ih =>
    intro hc
    show (anl F s n || decide (0 < F n ∨ 0 < s n)) = true
    by_cases z : c = n
    · rw [← z, decide_eq_true h, Bool.or_true]
    · rw [ih (by omega), Bool.true_or]
theorem spk_cg {e : Nat → Nat} {k : Nat} {x : (Nat → Nat) × Nat} {a : Nat} : ∀ {b : Nat}, a ≤ b → cnt (pl_in e k) a = cnt (pl_in e k) b → spk e k a x = spk e k b x := by
  intro b
  induction b with
  | zero => intro h _; rw [show a = 0 by omega]
  | succ b ih =>
    intro h hc
    by_cases z : a = b + 1
    · rw [z]
    · have h1 : cnt (pl_in e k) a ≤ cnt (pl_in e k) b := cnt_mono (by omega)
      have h2 : cnt (pl_in e k) b ≤ cnt (pl_in e k) (b + 1) := cnt_mono (by omega)
      have hp : ¬ pl_lab e b = k := fun y => by
        have := cnt_s (p := pl_in e k) (n := b) (pin y)
        omega
      rw [ih (by omega) (by omega)]
      rw [spk_s, if_neg hp]
theorem sp1_b {c : Nat} {x : (Nat → Nat) × Nat} (h : (∀ j, j < 240 → x.1 j ≤ 100) ∧ x.2 ≤ 2000) : (∀ j, j < 240 → (sp1 c x).1 j ≤ 100) ∧ (sp1 c x).2 ≤ 2000 := by
  unfold sp1
  split
  · refine ⟨fun j hj => ?_, ?_⟩
    · show up x.1 c (x.1 c - 30) j ≤ 100
      unfold up
      split
      · rename_i y
        have := h.1 j hj
        rw [y] at this
        omega
      · exact h.1 j hj
    · show x.2 - 10 ≤ 2000
      have := h.2
      omega
  · exact h
theorem spk_b {e : Nat → Nat} {k : Nat} {x : (Nat → Nat) × Nat} (h : (∀ j, j < 240 → x.1 j ≤ 100) ∧ x.2 ≤ 2000) : ∀ t, (∀ j, j < 240 → (spk e k t x).1 j ≤ 100) ∧ (spk e k t x).2 ≤ 2000 := by
  intro t
  induction t with
  | zero => rw [spk_0]; exact h
  | succ t ih =>
    rw [spk_s]
    split
    · exact sp1_b ih
    · exact ih
section Fic
variable {N : mz_N} {e fl F : Nat → Nat} {s h : Nat → Int64} {vn tk : Nat} {lv sp : Bool}
theorem drift_c (h3 : ∀ i, i < 550 → N.1 3 i = nI (e i) ∧ e i < 4) : cp_251_0 N ∧ ∃ g, cf_251_0 N = mz_sL (mz_sL N 79 g) 71 (drf e (N.2 71) 550 (N.2 71)) := by
  rw [cp_251_0, cf_251_0, yL_s]
  generalize hG : va_cpy (N.2 71) (N.2 79) (0 : Int32).toNatClampNeg (0 : Int32).toNatClampNeg (240 : Int32).toNatClampNeg = g
  have hg : ∀ c, c < 240 → g c = N.2 71 c := fun c hc => by
    rw [← hG, cpy_a, if_pos (show (0 : Int32).toNatClampNeg ≤ c ∧ c < (0 : Int32).toNatClampNeg + (240 : Int32).toNatClampNeg from ⟨Nat.zero_le _, by show c < 0 + 240; omega⟩)]
    show N.2 71 (0 + (c - 0)) = _
    rw [Nat.zero_add, Nat.sub_zero]
  have hx := mz_lps (f := cq_251_18) (P := cd_251_18) (t := mz_sL (mz_sL N 79 g) 71 (drf e (N.2 71) 550 (N.2 71))) 550 (fun i => (nI i, mz_sL (mz_sL N 79 g) 71 (drf e (N.2 71) i (N.2 71)))) (fun i hi => ?_) ?_ (Nat.zero_le _)
  · have e0 : mz_sL (mz_sL N 79 g) 71 (drf e (N.2 71) 0 (N.2 71)) = mz_sL N 79 g := by
      have := sL_same (mz_sL N 79 g) 71
      rw [sL_n (show (71 : Nat) ≠ 79 by decide)] at this
      exact this
    rw [e0] at hx
    exact ⟨hx.1, g, hx.2⟩
  · obtain ⟨e1, e2⟩ := h3 i hi
    have l : nI i < 550 := (nI_ltI (b := 550) (by omega) (by omega)).mpr hi
    have d2 : mz_irem (nI i) 110 = nI (i % 110) := by rw [show (110 : Int32) = nI 110 from rfl, irem_n (by omega) (by omega) (by omega)]
    have d1 : nI i / 110 = nI (i / 110) := by rw [show (110 : Int32) = nI 110 from rfl, pk_div (by omega) (by omega) (by omega)]
    obtain ⟨q1, q2, q3, q4, q5, q6⟩ := ge_e (i % 110) (by omega)
    have ii : mz_ib (nI i) 550 := ib_n hi (by omega)
    have g3 : ∀ f, mz_gI (mz_sL (mz_sL N 79 g) 71 f) 3 (nI i) = nI (e i) := fun f => by rw [gI_a, sL_1, sL_1, nI_clamp (by omega)]; exact e1
    have es : drf e (N.2 71) (i + 1) (N.2 71) = dr1 e (N.2 71) i (drf e (N.2 71) i (N.2 71)) := rfl
    rw [es]
    generalize drf e (N.2 71) i (N.2 71) = f
    rw [cd_251_18, cq_251_18]
    simp only [l, if_true, g3, d2, d1, q5]
    by_cases w1 : e i = 0
    · have w1' : nI (e i) = 0 := by rw [w1]; rfl
      by_cases w2 : ge_sd (i % 110) = 4
      · have w2' : nO 4 (ge_sd (i % 110)) = -1 := if_neg (by omega)
        obtain ⟨a1, a2, a3, a4, _⟩ := ge_ab_ok hi w2
        have hab : ge_ca i ≠ ge_cb i := fun z => by
          have h1 : ∀ j, j < 110 → ge_sd j = 4 → ge_bf j ≠ ge_bh j := by decide +kernel
          unfold ge_ca ge_cb at z
          exact h1 (i % 110) (by omega) w2 (by omega)
        have ia : mz_ib (nI (ge_ca i)) 240 := ib_n a1 (by omega)
        have ib : mz_ib (nI (ge_cb i)) 240 := ib_n a2 (by omega)
        have k1 : mz_gL (mz_sL (mz_sL N 79 g) 71 f) 79 (nI (ge_ca i)) = N.2 71 (ge_ca i) := by rw [gL_a, sL_n (by decide), sL_e, nI_clamp (by omega)]; exact hg _ a1
        have k2 : mz_gL (mz_sL (mz_sL N 79 g) 71 f) 79 (nI (ge_cb i)) = N.2 71 (ge_cb i) := by rw [gL_a, sL_n (by decide), sL_e, nI_clamp (by omega)]; exact hg _ a2
        have k3 : mz_gL (mz_sL (mz_sL N 79 g) 71 f) 71 (nI (ge_ca i)) = f (ge_ca i) := by rw [gL_a, sL_e, nI_clamp (by omega)]
        have eq : (N.2 71 (ge_ca i) - N.2 71 (ge_cb i)) / 4 = drq (N.2 71) i := rfl
        have w3 : mz_wL (mz_sL (mz_sL N 79 g) 71 f) 71 (nI (ge_ca i)) (f (ge_ca i) - drq (N.2 71) i) = mz_sL (mz_sL N 79 g) 71 (vp_updL f (ge_ca i) (f (ge_ca i) - drq (N.2 71) i)) := by rw [wL_s, sL_e, sL_sL, nI_clamp (by omega)]
        simp only [w1', w2', if_true, a3, a4, k1, k2, k3, eq, w3]
        refine ⟨⟨fun _ => ⟨ii, fun _ => ⟨fun _ => ⟨ia, ib, ia, ia, ib, ib, trivial⟩, fun z => absurd trivial z⟩, fun z => absurd trivial z⟩, fun z => absurd trivial z⟩, ?_⟩
        rw [cf_251_120, nI_1]
        refine inlp ?_
        rw [wL_s, sL_e, sL_sL, gL_a, sL_e, nI_clamp (by omega), dr1, if_pos ⟨w1, w2⟩]
      · have w2' : ¬ nO 4 (ge_sd (i % 110)) = -1 := by
          have h4 : ∀ j, j < 110 → ge_sd j ≤ 4 := by decide +kernel
          have := h4 (i % 110) (by omega)
          rw [nO_lt (by omega)]
          exact fun z => (nI_m1 (by omega)).mp z
        simp only [w1', w2', if_true, if_false]
        exact ⟨⟨fun _ => ⟨ii, fun _ => ⟨False.elim, fun _ => trivial⟩, fun z => absurd trivial z⟩, fun z => absurd trivial z⟩, by rw [cf_251_120, nI_1, dr1, if_neg (fun z => w2 z.2)]⟩
    · have w1' : ¬ nI (e i) = 0 := fun z => w1 ((nI_eq0 (by omega)).mp z)
      simp only [w1', if_false]
      exact ⟨⟨fun _ => ⟨ii, False.elim, fun _ => trivial⟩, fun z => absurd trivial z⟩, by rw [cf_251_120, nI_1, dr1, if_neg (fun z => w1 z.1)]⟩
  · rw [cd_251_18, cq_251_18]
    exact ⟨⟨fun z => absurd z (show ¬ nI 550 < 550 by decide), fun _ => trivial⟩, if_neg (show ¬ (nI 550 : Int32) < 550 by decide)⟩
theorem vent_c (hv : vn ≤ 100) : cp_252_0 (nI vn) N ∧ ∃ g, cf_252_0 (nI vn) N = mz_sL N 71 g ∧ ∀ c, c < 240 → g c = vts true vn (N.2 71) c := by
  rw [cp_252_0, cf_252_0, cp_252_2, cf_252_2]
  refine mz_lpn (f := cq_252_2 (nI vn)) (P := cd_252_2 (nI vn)) (Q := fun t => ∃ g, t = mz_sL N 71 g ∧ ∀ c, c < 240 → g c = vts true vn (N.2 71) c) 240 (fun x t => ∃ g, t = (nI x, mz_sL N 71 g) ∧ ∀ c, g c = if c < x then vts true vn (N.2 71) c else N.2 71 c) ?_ ?_ (Nat.zero_le _) ⟨N.2 71, by rw [sL_same]; rfl, fun k => by rw [if_neg (Nat.not_lt_zero _)]⟩
  · rintro x t hx ⟨g, rfl, hg⟩
    have l : nI x < 240 := (nI_ltI (b := 240) (by omega) (by omega)).mpr hx
    have ix : mz_ib (nI x) 240 := ib_n hx (by omega)
    have g71 : mz_gL (mz_sL N 71 g) 71 (nI x) = N.2 71 x := by rw [gL_a, sL_e, nI_clamp (by omega), hg x, if_neg (Nat.lt_irrefl _)]
    rw [cd_252_2, cq_252_2]
    simp only [l, if_true, g71, nI_L (show vn < 2 ^ 31 by omega)]
    refine ⟨⟨fun _ => ⟨ix, ix, ix, trivial⟩, fun z => absurd trivial z⟩, Or.inl ⟨_, rfl, vp_updL g x (vts true vn (N.2 71) x), ?_, fun c => ?_⟩⟩
    · rw [nI_1, wL_s, sL_e, sL_sL, nI_clamp (by omega)]; rfl
    · rw [upL_a]
      by_cases z : c = x
      · rw [if_pos z, if_pos (by omega), z]
      · rw [if_neg z, hg c]
        by_cases y : c < x
        · rw [if_pos y, if_pos (by omega)]
        · rw [if_neg y, if_neg (by omega)]
  · rintro t ⟨g, rfl, hg⟩
    rw [cd_252_2, cq_252_2]
    exact ⟨⟨fun z => absurd z (show ¬ nI 240 < 240 by decide), fun _ => trivial⟩, _, if_neg (show ¬ (nI 240 : Int32) < 240 by decide), g, rfl, fun c hc => by rw [hg c, if_pos hc]⟩
theorem left_c (h73 : ∀ c, c < 240 → N.1 73 c = nI (F c) ∧ F c ≤ 100) : cp_254_0 N ∧ cf_254_0 N = anl F (N.2 71) 240 := by
  rw [cp_254_0, cf_254_0, cp_254_2, cf_254_2]
  refine mz_lpn (f := cq_254_2 N) (P := cd_254_2 N) (Q := fun t => t = anl F (N.2 71) 240) 240 (fun x t => t = nI x ∧ anl F (N.2 71) x = false) ?_ ?_ (Nat.zero_le _) ⟨rfl, rfl⟩
  · rintro x t hx ⟨rfl, ha⟩
    have l : nI x < 240 := (nI_ltI (b := 240) (by omega) (by omega)).mpr hx
    have ix : mz_ib (nI x) 240 := ib_n hx (by omega)
    obtain ⟨x1, x2⟩ := h73 x hx
    have g73 : mz_gI N 73 (nI x) = nI (F x) := by rw [gI_a, nI_clamp (by omega)]; exact x1
    have g71 : mz_gL N 71 (nI x) = N.2 71 x := by rw [gL_a, nI_clamp (by omega)]
    have lt : (0 < nI (F x)) ↔ 0 < F x := nI_gt0 (by omega)
    rw [cd_254_2, cq_254_2]
    simp only [l, if_true, g73, g71, lt]
    refine ⟨⟨fun _ => ⟨ix, fun _ => trivial, fun _ => ix⟩, fun _ => trivial⟩, ?_⟩
    by_cases w1 : 0 < F x
    · rw [if_pos w1]
      exact Or.inr ⟨true, rfl, (anl_t (Or.inl w1) 240 hx).symm⟩
    · rw [if_neg w1]
      by_cases w2 : 0 < N.2 71 x
      · rw [if_pos w2]
        exact Or.inr ⟨true, rfl, (anl_t (Or.inr w2) 240 hx).symm⟩
      · rw [if_neg w2, nI_1]
        refine Or.inl ⟨_, rfl, rfl, ?_⟩
        show (anl F (N.2 71) x || decide (0 < F x ∨ 0 < N.2 71 x)) = false
        rw [ha, decide_eq_false (fun z => z.elim w1 w2)]; rfl
  · rintro t ⟨rfl, ha⟩
    rw [cd_254_2, cq_254_2]
    exact ⟨⟨fun z => absurd z (show ¬ nI 240 < 240 by decide), fun _ => trivial⟩, _, if_neg (show ¬ (nI 240 : Int32) < 240 by decide), ha.symm⟩
end Fic
