/-! PURE (50zzx): heat flows in the reference. -/
theorem i64_a (a b c : Int64) : a - b + c = a + c - b := by
  rw [Int64.sub_eq_add_neg, Int64.sub_eq_add_neg, Int64.add_assoc, Int64.add_comm (-b), ← Int64.add_assoc]
theorem pl_W_bt {e : Nat → Nat} {a b : Nat} (h4 : ∀ i, i < 550 → e i < 4) (hab : a ≠ b) : 3 * pl_bt e 1 a b + pl_bt e 2 a b + 5 * pl_bt e 3 a b + pl_bt e 0 a b = pl_W e a b := by
  have h : ∀ t, t ≤ 550 → 3 * cnt (pl_btp e 1 a b) t + cnt (pl_btp e 2 a b) t + 5 * cnt (pl_btp e 3 a b) t = sumN (pl_we e a b) t := by
    intro t
    induction t with
    | zero => intro _; rfl
    | succ t ih =>
      intro ht
      have i := ih (by omega)
      have e4 := h4 t (by omega)
      rw [sumN]
      by_cases w : ge_sd (t % 110) = 4 ∧ ((pl_lab e (ge_ca t) = a ∧ pl_lab e (ge_cb t) = b) ∨ (pl_lab e (ge_ca t) = b ∧ pl_lab e (ge_cb t) = a))
      · have n0 : e t ≠ 0 := fun z => by
          have h1 := pl_open2 (e := e) (show t < 550 by omega) w.1 z
          rcases w.2 with y | y
          · exact hab (y.1.symm.trans (h1.trans y.2))
          · exact hab (y.2.symm.trans (h1.symm.trans y.1))
        have ew : pl_we e a b t = wg (e t) := if_pos w
        have hc : ∀ kd, pl_btp e kd a b t = decide (e t = kd) := fun kd => by
          unfold pl_btp
          by_cases z : e t = kd
          · rw [decide_eq_true z, decide_eq_true ⟨w.1, z, w.2⟩]
          · rw [decide_eq_false z, decide_eq_false (fun y => z y.2.1)]
        have c3 : e t = 1 ∨ e t = 2 ∨ e t = 3 := by omega
        rcases c3 with z | z | z
        · rw [cnt_s (p := pl_btp e 1 a b) (by rw [hc, z]; rfl), cnt_sn (p := pl_btp e 2 a b) (by rw [hc, z]; rfl), cnt_sn (p := pl_btp e 3 a b) (by rw [hc, z]; rfl), ew, z, ← i]
          show _ = _ + 3
          omega
        · rw [cnt_sn (p := pl_btp e 1 a b) (by rw [hc, z]; rfl), cnt_s (p := pl_btp e 2 a b) (by rw [hc, z]; rfl), cnt_sn (p := pl_btp e 3 a b) (by rw [hc, z]; rfl), ew, z, ← i]
          show _ = _ + 1
          omega
        · rw [cnt_sn (p := pl_btp e 1 a b) (by rw [hc, z]; rfl), cnt_sn (p := pl_btp e 2 a b) (by rw [hc, z]; rfl), cnt_s (p := pl_btp e 3 a b) (by rw [hc, z]; rfl), ew, z, ← i]
          show _ = _ + 5
          omega
      · have ew : pl_we e a b t = 0 := if_neg w
        have hc : ∀ kd, pl_btp e kd a b t = false := fun kd => by
          unfold pl_btp
          exact decide_eq_false (fun y => w ⟨y.1, y.2.2⟩)
        rw [cnt_sn (hc 1), cnt_sn (hc 2), cnt_sn (hc 3), ew, Nat.add_zero]
        exact i
  have h5 := h 550 (Nat.le_refl _)
  have b0 : pl_bt e 0 a b = cnt (pl_cep e a b) 192 := by rw [pl_bt, if_neg hab, if_pos rfl]
  have b1 : pl_bt e 1 a b = cnt (pl_btp e 1 a b) 550 := by rw [pl_bt, if_neg hab, if_neg (by decide)]
  have b2 : pl_bt e 2 a b = cnt (pl_btp e 2 a b) 550 := by rw [pl_bt, if_neg hab, if_neg (by decide)]
  have b3 : pl_bt e 3 a b = cnt (pl_btp e 3 a b) 550 := by rw [pl_bt, if_neg hab, if_neg (by decide)]
  rw [b0, b1, b2, b3, pl_W, ← h5]
theorem pl_tp {e : Nat → Nat} {k : Nat} (hk : k < pl_n e) : cnt (pl_tpp e k) 240 = if pl_lc e k < 192 then 0 else pl_sz e k := by
  obtain ⟨l1, l2⟩ := pl_lc_ok hk
  by_cases w : pl_lc e k < 192
  · rw [if_pos w]
    have h : ∀ t, t ≤ 240 → cnt (pl_tpp e k) t = 0 := fun t => by
      induction t with
      | zero => intro _; rfl
      | succ t ih =>
        intro ht
        rw [cnt_sn, ih (by omega)]
        unfold pl_tpp
        refine decide_eq_false (fun y => ?_)
        have := pl_storey (e := e) (c := pl_lc e k) (c' := t) l1 (by rw [l2, y.2])
        omega
    exact h 240 (Nat.le_refl _)
  · rw [if_neg w]
    unfold pl_sz
    refine cnt_cg (fun c hc => ?_)
    unfold pl_tpp pl_in
    by_cases z : pl_lab e c = k
    · have := pl_storey (e := e) (c := pl_lc e k) (c' := c) l1 (by rw [l2, z])
      rw [decide_eq_true z, decide_eq_true ⟨by omega, z⟩]
    · rw [decide_eq_false z, decide_eq_false (fun y => z y.2)]
theorem sn_e {e S : Nat → Nat} {k : Nat} : ∀ t, sumN (fun i => if pl_glp e k i = true then S (ge_sd (i % 110)) else 0) t = sumN (fun d => cnt (pl_gsp e d k) t * S d) 4 := by
  intro t
  induction t with
  | zero =>
    show 0 = 0 + 0 * S 0 + 0 * S 1 + 0 * S 2 + 0 * S 3
    omega
  | succ t ih =>
    have h1 : ∀ d, d < 4 → cnt (pl_gsp e d k) (t + 1) * S d = cnt (pl_gsp e d k) t * S d + (if pl_gsp e d k t = true then S d else 0) := fun d _ => by
      by_cases z : pl_gsp e d k t = true
      · rw [cnt_s z, if_pos z, Nat.succ_mul]
      · rw [cnt_sn (by simpa using z), if_neg z, Nat.add_zero]
    rw [sumN, ih, sumN_congr h1, sumN_add]
    refine congrArg (fun x : Nat => sumN (fun d => cnt (pl_gsp e d k) t * S d) 4 + x) ?_
    by_cases x : pl_lab e (ge_cl t) = k ∧ e t = 3
    · have g1 : pl_glp e k t = decide (ge_sd (t % 110) < 4) := by
        unfold pl_glp
        by_cases z : ge_sd (t % 110) < 4
        · rw [decide_eq_true z, decide_eq_true ⟨z, x⟩]
        · rw [decide_eq_false z, decide_eq_false (fun y => z y.1)]
      have g2 : ∀ d, pl_gsp e d k t = decide (ge_sd (t % 110) = d) := fun d => by
        unfold pl_gsp
        by_cases z : ge_sd (t % 110) = d
        · rw [decide_eq_true z, decide_eq_true ⟨z, x⟩]
        · rw [decide_eq_false z, decide_eq_false (fun y => z y.1)]
      rw [g1, sumN_congr (g := fun d => if decide (ge_sd (t % 110) = d) = true then S d else 0) (fun d _ => by rw [g2])]
      generalize ge_sd (t % 110) = s
      have hs : s = 0 ∨ s = 1 ∨ s = 2 ∨ s = 3 ∨ 4 ≤ s := by omega
      rcases hs with z | z | z | z | z
      · rw [z]; show S 0 = 0 + S 0 + 0 + 0 + 0; omega
      · rw [z]; show S 1 = 0 + 0 + S 1 + 0 + 0; omega
      · rw [z]; show S 2 = 0 + 0 + 0 + S 2 + 0; omega
      · rw [z]; show S 3 = 0 + 0 + 0 + 0 + S 3; omega
      · rw [if_neg (by simp; omega)]
        show 0 = 0 + (if decide (s = 0) = true then S 0 else 0) + (if decide (s = 1) = true then S 1 else 0) + (if decide (s = 2) = true then S 2 else 0) + (if decide (s = 3) = true then S 3 else 0)
        rw [if_neg (by simp; omega), if_neg (by simp; omega), if_neg (by simp; omega), if_neg (by simp; omega)]
    · have g1 : pl_glp e k t = false := by
        unfold pl_glp
        exact decide_eq_false (fun y => x y.2)
      have g2 : ∀ d, pl_gsp e d k t = false := fun d => by
        unfold pl_gsp
        exact decide_eq_false (fun y => x y.2)
      rw [g1, sumN_congr (g := fun d => 0) (fun d _ => by rw [g2]; rfl)]
      rfl
theorem ge_26 : ∀ i, i < 110 → ge_sd i < 4 → cf_526_0 (nI i) = nI (ge_sd i) := by decide +kernel
section War
variable {N : mz_N} {e fl : Nat → Nat} {S P L : Nat → Nat} {hr : Nat} {Φ : mz_N → Prop} {f0 W : Nat → Int64} {ou : Int64}
theorem hea_r (hn : pl_n e ≤ 40) (h42 : ∀ j, j < 10 → N.1 242 j = nO (pl_n e) (pl_ht e fl j)) (h44 : ∀ j, j < 240 → N.1 244 j = nI (P j)) (hP : ∀ j, P j ≤ 20) (h72 : ∀ j, j < 11 → N.1 272 j = nI (L j)) (hL : ∀ j, j < 11 → L j ≤ 2000) (hhr : hr < 24)
    (hΦ : ∀ f, (∀ k, k < pl_n e → f k = f0 k + lN (hrt e fl (fun j => 8 * pnt e fl P hr j + 3 * L j) k)) → (cp_527_0 (mz_sL N 268 f) ∧ cp_530_0 268 40 260 (cf_527_0 (mz_sL N 268 f))) ∧ Φ (cf_530_0 268 40 260 (cf_527_0 (mz_sL N 268 f)))) :
    cp_524_355 (nI hr) 0 (mz_sL N 268 f0) ∧ Φ (cf_524_355 (nI hr) 0 (mz_sL N 268 f0)) := by
  rw [cp_524_355, cf_524_355]
  refine mz_lpn (f := cq_524_355 (nI hr)) (P := cd_524_355 (nI hr)) (Q := Φ) 10 (fun i s => ∃ f, s = (nI i, mz_sL N 268 f) ∧ ∀ k, k < pl_n e → f k = f0 k + lN (sumN (fun j => if pl_ht e fl j = k then 8 * pnt e fl P hr j + 3 * L j else 0) i)) ?_ ?_ (Nat.zero_le _) ⟨f0, rfl, fun k _ => (Int64.add_zero _).symm⟩
  · rintro i s hi ⟨f, rfl, hf⟩
    have l : nI i < 10 := (nI_ltI (b := 10) (by omega) (by omega)).mpr hi
    have i0 : mz_ib (nI i) 10 := ib_n hi (by omega)
    have g42 : mz_gI (mz_sL N 268 f) 242 (nI i) = nO (pl_n e) (pl_ht e fl i) := by rw [gI_a, sL_1, nI_clamp (by omega)]; exact h42 i hi
    rw [cd_524_355, cq_524_355]
    simp only [l, if_true, g42]
    by_cases w : pl_ht e fl i < pl_n e
    · have eO : nO (pl_n e) (pl_ht e fl i) = nI (pl_ht e fl i) := if_pos w
      have nm : ¬ nI (pl_ht e fl i) < 0 := nI_pos (by omega)
      obtain ⟨r1, r2⟩ := prs_r (N := mz_sL N 268 f) (e := e) (fl := fl) (P := P) hn h42 h44 hhr hi
      have rb : pnt e fl P hr i ≤ 20 := by rw [pnt, if_pos w]; exact hP _
      have r3 : mz_gI (mz_sL N 268 f) 272 (nI i) = nI (L i) := by rw [gI_a, sL_1, nI_clamp (by omega)]; exact h72 i (by omega)
      have lb := hL i (by omega)
      have i1 : mz_ib (nI (pl_ht e fl i)) 40 := ib_n (by omega) (by omega)
      have ev : (8 : Int64) * (nI (pnt e fl P hr i)).toInt64 + 3 * (nI (L i)).toInt64 = lN (8 * pnt e fl P hr i + 3 * L i) := by
        rw [nI_L (by omega), nI_L (by omega), show (8 : Int64) = lN 8 from rfl, show (3 : Int64) = lN 3 from rfl, lN_mul, lN_mul, lN_add]
      simp only [eO, nm, if_false, r2, r3, ev]
      refine ⟨⟨fun _ => ⟨i0, False.elim, fun _ => ⟨i0, i1, r1, ib_n (by omega) (by omega), i1, trivial⟩⟩, fun z => absurd trivial z⟩, Or.inl ⟨_, rfl, vp_updL f (pl_ht e fl i) (f (pl_ht e fl i) + lN (8 * pnt e fl P hr i + 3 * L i)), ?_, fun k hk => ?_⟩⟩
      · rw [nI_1]
        refine Prod.ext rfl ?_
        show mz_wL _ _ _ _ = _
        rw [wL_s, sL_e, sL_sL, gL_a, sL_e, nI_clamp (by omega)]
      · rw [upL_a, sumN]
        by_cases z : k = pl_ht e fl i
        · rw [if_pos z, if_pos z.symm, hf _ w, Int64.add_assoc, lN_add, z]
        · rw [if_neg z, if_neg (fun y => z y.symm), hf k hk, Nat.add_zero]
    · have eO : nO (pl_n e) (pl_ht e fl i) = -1 := if_neg w
      have lm : (-1 : Int32) < 0 := by decide
      simp only [eO, lm, if_true]
      refine ⟨⟨fun _ => ⟨i0, fun _ => trivial, fun z => absurd trivial z⟩, fun z => absurd trivial z⟩, Or.inl ⟨_, rfl, f, ?_, fun k hk => ?_⟩⟩
      · rw [nI_1]
      · rw [sumN, if_neg (fun y => w (by omega)), Nat.add_zero]; exact hf k hk
  · rintro s ⟨f, rfl, hf⟩
    obtain ⟨p, q⟩ := hΦ f hf
    rw [cd_524_355, cq_524_355]
    refine ⟨⟨fun z => absurd z (show ¬ nI 10 < 10 by decide), fun _ => p⟩, _, if_neg (show ¬ (nI 10 : Int32) < 10 by decide), q⟩
theorem sun_r (hn : pl_n e ≤ 40) (h33 : ∀ i, i < 550 → N.1 233 i = nI (e i) ∧ e i < 4) (h35 : ∀ c, c < 240 → N.1 235 c = nI (pl_lab e c)) (hhr : hr < 24) (h46 : ∀ d, d < 4 → N.1 246 (24 * d + hr) / 10 = nI (S d)) (hS : ∀ d, S d ≤ 30)
    (hΦ : ∀ f, (∀ k, k < pl_n e → f k = f0 k + lN (sn0 e S k)) → cp_524_355 (nI hr) 0 (mz_sL N 268 f) ∧ Φ (cf_524_355 (nI hr) 0 (mz_sL N 268 f))) :
    cp_524_257 (nI hr) 0 (mz_sL N 268 f0) ∧ Φ (cf_524_257 (nI hr) 0 (mz_sL N 268 f0)) := by
  rw [cp_524_257, cf_524_257]
  refine mz_lpn (f := cq_524_257 (nI hr)) (P := cd_524_257 (nI hr)) (Q := Φ) 550 (fun i s => ∃ f, s = (nI i, mz_sL N 268 f) ∧ ∀ k, f k = f0 k + lN (sumN (fun i => if pl_glp e k i = true then S (ge_sd (i % 110)) else 0) i)) ?_ ?_ (Nat.zero_le _) ⟨f0, rfl, fun k => (Int64.add_zero _).symm⟩
  · rintro t s ht ⟨f, rfl, hf⟩
    obtain ⟨e1, e2⟩ := h33 t ht
    have l : nI t < 550 := (nI_ltI (b := 550) (by omega) (by omega)).mpr ht
    have d2 : mz_irem (nI t) 110 = nI (t % 110) := by rw [show (110 : Int32) = nI 110 from rfl, irem_n (by omega) (by omega) (by omega)]
    have d1 : nI t / 110 = nI (t / 110) := by rw [show (110 : Int32) = nI 110 from rfl, pk_div (by omega) (by omega) (by omega)]
    obtain ⟨q1, q2, q3, q4, q5, q6⟩ := ge_e (t % 110) (by omega)
    have i0 : mz_ib (nI t) 4400 := ib_n (by omega) (by omega)
    have g33 : mz_gI (mz_sL N 268 f) 233 (nI t) = nI (e t) := by rw [gI_a, sL_1, nI_clamp (by omega)]; exact e1
    have skip : (∀ k, pl_glp e k t = false) → ∃ s2, cf_524_347 (nI hr) (nI t) (mz_sL N 268 f) = .inl s2 ∧ ∃ f, s2 = (nI (t + 1), mz_sL N 268 f) ∧ ∀ k, f k = f0 k + lN (sumN (fun i => if pl_glp e k i = true then S (ge_sd (i % 110)) else 0) (t + 1)) := fun hg => by
      refine ⟨_, rfl, f, by rw [nI_1], fun k => ?_⟩
      rw [sumN, hg k, hf k]; rfl
    rw [cd_524_257, cq_524_257]
    simp only [l, if_true, g33, d2, q6]
    by_cases w3 : e t = 3
    · have w3' : nI (e t) = 3 := by rw [w3]; rfl
      by_cases ws : ge_sd (t % 110) < 4
      · have ws' : decide (ge_sd (t % 110) < 4) = true := decide_eq_true ws
        obtain ⟨c1, c2⟩ := ge_cl_r ht (show ge_sd (t % 110) ≠ 4 by omega)
        have hlab := pl_lab_lt (e := e) c1
        have s526 := ge_26 (t % 110) (by omega) ws
        have hsd := hS (ge_sd (t % 110))
        have go : ∀ s0 : Int32, 48 * nI (t / 110) + s0 = nI (ge_cl t) → cp_524_304 s0 (nI hr) (nI t) (nI (t % 110)) (mz_sL N 268 f) ∧ ∃ s2, cf_524_304 s0 (nI hr) (nI t) (nI (t % 110)) (mz_sL N 268 f) = .inl s2 ∧ ∃ f, s2 = (nI (t + 1), mz_sL N 268 f) ∧ ∀ k, f k = f0 k + lN (sumN (fun i => if pl_glp e k i = true then S (ge_sd (i % 110)) else 0) (t + 1)) := fun s0 h0 => by
          have g35 : mz_gI (mz_sL N 268 f) 235 (nI (ge_cl t)) = nI (pl_lab e (ge_cl t)) := by rw [gI_a, sL_1, nI_clamp (by omega)]; exact h35 _ c1
          have e24 : (24 : Int32) * nI (ge_sd (t % 110)) + nI hr = nI (24 * ge_sd (t % 110) + hr) := by rw [show (24 : Int32) = nI 24 from rfl, pk_mul, nI_add]
          have g46 : (mz_gI (mz_sL N 268 f) 246 (nI (24 * ge_sd (t % 110) + hr)) / 10).toInt64 = lN (S (ge_sd (t % 110))) := by
            rw [gI_a, sL_1, nI_clamp (by omega), h46 _ ws, nI_L (by omega)]
          have i3 : mz_ib (nI (pl_lab e (ge_cl t))) 40 := ib_n (by omega) (by omega)
          rw [cp_524_304, cf_524_304, d1, h0, g35, s526, e24, g46]
          refine ⟨⟨ib_n c1 (by omega), i3, ib_n (by omega) (by omega), i3, trivial⟩, _, rfl, vp_updL f (pl_lab e (ge_cl t)) (f (pl_lab e (ge_cl t)) + lN (S (ge_sd (t % 110)))), ?_, fun k => ?_⟩
          · rw [nI_1, wL_s, sL_e, sL_sL, gL_a, sL_e, nI_clamp (by omega)]
          · rw [upL_a, sumN]
            by_cases z : k = pl_lab e (ge_cl t)
            · have hg : pl_glp e k t = true := by
                unfold pl_glp
                exact decide_eq_true ⟨ws, z.symm, w3⟩
              rw [if_pos z, hg, if_pos rfl, ← z, hf k, Int64.add_assoc, lN_add]
            · have hg : pl_glp e k t = false := by
                unfold pl_glp
                exact decide_eq_false (fun y => z y.2.1.symm)
              rw [if_neg z, hg, hf k]; rfl
        simp only [w3', ws', if_true]
        rcases c2 with y | y
        · obtain ⟨g1, g2⟩ := go _ y.2
          have y1 := y.1
          simp only [y1, if_true]
          exact ⟨⟨fun _ => ⟨i0, fun _ => ⟨fun _ => ⟨fun _ => g1, fun z => absurd trivial z⟩, fun z => absurd trivial z⟩, fun z => absurd trivial z⟩, fun z => absurd trivial z⟩, Or.inl g2⟩
        · obtain ⟨g1, g2⟩ := go _ y.2.2
          have y1 := y.1
          simp only [y1, if_false]
          exact ⟨⟨fun _ => ⟨i0, fun _ => ⟨fun _ => ⟨False.elim, fun _ => g1⟩, fun z => absurd trivial z⟩, fun z => absurd trivial z⟩, fun z => absurd trivial z⟩, Or.inl g2⟩
      · have ws' : ¬ decide (ge_sd (t % 110) < 4) = true := by simpa using ws
        simp only [w3', ws', if_true, if_false]
        exact ⟨⟨fun _ => ⟨i0, fun _ => ⟨(fun z => by cases z), fun _ => trivial⟩, fun z => absurd trivial z⟩, fun z => absurd trivial z⟩, Or.inl (skip (fun k => decide_eq_false (fun y => ws y.1)))⟩
    · have w3' : ¬ nI (e t) = 3 := fun z => w3 ((nI_eq (b := 3) (by omega) (by omega)).mp z)
      simp only [w3', if_false]
      exact ⟨⟨fun _ => ⟨i0, False.elim, fun _ => trivial⟩, fun z => absurd trivial z⟩, Or.inl (skip (fun k => decide_eq_false (fun y => w3 y.2.2)))⟩
  · rintro s ⟨f, rfl, hf⟩
    obtain ⟨p, q⟩ := hΦ f (fun k _ => by rw [hf k, sn_e]; rfl)
    rw [cd_524_257, cq_524_257]
    exact ⟨⟨fun z => absurd z (show ¬ nI 550 < 550 by decide), fun _ => p⟩, _, if_neg (show ¬ (nI 550 : Int32) < 550 by decide), q⟩
end War
