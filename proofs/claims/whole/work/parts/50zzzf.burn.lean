/-! PURE (50zzzf): sprinklers and the whole fire in the class. -/
noncomputable def frS (e F : Nat → Nat) (s : Nat → Int64) (lv : Bool) (vn : Nat) : Nat → Int64 := vts lv vn (drf e (gS F s) 550 (gS F s))
noncomputable def frX (e F : Nat → Nat) (s : Nat → Int64) (lv : Bool) (vn : Nat) (sp : Bool) (tk : Nat) : (Nat → Nat) × Nat := if sp = true then spA e (frS e F s lv vn) (pl_n e) (lg e F 240 (gF F), tk) else (lg e F 240 (gF F), tk)
section Spc
variable {N : mz_N} {e fl F : Nat → Nat} {s h : Nat → Int64} {vn tk : Nat} {lv sp : Bool}
/-- flames and the tank in the class -/
def smc (N : mz_N) (f : Nat → Int32) (k : Nat) : mz_N := (fun z => if z = 73 then f else if z = 56 then upd (N.1 56) 7 (nI k) else N.1 z, N.2)
theorem sm_f {f : Nat → Int32} {k : Nat} {i v : Int32} : mz_wI (smc N f k) 73 i v = smc N (upd f i.toNatClampNeg v) k := by
  refine mz_ext (fun c => ?_) (fun c => rfl)
  rw [wI_s, sI_1]
  show (if c = 73 then upd f _ v else if c = 73 then f else if c = 56 then _ else N.1 c) = if c = 73 then _ else if c = 56 then _ else N.1 c
  by_cases z : c = 73
  · rw [if_pos z, if_pos z]
  · rw [if_neg z, if_neg z, if_neg z]
theorem sm_k {f : Nat → Int32} {k j : Nat} : mz_pI (smc N f k) 56 7 (nI j) = smc N f j := by
  refine mz_ext (fun c => ?_) (fun c => rfl)
  rw [pI_s, sI_1]
  show (if c = 56 then upd (upd (N.1 56) 7 (nI k)) 7 (nI j) else if c = 73 then f else if c = 56 then _ else N.1 c) = if c = 73 then f else if c = 56 then upd (N.1 56) 7 (nI j) else N.1 c
  by_cases z : c = 56
  · rw [if_pos z, if_neg (show ¬ c = 73 by omega), if_pos z]
    funext i
    rw [up_a, up_a, up_a]
    by_cases y : i = 7
    · rw [if_pos y, if_pos y]
    · rw [if_neg y, if_neg y, if_neg y]
  · rw [if_neg z, if_neg z, if_neg z]
theorem sm_0 (h : N.1 56 7 = nI tk) : smc N (N.1 73) tk = N := by
  refine mz_ext (fun c => ?_) (fun c => rfl)
  show (if c = 73 then N.1 73 else if c = 56 then upd (N.1 56) 7 (nI tk) else N.1 c) = N.1 c
  by_cases z : c = 73
  · rw [if_pos z, z]
  · rw [if_neg z]
    by_cases y : c = 56
    · rw [if_pos y, y]
      funext i
      rw [up_a]
      by_cases x : i = 7
      · rw [if_pos x, x, h]
      · rw [if_neg x]
    · rw [if_neg y]
theorem spk_c {k : Nat} {f0 : Nat → Int32} {x0 : (Nat → Nat) × Nat} (hn : pl_n e ≤ 40) (hs : c_sm e N) (hk : k < pl_n e) (hf : ∀ c, c < 240 → f0 c = nI (x0.1 c)) (hx : (∀ j, j < 240 → x0.1 j ≤ 100) ∧ x0.2 ≤ 2000) :
    cp_253_33 (nI k) (nI (pl_st e k)) 0 (smc N f0 x0.2) ∧ ∃ f, cf_253_33 (nI k) (nI (pl_st e k)) 0 (smc N f0 x0.2) = .inl (nI (k + 1), smc N f (spk e k 240 x0).2) ∧ ∀ c, c < 240 → f c = nI ((spk e k 240 x0).1 c) := by
  have hz := pl_sz_le hk
  have ik : mz_ib (nI k) 40 := ib_n (by omega) (by omega)
  have hsz : cnt (pl_in e k) 240 = pl_sz e k := rfl
  have g19 : ∀ f t, mz_gI (smc N f t) 19 (nI k) = nI (pl_sz e k) := fun f t => by rw [gI_a, nI_clamp (by omega)]; exact (hs.1 k hk).1
  rw [cp_253_33, cf_253_33]
  refine mz_lpn (f := cq_253_33 (nI k) (nI (pl_st e k))) (P := cd_253_33 (nI k) (nI (pl_st e k))) (Q := fun t => ∃ f, t = .inl (nI (k + 1), smc N f (spk e k 240 x0).2) ∧ ∀ c, c < 240 → f c = nI ((spk e k 240 x0).1 c)) (pl_sz e k) (fun i t => ∃ f x, t = (nI i, smc N f x.2) ∧ (∀ c, c < 240 → f c = nI (x.1 c)) ∧ ((∀ j, j < 240 → x.1 j ≤ 100) ∧ x.2 ≤ 2000) ∧ ∀ c, c ≤ 240 → cnt (pl_in e k) c = i → x = spk e k c x0) ?_ ?_ (Nat.zero_le _) ⟨f0, x0, rfl, hf, hx, fun c hc h0 => by
      rw [← spk_cg (a := 0) (Nat.zero_le c) (by rw [h0]; rfl), spk_0]⟩
  · rintro i t hi ⟨f, x, rfl, hf, hx, hc⟩
    obtain ⟨c0, c1, c2, c3, c4⟩ := en_c hs hk hi
    have l : nI i < nI (pl_sz e k) := (nI_ltI (by omega) (by omega)).mpr hi
    have g30 : mz_gI (smc N f x.2) 30 (nI (pl_st e k) + nI i) = nI c0 := by rw [nI_add, gI_a, nI_clamp (by omega)]; exact c4
    have i1 : mz_ib (nI (pl_st e k) + nI i) 240 := by rw [nI_add]; exact ib_n (by omega) (by omega)
    have i2 : mz_ib (nI c0) 240 := ib_n c1 (by omega)
    have g73 : ∀ t, mz_gI (smc N f t) 73 (nI c0) = nI (x.1 c0) := fun t => by rw [gI_a, nI_clamp (by omega)]; exact hf c0 c1
    have g56 : (smc N f x.2).1 56 7 = nI x.2 := by show upd (N.1 56) 7 (nI x.2) 7 = _; rw [up_a, if_pos rfl]
    have hb := hx.1 c0 c1
    have hb2 := hx.2
    have lt : (0 < nI (x.1 c0)) ↔ 0 < x.1 c0 := nI_gt0 (by omega)
    have lt10 : (nI x.2 < 10) ↔ x.2 < 10 := nI_ltI (b := 10) (by omega) (by omega)
    have hx0 := hc c0 (by omega) c3
    have hnext : ∀ c, c ≤ 240 → cnt (pl_in e k) c = i + 1 → sp1 c0 x = spk e k c x0 := fun c hc1 hc2 => by
      have e1 : spk e k (c0 + 1) x0 = sp1 c0 x := by rw [spk_s, if_pos c2, ← hx0]
      have e2 : cnt (pl_in e k) (c0 + 1) = i + 1 := by rw [cnt_s (pin c2), c3]
      rw [← e1]
      by_cases z : c0 + 1 ≤ c
      · exact spk_cg z (by rw [e2, hc2])
      · exact (spk_cg (show c ≤ c0 + 1 by omega) (by rw [e2, hc2])).symm
    rw [cd_253_33, cq_253_33]
    simp only [g19, l, if_true, g30, g73, g56, lt, lt10]
    have skip : ¬ (0 < x.1 c0 ∧ 10 ≤ x.2) → ∃ s2, cf_253_109 (nI k) (nI (pl_st e k)) (nI i) (smc N f x.2) = .inl s2 ∧ ∃ f x, s2 = (nI (i + 1), smc N f x.2) ∧ (∀ c, c < 240 → f c = nI (x.1 c)) ∧ ((∀ j, j < 240 → x.1 j ≤ 100) ∧ x.2 ≤ 2000) ∧ ∀ c, c ≤ 240 → cnt (pl_in e k) c = i + 1 → x = spk e k c x0 := fun hno => by
      refine ⟨_, rfl, f, x, by rw [nI_1], hf, hx, fun c hc1 hc2 => ?_⟩
      rw [← hnext c hc1 hc2, sp1, if_neg hno]
    by_cases w1 : 0 < x.1 c0
    · by_cases w2 : x.2 < 10
      · simp only [w1, w2, if_true]
        exact ⟨⟨ik, fun _ => ⟨i1, i2, fun _ => ⟨fun _ => trivial, fun z => absurd trivial z⟩, fun z => absurd trivial z⟩, fun z => absurd trivial z⟩, Or.inl (skip (fun z => by omega))⟩
      · have e10 : nI x.2 - 10 = nI (x.2 - 10) := pk_sub (b := 10) (by omega)
        have e30 : mz_imax 0 (nI (x.1 c0) - 30) = nI (x.1 c0 - 30) := imaxsub (b := 30) (by omega) (by omega)
        simp only [w1, w2, if_true, if_false, e10, sm_k, g73, e30]
        refine ⟨⟨ik, fun _ => ⟨i1, i2, fun _ => ⟨False.elim, fun _ => ⟨i2, i2, trivial⟩⟩, fun z => absurd trivial z⟩, fun z => absurd trivial z⟩, Or.inl ⟨_, rfl, upd f c0 (nI (x.1 c0 - 30)), sp1 c0 x, ?_, fun c hc1 => ?_, sp1_b hx, hnext⟩⟩
        · rw [nI_1, sm_f, nI_clamp (by omega), sp1, if_pos ⟨w1, by omega⟩]
        · rw [sp1, if_pos ⟨w1, by omega⟩, up_a]
          show _ = nI (up x.1 c0 (x.1 c0 - 30) c)
          unfold up
          by_cases z : c = c0
          · rw [if_pos z, if_pos z]
          · rw [if_neg z, if_neg z]; exact hf c hc1
    · simp only [w1, if_false]
      exact ⟨⟨ik, fun _ => ⟨i1, i2, False.elim, fun _ => trivial⟩, fun z => absurd trivial z⟩, Or.inl (skip (fun z => w1 z.1))⟩
  · rintro t ⟨f, x, rfl, hf, hx, hc⟩
    have l : ¬ nI (pl_sz e k) < nI (pl_sz e k) := fun q => by have := (nI_ltI (by omega) (by omega)).mp q; omega
    have hx0 := hc 240 (Nat.le_refl _) hsz
    rw [cd_253_33, cq_253_33]
    simp only [g19, l, if_false]
    refine ⟨⟨ik, False.elim, fun _ => trivial⟩, _, rfl, f, ?_, fun c hc1 => ?_⟩
    · rw [cf_253_115, nI_1, ← hx0]
    · rw [← hx0]; exact hf c hc1
theorem spA_b {w : Nat → Int64} {x : (Nat → Nat) × Nat} (h : (∀ j, j < 240 → x.1 j ≤ 100) ∧ x.2 ≤ 2000) : ∀ t, (∀ j, j < 240 → (spA e w t x).1 j ≤ 100) ∧ (spA e w t x).2 ≤ 2000 := by
  intro t
  induction t with
  | zero => rw [spA_0]; exact h
  | succ t ih =>
    rw [spA_s]
    split
    · exact spk_b ih 240
    · exact ih
theorem spr2_c {x0 : (Nat → Nat) × Nat} (hn : pl_n e ≤ 40) (h7 : N.1 2 7 = nI (pl_n e)) (hs : c_sm e N) (h65 : N.1 65 8 = 1) (h73 : ∀ c, c < 240 → N.1 73 c = nI (x0.1 c)) (h56 : N.1 56 7 = nI x0.2) (hx : (∀ j, j < 240 → x0.1 j ≤ 100) ∧ x0.2 ≤ 2000) :
    cp_253_0 N ∧ ∃ f, cf_253_0 N = smc N f (spA e (N.2 71) (pl_n e) x0).2 ∧ ∀ c, c < 240 → f c = nI ((spA e (N.2 71) (pl_n e) x0).1 c) := by
  rw [cp_253_0, cf_253_0, cp_253_2, cf_253_2]
  refine mz_lpn (f := cq_253_2) (P := cd_253_2) (Q := fun t => ∃ f, t = smc N f (spA e (N.2 71) (pl_n e) x0).2 ∧ ∀ c, c < 240 → f c = nI ((spA e (N.2 71) (pl_n e) x0).1 c)) (pl_n e) (fun k t => ∃ f, t = (nI k, smc N f (spA e (N.2 71) k x0).2) ∧ ∀ c, c < 240 → f c = nI ((spA e (N.2 71) k x0).1 c)) ?_ ?_ (Nat.zero_le _) ⟨N.1 73, by rw [spA_0, sm_0 h56]; rfl, by rw [spA_0]; exact h73⟩
  · rintro k t hk ⟨f, rfl, hf⟩
    have hxk := spA_b (e := e) (w := N.2 71) hx k
    have l : nI k < nI (pl_n e) := (nI_ltI (by omega) (by omega)).mpr hk
    rw [spA_s (t := k)]
    generalize spA e (N.2 71) k x0 = xk at hf hxk
    have h7' : (smc N f xk.2).1 2 7 = nI (pl_n e) := h7
    have hs' : c_sm e (smc N f xk.2) := hs
    have hnf : nfs (smc N f xk.2) := ⟨Or.inr h65, fun z => by have h1 : N.1 65 8 = 0 := z; rw [h65] at h1; exact absurd h1 (by decide)⟩
    obtain ⟨d1, d2⟩ := det_c (N := smc N f xk.2) hn hs' hnf hk
    have d2' : cf_210_0 (nI k) (smc N f xk.2) = dtc e (N.2 71) k := d2
    have g28 : mz_gI (smc N f xk.2) 28 (nI k) = nI (pl_st e k) := by rw [gI_a, nI_clamp (by omega)]; exact (hs.1 k hk).2
    rw [cd_253_2, cq_253_2]
    simp only [h7', l, if_true, d2', g28]
    cases hd : dtc e (N.2 71) k with
    | true =>
      obtain ⟨s1, f', s2', s3⟩ := spk_c (N := N) (f0 := f) (x0 := xk) hn hs hk hf hxk
      rw [if_pos rfl, if_pos rfl]
      exact ⟨⟨fun _ => ⟨d1, fun _ => ⟨ib_n (by omega) (by omega), s1⟩, fun z => absurd rfl z⟩, fun z => absurd trivial z⟩, Or.inl ⟨_, s2', f', rfl, s3⟩⟩
    | false =>
      rw [if_neg (by decide), if_neg (by decide)]
      exact ⟨⟨fun _ => ⟨d1, (fun z => by cases z), fun _ => trivial⟩, fun z => absurd trivial z⟩, Or.inl ⟨_, rfl, f, by rw [nI_1], hf⟩⟩
  · rintro t ⟨f, rfl, hf⟩
    have l : ¬ nI (pl_n e) < nI (pl_n e) := fun q => by have := (nI_ltI (by omega) (by omega)).mp q; omega
    have h7' : (smc N f (spA e (N.2 71) (pl_n e) x0).2).1 2 7 = nI (pl_n e) := h7
    rw [cd_253_2, cq_253_2]
    simp only [h7', l, if_false]
    exact ⟨⟨False.elim, fun _ => trivial⟩, _, rfl, f, rfl, hf⟩
theorem gF_le {c : Nat} (h : F c ≤ 100) : gF F c ≤ 100 := by unfold gF; split <;> omega
theorem burn_c (hn : pl_n e ≤ 40) (hp : c_pl e fl N) (h3 : ∀ i, i < 550 → N.1 3 i = nI (e i) ∧ e i < 4) (h65 : N.1 65 8 = 1) (h73 : ∀ c, c < 240 → N.1 73 c = nI (F c) ∧ F c ≤ 100) (h6 : N.1 56 6 = mz_b01 lv) (hvn : N.1 53 13 = nI vn) (hvn2 : vn ≤ 100) (hsp : sp = decide (N.1 53 15 = 1)) (h56 : N.1 56 7 = nI tk) (htk : tk ≤ 2000) :
    cp_247_0 N ∧ ∃ K, cf_247_0 N = K ∧ fq [56, 65, 73, 80] [68, 71, 79] N K ∧ (∀ c, c < 240 → K.1 73 c = nI ((frX e F (N.2 71) lv vn sp tk).1 c) ∧ (frX e F (N.2 71) lv vn sp tk).1 c ≤ 100) ∧ (∀ c, c < 240 → K.2 71 c = frS e F (N.2 71) lv vn c) ∧ (∀ c, c < 240 → K.2 68 c = gH F (N.2 68) c) ∧ (K.1 56 7 = nI (frX e F (N.2 71) lv vn sp tk).2 ∧ ∀ j, j ≠ 7 → K.1 56 j = N.1 56 j) ∧ K.1 65 8 = mz_b01 (anl (frX e F (N.2 71) lv vn sp tk).1 (frS e F (N.2 71) lv vn) 240) ∧ ∀ j, j ≠ 8 → K.1 65 j = N.1 65 j := by
  obtain ⟨a1, f1, o1, s1, h1, a2, a3⟩ := grow_c h73
  obtain ⟨b1', f2, b2, b3⟩ := light_c (N := fmc N f1 o1 s1 h1) (e := e) (F := F) (f0 := gF F) h3 (fun c hc => ⟨(a3 c hc).2.1, (h73 c hc).2⟩) h65 (fun c hc => ⟨(a3 c hc).1, gF_le (h73 c hc).2⟩)
  obtain ⟨c1, g, c2⟩ := drift_c (N := mz_sI (fmc N f1 o1 s1 h1) 73 f2) (e := e) h3
  have c2' : cf_251_0 (mz_sI (fmc N f1 o1 s1 h1) 73 f2) = mz_sL (mz_sL (mz_sI (fmc N f1 o1 s1 h1) 73 f2) 79 g) 71 (drf e s1 550 s1) := c2
  have hdr : ∀ c, c < 240 → drf e s1 550 s1 c = drf e (gS F (N.2 71)) 550 (gS F (N.2 71)) c := drf_cg (fun c hc => (a3 c hc).2.2.1) (fun c hc => (a3 c hc).2.2.1) 550 (Nat.le_refl _)
  rw [cp_247_0, cf_247_0, a2, b2, c2']
  generalize hM : mz_sL (mz_sL (mz_sI (fmc N f1 o1 s1 h1) 73 f2) 79 g) 71 (drf e s1 550 s1) = M
  have mfq : fq [56, 65, 73, 80] [68, 71, 79] N M := by
    rw [← hM]
    refine fq_sL (fq_sL (fq_sI ⟨fun c hc => ?_, fun c hc => ?_⟩ rfl) rfl) rfl
    · show (if c = 73 then f1 else if c = 80 then o1 else N.1 c) = N.1 c
      have k1 : c ≠ 73 := fun z => by rw [z] at hc; cases hc
      have k2 : c ≠ 80 := fun z => by rw [z] at hc; cases hc
      rw [if_neg k1, if_neg k2]
    · show (if c = 71 then s1 else if c = 68 then h1 else N.2 c) = N.2 c
      have k1 : c ≠ 71 := fun z => by rw [z] at hc; cases hc
      have k2 : c ≠ 68 := fun z => by rw [z] at hc; cases hc
      rw [if_neg k1, if_neg k2]
  have m56 : M.1 56 = N.1 56 := by rw [← hM]; rfl
  have m65 : M.1 65 = N.1 65 := by rw [← hM]; rfl
  have m53 : M.1 53 = N.1 53 := by rw [← hM]; rfl
  have m73 : ∀ c, c < 240 → M.1 73 c = nI (lg e F 240 (gF F) c) ∧ lg e F 240 (gF F) c ≤ 100 := by rw [← hM]; exact b3
  have m71 : ∀ c, c < 240 → M.2 71 c = drf e (gS F (N.2 71)) 550 (gS F (N.2 71)) c := by rw [← hM]; exact hdr
  have m68 : ∀ c, c < 240 → M.2 68 c = gH F (N.2 68) c := by rw [← hM]; exact fun c hc => (a3 c hc).2.2.2
  have mp : c_pl e fl M := pl_fq mfq rfl hp
  have z6 : mz_z01 (M.1 56 6) := by
    rw [m56, h6]; cases lv
    · exact Or.inl rfl
    · exact Or.inr rfl
  have e6 : mz_fZ M 56 6 = lv := by
    show decide (M.1 56 6 = 1) = lv
    rw [m56, h6]; cases lv <;> rfl
  have e53 : mz_gI M 53 13 = nI vn := by show M.1 53 13 = _; rw [m53, hvn]
  have tail : ∀ s', (∀ c, c < 240 → s' c = frS e F (N.2 71) lv vn c) → cp_247_29 (mz_sL M 71 s') ∧ ∃ K, cf_247_29 (mz_sL M 71 s') = K ∧ fq [56, 65, 73, 80] [68, 71, 79] N K ∧ (∀ c, c < 240 → K.1 73 c = nI ((frX e F (N.2 71) lv vn sp tk).1 c) ∧ (frX e F (N.2 71) lv vn sp tk).1 c ≤ 100) ∧ (∀ c, c < 240 → K.2 71 c = frS e F (N.2 71) lv vn c) ∧ (∀ c, c < 240 → K.2 68 c = gH F (N.2 68) c) ∧ (K.1 56 7 = nI (frX e F (N.2 71) lv vn sp tk).2 ∧ ∀ j, j ≠ 7 → K.1 56 j = N.1 56 j) ∧ K.1 65 8 = mz_b01 (anl (frX e F (N.2 71) lv vn sp tk).1 (frS e F (N.2 71) lv vn) 240) ∧ ∀ j, j ≠ 8 → K.1 65 j = N.1 65 j := fun s' hs' => by
    have e15 : mz_gI (mz_sL M 71 s') 53 15 = N.1 53 15 := by show M.1 53 15 = _; rw [m53]
    rw [cp_247_29, cf_247_29, e15]
    cases hsv : sp with
    | true =>
      have g15 : N.1 53 15 = 1 := by rw [hsv] at hsp; exact of_decide_eq_true hsp.symm
      obtain ⟨d1, f3, d2, d3⟩ := spr2_c (N := mz_sL M 71 s') (e := e) (x0 := (lg e F 240 (gF F), tk)) hn mp.1 (sm_pl mp) (by show M.1 65 8 = 1; rw [m65]; exact h65) (fun c hc => (m73 c hc).1) (by show M.1 56 7 = nI tk; rw [m56]; exact h56) ⟨fun c hc => (m73 c hc).2, htk⟩
      have e71 : (mz_sL M 71 s').2 71 = s' := sL_e _ _ _
      rw [e71, spA_cg hs'] at d2 d3
      have hX : frX e F (N.2 71) lv vn true tk = spA e (frS e F (N.2 71) lv vn) (pl_n e) (lg e F 240 (gF F), tk) := if_pos rfl
      have hb := spA_b (e := e) (w := frS e F (N.2 71) lv vn) (x := (lg e F 240 (gF F), tk)) ⟨fun c hc => (m73 c hc).2, htk⟩ (pl_n e)
      rw [hX]
      generalize spA e (frS e F (N.2 71) lv vn) (pl_n e) (lg e F 240 (gF F), tk) = X at d2 d3 hb
      obtain ⟨l1, l2⟩ := left_c (N := smc (mz_sL M 71 s') f3 X.2) (F := X.1) (fun c hc => ⟨d3 c hc, hb.1 c hc⟩)
      have l2' : cf_254_0 (smc (mz_sL M 71 s') f3 X.2) = anl X.1 (frS e F (N.2 71) lv vn) 240 := by
        rw [l2]
        exact anl_cg 240 (fun c hc => ⟨rfl, by show (mz_sL M 71 s').2 71 c = _; rw [sL_e]; exact hs' c hc⟩)
      rw [if_pos g15, d2, cp_247_43, cf_247_43, l2']
      refine ⟨⟨fun _ => ⟨d1, l1⟩, fun z => absurd g15 z⟩, _, rfl, ?_, fun c hc => ⟨d3 c hc, hb.1 c hc⟩, fun c hc => ?_, fun c hc => m68 c hc, ⟨?_, fun j hj => ?_⟩, ?_, fun j hj => ?_⟩
      · refine fq_pI (fq_trans mfq ⟨fun c hc => ?_, fun c hc => ?_⟩) rfl
        · show (if c = 73 then f3 else if c = 56 then _ else M.1 c) = M.1 c
          have k1 : c ≠ 73 := fun z => by rw [z] at hc; cases hc
          have k2 : c ≠ 56 := fun z => by rw [z] at hc; cases hc
          rw [if_neg k1, if_neg k2]
        · have k1 : c ≠ 71 := fun z => by rw [z] at hc; cases hc
          exact sL_n k1
      · show (mz_sL M 71 s').2 71 c = _
        rw [sL_e]; exact hs' c hc
      · show upd (M.1 56) 7 (nI X.2) 7 = _
        rw [up_a, if_pos rfl]
      · show upd (M.1 56) 7 (nI X.2) j = _
        rw [up_a, if_neg hj, m56]
      · rw [pI_s, sI_e, up_a, if_pos rfl]
      · show upd (M.1 65) 8 _ j = _
        rw [up_a, if_neg hj, m65]
    | false =>
      have g15 : ¬ N.1 53 15 = 1 := by rw [hsv] at hsp; exact of_decide_eq_false hsp.symm
      have hX : frX e F (N.2 71) lv vn false tk = (lg e F 240 (gF F), tk) := if_neg (by decide)
      rw [hX]
      obtain ⟨l1, l2⟩ := left_c (N := mz_sL M 71 s') (F := lg e F 240 (gF F)) m73
      have l2' : cf_254_0 (mz_sL M 71 s') = anl (lg e F 240 (gF F)) (frS e F (N.2 71) lv vn) 240 := by
        rw [l2]
        exact anl_cg 240 (fun c hc => ⟨rfl, by rw [sL_e]; exact hs' c hc⟩)
      rw [if_neg g15, cp_247_43, cf_247_43, l2']
      refine ⟨⟨fun z => absurd z g15, fun _ => l1⟩, _, rfl, fq_pI (fq_trans mfq (fq_sL (fq_refl _ _ _) rfl)) rfl, m73, fun c hc => ?_, fun c hc => m68 c hc, ⟨?_, fun j hj => ?_⟩, ?_, fun j hj => ?_⟩
      · show (mz_sL M 71 s').2 71 c = _
        rw [sL_e]; exact hs' c hc
      · show M.1 56 7 = _
        rw [m56]; exact h56
      · show M.1 56 j = _
        rw [m56]
      · rw [pI_s, sI_e, up_a, if_pos rfl]
      · show upd (M.1 65) 8 _ j = _
        rw [up_a, if_neg hj, m65]
  rw [e6, e53]
  cases hl : lv with
  | true =>
    obtain ⟨v1, s', v2, v3⟩ := vent_c (N := M) (vn := vn) hvn2
    obtain ⟨t1, t2⟩ := tail s' (fun c hc => by rw [v3 c hc, frS, hl, vts, vts, m71 c hc])
    rw [hl] at t2
    rw [if_pos rfl, v2]
    exact ⟨⟨a1, b1', c1, z6, fun _ => ⟨v1, t1⟩, fun z => absurd rfl z⟩, t2⟩
  | false =>
    obtain ⟨t1, t2⟩ := tail (M.2 71) (fun c hc => by rw [m71 c hc, frS, hl, vts, if_neg (by decide)])
    rw [sL_same] at t1 t2
    rw [hl] at t2
    rw [if_neg (by decide)]
    exact ⟨⟨a1, b1', c1, z6, (fun z => by cases z), fun _ => t1⟩, t2⟩
end Spc
