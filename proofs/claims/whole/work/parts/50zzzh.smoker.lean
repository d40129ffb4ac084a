/-! PURE (50zzzh): smoke and sprinklers in the reference; its fire as a whole. -/
section Smr
variable {N : mz_N} {e fl F : Nat → Nat} {Φ : mz_N → Prop} {lv sp : Bool} {vn tk : Nat}
def smr (N : mz_N) (f : Nat → Int64) (k : Nat) : mz_N := (fun z => if z = 232 then upd (N.1 232) 61 (nI k) else N.1 z, fun z => if z = 264 then f else N.2 z)
theorem sr_f {f : Nat → Int64} {k : Nat} {i : Int32} {v : Int64} : mz_wL (smr N f k) 264 i v = smr N (vp_updL f i.toNatClampNeg v) k := by
  refine mz_ext (fun c => rfl) (fun c => ?_)
  rw [wL_s, sL_2]
  show (if c = 264 then vp_updL f _ v else if c = 264 then f else N.2 c) = if c = 264 then _ else N.2 c
  by_cases z : c = 264
  · rw [if_pos z, if_pos z]
  · rw [if_neg z, if_neg z, if_neg z]
theorem sr_k {f : Nat → Int64} {k j : Nat} : mz_pI (smr N f k) 232 61 (nI j) = smr N f j := by
  refine mz_ext (fun c => ?_) (fun c => rfl)
  rw [pI_s, sI_1]
  show (if c = 232 then upd (upd (N.1 232) 61 (nI k)) 61 (nI j) else if c = 232 then _ else N.1 c) = if c = 232 then upd (N.1 232) 61 (nI j) else N.1 c
  by_cases z : c = 232
  · rw [if_pos z, if_pos z]
    funext i
    rw [up_a, up_a, up_a]
    by_cases y : i = 61
    · rw [if_pos y, if_pos y]
    · rw [if_neg y, if_neg y, if_neg y]
  · rw [if_neg z, if_neg z, if_neg z]
theorem sr_0 (h : N.1 232 61 = nI tk) : smr N (N.2 264) tk = N := by
  refine mz_ext (fun c => ?_) (fun c => ?_)
  · show (if c = 232 then upd (N.1 232) 61 (nI tk) else N.1 c) = N.1 c
    by_cases y : c = 232
    · rw [if_pos y, y]
      funext i
      rw [up_a]
      by_cases x : i = 61
      · rw [if_pos x, x, h]
      · rw [if_neg x]
    · rw [if_neg y]
  · show (if c = 264 then N.2 264 else N.2 c) = N.2 c
    by_cases z : c = 264
    · rw [if_pos z, z]
    · rw [if_neg z]
theorem sr_7 {f : Nat → Int64} {k : Nat} : (smr N f k).1 232 7 = N.1 232 7 := rfl
theorem spk_r {k : Nat} {f0 : Nat → Int64} {x0 : (Nat → Nat) × Nat} (h35 : ∀ c, c < 240 → N.1 235 c = nI (pl_lab e c)) (hk : k < 240) (hf : ∀ c, c < 240 → f0 c = lN (x0.1 c)) (hx : (∀ j, j < 240 → x0.1 j ≤ 100) ∧ x0.2 ≤ 2000) :
    cp_534_0 (nI k) (smr N f0 x0.2) ∧ ∃ f, cf_534_0 (nI k) (smr N f0 x0.2) = smr N f (spk e k 240 x0).2 ∧ ∀ c, c < 240 → f c = lN ((spk e k 240 x0).1 c) := by
  have hb2 := pl_n_le e
  rw [cp_534_0, cf_534_0, cp_534_2, cf_534_2]
  refine mz_lpn (f := cq_534_2 (nI k)) (P := cd_534_2 (nI k)) (Q := fun t => ∃ f, t = smr N f (spk e k 240 x0).2 ∧ ∀ c, c < 240 → f c = lN ((spk e k 240 x0).1 c)) 240 (fun i t => ∃ f, t = (nI i, smr N f (spk e k i x0).2) ∧ ∀ c, c < 240 → f c = lN ((spk e k i x0).1 c)) ?_ ?_ (Nat.zero_le _) ⟨f0, by rw [spk_0]; rfl, by rw [spk_0]; exact hf⟩
  · rintro i t hi ⟨f, rfl, hf⟩
    have hxi := spk_b (e := e) (k := k) hx i
    have hl := pl_lab_lt (e := e) hi
    rw [spk_s (t := i)]
    generalize spk e k i x0 = x at hf hxi
    have l : nI i < 240 := (nI_ltI (b := 240) (by omega) (by omega)).mpr hi
    have ii : mz_ib (nI i) 240 := ib_n hi (by omega)
    have g35 : mz_gI (smr N f x.2) 235 (nI i) = nI (pl_lab e i) := by rw [gI_a, nI_clamp (by omega)]; exact h35 i hi
    have g64 : ∀ t, mz_gL (smr N f t) 264 (nI i) = lN (x.1 i) := fun t => by rw [gL_a, nI_clamp (by omega)]; exact hf i hi
    have g61 : (smr N f x.2).1 232 61 = nI x.2 := by show upd (N.1 232) 61 (nI x.2) 61 = _; rw [up_a, if_pos rfl]
    have hb := hxi.1 i hi
    have hb2 := hxi.2
    have lt : (0 < lN (x.1 i)) ↔ 0 < x.1 i := lN_g0 (by omega)
    have lt10 : (nI x.2 < 10) ↔ x.2 < 10 := nI_ltI (b := 10) (by omega) (by omega)
    have leq : (nI (pl_lab e i) = nI k) ↔ pl_lab e i = k := nI_eq (by omega) (by omega)
    rw [cd_534_2, cq_534_2]
    simp only [l, if_true, g35, g64, g61, lt, lt10, leq]
    have same : ∀ y : (Nat → Nat) × Nat, y = x → ∃ s2, cf_534_73 (nI k) (nI i) (smr N f x.2) = .inl s2 ∧ ∃ f, s2 = (nI (i + 1), smr N f y.2) ∧ ∀ c, c < 240 → f c = lN (y.1 c) := fun y hy => ⟨_, rfl, f, by rw [nI_1, hy], by rw [hy]; exact hf⟩
    by_cases w0 : pl_lab e i = k
    · simp only [w0, if_true]
      by_cases w1 : 0 < x.1 i
      · by_cases w2 : x.2 < 10
        · simp only [w1, w2, if_true]
          exact ⟨⟨fun _ => ⟨ii, fun _ => ⟨ii, fun _ => ⟨fun _ => trivial, fun z => absurd trivial z⟩, fun z => absurd trivial z⟩, fun z => absurd trivial z⟩, fun _ => trivial⟩, Or.inl (same _ (by rw [sp1, if_neg (fun z => by omega)]))⟩
        · have e10 : nI x.2 - 10 = nI (x.2 - 10) := pk_sub (b := 10) (by omega)
          simp only [w1, w2, if_true, if_false, e10, sr_k, g64, clp_3 hb]
          have hs1 : sp1 i x = (up x.1 i (x.1 i - 30), x.2 - 10) := if_pos ⟨w1, by omega⟩
          rw [hs1]
          refine ⟨⟨fun _ => ⟨ii, fun _ => ⟨ii, fun _ => ⟨False.elim, fun _ => ⟨ii, ii, trivial⟩⟩, fun z => absurd trivial z⟩, fun z => absurd trivial z⟩, fun _ => trivial⟩, Or.inl ⟨_, rfl, vp_updL f i (lN (x.1 i - 30)), ?_, fun c hc1 => ?_⟩⟩
          · rw [nI_1, sr_f, nI_clamp (by omega)]
          · rw [upL_a]
            show _ = lN (up x.1 i (x.1 i - 30) c)
            unfold up
            by_cases z : c = i
            · rw [if_pos z, if_pos z]
            · rw [if_neg z, if_neg z]; exact hf c hc1
      · simp only [w1, if_false]
        exact ⟨⟨fun _ => ⟨ii, fun _ => ⟨ii, False.elim, fun _ => trivial⟩, fun z => absurd trivial z⟩, fun _ => trivial⟩, Or.inl (same _ (by rw [sp1, if_neg (fun z => w1 z.1)]))⟩
    · simp only [w0, if_false]
      exact ⟨⟨fun _ => ⟨ii, False.elim, fun _ => trivial⟩, fun _ => trivial⟩, Or.inl (same x rfl)⟩
  · rintro t ⟨f, rfl, hf⟩
    rw [cd_534_2, cq_534_2]
    exact ⟨⟨fun z => absurd z (show ¬ nI 240 < 240 by decide), fun _ => trivial⟩, _, if_neg (show ¬ (nI 240 : Int32) < 240 by decide), f, rfl, hf⟩
theorem spr2_r {x0 : (Nat → Nat) × Nat} {u : Nat → Int64} (hp : r_pl e fl N) (h15 : N.1 257 15 = 1) (h40 : ∀ k, k < pl_n e → N.2 340 k = ts e u k) (h64 : ∀ c, c < 240 → N.2 264 c = lN (x0.1 c)) (h61 : N.1 232 61 = nI x0.2) (hx : (∀ j, j < 240 → x0.1 j ≤ 100) ∧ x0.2 ≤ 2000) :
    cp_533_435 N ∧ ∃ f, cf_533_435 N = smr N f (spA e u (pl_n e) x0).2 ∧ ∀ c, c < 240 → f c = lN ((spA e u (pl_n e) x0).1 c) := by
  have hb2 := pl_n_le e
  rw [cp_533_435, cf_533_435, cp_533_437, cf_533_437]
  refine mz_lpn (f := cq_533_437) (P := cd_533_437) (Q := fun t => ∃ f, t = smr N f (spA e u (pl_n e) x0).2 ∧ ∀ c, c < 240 → f c = lN ((spA e u (pl_n e) x0).1 c)) (pl_n e) (fun k t => ∃ f, t = (nI k, smr N f (spA e u k x0).2) ∧ ∀ c, c < 240 → f c = lN ((spA e u k x0).1 c)) ?_ ?_ (Nat.zero_le _) ⟨N.2 264, by rw [spA_0, sr_0 h61]; rfl, by rw [spA_0]; exact h64⟩
  · rintro k t hk ⟨f, rfl, hf⟩
    have hxk := spA_b (e := e) (w := u) hx k
    have l : nI k < nI (pl_n e) := (nI_ltI (by omega) (by omega)).mpr hk
    have hz := pl_sz_le hk
    rw [spA_s (t := k)]
    generalize spA e u k x0 = xk at hf hxk
    have h7' : (smr N f xk.2).1 232 7 = nI (pl_n e) := by show upd (N.1 232) 61 (nI xk.2) 7 = _; rw [up_a, if_neg (by decide)]; exact hp.1
    have h15' : mz_gI (smr N f xk.2) 257 15 = 1 := h15
    have g37 : (20 : Int64) * (mz_gI (smr N f xk.2) 237 (nI k)).toInt64 = 20 * lN (pl_sz e k) := by
      rw [gI_a, nI_clamp (by omega)]
      show 20 * (N.1 237 k).toInt64 = _
      rw [(hp.2.2.1 k hk).2, nI_L (by omega)]
    have g40 : mz_gL (smr N f xk.2) 340 (nI k) = ts e u k := by rw [gL_a, nI_clamp (by omega)]; exact h40 k hk
    have ik : mz_ib (nI k) 240 := ib_n (by omega) (by omega)
    rw [cd_533_437, cq_533_437]
    simp only [h7', l, if_true, h15', g37, g40]
    by_cases hd : 20 * lN (pl_sz e k) < ts e u k
    · have hd' : dtc e u k = true := decide_eq_true hd
      obtain ⟨s1, f', s2', s3⟩ := spk_r (N := N) (e := e) (k := k) (f0 := f) (x0 := xk) hp.2.1 (by omega) hf hxk
      rw [if_pos hd, if_pos hd', s2']
      exact ⟨⟨fun _ => ⟨fun _ => ⟨ik, ik, fun _ => ⟨s1, trivial⟩, fun z => absurd hd z⟩, fun z => absurd trivial z⟩, fun z => absurd trivial z⟩, Or.inl ⟨_, rfl, f', by rw [nI_1], s3⟩⟩
    · have hd' : ¬ dtc e u k = true := fun z => hd (of_decide_eq_true z)
      rw [if_neg hd, if_neg hd']
      exact ⟨⟨fun _ => ⟨fun _ => ⟨ik, ik, fun z => absurd z hd, fun _ => trivial⟩, fun z => absurd trivial z⟩, fun z => absurd trivial z⟩, Or.inl ⟨_, rfl, f, by rw [nI_1], hf⟩⟩
  · rintro t ⟨f, rfl, hf⟩
    have l : ¬ nI (pl_n e) < nI (pl_n e) := fun q => by have := (nI_ltI (by omega) (by omega)).mp q; omega
    have h7' : (smr N f (spA e u (pl_n e) x0).2).1 232 7 = nI (pl_n e) := by rw [sr_7]; exact hp.1
    rw [cd_533_437, cq_533_437]
    simp only [h7', l, if_false]
    exact ⟨⟨False.elim, fun _ => trivial⟩, _, rfl, f, rfl, hf⟩
theorem nosp_r (hp : r_pl e fl N) (h15 : ¬ N.1 257 15 = 1) : cp_533_435 N ∧ cf_533_435 N = N := by
  rw [cp_533_435, cf_533_435, cp_533_437, cf_533_437]
  refine mz_lpn (f := cq_533_437) (P := cd_533_437) (Q := fun t => t = N) 0 (fun k t => t = (0, N)) (fun k s hk => absurd hk (Nat.not_lt_zero _)) ?_ (Nat.zero_le _) rfl
  rintro t rfl
  have h15' : ¬ mz_gI N 257 15 = 1 := h15
  rw [cd_533_437, cq_533_437]
  simp only [h15', if_false, ite_self]
  exact ⟨⟨fun _ => ⟨False.elim, fun _ => trivial⟩, fun _ => trivial⟩, N, rfl, rfl⟩
theorem vent_r (hlv : N.1 276 10 = mz_b01 lv) (hvn : N.1 257 13 = nI vn) (hvn2 : vn ≤ 100)
    (hΦ : ∀ s, (∀ c, c < 240 → s c = vts lv vn (N.2 267) c) → (((N.1 257 15 = 1) → (cp_513_0 265 (mz_sL N 265 s) ∧ cp_533_435 (cf_513_0 265 (mz_sL N 265 s))) ∧ Φ (cf_533_435 (cf_513_0 265 (mz_sL N 265 s)))) ∧ (¬ N.1 257 15 = 1 → cp_533_435 (mz_sL N 265 s) ∧ Φ (cf_533_435 (mz_sL N 265 s))))) : cp_533_349 0 N ∧ Φ (cf_533_349 0 N) := by
  rw [cp_533_349, cf_533_349]
  refine mz_lpn (f := cq_533_349) (P := cd_533_349) (Q := Φ) 240 (fun x t => ∃ g, t = (nI x, mz_sL N 265 g) ∧ ∀ c, c < x → g c = vts lv vn (N.2 267) c) ?_ ?_ (Nat.zero_le _) ⟨N.2 265, by rw [sL_same]; rfl, fun k hk => absurd hk (Nat.not_lt_zero _)⟩
  · rintro x t hx ⟨g, rfl, hg⟩
    have l : nI x < 240 := (nI_ltI (b := 240) (by omega) (by omega)).mpr hx
    have ix : mz_ib (nI x) 240 := ib_n hx (by omega)
    have g67 : mz_gL (mz_sL N 265 g) 267 (nI x) = N.2 267 x := by rw [gL_a, sL_n (by decide), nI_clamp (by omega)]
    have ew : mz_wL (mz_sL N 265 g) 265 (nI x) (N.2 267 x) = mz_sL N 265 (vp_updL g x (N.2 267 x)) := by rw [wL_s, sL_e, sL_sL, nI_clamp (by omega)]
    have g65 : mz_gL (mz_sL N 265 (vp_updL g x (N.2 267 x))) 265 (nI x) = N.2 267 x := by rw [gL_a, sL_e, nI_clamp (by omega), upL_a, if_pos rfl]
    have z6 : mz_z01 (mz_gI (mz_sL N 265 (vp_updL g x (N.2 267 x))) 276 10) := by
      show mz_z01 (N.1 276 10)
      rw [hlv]; cases lv
      · exact Or.inl rfl
      · exact Or.inr rfl
    have e6 : mz_gZ (mz_sL N 265 (vp_updL g x (N.2 267 x))) 276 10 = lv := by
      show decide (N.1 276 10 = 1) = lv
      rw [hlv]; cases lv <;> rfl
    have e53 : (mz_gI (mz_sL N 265 (vp_updL g x (N.2 267 x))) 257 13).toInt64 = lN vn := by
      show (N.1 257 13).toInt64 = _
      rw [hvn, nI_L (by omega)]
    have fin : ∀ s3 : Int64, N.2 267 x - s3 = vts lv vn (N.2 267) x → ∃ s2, cf_533_408 (nI x) (N.2 267 x) s3 (nI x) (mz_sL N 265 (vp_updL g x (N.2 267 x))) = .inl s2 ∧ ∃ g, s2 = (nI (x + 1), mz_sL N 265 g) ∧ ∀ c, c < x + 1 → g c = vts lv vn (N.2 267) c := fun s3 h3 => by
      refine ⟨_, rfl, vp_updL (vp_updL g x (N.2 267 x)) x (vts lv vn (N.2 267) x), by rw [nI_1, h3, wL_s, sL_e, sL_sL, nI_clamp (by omega)], fun c hc => ?_⟩
      rw [upL_a, upL_a]
      by_cases z : c = x
      · rw [if_pos z, z]
      · rw [if_neg z, if_neg z]; exact hg c (by omega)
    rw [cd_533_349, cq_533_349]
    simp only [l, if_true, g67, ew, g65, e6, e53]
    cases hl : lv with
    | true =>
      rw [if_pos rfl]
      refine ⟨⟨fun _ => ⟨ix, ix, ix, z6, fun _ => ⟨ix, ix⟩, fun z => absurd rfl z⟩, fun z => absurd trivial z⟩, Or.inl ?_⟩
      rw [hl] at fin
      exact fin _ (by rw [vts, if_pos rfl])
    | false =>
      rw [if_neg (by decide)]
      refine ⟨⟨fun _ => ⟨ix, ix, ix, z6, (fun z => by cases z), fun _ => ix⟩, fun z => absurd trivial z⟩, Or.inl ?_⟩
      rw [hl] at fin
      exact fin _ (by rw [vts, if_neg (by decide), Int64.sub_zero])
  · rintro t ⟨g, rfl, hg⟩
    obtain ⟨p, q⟩ := hΦ g hg
    have l : ¬ nI 240 < 240 := by decide
    have e15 : mz_gI (mz_sL N 265 g) 257 15 = N.1 257 15 := rfl
    rw [cd_533_349, cq_533_349]
    simp only [l, if_false, e15]
    by_cases w : N.1 257 15 = 1
    · rw [if_pos w]
      exact ⟨⟨False.elim, fun _ => ⟨fun _ => (p w).1, fun z => absurd w z⟩⟩, _, rfl, (p w).2⟩
    · rw [if_neg w]
      exact ⟨⟨False.elim, fun _ => ⟨fun z => absurd z w, fun _ => (q w).1⟩⟩, _, rfl, (q w).2⟩
theorem drift_r (h33 : ∀ i, i < 550 → N.1 233 i = nI (e i) ∧ e i < 4)
    (hΦ : ∀ g, (∀ c, c < 240 → g c = drf e (N.2 265) 550 (N.2 265) c) → cp_533_349 0 (mz_sL N 267 g) ∧ Φ (cf_533_349 0 (mz_sL N 267 g))) : cp_533_212 0 N ∧ Φ (cf_533_212 0 N) := by
  have two : ∀ g0, (∀ c, c < 240 → g0 c = N.2 265 c) → cp_533_239 0 (mz_sL N 267 g0) ∧ Φ (cf_533_239 0 (mz_sL N 267 g0)) := fun g0 hg0 => by
    rw [cp_533_239, cf_533_239]
    refine mz_lpn (f := cq_533_239) (P := cd_533_239) (Q := Φ) 550 (fun i t => t = (nI i, mz_sL N 267 (drf e (N.2 265) i g0))) ?_ ?_ (Nat.zero_le _) rfl
    · rintro i t hi rfl
      obtain ⟨e1, e2⟩ := h33 i hi
      have l : nI i < 550 := (nI_ltI (b := 550) (by omega) (by omega)).mpr hi
      have d2 : mz_irem (nI i) 110 = nI (i % 110) := by rw [show (110 : Int32) = nI 110 from rfl, irem_n (by omega) (by omega) (by omega)]
      have d1 : nI i / 110 = nI (i / 110) := by rw [show (110 : Int32) = nI 110 from rfl, pk_div (by omega) (by omega) (by omega)]
      obtain ⟨q1, q2, q3, q4, q5, q6⟩ := ge_e (i % 110) (by omega)
      have ii : mz_ib (nI i) 4400 := ib_n (by omega) (by omega)
      have es : drf e (N.2 265) (i + 1) g0 = dr1 e (N.2 265) i (drf e (N.2 265) i g0) := rfl
      rw [es]
      generalize drf e (N.2 265) i g0 = f
      have g33 : mz_gI (mz_sL N 267 f) 233 (nI i) = nI (e i) := by rw [gI_a, sL_1, nI_clamp (by omega)]; exact e1
      have hsd4 : ∀ j, j < 110 → ge_sd j ≤ 4 ∧ (ge_sd j = 4 ↔ ge_bf j < 48 ∧ ge_bh j < 48) := by decide +kernel
      obtain ⟨s4, s5⟩ := hsd4 (i % 110) (by omega)
      have skip : dr1 e (N.2 265) i f = f → ∃ s2, cf_533_341 (nI i) (mz_sL N 267 f) = .inl s2 ∧ s2 = (nI (i + 1), mz_sL N 267 (dr1 e (N.2 265) i f)) := fun hk => ⟨_, rfl, by rw [nI_1, hk]⟩
      rw [cd_533_239, cq_533_239]
      simp only [l, if_true, g33, d2, d1]
      by_cases w1 : e i = 0
      · have w1' : nI (e i) = 0 := by rw [w1]; rfl
        simp only [w1', if_true]
        by_cases w2 : ge_sd (i % 110) = 4
        · obtain ⟨b1', b2'⟩ := s5.mp w2
          obtain ⟨a1, a2, _, _, a3, a4⟩ := ge_ab_ok hi w2
          have n1 : ¬ cf_432_0 (nI (i % 110)) < 0 := by rw [q3, nO_lt b1']; exact nI_pos (by omega)
          have n2 : ¬ cf_433_0 (nI (i % 110)) < 0 := by rw [q4, nO_lt b2']; exact nI_pos (by omega)
          have hab : ge_ca i ≠ ge_cb i := fun z => by
            have h1 : ∀ j, j < 110 → ge_sd j = 4 → ge_bf j ≠ ge_bh j := by decide +kernel
            unfold ge_ca ge_cb at z
            exact h1 (i % 110) (by omega) w2 (by omega)
          have ia : mz_ib (nI (ge_ca i)) 240 := ib_n a1 (by omega)
          have ib : mz_ib (nI (ge_cb i)) 240 := ib_n a2 (by omega)
          have k1 : mz_gL (mz_sL N 267 f) 265 (nI (ge_ca i)) = N.2 265 (ge_ca i) := by rw [gL_a, sL_n (by decide), nI_clamp (by omega)]
          have k2 : mz_gL (mz_sL N 267 f) 265 (nI (ge_cb i)) = N.2 265 (ge_cb i) := by rw [gL_a, sL_n (by decide), nI_clamp (by omega)]
          have k3 : mz_gL (mz_sL N 267 f) 267 (nI (ge_ca i)) = f (ge_ca i) := by rw [gL_a, sL_e, nI_clamp (by omega)]
          have eq : (N.2 265 (ge_ca i) - N.2 265 (ge_cb i)) / 4 = drq (N.2 265) i := rfl
          have w3 : mz_wL (mz_sL N 267 f) 267 (nI (ge_ca i)) (f (ge_ca i) - drq (N.2 265) i) = mz_sL N 267 (vp_updL f (ge_ca i) (f (ge_ca i) - drq (N.2 265) i)) := by rw [wL_s, sL_e, sL_sL, nI_clamp (by omega)]
          simp only [n1, n2, if_false, a3, a4, k1, k2, k3, eq, w3]
          refine ⟨⟨fun _ => ⟨ii, fun _ => ⟨False.elim, fun _ => ⟨False.elim, fun _ => ⟨ia, ib, ia, ia, ib, ib, trivial⟩⟩⟩, fun z => absurd trivial z⟩, fun z => absurd trivial z⟩, Or.inl ⟨_, rfl, ?_⟩⟩
          rw [nI_1]
          refine Prod.ext rfl ?_
          show mz_wL _ _ _ _ = _
          rw [wL_s, sL_e, sL_sL, gL_a, sL_e, nI_clamp (by omega), dr1, if_pos ⟨w1, w2⟩]
        · have hno := skip (if_neg (fun z => w2 z.2))
          by_cases b1' : ge_bf (i % 110) < 48
          · have b2' : ¬ ge_bh (i % 110) < 48 := fun z => w2 (s5.mpr ⟨b1', z⟩)
            have n1 : ¬ cf_432_0 (nI (i % 110)) < 0 := by rw [q3, nO_lt b1']; exact nI_pos (by omega)
            have n2 : cf_433_0 (nI (i % 110)) < 0 := by rw [q4, nO_ge b2']; decide
            simp only [n1, n2, if_false, if_true]
            exact ⟨⟨fun _ => ⟨ii, fun _ => ⟨False.elim, fun _ => ⟨fun _ => trivial, fun z => absurd trivial z⟩⟩, fun z => absurd trivial z⟩, fun z => absurd trivial z⟩, Or.inl hno⟩
          · have n1 : cf_432_0 (nI (i % 110)) < 0 := by rw [q3, nO_ge b1']; decide
            simp only [n1, if_true]
            exact ⟨⟨fun _ => ⟨ii, fun _ => ⟨fun _ => trivial, fun z => absurd trivial z⟩, fun z => absurd trivial z⟩, fun z => absurd trivial z⟩, Or.inl hno⟩
      · have w1' : ¬ nI (e i) = 0 := fun z => w1 ((nI_eq0 (by omega)).mp z)
        simp only [w1', if_false]
        exact ⟨⟨fun _ => ⟨ii, False.elim, fun _ => trivial⟩, fun z => absurd trivial z⟩, Or.inl (skip (if_neg (fun z => w1 z.1)))⟩
    · rintro t rfl
      obtain ⟨p, q⟩ := hΦ (drf e (N.2 265) 550 g0) (drf_cg (fun c _ => rfl) hg0 550 (Nat.le_refl _))
      rw [cd_533_239, cq_533_239]
      exact ⟨⟨fun z => absurd z (show ¬ nI 550 < 550 by decide), fun _ => p⟩, _, if_neg (show ¬ (nI 550 : Int32) < 550 by decide), q⟩
  rw [cp_533_212, cf_533_212]
  refine mz_lpn (f := cq_533_212) (P := cd_533_212) (Q := Φ) 240 (fun x t => ∃ g, t = (nI x, mz_sL N 267 g) ∧ ∀ c, c < x → g c = N.2 265 c) ?_ ?_ (Nat.zero_le _) ⟨N.2 267, by rw [sL_same]; rfl, fun k hk => absurd hk (Nat.not_lt_zero _)⟩
  · rintro x t hx ⟨g, rfl, hg⟩
    have l : nI x < 240 := (nI_ltI (b := 240) (by omega) (by omega)).mpr hx
    have ix : mz_ib (nI x) 240 := ib_n hx (by omega)
    have g65 : mz_gL (mz_sL N 267 g) 265 (nI x) = N.2 265 x := by rw [gL_a, sL_n (by decide), nI_clamp (by omega)]
    rw [cd_533_212, cq_533_212]
    simp only [l, if_true, g65]
    refine ⟨⟨fun _ => ⟨ix, ix⟩, fun z => absurd trivial z⟩, Or.inl ⟨_, rfl, vp_updL g x (N.2 265 x), by rw [nI_1, wL_s, sL_e, sL_sL, nI_clamp (by omega)], fun c hc => ?_⟩⟩
    rw [upL_a]
    by_cases z : c = x
    · rw [if_pos z, z]
    · rw [if_neg z]; exact hg c (by omega)
  · rintro t ⟨g, rfl, hg⟩
    obtain ⟨p, q⟩ := two g hg
    rw [cd_533_212, cq_533_212]
    exact ⟨⟨fun z => absurd z (show ¬ nI 240 < 240 by decide), fun _ => p⟩, _, if_neg (show ¬ (nI 240 : Int32) < 240 by decide), q⟩
theorem fire_r (hn : pl_n e ≤ 40) (h33 : ∀ i, i < 550 → N.1 233 i = nI (e i) ∧ e i < 4) (hp : r_pl e fl N) (h64 : ∀ c, c < 240 → N.2 264 c = lN (F c) ∧ F c ≤ 100) (hlv : N.1 276 10 = mz_b01 lv) (hvn : N.1 257 13 = nI vn) (hvn2 : vn ≤ 100) (hsp : sp = decide (N.1 257 15 = 1)) (h61 : N.1 232 61 = nI tk) (htk : tk ≤ 2000) :
    cp_533_0 N ∧ ∃ K, cf_533_0 N = K ∧ fq [232] [260, 264, 265, 266, 267, 340] N K ∧ (∀ c, c < 240 → K.2 264 c = lN ((frX e F (N.2 265) lv vn sp tk).1 c)) ∧ (∀ c, c < 240 → K.2 265 c = frS e F (N.2 265) lv vn c) ∧ (∀ c, c < 240 → K.2 260 c = gH F (N.2 260) c) ∧ K.1 232 61 = nI (frX e F (N.2 265) lv vn sp tk).2 ∧ ∀ j, j ≠ 61 → K.1 232 j = N.1 232 j := by
  refine grow_r (Φ := fun t => ∃ K, t = K ∧ fq [232] [260, 264, 265, 266, 267, 340] N K ∧ (∀ c, c < 240 → K.2 264 c = lN ((frX e F (N.2 265) lv vn sp tk).1 c)) ∧ (∀ c, c < 240 → K.2 265 c = frS e F (N.2 265) lv vn c) ∧ (∀ c, c < 240 → K.2 260 c = gH F (N.2 260) c) ∧ K.1 232 61 = nI (frX e F (N.2 265) lv vn sp tk).2 ∧ ∀ j, j ≠ 61 → K.1 232 j = N.1 232 j) h64 (fun f1 o1 s1 h1 a3 => ?_)
  refine light_r (N := frc N f1 o1 s1 h1) (e := e) (F := F) (f0 := gF F) (Φ := fun t => ∃ K, t = K ∧ fq [232] [260, 264, 265, 266, 267, 340] N K ∧ (∀ c, c < 240 → K.2 264 c = lN ((frX e F (N.2 265) lv vn sp tk).1 c)) ∧ (∀ c, c < 240 → K.2 265 c = frS e F (N.2 265) lv vn c) ∧ (∀ c, c < 240 → K.2 260 c = gH F (N.2 260) c) ∧ K.1 232 61 = nI (frX e F (N.2 265) lv vn sp tk).2 ∧ ∀ j, j ≠ 61 → K.1 232 j = N.1 232 j) h33 (fun c hc => ⟨(a3 c hc).2.1, (h64 c hc).2⟩) (fun c hc => ⟨(a3 c hc).1, gF_le (h64 c hc).2⟩) (fun f2 b3 => ?_)
  refine drift_r (N := mz_sL (frc N f1 o1 s1 h1) 264 f2) (e := e) (Φ := fun t => ∃ K, t = K ∧ fq [232] [260, 264, 265, 266, 267, 340] N K ∧ (∀ c, c < 240 → K.2 264 c = lN ((frX e F (N.2 265) lv vn sp tk).1 c)) ∧ (∀ c, c < 240 → K.2 265 c = frS e F (N.2 265) lv vn c) ∧ (∀ c, c < 240 → K.2 260 c = gH F (N.2 260) c) ∧ K.1 232 61 = nI (frX e F (N.2 265) lv vn sp tk).2 ∧ ∀ j, j ≠ 61 → K.1 232 j = N.1 232 j) h33 (fun g c3 => ?_)
  have c3' : ∀ c, c < 240 → g c = drf e (gS F (N.2 265)) 550 (gS F (N.2 265)) c := fun c hc => (c3 c hc).trans (drf_cg (s0 := s1) (f := s1) (fun c hc => (a3 c hc).2.2.1) (fun c hc => (a3 c hc).2.2.1) 550 (Nat.le_refl _) c hc)
  refine vent_r (N := mz_sL (mz_sL (frc N f1 o1 s1 h1) 264 f2) 267 g) (lv := lv) (vn := vn) (Φ := fun t => ∃ K, t = K ∧ fq [232] [260, 264, 265, 266, 267, 340] N K ∧ (∀ c, c < 240 → K.2 264 c = lN ((frX e F (N.2 265) lv vn sp tk).1 c)) ∧ (∀ c, c < 240 → K.2 265 c = frS e F (N.2 265) lv vn c) ∧ (∀ c, c < 240 → K.2 260 c = gH F (N.2 260) c) ∧ K.1 232 61 = nI (frX e F (N.2 265) lv vn sp tk).2 ∧ ∀ j, j ≠ 61 → K.1 232 j = N.1 232 j) hlv hvn hvn2 (fun s' d3 => ?_)
  have d3' : ∀ c, c < 240 → s' c = frS e F (N.2 265) lv vn c := fun c hc => by rw [d3 c hc, sL_e, frS, vts, vts, c3' c hc]
  generalize hM : mz_sL (mz_sL (mz_sL (frc N f1 o1 s1 h1) 264 f2) 267 g) 265 s' = M
  have mfq : fq [232] [260, 264, 265, 266, 267, 340] N M := by
    rw [← hM]
    refine fq_sL (fq_sL (fq_sL ⟨fun c hc => rfl, fun c hc => ?_⟩ rfl) rfl) rfl
    show (if c = 264 then f1 else if c = 266 then o1 else if c = 265 then s1 else if c = 260 then h1 else N.2 c) = N.2 c
    have k1 : c ≠ 264 := fun z => by rw [z] at hc; cases hc
    have k2 : c ≠ 266 := fun z => by rw [z] at hc; cases hc
    have k3 : c ≠ 265 := fun z => by rw [z] at hc; cases hc
    have k4 : c ≠ 260 := fun z => by rw [z] at hc; cases hc
    rw [if_neg k1, if_neg k2, if_neg k3, if_neg k4]
  have m1 : M.1 = N.1 := by rw [← hM]; rfl
  have m64 : ∀ c, c < 240 → M.2 264 c = lN (lg e F 240 (gF F) c) := by rw [← hM]; exact fun c hc => (b3 c hc).1
  have m65 : M.2 265 = s' := by rw [← hM]; exact sL_e _ _ _
  have m60 : ∀ c, c < 240 → M.2 260 c = gH F (N.2 260) c := by rw [← hM]; exact fun c hc => (a3 c hc).2.2.2
  have mp : r_pl e fl M := rpl_cg (by rw [m1]) (fun c _ => by rw [m1]) hp
  refine ⟨fun g15 => ?_, fun g15 => ?_⟩
  · have hs1 : sp = true := by rw [hsp]; exact decide_eq_true g15
    obtain ⟨q1, f3, q2, q3⟩ := sma_r (N := M) (e := e) (a1 := 265) mp.1 mp.2.1 (by decide)
    obtain ⟨r1, f4, r2, r3⟩ := spr2_r (N := mz_sL M 340 f3) (e := e) (fl := fl) (u := frS e F (N.2 265) lv vn) (x0 := (lg e F 240 (gF F), tk)) mp (by show M.1 257 15 = 1; rw [m1]; exact g15) (fun k hk => by rw [sL_e, q3 k hk, m65]; exact ts_cg d3') m64 (by show M.1 232 61 = nI tk; rw [m1]; exact h61) ⟨fun c hc => (b3 c hc).2, htk⟩
    have hX : frX e F (N.2 265) lv vn sp tk = spA e (frS e F (N.2 265) lv vn) (pl_n e) (lg e F 240 (gF F), tk) := by rw [frX, if_pos hs1]
    rw [hX]
    generalize spA e (frS e F (N.2 265) lv vn) (pl_n e) (lg e F 240 (gF F), tk) = X at r2 r3
    rw [q2, r2]
    refine ⟨⟨q1, r1⟩, _, rfl, ⟨fun c hc => ?_, fun c hc => ?_⟩, r3, fun c hc => ?_, m60, ?_, fun j hj => ?_⟩
    · have k1 : c ≠ 232 := fun z => by rw [z] at hc; cases hc
      show (if c = 232 then _ else M.1 c) = N.1 c
      rw [if_neg k1, m1]
    · have k1 : c ≠ 264 := fun z => by rw [z] at hc; cases hc
      have k2 : c ≠ 340 := fun z => by rw [z] at hc; cases hc
      show (if c = 264 then f4 else (mz_sL M 340 f3).2 c) = N.2 c
      rw [if_neg k1, sL_n k2]
      exact mfq.2 c hc
    · show M.2 265 c = _
      rw [m65]; exact d3' c hc
    · show upd (M.1 232) 61 (nI X.2) 61 = _
      rw [up_a, if_pos rfl]
    · show upd (M.1 232) 61 (nI X.2) j = _
      rw [up_a, if_neg hj, m1]
  · have hs1 : sp = false := by rw [hsp]; exact decide_eq_false g15
    obtain ⟨q1, q2⟩ := nosp_r (N := M) mp (by rw [m1]; exact g15)
    have hX : frX e F (N.2 265) lv vn sp tk = (lg e F 240 (gF F), tk) := by rw [frX, hs1, if_neg (by decide)]
    rw [hX, q2]
    exact ⟨q1, M, rfl, mfq, m64, fun c hc => by rw [m65]; exact d3' c hc, m60, by rw [m1]; exact h61, fun j _ => by rw [m1]⟩
end Smr
