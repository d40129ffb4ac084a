/-! PURE (50zzzg): fire and smoke in the reference. -/
theorem lsub_i {a b : Nat} (ha : a < 2 ^ 62) (hb : b < 2 ^ 62) : (lN a - lN b).toInt = (a : Int) - b := by
  rw [Int64.toInt_sub, lN_j ha, lN_j hb]
  exact Int.bmod_eq_of_le (by omega) (by omega)
theorem clp_3 {a : Nat} (h : a ≤ 100) : cf_528_0 (lN a - 30) 0 100 = lN (a - 30) := by
  rw [show (100 : Int64) = lN 100 from rfl, clp_r (by omega)]
  refine congrArg lN ?_
  unfold clp
  rw [show (30 : Int64) = lN 30 from rfl, lsub_i (by omega) (by omega)]
  omega
theorem clp_10 {a : Nat} (h : a ≤ 100) : cf_528_0 (lN a + 10) 0 100 = lN (min 100 (a + 10)) := by
  rw [show (100 : Int64) = lN 100 from rfl, show (10 : Int64) = lN 10 from rfl, lN_add, clp_r (by omega)]
  refine congrArg lN ?_
  unfold clp
  rw [lN_j (by omega)]
  omega
theorem lN_g0 {a : Nat} (h : a < 2 ^ 62) : (0 < lN a) ↔ 0 < a := by
  rw [lt_i, i_0, lN_j h]; omega
section Fir2
variable {N : mz_N} {e fl F : Nat → Nat} {s h : Nat → Int64} {Φ : mz_N → Prop}
def frc (N : mz_N) (f o s h : Nat → Int64) : mz_N := (N.1, fun z => if z = 264 then f else if z = 266 then o else if z = 265 then s else if z = 260 then h else N.2 z)
variable {f o : Nat → Int64} {i : Int32} {w : Int64}
theorem fr_f : mz_wL (frc N f o s h) 264 i w = frc N (vp_updL f i.toNatClampNeg w) o s h := by
  refine mz_ext (fun c => rfl) (fun c => ?_)
  rw [wL_s, sL_2]
  show (if c = 264 then vp_updL f _ w else if c = 264 then f else if c = 266 then o else if c = 265 then s else if c = 260 then h else N.2 c) = if c = 264 then _ else if c = 266 then o else if c = 265 then s else if c = 260 then h else N.2 c
  by_cases z : c = 264
  · rw [if_pos z, if_pos z]
  · rw [if_neg z, if_neg z, if_neg z]
theorem fr_o : mz_wL (frc N f o s h) 266 i w = frc N f (vp_updL o i.toNatClampNeg w) s h := by
  refine mz_ext (fun c => rfl) (fun c => ?_)
  rw [wL_s, sL_2]
  show (if c = 266 then vp_updL o _ w else if c = 264 then f else if c = 266 then o else if c = 265 then s else if c = 260 then h else N.2 c) = if c = 264 then f else if c = 266 then _ else if c = 265 then s else if c = 260 then h else N.2 c
  by_cases z : c = 266
  · rw [if_pos z, if_neg (show ¬ c = 264 by omega), if_pos z]
  · rw [if_neg z, if_neg z, if_neg z]
theorem fr_s : mz_wL (frc N f o s h) 265 i w = frc N f o (vp_updL s i.toNatClampNeg w) h := by
  refine mz_ext (fun c => rfl) (fun c => ?_)
  rw [wL_s, sL_2]
  show (if c = 265 then vp_updL s _ w else if c = 264 then f else if c = 266 then o else if c = 265 then s else if c = 260 then h else N.2 c) = if c = 264 then f else if c = 266 then o else if c = 265 then _ else if c = 260 then h else N.2 c
  by_cases z : c = 265
  · rw [if_pos z, if_neg (show ¬ c = 264 by omega), if_neg (show ¬ c = 266 by omega), if_pos z]
  · rw [if_neg z, if_neg z, if_neg z]
theorem fr_h : mz_wL (frc N f o s h) 260 i w = frc N f o s (vp_updL h i.toNatClampNeg w) := by
  refine mz_ext (fun c => rfl) (fun c => ?_)
  rw [wL_s, sL_2]
  show (if c = 260 then vp_updL h _ w else if c = 264 then f else if c = 266 then o else if c = 265 then s else if c = 260 then h else N.2 c) = if c = 264 then f else if c = 266 then o else if c = 265 then s else if c = 260 then _ else N.2 c
  by_cases z : c = 260
  · rw [if_pos z, if_neg (show ¬ c = 264 by omega), if_neg (show ¬ c = 266 by omega), if_neg (show ¬ c = 265 by omega), if_pos z]
  · rw [if_neg z, if_neg z, if_neg z]
theorem fr_0 : frc N (N.2 264) (N.2 266) (N.2 265) (N.2 260) = N := by
  refine mz_ext (fun c => rfl) (fun c => ?_)
  show (if c = 264 then N.2 264 else if c = 266 then N.2 266 else if c = 265 then N.2 265 else if c = 260 then N.2 260 else N.2 c) = N.2 c
  by_cases z : c = 264
  · rw [if_pos z, z]
  · rw [if_neg z]
    by_cases y : c = 266
    · rw [if_pos y, y]
    · rw [if_neg y]
      by_cases x : c = 265
      · rw [if_pos x, x]
      · rw [if_neg x]
        by_cases u : c = 260
        · rw [if_pos u, u]
        · rw [if_neg u]
theorem grow_r (h64 : ∀ c, c < 240 → N.2 264 c = lN (F c) ∧ F c ≤ 100)
    (hΦ : ∀ f o s h, (∀ c, c < 240 → f c = lN (gF F c) ∧ o c = lN (F c) ∧ s c = gS F (N.2 265) c ∧ h c = gH F (N.2 260) c) → cp_533_101 0 (frc N f o s h) ∧ Φ (cf_533_101 0 (frc N f o s h))) :
    cp_533_0 N ∧ Φ (cf_533_0 N) := by
  rw [cp_533_0, cf_533_0, cp_533_2, cf_533_2]
  refine mz_lpn (f := cq_533_2) (P := cd_533_2) (Q := Φ) 240 (fun x t => ∃ f o s h, t = (nI x, frc N f o s h) ∧ (∀ c, c < x → f c = lN (gF F c) ∧ o c = lN (F c) ∧ s c = gS F (N.2 265) c ∧ h c = gH F (N.2 260) c) ∧ ∀ c, x ≤ c → f c = N.2 264 c ∧ s c = N.2 265 c ∧ h c = N.2 260 c) ?_ ?_ (Nat.zero_le _) ⟨N.2 264, N.2 266, N.2 265, N.2 260, by rw [fr_0]; rfl, fun c hc => absurd hc (Nat.not_lt_zero _), fun c _ => ⟨rfl, rfl, rfl⟩⟩
  · rintro x t hx ⟨f, o, s, h, rfl, h1, h2⟩
    have l : nI x < 240 := (nI_ltI (b := 240) (by omega) (by omega)).mpr hx
    have ix : mz_ib (nI x) 240 := ib_n hx (by omega)
    obtain ⟨x1, x2⟩ := h64 x hx
    obtain ⟨y1, y2, y3⟩ := h2 x (Nat.le_refl _)
    have cx : (nI x).toNatClampNeg = x := nI_clamp (by omega)
    have g64 : ∀ o s h, mz_gL (frc N f o s h) 264 (nI x) = lN (F x) := fun o s h => by
      rw [gL_a, cx]; show f x = _; rw [y1, x1]
    have g65 : ∀ o h, mz_gL (frc N f o s h) 265 (nI x) = N.2 265 x := fun o h => by
      rw [gL_a, cx]; show s x = _; rw [y2]
    have g60 : ∀ o s, mz_gL (frc N f o s h) 260 (nI x) = N.2 260 x := fun o s => by
      rw [gL_a, cx]; show h x = _; rw [y3]
    have lt : (0 < lN (F x)) ↔ 0 < F x := lN_g0 (by omega)
    have e2 : 2 * lN (F x) = lN (2 * F x) := by rw [show (2 : Int64) = lN 2 from rfl, lN_mul]
    have e50 : 50 * lN (F x) = lN (50 * F x) := by rw [show (50 : Int64) = lN 50 from rfl, lN_mul]
    rw [cd_533_2, cq_533_2]
    simp only [l, if_true, g64, fr_o, cx, lt]
    by_cases w : 0 < F x
    · simp only [w, if_true, g65, e2, fr_s, cx]
      refine ⟨⟨fun _ => ⟨ix, ix, ix, fun _ => ⟨ix, ix, ix, ⟨ix, ix, ix, ix, ix, trivial⟩⟩, fun z => absurd trivial z⟩, fun z => absurd trivial z⟩, Or.inl ?_⟩
      rw [cf_533_51, g64, g60, e50, fr_h, g64, clp_10 x2, fr_f, cx, cf_533_93, nI_1]
      refine ⟨_, rfl, _, _, _, _, rfl, fun c hc => ?_, fun c hc => ?_⟩
      · rw [upL_a, upL_a, upL_a, upL_a]
        by_cases z : c = x
        · rw [if_pos z, if_pos z, if_pos z, if_pos z, gF, gS, gH, z, if_pos w, if_pos w, if_pos w]
          exact ⟨rfl, rfl, rfl, rfl⟩
        · rw [if_neg z, if_neg z, if_neg z, if_neg z]
          exact h1 c (by omega)
      · rw [upL_a, upL_a, upL_a, if_neg (by omega), if_neg (by omega), if_neg (by omega)]
        exact h2 c (by omega)
    · simp only [w, if_false]
      refine ⟨⟨fun _ => ⟨ix, ix, ix, False.elim, fun _ => trivial⟩, fun z => absurd trivial z⟩, Or.inl ?_⟩
      rw [cf_533_93, nI_1]
      refine ⟨_, rfl, f, vp_updL o x (lN (F x)), s, h, rfl, fun c hc => ?_, fun c hc => h2 c (by omega)⟩
      rw [upL_a]
      by_cases z : c = x
      · rw [if_pos z, gF, gS, gH, z, if_neg w, if_neg w, if_neg w, y1, y2, y3, x1]
        exact ⟨rfl, rfl, rfl, rfl⟩
      · rw [if_neg z]
        exact h1 c (by omega)
  · rintro t ⟨f, o, s, h, rfl, h1, h2⟩
    obtain ⟨p, q⟩ := hΦ f o s h h1
    rw [cd_533_2, cq_533_2]
    exact ⟨⟨fun z => absurd z (show ¬ nI 240 < 240 by decide), fun _ => p⟩, _, if_neg (show ¬ (nI 240 : Int32) < 240 by decide), q⟩
theorem light_r {f0 : Nat → Nat} (h33 : ∀ i, i < 550 → N.1 233 i = nI (e i) ∧ e i < 4) (h66 : ∀ c, c < 240 → N.2 266 c = lN (F c) ∧ F c ≤ 100) (h64 : ∀ c, c < 240 → N.2 264 c = lN (f0 c) ∧ f0 c ≤ 100)
    (hΦ : ∀ f, (∀ c, c < 240 → f c = lN (lg e F 240 f0 c) ∧ lg e F 240 f0 c ≤ 100) → cp_533_212 0 (mz_sL N 264 f) ∧ Φ (cf_533_212 0 (mz_sL N 264 f))) : cp_533_101 0 N ∧ Φ (cf_533_101 0 N) := by
  have cell : ∀ x, x < 240 → ∀ (f : Nat → Int64) (q : Nat → Nat), (∀ c, c < 240 → f c = lN (q c) ∧ q c ≤ 100) → cp_533_110 (nI x) 0 (mz_sL N 264 f) ∧ ∃ f', cf_533_110 (nI x) 0 (mz_sL N 264 f) = .inl (nI (x + 1), mz_sL N 264 f') ∧ ∀ c, c < 240 → f' c = lN ((if F x = 100 then it (lg1 e x) 4 q else q) c) ∧ (if F x = 100 then it (lg1 e x) 4 q else q) c ≤ 100 := fun x hx f q hq => by
    obtain ⟨x1, x2⟩ := h66 x hx
    have ix : mz_ib (nI x) 240 := ib_n hx (by omega)
    have g66 : ∀ f, mz_gL (mz_sL N 264 f) 266 (nI x) = lN (F x) := fun f => by rw [gL_a, sL_n (by decide), nI_clamp (by omega)]; exact x1
    have eq100 : (lN (F x) = 100) ↔ F x = 100 := lN_e (b := 100) (by omega) (by omega)
    rw [cp_533_110, cf_533_110]
    by_cases w0 : F x = 100
    · rw [if_pos w0]
      refine mz_lpn (f := cq_533_110 (nI x)) (P := cd_533_110 (nI x)) (Q := fun t => ∃ f', t = .inl (nI (x + 1), mz_sL N 264 f') ∧ ∀ c, c < 240 → f' c = lN (it (lg1 e x) 4 q c) ∧ it (lg1 e x) 4 q c ≤ 100) 4 (fun d t => ∃ f', t = (nI d, mz_sL N 264 f') ∧ ∀ c, c < 240 → f' c = lN (it (lg1 e x) d q c) ∧ it (lg1 e x) d q c ≤ 100) ?_ ?_ (Nat.zero_le _) ⟨f, rfl, hq⟩
      · rintro d t hd ⟨f', rfl, hf'⟩
        have l : nI d < 4 := (nI_ltI (b := 4) (by omega) (by omega)).mpr hd
        have d2 : mz_irem (nI x) 48 = nI (x % 48) := by rw [show (48 : Int32) = nI 48 from rfl, irem_n (by omega) (by omega) (by omega)]
        have d1 : nI x / 48 = nI (x / 48) := by rw [show (48 : Int32) = nI 48 from rfl, pk_div (by omega) (by omega) (by omega)]
        obtain ⟨q1, q2, q3, q4, q5, q6⟩ := ge_c (x % 48) (by omega) d hd
        have ei : 110 * nI (x / 48) + nI (ge_ed (x % 48) d) = nI (edc x d) := by rw [show (110 : Int32) = nI 110 from rfl, pk_mul, nI_add, edc]
        have hei : edc x d < 550 := by unfold edc; omega
        have g33 : mz_gI (mz_sL N 264 f') 233 (nI (edc x d)) = nI (e (edc x d)) := by rw [gI_a, sL_1, nI_clamp (by omega)]; exact (h33 _ hei).1
        have ii : mz_ib (nI (edc x d)) 4400 := ib_n (by omega) (by omega)
        have e4 := (h33 _ hei).2
        generalize hQ : it (lg1 e x) d q = Q at hf'
        have es : it (lg1 e x) (d + 1) q = lg1 e x d Q := by rw [← hQ]; rfl
        have skip : lg1 e x d Q = Q → ∃ s2, cf_533_198 (nI x) (nI d) (mz_sL N 264 f') = .inl s2 ∧ ∃ f', s2 = (nI (d + 1), mz_sL N 264 f') ∧ ∀ c, c < 240 → f' c = lN (it (lg1 e x) (d + 1) q c) ∧ it (lg1 e x) (d + 1) q c ≤ 100 := fun hk => ⟨_, rfl, f', by rw [nI_1], by rw [es, hk]; exact hf'⟩
        have e100 : lN (F x) = 100 := eq100.mpr w0
        rw [cd_533_110, cq_533_110]
        simp only [l, if_true, g66, e100, d1, d2, q3, q4, ei, g33]
        by_cases w1 : ge_nb (x % 48) d < 48
        · have eO : nO 48 (ge_nb (x % 48) d) = nI (ge_nb (x % 48) d) := if_pos w1
          have nm : ¬ nI (ge_nb (x % 48) d) < 0 := nI_pos (by omega)
          have en : nI (x / 48) * 48 + nI (ge_nb (x % 48) d) = nI (nbc x d) := by rw [show (48 : Int32) = nI 48 from rfl, pk_mul, nI_add, nbc, Nat.mul_comm]
          have hnb := nb_in hx hd w1
          have inb : mz_ib (nI (nbc x d)) 240 := ib_n hnb (by omega)
          have g64 : mz_gL (mz_sL N 264 f') 264 (nI (nbc x d)) = lN (Q (nbc x d)) := by rw [gL_a, sL_e, nI_clamp (by omega)]; exact (hf' _ hnb).1
          have hqb := (hf' _ hnb).2
          have lt : (lN (Q (nbc x d)) = 0) ↔ Q (nbc x d) = 0 := lN_e (b := 0) (by omega) (by omega)
          simp only [eO, nm, if_false, en, g64, lt]
          by_cases w2 : e (edc x d) = 0
          · have w2' : nI (e (edc x d)) = 0 := by rw [w2]; rfl
            by_cases w3 : Q (nbc x d) = 0
            · simp only [w2', w3, if_true]
              refine ⟨⟨fun _ => ⟨ix, fun _ => ⟨False.elim, fun _ => ⟨ii, fun _ => ⟨inb, fun _ => ⟨inb, trivial⟩, fun z => absurd trivial z⟩, fun z => absurd trivial z⟩⟩, fun z => absurd trivial z⟩, fun z => absurd trivial z⟩, Or.inl ?_⟩
              have h1 : lg1 e x d Q = up Q (nbc x d) 10 := if_pos ⟨w1, w2, w3⟩
              refine ⟨_, rfl, vp_updL f' (nbc x d) 10, ?_, fun c hc => ?_⟩
              · rw [nI_1, wL_s, sL_e, sL_sL, nI_clamp (by omega)]
              · rw [es, h1, upL_a]
                unfold up
                by_cases z : c = nbc x d
                · rw [if_pos z, if_pos z]; exact ⟨rfl, by omega⟩
                · rw [if_neg z, if_neg z]; exact hf' c hc
            · simp only [w2', w3, if_true, if_false]
              exact ⟨⟨fun _ => ⟨ix, fun _ => ⟨False.elim, fun _ => ⟨ii, fun _ => ⟨inb, False.elim, fun _ => trivial⟩, fun z => absurd trivial z⟩⟩, fun z => absurd trivial z⟩, fun z => absurd trivial z⟩, Or.inl (skip (if_neg (fun z => w3 z.2.2)))⟩
          · have w2' : ¬ nI (e (edc x d)) = 0 := fun z => w2 ((nI_eq0 (by omega)).mp z)
            simp only [w2', if_false]
            exact ⟨⟨fun _ => ⟨ix, fun _ => ⟨False.elim, fun _ => ⟨ii, False.elim, fun _ => trivial⟩⟩, fun z => absurd trivial z⟩, fun z => absurd trivial z⟩, Or.inl (skip (if_neg (fun z => w2 z.2.1)))⟩
        · have eO : nO 48 (ge_nb (x % 48) d) = -1 := if_neg w1
          have lm : (-1 : Int32) < 0 := by decide
          simp only [eO, lm, if_true]
          exact ⟨⟨fun _ => ⟨ix, fun _ => ⟨fun _ => trivial, fun z => absurd trivial z⟩, fun z => absurd trivial z⟩, fun z => absurd trivial z⟩, Or.inl (skip (if_neg (fun z => w1 z.1)))⟩
      · rintro t ⟨f', rfl, hf'⟩
        rw [cd_533_110, cq_533_110]
        refine ⟨⟨fun z => absurd z (show ¬ nI 4 < 4 by decide), fun _ => trivial⟩, _, if_neg (show ¬ (nI 4 : Int32) < 4 by decide), f', ?_, hf'⟩
        rw [cf_533_204, nI_1]
    · rw [if_neg w0]
      have e100 : ¬ lN (F x) = 100 := fun z => w0 (eq100.mp z)
      refine mz_lpn (f := cq_533_110 (nI x)) (P := cd_533_110 (nI x)) (Q := fun t => ∃ f', t = .inl (nI (x + 1), mz_sL N 264 f') ∧ ∀ c, c < 240 → f' c = lN (q c) ∧ q c ≤ 100) 0 (fun d t => t = (0, mz_sL N 264 f)) (fun k s hk => absurd hk (Nat.not_lt_zero _)) ?_ (Nat.zero_le _) rfl
      rintro t rfl
      have l0 : (0 : Int32) < 4 := by decide
      rw [cd_533_110, cq_533_110]
      simp only [l0, if_true, g66, e100, if_false]
      exact ⟨⟨fun _ => ⟨ix, False.elim, fun _ => trivial⟩, fun z => absurd trivial z⟩, _, rfl, f, by rw [cf_533_204, nI_1], hq⟩
  rw [cp_533_101, cf_533_101]
  refine mz_lpn (f := cq_533_101) (P := cd_533_101) (Q := Φ) 240 (fun x t => ∃ f, t = (nI x, mz_sL N 264 f) ∧ ∀ c, c < 240 → f c = lN (lg e F x f0 c) ∧ lg e F x f0 c ≤ 100) ?_ ?_ (Nat.zero_le _) ⟨N.2 264, by rw [sL_same]; rfl, h64⟩
  · rintro x t hx ⟨f, rfl, hf⟩
    have l : nI x < 240 := (nI_ltI (b := 240) (by omega) (by omega)).mpr hx
    have es : lg e F (x + 1) f0 = if F x = 100 then it (lg1 e x) 4 (lg e F x f0) else lg e F x f0 := rfl
    obtain ⟨c1, f', c2, c3⟩ := cell x hx f (lg e F x f0) hf
    rw [cd_533_101, cq_533_101]
    simp only [l, if_true, c2]
    exact ⟨⟨fun _ => c1, fun z => absurd trivial z⟩, Or.inl ⟨_, rfl, f', rfl, by rw [es]; exact c3⟩⟩
  · rintro t ⟨f, rfl, hf⟩
    obtain ⟨p, q⟩ := hΦ f hf
    rw [cd_533_101, cq_533_101]
    exact ⟨⟨fun z => absurd z (show ¬ nI 240 < 240 by decide), fun _ => p⟩, _, if_neg (show ¬ (nI 240 : Int32) < 240 by decide), q⟩
end Fir2
