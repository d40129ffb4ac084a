/-! PURE (50zzd): the names of a program in the reference; it does its program. -/
def rn (N : mz_N) (g f : Nat → Int64) : mz_N := mz_sL (mz_sL N 340 g) 258 f
theorem sL_com {M : mz_N} {a c : Nat} {f g : Nat → Int64} (h : a ≠ c) : mz_sL (mz_sL M a f) c g = mz_sL (mz_sL M c g) a f := by
  unfold mz_sL
  refine Prod.ext rfl (funext fun d => ?_)
  by_cases h1 : d = a
  · subst h1; simp [h]
  · simp [h1]
section Nmr2
variable {N : mz_N} {e fl : Nat → Nat} {k : Nat} {g f : Nat → Int64}
theorem rn_1 : (rn N g f).1 = N.1 := rfl
theorem rn_f : (rn N g f).2 258 = f := by unfold rn; rw [sL_e]
theorem rn_g : (rn N g f).2 340 = g := by unfold rn; rw [sL_n (by decide), sL_e]
theorem rn_2 {c : Nat} (h : c ≠ 258) (h2 : c ≠ 340) : (rn N g f).2 c = N.2 c := by unfold rn; rw [sL_n h, sL_n h2]
theorem rn_w {i : Int32} {v : Int64} : mz_wL (rn N g f) 258 i v = rn N g (vp_updL f i.toNatClampNeg v) := by rw [wL_s, rn_f]; unfold rn; rw [sL_sL]
theorem rn_s {g' : Nat → Int64} : mz_sL (rn N g f) 340 g' = rn N g' f := by unfold rn; rw [sL_com (a := 258) (by decide), sL_sL]
theorem rn_0 {g : Nat → Int64} : mz_sL N 340 g = rn N g (N.2 258) := by
  unfold rn
  rw [show N.2 258 = (mz_sL N 340 g).2 258 by rw [sL_n (by decide)], sL_same]
theorem iL_i (x : Int64) : iL x.toInt = x := Int64.ofInt_toInt x
/-- what the reference's plan must say here -/
def r_sm (e fl : Nat → Nat) (N : mz_N) : Prop := N.1 232 7 = nI (pl_n e) ∧ (∀ c, c < 240 → N.1 235 c = nI (pl_lab e c)) ∧ (∀ k, k < pl_n e → N.1 237 k = nI (pl_sz e k)) ∧ ∀ j, j < 10 → N.1 242 j = nO (pl_n e) (pl_ht e fl j)
theorem nm_lp (q0 : Nat) (hq : q0 + 10 ≤ 64) (val : Nat → Int64) (cq : Int32 × mz_N → (Int32 × mz_N) ⊕ mz_N) (cd : Int32 × mz_N → Prop) (Q : mz_N → Prop)
    (hst : ∀ i f, i < 10 → cd (nI i, rn N g f) ∧ cq (nI i, rn N g f) = .inl (nI (i + 1), rn N g (vp_updL f (q0 + i) (val i))))
    (he : ∀ f', (∀ j, j < 53 → (j < q0 ∨ q0 + 10 ≤ j) → f' j = f j) → (∀ t, t < 10 → f' (q0 + t) = val t) → cd (10, rn N g f') ∧ ∃ r, cq (10, rn N g f') = .inr r ∧ Q r) : (∃ m, mz_ok cq cd m (0, rn N g f)) ∧ Q (mz_run cq (0, rn N g f)) := by
  refine mz_lpn (f := cq) (P := cd) (Q := Q) 10 (fun i st => ∃ f', st = (nI i, rn N g f') ∧ (∀ j, j < 53 → (j < q0 ∨ q0 + 10 ≤ j) → f' j = f j) ∧ ∀ t, t < i → f' (q0 + t) = val t) ?_ ?_ (Nat.zero_le _) ⟨f, rfl, fun _ _ _ => rfl, fun t ht => absurd ht (Nat.not_lt_zero _)⟩
  · rintro i st hi ⟨f', rfl, h1, h2⟩
    obtain ⟨a, b⟩ := hst i f' hi
    refine ⟨a, Or.inl ⟨_, b, _, rfl, fun j hj hj2 => ?_, fun t ht => ?_⟩⟩
    · rw [upL_a, if_neg (by omega)]; exact h1 j hj hj2
    · rw [upL_a]
      by_cases w : t = i
      · rw [if_pos (by omega), w]
      · rw [if_neg (by omega)]; exact h2 t (by omega)
  · rintro st ⟨f', rfl, h1, h2⟩
    exact he f' h1 h2
theorem dp_r {S : List (Nat × Nat)} {T : Nat → Int} {hr tm tk : Nat} {we ld : Int} {mn : Bool} (hn : pl_n e ≤ 40) (hs : r_sm e fl N) (hhr : hr < 24)
    (h66 : N.1 245 hr = iI we) (hwe : bn we) (htm : N.2 232 2 = lN tm) (htm2 : tm < 2 ^ 31) (htk : N.1 232 61 = nI tk) (htk2 : tk < 2 ^ 31) (hld : sL (fun c => (N.1 272 c).toInt64) 11 = iL ld) (hmn : N.1 232 52 = mz_b01 mn)
    (hT : ∀ j, j < 16 → N.1 257 j = iI (T j)) (hbn : ∀ j, j < 53 → bn (nmv e fl (N.2 260) (N.2 261) (N.2 265) hr we (tm % 240 : Nat) tk ld mn T j))
    (hv : vok S) (hd : dpt S = 0) (hl : S.length ≤ 196) (hna : na S ≤ 12) (h28 : N.1 232 28 = nI (na S)) (hw : rws (N.1 253) (N.1 254) (N.1 255) (N.1 256) S) :
    cp_511_0 (nI hr) N ∧ ∃ f' p' g' u', cf_511_0 (nI hr) N = rm (rn N g' u') f' p' ∧ ∀ j, j < 16 → f' j = iI ((exs S (nmv e fl (N.2 260) (N.2 261) (N.2 265) hr we (tm % 240 : Nat) tk ld mn T)).2 j) := by
  obtain ⟨s7, s35, s37, s42⟩ := hs
  have hn2 := pl_n_le e
  have gh : ∀ g f i, i < 10 → mz_gI (rn N g f) 242 (nI i) = nO (pl_n e) (pl_ht e fl i) := fun g f i hi => by rw [gI_a, rn_1, nI_clamp (by omega)]; exact s42 i hi
  have gz : ∀ g f k, k < pl_n e → (mz_gI (rn N g f) 237 (nI k)).toInt64 = lN (pl_sz e k) := fun g f k hk => by
    have := sz_b hk
    rw [gI_a, rn_1, nI_clamp (by omega), s37 k hk, nI_L (by omega)]
  have gs : ∀ g f k, k < 240 → mz_gL (rn N g f) 340 (nI k) = g k := fun g f k hk => by rw [gL_a, rn_g, nI_clamp (by omega)]
  have sma : ∀ a1 g f, a1 ≠ 340 → a1 ≠ 258 → cp_513_0 a1 (rn N g f) ∧ ∃ g', cf_513_0 a1 (rn N g f) = rn N g' f ∧ ∀ k, k < pl_n e → g' k = ts e (N.2 a1) k := fun a1 g f h1 h2 => by
    obtain ⟨x1, g', x2, x3⟩ := sma_r (N := rn N g f) (a1 := a1) (e := e) s7 s35 h1
    rw [rn_s] at x2
    rw [rn_2 h2 h1] at x3
    exact ⟨x1, g', x2, x3⟩
  have ipos : ∀ i, i < 10 → pl_ht e fl i < pl_n e → ¬ nO (pl_n e) (pl_ht e fl i) < 0 ∧ nO (pl_n e) (pl_ht e fl i) = nI (pl_ht e fl i) ∧ mz_ib (nI (pl_ht e fl i)) 240 := fun i hi h => by
    rw [nO_lt h]
    exact ⟨nI_pos (by omega), rfl, ib_n (by omega) (by omega)⟩
  have ineg : ∀ i, i < 10 → ¬ pl_ht e fl i < pl_n e → nO (pl_n e) (pl_ht e fl i) < 0 := fun i hi h => by rw [nO_ge h]; decide
  have ib10 : ∀ i, i < 10 → mz_ib (nI i) 10 := fun i hi => ib_n hi (by omega)
  have l10 : ∀ i, i < 10 → nI i < 10 := fun i hi => (nI_ltI (b := 10) (by omega) (by omega)).mpr hi
  have ibq : ∀ (q : Int32) (q0 i : Nat), q = nI q0 → q0 + i < 64 → mz_ib (q + nI i) 64 ∧ (q + nI i).toNatClampNeg = q0 + i := fun q q0 i hq hi => by
    rw [hq, nI_add]
    exact ⟨ib_n hi (by omega), nI_clamp (by omega)⟩
  -- the end
  have endd : ∀ (z : Bool) (g f : Nat → Int64), z = adt e (N.2 265) (pl_n e) → (∀ t, t < 10 → f (16 + t) = iL (if pl_ht e fl t < pl_n e then (wrm e (N.2 260) (pl_ht e fl t)).toInt else 0) ∧ f (26 + t) = iL (if pl_ht e fl t < pl_n e then (stq e (N.2 261) (pl_ht e fl t)).toInt else 0) ∧ f (36 + t) = iL (if pl_ht e fl t < pl_n e ∧ dtc e (N.2 265) (pl_ht e fl t) = true then 1 else 0)) → cp_512_280 46 (if z = true then 1 else 0) (nI hr) (rn N g f) ∧ ∃ u, cf_512_280 46 (if z = true then 1 else 0) (nI hr) (rn N g f) = rn N g u ∧ ∀ j, 16 ≤ j → j < 53 → u j = iL (nmv e fl (N.2 260) (N.2 261) (N.2 265) hr we (tm % 240 : Nat) tk ld mn T j) := fun z g f hz hf => by
    have i46 : mz_ib 46 64 := ib_n (k := 46) (by omega) (by omega)
    have i24 : mz_ib (nI hr) 24 := ib_n hhr (by omega)
    have i52 : mz_ib 52 64 := ib_n (k := 52) (by omega) (by omega)
    have g45 : ∀ g f, (mz_gI (rn N g f) 245 (nI hr)).toInt64 = iL we := fun g f => by
      unfold bn at hwe
      rw [gI_a, rn_1, nI_clamp (by omega), h66, iI_L (by omega)]
    have etm : mz_lrem (lN tm) 240 = lN (tm % 240) := pk_lRem (b := 240) (by omega) (by omega) (by omega)
    have g2 : ∀ g f, (rn N g f).2 232 2 = lN tm := fun g f => by rw [rn_2 (by decide) (by decide)]; exact htm
    have g61 : ∀ g f, ((rn N g f).1 232 61).toInt64 = lN tk := fun g f => by rw [rn_1, htk, nI_L htk2]
    rw [cp_512_280, cf_512_280, rn_w, g45, rn_w, rn_w, cp_512_304, cf_512_304, g2, etm, rn_w, g61, rn_w, cp_512_331, cf_512_331, rn_w, nI_L (by omega)]
    rw [show Int32.toNatClampNeg 46 = 46 from rfl, show Int32.toNatClampNeg 47 = 47 from rfl, show Int32.toNatClampNeg 48 = 48 from rfl, show Int32.toNatClampNeg 49 = 49 from rfl, show Int32.toNatClampNeg 50 = 50 from rfl, show Int32.toNatClampNeg 51 = 51 from rfl]
    generalize hU : vp_updL (vp_updL (vp_updL (vp_updL (vp_updL f 46 (if z = true then 1 else 0)) 47 (iL we)) 48 (lN hr)) 49 (lN (tm % 240))) 50 (lN tk) = U
    have lp := mz_lps (f := cq_512_341) (P := cd_512_341) (t := rn N g (vp_updL (vp_updL U 51 (sL (fun c => (N.1 272 c).toInt64) 11)) 52 (if mn = true then 1 else 0))) 11 (fun i => (nI i, rn N g (vp_updL U 51 (sL (fun c => (N.1 272 c).toInt64) i)))) (fun i hi => ?_) ?_ (Nat.zero_le _)
    · refine ⟨⟨i46, i24, lp.1⟩, _, lp.2, fun j h1 h2 => ?_⟩
      rw [hld]
      unfold nmv
      rw [if_neg (show ¬ j < 16 by omega)]
      by_cases j26 : j < 26
      · rw [if_pos j26, upL_a, if_neg (by omega), upL_a, if_neg (by omega), ← hU, upL_a, if_neg (by omega), upL_a, if_neg (by omega), upL_a, if_neg (by omega), upL_a, if_neg (by omega), upL_a, if_neg (by omega)]
        have := (hf (j - 16) (by omega)).1
        rw [show 16 + (j - 16) = j by omega] at this
        exact this
      · rw [if_neg j26]
        by_cases j36 : j < 36
        · rw [if_pos j36, upL_a, if_neg (by omega), upL_a, if_neg (by omega), ← hU, upL_a, if_neg (by omega), upL_a, if_neg (by omega), upL_a, if_neg (by omega), upL_a, if_neg (by omega), upL_a, if_neg (by omega)]
          have := (hf (j - 26) (by omega)).2.1
          rw [show 26 + (j - 26) = j by omega] at this
          exact this
        · rw [if_neg j36]
          by_cases j46 : j < 46
          · rw [if_pos j46, upL_a, if_neg (by omega), upL_a, if_neg (by omega), ← hU, upL_a, if_neg (by omega), upL_a, if_neg (by omega), upL_a, if_neg (by omega), upL_a, if_neg (by omega), upL_a, if_neg (by omega)]
            have := (hf (j - 36) (by omega)).2.2
            rw [show 36 + (j - 36) = j by omega] at this
            exact this
          · rw [if_neg j46, ← hU]
            have hc : j = 46 ∨ j = 47 ∨ j = 48 ∨ j = 49 ∨ j = 50 ∨ j = 51 ∨ j = 52 := by omega
            rcases hc with rfl | rfl | rfl | rfl | rfl | rfl | rfl
            · rw [if_pos (show (46 : Nat) = 46 from rfl), ← hz]
              show (if z = true then (1 : Int64) else 0) = iL (if z = true then 1 else 0)
              cases z <;> rfl
            · rfl
            · exact iL_n hr
            · exact iL_n (tm % 240)
            · exact iL_n tk
            · rfl
            · show (if mn = true then (1 : Int64) else 0) = iL (if mn = true then 1 else 0)
              cases mn <;> rfl
    · have l : nI i < 11 := (nI_ltI (b := 11) (by omega) (by omega)).mpr hi
      have e1 : ∀ u, mz_gL (rn N g u) 258 51 = u 51 := fun u => by rw [gL_a, rn_f]; rfl
      rw [cd_512_341, cq_512_341]
      simp only [l, if_true, e1, gI_a, rn_1, nI_clamp (show i < 2 ^ 31 by omega), rn_w, nI_1]
      refine ⟨⟨fun _ => ib_n (by omega) (by omega), fun q => absurd trivial q⟩, ?_⟩
      refine inlp (congrArg (rn N g) (funext fun j => ?_))
      rw [show Int32.toNatClampNeg 51 = 51 from rfl, upL_a]
      by_cases v : j = 51
      · subst v
        rw [if_pos rfl, upL_a, if_pos rfl, upL_a, if_pos rfl]; rfl
      · rw [if_neg v, upL_a, if_neg v, upL_a, if_neg v]
    · have l : ¬ nI 11 < 11 := by decide
      rw [cd_512_341, cq_512_341]
      have zz : mz_z01 ((rn N g (vp_updL U 51 (sL (fun c => (N.1 272 c).toInt64) 11))).1 232 52) := by
        rw [rn_1, hmn]; cases mn; exact Or.inl rfl; exact Or.inr rfl
      have zf : mz_fZ (rn N g (vp_updL U 51 (sL (fun c => (N.1 272 c).toInt64) 11))) 232 52 = mn := by
        unfold mz_fZ
        rw [rn_1, hmn]; cases mn <;> rfl
      show ((nI 11 < 11 → _) ∧ (¬ nI 11 < 11 → mz_z01 ((rn N g (vp_updL U 51 (sL (fun c => (N.1 272 c).toInt64) 11))).1 232 52) ∧ _ ∧ _)) ∧ (if nI 11 < 11 then _ else (if mz_fZ (rn N g (vp_updL U 51 (sL (fun c => (N.1 272 c).toInt64) 11))) 232 52 = true then Sum.inr (cf_512_388 52 1 (rn N g (vp_updL U 51 (sL (fun c => (N.1 272 c).toInt64) 11)))) else Sum.inr (cf_512_388 52 0 (rn N g (vp_updL U 51 (sL (fun c => (N.1 272 c).toInt64) 11)))))) = _
      rw [if_neg l, zf, cf_512_388, cf_512_388, rn_w, rn_w, show Int32.toNatClampNeg 52 = 52 from rfl]
      refine ⟨⟨fun q => absurd q l, fun _ => ⟨zz, fun _ => i52, fun _ => i52⟩⟩, ?_⟩
      cases mn <;> rfl
  have c100 : ∀ k, 100 * lN (pl_sz e k) = lN (100 * pl_sz e k) := fun k => by rw [show (100 : Int64) = lN 100 from rfl, lN_mul]
  have n205 : ∀ (z : Bool) (g f : Nat → Int64), z = adt e (N.2 265) (pl_n e) → (∀ k, k < pl_n e → g k = ts e (N.2 261) k) → (∀ t, t < 10 → f (16 + t) = iL (if pl_ht e fl t < pl_n e then (wrm e (N.2 260) (pl_ht e fl t)).toInt else 0) ∧ f (36 + t) = iL (if pl_ht e fl t < pl_n e ∧ dtc e (N.2 265) (pl_ht e fl t) = true then 1 else 0)) → cp_512_205 (nI hr) z 0 (rn N g f) ∧ ∃ u, cf_512_205 (nI hr) z 0 (rn N g f) = rn N g u ∧ ∀ j, 16 ≤ j → j < 53 → u j = iL (nmv e fl (N.2 260) (N.2 261) (N.2 265) hr we (tm % 240 : Nat) tk ld mn T j) := fun z g f hz hg hf => by
    refine nm_lp (N := N) (g := g) (f := f) 26 (by omega) (fun t => iL (if pl_ht e fl t < pl_n e then (stq e (N.2 261) (pl_ht e fl t)).toInt else 0)) (cq_512_205 (nI hr) z) (cd_512_205 (nI hr) z) (fun r => ∃ u, r = rn N g u ∧ ∀ j, 16 ≤ j → j < 53 → u j = iL (nmv e fl (N.2 260) (N.2 261) (N.2 265) hr we (tm % 240 : Nat) tk ld mn T j)) (fun i f hi => ?_) (fun f' h1 h2 => ?_)
    · obtain ⟨b1', b2'⟩ := ibq 26 26 i rfl (by omega)
      rw [cd_512_205, cq_512_205]
      simp only [l10 i hi, if_true, gh g f i hi]
      by_cases w : pl_ht e fl i < pl_n e
      · obtain ⟨p1, p2, p3⟩ := ipos i hi w
        have sz := sz_b w
        rw [if_neg p1, p2, gs g f _ (by omega), hg _ w, gz g f _ w, cf_512_258, rn_w, b2', nI_1, if_pos w, iL_i]
        refine ⟨⟨fun _ => ⟨ib10 i hi, fun q => absurd q (by rw [← p2]; exact p1), fun _ => ⟨ib10 i hi, p3, ib10 i hi, p3, by_p sz.1 (by omega), b1'⟩⟩, fun q => absurd trivial q⟩, ?_⟩
        unfold stq
        rw [Nat.one_mul]
      · rw [if_pos (ineg i hi w), cf_512_258, rn_w, b2', nI_1, if_neg w]
        exact ⟨⟨fun _ => ⟨ib10 i hi, fun _ => b1', fun q => absurd (ineg i hi w) q⟩, fun q => absurd trivial q⟩, rfl⟩
    · have lx : ¬ (10 : Int32) < 10 := by decide
      obtain ⟨k1, k2⟩ := endd z g f' hz (fun t ht => ⟨by rw [h1 (16 + t) (by omega) (by omega)]; exact (hf t ht).1, h2 t ht, by rw [h1 (36 + t) (by omega) (by omega)]; exact (hf t ht).2⟩)
      rw [cd_512_205, cq_512_205]
      show ((10 < 10 → _) ∧ (¬ (10 : Int32) < 10 → (z = true → cp_512_280 46 1 (nI hr) (rn N g f')) ∧ (¬ z = true → cp_512_280 46 0 (nI hr) (rn N g f')))) ∧ ∃ r, (if (10 : Int32) < 10 then _ else (if z = true then Sum.inr (cf_512_280 46 1 (nI hr) (rn N g f')) else Sum.inr (cf_512_280 46 0 (nI hr) (rn N g f')))) = _ ∧ _
      rw [if_neg lx]
      cases z with
      | true => exact ⟨⟨fun q => absurd q lx, fun _ => ⟨fun _ => k1, fun q => absurd rfl q⟩⟩, _, rfl, k2⟩
      | false => exact ⟨⟨fun q => absurd q lx, fun _ => ⟨fun q => absurd q Bool.false_ne_true, fun _ => k1⟩⟩, _, rfl, k2⟩
  have n131 : ∀ (z : Bool) (g f : Nat → Int64), z = adt e (N.2 265) (pl_n e) → (∀ k, k < pl_n e → g k = ts e (N.2 260) k) → (∀ t, t < 10 → f (36 + t) = iL (if pl_ht e fl t < pl_n e ∧ dtc e (N.2 265) (pl_ht e fl t) = true then 1 else 0)) → cp_512_131 (nI hr) z 0 (rn N g f) ∧ ∃ g' u, cf_512_131 (nI hr) z 0 (rn N g f) = rn N g' u ∧ ∀ j, 16 ≤ j → j < 53 → u j = iL (nmv e fl (N.2 260) (N.2 261) (N.2 265) hr we (tm % 240 : Nat) tk ld mn T j) := fun z g f hz hg hf => by
    refine nm_lp (N := N) (g := g) (f := f) 16 (by omega) (fun t => iL (if pl_ht e fl t < pl_n e then (wrm e (N.2 260) (pl_ht e fl t)).toInt else 0)) (cq_512_131 (nI hr) z) (cd_512_131 (nI hr) z) (fun r => ∃ g' u, r = rn N g' u ∧ ∀ j, 16 ≤ j → j < 53 → u j = iL (nmv e fl (N.2 260) (N.2 261) (N.2 265) hr we (tm % 240 : Nat) tk ld mn T j)) (fun i f hi => ?_) (fun f' h1 h2 => ?_)
    · obtain ⟨b1', b2'⟩ := ibq 16 16 i rfl (by omega)
      rw [cd_512_131, cq_512_131]
      simp only [l10 i hi, if_true, gh g f i hi]
      by_cases w : pl_ht e fl i < pl_n e
      · obtain ⟨p1, p2, p3⟩ := ipos i hi w
        have sz := sz_b w
        rw [if_neg p1, p2, gs g f _ (by omega), hg _ w, gz g f _ w, c100, cf_512_188, rn_w, b2', nI_1, if_pos w, iL_i]
        exact ⟨⟨fun _ => ⟨ib10 i hi, fun q => absurd q (by rw [← p2]; exact p1), fun _ => ⟨ib10 i hi, p3, ib10 i hi, p3, by_p (by omega) (by omega), b1'⟩⟩, fun q => absurd trivial q⟩, rfl⟩
      · rw [if_pos (ineg i hi w), cf_512_188, rn_w, b2', nI_1, if_neg w]
        exact ⟨⟨fun _ => ⟨ib10 i hi, fun _ => b1', fun q => absurd (ineg i hi w) q⟩, fun q => absurd trivial q⟩, rfl⟩
    · have lx : ¬ (10 : Int32) < 10 := by decide
      obtain ⟨s1, g', s2, s3⟩ := sma 261 g f' (by decide) (by decide)
      obtain ⟨k1, u, k2, k3⟩ := n205 z g' f' hz s3 (fun t ht => ⟨h2 t ht, by rw [h1 (36 + t) (by omega) (by omega)]; exact hf t ht⟩)
      rw [cd_512_131, cq_512_131]
      show ((10 < 10 → _) ∧ (¬ (10 : Int32) < 10 → cp_513_0 261 (rn N g f') ∧ cp_512_205 (nI hr) z 0 (cf_513_0 261 (rn N g f')))) ∧ ∃ r, (if (10 : Int32) < 10 then _ else Sum.inr (cf_512_205 (nI hr) z 0 (cf_513_0 261 (rn N g f')))) = _ ∧ _
      rw [if_neg lx, s2, k2]
      exact ⟨⟨fun q => absurd q lx, fun _ => ⟨s1, k1⟩⟩, _, rfl, g', u, rfl, k3⟩
  have n59 : ∀ (z : Bool) (g f : Nat → Int64), z = adt e (N.2 265) (pl_n e) → (∀ k, k < pl_n e → g k = ts e (N.2 265) k) → cp_512_59 (nI hr) z 0 (rn N g f) ∧ ∃ g' u, cf_512_59 (nI hr) z 0 (rn N g f) = rn N g' u ∧ ∀ j, 16 ≤ j → j < 53 → u j = iL (nmv e fl (N.2 260) (N.2 261) (N.2 265) hr we (tm % 240 : Nat) tk ld mn T j) := fun z g f hz hg => by
    refine nm_lp (N := N) (g := g) (f := f) 36 (by omega) (fun t => iL (if pl_ht e fl t < pl_n e ∧ dtc e (N.2 265) (pl_ht e fl t) = true then 1 else 0)) (cq_512_59 (nI hr) z) (cd_512_59 (nI hr) z) (fun r => ∃ g' u, r = rn N g' u ∧ ∀ j, 16 ≤ j → j < 53 → u j = iL (nmv e fl (N.2 260) (N.2 261) (N.2 265) hr we (tm % 240 : Nat) tk ld mn T j)) (fun i f hi => ?_) (fun f' h1 h2 => ?_)
    · obtain ⟨b1', b2'⟩ := ibq 36 36 i rfl (by omega)
      rw [cd_512_59, cq_512_59]
      simp only [l10 i hi, if_true, gh g f i hi]
      by_cases w : pl_ht e fl i < pl_n e
      · obtain ⟨p1, p2, p3⟩ := ipos i hi w
        rw [if_neg p1, p2, gs g f _ (by omega), hg _ w, gz g f _ w]
        refine ⟨⟨fun _ => ⟨ib10 i hi, fun q => absurd q (by rw [← p2]; exact p1), fun _ => ⟨p3, p3, fun _ => b1', fun _ => b1'⟩⟩, fun q => absurd trivial q⟩, ?_⟩
        by_cases v : 20 * lN (pl_sz e (pl_ht e fl i)) < ts e (N.2 265) (pl_ht e fl i)
        · rw [if_pos v, cf_512_114, rn_w, b2', nI_1, if_pos ⟨w, by unfold dtc; exact decide_eq_true v⟩]; rfl
        · rw [if_neg v, cf_512_113, cf_512_114, rn_w, b2', nI_1, if_neg (fun q => by have := q.2; unfold dtc at this; rw [decide_eq_false v] at this; cases this)]; rfl
      · rw [if_pos (ineg i hi w), cf_512_113, cf_512_114, rn_w, b2', nI_1, if_neg (fun q => w q.1)]
        exact ⟨⟨fun _ => ⟨ib10 i hi, fun _ => b1', fun q => absurd (ineg i hi w) q⟩, fun q => absurd trivial q⟩, rfl⟩
    · have lx : ¬ (10 : Int32) < 10 := by decide
      obtain ⟨s1, g', s2, s3⟩ := sma 260 g f' (by decide) (by decide)
      obtain ⟨k1, g2, u, k2, k3⟩ := n131 z g' f' hz s3 (fun t ht => h2 t ht)
      rw [cd_512_59, cq_512_59]
      show ((10 < 10 → _) ∧ (¬ (10 : Int32) < 10 → cp_513_0 260 (rn N g f') ∧ cp_512_131 (nI hr) z 0 (cf_513_0 260 (rn N g f')))) ∧ ∃ r, (if (10 : Int32) < 10 then _ else Sum.inr (cf_512_131 (nI hr) z 0 (cf_513_0 260 (rn N g f')))) = _ ∧ _
      rw [if_neg lx, s2, k2]
      exact ⟨⟨fun q => absurd q lx, fun _ => ⟨s1, k1⟩⟩, _, rfl, g2, u, rfl, k3⟩
  have n12 : ∀ (g f : Nat → Int64), (∀ k, k < pl_n e → g k = ts e (N.2 265) k) → cp_512_12 (nI hr) false 0 (rn N g f) ∧ ∃ g' u, cf_512_12 (nI hr) false 0 (rn N g f) = rn N g' u ∧ ∀ j, 16 ≤ j → j < 53 → u j = iL (nmv e fl (N.2 260) (N.2 261) (N.2 265) hr we (tm % 240 : Nat) tk ld mn T j) := fun g f hg => by
    refine mz_lpn (f := cq_512_12 (nI hr) (rn N g f)) (P := cd_512_12 (nI hr) (rn N g f)) (Q := fun r => ∃ g' u, r = rn N g' u ∧ ∀ j, 16 ≤ j → j < 53 → u j = iL (nmv e fl (N.2 260) (N.2 261) (N.2 265) hr we (tm % 240 : Nat) tk ld mn T j)) (pl_n e) (fun i st => st = (adt e (N.2 265) i, nI i)) ?_ ?_ (Nat.zero_le _) rfl
    · rintro i st hi rfl
      have l : nI i < nI (pl_n e) := (nI_ltI (by omega) (by omega)).mpr hi
      have i2 : mz_ib (nI i) 240 := ib_n (by omega) (by omega)
      rw [cd_512_12, cq_512_12]
      simp only [rn_1, s7, l, if_true]
      refine ⟨⟨fun _ => ⟨fun _ => trivial, fun _ => ⟨i2, i2, fun _ => trivial, fun _ => trivial⟩⟩, fun q => absurd trivial q⟩, Or.inl ⟨_, ?_, rfl⟩⟩
      rw [gs g f i (by omega), hg i hi, gz g f i hi]
      show _ = Sum.inl (adt e (N.2 265) i || dtc e (N.2 265) i, nI (i + 1))
      by_cases w : adt e (N.2 265) i = true
      · rw [if_pos w, cf_512_45, cf_512_50, nI_1, w, Bool.true_or]
      · rw [if_neg w, Bool.eq_false_iff.mpr w, Bool.false_or]
        by_cases v : 20 * lN (pl_sz e i) < ts e (N.2 265) i
        · rw [if_pos v, cf_512_45, cf_512_50, nI_1]
          unfold dtc; rw [decide_eq_true v]
        · rw [if_neg v, cf_512_50, nI_1]
          unfold dtc; rw [decide_eq_false v]
    · rintro st rfl
      have l : ¬ nI (pl_n e) < nI (pl_n e) := fun q => by have := (nI_ltI (by omega) (by omega)).mp q; omega
      obtain ⟨k1, k2⟩ := n59 (adt e (N.2 265) (pl_n e)) g f rfl hg
      rw [cd_512_12, cq_512_12]
      simp only [rn_1, s7, l, if_false]
      exact ⟨⟨fun q => absurd q id, fun _ => k1⟩, _, rfl, k2⟩
  obtain ⟨s1, g1, s2, s3⟩ := sma_r (N := N) (a1 := 265) (e := e) s7 s35 (by decide)
  rw [rn_0] at s2
  obtain ⟨k1, g2, u, k2, k3⟩ := n12 g1 (N.2 258) s3
  have r := run_r (N := rn N g2 u) (S := S) (T := nmv e fl (N.2 260) (N.2 261) (N.2 265) hr we (tm % 240 : Nat) tk ld mn T) hbn (fun j hj => by rw [rn_1, nmv_lo hj]; exact hT j hj) (fun j h1 h2 => by rw [rn_f]; exact k3 j h1 h2) hv hd hl hna h28 hw
  obtain ⟨r1, f', p', r2, r3⟩ := r
  rw [cp_511_0, cf_511_0, cp_512_0, cf_512_0, s2, k2]
  exact ⟨⟨⟨s1, k1⟩, r1⟩, f', p', g2, u, r2, r3⟩
end Nmr2
