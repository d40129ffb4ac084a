/-! PURE (50zzi): power in the class, whole. -/
/-- loads and shed, the engine, fuel, minutes without mains, charge -/
def pwx (k L0 : Nat → Nat) (mn fit : Bool) (ch fu wo : Nat) : ((Nat → Nat) × (Nat → Bool)) × Bool × Nat × Nat × Nat :=
  if mn = true then ((L0, fun _ => false), false, fu, 0, min 3000 (ch + 30))
  else if 2 ≤ wo ∧ 0 < fu ∧ fit = true then (shd k (150 + ch) 11 (L0, fun _ => false), true, fu - 1, wo + 1, ch - (sumN (shd k (150 + ch) 11 (L0, fun _ => false)).1 11 - 150))
  else (shd k (0 + ch) 11 (L0, fun _ => false), false, fu, wo + 1, ch - (sumN (shd k (0 + ch) 11 (L0, fun _ => false)).1 11 - 0))
section Pow
variable {N : mz_N} {k L0 r h : Nat → Nat} {tr : Nat → Bool} {mn fit : Bool} {ch fu wo : Nat}
/-- the circuits at the end -/
theorem circ_c {a b c d F m : Nat → Int32} {x : (Nat → Nat) × (Nat → Bool)} (hx : lsh a d x) (hL : ∀ j, j < 11 → x.1 j ≤ 2000) (hr : ∀ j, j < 11 → N.1 62 j = nI (r j) ∧ 1 ≤ r j ∧ r j ≤ 500) (hb : ∀ j, j < 11 → b j = nI (h j) ∧ h j ≤ 30000) (hc : ∀ j, j < 11 → c j = nI (b1 (tr j))) :
    cp_219_51 (pmc N a b c d F m) ∧ ∃ b' c' m', cf_219_51 (pmc N a b c d F m) = pmc N a b' c' d (upd F 6 (mz_b01 (!(tr 10) && !(x.2 10)))) m' ∧ ∀ j, j < 11 → b' j = nI (htn (x.1 j) (r j) (h j)) ∧ c' j = nI (b1 (tr j || decide (50 ≤ htn (x.1 j) (r j) (h j)))) ∧ m' j = m j + nI (x.1 j) := by
  have e1 : mz_gI (pmc N a b c d F m) 60 10 = nI (b1 (tr 10)) := hc 10 (by omega)
  have e2 : mz_gI (pmc N a b c d F m) 61 10 = nI (b1 (x.2 10)) := (hx 10 (by omega)).2
  have lv : cp_227_0 10 (pmc N a b c d F m) ∧ cf_227_0 10 (pmc N a b c d F m) = (!(tr 10) && !(x.2 10)) := by
    have i10 : mz_ib 10 11 := ib_n (k := 10) (by omega) (by omega)
    rw [cp_227_0, cf_227_0, e1, e2]
    refine ⟨⟨i10, fun _ => i10, fun _ => trivial⟩, ?_⟩
    cases tr 10 <;> cases x.2 10 <;> rfl
  rw [cp_219_51, cf_219_51, lv.2, pm_56]
  generalize hF : upd F 6 (mz_b01 (!(tr 10) && !(x.2 10))) = F'
  have lp := mz_lpn (f := cq_219_69) (P := cd_219_69) (Q := fun r' => ∃ b' c' m', r' = pmc N a b' c' d F' m' ∧ ∀ j, j < 11 → b' j = nI (htn (x.1 j) (r j) (h j)) ∧ c' j = nI (b1 (tr j || decide (50 ≤ htn (x.1 j) (r j) (h j)))) ∧ m' j = m j + nI (x.1 j)) 11 (fun i st => ∃ b' c' m', st = (nI i, pmc N a b' c' d F' m') ∧ (∀ j, j < i → b' j = nI (htn (x.1 j) (r j) (h j)) ∧ c' j = nI (b1 (tr j || decide (50 ≤ htn (x.1 j) (r j) (h j)))) ∧ m' j = m j + nI (x.1 j)) ∧ ∀ j, i ≤ j → j < 11 → b' j = b j ∧ c' j = c j ∧ m' j = m j) ?_ ?_ (Nat.zero_le _) ⟨b, c, m, rfl, fun j hj => absurd hj (Nat.not_lt_zero _), fun j _ _ => ⟨rfl, rfl, rfl⟩⟩
  · exact ⟨⟨lv.1, lp.1⟩, lp.2⟩
  · rintro i st hi ⟨b', c', m', rfl, h1, h2⟩
    obtain ⟨q1, q2, q3⟩ := h2 i (Nat.le_refl _) hi
    have l : nI i < 11 := (nI_ltI (b := 11) (by omega) (by omega)).mpr hi
    have i1 : mz_ib (nI i) 11 := ib_n hi (by omega)
    obtain ⟨k1, k2⟩ := heat_c (N := N) (a := a) (b := b') (c := c') (d := d) (F := F') (m := m') (L := x.1) (r := r) (h := h) (tr := tr) hi (hx i hi).1 (hL i hi) (hr i hi).1 (hr i hi).2 (by rw [q1]; exact (hb i hi).1) (hb i hi).2 (by rw [q2]; exact hc i hi)
    rw [cd_219_69, cq_219_69]
    show ((nI i < 11 → cp_228_0 (nI i) (pmc N a b' c' d F' m') ∧ _) ∧ _) ∧ ((∃ s2, (if nI i < 11 then cf_219_108 (nI i) (mz_wI (cf_228_0 (nI i) (pmc N a b' c' d F' m')) 211 (nI i) (mz_gI (cf_228_0 (nI i) (pmc N a b' c' d F' m')) 211 (nI i) + mz_gI (cf_228_0 (nI i) (pmc N a b' c' d F' m')) 58 (nI i))) else _) = _ ∧ _) ∨ _)
    rw [if_pos l, k2, cf_219_108, pm_m, nI_1, nI_clamp (by omega)]
    refine ⟨⟨fun _ => ⟨k1, i1, i1, i1, trivial⟩, fun _ => trivial⟩, Or.inl ⟨_, rfl, _, _, _, rfl, fun j hj => ?_, fun j hj hj2 => ?_⟩⟩
    · by_cases w : j = i
      · subst w
        refine ⟨by rw [up_a, if_pos rfl], by rw [up_a, if_pos rfl], ?_⟩
        rw [up_a, if_pos rfl, gI_a, gI_a, nI_clamp (by omega)]
        show m' j + a j = _
        rw [q3, (hx j hi).1]
      · rw [up_a, if_neg w, up_a, if_neg w, up_a, if_neg w]; exact h1 j (by omega)
    · rw [up_a, if_neg (by omega), up_a, if_neg (by omega), up_a, if_neg (by omega)]; exact h2 j (by omega) hj2
  · rintro st ⟨b', c', m', rfl, h1, h2⟩
    have l : ¬ nI 11 < 11 := by decide
    rw [cd_219_69, cq_219_69]
    exact ⟨⟨fun q => absurd q l, fun _ => trivial⟩, _, by rw [if_neg l], b', c', m', rfl, h1⟩
theorem pow_c {hq : Nat} {a0 d0 : Nat → Int32} (h20 : cp_220_0 (nI hq) N ∧ cf_220_0 (nI hq) N = pmc N a0 (N.1 59) (N.1 60) d0 (N.1 56) (N.1 211) ∧ ∀ c, c < 11 → a0 c = nI (L0 c) ∧ d0 c = 0) (hL0 : ∀ j, j < 11 → L0 j ≤ 2000)
    (hk : ∀ j, j < 11 → N.1 63 j = nI (k j) ∧ k j ≤ 9) (hr : ∀ j, j < 11 → N.1 62 j = nI (r j) ∧ 1 ≤ r j ∧ r j ≤ 500) (hb : ∀ j, j < 11 → N.1 59 j = nI (h j) ∧ h j ≤ 30000) (hc : ∀ j, j < 11 → N.1 60 j = nI (b1 (tr j)))
    (hmn : N.1 56 4 = mz_b01 mn) (hch : N.1 56 1 = nI ch) (hch2 : ch ≤ 3000) (hfu : N.1 56 2 = nI fu) (hfu2 : fu ≤ 1000) (hwo : N.1 56 3 = nI wo) (hwo2 : wo < 2 ^ 30) (hfit : N.1 128 2 = nI (b1 (!fit))) :
    cp_219_0 (nI hq) N ∧ ∃ a b c d F m, cf_219_0 (nI hq) N = pmc N a b c d F m ∧ lsh a d (pwx k L0 mn fit ch fu wo).1 ∧ (∀ j, j < 11 → b j = nI (htn ((pwx k L0 mn fit ch fu wo).1.1 j) (r j) (h j)) ∧ c j = nI (b1 (tr j || decide (50 ≤ htn ((pwx k L0 mn fit ch fu wo).1.1 j) (r j) (h j)))) ∧ m j = N.1 211 j + nI ((pwx k L0 mn fit ch fu wo).1.1 j)) ∧ F 1 = nI (pwx k L0 mn fit ch fu wo).2.2.2.2 ∧ F 2 = nI (pwx k L0 mn fit ch fu wo).2.2.1 ∧ F 3 = nI (pwx k L0 mn fit ch fu wo).2.2.2.1 ∧ F 5 = mz_b01 (pwx k L0 mn fit ch fu wo).2.1 ∧ F 6 = mz_b01 (!(tr 10) && !((pwx k L0 mn fit ch fu wo).1.2 10)) ∧ ∀ j, j ≠ 1 → j ≠ 2 → j ≠ 3 → j ≠ 5 → j ≠ 6 → F j = N.1 56 j := by
  obtain ⟨p1, p2, p3⟩ := h20
  have hx0 : lsh a0 d0 (L0, fun _ => false) := fun j hj => ⟨(p3 j hj).1, by rw [(p3 j hj).2]; rfl⟩
  rw [cp_219_0, cf_219_0, p2]
  have zz : mz_z01 ((pmc N a0 (N.1 59) (N.1 60) d0 (N.1 56) (N.1 211)).1 56 4) := by
    show mz_z01 (N.1 56 4)
    rw [hmn]; cases mn; exact Or.inl rfl; exact Or.inr rfl
  have zf : mz_fZ (pmc N a0 (N.1 59) (N.1 60) d0 (N.1 56) (N.1 211)) 56 4 = mn := by
    show decide (N.1 56 4 = 1) = mn
    rw [hmn]; cases mn <;> rfl
  rw [zf]
  cases mn with
  | true =>
    have e23 : cf_223_0 (pmc N a0 (N.1 59) (N.1 60) d0 (N.1 56) (N.1 211)) = pmc N a0 (N.1 59) (N.1 60) d0 (upd (upd (upd (N.1 56) 5 0) 1 (nI (min 3000 (ch + 30)))) 3 0) (N.1 211) := by
      rw [cf_223_0, cf_223_27, pm_56, pm_56, pm_56]
      have e1 : (pmc N a0 (N.1 59) (N.1 60) d0 (upd (N.1 56) 5 (mz_b01 false)) (N.1 211)).1 56 1 = nI ch := hch
      rw [e1, show (30 : Int32) = nI 30 from rfl, nI_add, show (3000 : Int32) = nI 3000 from rfl, imin_n (by omega) (by omega)]
      rfl
    rw [if_pos rfl, e23]
    obtain ⟨c1, b', c', m', c2, c3⟩ := circ_c (N := N) (a := a0) (b := N.1 59) (c := N.1 60) (d := d0) (F := upd (upd (upd (N.1 56) 5 0) 1 (nI (min 3000 (ch + 30)))) 3 0) (m := N.1 211) (x := (L0, fun _ => false)) (r := r) (h := h) (tr := tr) hx0 hL0 hr hb hc
    refine ⟨⟨p1, zz, fun _ => ⟨trivial, c1⟩, fun q => absurd rfl q⟩, a0, b', c', d0, _, m', c2, hx0, c3, rfl, hfu, rfl, rfl, rfl, fun j j1 j2 j3 j5 j6 => ?_⟩
    rw [up_a, if_neg j6, up_a, if_neg j3, up_a, if_neg j1, up_a, if_neg j5]
  | false =>
    have ef : cf_224_0 2 (pmc N a0 (N.1 59) (N.1 60) d0 (N.1 56) (N.1 211)) = fit := by
      rw [cf_224_0]
      show (if N.1 128 2 = 0 then true else false) = fit
      rw [hfit]; cases fit <;> rfl
    rw [if_neg Bool.false_ne_true, ef]
    -- with the engine or without
    have go : ∀ (g : Bool) (gv : Nat), gv = (if g = true then 150 else 0) → (g = true → 0 < fu) → cp_225_25 g (pmc N a0 (N.1 59) (N.1 60) d0 (N.1 56) (N.1 211)) ∧ ∃ a' d', cf_225_25 g (pmc N a0 (N.1 59) (N.1 60) d0 (N.1 56) (N.1 211)) = pmc N a' (N.1 59) (N.1 60) d' (upd (upd (if g = true then upd (upd (N.1 56) 5 (mz_b01 g)) 2 (nI (fu - 1)) else upd (N.1 56) 5 (mz_b01 g)) 3 (nI (wo + 1))) 1 (nI (ch - (sumN (shd k (gv + ch) 11 (L0, fun _ => false)).1 11 - gv)))) (N.1 211) ∧ lsh a' d' (shd k (gv + ch) 11 (L0, fun _ => false)) := fun g gv hgv hg => by
      have z5 : ∀ F : Nat → Int32, F 5 = mz_b01 g → mz_z01 ((pmc N a0 (N.1 59) (N.1 60) d0 F (N.1 211)).1 56 5) ∧ mz_fZ (pmc N a0 (N.1 59) (N.1 60) d0 F (N.1 211)) 56 5 = g := fun F hF => by
        refine ⟨?_, ?_⟩
        · show mz_z01 (F 5)
          rw [hF]; cases g; exact Or.inl rfl; exact Or.inr rfl
        · show decide (F 5 = 1) = g
          rw [hF]; cases g <;> rfl
      have shp : ∀ F : Nat → Int32, F 1 = nI ch → F 3 = nI wo → cp_225_60 (nI gv) (pmc N a0 (N.1 59) (N.1 60) d0 F (N.1 211)) ∧ ∃ a' d', cf_225_60 (nI gv) (pmc N a0 (N.1 59) (N.1 60) d0 F (N.1 211)) = pmc N a' (N.1 59) (N.1 60) d' (upd (upd F 3 (nI (wo + 1))) 1 (nI (ch - (sumN (shd k (gv + ch) 11 (L0, fun _ => false)).1 11 - gv)))) (N.1 211) ∧ lsh a' d' (shd k (gv + ch) 11 (L0, fun _ => false)) := fun F f1 f3 => by
        have e3 : (pmc N a0 (N.1 59) (N.1 60) d0 F (N.1 211)).1 56 3 = nI wo := f3
        rw [cp_225_60, cf_225_60, e3, nI_1, pm_56]
        exact shed_c (N := N) (b := N.1 59) (c := N.1 60) (F := upd F 3 (nI (wo + 1))) (m := N.1 211) (k := k) (gv := gv) (ch := ch) hk hch2 (by rw [hgv]; split <;> omega) f1 11 0 a0 d0 (L0, fun _ => false) rfl hx0 hL0 (Or.inr trivial) (npo_le _)
      obtain ⟨y1, y2⟩ := z5 (upd (N.1 56) 5 (mz_b01 g)) rfl
      rw [cp_225_25, cf_225_25, pm_56, y2]
      cases g with
      | true =>
        have hgv' : gv = 150 := hgv
        subst hgv'
        have e2 : (pmc N a0 (N.1 59) (N.1 60) d0 (upd (N.1 56) 5 (mz_b01 true)) (N.1 211)).1 56 2 = nI fu := hfu
        obtain ⟨s1, s2⟩ := shp (upd (upd (N.1 56) 5 (mz_b01 true)) 2 (nI (fu - 1))) hch hwo
        have hfu1 := hg rfl
        have es : nI fu - 1 = nI (fu - 1) := by rw [show (1 : Int32) = nI 1 from rfl, pk_sub (by omega)]
        rw [if_pos rfl, cf_225_42, y2, if_pos rfl, e2, es, pm_56, if_pos rfl]
        refine ⟨⟨y1, fun _ => ⟨y1, fun _ => ?_, fun q => ?_⟩, fun q => absurd rfl q⟩, s2⟩
        · rw [e2, es, pm_56]; exact s1
        · rw [y2] at q; exact absurd rfl q
      | false =>
        have hgv' : gv = 0 := hgv
        subst hgv'
        obtain ⟨s1, s2⟩ := shp (upd (N.1 56) 5 (mz_b01 false)) hch hwo
        rw [if_neg Bool.false_ne_true, cf_225_42, y2, if_neg Bool.false_ne_true, if_neg Bool.false_ne_true]
        refine ⟨⟨y1, fun q => absurd q Bool.false_ne_true, fun _ => ⟨y1, fun q => ?_, fun _ => s1⟩⟩, s2⟩
        rw [y2] at q; exact absurd q Bool.false_ne_true
    have lw : N.1 56 3 < 2 ↔ wo < 2 := by rw [hwo]; exact nI_ltI (b := 2) (by omega) (by omega)
    have lf : 0 < N.1 56 2 ↔ 0 < fu := by rw [hfu]; exact nI_gt0 (by omega)
    have key : ∃ g : Bool, (g = true ↔ (2 ≤ wo ∧ 0 < fu ∧ fit = true)) ∧ (cp_225_25 g (pmc N a0 (N.1 59) (N.1 60) d0 (N.1 56) (N.1 211)) → cp_225_0 fit (pmc N a0 (N.1 59) (N.1 60) d0 (N.1 56) (N.1 211))) ∧ cf_225_0 fit (pmc N a0 (N.1 59) (N.1 60) d0 (N.1 56) (N.1 211)) = cf_225_25 g (pmc N a0 (N.1 59) (N.1 60) d0 (N.1 56) (N.1 211)) := by
      rw [cp_225_0, cf_225_0, cf_225_24]
      show ∃ g : Bool, _ ∧ (_ → (N.1 56 3 < 2 → _) ∧ (¬ N.1 56 3 < 2 → (0 < N.1 56 2 → _) ∧ (¬ 0 < N.1 56 2 → _))) ∧ (if N.1 56 3 < 2 then _ else (if 0 < N.1 56 2 then _ else _)) = _
      by_cases w1 : wo < 2
      · refine ⟨false, ⟨fun q => (by cases q), fun q => by omega⟩, fun z => ⟨fun _ => z, fun q => absurd (lw.mpr w1) q⟩, by rw [if_pos (lw.mpr w1)]⟩
      · rw [if_neg (fun q => w1 (lw.mp q))]
        by_cases w2 : 0 < fu
        · rw [if_pos (lf.mpr w2)]
          cases fit with
          | true => exact ⟨true, ⟨fun _ => ⟨by omega, w2, rfl⟩, fun _ => rfl⟩, fun z => ⟨fun q => absurd (lw.mp q) w1, fun _ => ⟨fun _ => ⟨fun _ => z, fun q => absurd rfl q⟩, fun q => absurd (lf.mpr w2) q⟩⟩, by rw [if_pos rfl]⟩
          | false => exact ⟨false, ⟨fun q => (by cases q), fun q => (by cases q.2.2)⟩, fun z => ⟨fun q => absurd (lw.mp q) w1, fun _ => ⟨fun _ => ⟨fun q => absurd q Bool.false_ne_true, fun _ => z⟩, fun q => absurd (lf.mpr w2) q⟩⟩, by rw [if_neg Bool.false_ne_true]⟩
        · exact ⟨false, ⟨fun q => (by cases q), fun q => absurd q.2.1 w2⟩, fun z => ⟨fun q => absurd (lw.mp q) w1, fun _ => ⟨fun q => absurd (lf.mp q) w2, fun _ => z⟩⟩, by rw [if_neg (fun q => w2 (lf.mp q))]⟩
    obtain ⟨g, g1, g2, g3⟩ := key
    obtain ⟨s1, a', d', s2, s3⟩ := go g (if g = true then 150 else 0) rfl (fun q => (g1.mp q).2.1)
    have epw : pwx k L0 false fit ch fu wo = (shd k ((if g = true then 150 else 0) + ch) 11 (L0, fun _ => false), g, (if g = true then fu - 1 else fu), wo + 1, ch - (sumN (shd k ((if g = true then 150 else 0) + ch) 11 (L0, fun _ => false)).1 11 - (if g = true then 150 else 0))) := by
      unfold pwx
      rw [if_neg Bool.false_ne_true]
      cases g with
      | true => rw [if_pos (g1.mp rfl), if_pos rfl, if_pos rfl]
      | false => rw [if_neg (fun q => by have := g1.mpr q; cases this), if_neg Bool.false_ne_true, if_neg Bool.false_ne_true]
    rw [g3, s2, epw]
    generalize hX : shd k ((if g = true then 150 else 0) + ch) 11 (L0, fun _ => false) = X at *
    have hLX : ∀ j, j < 11 → X.1 j ≤ 2000 := by rw [← hX]; exact shd_le 11 _ hL0
    obtain ⟨c1, b', c', m', c2, c3⟩ := circ_c (N := N) (a := a') (b := N.1 59) (c := N.1 60) (d := d') (F := upd (upd (if g = true then upd (upd (N.1 56) 5 (mz_b01 g)) 2 (nI (fu - 1)) else upd (N.1 56) 5 (mz_b01 g)) 3 (nI (wo + 1))) 1 (nI (ch - (sumN X.1 11 - (if g = true then 150 else 0))))) (m := N.1 211) (x := X) (r := r) (h := h) (tr := tr) s3 hLX hr hb hc
    refine ⟨⟨p1, zz, fun q => absurd q Bool.false_ne_true, fun _ => ⟨ib_n (k := 2) (by omega) (by omega), g2 s1, c1⟩⟩, a', b', c', d', _, m', c2, s3, c3, rfl, ?_, rfl, ?_, rfl, fun j j1 j2 j3 j5 j6 => ?_⟩
    · show upd (upd (upd (if g = true then upd (upd (N.1 56) 5 (mz_b01 g)) 2 (nI (fu - 1)) else upd (N.1 56) 5 (mz_b01 g)) 3 (nI (wo + 1))) 1 _) 6 _ 2 = nI (if g = true then fu - 1 else fu)
      cases g with
      | true => rfl
      | false => exact hfu
    · show upd (upd (upd (if g = true then upd (upd (N.1 56) 5 (mz_b01 g)) 2 (nI (fu - 1)) else upd (N.1 56) 5 (mz_b01 g)) 3 (nI (wo + 1))) 1 _) 6 _ 5 = mz_b01 g
      cases g <;> rfl
    · rw [up_a, if_neg j6, up_a, if_neg j1, up_a, if_neg j3]
      cases g with
      | true => rw [if_pos rfl, up_a, if_neg j2, up_a, if_neg j5]
      | false => rw [if_neg Bool.false_ne_true, up_a, if_neg j5]
end Pow
