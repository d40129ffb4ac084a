/-! PURE (50zzl): power in the reference, whole. -/
section Pwr3
variable {N : mz_N} {e fl P ar k r h : Nat → Nat} {hr vn ch fu wo : Nat} {dk lm bo ra mn fit : Bool} {tr : Nat → Bool}
theorem pow_r (hn : pl_n e ≤ 40) (h42 : ∀ j, j < 10 → N.1 242 j = nO (pl_n e) (pl_ht e fl j)) (h44 : ∀ j, j < 240 → N.1 244 j = nI (P j)) (hP : ∀ j, P j ≤ 20) (h43 : ∀ j, j < 10 → N.1 243 j = nI (ar j)) (hhr : hr < 24) (hdk : dk = decide (hr < 7 ∨ 18 ≤ hr)) (hlm : lm = decide (N.1 257 10 = 1)) (hvn : N.1 257 13 = nI vn) (hbo : bo = decide (0 < N.2 232 66)) (hra : N.1 232 64 = mz_b01 ra)
    (hL0 : ∀ j, j < 11 → ld0 (pnt e fl P hr) ar dk lm bo ra vn tr j ≤ 2000)
    (hk : ∀ j, j < 11 → N.1 248 j = nI (k j) ∧ k j ≤ 9) (hrr : ∀ j, j < 11 → N.1 247 j = nI (r j) ∧ 1 ≤ r j ∧ r j ≤ 500) (hb : ∀ j, j < 11 → N.1 274 j = nI (h j) ∧ h j ≤ 30000) (hc : ∀ j, j < 11 → N.1 275 j = nI (b1 (tr j)))
    (hmn : N.1 232 52 = mz_b01 mn) (hch : N.1 232 54 = nI ch) (hch2 : ch ≤ 3000) (hfu : N.1 232 53 = nI fu) (hfu2 : fu ≤ 1000) (hwo : N.1 232 55 = nI wo) (hwo2 : wo < 2 ^ 30) (hfit : N.1 307 2 = nI (b1 (!fit))) :
    cp_518_0 (nI hr) N ∧ ∃ a d b c l F m, cf_518_0 (nI hr) N = prc N a d b c l F m ∧ lsh a d (pwx k (ld0 (pnt e fl P hr) ar dk lm bo ra vn tr) mn fit ch fu wo).1 ∧ lvr l tr (pwx k (ld0 (pnt e fl P hr) ar dk lm bo ra vn tr) mn fit ch fu wo).1.2 ∧ (∀ j, j < 11 → b j = nI (htn ((pwx k (ld0 (pnt e fl P hr) ar dk lm bo ra vn tr) mn fit ch fu wo).1.1 j) (r j) (h j)) ∧ c j = nI (b1 (tr j || decide (50 ≤ htn ((pwx k (ld0 (pnt e fl P hr) ar dk lm bo ra vn tr) mn fit ch fu wo).1.1 j) (r j) (h j)))) ∧ m j = N.2 322 j + lN ((pwx k (ld0 (pnt e fl P hr) ar dk lm bo ra vn tr) mn fit ch fu wo).1.1 j)) ∧ F 54 = nI (pwx k (ld0 (pnt e fl P hr) ar dk lm bo ra vn tr) mn fit ch fu wo).2.2.2.2 ∧ F 53 = nI (pwx k (ld0 (pnt e fl P hr) ar dk lm bo ra vn tr) mn fit ch fu wo).2.2.1 ∧ F 55 = nI (pwx k (ld0 (pnt e fl P hr) ar dk lm bo ra vn tr) mn fit ch fu wo).2.2.2.1 ∧ F 65 = mz_b01 (pwx k (ld0 (pnt e fl P hr) ar dk lm bo ra vn tr) mn fit ch fu wo).2.1 ∧ ∀ j, j ≠ 53 → j ≠ 54 → j ≠ 55 → j ≠ 65 → F j = N.1 232 j := by
  generalize hLg : ld0 (pnt e fl P hr) ar dk lm bo ra vn tr = L0 at *
  refine mz_lpn (f := cq_518_2 (nI hr)) (P := cd_518_2 (nI hr)) (Q := fun r' => ∃ a d b c l F m, r' = prc N a d b c l F m ∧ lsh a d (pwx k L0 mn fit ch fu wo).1 ∧ lvr l tr (pwx k L0 mn fit ch fu wo).1.2 ∧ (∀ j, j < 11 → b j = nI (htn ((pwx k L0 mn fit ch fu wo).1.1 j) (r j) (h j)) ∧ c j = nI (b1 (tr j || decide (50 ≤ htn ((pwx k L0 mn fit ch fu wo).1.1 j) (r j) (h j)))) ∧ m j = N.2 322 j + lN ((pwx k L0 mn fit ch fu wo).1.1 j)) ∧ F 54 = nI (pwx k L0 mn fit ch fu wo).2.2.2.2 ∧ F 53 = nI (pwx k L0 mn fit ch fu wo).2.2.1 ∧ F 55 = nI (pwx k L0 mn fit ch fu wo).2.2.2.1 ∧ F 65 = mz_b01 (pwx k L0 mn fit ch fu wo).2.1 ∧ ∀ j, j ≠ 53 → j ≠ 54 → j ≠ 55 → j ≠ 65 → F j = N.1 232 j) 11 (fun i st => ∃ a d l, st = (nI i, prc N a d (N.1 274) (N.1 275) l (N.1 232) (N.2 322)) ∧ ∀ j, j < i → a j = nI (L0 j) ∧ d j = 0 ∧ l j = mz_b01 (!(tr j))) ?_ ?_ (Nat.zero_le _) ⟨N.1 272, N.1 273, N.1 276, by rw [rc_self]; rfl, fun j hj => absurd hj (Nat.not_lt_zero _)⟩
  · rintro i st hi ⟨a, d, l, rfl, h1⟩
    have ll : nI i < 11 := (nI_ltI (b := 11) (by omega) (by omega)).mpr hi
    have i1 : mz_ib (nI i) 11 := ib_n hi (by omega)
    obtain ⟨k1, k2⟩ := ld_r (N := N) (e := e) (fl := fl) (P := P) (ar := ar) (hr := hr) (vn := vn) (dk := dk) (lm := lm) (bo := bo) (ra := ra) (tr := tr) (a := a) (d := d) (b := N.1 274) (c := N.1 275) (l := l) (F := N.1 232) (m := N.2 322) hi hn h42 h44 hP h43 hhr hdk hlm hvn hbo hra
    rw [hLg] at k2
    have gz : mz_gI (prc N a d (N.1 274) (N.1 275) l (N.1 232) (N.2 322)) 275 (nI i) = nI (b1 (tr i)) := by rw [gI_a, nI_clamp (by omega)]; exact hc i hi
    have gZ : mz_gZ (prc N a d (N.1 274) (N.1 275) l (N.1 232) (N.2 322)) 275 (nI i) = tr i := by
      show decide (mz_gI (prc N a d (N.1 274) (N.1 275) l (N.1 232) (N.2 322)) 275 (nI i) = 1) = tr i
      rw [gz]; cases tr i <;> rfl
    have z01 : mz_z01 (mz_gI (prc N a d (N.1 274) (N.1 275) l (N.1 232) (N.2 322)) 275 (nI i)) := by rw [gz]; cases tr i; exact Or.inl rfl; exact Or.inr rfl
    have go : ∃ a' d' l', (nI (i + 1), prc N (upd a i (nI (L0 i))) (upd d i 0) (N.1 274) (N.1 275) (upd l i (mz_b01 (!(tr i)))) (N.1 232) (N.2 322)) = (nI (i + 1), prc N a' d' (N.1 274) (N.1 275) l' (N.1 232) (N.2 322)) ∧ ∀ j, j < i + 1 → a' j = nI (L0 j) ∧ d' j = 0 ∧ l' j = mz_b01 (!(tr j)) := by
      refine ⟨_, _, _, rfl, fun j hj => ?_⟩
      by_cases w : j = i
      · subst w
        exact ⟨by rw [up_a, if_pos rfl], by rw [up_a, if_pos rfl], by rw [up_a, if_pos rfl]⟩
      · rw [up_a, if_neg w, up_a, if_neg w, up_a, if_neg w]; exact h1 j (by omega)
    rw [cd_518_2, cq_518_2]
    simp only [ll, if_true, gZ]
    cases ht : tr i with
    | true =>
      rw [ht] at k1 k2 go
      rw [if_pos rfl]
      exact ⟨⟨fun _ => ⟨i1, z01, fun _ => k1, fun q => absurd rfl q⟩, fun q => absurd trivial q⟩, Or.inl ⟨_, k2, go⟩⟩
    | false =>
      rw [ht] at k1 k2 go
      rw [if_neg Bool.false_ne_true]
      exact ⟨⟨fun _ => ⟨i1, z01, fun q => absurd q Bool.false_ne_true, fun _ => k1⟩, fun q => absurd trivial q⟩, Or.inl ⟨_, k2, go⟩⟩
  · rintro st ⟨a0, d0, l0, rfl, h1⟩
    have ll : ¬ nI 11 < 11 := by decide
    have hx0 : lsh a0 d0 (L0, fun _ => false) := fun j hj => ⟨(h1 j hj).1, by rw [(h1 j hj).2.1]; rfl⟩
    have hl0 : lvr l0 tr (fun _ => false) := fun j hj => by rw [(h1 j hj).2.2, Bool.not_false, Bool.and_true]
    rw [cd_518_2, cq_518_2]
    simp only [ll, if_false, rc_F]
    generalize hF0 : upd (N.1 232) 65 (mz_b01 false) = F0
    have f52 : F0 52 = mz_b01 mn := by rw [← hF0]; exact hmn
    have f53 : F0 53 = nI fu := by rw [← hF0]; exact hfu
    have f54 : F0 54 = nI ch := by rw [← hF0]; exact hch
    have f55 : F0 55 = nI wo := by rw [← hF0]; exact hwo
    have fj : ∀ j, j ≠ 65 → F0 j = N.1 232 j := fun j hj => by rw [← hF0, up_a, if_neg hj]
    have r54 : (prc N a0 d0 (N.1 274) (N.1 275) l0 F0 (N.2 322)).1 232 54 = nI ch := f54
    have r55 : (prc N a0 d0 (N.1 274) (N.1 275) l0 F0 (N.2 322)).1 232 55 = nI wo := f55
    have r53 : (prc N a0 d0 (N.1 274) (N.1 275) l0 F0 (N.2 322)).1 232 53 = nI fu := f53
    have z52 : mz_z01 ((prc N a0 d0 (N.1 274) (N.1 275) l0 F0 (N.2 322)).1 232 52) := by
      show mz_z01 (F0 52)
      rw [f52]; cases mn; exact Or.inl rfl; exact Or.inr rfl
    have zf : mz_fZ (prc N a0 d0 (N.1 274) (N.1 275) l0 F0 (N.2 322)) 232 52 = mn := by
      show decide (F0 52 = 1) = mn
      rw [f52]; cases mn <;> rfl
    rw [zf, r54, r55, r53]
    cases mn with
    | true =>
      have m28 : ∀ s : Int32, s = nI (min 3000 (ch + 30)) → cp_518_228 s (prc N a0 d0 (N.1 274) (N.1 275) l0 F0 (N.2 322)) ∧ ∃ a d b c l F m, cf_518_228 s (prc N a0 d0 (N.1 274) (N.1 275) l0 F0 (N.2 322)) = prc N a d b c l F m ∧ lsh a d (pwx k L0 true fit ch fu wo).1 ∧ lvr l tr (pwx k L0 true fit ch fu wo).1.2 ∧ (∀ j, j < 11 → b j = nI (htn ((pwx k L0 true fit ch fu wo).1.1 j) (r j) (h j)) ∧ c j = nI (b1 (tr j || decide (50 ≤ htn ((pwx k L0 true fit ch fu wo).1.1 j) (r j) (h j)))) ∧ m j = N.2 322 j + lN ((pwx k L0 true fit ch fu wo).1.1 j)) ∧ F 54 = nI (pwx k L0 true fit ch fu wo).2.2.2.2 ∧ F 53 = nI (pwx k L0 true fit ch fu wo).2.2.1 ∧ F 55 = nI (pwx k L0 true fit ch fu wo).2.2.2.1 ∧ F 65 = mz_b01 (pwx k L0 true fit ch fu wo).2.1 ∧ ∀ j, j ≠ 53 → j ≠ 54 → j ≠ 55 → j ≠ 65 → F j = N.1 232 j := fun s hs => by
        rw [cp_518_228, cf_518_228, rc_F, rc_F]
        obtain ⟨c1, b', c', m', c2, c3⟩ := circ_r (N := N) (a := a0) (d := d0) (l := l0) (b0 := N.1 274) (c0 := N.1 275) (F := upd (upd F0 54 s) 55 0) (m0 := N.2 322) (x := (L0, fun _ => false)) (r := r) (h := h) (tr := tr) hx0 hL0 hrr hb hc
        refine ⟨c1, a0, d0, b', c', l0, _, m', c2, hx0, hl0, c3, hs, f53, rfl, by rw [← hF0]; rfl, fun j j3 j4 j5 j6 => ?_⟩
        rw [up_a, if_neg j5, up_a, if_neg j4]; exact fj j j6
      rw [if_pos rfl, show (30 : Int32) = nI 30 from rfl, nI_add]
      by_cases w : 3000 < ch + 30
      · have lw : (3000 : Int32) < nI (ch + 30) := (nI_ltI (a := 3000) (by omega) (by omega)).mpr w
        obtain ⟨k1, k2⟩ := m28 3000 (by rw [show min 3000 (ch + 30) = 3000 by omega]; rfl)
        rw [if_pos lw]
        exact ⟨⟨False.elim, fun _ => ⟨z52, fun _ => ⟨fun _ => k1, fun q => absurd lw q⟩, fun q => absurd rfl q⟩⟩, _, rfl, k2⟩
      · have lw : ¬ (3000 : Int32) < nI (ch + 30) := fun q => w ((nI_ltI (a := 3000) (by omega) (by omega)).mp q)
        obtain ⟨k1, k2⟩ := m28 (nI (ch + 30)) (by rw [show min 3000 (ch + 30) = ch + 30 by omega])
        rw [if_neg lw]
        exact ⟨⟨False.elim, fun _ => ⟨z52, fun _ => ⟨fun q => absurd q lw, fun _ => k1⟩, fun q => absurd rfl q⟩⟩, _, rfl, k2⟩
    | false =>
      rw [if_neg Bool.false_ne_true]
      have go : ∀ g : Bool, (g = true ↔ (2 ≤ wo ∧ 0 < fu ∧ fit = true)) → cp_518_269 g (prc N a0 d0 (N.1 274) (N.1 275) l0 F0 (N.2 322)) ∧ ∃ a d b c l F m, cf_518_269 g (prc N a0 d0 (N.1 274) (N.1 275) l0 F0 (N.2 322)) = prc N a d b c l F m ∧ lsh a d (pwx k L0 false fit ch fu wo).1 ∧ lvr l tr (pwx k L0 false fit ch fu wo).1.2 ∧ (∀ j, j < 11 → b j = nI (htn ((pwx k L0 false fit ch fu wo).1.1 j) (r j) (h j)) ∧ c j = nI (b1 (tr j || decide (50 ≤ htn ((pwx k L0 false fit ch fu wo).1.1 j) (r j) (h j)))) ∧ m j = N.2 322 j + lN ((pwx k L0 false fit ch fu wo).1.1 j)) ∧ F 54 = nI (pwx k L0 false fit ch fu wo).2.2.2.2 ∧ F 53 = nI (pwx k L0 false fit ch fu wo).2.2.1 ∧ F 55 = nI (pwx k L0 false fit ch fu wo).2.2.2.1 ∧ F 65 = mz_b01 (pwx k L0 false fit ch fu wo).2.1 ∧ ∀ j, j ≠ 53 → j ≠ 54 → j ≠ 55 → j ≠ 65 → F j = N.1 232 j := fun g g1 => by
        have epw : pwx k L0 false fit ch fu wo = (shd k ((if g = true then 150 else 0) + ch) 11 (L0, fun _ => false), g, (if g = true then fu - 1 else fu), wo + 1, ch - (sumN (shd k ((if g = true then 150 else 0) + ch) 11 (L0, fun _ => false)).1 11 - (if g = true then 150 else 0))) := by
          unfold pwx
          rw [if_neg Bool.false_ne_true]
          cases g with
          | true => rw [if_pos (g1.mp rfl), if_pos rfl, if_pos rfl]
          | false => rw [if_neg (fun q => by have := g1.mpr q; cases this), if_neg Bool.false_ne_true, if_neg Bool.false_ne_true]
        rw [epw]
        have z5 : ∀ F : Nat → Int32, F 65 = mz_b01 g → mz_z01 ((prc N a0 d0 (N.1 274) (N.1 275) l0 F (N.2 322)).1 232 65) ∧ mz_fZ (prc N a0 d0 (N.1 274) (N.1 275) l0 F (N.2 322)) 232 65 = g := fun F hF => by
          refine ⟨?_, ?_⟩
          · show mz_z01 (F 65)
            rw [hF]; cases g; exact Or.inl rfl; exact Or.inr rfl
          · show decide (F 65 = 1) = g
            rw [hF]; cases g <;> rfl
        have t89 : cp_518_289 (nI fu) g (prc N a0 d0 (N.1 274) (N.1 275) l0 (upd F0 65 (mz_b01 g)) (N.2 322)) ∧ ∃ a d b c l F m, cf_518_289 (nI fu) g (prc N a0 d0 (N.1 274) (N.1 275) l0 (upd F0 65 (mz_b01 g)) (N.2 322)) = prc N a d b c l F m ∧ lsh a d (shd k ((if g = true then 150 else 0) + ch) 11 (L0, fun _ => false)) ∧ lvr l tr (shd k ((if g = true then 150 else 0) + ch) 11 (L0, fun _ => false)).2 ∧ (∀ j, j < 11 → b j = nI (htn ((shd k ((if g = true then 150 else 0) + ch) 11 (L0, fun _ => false)).1 j) (r j) (h j)) ∧ c j = nI (b1 (tr j || decide (50 ≤ htn ((shd k ((if g = true then 150 else 0) + ch) 11 (L0, fun _ => false)).1 j) (r j) (h j)))) ∧ m j = N.2 322 j + lN ((shd k ((if g = true then 150 else 0) + ch) 11 (L0, fun _ => false)).1 j)) ∧ F 54 = nI (ch - (sumN (shd k ((if g = true then 150 else 0) + ch) 11 (L0, fun _ => false)).1 11 - (if g = true then 150 else 0))) ∧ F 53 = nI (if g = true then fu - 1 else fu) ∧ F 55 = nI (wo + 1) ∧ F 65 = mz_b01 g ∧ ∀ j, j ≠ 53 → j ≠ 54 → j ≠ 55 → j ≠ 65 → F j = N.1 232 j := by
          have efu : nI fu - mz_b01 g = nI (if g = true then fu - 1 else fu) := by
            cases g with
            | true =>
              have := (g1.mp rfl).2.1
              rw [if_pos rfl, show mz_b01 true = nI 1 from rfl, pk_sub (by omega)]
            | false => rw [if_neg Bool.false_ne_true, show mz_b01 false = 0 from rfl, Int32.sub_zero]
          rw [cp_518_289, cf_518_289, efu, rc_F]
          have e55 : (prc N a0 d0 (N.1 274) (N.1 275) l0 (upd (upd F0 65 (mz_b01 g)) 53 (nI (if g = true then fu - 1 else fu))) (N.2 322)).1 232 55 = nI wo := f55
          rw [e55, nI_1, rc_F]
          generalize hF2 : upd (upd (upd F0 65 (mz_b01 g)) 53 (nI (if g = true then fu - 1 else fu))) 55 (nI (wo + 1)) = F2
          have F2_65 : F2 65 = mz_b01 g := by rw [← hF2]; rfl
          have F2_54 : F2 54 = nI ch := by rw [← hF2]; exact f54
          obtain ⟨y1, y2⟩ := z5 F2 F2_65
          have t18 : ∀ gv : Nat, gv = (if g = true then 150 else 0) → cp_518_318 (nI gv) (prc N a0 d0 (N.1 274) (N.1 275) l0 F2 (N.2 322)) ∧ ∃ a d b c l F m, cf_518_318 (nI gv) (prc N a0 d0 (N.1 274) (N.1 275) l0 F2 (N.2 322)) = prc N a d b c l F m ∧ lsh a d (shd k (gv + ch) 11 (L0, fun _ => false)) ∧ lvr l tr (shd k (gv + ch) 11 (L0, fun _ => false)).2 ∧ (∀ j, j < 11 → b j = nI (htn ((shd k (gv + ch) 11 (L0, fun _ => false)).1 j) (r j) (h j)) ∧ c j = nI (b1 (tr j || decide (50 ≤ htn ((shd k (gv + ch) 11 (L0, fun _ => false)).1 j) (r j) (h j)))) ∧ m j = N.2 322 j + lN ((shd k (gv + ch) 11 (L0, fun _ => false)).1 j)) ∧ F 54 = nI (ch - (sumN (shd k (gv + ch) 11 (L0, fun _ => false)).1 11 - gv)) ∧ F 53 = nI (if g = true then fu - 1 else fu) ∧ F 55 = nI (wo + 1) ∧ F 65 = mz_b01 g ∧ ∀ j, j ≠ 53 → j ≠ 54 → j ≠ 55 → j ≠ 65 → F j = N.1 232 j := fun gv hgv => by
            obtain ⟨s1, a', d', l', s2, s3, s4⟩ := shed_r (N := N) (b := N.1 274) (c := N.1 275) (F := F2) (m := N.2 322) (k := k) (tr := tr) (gv := gv) (ch := ch) hk hch2 (by rw [hgv]; split <;> omega) F2_54 11 a0 d0 l0 (L0, fun _ => false) hx0 hl0 hL0 (npo_le _)
            have s2' : cf_520_0 (nI gv) (prc N a0 d0 (N.1 274) (N.1 275) l0 F2 (N.2 322)) = _ := s2
            have hLX := shd_le (k := k) (lm := gv + ch) 11 (L0, fun _ => false) hL0
            obtain ⟨c1, b', c', m', c2, c3⟩ := circ_r (N := N) (a := a') (d := d') (l := l') (b0 := N.1 274) (c0 := N.1 275) (F := upd F2 54 (nI (ch - (sumN (shd k (gv + ch) 11 (L0, fun _ => false)).1 11 - gv)))) (m0 := N.2 322) (x := shd k (gv + ch) 11 (L0, fun _ => false)) (r := r) (h := h) (tr := tr) s3 hLX hrr hb hc
            rw [cp_518_318, cf_518_318, s2', c2]
            refine ⟨⟨s1, c1⟩, a', d', b', c', l', _, m', rfl, s3, s4, c3, rfl, ?_, ?_, ?_, fun j j3 j4 j5 j6 => ?_⟩
            · rw [up_a, if_neg (by decide), ← hF2]; rfl
            · rw [up_a, if_neg (by decide), ← hF2]; rfl
            · rw [up_a, if_neg (by decide)]; exact F2_65
            · rw [up_a, if_neg j4, ← hF2, up_a, if_neg j5, up_a, if_neg j3, up_a, if_neg j6]; exact fj j j6
          rw [y2]
          cases g with
          | true =>
            obtain ⟨k1, k2⟩ := t18 150 rfl
            rw [if_pos rfl]
            exact ⟨⟨y1, fun _ => k1, fun q => absurd rfl q⟩, k2⟩
          | false =>
            obtain ⟨k1, k2⟩ := t18 0 rfl
            rw [if_neg Bool.false_ne_true]
            exact ⟨⟨y1, fun q => absurd q Bool.false_ne_true, fun _ => k1⟩, k2⟩
        obtain ⟨y1, y2⟩ := z5 (upd F0 65 (mz_b01 g)) rfl
        have e53 : (prc N a0 d0 (N.1 274) (N.1 275) l0 (upd F0 65 (mz_b01 g)) (N.2 322)).1 232 53 = nI fu := f53
        rw [cp_518_269, cf_518_269, rc_F, y2, e53]
        cases g with
        | true =>
          rw [if_pos rfl]
          exact ⟨⟨y1, fun _ => t89.1, fun q => absurd rfl q⟩, t89.2⟩
        | false =>
          rw [if_neg Bool.false_ne_true]
          exact ⟨⟨y1, fun q => absurd q Bool.false_ne_true, fun _ => t89.1⟩, t89.2⟩
      have lw : nI wo < 2 ↔ wo < 2 := nI_ltI (b := 2) (by omega) (by omega)
      have lf : 0 < nI fu ↔ 0 < fu := nI_gt0 (by omega)
      have g7 : mz_gI (prc N a0 d0 (N.1 274) (N.1 275) l0 F0 (N.2 322)) 307 2 = nI (b1 (!fit)) := hfit
      have gZ : mz_gZ (prc N a0 d0 (N.1 274) (N.1 275) l0 F0 (N.2 322)) 307 2 = !fit := by
        show decide (mz_gI (prc N a0 d0 (N.1 274) (N.1 275) l0 F0 (N.2 322)) 307 2 = 1) = !fit
        rw [g7]; cases fit <;> rfl
      have z7 : mz_z01 (mz_gI (prc N a0 d0 (N.1 274) (N.1 275) l0 F0 (N.2 322)) 307 2) := by rw [g7]; cases fit; exact Or.inr rfl; exact Or.inl rfl
      rw [gZ, cf_518_268]
      have pre : ∀ {A Z : Prop}, Z → ((False → A) ∧ (¬ False → mz_z01 ((prc N a0 d0 (N.1 274) (N.1 275) l0 F0 (N.2 322)).1 232 52) ∧ ((false = true → (3000 < nI ch + 30 → cp_518_228 3000 (prc N a0 d0 (N.1 274) (N.1 275) l0 F0 (N.2 322))) ∧ (¬ 3000 < nI ch + 30 → cp_518_228 (nI ch + 30) (prc N a0 d0 (N.1 274) (N.1 275) l0 F0 (N.2 322)))) ∧ (¬ false = true → Z)))) := fun z => ⟨False.elim, fun _ => ⟨z52, fun q => absurd q Bool.false_ne_true, fun _ => z⟩⟩
      by_cases w1 : wo < 2
      · obtain ⟨k1, k2⟩ := go false ⟨fun q => (by cases q), fun q => by omega⟩
        rw [if_pos (lw.mpr w1)]
        exact ⟨pre ⟨fun _ => k1, fun q => absurd (lw.mpr w1) q⟩, _, rfl, k2⟩
      · rw [if_neg (fun q => w1 (lw.mp q))]
        by_cases w2 : 0 < fu
        · rw [if_pos (lf.mpr w2)]
          cases fit with
          | true =>
            obtain ⟨k1, k2⟩ := go true ⟨fun _ => ⟨by omega, w2, rfl⟩, fun _ => rfl⟩
            rw [if_neg (show ¬ (!true) = true by decide)]
            exact ⟨pre ⟨fun q => absurd (lw.mp q) w1, fun _ => ⟨fun _ => ⟨z7, fun q => absurd q (by decide), fun _ => k1⟩, fun q => absurd (lf.mpr w2) q⟩⟩, _, rfl, k2⟩
          | false =>
            obtain ⟨k1, k2⟩ := go false ⟨fun q => (by cases q), fun q => (by cases q.2.2)⟩
            rw [if_pos (show (!false) = true from rfl)]
            exact ⟨pre ⟨fun q => absurd (lw.mp q) w1, fun _ => ⟨fun _ => ⟨z7, fun _ => k1, fun q => absurd rfl q⟩, fun q => absurd (lf.mpr w2) q⟩⟩, _, rfl, k2⟩
        · obtain ⟨k1, k2⟩ := go false ⟨fun q => (by cases q), fun q => absurd q.2.1 w2⟩
          rw [if_neg (fun q => w2 (lf.mp q))]
          exact ⟨pre ⟨fun q => absurd (lw.mp q) w1, fun _ => ⟨fun q => absurd (lf.mp q) w2, fun _ => k1⟩⟩, _, rfl, k2⟩
end Pwr3
