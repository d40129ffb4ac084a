/-! PURE (50zzn): water in the class, whole. -/
section Wwc
variable {N : mz_N} {e fl P : Nat → Nat} {hr tm co : Nat} {wa fit lv pu : Bool} {s : WtS}
theorem pump_c {h w F : Nat → Int32} {tk : Nat} {rd : Bool} (h8 : F 8 = mz_b01 wa) (h7 : F 7 = nI tk) (htk : tk ≤ 2000) (h6 : F 6 = mz_b01 lv) : cp_232_0 rd (wmc N h w F) ∧ ∃ F', cf_232_0 rd (wmc N h w F) = wmc N h w F' ∧ F' 8 = mz_b01 (pmp wa (rd && lv) tk).1 ∧ F' 9 = mz_b01 (pmp wa (rd && lv) tk).2.1 ∧ F' 7 = nI (pmp wa (rd && lv) tk).2.2 ∧ ∀ j, j ≠ 7 → j ≠ 8 → j ≠ 9 → F' j = F j := by
  have zF : ∀ (G : Nat → Int32) (j : Nat) (y : Bool), G j = mz_b01 y → mz_z01 ((wmc N h w G).1 56 j) ∧ mz_fZ (wmc N h w G) 56 j = y := fun G j y hG => by
    refine ⟨?_, ?_⟩
    · show mz_z01 (G j)
      rw [hG]; cases y; exact Or.inl rfl; exact Or.inr rfl
    · show decide (G j = 1) = y
      rw [hG]; cases y <;> rfl
  have t50 : ∀ (y : Bool) (G : Nat → Int32), G 7 = nI tk → cp_232_50 y (wmc N h w G) ∧ ∃ F', cf_232_50 y (wmc N h w G) = wmc N h w F' ∧ F' 9 = mz_b01 y ∧ (y = true → F' 7 = nI (min 2000 (tk + 60)) ∧ F' 8 = mz_b01 (decide (min 2000 (tk + 60) < 2000))) ∧ (y = false → F' 7 = nI tk ∧ F' 8 = G 8) ∧ ∀ j, j ≠ 7 → j ≠ 8 → j ≠ 9 → F' j = G j := fun y G hG => by
    obtain ⟨z1, z2⟩ := zF (upd G 9 (mz_b01 y)) 9 y rfl
    have e7 : (wmc N h w (upd G 9 (mz_b01 y))).1 56 7 = nI tk := hG
    have em : mz_imin 2000 (nI tk + 60) = nI (min 2000 (tk + 60)) := by rw [show (60 : Int32) = nI 60 from rfl, nI_add]; exact imin_n (a := 2000) (by omega) (by omega)
    rw [cp_232_50, cf_232_50, wm_F, z2, e7, em, wm_F]
    cases y with
    | true =>
      have e77 : (wmc N h w (upd (upd G 9 (mz_b01 true)) 7 (nI (min 2000 (tk + 60))))).1 56 7 = nI (min 2000 (tk + 60)) := rfl
      rw [if_pos rfl, cp_232_77, cf_232_77, e77]
      by_cases v : min 2000 (tk + 60) < 2000
      · have lv' : nI (min 2000 (tk + 60)) < 2000 := (nI_ltI (b := 2000) (by omega) (by omega)).mpr v
        rw [if_pos lv', cf_232_93, wm_F]
        refine ⟨⟨z1, fun _ => ⟨fun _ => trivial, fun q => absurd lv' q⟩, fun q => absurd rfl q⟩, _, rfl, rfl, fun _ => ⟨rfl, by rw [decide_eq_true v]; rfl⟩, fun q => (by cases q), fun j a b c => ?_⟩
        rw [up_a, if_neg b, up_a, if_neg a, up_a, if_neg c]
      · have lv' : ¬ nI (min 2000 (tk + 60)) < 2000 := fun q => v ((nI_ltI (b := 2000) (by omega) (by omega)).mp q)
        rw [if_neg lv', cf_232_93, wm_F]
        refine ⟨⟨z1, fun _ => ⟨fun q => absurd q lv', fun _ => trivial⟩, fun q => absurd rfl q⟩, _, rfl, rfl, fun _ => ⟨rfl, by rw [decide_eq_false v]; rfl⟩, fun q => (by cases q), fun j a b c => ?_⟩
        rw [up_a, if_neg b, up_a, if_neg a, up_a, if_neg c]
    | false =>
      rw [if_neg Bool.false_ne_true]
      refine ⟨⟨z1, fun q => absurd q Bool.false_ne_true, fun _ => trivial⟩, _, rfl, rfl, fun q => (by cases q), fun _ => ⟨hG, rfl⟩, fun j a b c => ?_⟩
      rw [up_a, if_neg c]
  have t23 : ∀ y : Bool, y = (wa || decide (tk < 500)) → cp_232_23 y rd (wmc N h w F) ∧ ∃ F', cf_232_23 y rd (wmc N h w F) = wmc N h w F' ∧ F' 8 = mz_b01 (pmp wa (rd && lv) tk).1 ∧ F' 9 = mz_b01 (pmp wa (rd && lv) tk).2.1 ∧ F' 7 = nI (pmp wa (rd && lv) tk).2.2 ∧ ∀ j, j ≠ 7 → j ≠ 8 → j ≠ 9 → F' j = F j := fun y hy => by
    obtain ⟨z1, z2⟩ := zF (upd F 8 (mz_b01 y)) 8 y rfl
    obtain ⟨x1, x2⟩ := zF (upd F 8 (mz_b01 y)) 6 lv h6
    rw [cp_232_23, cf_232_23, wm_F, z2, x2]
    have non : ¬ ((wa || decide (tk < 500)) = true ∧ (rd && lv) = true) → cp_232_49 (wmc N h w (upd F 8 (mz_b01 y))) ∧ ∃ F', cf_232_49 (wmc N h w (upd F 8 (mz_b01 y))) = wmc N h w F' ∧ F' 8 = mz_b01 (pmp wa (rd && lv) tk).1 ∧ F' 9 = mz_b01 (pmp wa (rd && lv) tk).2.1 ∧ F' 7 = nI (pmp wa (rd && lv) tk).2.2 ∧ ∀ j, j ≠ 7 → j ≠ 8 → j ≠ 9 → F' j = F j := fun q => by
      have ep : pmp wa (rd && lv) tk = (wa || decide (tk < 500), false, tk) := by unfold pmp; rw [if_neg q]
      obtain ⟨k1, F', k2, k3, k4, k5, k6⟩ := t50 false (upd F 8 (mz_b01 y)) h7
      rw [cf_232_49, ep]
      refine ⟨k1, F', k2, ?_, k3, (k5 rfl).1, fun j a b c => ?_⟩
      · rw [(k5 rfl).2, ← hy]; rfl
      · rw [k6 j a b c, up_a, if_neg b]
    cases hyy : y with
    | true =>
      rw [hyy] at hy z1 non
      rw [hyy] at x1
      rw [if_pos rfl]
      cases rd with
      | true =>
        rw [if_pos rfl]
        cases lv with
        | true =>
          have ep : pmp wa (true && true) tk = (decide (min 2000 (tk + 60) < 2000), true, min 2000 (tk + 60)) := by unfold pmp; rw [if_pos ⟨hy.symm, rfl⟩]
          obtain ⟨k1, F', k2, k3, k4, k5, k6⟩ := t50 true (upd F 8 (mz_b01 true)) h7
          rw [if_pos rfl, ep]
          refine ⟨⟨z1, fun _ => ⟨fun _ => ⟨x1, fun _ => k1, fun q => absurd rfl q⟩, fun q => absurd rfl q⟩, fun q => absurd rfl q⟩, F', k2, (k4 rfl).2, k3, (k4 rfl).1, fun j a b c => ?_⟩
          rw [k6 j a b c, up_a, if_neg b]
        | false =>
          obtain ⟨k1, k2⟩ := non (fun q => absurd q.2 (by decide))
          rw [if_neg Bool.false_ne_true]
          exact ⟨⟨z1, fun _ => ⟨fun _ => ⟨x1, fun q => absurd q Bool.false_ne_true, fun _ => k1⟩, fun q => absurd rfl q⟩, fun q => absurd rfl q⟩, k2⟩
      | false =>
        obtain ⟨k1, k2⟩ := non (fun q => absurd q.2 (by rw [Bool.false_and]; decide))
        rw [if_neg Bool.false_ne_true]
        exact ⟨⟨z1, fun _ => ⟨fun q => absurd q Bool.false_ne_true, fun _ => k1⟩, fun q => absurd rfl q⟩, k2⟩
    | false =>
      rw [hyy] at hy z1 non
      obtain ⟨k1, k2⟩ := non (fun q => by rw [← hy] at q; exact absurd q.1 Bool.false_ne_true)
      rw [if_neg Bool.false_ne_true]
      exact ⟨⟨z1, fun q => absurd q Bool.false_ne_true, fun _ => k1⟩, k2⟩
  obtain ⟨z1, z2⟩ := zF F 8 wa h8
  have e7 : (wmc N h w F).1 56 7 = nI tk := h7
  have l5 : nI tk < 500 ↔ tk < 500 := nI_ltI (b := 500) (by omega) (by omega)
  rw [cp_232_0, cf_232_0, z2, e7]
  cases wa with
  | true =>
    obtain ⟨k1, k2⟩ := t23 true rfl
    rw [if_pos rfl, cf_232_18]
    exact ⟨⟨z1, fun _ => k1, fun q => absurd rfl q⟩, k2⟩
  | false =>
    rw [if_neg Bool.false_ne_true]
    by_cases v : tk < 500
    · obtain ⟨k1, k2⟩ := t23 true (by rw [decide_eq_true v]; rfl)
      rw [if_pos (l5.mpr v), cf_232_18]
      exact ⟨⟨z1, fun q => absurd q Bool.false_ne_true, fun _ => ⟨fun _ => k1, fun q => absurd (l5.mpr v) q⟩⟩, k2⟩
    · obtain ⟨k1, k2⟩ := t23 false (by rw [decide_eq_false v]; rfl)
      rw [if_neg (fun q => v (l5.mp q))]
      exact ⟨⟨z1, fun q => absurd q Bool.false_ne_true, fun _ => ⟨fun q => absurd (l5.mp q) v, fun _ => k1⟩⟩, k2⟩
/-- what water leaves: tank and the rest behind the draws -/
noncomputable def wtS (sd : Int64) (tm : Nat) (pn : Nat → Nat) (f : Nat) (s : WtS) : WtS := wtn (lts sd (lN tm) pn) f s
theorem wtS_s {sd : Int64} {tm f : Nat} {pn : Nat → Nat} {s : WtS} : wtS sd tm pn (f + 1) s = wt1 (lts sd (lN tm) pn f) (wtS sd tm pn f s) := rfl
theorem wtS_le {sd : Int64} {tm f : Nat} {pn : Nat → Nat} {s : WtS} (a : s.1 ≤ 2000) (b : s.2.1 ≤ 20000) : (wtS sd tm pn f s).1 ≤ 2000 ∧ (wtS sd tm pn f s).2.1 ≤ 20000 := wtn_le _ f s a b
theorem wat_c (hn : pl_n e ≤ 40) (h38 : ∀ j, j < 10 → N.1 38 j = nO (pl_n e) (pl_ht e fl j)) (h40 : ∀ j, j < 240 → N.1 40 j = nI (P j)) (hP : ∀ j, P j ≤ 20) (hhr : hr < 24) (htm : N.1 208 0 = nI tm) (htm2 : tm < 2 ^ 31) (h7 : N.1 56 7 = nI s.1) (hs1 : s.1 ≤ 2000) (h11 : N.1 56 11 = nI s.2.1) (hs2 : s.2.1 ≤ 20000) (hd : s.2.2 = false) (h8 : N.1 56 8 = mz_b01 wa) (h6 : N.1 56 6 = mz_b01 lv) (hpu : pu = decide (N.1 53 12 = 1)) (hfit : N.1 128 1 = nI (b1 (!fit))) (hco : N.1 56 12 = nI co) (hco2 : co < 2 ^ 30) :
    cp_229_0 (nI hr) N ∧ ∃ h w F, cf_229_0 (nI hr) N = wmc N h w F ∧ (∀ f, f < 10 → h f = nI (hot1 (lts (N.2 56 15) (lN tm) (pnt e fl P hr) f) (wtS (N.2 56 15) tm (pnt e fl P hr) f s)) ∧ w f = N.1 212 f + nI (tok1 (lts (N.2 56 15) (lN tm) (pnt e fl P hr) f) (wtS (N.2 56 15) tm (pnt e fl P hr) f s))) ∧ (∀ f, 10 ≤ f → w f = N.1 212 f) ∧
      F 11 = nI (wtS (N.2 56 15) tm (pnt e fl P hr) 10 s).2.1 ∧ F 10 = mz_b01 (wtS (N.2 56 15) tm (pnt e fl P hr) 10 s).2.2 ∧ F 8 = mz_b01 (pmp wa (pu && fit && lv) (wtS (N.2 56 15) tm (pnt e fl P hr) 10 s).1).1 ∧ F 9 = mz_b01 (pmp wa (pu && fit && lv) (wtS (N.2 56 15) tm (pnt e fl P hr) 10 s).1).2.1 ∧ F 7 = nI (pmp wa (pu && fit && lv) (wtS (N.2 56 15) tm (pnt e fl P hr) 10 s).1).2.2 ∧ F 12 = nI (if (wtS (N.2 56 15) tm (pnt e fl P hr) 10 s).2.1 < 5000 then co + 1 else 0) ∧ ∀ j, j ≠ 7 → j ≠ 8 → j ≠ 9 → j ≠ 10 → j ≠ 11 → j ≠ 12 → F j = N.1 56 j := by
  have hpn : ∀ f, pnt e fl P hr f ≤ 20 := fun f => by unfold pnt; split; exact hP _; omega
  have e0 : mz_pI N 56 10 (mz_b01 false) = wmc N (N.1 64) (N.1 212) (upd (N.1 56) 10 (mz_b01 false)) := by rw [← wm_F, wm_self]
  rw [cp_229_0, cf_229_0, e0]
  refine mz_lpn (f := cq_229_10 (nI hr)) (P := cd_229_10 (nI hr)) (Q := fun r => ∃ h w F, r = wmc N h w F ∧ (∀ f, f < 10 → h f = nI (hot1 (lts (N.2 56 15) (lN tm) (pnt e fl P hr) f) (wtS (N.2 56 15) tm (pnt e fl P hr) f s)) ∧ w f = N.1 212 f + nI (tok1 (lts (N.2 56 15) (lN tm) (pnt e fl P hr) f) (wtS (N.2 56 15) tm (pnt e fl P hr) f s))) ∧ (∀ f, 10 ≤ f → w f = N.1 212 f) ∧ F 11 = nI (wtS (N.2 56 15) tm (pnt e fl P hr) 10 s).2.1 ∧ F 10 = mz_b01 (wtS (N.2 56 15) tm (pnt e fl P hr) 10 s).2.2 ∧ F 8 = mz_b01 (pmp wa (pu && fit && lv) (wtS (N.2 56 15) tm (pnt e fl P hr) 10 s).1).1 ∧ F 9 = mz_b01 (pmp wa (pu && fit && lv) (wtS (N.2 56 15) tm (pnt e fl P hr) 10 s).1).2.1 ∧ F 7 = nI (pmp wa (pu && fit && lv) (wtS (N.2 56 15) tm (pnt e fl P hr) 10 s).1).2.2 ∧ F 12 = nI (if (wtS (N.2 56 15) tm (pnt e fl P hr) 10 s).2.1 < 5000 then co + 1 else 0) ∧ ∀ j, j ≠ 7 → j ≠ 8 → j ≠ 9 → j ≠ 10 → j ≠ 11 → j ≠ 12 → F j = N.1 56 j) 10 (fun i st => ∃ h w F, st = (nI i, wmc N h w F) ∧ (∀ f, f < i → h f = nI (hot1 (lts (N.2 56 15) (lN tm) (pnt e fl P hr) f) (wtS (N.2 56 15) tm (pnt e fl P hr) f s)) ∧ w f = N.1 212 f + nI (tok1 (lts (N.2 56 15) (lN tm) (pnt e fl P hr) f) (wtS (N.2 56 15) tm (pnt e fl P hr) f s))) ∧ (∀ f, i ≤ f → w f = N.1 212 f) ∧ F 7 = nI (wtS (N.2 56 15) tm (pnt e fl P hr) i s).1 ∧ F 11 = nI (wtS (N.2 56 15) tm (pnt e fl P hr) i s).2.1 ∧ F 10 = mz_b01 (wtS (N.2 56 15) tm (pnt e fl P hr) i s).2.2 ∧ ∀ j, j ≠ 7 → j ≠ 10 → j ≠ 11 → F j = N.1 56 j) ?_ ?_ (Nat.zero_le _) ⟨N.1 64, N.1 212, _, rfl, fun f hf => absurd hf (Nat.not_lt_zero _), fun _ _ => rfl, h7, h11, by show mz_b01 false = mz_b01 s.2.2; rw [hd], fun j a b c => by rw [up_a, if_neg b]⟩
  · rintro i st hi ⟨h, w, F, rfl, h1, h2, f7, f11, f10, fj⟩
    have l : nI i < 10 := (nI_ltI (b := 10) (by omega) (by omega)).mpr hi
    have i11 : mz_ib (nI i) 11 := ib_n (by omega) (by omega)
    obtain ⟨p1, p2⟩ := prs_c (N := wmc N h w F) (e := e) (fl := fl) (P := P) (hr := hr) (f := i) hn h38 h40 hhr hi
    have hw := wtS_le (sd := N.2 56 15) (tm := tm) (f := i) (pn := pnt e fl P hr) hs1 hs2
    obtain ⟨d1, F', d2, d3, d4, d5, d6⟩ := draw_c (N := N) (h := h) (w := w) (F := F) (i := i) (pn := pnt e fl P hr i) (tm := nI tm) (s := wtS (N.2 56 15) tm (pnt e fl P hr) i s) hi (hpn i) f7 hw.1 f11 hw.2 f10
    have el : decide (ltv (N.2 56 15) (nI tm).toInt64 (nI i) < 4 * nI (pnt e fl P hr i)) = lts (N.2 56 15) (lN tm) (pnt e fl P hr) i := by unfold lts; rw [nI_L htm2]
    rw [el] at d2 d3 d4 d5
    have et : (wmc N h w F).1 208 0 = nI tm := htm
    have gw : mz_gI (wmc N h w F) 212 (nI i) = N.1 212 i := by rw [gI_a, nI_clamp (by omega)]; exact h2 i (Nat.le_refl _)
    rw [cd_229_10, cq_229_10]
    simp only [l, if_true, p2, et, d2, gw, wm_w, nI_clamp (show i < 2 ^ 31 by omega), cf_229_54, nI_1]
    refine ⟨⟨fun _ => ⟨i11, p1, d1, i11, trivial⟩, fun q => absurd trivial q⟩, Or.inl ⟨_, rfl, _, _, F', rfl, fun f hf => ?_, fun f hf => ?_, by rw [wtS_s]; exact d3, by rw [wtS_s]; exact d4, by rw [wtS_s]; exact d5, fun j a b c => by rw [d6 j a b c]; exact fj j a b c⟩⟩
    · by_cases v : f = i
      · subst v
        exact ⟨by rw [up_a, if_pos rfl], by rw [up_a, if_pos rfl]⟩
      · rw [up_a, if_neg v, up_a, if_neg v]; exact h1 f (by omega)
    · rw [up_a, if_neg (by omega)]; exact h2 f (by omega)
  · rintro st ⟨h, w, F, rfl, h1, h2, f7, f11, f10, fj⟩
    have l : ¬ nI 10 < 10 := by decide
    have hw := wtS_le (sd := N.2 56 15) (tm := tm) (f := 10) (pn := pnt e fl P hr) hs1 hs2
    have key : ∀ rd : Bool, rd = (pu && fit) → cp_229_91 rd (wmc N h w F) ∧ ∃ F', cf_229_91 rd (wmc N h w F) = wmc N h w F' ∧ F' 11 = nI (wtS (N.2 56 15) tm (pnt e fl P hr) 10 s).2.1 ∧ F' 10 = mz_b01 (wtS (N.2 56 15) tm (pnt e fl P hr) 10 s).2.2 ∧ F' 8 = mz_b01 (pmp wa (pu && fit && lv) (wtS (N.2 56 15) tm (pnt e fl P hr) 10 s).1).1 ∧ F' 9 = mz_b01 (pmp wa (pu && fit && lv) (wtS (N.2 56 15) tm (pnt e fl P hr) 10 s).1).2.1 ∧ F' 7 = nI (pmp wa (pu && fit && lv) (wtS (N.2 56 15) tm (pnt e fl P hr) 10 s).1).2.2 ∧ F' 12 = nI (if (wtS (N.2 56 15) tm (pnt e fl P hr) 10 s).2.1 < 5000 then co + 1 else 0) ∧ ∀ j, j ≠ 7 → j ≠ 8 → j ≠ 9 → j ≠ 10 → j ≠ 11 → j ≠ 12 → F' j = N.1 56 j := fun rd hrd => by
      obtain ⟨k1, F2, k2, k3, k4, k5, k6⟩ := pump_c (N := N) (h := h) (w := w) (F := F) (wa := wa) (lv := lv) (rd := rd) (by rw [fj 8 (by decide) (by decide) (by decide)]; exact h8) f7 hw.1 (by rw [fj 6 (by decide) (by decide) (by decide)]; exact h6)
      rw [hrd] at k3 k4 k5
      have e11 : (wmc N h w F2).1 56 11 = nI (wtS (N.2 56 15) tm (pnt e fl P hr) 10 s).2.1 := by show F2 11 = _; rw [k6 11 (by decide) (by decide) (by decide)]; exact f11
      have e12 : (wmc N h w F2).1 56 12 = nI co := by show F2 12 = _; rw [k6 12 (by decide) (by decide) (by decide), fj 12 (by decide) (by decide) (by decide)]; exact hco
      rw [cp_229_91, cf_229_91, k2, e11, e12]
      have hb : (wtS (N.2 56 15) tm (pnt e fl P hr) 10 s).2.1 ≤ 20000 := hw.2
      generalize wtS (N.2 56 15) tm (pnt e fl P hr) 10 s = S at *
      by_cases v : S.2.1 < 5000
      · have lv' : nI S.2.1 < 5000 := (nI_ltI (b := 5000) (by omega) (by omega)).mpr v
        rw [if_pos lv', cf_229_124, wm_F, nI_1, if_pos v]
        exact ⟨⟨k1, fun _ => trivial, fun _ => trivial⟩, _, rfl, by rw [up_a, if_neg (by decide), k6 11 (by decide) (by decide) (by decide)]; exact f11, by rw [up_a, if_neg (by decide), k6 10 (by decide) (by decide) (by decide)]; exact f10, by rw [up_a, if_neg (by decide)]; exact k3, by rw [up_a, if_neg (by decide)]; exact k4, by rw [up_a, if_neg (by decide)]; exact k5, rfl, fun j a b c d e' g => by rw [up_a, if_neg g, k6 j a b c, fj j a d e']⟩
      · have lv' : ¬ nI S.2.1 < 5000 := fun q => v ((nI_ltI (b := 5000) (by omega) (by omega)).mp q)
        rw [if_neg lv', cf_229_124, wm_F, if_neg v]
        exact ⟨⟨k1, fun _ => trivial, fun _ => trivial⟩, _, rfl, by rw [up_a, if_neg (by decide), k6 11 (by decide) (by decide) (by decide)]; exact f11, by rw [up_a, if_neg (by decide), k6 10 (by decide) (by decide) (by decide)]; exact f10, by rw [up_a, if_neg (by decide)]; exact k3, by rw [up_a, if_neg (by decide)]; exact k4, by rw [up_a, if_neg (by decide)]; exact k5, rfl, fun j a b c d e' g => by rw [up_a, if_neg g, k6 j a b c, fj j a d e']⟩
    have ef : cf_224_0 1 (wmc N h w F) = fit := by
      rw [cf_224_0]
      show (if N.1 128 1 = 0 then true else false) = fit
      rw [hfit]; cases fit <;> rfl
    have i3 : cp_224_0 1 (wmc N h w F) := ib_n (k := 1) (by omega) (by omega)
    have wrap : ∀ rd : Bool, rd = (pu && fit) → ∃ h' w' F', cf_229_91 rd (wmc N h w F) = wmc N h' w' F' ∧ (∀ f, f < 10 → h' f = nI (hot1 (lts (N.2 56 15) (lN tm) (pnt e fl P hr) f) (wtS (N.2 56 15) tm (pnt e fl P hr) f s)) ∧ w' f = N.1 212 f + nI (tok1 (lts (N.2 56 15) (lN tm) (pnt e fl P hr) f) (wtS (N.2 56 15) tm (pnt e fl P hr) f s))) ∧ (∀ f, 10 ≤ f → w' f = N.1 212 f) ∧ F' 11 = nI (wtS (N.2 56 15) tm (pnt e fl P hr) 10 s).2.1 ∧ F' 10 = mz_b01 (wtS (N.2 56 15) tm (pnt e fl P hr) 10 s).2.2 ∧ F' 8 = mz_b01 (pmp wa (pu && fit && lv) (wtS (N.2 56 15) tm (pnt e fl P hr) 10 s).1).1 ∧ F' 9 = mz_b01 (pmp wa (pu && fit && lv) (wtS (N.2 56 15) tm (pnt e fl P hr) 10 s).1).2.1 ∧ F' 7 = nI (pmp wa (pu && fit && lv) (wtS (N.2 56 15) tm (pnt e fl P hr) 10 s).1).2.2 ∧ F' 12 = nI (if (wtS (N.2 56 15) tm (pnt e fl P hr) 10 s).2.1 < 5000 then co + 1 else 0) ∧ ∀ j, j ≠ 7 → j ≠ 8 → j ≠ 9 → j ≠ 10 → j ≠ 11 → j ≠ 12 → F' j = N.1 56 j := fun rd hrd => by
      obtain ⟨k1, F', k2, k3⟩ := key rd hrd
      exact ⟨h, w, F', k2, h1, h2, k3⟩
    rw [cd_229_10, cq_229_10]
    show ((nI 10 < 10 → _) ∧ (¬ nI 10 < 10 → (N.1 53 12 = 1 → cp_224_0 1 (wmc N h w F) ∧ (cf_224_0 1 (wmc N h w F) = true → cp_229_91 true (wmc N h w F)) ∧ (¬ cf_224_0 1 (wmc N h w F) = true → cp_229_90 (wmc N h w F))) ∧ (¬ N.1 53 12 = 1 → cp_229_90 (wmc N h w F)))) ∧ ∃ t, (if nI 10 < 10 then _ else (if N.1 53 12 = 1 then (if cf_224_0 1 (wmc N h w F) = true then Sum.inr (cf_229_91 true (wmc N h w F)) else Sum.inr (cf_229_90 (wmc N h w F))) else Sum.inr (cf_229_90 (wmc N h w F)))) = _ ∧ _
    rw [if_neg l, ef, cf_229_90]
    by_cases v : N.1 53 12 = 1
    · have hp : pu = true := by rw [hpu]; exact decide_eq_true v
      rw [if_pos v]
      cases fit with
      | true =>
        rw [if_pos rfl]
        exact ⟨⟨fun q => absurd q l, fun _ => ⟨fun _ => ⟨i3, fun _ => (key true (by rw [hp]; rfl)).1, fun q => absurd rfl q⟩, fun q => absurd v q⟩⟩, _, rfl, wrap true (by rw [hp]; rfl)⟩
      | false =>
        rw [if_neg Bool.false_ne_true]
        exact ⟨⟨fun q => absurd q l, fun _ => ⟨fun _ => ⟨i3, fun q => absurd q Bool.false_ne_true, fun _ => (key false (by rw [Bool.and_false])).1⟩, fun q => absurd v q⟩⟩, _, rfl, wrap false (by rw [Bool.and_false])⟩
    · have hp : pu = false := by rw [hpu]; exact decide_eq_false v
      rw [if_neg v]
      exact ⟨⟨fun q => absurd q l, fun _ => ⟨fun q => absurd q v, fun _ => (key false (by rw [hp]; rfl)).1⟩⟩, _, rfl, wrap false (by rw [hp]; rfl)⟩
end Wwc
