/-! PURE (50zzj): power in the reference. -/
def prc (N : mz_N) (a d b c l F : Nat → Int32) (m : Nat → Int64) : mz_N := (fun z => if z = 272 then a else if z = 273 then d else if z = 274 then b else if z = 275 then c else if z = 276 then l else if z = 232 then F else N.1 z, fun z => if z = 322 then m else N.2 z)
section Prc
variable {N : mz_N} {a d b c l F : Nat → Int32} {m : Nat → Int64} {i v : Int32} {w : Int64} {j : Nat}
theorem rc_w {z : Nat} {g : Nat → Int32} (h : z = 272 ∨ z = 273 ∨ z = 274 ∨ z = 275 ∨ z = 276 ∨ z = 232) : mz_sI (prc N a d b c l F m) z g = prc N (if z = 272 then g else a) (if z = 273 then g else d) (if z = 274 then g else b) (if z = 275 then g else c) (if z = 276 then g else l) (if z = 232 then g else F) m := by
  unfold mz_sI prc
  refine Prod.ext (funext fun y => ?_) rfl
  rcases h with rfl | rfl | rfl | rfl | rfl | rfl
  all_goals
    simp only
    by_cases h1 : y = 272
    · subst h1; rfl
    · by_cases h2 : y = 273
      · subst h2; rfl
      · by_cases h3 : y = 274
        · subst h3; rfl
        · by_cases h4 : y = 275
          · subst h4; rfl
          · by_cases h5 : y = 276
            · subst h5; rfl
            · by_cases h6 : y = 232
              · subst h6; rfl
              · simp [h1, h2, h3, h4, h5, h6]
theorem rc_72 : mz_wI (prc N a d b c l F m) 272 i v = prc N (upd a i.toNatClampNeg v) d b c l F m := by rw [wI_s, rc_w (Or.inl rfl)]; rfl
theorem rc_73 : mz_wI (prc N a d b c l F m) 273 i v = prc N a (upd d i.toNatClampNeg v) b c l F m := by rw [wI_s, rc_w (Or.inr (Or.inl rfl))]; rfl
theorem rc_74 : mz_wI (prc N a d b c l F m) 274 i v = prc N a d (upd b i.toNatClampNeg v) c l F m := by rw [wI_s, rc_w (Or.inr (Or.inr (Or.inl rfl)))]; rfl
theorem rc_75 : mz_wI (prc N a d b c l F m) 275 i v = prc N a d b (upd c i.toNatClampNeg v) l F m := by rw [wI_s, rc_w (Or.inr (Or.inr (Or.inr (Or.inl rfl))))]; rfl
theorem rc_76 : mz_wI (prc N a d b c l F m) 276 i v = prc N a d b c (upd l i.toNatClampNeg v) F m := by rw [wI_s, rc_w (Or.inr (Or.inr (Or.inr (Or.inr (Or.inl rfl)))))]; rfl
theorem rc_F : mz_pI (prc N a d b c l F m) 232 j v = prc N a d b c l (upd F j v) m := by rw [pI_s, rc_w (Or.inr (Or.inr (Or.inr (Or.inr (Or.inr rfl)))))]; rfl
theorem rc_m : mz_wL (prc N a d b c l F m) 322 i w = prc N a d b c l F (vp_updL m i.toNatClampNeg w) := by
  rw [wL_s]
  unfold mz_sL prc
  refine Prod.ext rfl (funext fun y => ?_)
  simp only
  by_cases h : y = 322
  · subst h; rfl
  · simp [h]
theorem rc_self : prc N (N.1 272) (N.1 273) (N.1 274) (N.1 275) (N.1 276) (N.1 232) (N.2 322) = N := by
  unfold prc
  refine Prod.ext (funext fun y => ?_) (funext fun y => ?_)
  · simp only
    by_cases h1 : y = 272
    · subst h1; rfl
    · by_cases h2 : y = 273
      · subst h2; rfl
      · by_cases h3 : y = 274
        · subst h3; rfl
        · by_cases h4 : y = 275
          · subst h4; rfl
          · by_cases h5 : y = 276
            · subst h5; rfl
            · by_cases h6 : y = 232
              · subst h6; rfl
              · simp [h1, h2, h3, h4, h5, h6]
  · simp only
    by_cases h : y = 322
    · subst h; rfl
    · simp [h]
end Prc
section Pwr2
variable {N : mz_N} {e fl P ar : Nat → Nat} {hr vn : Nat} {dk lm bo ra : Bool} {tr : Nat → Bool} {a d b c l F : Nat → Int32} {m : Nat → Int64}
theorem ld_r {i : Nat} (hi : i < 11) (hn : pl_n e ≤ 40) (h42 : ∀ j, j < 10 → N.1 242 j = nO (pl_n e) (pl_ht e fl j)) (h44 : ∀ j, j < 240 → N.1 244 j = nI (P j)) (hP : ∀ j, P j ≤ 20) (h43 : ∀ j, j < 10 → N.1 243 j = nI (ar j)) (hhr : hr < 24) (hdk : dk = decide (hr < 7 ∨ 18 ≤ hr)) (hlm : lm = decide (N.1 257 10 = 1)) (hvn : N.1 257 13 = nI vn) (hbo : bo = decide (0 < N.2 232 66)) (hra : F 64 = mz_b01 ra) :
    cp_518_22 (!(tr i)) (nI hr) (nI i) (prc N a d b c l F m) ∧ cf_518_22 (!(tr i)) (nI hr) (nI i) (prc N a d b c l F m) = .inl (nI (i + 1), prc N (upd a i (nI (ld0 (pnt e fl P hr) ar dk lm bo ra vn tr i))) (upd d i 0) b c (upd l i (mz_b01 (!(tr i)))) F m) := by
  have i11 : mz_ib (nI i) 11 := ib_n hi (by omega)
  have hpn : ∀ f, pnt e fl P hr f ≤ 20 := fun f => by unfold pnt; split; exact hP _; omega
  rw [cp_518_22, cf_518_22, rc_76, rc_73, nI_clamp (by omega), show mz_b01 false = 0 from rfl]
  generalize hl' : upd l i (mz_b01 (!(tr i))) = l'
  generalize hd' : upd d i 0 = d'
  have fin : ∀ s : Int32, s = nI (raw (pnt e fl P hr) ar dk lm bo ra vn i) → cp_518_165 s (nI hr) (nI i) (!(tr i)) (prc N a d' b c l' F m) ∧ cf_518_165 s (nI hr) (nI i) (!(tr i)) (prc N a d' b c l' F m) = .inl (nI (i + 1), prc N (upd a i (nI (ld0 (pnt e fl P hr) ar dk lm bo ra vn tr i))) d' b c l' F m) := fun s hs => by
    rw [cp_518_165, cf_518_165, ld0_raw]
    cases tr i with
    | true =>
      rw [if_neg (show ¬ (!true) = true by decide), cf_518_182, rc_72, nI_clamp (by omega), nI_1, if_pos rfl]
      exact ⟨⟨fun q => absurd q (by decide), fun _ => i11⟩, rfl⟩
    | false =>
      rw [if_pos (show (!false) = true from rfl), cf_518_182, rc_72, nI_clamp (by omega), nI_1, if_neg Bool.false_ne_true, hs]
      exact ⟨⟨fun _ => i11, fun q => absurd rfl q⟩, rfl⟩
  by_cases w : i < 10
  · have l10 : nI i < 10 := (nI_ltI (b := 10) (by omega) (by omega)).mpr w
    have n10 : ¬ nI i = 10 := fun q => by have := (nI_eq (b := 10) (by omega) (by omega)).mp q; omega
    have i10 : mz_ib (nI i) 10 := ib_n w (by omega)
    obtain ⟨p1, p2⟩ := prs_r (N := prc N a d' b c l' F m) (e := e) (fl := fl) (P := P) (hr := hr) (f := i) hn h42 h44 hhr w
    have hb := hpn i
    have lp0 : 0 < nI (pnt e fl P hr i) ↔ 0 < pnt e fl P hr i := nI_gt0 (by omega)
    have g43 : mz_gI (prc N a d' b c l' F m) 243 (nI i) = nI (ar i) := by rw [gI_a, nI_clamp (by omega)]; exact h43 i w
    have glm : (mz_gI (prc N a d' b c l' F m) 257 10 = 1) ↔ lm = true := by
      show (N.1 257 10 = 1) ↔ lm = true
      rw [hlm, decide_eq_true_eq]
    have m15 : 15 * nI (pnt e fl P hr i) = nI (15 * pnt e fl P hr i) := by rw [show (15 : Int32) = nI 15 from rfl, pk_mul]
    have m6 : 6 * nI (ar i) = nI (6 * ar i) := by rw [show (6 : Int32) = nI 6 from rfl, pk_mul]
    have er : raw (pnt e fl P hr) ar dk lm bo ra vn i = 15 * pnt e fl P hr i + (if 0 < pnt e fl P hr i ∧ dk = true ∧ lm = true then 6 * ar i else 0) := by unfold raw; rw [if_neg (by omega)]
    have no : ¬ (0 < pnt e fl P hr i ∧ dk = true ∧ lm = true) → cp_518_87 (nI hr) (nI i) (!(tr i)) (nI (pnt e fl P hr i)) (prc N a d' b c l' F m) ∧ cf_518_87 (nI hr) (nI i) (!(tr i)) (nI (pnt e fl P hr i)) (prc N a d' b c l' F m) = .inl (nI (i + 1), prc N (upd a i (nI (ld0 (pnt e fl P hr) ar dk lm bo ra vn tr i))) d' b c l' F m) := fun q => by
      obtain ⟨k1, k2⟩ := fin (nI (15 * pnt e fl P hr i) + 0) (by rw [er, if_neg q, Int32.add_zero, Nat.add_zero (15 * pnt e fl P hr i)])
      rw [cp_518_87, cf_518_87, cp_518_88, cf_518_88, if_neg n10, if_neg Bool.false_ne_true, cf_518_164, m15]
      exact ⟨⟨fun z => absurd z n10, fun _ => ⟨fun z => absurd z Bool.false_ne_true, fun _ => k1⟩⟩, k2⟩
    have yes : (0 < pnt e fl P hr i ∧ dk = true ∧ lm = true) → cp_518_88 true (nI hr) (nI i) (!(tr i)) (nI (pnt e fl P hr i)) (prc N a d' b c l' F m) ∧ cf_518_88 true (nI hr) (nI i) (!(tr i)) (nI (pnt e fl P hr i)) (prc N a d' b c l' F m) = .inl (nI (i + 1), prc N (upd a i (nI (ld0 (pnt e fl P hr) ar dk lm bo ra vn tr i))) d' b c l' F m) := fun q => by
      obtain ⟨k1, k2⟩ := fin (nI (15 * pnt e fl P hr i) + nI (6 * ar i)) (by rw [er, if_pos q, nI_add])
      rw [cp_518_88, cf_518_88, if_neg n10, if_pos rfl, cf_518_164, m15, g43, m6]
      exact ⟨⟨fun z => absurd z n10, fun _ => ⟨fun _ => ⟨i10, k1⟩, fun z => absurd rfl z⟩⟩, k2⟩
    have t72 : 0 < pnt e fl P hr i → dk = true → cp_518_72 (nI hr) (nI i) (!(tr i)) (nI (pnt e fl P hr i)) (prc N a d' b c l' F m) ∧ cf_518_72 (nI hr) (nI i) (!(tr i)) (nI (pnt e fl P hr i)) (prc N a d' b c l' F m) = .inl (nI (i + 1), prc N (upd a i (nI (ld0 (pnt e fl P hr) ar dk lm bo ra vn tr i))) d' b c l' F m) := fun q1 q2 => by
      rw [cp_518_72, cf_518_72]
      by_cases v : lm = true
      · obtain ⟨k1, k2⟩ := yes ⟨q1, q2, v⟩
        rw [if_pos (glm.mpr v)]
        exact ⟨⟨fun _ => k1, fun z => absurd (glm.mpr v) z⟩, k2⟩
      · obtain ⟨k1, k2⟩ := no (fun q => v q.2.2)
        rw [if_neg (fun q => v (glm.mp q))]
        exact ⟨⟨fun z => absurd (glm.mp z) v, fun _ => k1⟩, k2⟩
    have t53 : cp_518_53 (nI (pnt e fl P hr i)) (nI hr) (nI i) (!(tr i)) (prc N a d' b c l' F m) ∧ cf_518_53 (nI (pnt e fl P hr i)) (nI hr) (nI i) (!(tr i)) (prc N a d' b c l' F m) = .inl (nI (i + 1), prc N (upd a i (nI (ld0 (pnt e fl P hr) ar dk lm bo ra vn tr i))) d' b c l' F m) := by
      rw [cp_518_53, cf_518_53]
      by_cases v1 : 0 < pnt e fl P hr i
      · rw [if_pos (lp0.mpr v1)]
        by_cases v2 : hr < 7
        · have l2 : nI hr < 7 := (nI_ltI (b := 7) (by omega) (by omega)).mpr v2
          obtain ⟨k1, k2⟩ := t72 v1 (by rw [hdk]; exact decide_eq_true (Or.inl v2))
          rw [if_pos l2]
          exact ⟨⟨fun _ => ⟨fun _ => k1, fun z => absurd l2 z⟩, fun z => absurd (lp0.mpr v1) z⟩, k2⟩
        · have l2 : ¬ nI hr < 7 := fun q => v2 ((nI_ltI (b := 7) (by omega) (by omega)).mp q)
          rw [if_neg l2]
          by_cases v3 : hr < 18
          · have l3 : nI hr < 18 := (nI_ltI (b := 18) (by omega) (by omega)).mpr v3
            obtain ⟨k1, k2⟩ := no (fun q => by have := q.2.1; rw [hdk, decide_eq_false (by omega)] at this; cases this)
            rw [if_pos l3]
            exact ⟨⟨fun _ => ⟨fun z => absurd z l2, fun _ => ⟨fun _ => k1, fun z => absurd l3 z⟩⟩, fun z => absurd (lp0.mpr v1) z⟩, k2⟩
          · have l3 : ¬ nI hr < 18 := fun q => v3 ((nI_ltI (b := 18) (by omega) (by omega)).mp q)
            obtain ⟨k1, k2⟩ := t72 v1 (by rw [hdk]; exact decide_eq_true (by omega))
            rw [if_neg l3]
            exact ⟨⟨fun _ => ⟨fun z => absurd z l2, fun _ => ⟨fun z => absurd z l3, fun _ => k1⟩⟩, fun z => absurd (lp0.mpr v1) z⟩, k2⟩
      · obtain ⟨k1, k2⟩ := no (fun q => v1 q.1)
        rw [if_neg (fun q => v1 (lp0.mp q))]
        exact ⟨⟨fun z => absurd (lp0.mp z) v1, fun _ => k1⟩, k2⟩
    rw [if_pos l10, p2]
    exact ⟨⟨i11, i11, fun _ => ⟨p1, t53.1⟩, fun z => absurd l10 z⟩, t53.2⟩
  · have ei : i = 10 := by omega
    subst ei
    have l10 : ¬ nI 10 < 10 := by decide
    have er : raw (pnt e fl P hr) ar dk lm bo ra vn 10 = 20 + 5 * vn + (if bo = true then 30 else 0) + (if ra = true then 40 else 0) := rfl
    have g13 : mz_gI (prc N a d' b c l' F m) 257 13 = nI vn := hvn
    have z64 : mz_z01 ((prc N a d' b c l' F m).1 232 64) := by
      show mz_z01 (F 64)
      rw [hra]; cases ra; exact Or.inl rfl; exact Or.inr rfl
    have f64 : mz_fZ (prc N a d' b c l' F m) 232 64 = ra := by
      show decide (F 64 = 1) = ra
      rw [hra]; cases ra <;> rfl
    have key : ∀ w : Int32, w = (if bo = true then 30 else 0) → cp_518_123 (20 + 5 * nI vn) w (nI hr) (nI 10) (!(tr 10)) (prc N a d' b c l' F m) ∧ cf_518_123 (20 + 5 * nI vn) w (nI hr) (nI 10) (!(tr 10)) (prc N a d' b c l' F m) = .inl (nI (10 + 1), prc N (upd a 10 (nI (ld0 (pnt e fl P hr) ar dk lm bo ra vn tr 10))) d' b c l' F m) := fun w hw => by
      have ev : ∀ x : Int32, x = (if ra = true then 40 else 0) → 20 + 5 * nI vn + w + x = nI (raw (pnt e fl P hr) ar dk lm bo ra vn 10) := fun x hx => by
        have e1 : (if bo = true then (30 : Int32) else 0) = nI (if bo = true then 30 else 0) := by cases bo <;> rfl
        have e2 : (if ra = true then (40 : Int32) else 0) = nI (if ra = true then 40 else 0) := by cases ra <;> rfl
        rw [er, hx, hw, e1, e2, show (20 : Int32) = nI 20 from rfl, show (5 : Int32) = nI 5 from rfl, pk_mul, nI_add, nI_add, nI_add]
      rw [cp_518_123, cf_518_123, f64]
      cases ra with
      | true =>
        obtain ⟨k1, k2⟩ := fin (20 + 5 * nI vn + w + 40) (ev 40 rfl)
        rw [if_pos rfl, cf_518_137]
        exact ⟨⟨z64, fun _ => k1, fun z => absurd rfl z⟩, k2⟩
      | false =>
        obtain ⟨k1, k2⟩ := fin (20 + 5 * nI vn + w + 0) (ev 0 rfl)
        rw [if_neg Bool.false_ne_true, cf_518_137]
        exact ⟨⟨z64, fun z => absurd z Bool.false_ne_true, fun _ => k1⟩, k2⟩
    have t88 : cp_518_88 false (nI hr) (nI 10) (!(tr 10)) 0 (prc N a d' b c l' F m) ∧ cf_518_88 false (nI hr) (nI 10) (!(tr 10)) 0 (prc N a d' b c l' F m) = .inl (nI (10 + 1), prc N (upd a 10 (nI (ld0 (pnt e fl P hr) ar dk lm bo ra vn tr 10))) d' b c l' F m) := by
      rw [cp_518_88, cf_518_88, if_pos (show nI 10 = 10 from rfl), g13]
      show ((_ → (0 < N.2 232 66 → _) ∧ (¬ 0 < N.2 232 66 → _)) ∧ _) ∧ (if 0 < N.2 232 66 then _ else _) = _
      by_cases v : 0 < N.2 232 66
      · obtain ⟨k1, k2⟩ := key 30 (by rw [hbo, decide_eq_true v]; rfl)
        rw [if_pos v]
        exact ⟨⟨fun _ => ⟨fun _ => k1, fun z => absurd v z⟩, fun z => absurd (show nI 10 = 10 from rfl) z⟩, k2⟩
      · obtain ⟨k1, k2⟩ := key 0 (by rw [hbo, decide_eq_false v]; rfl)
        rw [if_neg v]
        exact ⟨⟨fun _ => ⟨fun z => absurd z v, fun _ => k1⟩, fun z => absurd (show nI 10 = 10 from rfl) z⟩, k2⟩
    have l0 : ¬ (0 : Int32) < 0 := by decide
    rw [if_neg l10, cp_518_53, cf_518_53, if_neg l0, cf_518_87]
    refine ⟨⟨i11, i11, fun z => absurd z l10, fun _ => ?_⟩, t88.2⟩
    rw [cp_518_53]
    exact ⟨fun z => absurd z l0, fun _ => t88.1⟩
end Pwr2
