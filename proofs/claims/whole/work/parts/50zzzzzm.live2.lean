/-! PURE (50zzzzzm): calls that change something that only lives: mains, fuel, reset, ignite, crash. -/
section Lv
variable {N N1 N2 M1 M2 : mz_N} {b : Bool} {B q : Nat} {s : st_S} {D H : Kp} {x : CrS} {L : LvS} {R R' : RsS} {v v1 v2 v3 : Int32} {u : SuS}
/-- the end of a call that leaves the rest alone -/
theorem up_f {p C : Nat} {L' : LvS} (h1 : p ≤ q) (h2 : C ≤ B) (mr : MR p C s D H x L' M1 b M2) (rs : RsR H L R N1 N2) (f : rsF N1 N2 M1 M2) (hs : L'.S = L.S) (hR : L'.R = L.R) (h5 : R.lg ≤ q) (h6 : 1 ≤ p) : Up q B M1 b M2 :=
  ⟨p, C, s, D, H, x, L', R, h1, h2, mr, RsR_f rs f (fun _ _ z => z) rfl rfl hs (by rw [hR]; exact rs.pn), h5, h6⟩
theorem rsI_ne {f g : Nat} (hf : rsI.contains f = true) (hg : rsI.contains g = false) : f ≠ g := fun z => by rw [z, hg] at hf; cases hf
theorem suC_p {i : Nat} {c : Int32} (h : suC N1 u) (h1 : i ≠ 6 → i ≠ 10 → False) : suC (mz_pI N1 56 i c) u := suC_f h (fun f h6 h10 => by
  rw [pI_s, sI_e, up_a, if_neg (fun z => h1 (by rw [← z]; exact h6) (by rw [← z]; exact h10))])
theorem fuel_al (h : Sm q B N1 b N2) : cp_281_0 v1 N1 ∧ cp_549_0 v1 N2 ∧ cal q B b N1 N2 (cf_281_0 v1 N1) (cf_549_0 v1 N2) := by
  obtain ⟨p1, c1⟩ := in_l 0 1000 (by omega) (by omega) v1 (w0 := 0) (w := 1000) (g0 := 0) (g := 1000) rfl rfl rfl rfl
  rcases h with h | h
  · obtain ⟨w1, w2⟩ := Sm_u h
    obtain ⟨u1, u2⟩ := c104_u w1
    obtain ⟨F1, F2⟩ := f462_u (a := true) (st := true) w2
    have F2' : cf_462_0 true true N2 = (false, mz_pI N2 232 0 0) := F2
    obtain ⟨F3, F4⟩ := f462_u (a := false) (st := true) w2
    have F4' : cf_462_0 false true N2 = (true, mz_pI N2 232 0 1) := F4
    obtain ⟨p, C, s, D, H, x, L, R, h1, h2, h3, h4, h5, h6⟩ := id h
    rcases c1 with ⟨a, _, ha, rfl, i1, j1⟩ | ⟨i1, j1⟩
    · obtain ⟨a1, a2, a3, a4, a5, a6, a7, a8, a9, a10, a11⟩ := h3.lr.sc
      obtain ⟨b1', b2, b3, b4, b5, b6, b7, b8, b9, b10, b11⟩ := h3.lr.sr
      obtain ⟨d1, d2, d3, d4, d5, d6, d7⟩ := h3.lr.sb
      have b2' : (mz_pI N2 232 0 0).1 232 53 = nI L.u.fu := b2
      have m1 : mz_imin 1000 (nI L.u.fu + nI a) = nI (min 1000 (L.u.fu + a)) := by rw [nI_add, show (1000 : Int32) = nI 1000 from rfl, imin_n (by omega) (by omega)]
      have m2 : (1000 < nI L.u.fu + nI a) = (1000 < L.u.fu + a) := by rw [nI_add]; exact propext (nI_ltI (a := 1000) (by omega) (by omega))
      generalize hM1 : mz_pI N1 56 2 (nI (min 1000 (L.u.fu + a))) = M1
      generalize hM2 : mz_pI (mz_pI N2 232 0 0) 232 53 (nI (min 1000 (L.u.fu + a))) = M2
      have f1 : fq [56] [] N1 M1 := by rw [← hM1]; exact fq_pI (fq_refl _ _ _) rfl
      have f2 : fq [232] [] N2 M2 := by rw [← hM2]; exact fq_pI (fq_pI (fq_refl _ _ _) rfl) rfl
      have j1' : ∀ f, f ≠ 2 → M1.1 56 f = N1.1 56 f := fun f hf => by rw [← hM1, pI_s, sI_e, up_a, if_neg hf]
      have j2 : ∀ f, f ≠ 53 → f ≠ 0 → M2.1 232 f = N2.1 232 f := fun f h1 h2 => by rw [← hM2, pI_s, sI_e, up_a, if_neg h1, pI_s, sI_e, up_a, if_neg h2]
      have z1 : M1.1 56 2 = nI (min 1000 (L.u.fu + a)) := by rw [← hM1, pI_s, sI_e, up_a, if_pos rfl]
      have z2 : M2.1 232 53 = nI (min 1000 (L.u.fu + a)) := by rw [← hM2, pI_s, sI_e, up_a, if_pos rfl]
      have h0 : M2.1 232 0 = 0 := by rw [← hM2, pI_s, sI_e, up_a, if_neg (by decide)]; exact code_0
      have mr := MR_su (u := (L.u.ch, min 1000 (L.u.fu + a), L.u.wo, L.u.tk, L.u.st, L.u.co, L.u.bo, L.u.mn, L.u.en, L.u.wa, L.u.ra)) h3 f1 f2 (fun f h0 h5 => j2 f (by omega) h0) ⟨by rw [j1' 1 (by decide)]; exact a1, z1, by rw [j1' 3 (by decide)]; exact a3, by rw [j1' 7 (by decide)]; exact a4, by rw [j1' 11 (by decide)]; exact a5, by rw [j1' 12 (by decide)]; exact a6, by rw [j1' 13 (by decide)]; exact a7, by rw [j1' 4 (by decide)]; exact a8, by rw [j1' 5 (by decide)]; exact a9, by rw [j1' 8 (by decide)]; exact a10, by rw [j1' 9 (by decide)]; exact a11⟩ ⟨by rw [j2 54 (by decide) (by decide)]; exact b1', z2, by rw [j2 55 (by decide) (by decide)]; exact b3, by rw [j2 61 (by decide) (by decide)]; exact b4, by rw [j2 62 (by decide) (by decide)]; exact b5, by rw [f2.2 232 rfl]; exact b6, by rw [f2.2 232 rfl]; exact b7, by rw [j2 52 (by decide) (by decide)]; exact b8, by rw [j2 65 (by decide) (by decide)]; exact b9, by rw [j2 63 (by decide) (by decide)]; exact b10, by rw [j2 64 (by decide) (by decide)]; exact b11⟩ ⟨d1, Nat.min_le_left _ _, d3, d4, d5, d6, d7⟩
      have e1 : cf_281_0 (nI a) N1 = (0, nI (min 1000 (L.u.fu + a)), M1) := by simp [cf_281_0, u2, i1, a2, m1, hM1, z1]
      have e2 : cf_549_0 (nI a) N2 = (nI (min 1000 (L.u.fu + a)), M2) := by
        by_cases w : 1000 < L.u.fu + a
        · have w0 : (1000 < L.u.fu + a) = True := eq_true w
          have e : nI (min 1000 (L.u.fu + a)) = 1000 := by rw [Nat.min_eq_left (by omega)]; rfl
          rw [e] at hM2 z2 ⊢
          simp [cf_549_0, cf_549_44, j1, F2', b2', m2, w0, hM2, z2]
        · have w0 : (1000 < L.u.fu + a) = False := eq_false w
          have e : nI (min 1000 (L.u.fu + a)) = nI L.u.fu + nI a := by rw [Nat.min_eq_right (by omega), nI_add]
          rw [e] at hM2 z2 ⊢
          simp [cf_549_0, cf_549_44, j1, F2', b2', m2, w0, hM2, z2]
      refine ⟨by simp [cp_281_0, u1, u2, p1], by simp [cp_549_0, cp_549_44, j1, F1, F2'], ?_⟩
      rw [e1, e2]
      exact cal_u h0 rfl (oF_q f1 f2 rfl rfl rfl rfl) (up_f h1 h2 mr h4 (rsF_q f1 f2 rfl rfl rfl (fun f hf => j2 f (rsI_ne hf rfl) (rsI_ne hf rfl))) rfl rfl h5 h6)
    · exact ⟨by simp [cp_281_0, u1, u2, p1], by simp [cp_549_0, j1, F3, F4'], Sm_r (a := 0) (a' := 0) (Or.inl h) (Or.inl rfl) (by simp [cf_281_0, u2, i1]) (by simp [cf_549_0, j1, F4', n01])⟩
  · obtain ⟨w1, w2⟩ := Sm_d h
    obtain ⟨u1, u2⟩ := c104_d w1
    obtain ⟨F1, F2⟩ := F_d w2
    exact ⟨by simp [cp_281_0, u1, u2], by simp [cp_549_0, F1, F2], Sm_r (a := 0) (a' := 0) (Or.inr h) (Or.inr rfl) (by simp [cf_281_0, u2]) (by simp [cf_549_0, F2]; rfl)⟩
theorem mains_al {m : Bool} (h : Sm q B N1 b N2) : cp_279_0 m N1 ∧ cp_548_0 m N2 ∧ cal1 q B b N1 N2 (cf_279_0 m N1) (cf_548_0 m N2) := by
  rcases h with h | h
  · obtain ⟨w1, w2⟩ := Sm_u h
    obtain ⟨u1, u2⟩ := c104_u w1
    obtain ⟨F1, F2⟩ := f484_u w2
    have nf : ¬ (false = true) := fun z => by cases z
    obtain ⟨p, C, s, D, H, x, L, R, h1, h2, h3, h4, h5, h6⟩ := id h
    have ga : mz_fZ N1 56 4 = L.u.mn := by show decide (N1.1 56 4 = 1) = _; rw [h3.lr.sc.mn, d_b01]
    have gb : mz_fZ (mz_pI N2 232 0 0) 232 52 = L.u.mn := by show decide (N2.1 232 52 = 1) = _; rw [h3.lr.sr.mn, d_b01]
    have e1 : cf_279_0 m N1 = (0, L.u.mn, mz_pI N1 56 4 (mz_b01 m)) := by rw [cf_279_0, u2, if_pos rfl, ga]
    have e2 : cf_548_0 m N2 = (L.u.mn, mz_pI (mz_pI N2 232 0 0) 232 52 (mz_b01 m)) := by rw [cf_548_0, F2, if_neg nf, gb]
    have f1 : fq [56] [] N1 (mz_pI N1 56 4 (mz_b01 m)) := fq_pI (fq_refl _ _ _) rfl
    have f2 : fq [232] [] N2 (mz_pI (mz_pI N2 232 0 0) 232 52 (mz_b01 m)) := fq_pI (fq_pI (fq_refl _ _ _) rfl) rfl
    have j1 : ∀ f, f ≠ 4 → (mz_pI N1 56 4 (mz_b01 m)).1 56 f = N1.1 56 f := fun f hf => by rw [pI_s, sI_e, up_a, if_neg hf]
    have j2 : ∀ f, f ≠ 52 → f ≠ 0 → (mz_pI (mz_pI N2 232 0 0) 232 52 (mz_b01 m)).1 232 f = N2.1 232 f := fun f h1 h2 => by rw [pI_s, sI_e, up_a, if_neg h1, pI_s, sI_e, up_a, if_neg h2]
    obtain ⟨a1, a2, a3, a4, a5, a6, a7, a8, a9, a10, a11⟩ := h3.lr.sc
    obtain ⟨b1', b2, b3, b4, b5, b6, b7, b8, b9, b10, b11⟩ := h3.lr.sr
    have z1 : mz_z01 (N1.1 56 4) := by rw [h3.lr.sc.mn]; exact z01_b01 _
    have z2 : mz_z01 ((mz_pI N2 232 0 0).1 232 52) := by show mz_z01 (N2.1 232 52); rw [h3.lr.sr.mn]; exact z01_b01 _
    obtain ⟨d1, d2, d3, d4, d5, d6, d7⟩ := h3.lr.sb
    have P1 : cp_279_0 m N1 := by rw [cp_279_0]; exact ⟨u1, fun _ => z1, fun _ => trivial⟩
    have P2 : cp_548_0 m N2 := by rw [cp_548_0, F2]; exact ⟨F1, fun _ => trivial, fun _ => z2⟩
    have mr := MR_su (u := (L.u.ch, L.u.fu, L.u.wo, L.u.tk, L.u.st, L.u.co, L.u.bo, m, L.u.en, L.u.wa, L.u.ra)) h3 f1 f2 (fun f h0 h5 => j2 f (by omega) h0) ⟨by rw [j1 1 (by decide)]; exact a1, by rw [j1 2 (by decide)]; exact a2, by rw [j1 3 (by decide)]; exact a3, by rw [j1 7 (by decide)]; exact a4, by rw [j1 11 (by decide)]; exact a5, by rw [j1 12 (by decide)]; exact a6, by rw [j1 13 (by decide)]; exact a7, by rw [pI_s, sI_e, up_a, if_pos rfl], by rw [j1 5 (by decide)]; exact a9, by rw [j1 8 (by decide)]; exact a10, by rw [j1 9 (by decide)]; exact a11⟩ ⟨by rw [j2 54 (by decide) (by decide)]; exact b1', by rw [j2 53 (by decide) (by decide)]; exact b2, by rw [j2 55 (by decide) (by decide)]; exact b3, by rw [j2 61 (by decide) (by decide)]; exact b4, by rw [j2 62 (by decide) (by decide)]; exact b5, by rw [f2.2 232 rfl]; exact b6, by rw [f2.2 232 rfl]; exact b7, by rw [pI_s, sI_e, up_a, if_pos rfl], by rw [j2 65 (by decide) (by decide)]; exact b9, by rw [j2 63 (by decide) (by decide)]; exact b10, by rw [j2 64 (by decide) (by decide)]; exact b11⟩ ⟨d1, d2, d3, d4, d5, d6, d7⟩
    rw [e1, e2]
    refine ⟨P1, P2, cal1_u ?_ rfl (oF_q f1 f2 rfl rfl rfl rfl) (up_f h1 h2 mr h4 (rsF_q f1 f2 rfl rfl rfl (fun f hf => j2 f (rsI_ne hf rfl) (rsI_ne hf rfl))) rfl rfl h5 h6)⟩
    rw [pI_s, sI_e, up_a, if_neg (by decide)]; exact code_0
  · obtain ⟨w1, w2⟩ := Sm_d h
    obtain ⟨u1, u2⟩ := c104_d w1
    obtain ⟨F1, F2⟩ := f484_d w2
    exact ⟨by simp [cp_279_0, u1, u2], by simp [cp_548_0, F1, F2], cal1_d (a := false) (a' := false) (Or.inr h) (by simp [cf_279_0, u2]) (by simp [cf_548_0, F2])⟩
/-- all that lives is put anew, but of the circuits and the flames -/
theorem MR_lr {L' : LvS} (h : MR q B s D H x L N1 b N2) (hs : stK N1 N2 M1 M2) (hc : c_kp M1 b H) (hr : r_kp M2 H) (cc : crC M1 H x) (cr : crR M2 H x) (lr : LR q (H.1 0) (H.1 1) L' M1 b M2) : MR q B s D H x L' M1 b M2 := ⟨⟨KS_B h.cs.ks hs rfl hc hr, cc, cr⟩, lr, h.iv⟩
theorem reset_al (h : Sm q B N1 b N2) : cp_283_0 v1 N1 ∧ cp_550_0 v1 N2 ∧ cal q B b N1 N2 (cf_283_0 v1 N1) (cf_550_0 v1 N2) := by
  obtain ⟨p1, c1⟩ := in_l 0 10 (by omega) (by omega) v1 (w0 := 0) (w := 10) (g0 := 0) (g := 10) rfl rfl rfl rfl
  rcases h with h | h
  · obtain ⟨w1, w2⟩ := Sm_u h
    obtain ⟨u1, u2⟩ := c104_u w1
    obtain ⟨F1, F2⟩ := f462_u (a := true) (st := true) w2
    have F2' : cf_462_0 true true N2 = (false, mz_pI N2 232 0 0) := F2
    obtain ⟨F3, F4⟩ := f462_u (a := false) (st := true) w2
    have F4' : cf_462_0 false true N2 = (true, mz_pI N2 232 0 1) := F4
    obtain ⟨p, C, s, D, H, x, L, R, h1, h2, h3, h4, h5, h6⟩ := id h
    rcases c1 with ⟨a, _, ha, rfl, i1, j1⟩ | ⟨i1, j1⟩
    · have ib : mz_ib (nI a) 11 := ib_n (by omega) (by omega)
      have ci := h3.lr.ci a (by omega)
      have ga : mz_gI N1 60 (nI a) = nI (b1 (L.c.2.2.1 a)) := by rw [gI_a, nI_clamp (by omega)]; exact ci.2.2.1.1
      have gb : mz_gI (mz_pI N2 232 0 0) 275 (nI a) = nI (b1 (L.c.2.2.1 a)) := by rw [gI_a, nI_clamp (by omega)]; exact ci.2.2.1.2
      have gz : mz_gZ (mz_pI N2 232 0 0) 275 (nI a) = L.c.2.2.1 a := by rw [gZ_a, nI_clamp (by omega)]; show decide (N2.1 275 a = 1) = _; rw [ci.2.2.1.2]; cases L.c.2.2.1 a <;> rfl
      have zz : mz_z01 (nI (b1 (L.c.2.2.1 a))) := z01_b _
      cases e : L.c.2.2.1 a with
      | false =>
        rw [e] at ga gb gz zz
        have g0 : (nI (b1 false) = 0) = True := eq_true rfl
        have e1 : cf_283_0 (nI a) N1 = (0, false, N1) := by simp [cf_283_0, u2, i1, ga, g0]
        have e2 : cf_550_0 (nI a) N2 = (false, mz_pI N2 232 0 0) := by simp [cf_550_0, j1, F2', gz]
        refine ⟨by simp [cp_283_0, u1, u2, p1, i1, ib], by simp [cp_550_0, j1, F1, F2', ib, gb, zz], ?_⟩
        rw [e1, e2]
        exact cal_u code_0 rfl oF_code (Up_code h)
      | true =>
        rw [e] at ga gb gz zz
        have g0 : (nI (b1 true) = 0) = False := eq_false (by decide)
        generalize hM1 : mz_wI (mz_wI N1 60 (nI a) 0) 59 (nI a) 0 = M1
        generalize hM2 : mz_wI (mz_wI (mz_pI N2 232 0 0) 275 (nI a) 0) 274 (nI a) 0 = M2
        have f1 : fq [59, 60] [] N1 M1 := by rw [← hM1]; exact fq_wI (fq_wI (fq_refl _ _ _) rfl) rfl
        have f2 : fq [232, 274, 275] [] N2 M2 := by rw [← hM2]; exact fq_wI (fq_wI (fq_pI (fq_refl _ _ _) rfl) rfl) rfl
        have i2 : ∀ f, f ≠ 0 → M2.1 232 f = N2.1 232 f := fun f g0 => by rw [← hM2, wI_ne (by decide), wI_ne (by decide), pI_s, sI_e, up_a, if_neg g0]
        have h0 : M2.1 232 0 = 0 := by rw [← hM2, wI_ne (by decide), wI_ne (by decide)]; exact code_0
        have lr : LR p (H.1 0) (H.1 1) (L.T, (L.c.1, up L.c.2.1 a 0, up L.c.2.2.1 a false, L.c.2.2.2), L.u, L.k, L.w, L.cr, L.R, L.S, L.sd) M1 b M2 := by
          obtain ⟨q1, q2, q3, q4, q5, q6, q7, q8, q9, q10, q11, q12, q13, q14, q15, q16, q17, q18⟩ := h3.lr
          have z43 : ∀ y, y < 52 → 43 ≤ y → ([59, 60] : List Nat).contains y = false := by decide
          refine ⟨plW_q q1 f1 f2 rfl rfl (i2 7 (by decide)), prR_f q2 (fun z h1 h2 => f1.1 z (z43 z (by omega) h1)) (i2 28 (by decide)) (fun z h1 h2 => f2.1 z (by rcases (show z = 253 ∨ z = 254 ∨ z = 255 ∨ z = 256 by omega) with y | y | y | y <;> rw [y] <;> rfl)), q3, tgR_f q4 (f1.1 53 rfl) (f2.1 257 rfl), q5, fun j hj => ?_, fun j hj => ?_, suC_f q8 (fun f _ _ => by rw [f1.1 56 rfl]), suR_f q9 (fun f h1 h2 => i2 f (by omega)) (by rw [f2.2 232 rfl]) (by rw [f2.2 232 rfl]), q10, clC_f q11 (fun z h1 h2 => f1.2 z rfl) (f1.1 72 rfl) (f1.1 73 rfl) (by rw [f1.1 65 rfl]), clR_f q12 (fun z h1 h2 => f2.2 z rfl), q13, waR_f q14 (fun z hz => by rcases hz with w | w | w | w <;> subst w <;> exact f1.1 _ rfl) (by rw [f1.1 81 rfl]) (fun z h1 h2 => f2.1 z (by rcases (show z = 278 ∨ z = 279 ∨ z = 280 by omega) with y | y | y <;> rw [y] <;> rfl)) (f2.2 281 rfl) (i2 72 (by decide)), q15, poR_f q16 (fun z h1 h2 => f1.2 z rfl) (f1.1 99 rfl) (f2.2 286 rfl) (f2.1 285 rfl), q17, by rw [f1.2 56 rfl]; exact q18.1, by rw [f2.2 232 rfl]; exact q18.2⟩
          · obtain ⟨k1, k2, k3, k4⟩ := q6 j hj
            show (M1.1 58 j = nI (L.c.1 j) ∧ M2.1 272 j = nI (L.c.1 j)) ∧ (M1.1 59 j = nI (up L.c.2.1 a 0 j) ∧ M2.1 274 j = nI (up L.c.2.1 a 0 j)) ∧ (M1.1 60 j = nI (b1 (up L.c.2.2.1 a false j)) ∧ M2.1 275 j = nI (b1 (up L.c.2.2.1 a false j))) ∧ M1.1 61 j = nI (b1 (L.c.2.2.2 j)) ∧ M2.1 273 j = nI (b1 (L.c.2.2.2 j))
            rw [f1.1 58 rfl, f2.1 272 rfl, f1.1 61 rfl, f2.1 273 rfl, ← hM1, ← hM2, wI_at (by omega), wI_at (by omega), wI_ne (show 60 ≠ 59 by decide), wI_ne (show 275 ≠ 274 by decide), wI_ne (show 59 ≠ 60 by decide), wI_ne (show 274 ≠ 275 by decide), wI_at (by omega), wI_at (by omega), up_d, up_d]
            by_cases w : j = a
            · rw [if_pos w, if_pos w, if_pos w, if_pos w, if_pos w, if_pos w]; exact ⟨k1, ⟨rfl, rfl⟩, ⟨rfl, rfl⟩, k4⟩
            · rw [if_neg w, if_neg w, if_neg w, if_neg w, if_neg w, if_neg w]; exact ⟨k1, k2, k3, k4⟩
          · show L.c.1 j ≤ 2000 ∧ up L.c.2.1 a 0 j ≤ 20100 ∧ (up L.c.2.2.1 a false j = false → up L.c.2.1 a 0 j < 50)
            rw [up_d, up_d]
            by_cases w : j = a
            · rw [if_pos w, if_pos w]; exact ⟨(q7 j hj).1, by omega, fun _ => by omega⟩
            · rw [if_neg w, if_neg w]; exact q7 j hj
        have mr := MR_lr h3 (stK_of f1 f2 rfl rfl (fun f hf => i2 f (by omega)) (by rw [f2.2 232 rfl])) (ckp_q h3.cs.ks.kc f1 rfl rfl) (rkp_q h3.cs.ks.kr f2 rfl rfl (i2 27 (by decide)) (i2 21 (by decide)) (fun f _ => by rw [f2.2 232 rfl])) (crC_f h3.cs.cc f1 rfl rfl) (crR_f h3.cs.cr f2 rfl rfl (i2 96 (by decide)) (by rw [f2.2 232 rfl]) rfl) lr
        have eb : mz_b01 false = 0 := rfl
        have e1 : cf_283_0 (nI a) N1 = (0, true, M1) := by simp [cf_283_0, u2, i1, ga, g0, hM1]
        have e2 : cf_550_0 (nI a) N2 = (true, M2) := by simp [cf_550_0, j1, F2', gz, eb, hM2]
        refine ⟨by simp [cp_283_0, u1, u2, p1, i1, ib], by simp [cp_550_0, j1, F1, F2', ib, gb, zz], ?_⟩
        rw [e1, e2]
        exact cal_u h0 rfl (oF_q f1 f2 rfl rfl rfl rfl) (up_f h1 h2 mr h4 (rsF_q f1 f2 rfl rfl rfl (fun f hf => i2 f (rsI_ne hf rfl))) rfl rfl h5 h6)
    · exact ⟨by simp [cp_283_0, u1, u2, p1, i1], by simp [cp_550_0, j1, F3, F4'], Sm_r (a := false) (a' := false) (Or.inl h) (Or.inl rfl) (by simp [cf_283_0, u2, i1]) (by simp [cf_550_0, j1, F4', n01])⟩
  · obtain ⟨w1, w2⟩ := Sm_d h
    obtain ⟨u1, u2⟩ := c104_d w1
    obtain ⟨F1, F2⟩ := F_d w2
    exact ⟨by simp [cp_283_0, u1, u2], by simp [cp_550_0, F1, F2], Sm_r (a := false) (a' := false) (Or.inr h) (Or.inr rfl) (by simp [cf_283_0, u2]) (by simp [cf_550_0, F2]; rfl)⟩
theorem ignite_al (h : Sm q B N1 b N2) : cp_291_0 v1 v2 N1 ∧ cp_554_0 v1 v2 N2 ∧ cal q B b N1 N2 (cf_291_0 v1 v2 N1) (cf_554_0 v1 v2 N2) := by
  obtain ⟨p1, c1⟩ := in_l 0 4 (by omega) (by omega) v1 (w0 := 0) (w := 4) (g0 := 0) (g := 4) rfl rfl rfl rfl
  obtain ⟨p2, c2⟩ := in_l 0 47 (by omega) (by omega) v2 (w0 := 0) (w := 47) (g0 := 0) (g := 47) rfl rfl rfl rfl
  rcases h with h | h
  · obtain ⟨w1, w2⟩ := Sm_u h
    obtain ⟨u1, u2⟩ := c104_u w1
    obtain ⟨F1, F2⟩ := f462_u (a := true) (st := true) w2
    have F2' : cf_462_0 true true N2 = (false, mz_pI N2 232 0 0) := F2
    obtain ⟨F3, F4⟩ := f462_u (a := false) (st := true) w2
    have F4' : cf_462_0 false true N2 = (true, mz_pI N2 232 0 1) := F4
    obtain ⟨p, C, s, D, H, x, L, R, h1, h2, h3, h4, h5, h6⟩ := id h
    rcases c1 with ⟨a, _, ha, rfl, i1, j1⟩ | ⟨i1, j1⟩
    · rcases c2 with ⟨c, _, hc, rfl, i2', j2⟩ | ⟨i2', j2⟩
      · have x1 : nI a * 48 + nI c = nI (48 * a + c) := by rw [show (48 : Int32) = nI 48 from rfl, pk_mul, nI_add, Nat.mul_comm]
        have x2 : 48 * nI a + nI c = nI (48 * a + c) := by rw [show (48 : Int32) = nI 48 from rfl, pk_mul, nI_add]
        have hz : 48 * a + c < 240 := by omega
        generalize 48 * a + c = z at x1 x2 hz
        have ib : mz_ib (nI z) 240 := ib_n hz (by omega)
        have fb := h3.lr.kb.fl z hz
        have ga : mz_gI N1 73 (nI z) = nI (L.k.fl z) := by rw [gI_a, nI_clamp (by omega)]; exact h3.lr.kc.fl z hz
        have gb : mz_gL (mz_pI N2 232 0 0) 264 (nI z) = lN (L.k.fl z) := by rw [gL_a, nI_clamp (by omega)]; exact h3.lr.kr.fl z hz
        have g1 : (0 < nI (L.k.fl z)) = (0 < L.k.fl z) := propext (nI_gt0 (by omega))
        have g2 : (0 < lN (L.k.fl z)) = (0 < L.k.fl z) := propext (lN_g0 (by omega))
        have ci : cf_491_0 (nI a) (nI c) = true := by rw [cell_in, i1, i2']; rfl
        by_cases e : 0 < L.k.fl z
        · have e0 : (0 < L.k.fl z) = True := eq_true e
          have e1 : cf_291_0 (nI a) (nI c) N1 = (0, false, N1) := by simp [cf_291_0, cf_250_0, u2, i1, i2', x1, ga, g1, e]
          have e2 : cf_554_0 (nI a) (nI c) N2 = (false, mz_pI N2 232 0 0) := by simp [cf_554_0, ci, F2', x2, gb, g2, e]
          refine ⟨by simp [cp_291_0, cp_250_0, u1, u2, p1, p2, i1, i2', x1, ib], by simp [cp_554_0, ci, F1, F2', x2, ib], ?_⟩
          rw [e1, e2]
          exact cal_u code_0 rfl oF_code (Up_code h)
        · have e0 : ¬ 0 < L.k.fl z := e
          generalize hM1 : mz_pI (mz_wI N1 73 (nI z) 10) 65 8 (mz_b01 true) = M1
          generalize hM2 : mz_wL (mz_pI N2 232 0 0) 264 (nI z) 10 = M2
          have f1 : fq [65, 73] [] N1 M1 := by rw [← hM1]; exact fq_pI (fq_wI (fq_refl _ _ _) rfl) rfl
          have f2 : fq [232] [264] N2 M2 := by rw [← hM2]; exact fq_wL (fq_pI (fq_refl _ _ _) rfl) rfl
          have i2 : ∀ f, f ≠ 0 → M2.1 232 f = N2.1 232 f := fun f g0 => by rw [← hM2, wL_1, pI_s, sI_e, up_a, if_neg g0]
          have h0 : M2.1 232 0 = 0 := by rw [← hM2, wL_1]; exact code_0
          have lr : LR p (H.1 0) (H.1 1) (L.T, L.c, L.u, (L.k.h, L.k.sa, L.k.mi, L.k.sm, L.k.mo, up L.k.fl z 10), L.w, L.cr, L.R, L.S, L.sd) M1 b M2 := by
            obtain ⟨q1, q2, q3, q4, q5, q6, q7, q8, q9, q10, q11, q12, q13, q14, q15, q16, q17, q18⟩ := h3.lr
            have z43 : ∀ y, y < 52 → 43 ≤ y → ([65, 73] : List Nat).contains y = false := by decide
            obtain ⟨k1, k2, k3, k4, k5, k6, k7⟩ := q11
            obtain ⟨r1, r2, r3, r4, r5, r6⟩ := q12
            obtain ⟨t1, t2, t3, t4, t5⟩ := q13
            refine ⟨plW_q q1 f1 f2 rfl rfl (i2 7 (by decide)), prR_f q2 (fun z h1 h2 => f1.1 z (z43 z (by omega) h1)) (i2 28 (by decide)) (fun z h1 h2 => f2.1 z (by rcases (show z = 253 ∨ z = 254 ∨ z = 255 ∨ z = 256 by omega) with y | y | y | y <;> rw [y] <;> rfl)), q3, tgR_f q4 (f1.1 53 rfl) (f2.1 257 rfl), q5, ciR_f q6 (fun z h1 h2 => f1.1 z (by rcases (show z = 58 ∨ z = 59 ∨ z = 60 ∨ z = 61 by omega) with y | y | y | y <;> rw [y] <;> rfl)) (fun z h1 h2 => f2.1 z (by rcases (show z = 272 ∨ z = 273 ∨ z = 274 ∨ z = 275 by omega) with y | y | y | y <;> rw [y] <;> rfl)), q7, suC_f q8 (fun f _ _ => by rw [f1.1 56 rfl]), suR_f q9 (fun f h1 h2 => i2 f (by omega)) (by rw [f2.2 232 rfl]) (by rw [f2.2 232 rfl]), q10, ⟨by rw [f1.2 68 rfl]; exact k1, by rw [f1.2 69 rfl]; exact k2, by rw [f1.2 70 rfl]; exact k3, by rw [f1.2 71 rfl]; exact k4, by rw [f1.1 72 rfl]; exact k5, fun y hy => ?_, ⟨true, by rw [← hM1, pI_s, sI_e, up_a, if_pos rfl], fun w => by cases w⟩⟩, ⟨by rw [f2.2 260 rfl]; exact r1, by rw [f2.2 261 rfl]; exact r2, by rw [f2.2 262 rfl]; exact r3, by rw [f2.2 265 rfl]; exact r4, by rw [f2.2 263 rfl]; exact r5, fun y hy => ?_⟩, ⟨t1, t2, t3, t4, fun y hy => ?_⟩, waR_f q14 (fun z hz => by rcases hz with w | w | w | w <;> subst w <;> exact f1.1 _ rfl) (by rw [f1.1 81 rfl]) (fun z h1 h2 => f2.1 z (by rcases (show z = 278 ∨ z = 279 ∨ z = 280 by omega) with y | y | y <;> rw [y] <;> rfl)) (f2.2 281 rfl) (i2 72 (by decide)), q15, poR_f q16 (fun z h1 h2 => f1.2 z rfl) (f1.1 99 rfl) (f2.2 286 rfl) (f2.1 285 rfl), q17, by rw [f1.2 56 rfl]; exact q18.1, by rw [f2.2 232 rfl]; exact q18.2⟩
            · show M1.1 73 y = nI (up L.k.fl z 10 y)
              rw [← hM1, pI_s, sI_n (by decide), wI_at (by omega), up_d]; split
              · rfl
              · exact k6 y hy
            · show M2.2 264 y = lN (up L.k.fl z 10 y)
              rw [← hM2, wL_at (by omega), up_d]; split
              · rfl
              · exact r6 y hy
            · show up L.k.fl z 10 y ≤ 100
              rw [up_d]; split
              · omega
              · exact t5 y hy
          have mr := MR_lr h3 (stK_of f1 f2 rfl rfl (fun f hf => i2 f (by omega)) (by rw [f2.2 232 rfl])) (ckp_q h3.cs.ks.kc f1 rfl rfl) (rkp_q h3.cs.ks.kr f2 rfl rfl (i2 27 (by decide)) (i2 21 (by decide)) (fun f _ => by rw [f2.2 232 rfl])) (crC_f h3.cs.cc f1 rfl rfl) (crR_f h3.cs.cr f2 rfl rfl (i2 96 (by decide)) (by rw [f2.2 232 rfl]) rfl) lr
          have e1 : cf_291_0 (nI a) (nI c) N1 = (0, true, M1) := by
            simp only [cf_291_0, cf_250_0, u2, i1, i2', x1, ga, g1, if_neg e0, hM1, if_true]
          have e2 : cf_554_0 (nI a) (nI c) N2 = (true, M2) := by
            simp only [cf_554_0, ci, F2', x2, gb, g2, if_neg e0, hM2, Bool.false_eq_true, if_false]
          refine ⟨by simp [cp_291_0, cp_250_0, u1, u2, p1, p2, i1, i2', x1, ib], by simp [cp_554_0, ci, F1, F2', x2, ib], ?_⟩
          rw [e1, e2]
          exact cal_u h0 rfl (oF_q f1 f2 rfl rfl rfl rfl) (up_f h1 h2 mr h4 (rsF_q f1 f2 rfl rfl rfl (fun f hf => i2 f (rsI_ne hf rfl))) rfl rfl h5 h6)
      · exact ⟨by simp [cp_291_0, u1, u2, p1, p2, i1, i2'], by simp [cp_554_0, cell_in, i1, i2', F3, F4'], Sm_r (a := false) (a' := false) (Or.inl h) (Or.inl rfl) (by simp [cf_291_0, u2, i1, i2']) (by simp [cf_554_0, cell_in, i1, i2', F4', n01])⟩
    · exact ⟨by simp [cp_291_0, u1, u2, p1, i1], by simp [cp_554_0, cell_in, i1, F3, F4'], Sm_r (a := false) (a' := false) (Or.inl h) (Or.inl rfl) (by simp [cf_291_0, u2, i1]) (by simp [cf_554_0, cell_in, i1, F4', n01])⟩
  · obtain ⟨w1, w2⟩ := Sm_d h
    obtain ⟨u1, u2⟩ := c104_d w1
    obtain ⟨F1, F2⟩ := F_d w2
    exact ⟨by simp [cp_291_0, u1, u2], by simp [cp_554_0, F1, F2], Sm_r (a := false) (a' := false) (Or.inr h) (Or.inr rfl) (by simp [cf_291_0, u2]) (by simp [cf_554_0, F2]; rfl)⟩
end Lv
