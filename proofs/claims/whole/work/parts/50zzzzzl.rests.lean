/-! PURE (50zzzzzl): calls that change only what lives beside (made by wip/gen/rests.py). -/
section Rl
variable {N N1 N2 M1 M2 : mz_N} {b : Bool} {B q : Nat} {v v1 v2 v3 : Int32}
theorem wipe_al (h : Sm q B N1 b N2) : cp_189_0 N1 ∧ cp_502_0 N2 ∧ cal1 q B b N1 N2 (cf_189_0 N1) (cf_502_0 N2) := by
  rcases h with h | h
  · obtain ⟨w1, w2⟩ := Sm_u h
    obtain ⟨u1, u2⟩ := c104_u w1
    obtain ⟨F1, F2⟩ := f484_u w2
    obtain ⟨p, C, s, D, H, x, L, R, h1, h2, h3, h4, h5, h6⟩ := id h
    obtain ⟨t1, t2, t3⟩ := h4.tl
    have t2' : (mz_pI N2 232 0 0).1 232 25 = N1.1 41 1 := t2.trans t1.symm
    generalize hM1 : mz_pI N1 41 1 0 = M1
    generalize hM2 : mz_pI (mz_pI N2 232 0 0) 232 25 0 = M2
    have z1 : M1.1 41 1 = 0 := by rw [← hM1, pI_s, sI_e, up_a, if_pos rfl]
    have z2 : M2.1 232 25 = 0 := by rw [← hM2, pI_s, sI_e, up_a, if_pos rfl]
    have f1 : fq [41] [] N1 M1 := by rw [← hM1]; exact fq_pI (fq_refl _ _ _) rfl
    have f2 : fq [232] [] N2 M2 := by rw [← hM2]; exact fq_pI (fq_pI (fq_refl _ _ _) rfl) rfl
    have i2 : ∀ f, f ≠ 0 → f ≠ 25 → M2.1 232 f = N2.1 232 f := fun f g0 g1 => by rw [← hM2, pI_s, sI_e, up_a, if_neg g1, pI_s, sI_e, up_a, if_neg g0]
    have k41 : ∀ f, f ≠ 1 → M1.1 41 f = N1.1 41 f := fun f g => by rw [← hM1, pI_s, sI_e, up_a, if_neg g]
    have h0 : M2.1 232 0 = 0 := by rw [← hM2, pI_s, sI_e, up_a, if_neg (by decide)]; exact code_0
    have mr : MR p C s D H x L M1 b M2 := MR_q h3 f1 f2 rfl rfl rfl rfl (fun f hf => i2 f (fun z => by rw [z] at hf; cases hf) (fun z => by rw [z] at hf; cases hf)) (f2.2 232 rfl) (ckp_q h3.cs.ks.kc f1 rfl rfl) (rkp_q h3.cs.ks.kr f2 rfl rfl (i2 27 (by decide) (by decide)) (i2 21 (by decide) (by decide)) (fun f _ => by rw [f2.2 232 rfl]))
    have rs : RsR H L (R.dr, R.bs, R.ve, 0, R.tx, R.wr, R.wh, R.lg, R.tn, R.ta, R.rn, R.ra) M1 M2 := by
      obtain ⟨a1', a2, a3, a4, a5, a6, a7, a8, a9, a10, a11, a12, a13, a14, a15⟩ := h4
      refine ⟨fun d hd i hi => ?_, ?_, a3, ?_, ?_, ?_, ?_, ?_, a9, ?_, ?_, ?_, ?_, a14, a15⟩
      · have d1 : M1.1 (5 + d) = N1.1 (5 + d) ∧ M1.1 (9 + d) = N1.1 (9 + d) := by
          rcases (show d = 0 ∨ d = 1 ∨ d = 2 by omega) with w | w | w <;> subst w <;> exact ⟨f1.1 _ rfl, f1.1 _ rfl⟩
        rw [d1.1, d1.2]; exact a1' d hd i hi
      · rw [f2.1 233 rfl]; exact a2
      · rw [f1.1 2 rfl, i2 4 (by decide) (by decide)]; exact a4
      · exact ⟨z1, z2, Nat.zero_le _⟩
      · exact fun i hi => absurd hi (Nat.not_lt_zero i)
      · rw [i2 36 (by decide) (by decide), i2 34 (by decide) (by decide), i2 35 (by decide) (by decide), k41 4 (by decide), k41 5 (by decide)]; exact a7
      · rw [f1.1 109 rfl, f2.1 316 rfl]; exact a8
      · rw [f1.1 100 rfl, i2 112 (by decide) (by decide)]; exact a10
      · rw [f1.1 111 rfl, f1.1 112 rfl, f1.1 113 rfl, f1.1 114 rfl, f2.2 317 rfl, f2.1 318 rfl, f2.1 319 rfl, f2.1 320 rfl]; exact a11
      · rw [f1.1 1 rfl, f1.1 228 rfl, f2.1 334 rfl, i2 141 (by decide) (by decide)]; exact a12
      · rw [f1.1 1 rfl, f1.1 229 rfl, f2.1 335 rfl, i2 143 (by decide) (by decide)]; exact a13
    have e1 : cf_189_0 N1 = (0, N1.1 41 1, M1) := by simp [cf_189_0, u2, hM1]
    have e2 : cf_502_0 N2 = (N1.1 41 1, M2) := by simp [cf_502_0, F2, t2', hM2]
    refine ⟨by simp [cp_189_0, u1], by simp [cp_502_0, F1], ?_⟩
    rw [e1, e2]
    exact cal1_u h0 rfl (oF_q f1 f2 rfl rfl rfl rfl) ⟨p, C, s, D, H, x, L, _, h1, h2, mr, rs, h5, h6⟩
  · obtain ⟨w1, w2⟩ := Sm_d h
    obtain ⟨u1, u2⟩ := c104_d w1
    obtain ⟨F1, F2⟩ := f484_d w2
    exact ⟨by simp [cp_189_0, u1, u2], by simp [cp_502_0, F1, F2], cal1_d (a := 0) (a' := 0) (Or.inr h) (by simp [cf_189_0, u2]) (by simp [cf_502_0, F2])⟩
theorem empty_al (h : Sm q B N1 b N2) : cp_382_0 N1 ∧ cp_606_0 N2 ∧ cal1 q B b N1 N2 (cf_382_0 N1) (cf_606_0 N2) := by
  rcases h with h | h
  · obtain ⟨w1, w2⟩ := Sm_u h
    obtain ⟨u1, u2⟩ := c104_u w1
    obtain ⟨F1, F2⟩ := f484_u w2
    obtain ⟨p, C, s, D, H, x, L, R, h1, h2, h3, h4, h5, h6⟩ := id h
    obtain ⟨t1, t2, t3⟩ := h4.re
    have t2' : (mz_pI N2 232 0 0).1 232 143 = N1.1 1 12 := t2.trans t1.symm
    generalize hM1 : mz_pI N1 1 12 0 = M1
    generalize hM2 : mz_pI (mz_pI N2 232 0 0) 232 143 0 = M2
    have z1 : M1.1 1 12 = 0 := by rw [← hM1, pI_s, sI_e, up_a, if_pos rfl]
    have z2 : M2.1 232 143 = 0 := by rw [← hM2, pI_s, sI_e, up_a, if_pos rfl]
    have f1 : fq [1] [] N1 M1 := by rw [← hM1]; exact fq_pI (fq_refl _ _ _) rfl
    have f2 : fq [232] [] N2 M2 := by rw [← hM2]; exact fq_pI (fq_pI (fq_refl _ _ _) rfl) rfl
    have i2 : ∀ f, f ≠ 0 → f ≠ 143 → M2.1 232 f = N2.1 232 f := fun f g0 g1 => by rw [← hM2, pI_s, sI_e, up_a, if_neg g1, pI_s, sI_e, up_a, if_neg g0]
    have k1 : ∀ f, f ≠ 12 → M1.1 1 f = N1.1 1 f := fun f g => by rw [← hM1, pI_s, sI_e, up_a, if_neg g]
    have h0 : M2.1 232 0 = 0 := by rw [← hM2, pI_s, sI_e, up_a, if_neg (by decide)]; exact code_0
    have mr : MR p C s D H x L M1 b M2 := MR_q h3 f1 f2 rfl rfl rfl rfl (fun f hf => i2 f (fun z => by rw [z] at hf; cases hf) (fun z => by rw [z] at hf; cases hf)) (f2.2 232 rfl) (ckp_q h3.cs.ks.kc f1 rfl rfl) (rkp_q h3.cs.ks.kr f2 rfl rfl (i2 27 (by decide) (by decide)) (i2 21 (by decide) (by decide)) (fun f _ => by rw [f2.2 232 rfl]))
    have rs : RsR H L (R.dr, R.bs, R.ve, R.tl, R.tx, R.wr, R.wh, R.lg, R.tn, R.ta, 0, R.ra) M1 M2 := by
      obtain ⟨a1', a2, a3, a4, a5, a6, a7, a8, a9, a10, a11, a12, a13, a14, a15⟩ := h4
      refine ⟨fun d hd i hi => ?_, ?_, a3, ?_, ?_, ?_, ?_, ?_, a9, ?_, ?_, ?_, ?_, a14, a15⟩
      · have d1 : M1.1 (5 + d) = N1.1 (5 + d) ∧ M1.1 (9 + d) = N1.1 (9 + d) := by
          rcases (show d = 0 ∨ d = 1 ∨ d = 2 by omega) with w | w | w <;> subst w <;> exact ⟨f1.1 _ rfl, f1.1 _ rfl⟩
        rw [d1.1, d1.2]; exact a1' d hd i hi
      · rw [f2.1 233 rfl]; exact a2
      · rw [f1.1 2 rfl, i2 4 (by decide) (by decide)]; exact a4
      · rw [f1.1 41 rfl, i2 25 (by decide) (by decide)]; exact a5
      · rw [f1.1 42 rfl, f2.1 251 rfl]; exact a6
      · rw [i2 36 (by decide) (by decide), i2 34 (by decide) (by decide), i2 35 (by decide) (by decide), f1.1 41 rfl]; exact a7
      · rw [f1.1 109 rfl, f2.1 316 rfl]; exact a8
      · rw [f1.1 100 rfl, i2 112 (by decide) (by decide)]; exact a10
      · rw [f1.1 111 rfl, f1.1 112 rfl, f1.1 113 rfl, f1.1 114 rfl, f2.2 317 rfl, f2.1 318 rfl, f2.1 319 rfl, f2.1 320 rfl]; exact a11
      · rw [k1 10 (by decide), f1.1 228 rfl, f2.1 334 rfl, i2 141 (by decide) (by decide)]; exact a12
      · exact ⟨z1, z2, Nat.zero_le _, fun i hi => absurd hi (Nat.not_lt_zero i)⟩
    have e1 : cf_382_0 N1 = (0, N1.1 1 12, M1) := by simp [cf_382_0, u2, hM1]
    have e2 : cf_606_0 N2 = (N1.1 1 12, M2) := by simp [cf_606_0, F2, t2', hM2]
    refine ⟨by simp [cp_382_0, u1], by simp [cp_606_0, F1], ?_⟩
    rw [e1, e2]
    exact cal1_u h0 rfl (oF_q f1 f2 rfl rfl rfl rfl) ⟨p, C, s, D, H, x, L, _, h1, h2, mr, rs, h5, h6⟩
  · obtain ⟨w1, w2⟩ := Sm_d h
    obtain ⟨u1, u2⟩ := c104_d w1
    obtain ⟨F1, F2⟩ := f484_d w2
    exact ⟨by simp [cp_382_0, u1, u2], by simp [cp_606_0, F1, F2], cal1_d (a := 0) (a' := 0) (Or.inr h) (by simp [cf_382_0, u2]) (by simp [cf_606_0, F2])⟩
theorem feed_al (h : Sm q B N1 b N2) : cp_375_0 v1 N1 ∧ cp_603_0 v1 N2 ∧ cal q B b N1 N2 (cf_375_0 v1 N1) (cf_603_0 v1 N2) := by
  obtain ⟨p1, c1⟩ := in_l 0 255 (by omega) (by omega) v1 (w0 := 0) (w := 255) (g0 := 0) (g := 255) rfl rfl rfl rfl
  rcases h with h | h
  · obtain ⟨w1, w2⟩ := Sm_u h
    obtain ⟨u1, u2⟩ := c104_u w1
    obtain ⟨F1, F2⟩ := f462_u (a := true) (st := true) w2
    have F2' : cf_462_0 true true N2 = (false, mz_pI N2 232 0 0) := F2
    obtain ⟨F3, F4⟩ := f462_u (a := false) (st := true) w2
    have F4' : cf_462_0 false true N2 = (true, mz_pI N2 232 0 1) := F4
    obtain ⟨F5, F6⟩ := f462_u (a := true) (st := false) w2
    have F6' : cf_462_0 true false N2 = (true, mz_pI N2 232 0 2) := F6
    obtain ⟨F7, F8⟩ := f462_u (a := false) (st := false) w2
    have F8' : cf_462_0 false false N2 = (true, mz_pI N2 232 0 1) := F8
    obtain ⟨p, C, s, D, H, x, L, R, h1, h2, h3, h4, h5, h6⟩ := id h
    obtain ⟨t1, t2, t3, t4⟩ := h4.re
    have t2' : (mz_pI N2 232 0 0).1 232 143 = nI R.rn := t2
    have l196 : (nI R.rn < 4100) = (R.rn < 4100) := propext (nI_ltI (b := 4100) (by omega) (by omega))
    rcases c1 with ⟨a1, la1, ha1, rfl, i1, j1⟩ | ⟨i1, j1⟩
    · by_cases w : R.rn < 4100
      · have w0 : (R.rn < 4100) = True := eq_true w
        have ib : mz_ib (nI R.rn) 4100 := ib_n w (by omega)
        have eb : mz_nb (mz_i2b (nI a1)) = by8 a1 := i2b_n a1
        generalize hM1 : mz_pI (mz_wI N1 229 (nI R.rn) (nI a1)) 1 12 (nI (R.rn + 1)) = M1
        generalize hM2 : mz_pI (mz_wI (mz_pI N2 232 0 0) 335 (nI R.rn) (by8 a1)) 232 143 (nI (R.rn + 1)) = M2
        have y1 : (mz_wI N1 229 (nI R.rn) (nI a1)).1 1 12 = nI R.rn := by rw [wI_ne (by decide)]; exact t1
        have y2 : (mz_wI (mz_pI N2 232 0 0) 335 (nI R.rn) (by8 a1)).1 232 143 = nI R.rn := by rw [wI_ne (by decide)]; exact t2'
        have z1 : M1.1 1 12 = nI (R.rn + 1) := by rw [← hM1, pI_s, sI_e, up_a, if_pos rfl]
        have z2 : M2.1 232 143 = nI (R.rn + 1) := by rw [← hM2, pI_s, sI_e, up_a, if_pos rfl]
        have f1 : fq [1, 229] [] N1 M1 := by rw [← hM1]; exact fq_pI (fq_wI (fq_refl _ _ _) rfl) rfl
        have f2 : fq [232, 335] [] N2 M2 := by rw [← hM2]; exact fq_pI (fq_wI (fq_pI (fq_refl _ _ _) rfl) rfl) rfl
        have i2 : ∀ f, f ≠ 0 → f ≠ 143 → M2.1 232 f = N2.1 232 f := fun f g0 g1 => by rw [← hM2, pI_s, sI_e, up_a, if_neg g1, wI_ne (by decide), pI_s, sI_e, up_a, if_neg g0]
        have k1 : ∀ f, f ≠ 12 → M1.1 1 f = N1.1 1 f := fun f g => by rw [← hM1, pI_s, sI_e, up_a, if_neg g, wI_ne (by decide)]
        have h0 : M2.1 232 0 = 0 := by rw [← hM2, pI_s, sI_e, up_a, if_neg (by decide), wI_ne (by decide)]; exact code_0
        have mr : MR p C s D H x L M1 b M2 := MR_q h3 f1 f2 rfl rfl rfl rfl (fun f hf => i2 f (fun z => by rw [z] at hf; cases hf) (fun z => by rw [z] at hf; cases hf)) (f2.2 232 rfl) (ckp_q h3.cs.ks.kc f1 rfl rfl) (rkp_q h3.cs.ks.kr f2 rfl rfl (i2 27 (by decide) (by decide)) (i2 21 (by decide) (by decide)) (fun f _ => by rw [f2.2 232 rfl]))
        have rs : RsR H L (R.dr, R.bs, R.ve, R.tl, R.tx, R.wr, R.wh, R.lg, R.tn, R.ta, R.rn + 1, up R.ra R.rn a1) M1 M2 := by
          obtain ⟨a1', a2, a3, a4, a5, a6, a7, a8, a9, a10, a11, a12, a13, a14, a15⟩ := h4
          refine ⟨fun d hd i hi => ?_, ?_, a3, ?_, ?_, ?_, ?_, ?_, a9, ?_, ?_, ?_, ?_, a14, a15⟩
          · have d1 : M1.1 (5 + d) = N1.1 (5 + d) ∧ M1.1 (9 + d) = N1.1 (9 + d) := by
              rcases (show d = 0 ∨ d = 1 ∨ d = 2 by omega) with w | w | w <;> subst w <;> exact ⟨f1.1 _ rfl, f1.1 _ rfl⟩
            rw [d1.1, d1.2]; exact a1' d hd i hi
          · rw [f2.1 233 rfl]; exact a2
          · rw [f1.1 2 rfl, i2 4 (by decide) (by decide)]; exact a4
          · rw [f1.1 41 rfl, i2 25 (by decide) (by decide)]; exact a5
          · rw [f1.1 42 rfl, f2.1 251 rfl]; exact a6
          · rw [i2 36 (by decide) (by decide), i2 34 (by decide) (by decide), i2 35 (by decide) (by decide), f1.1 41 rfl]; exact a7
          · rw [f1.1 109 rfl, f2.1 316 rfl]; exact a8
          · rw [f1.1 100 rfl, i2 112 (by decide) (by decide)]; exact a10
          · rw [f1.1 111 rfl, f1.1 112 rfl, f1.1 113 rfl, f1.1 114 rfl, f2.2 317 rfl, f2.1 318 rfl, f2.1 319 rfl, f2.1 320 rfl]; exact a11
          · rw [k1 10 (by decide), f1.1 228 rfl, f2.1 334 rfl, i2 141 (by decide) (by decide)]; exact a12
          · refine ⟨z1, z2, by show R.rn + 1 ≤ 4100; omega, fun i hi => ?_⟩
            have hi' : i < R.rn + 1 := hi
            show M1.1 229 i = nI (up R.ra R.rn a1 i) ∧ M2.1 335 i = by8 (up R.ra R.rn a1 i) ∧ up R.ra R.rn a1 i < 256
            rw [← hM1, ← hM2, pI_s, sI_n (by decide), pI_s, sI_n (by decide), wI_at (by omega), wI_at (by omega), up_d]
            by_cases e : i = R.rn
            · rw [if_pos e, if_pos e, if_pos e]; exact ⟨rfl, rfl, by omega⟩
            · rw [if_neg e, if_neg e, if_neg e]
              exact t4 i (by omega)
        have e1 : cf_375_0 (nI a1) N1 = (0, nI (R.rn + 1), M1) := by simp [cf_375_0, cf_375_30, cf_375_62, cf_187_0, u2, i1, t1, l196, w0, y1, nI_1, hM1, z1]
        have e2 : cf_603_0 (nI a1) N2 = (nI (R.rn + 1), M2) := by simp [cf_603_0, cf_603_25, cf_603_54, j1, F2', t2, t2', l196, w0, eb, y2, nI_1, hM2, z2]
        refine ⟨by simp [cp_375_0, cp_375_30, cp_375_62, cf_187_0, u1, u2, p1, i1, t1, l196, w0, ib], by simp [cp_603_0, cp_603_25, cp_603_54, j1, F1, F2', t2, t2', l196, w0, ib], ?_⟩
        rw [e1, e2]
        exact cal_u h0 rfl (oF_q f1 f2 rfl rfl rfl rfl) ⟨p, C, s, D, H, x, L, _, h1, h2, mr, rs, h5, h6⟩
      · have w0 : (R.rn < 4100) = False := eq_false w
        exact ⟨by simp [cp_375_0, cp_375_30, cf_187_0, u1, u2, p1, i1, t1, l196, w0], by simp [cp_603_0, cp_603_25, j1, F5, F6', t2, l196, w0], Sm_r (a := 0) (a' := 0) (Or.inl h) (Or.inr rfl) (by simp [cf_375_0, cf_375_30, cf_187_0, u2, i1, t1, l196, w0]) (by simp [cf_603_0, cf_603_25, j1, F6', t2, l196, w0]; rfl)⟩
    · by_cases w : R.rn < 4100
      · have w0 : (R.rn < 4100) = True := eq_true w
        exact ⟨by simp [cp_375_0, u1, u2, p1, i1], by simp [cp_603_0, cp_603_25, j1, F3, F4', t2, l196, w0], Sm_r (a := 0) (a' := 0) (Or.inl h) (Or.inl rfl) (by simp [cf_375_0, u2, i1]) (by simp [cf_603_0, cf_603_25, j1, F4', t2, l196, w0, n01])⟩
      · have w0 : (R.rn < 4100) = False := eq_false w
        exact ⟨by simp [cp_375_0, u1, u2, p1, i1], by simp [cp_603_0, cp_603_25, j1, F7, F8', t2, l196, w0], Sm_r (a := 0) (a' := 0) (Or.inl h) (Or.inl rfl) (by simp [cf_375_0, u2, i1]) (by simp [cf_603_0, cf_603_25, j1, F8', t2, l196, w0, n01])⟩
  · obtain ⟨w1, w2⟩ := Sm_d h
    obtain ⟨u1, u2⟩ := c104_d w1
    obtain ⟨F1, F2⟩ := F_d w2
    exact ⟨by simp [cp_375_0, u1, u2], by simp [cp_603_0, cp_603_25, F1, F2], Sm_r (a := 0) (a' := 0) (Or.inr h) (Or.inr rfl) (by simp [cf_375_0, u2]) (by simp [cf_603_0, cf_603_25, F2]; rfl)⟩
theorem poke_al (h : Sm q B N1 b N2) : cp_380_0 v1 v2 N1 ∧ cp_605_0 v1 v2 N2 ∧ cal q B b N1 N2 (cf_380_0 v1 v2 N1) (cf_605_0 v1 v2 N2) := by
  obtain ⟨p2, c2⟩ := in_l 0 255 (by omega) (by omega) v2 (w0 := 0) (w := 255) (g0 := 0) (g := 255) rfl rfl rfl rfl
  rcases h with h | h
  · obtain ⟨w1, w2⟩ := Sm_u h
    obtain ⟨u1, u2⟩ := c104_u w1
    obtain ⟨F1, F2⟩ := f462_u (a := true) (st := true) w2
    have F2' : cf_462_0 true true N2 = (false, mz_pI N2 232 0 0) := F2
    obtain ⟨F3, F4⟩ := f462_u (a := false) (st := true) w2
    have F4' : cf_462_0 false true N2 = (true, mz_pI N2 232 0 1) := F4
    obtain ⟨F5, F6⟩ := f462_u (a := true) (st := false) w2
    have F6' : cf_462_0 true false N2 = (true, mz_pI N2 232 0 2) := F6
    obtain ⟨F7, F8⟩ := f462_u (a := false) (st := false) w2
    have F8' : cf_462_0 false false N2 = (true, mz_pI N2 232 0 1) := F8
    obtain ⟨p, C, s, D, H, x, L, R, h1, h2, h3, h4, h5, h6⟩ := id h
    obtain ⟨t1, t2, t3, t4⟩ := h4.re
    obtain ⟨p1, c1⟩ := m1_105 (v := v1) (n := R.rn) (by omega)
    rw [← t1] at p1 c1
    rcases c1 with ⟨k, hk, rfl, i1, j1, j1'⟩ | ⟨i1, j1⟩
    · rw [t1] at j1'
      have z0 : (nI k < 0) = False := eq_false j1
      have z0' : (nI k < nI R.rn) = True := eq_true j1'
      rcases c2 with ⟨a1, la1, ha1, rfl, i2', j2⟩ | ⟨i2', j2⟩
      · have ib : mz_ib (nI k) 4100 := ib_n (by omega) (by omega)
        have eb : mz_nb (mz_i2b (nI a1)) = by8 a1 := i2b_n a1
        obtain ⟨y1, y2, y3⟩ := t4 k hk
        have ga : mz_gI N1 229 (nI k) = nI (R.ra k) := by rw [gI_a, nI_clamp (by omega)]; exact y1
        have gb : mz_gI (mz_pI N2 232 0 0) 335 (nI k) = by8 (R.ra k) := by rw [gI_a, nI_clamp (by omega)]; exact y2
        have gc := by8_and _ y3
        generalize hM1 : mz_wI N1 229 (nI k) (nI a1) = M1
        generalize hM2 : mz_wI (mz_pI N2 232 0 0) 335 (nI k) (by8 a1) = M2
        have f1 : fq [229] [] N1 M1 := by rw [← hM1]; exact fq_wI (fq_refl _ _ _) rfl
        have f2 : fq [232, 335] [] N2 M2 := by rw [← hM2]; exact fq_wI (fq_pI (fq_refl _ _ _) rfl) rfl
        have i2 : ∀ f, f ≠ 0 → f ≠ 1000 → M2.1 232 f = N2.1 232 f := fun f g0 g1 => by rw [← hM2, wI_ne (by decide), pI_s, sI_e, up_a, if_neg g0]
        have h0 : M2.1 232 0 = 0 := by rw [← hM2, wI_ne (by decide)]; exact code_0
        have mr : MR p C s D H x L M1 b M2 := MR_q h3 f1 f2 rfl rfl rfl rfl (fun f hf => i2 f (fun z => by rw [z] at hf; cases hf) (fun z => by rw [z] at hf; cases hf)) (f2.2 232 rfl) (ckp_q h3.cs.ks.kc f1 rfl rfl) (rkp_q h3.cs.ks.kr f2 rfl rfl (i2 27 (by decide) (by decide)) (i2 21 (by decide) (by decide)) (fun f _ => by rw [f2.2 232 rfl]))
        have rs : RsR H L (R.dr, R.bs, R.ve, R.tl, R.tx, R.wr, R.wh, R.lg, R.tn, R.ta, R.rn, up R.ra k a1) M1 M2 := by
          obtain ⟨a1', a2, a3, a4, a5, a6, a7, a8, a9, a10, a11, a12, a13, a14, a15⟩ := h4
          refine ⟨fun d hd i hi => ?_, ?_, a3, ?_, ?_, ?_, ?_, ?_, a9, ?_, ?_, ?_, ?_, a14, a15⟩
          · have d1 : M1.1 (5 + d) = N1.1 (5 + d) ∧ M1.1 (9 + d) = N1.1 (9 + d) := by
              rcases (show d = 0 ∨ d = 1 ∨ d = 2 by omega) with w | w | w <;> subst w <;> exact ⟨f1.1 _ rfl, f1.1 _ rfl⟩
            rw [d1.1, d1.2]; exact a1' d hd i hi
          · rw [f2.1 233 rfl]; exact a2
          · rw [f1.1 2 rfl, i2 4 (by decide) (by decide)]; exact a4
          · rw [f1.1 41 rfl, i2 25 (by decide) (by decide)]; exact a5
          · rw [f1.1 42 rfl, f2.1 251 rfl]; exact a6
          · rw [i2 36 (by decide) (by decide), i2 34 (by decide) (by decide), i2 35 (by decide) (by decide), f1.1 41 rfl]; exact a7
          · rw [f1.1 109 rfl, f2.1 316 rfl]; exact a8
          · rw [f1.1 100 rfl, i2 112 (by decide) (by decide)]; exact a10
          · rw [f1.1 111 rfl, f1.1 112 rfl, f1.1 113 rfl, f1.1 114 rfl, f2.2 317 rfl, f2.1 318 rfl, f2.1 319 rfl, f2.1 320 rfl]; exact a11
          · rw [f1.1 1 rfl, f1.1 228 rfl, f2.1 334 rfl, i2 141 (by decide) (by decide)]; exact a12
          · rw [f1.1 1 rfl, i2 143 (by decide) (by decide)]
            refine ⟨t1, t2, t3, fun i hi => ?_⟩
            have hi' : i < R.rn := hi
            show M1.1 229 i = nI (up R.ra k a1 i) ∧ M2.1 335 i = by8 (up R.ra k a1 i) ∧ up R.ra k a1 i < 256
            rw [← hM1, ← hM2, wI_at (by omega), wI_at (by omega), up_d]
            by_cases e : i = k
            · rw [if_pos e, if_pos e, if_pos e]; exact ⟨rfl, rfl, by omega⟩
            · rw [if_neg e, if_neg e, if_neg e]
              exact t4 i (by omega)
        have e1 : cf_380_0 (nI k) (nI a1) N1 = (0, nI (R.ra k), M1) := by simp [cf_380_0, u2, i1, i2', ga, hM1]
        have e2 : cf_605_0 (nI k) (nI a1) N2 = (nI (R.ra k), M2) := by simp [cf_605_0, cf_605_30, z0, z0', t2, j2, F2', gb, gc, eb, hM2]
        refine ⟨by simp [cp_380_0, u1, u2, p1, p2, i1, i2', ib], by simp [cp_605_0, cp_605_30, z0, z0', t2, j2, F1, F2', ib], ?_⟩
        rw [e1, e2]
        exact cal_u h0 rfl (oF_q f1 f2 rfl rfl rfl rfl) ⟨p, C, s, D, H, x, L, _, h1, h2, mr, rs, h5, h6⟩
      · exact ⟨by simp [cp_380_0, u1, u2, p1, p2, i1, i2'], by simp [cp_605_0, cp_605_29, cp_605_30, z0, z0', t2, j2, F3, F4'], Sm_r (a := 0) (a' := 0) (Or.inl h) (Or.inl rfl) (by simp [cf_380_0, u2, i1, i2']) (by simp [cf_605_0, cf_605_29, cf_605_30, z0, z0', t2, j2, F4', n01])⟩
    · refine ⟨by simp [cp_380_0, u1, u2, p1, i1], ?_, Sm_r (a := 0) (a' := 0) (Or.inl h) (Or.inl rfl) (by simp [cf_380_0, u2, i1]) ?_⟩
      · rw [t1] at j1
        by_cases a : v1 < 0
        · simp [cp_605_0, cp_605_29, cp_605_30, a, F3, F4']
        · have a2 : ¬ v1 < nI R.rn := by rcases j1 with z | z; exact absurd z a; exact z
          simp [cp_605_0, cp_605_29, cp_605_30, a, a2, t2, F3, F4']
      · rw [t1] at j1
        by_cases a : v1 < 0
        · simp [cf_605_0, cf_605_29, cf_605_30, a, F4', n01]
        · have a2 : ¬ v1 < nI R.rn := by rcases j1 with z | z; exact absurd z a; exact z
          simp [cf_605_0, cf_605_29, cf_605_30, a, a2, t2, F4', n01]
  · obtain ⟨w1, w2⟩ := Sm_d h
    obtain ⟨u1, u2⟩ := c104_d w1
    obtain ⟨F1, F2⟩ := F_d w2
    exact ⟨by simp [cp_380_0, u1, u2], by simp [cp_605_0, cp_605_30, cp_605_29, F1, F2], Sm_r (a := 0) (a' := 0) (Or.inr h) (Or.inr rfl) (by simp [cf_380_0, u2]) (by simp [cf_605_0, cf_605_30, cf_605_29, F2]; rfl)⟩
end Rl
