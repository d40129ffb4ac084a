/-! PURE (50zzzzzk): calls that change only what lives beside. -/
def mrA : List Nat := lrA ++ [219, 221, 222, 223, 224, 115, 122, 130, 131, 132, 133, 134, 136, 137, 139, 140, 141]
def mrC : List Nat := lrC ++ [329, 330, 331, 293, 294, 296, 297, 302, 303]
def mrD : List Nat := lrD ++ [295, 298, 304]
def mrI : List Nat := [7, 28, 52, 53, 54, 55, 56, 57, 58, 59, 60, 61, 62, 63, 64, 65, 72, 96, 133, 135, 136, 137]
section Tx
variable {N N1 N2 M1 M2 : mz_N} {b : Bool} {B q : Nat} {s : st_S} {D H : Kp} {x : CrS} {L : LvS} {R R' : RsS} {v v1 v2 v3 : Int32}
theorem MR_q {A1 B1 A2 B2 : List Nat} (h : MR q B s D H x L N1 b N2) (f1 : fq A1 B1 N1 M1) (f2 : fq A2 B2 N2 M2) (a1 : mrA.all (fun c => !A1.contains c) = true) (b1' : lrB.all (fun c => !B1.contains c) = true) (a2 : mrC.all (fun c => !A2.contains c) = true) (b2 : mrD.all (fun c => !B2.contains c) = true) (i2 : ∀ f, mrI.contains f = true → M2.1 232 f = N2.1 232 f) (l2 : M2.2 232 = N2.2 232) (hc : c_kp M1 b H) (hr : r_kp M2 H) : MR q B s D H x L M1 b M2 := by
  have ii : ∀ f, 52 ≤ f → f ≤ 65 → mrI.contains f = true := fun f h1 h2 => (show ∀ f, f < 66 → 52 ≤ f → mrI.contains f = true by decide +kernel) f (by omega) h1
  have hs := stK_of f1 f2 (al_sub a1 rfl) (al_sub a2 rfl) (fun f hf => i2 f (by rcases hf with w | w | w | w <;> subst w <;> rfl)) (by rw [l2])
  exact ⟨⟨KS_B h.cs.ks hs rfl hc hr, crC_f h.cs.cc f1 (al_sub a1 rfl) rfl, crR_f h.cs.cr f2 (al_sub a2 rfl) (al_sub b2 rfl) (i2 96 rfl) (by rw [l2]) rfl⟩, LR_q h.lr f1 f2 (al_sub a1 rfl) b1' (al_sub a2 rfl) (al_sub b2 rfl) (fun f hf => i2 f (by
    rcases hf with w | w | ⟨w1, w2⟩ | w
    · subst w; rfl
    · subst w; rfl
    · exact ii f w1 w2
    · subst w; rfl)) (fun f _ => by rw [l2]), h.iv⟩
/-- a call that went well -/
theorem cal_u {α : Type} {a r : α} {K1 K2 : mz_N} (h0 : K2.1 232 0 = 0) (hr : r = a) (ho : oF N1 N2 K1 K2) (hu : Up q B K1 b K2) : cal q B b N1 N2 (0, a, K1) (r, K2) := ⟨Nat.zero_le _, h0, fun _ => hr, ho, Or.inl hu⟩
theorem cal1_u {α : Type} {a r : α} {K1 K2 : mz_N} (h0 : K2.1 232 0 = 0) (hr : r = a) (ho : oF N1 N2 K1 K2) (hu : Up q B K1 b K2)   : cal1 q B b N1 N2 (0, a, K1) (r, K2) := ⟨Or.inl rfl, (by show K2.1 232 0 = nI (0 / 2); rw [show (0 : Nat) / 2 = 0 from rfl]; exact h0), fun _ => hr, ho, Or.inl hu⟩
theorem type_al (h : Sm q B N1 b N2) : cp_186_0 v1 N1 ∧ cp_501_0 v1 N2 ∧ cal q B b N1 N2 (cf_186_0 v1 N1) (cf_501_0 v1 N2) := by
  obtain ⟨p1, c1⟩ := in_l 32 126 (by omega) (by omega) v1 (w0 := 32) (w := 126) (g0 := 32) (g := 126) rfl rfl rfl rfl
  rcases h with h | h
  · obtain ⟨w1, w2⟩ := Sm_u h
    obtain ⟨u1, u2⟩ := c104_u w1
    obtain ⟨F1, F2⟩ := f462_u (a := true) (st := true) w2
    have F2' : cf_462_0 true true N2 = (false, mz_pI N2 232 0 0) := F2
    obtain ⟨F3, F4⟩ := f462_u (a := false) (st := true) w2
    have F4' : cf_462_0 false true N2 = (true, mz_pI N2 232 0 1) := F4
    obtain ⟨F5, F6⟩ := f462_u (a := true) (st := false) w2
    have F6' : cf_462_0 true false N2 = (true, mz_pI N2 232 0 2) := F6
    obtain ⟨F7, F8⟩ := f462_u (a := false) (st := false) w2
    have F8' : cf_462_0 false false N2 = (true, mz_pI N2 232 0 1) := F8
    obtain ⟨p, C, s, D, H, x, L, R, h1, h2, h3, h4, h5, h6⟩ := id h
    obtain ⟨t1, t2, t3⟩ := h4.tl
    have t2' : (mz_pI N2 232 0 0).1 232 25 = nI R.tl := t2
    have l196 : (nI R.tl < 196) = (R.tl < 196) := propext (nI_ltI (b := 196) (by omega) (by omega))
    rcases c1 with ⟨a1, la1, ha1, rfl, i1, j1⟩ | ⟨i1, j1⟩
    · by_cases w : R.tl < 196
      · have w0 : (R.tl < 196) = True := eq_true w
        have ib : mz_ib (nI R.tl) 196 := ib_n w (by omega)
        generalize hM1 : mz_pI (mz_wI N1 42 (nI R.tl) (nI a1)) 41 1 (nI (R.tl + 1)) = M1
        generalize hM2 : mz_pI (mz_wI (mz_pI N2 232 0 0) 251 (nI R.tl) (nI a1)) 232 25 (nI (R.tl + 1)) = M2
        have y1 : (mz_wI N1 42 (nI R.tl) (nI a1)).1 41 1 = nI R.tl := by rw [wI_ne (by decide)]; exact t1
        have y2 : (mz_wI (mz_pI N2 232 0 0) 251 (nI R.tl) (nI a1)).1 232 25 = nI R.tl := by rw [wI_ne (by decide)]; exact t2'
        have z1 : M1.1 41 1 = nI (R.tl + 1) := by rw [← hM1, pI_s, sI_e, up_a, if_pos rfl]
        have z2 : M2.1 232 25 = nI (R.tl + 1) := by rw [← hM2, pI_s, sI_e, up_a, if_pos rfl]
        have f1 : fq [41, 42] [] N1 M1 := by rw [← hM1]; exact fq_pI (fq_wI (fq_refl _ _ _) rfl) rfl
        have f2 : fq [232, 251] [] N2 M2 := by rw [← hM2]; exact fq_pI (fq_wI (fq_pI (fq_refl _ _ _) rfl) rfl) rfl
        have i2 : ∀ f, f ≠ 0 → f ≠ 25 → M2.1 232 f = N2.1 232 f := fun f g0 g1 => by rw [← hM2, pI_s, sI_e, up_a, if_neg g1, wI_ne (by decide), pI_s, sI_e, up_a, if_neg g0]
        have k41 : ∀ f, f ≠ 1 → M1.1 41 f = N1.1 41 f := fun f g => by rw [← hM1, pI_s, sI_e, up_a, if_neg g, wI_ne (by decide)]
        have h0 : M2.1 232 0 = 0 := by rw [← hM2, pI_s, sI_e, up_a, if_neg (by decide), wI_ne (by decide)]; exact code_0
        have mr : MR p C s D H x L M1 b M2 := MR_q h3 f1 f2 rfl rfl rfl rfl (fun f hf => i2 f (fun z => by rw [z] at hf; cases hf) (fun z => by rw [z] at hf; cases hf)) (f2.2 232 rfl) (ckp_q h3.cs.ks.kc f1 rfl rfl) (rkp_q h3.cs.ks.kr f2 rfl rfl (i2 27 (by decide) (by decide)) (i2 21 (by decide) (by decide)) (fun f _ => by rw [f2.2 232 rfl]))
        have rs : RsR H L (R.dr, R.bs, R.ve, R.tl + 1, up R.tx R.tl a1, R.wr, R.wh, R.lg, R.tn, R.ta, R.rn, R.ra) M1 M2 := by
          obtain ⟨a1', a2, a3, a4, a5, a6, a7, a8, a9, a10, a11, a12, a13, a14, a15⟩ := h4
          refine ⟨fun d hd i hi => ?_, ?_, a3, ?_, ⟨z1, z2, by show R.tl + 1 ≤ 196; omega⟩, fun i hi => ?_, ?_, ?_, a9, ?_, ?_, ?_, ?_, a14, a15⟩
          · have d1 : M1.1 (5 + d) = N1.1 (5 + d) ∧ M1.1 (9 + d) = N1.1 (9 + d) := by
              rcases (show d = 0 ∨ d = 1 ∨ d = 2 by omega) with w | w | w <;> subst w <;> exact ⟨f1.1 _ rfl, f1.1 _ rfl⟩
            rw [d1.1, d1.2]; exact a1' d hd i hi
          · rw [f2.1 233 rfl]; exact a2
          · rw [f1.1 2 rfl, i2 4 (by decide) (by decide)]; exact a4
          · have hi' : i < R.tl + 1 := hi
            show M1.1 42 i = nI (up R.tx R.tl a1 i) ∧ M2.1 251 i = nI (up R.tx R.tl a1 i) ∧ 32 ≤ up R.tx R.tl a1 i ∧ up R.tx R.tl a1 i ≤ 126
            rw [← hM1, ← hM2, pI_s, sI_n (by decide), pI_s, sI_n (by decide), wI_at (by omega), wI_at (by omega), up_d]
            by_cases e : i = R.tl
            · rw [if_pos e, if_pos e, if_pos e]; exact ⟨rfl, rfl, la1, ha1⟩
            · rw [if_neg e, if_neg e, if_neg e]
              exact a6 i (by omega)
          · rw [i2 36 (by decide) (by decide), i2 34 (by decide) (by decide), i2 35 (by decide) (by decide), k41 4 (by decide), k41 5 (by decide)]; exact a7
          · rw [f1.1 109 rfl, f2.1 316 rfl]; exact a8
          · rw [f1.1 100 rfl, i2 112 (by decide) (by decide)]; exact a10
          · rw [f1.1 111 rfl, f1.1 112 rfl, f1.1 113 rfl, f1.1 114 rfl, f2.2 317 rfl, f2.1 318 rfl, f2.1 319 rfl, f2.1 320 rfl]; exact a11
          · rw [f1.1 1 rfl, f1.1 228 rfl, f2.1 334 rfl, i2 141 (by decide) (by decide)]; exact a12
          · rw [f1.1 1 rfl, f1.1 229 rfl, f2.1 335 rfl, i2 143 (by decide) (by decide)]; exact a13
        have e1 : cf_186_0 (nI a1) N1 = (0, nI (R.tl + 1), M1) := by simp [cf_186_0, cf_186_30, cf_186_62, cf_187_0, u2, i1, t1, l196, w0, y1, nI_1, hM1, z1]
        have e2 : cf_501_0 (nI a1) N2 = (nI (R.tl + 1), M2) := by simp [cf_501_0, cf_501_27, cf_501_55, j1, F2', t2, t2', l196, w0, y2, nI_1, hM2, z2]
        refine ⟨by simp [cp_186_0, cp_186_30, cp_186_62, cf_187_0, u1, u2, p1, i1, t1, l196, w0, ib], by simp [cp_501_0, cp_501_27, cp_501_55, j1, F1, F2', t2, t2', l196, w0, ib], ?_⟩
        rw [e1, e2]
        exact cal_u h0 rfl (oF_q f1 f2 rfl rfl rfl rfl) ⟨p, C, s, D, H, x, L, _, h1, h2, mr, rs, h5, h6⟩
      · have w0 : (R.tl < 196) = False := eq_false w
        exact ⟨by simp [cp_186_0, cp_186_30, cf_187_0, u1, u2, p1, i1, t1, l196, w0], by simp [cp_501_0, cp_501_27, j1, F5, F6', t2, l196, w0], Sm_r (a := 0) (a' := 0) (Or.inl h) (Or.inr rfl) (by simp [cf_186_0, cf_186_30, cf_187_0, u2, i1, t1, l196, w0]) (by simp [cf_501_0, cf_501_27, j1, F6', t2, l196, w0]; rfl)⟩
    · by_cases w : R.tl < 196
      · have w0 : (R.tl < 196) = True := eq_true w
        exact ⟨by simp [cp_186_0, u1, u2, p1, i1], by simp [cp_501_0, cp_501_27, j1, F3, F4', t2, l196, w0], Sm_r (a := 0) (a' := 0) (Or.inl h) (Or.inl rfl) (by simp [cf_186_0, u2, i1]) (by simp [cf_501_0, cf_501_27, j1, F4', t2, l196, w0, n01])⟩
      · have w0 : (R.tl < 196) = False := eq_false w
        exact ⟨by simp [cp_186_0, u1, u2, p1, i1], by simp [cp_501_0, cp_501_27, j1, F7, F8', t2, l196, w0], Sm_r (a := 0) (a' := 0) (Or.inl h) (Or.inl rfl) (by simp [cf_186_0, u2, i1]) (by simp [cf_501_0, cf_501_27, j1, F8', t2, l196, w0, n01])⟩
  · obtain ⟨w1, w2⟩ := Sm_d h
    obtain ⟨u1, u2⟩ := c104_d w1
    obtain ⟨F1, F2⟩ := F_d w2
    exact ⟨by simp [cp_186_0, u1, u2], by simp [cp_501_0, cp_501_27, F1, F2], Sm_r (a := 0) (a' := 0) (Or.inr h) (Or.inr rfl) (by simp [cf_186_0, u2]) (by simp [cf_501_0, cf_501_27, F2]; rfl)⟩
end Tx
