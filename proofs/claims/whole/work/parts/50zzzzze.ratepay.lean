/-! PURE (50zzzzze): rate, pay. -/
section Rp
variable {N N1 N2 : mz_N} {b : Bool} {B q : Nat} {v v1 v2 v3 : Int32}
theorem rate_al (hB : B + 1 < 2 ^ 30) (h : Sm q B N1 b N2) : cp_179_0 v1 v2 v3 N1 b ∧ cp_498_0 v1 v2 v3 N2 ∧ cal q (B + 1) b N1 N2 (cf_179_0 v1 v2 v3 N1 b) (cf_498_0 v1 v2 v3 N2) := by
  obtain ⟨p1, c1⟩ := in_l 0 10 (by omega) (by omega) v1 (w0 := 0) (w := 10) (g0 := 0) (g := 10) rfl rfl rfl rfl
  obtain ⟨p2, c2⟩ := in_l 1 500 (by omega) (by omega) v2 (w0 := 1) (w := 500) (g0 := 1) (g := 500) rfl rfl rfl rfl
  obtain ⟨p3, c3⟩ := in_l 0 9 (by omega) (by omega) v3 (w0 := 0) (w := 9) (g0 := 0) (g := 9) rfl rfl rfl rfl
  rcases h with h | h
  · obtain ⟨w1, w2⟩ := Sm_u h
    obtain ⟨u1, u2⟩ := c104_u w1
    obtain ⟨F1, F2⟩ := f462_u (a := true) (st := true) w2
    obtain ⟨F3, F4⟩ := f462_u (a := false) (st := true) w2
    have F2' : cf_462_0 true true N2 = (false, mz_pI N2 232 0 0) := F2
    have F4' : cf_462_0 false true N2 = (true, mz_pI N2 232 0 1) := F4
    rcases c1 with ⟨a1, _, ha1, rfl, i1, j1⟩ | ⟨i1, j1⟩
    · rcases c2 with ⟨a2, la2, ha2, rfl, i2, j2⟩ | ⟨i2, j2⟩
      · rcases c3 with ⟨a3, _, ha3, rfl, i3, j3⟩ | ⟨i3, j3⟩
        · obtain ⟨p, C, s, D, H, x, L, R, h1, h2, h3, h4, h5, h6⟩ := h
          have ib : mz_ib (nI a1) 11 := ib_n (by omega) (by omega)
          have k3 := h3.cs.ks.kc.2.2.2.2.2.2.2.1
          have r3 := h3.cs.ks.kr.2.2.2.2.2.2.2.1
          have ga : mz_gI N1 62 (nI a1) = H.2.1 1 a1 := by rw [gI_a, nI_clamp (by omega)]; exact (k3 _ (by omega)).1
          have gb : mz_gI (mz_pI N2 232 0 0) 247 (nI a1) = H.2.1 1 a1 := by rw [gI_a, nI_clamp (by omega)]; exact (r3 _ (by omega)).1
          generalize hM1 : mz_wI (mz_wI N1 62 (nI a1) (nI a2)) 63 (nI a1) (nI a3) = M1
          generalize hM2 : mz_wI (mz_wI (mz_pI N2 232 0 0) 247 (nI a1) (nI a2)) 248 (nI a1) (nI a3) = M2
          have f1 : fq [62, 63] [] N1 M1 := by rw [← hM1]; exact fq_wI (fq_wI (fq_refl _ _ _) rfl) rfl
          have f2 : fq [232, 247, 248] [] N2 M2 := by rw [← hM2]; exact fq_wI (fq_wI (fq_pI (fq_refl _ _ _) rfl) rfl) rfl
          have i232 : ∀ f, f ≠ 0 → M2.1 232 f = N2.1 232 f := fun f g0 => by rw [← hM2, wI_ne (by decide), wI_ne (by decide), pI_s, sI_e, up_a, if_neg g0]
          have l232 : ∀ f, f ≠ 122 → M2.2 232 f = N2.2 232 f := fun f _ => by rw [f2.2 232 rfl]
          have h0 : M2.1 232 0 = 0 := by rw [← hM2, wI_ne (by decide), wI_ne (by decide)]; exact code_0
          generalize hG : kS (kI H 1 a1 (nI a2)) 6 a1 a3 = G
          have g1 : ∀ f, f ≠ 6 → G.1 f = H.1 f := fun f hf => by rw [← hG]; exact kS1 f hf
          have g2 : ∀ f, f ≠ 1 → G.2.1 f = H.2.1 f := fun f hf => by rw [← hG]; exact kI1 f hf
          have g6 : G.1 6 = up (H.1 6) a1 a3 := by rw [← hG]; exact kS0
          have g7 : G.2.1 1 = up (H.2.1 1) a1 (nI a2) := by rw [← hG]; exact kI0
          have g8 : G.2.2 = H.2.2 := by rw [← hG]; rfl
          have n1 : ∀ j, j < 11 → M1.1 62 j = G.2.1 1 j ∧ M1.1 63 j = nI (G.1 6 j) := fun j hj => by
            rw [← hM1, wI_ne (by decide), wI_at (by omega), wI_at (by omega), wI_ne (by decide), g6, g7, up_d, up_d]
            split
            · exact ⟨rfl, rfl⟩
            · exact k3 j hj
          have n2 : ∀ j, j < 11 → M2.1 247 j = G.2.1 1 j ∧ M2.1 248 j = nI (G.1 6 j) := fun j hj => by
            rw [← hM2, wI_ne (by decide), wI_at (by omega), wI_at (by omega), wI_ne (by decide), g6, g7, up_d, up_d]
            split
            · exact ⟨rfl, rfl⟩
            · exact r3 j hj
          have rt : ∀ j, j < 11 → ∃ r, 1 ≤ r ∧ r ≤ 500 ∧ G.2.1 1 j = nI r := fun j hj => by
            rw [g7, up_d]; split
            · exact ⟨a2, la2, ha2, rfl⟩
            · exact h3.iv.kb.rt j hj
          have ha : gka [(7, 1), (7, 0)] := gka_c (by omega) (by omega) (by decide) (gka_c (by omega) (by omega) (by decide) gka_n)
          have t : tld N1 N2 M1 M2 b G [(7, 1), (7, 0)] := ⟨ckp_7 h3.cs.ks.kc f1 rfl rfl g1 g2 (fun f => by rw [g8]) n1, rkp_7 h3.cs.ks.kr f2 rfl rfl (i232 27 (by decide)) (i232 21 (by decide)) (fun f _ => by rw [f2.2 232 rfl]) g1 g2 (fun f => by rw [g8]) n2, ha, by show 2 ≤ 16; omega, al_c (kxt_n (show 7 ≤ 12 by omega)) (al_c (kxt_n (show 7 ≤ 12 by omega)) al_n), al_c ⟨fun z => absurd z (by show (7 : Nat) ≠ 4; decide), fun _ z => absurd z (by show (1 : Nat) ≠ 0; decide), fun z => absurd z (by show (7 : Nat) ≠ 12; decide)⟩ (al_c ⟨fun z => absurd z (by show (7 : Nat) ≠ 4; decide), fun _ _ t ht => by
            obtain ⟨r, e1, e2, e3⟩ := rt t ht
            exact ⟨r, e2, e3⟩, fun z => absurd z (by show (7 : Nat) ≠ 12; decide)⟩ al_n), gtx_n ha (al_c (show (7 : Nat) ≠ 6 by decide) (al_c (show (7 : Nat) ≠ 6 by decide) al_n)), Or.inr (al_c (show (7 : Nat) < 8 ∨ 12 ≤ 7 by decide) (al_c (show (7 : Nat) < 8 ∨ 12 ≤ 7 by decide) al_n))⟩
          have hb : kpb G := by
            obtain ⟨y0, y1, y2, y3, y5, y4, yt4, y6, y7, y8, y9, y12, y13, y15, y16, y19, y20⟩ := h3.cs.ks.hb
            unfold kpb
            rw [g6]
            refine ⟨by rw [g1 0 (by decide)]; exact y0, by rw [g1 1 (by decide)]; exact y1, by rw [g1 2 (by decide)]; exact y2, by rw [g1 3 (by decide)]; exact y3, by rw [g1 5 (by decide)]; exact y5, by rw [g1 4 (by decide)]; exact y4, by rw [g1 4 (by decide), g1 5 (by decide)]; exact yt4, fun j => ?_, by rw [g1 7 (by decide)]; exact y7, by rw [g1 8 (by decide)]; exact y8, by rw [g1 9 (by decide), g1 10 (by decide), g1 11 (by decide)]; exact y9, by rw [g1 12 (by decide)]; exact y12, by rw [g1 13 (by decide), g1 14 (by decide)]; exact y13, by rw [g1 15 (by decide)]; exact y15, by rw [g1 16 (by decide), g1 17 (by decide), g1 18 (by decide)]; exact y16, by rw [g1 19 (by decide)]; exact y19, by rw [g1 20 (by decide), g1 21 (by decide)]; exact y20⟩
            rw [up_d]; split
            · omega
            · exact y6 j
          have hk : KB p G := by
            obtain ⟨d1, d2, d3, d4, d5, d6, d7, d8, d9, d10, d11, d12, d13, d14, d15, d16, d17⟩ := h3.iv.kb
            refine ⟨by rw [g1 2 (by decide)]; exact d1, fun j hj => ?_, rt, by rw [g2 0 (by decide)]; exact d4, by rw [g2 6 (by decide)]; exact d5, by rw [g2 6 (by decide)]; exact d6, by rw [g2 2 (by decide)]; exact d7, by rw [g2 3 (by decide)]; exact d8, by rw [g2 4 (by decide)]; exact d9, by rw [g2 5 (by decide)]; exact d10, by rw [g2 5 (by decide)]; exact d11, by rw [g2 5 (by decide)]; exact d12, by rw [g2 8 (by decide)]; exact d13, by rw [g1 19 (by decide), g1 20 (by decide), g1 21 (by decide)]; exact d14, by rw [g1 8 (by decide), g2 11 (by decide)]; exact d15, by rw [g1 8 (by decide), g1 9 (by decide), g1 10 (by decide), g1 11 (by decide)]; exact d16, by rw [g1 8 (by decide), g2 10 (by decide)]; exact d17⟩
            rw [g6, up_d]; split
            · exact ha3
            · exact d2 j hj
          have ix7 : ∀ k, k < 135 → kdk k = 7 → ixk k = 0 ∨ ixk k = 1 := by decide +kernel
          obtain ⟨P, Q, O⟩ := tell_al h3 h4 f1 f2 rfl rfl rfl rfl rfl rfl rfl rfl (fun f g _ => i232 f g) l232 t hb (g1 0 (by decide)) (g1 1 (by decide)) (g1 4 (by decide)) (g1 5 (by decide)) (g1 8 (by decide)) (fun _ _ z => by rw [g1 15 (by decide)]; exact z) (g1 19 (by decide)) (g2 11 (by decide)) (g2 5 (by decide)) hk (fun j hj z => by rw [g1 13 (by decide), g1 14 (by decide)]; exact MR_dr h3 j hj (by rw [← g1 12 (by decide)]; exact z)) (fun k hk' hw hn => by
            by_cases w : kdk k = 7
            · exfalso
              apply hn
              have e : kyo 7 (ixk k) = k := by rw [← w]; exact kyo_of k hk'
              have m : (7, ixk k) ∈ [((7 : Nat), (1 : Nat)), (7, 0)] := by
                rcases ix7 k hk' w with y | y <;> rw [y] <;> simp
              obtain ⟨i, e1, e2⟩ := gkl_m m
              exact ⟨i, e1, e2.trans e⟩
            · exact kgn_7 g1 g2 _ _ (kdk_ok k hk').1 (kdk_ok k hk').2.1 hw w)
          obtain ⟨q1, q2, w, K1, K2, o1, o2, o3, o4, o5, o6⟩ := wr_MR (by omega) P
          have s1 := gjc_p (N := M1) (k := (7, 1)) (l := [(7, 0)]) ha (show 1 < 16 by omega)
          have s2 := gjc_p (N := M1) (k := (7, 0)) (l := []) (gka_t ha) (show 0 < 16 by omega)
          have s3 := gjr_p (N := M2) (k := (7, 1)) (l := [(7, 0)]) ha (show 1 < 16 by omega)
          have s4 := gjr_p (N := M2) (k := (7, 0)) (l := []) (gka_t ha) (show 0 < 16 by omega)
          have s1' : cp_119_0 7 1 (cf_119_0 7 0 (cf_117_0 M1)) := s1
          have s2' : cp_119_0 7 0 (cf_117_0 M1) := s2
          have s3' : cp_472_0 7 1 (cf_472_0 7 0 (cf_471_0 M2)) := s3
          have s4' : cp_472_0 7 0 (cf_471_0 M2) := s4
          have q1' : cp_121_0 (cf_119_0 7 1 (cf_119_0 7 0 (cf_117_0 M1))) b := q1
          have q2' : cp_474_0 (cf_472_0 7 1 (cf_472_0 7 0 (cf_471_0 M2))) := q2
          have o1' : cf_121_0 (cf_119_0 7 1 (cf_119_0 7 0 (cf_117_0 M1))) b = (w, K1) := o1
          have o2' : cf_474_0 (cf_472_0 7 1 (cf_472_0 7 0 (cf_471_0 M2))) = (w, K2) := o2
          refine ⟨?_, ?_, ?_⟩
          · simp [cp_179_0, cp_179_105, u1, u2, p1, p2, p3, i1, i2, i3, ib, hM1, s1', s2', q1']
          · simp [cp_498_0, cp_498_42, cp_498_98, cp_498_103, j1, j2, j3, F1, F2', ib, hM2, s3', s4', q2']
          · have e1 : cf_179_0 (nI a1) (nI a2) (nI a3) N1 b = (0, (if w = true then H.2.1 1 a1 else -1001), K1) := by
              simp [cf_179_0, cf_179_105, u2, i1, i2, i3, ga, hM1, o1']
              split <;> rfl
            have e2 : cf_498_0 (nI a1) (nI a2) (nI a3) N2 = ((if w = true then H.2.1 1 a1 else -1001), K2) := by
              simp [cf_498_0, cf_498_42, cf_498_98, cf_498_103, j1, j2, j3, F2', gb, hM2, o2']
              split <;> rfl
            rw [e1, e2]
            exact grp_al h6 h1 (by omega) h5 P.lr Q O h0 o3 o4 o5 o6 rfl
        · exact ⟨by simp [cp_179_0, u1, u2, p1, p2, p3, i1, i2, i3], by simp [cp_498_0, cp_498_42, cp_498_41, j1, j2, j3, F3, F4'], cal_m (Nat.le_refl _) (Nat.le_succ _) (Sm_r (a := 0) (a' := 0) (Or.inl h) (Or.inl rfl) (by simp [cf_179_0, u2, i1, i2, i3]) (by simp [cf_498_0, cf_498_42, cf_498_41, j1, j2, j3, F4', n01]))⟩
      · exact ⟨by simp [cp_179_0, u1, u2, p1, p2, p3, i1, i2], by simp [cp_498_0, cp_498_42, cp_498_41, j1, j2, F3, F4'], cal_m (Nat.le_refl _) (Nat.le_succ _) (Sm_r (a := 0) (a' := 0) (Or.inl h) (Or.inl rfl) (by simp [cf_179_0, u2, i1, i2]) (by simp [cf_498_0, cf_498_42, cf_498_41, j1, j2, F4', n01]))⟩
    · exact ⟨by simp [cp_179_0, u1, u2, p1, p2, p3, i1], by simp [cp_498_0, cp_498_42, cp_498_41, j1, F3, F4'], cal_m (Nat.le_refl _) (Nat.le_succ _) (Sm_r (a := 0) (a' := 0) (Or.inl h) (Or.inl rfl) (by simp [cf_179_0, u2, i1]) (by simp [cf_498_0, cf_498_42, cf_498_41, j1, F4', n01]))⟩
  · obtain ⟨w1, w2⟩ := Sm_d h
    obtain ⟨u1, u2⟩ := c104_d w1
    obtain ⟨F1, F2⟩ := F_d w2
    exact ⟨by simp [cp_179_0, u1, u2], by simp [cp_498_0, cp_498_42, cp_498_41, F1, F2], cal_m (Nat.le_refl _) (Nat.le_succ _) (Sm_r (a := 0) (a' := 0) (Or.inr h) (Or.inr rfl) (by simp [cf_179_0, u2]) (by simp [cf_498_0, cf_498_42, cf_498_41, F2]; rfl))⟩
theorem pay_al (hB : B + 1 < 2 ^ 30) (h : Sm q B N1 b N2) : cp_362_0 v1 v2 N1 b ∧ cp_589_0 v1 v2 N2 ∧ cal q (B + 1) b N1 N2 (cf_362_0 v1 v2 N1 b) (cf_589_0 v1 v2 N2) := by
  obtain ⟨p1, c1⟩ := in_l 0 9 (by omega) (by omega) v1 (w0 := 0) (w := 9) (g0 := 0) (g := 9) rfl rfl rfl rfl
  obtain ⟨p2, c2⟩ := in_l 1 100000000 (by omega) (by omega) v2 (w0 := 1) (w := 100000000) (g0 := 1) (g := 100000000) rfl rfl rfl rfl
  rcases h with h | h
  · obtain ⟨w1, w2⟩ := Sm_u h
    obtain ⟨u1, u2⟩ := c104_u w1
    obtain ⟨F1, F2⟩ := f462_u (a := true) (st := true) w2
    obtain ⟨F3, F4⟩ := f462_u (a := false) (st := true) w2
    have F2' : cf_462_0 true true N2 = (false, mz_pI N2 232 0 0) := F2
    have F4' : cf_462_0 false true N2 = (true, mz_pI N2 232 0 1) := F4
    rcases c1 with ⟨a1, _, ha1, rfl, i1, j1⟩ | ⟨i1, j1⟩
    · rcases c2 with ⟨a2, la2, ha2, e2', i2, j2⟩ | ⟨i2, j2⟩
      · clear e2'
        obtain ⟨p, C, s, D, H, x, L, R, h1, h2, h3, h4, h5, h6⟩ := h
        have ib : mz_ib (nI a1) 10 := ib_n (by omega) (by omega)
        have k3 := h3.cs.ks.kc.2.2.2.2.2.2.2.2.2.1
        have r3 := h3.cs.ks.kr.2.2.2.2.2.2.2.2.2.1
        have k9 := h3.cs.ks.kc.2.2.2.2.2.2.2.2.2.2.1
        have r9 := h3.cs.ks.kr.2.2.2.2.2.2.2.2.2.2.1
        have ga : mz_gL N1 213 (nI a1) = H.2.2 0 a1 := by rw [gL_a, nI_clamp (by omega)]; exact (k3 _ (by omega)).1
        have gb : mz_gL (mz_pI N2 232 0 0) 324 (nI a1) = H.2.2 0 a1 := by rw [gL_a, nI_clamp (by omega)]; exact (r3 _ (by omega)).1
        have gc : (mz_wL N1 213 (nI a1) (H.2.2 0 a1 + v2.toInt64)).2 208 1 = H.2.2 2 0 := by rw [wL_ne (by decide)]; exact k9.2.1
        have gd : (mz_wL (mz_pI N2 232 0 0) 324 (nI a1) (H.2.2 0 a1 + v2.toInt64)).2 232 122 = H.2.2 2 0 := by rw [wL_ne (by decide)]; exact r9.2.1
        generalize hv : v2.toInt64 = c at gc gd j2
        generalize hM0 : mz_wL N1 213 (nI a1) (H.2.2 0 a1 + c) = M0
        generalize hM3 : mz_wL (mz_pI N2 232 0 0) 324 (nI a1) (H.2.2 0 a1 + c) = M3
        rw [hM0] at gc
        rw [hM3] at gd
        generalize hM1 : mz_pL M0 208 1 (H.2.2 2 0 + c) = M1
        generalize hM2 : mz_pL M3 232 122 (H.2.2 2 0 + c) = M2
        have f0 : fq [] [208, 213] N1 M0 := by rw [← hM0]; exact fq_wL (fq_refl _ _ _) rfl
        have f3 : fq [232] [232, 324] N2 M3 := by rw [← hM3]; exact fq_wL (fq_pI (fq_refl _ _ _) rfl) rfl
        have f1 : fq [] [208, 213] N1 M1 := by rw [← hM1]; exact fq_pL f0 rfl
        have f2 : fq [232] [232, 324] N2 M2 := by rw [← hM2]; exact fq_pL f3 rfl
        have i3 : ∀ f, f ≠ 0 → M3.1 232 f = N2.1 232 f := fun f g0 => by rw [← hM3, wL_1, pI_s, sI_e, up_a, if_neg g0]
        have i232 : ∀ f, f ≠ 0 → M2.1 232 f = N2.1 232 f := fun f g0 => by rw [← hM2]; exact i3 f g0
        have l3 : ∀ f, M3.2 232 f = N2.2 232 f := fun f => by rw [← hM3, wL_ne (by decide)]; rfl
        have l232 : ∀ f, f ≠ 122 → M2.2 232 f = N2.2 232 f := fun f hf => by rw [← hM2, pL_s, sL_e, upL_a, if_neg hf]; exact l3 f
        have h0 : M2.1 232 0 = 0 := by rw [← hM2]; show M3.1 232 0 = 0; rw [← hM3, wL_1]; exact code_0
        generalize hE : kL H 0 a1 (H.2.2 0 a1 + c) = E
        have e1 : E.1 = H.1 := by rw [← hE]; rfl
        have e2 : E.2.1 = H.2.1 := by rw [← hE]; rfl
        have e3 : ∀ f, f ≠ 0 → E.2.2 f = H.2.2 f := fun f hf => by rw [← hE]; show up H.2.2 0 _ f = _; rw [up_d, if_neg hf]
        have e0 : E.2.2 0 = up (H.2.2 0) a1 (H.2.2 0 a1 + c) := by rw [← hE]; rfl
        have c0 : c_kp M0 b E := ckp_8b h3.cs.ks.kc (A := []) (B := [213]) (by rw [← hM0]; exact fq_wL (fq_refl _ _ _) rfl) rfl rfl (fun f => by rw [e1]) (fun f => by rw [e2]) (fun f hf _ => e3 f hf) (fun j hj => by
          rw [← hM0, wL_at (by omega), wL_ne (by decide), e0, e3 1 (by decide), up_d]
          split
          · exact ⟨rfl, (k3 j hj).2⟩
          · exact k3 j hj)
        have r0 : r_kp M3 E := rkp_8b h3.cs.ks.kr (A := [232]) (B := [324]) (by rw [← hM3]; exact fq_wL (fq_pI (fq_refl _ _ _) rfl) rfl) rfl rfl (i3 27 (by decide)) (i3 21 (by decide)) (fun f _ => l3 f) (fun f => by rw [e1]) (fun f => by rw [e2]) (fun f hf _ => e3 f hf) (fun j hj => by
          rw [← hM3, wL_at (by omega), wL_ne (by decide), e0, e3 1 (by decide), up_d]
          split
          · exact ⟨rfl, (r3 j hj).2⟩
          · exact r3 j hj)
        generalize hG : kL E 2 0 (H.2.2 2 0 + c) = G
        have g1 : G.1 = H.1 := by rw [← hG]; exact e1
        have g2 : G.2.1 = H.2.1 := by rw [← hG]; exact e2
        have g3 : ∀ f, f ≠ 2 → G.2.2 f = E.2.2 f := fun f hf => by rw [← hG]; show up E.2.2 2 _ f = _; rw [up_d, if_neg hf]
        have g4 : G.2.2 2 = up (H.2.2 2) 0 (H.2.2 2 0 + c) := (show G.2.2 2 = up (E.2.2 2) 0 (H.2.2 2 0 + c) by rw [← hG]; rfl).trans (by rw [e3 2 (by decide)])
        have ec : c_kp M1 b G := ckp_9 c0 (A := []) (B := [208]) (by rw [← hM1]; exact fq_pL (fq_refl _ _ _) rfl) rfl rfl (fun f => by rw [g1, e1]) (fun f _ => by rw [g2, e2]) g3 (by
          rw [g2, g4, ← hM1, pL_s, sL_e, upL_a, upL_a, up_d, up_d]
          refine ⟨?_, rfl, ?_, ?_, ?_⟩
          · show M0.1 208 0 = _; rw [f0.1 208 rfl]; exact k9.1
          · show M0.2 208 2 = H.2.2 2 1; rw [← hM0, wL_ne (by decide)]; exact k9.2.2.1
          · show M0.1 208 3 = _; rw [f0.1 208 rfl]; exact k9.2.2.2.1
          · show M0.1 208 4 = _; rw [f0.1 208 rfl]; exact k9.2.2.2.2)
        have er : r_kp M2 G := rkp_9 r0 (A := []) (B := [232]) (by rw [← hM2]; exact fq_pL (fq_refl _ _ _) rfl) rfl rfl (by rw [i232 27 (by decide), i3 27 (by decide)]) (by rw [i232 21 (by decide), i3 21 (by decide)]) (fun f => by rw [g1, e1]) (fun f _ => by rw [g2, e2]) g3 (by
          rw [g2, g4, l232 2 (by decide), l232 123 (by decide), l232 124 (by decide), l232 125 (by decide), up_d, up_d]
          refine ⟨r9.1, ?_, r9.2.2.1, r9.2.2.2.1, r9.2.2.2.2⟩
          rw [← hM2, pL_s, sL_e, upL_a, if_pos rfl]; rfl)
        have ha : gka [(9, 0), (8, a1)] := gka_c (by omega) (by omega) kyo_9 (gka_c (by omega) (by omega) (kyo_8 a1 (by omega)) gka_n)
        have t : tld N1 N2 M1 M2 b G [(9, 0), (8, a1)] := ⟨ec, er, ha, by show 2 ≤ 16; omega, al_c (kxt_n (show 9 ≤ 12 by omega)) (al_c (kxt_n (show 8 ≤ 12 by omega)) al_n), al_c (kpl_n (show (9 : Nat) ≠ 4 by decide) (show (9 : Nat) ≠ 7 by decide) (show (9 : Nat) ≠ 12 by decide)) (al_c (kpl_n (show (8 : Nat) ≠ 4 by decide) (show (8 : Nat) ≠ 7 by decide) (show (8 : Nat) ≠ 12 by decide)) al_n), gtx_n ha (al_c (show (9 : Nat) ≠ 6 by decide) (al_c (show (8 : Nat) ≠ 6 by decide) al_n)), Or.inl (al_c (show 8 ≤ 9 ∧ 9 ≤ 12 by decide) (al_c (show 8 ≤ 8 ∧ 8 ≤ 12 by decide) al_n))⟩
        have hb : kpb G := by unfold kpb; rw [g1]; exact h3.cs.ks.hb
        have hk : KB p G := by
          obtain ⟨d1, d2, d3, d4, d5, d6, d7, d8, d9, d10, d11, d12, d13, d14, d15, d16, d17⟩ := h3.iv.kb
          refine ⟨by rw [g1]; exact d1, by rw [g1]; exact d2, by rw [g2]; exact d3, by rw [g2]; exact d4, by rw [g2]; exact d5, by rw [g2]; exact d6, by rw [g2]; exact d7, by rw [g2]; exact d8, by rw [g2]; exact d9, by rw [g2]; exact d10, by rw [g2]; exact d11, by rw [g2]; exact d12, by rw [g2]; exact d13, by rw [g1]; exact d14, by rw [g1, g2]; exact d15, by rw [g1]; exact d16, by rw [g1, g2]; exact d17⟩
        obtain ⟨P, Q, O⟩ := tell_al h3 h4 f1 f2 rfl rfl rfl rfl rfl rfl rfl rfl (fun f g _ => i232 f g) l232 t hb (by rw [g1]) (by rw [g1]) (by rw [g1]) (by rw [g1]) (by rw [g1]) (fun _ _ z => by rw [g1]; exact z) (by rw [g1]) (by rw [g2]) (by rw [g2]) hk (by rw [g1]; exact MR_dr h3) (fun k hk' hw _ => kgn_0 (fun f _ => by rw [g1]) (fun f _ _ _ _ _ _ _ _ => by rw [g2]) _ _ (kdk_ok k hk').1 (kdk_ok k hk').2.1 hw (by have := (kdk_ok k hk').1; omega))
        obtain ⟨q1, q2, w, K1, K2, o1, o2, o3, o4, o5, o6⟩ := wr_MR (by omega) P
        have s1' : cp_119_0 9 0 (cf_119_0 8 (nI a1) (cf_117_0 M1)) := gjc_p (N := M1) (k := (9, 0)) (l := [(8, a1)]) ha (show 1 < 16 by omega)
        have s2' : cp_119_0 8 (nI a1) (cf_117_0 M1) := gjc_p (N := M1) (k := (8, a1)) (l := []) (gka_t ha) (show 0 < 16 by omega)
        have s3' : cp_472_0 9 0 (cf_472_0 8 (nI a1) (cf_471_0 M2)) := gjr_p (N := M2) (k := (9, 0)) (l := [(8, a1)]) ha (show 1 < 16 by omega)
        have s4' : cp_472_0 8 (nI a1) (cf_471_0 M2) := gjr_p (N := M2) (k := (8, a1)) (l := []) (gka_t ha) (show 0 < 16 by omega)
        have q1' : cp_121_0 (cf_119_0 9 0 (cf_119_0 8 (nI a1) (cf_117_0 M1))) b := q1
        have q2' : cp_474_0 (cf_472_0 9 0 (cf_472_0 8 (nI a1) (cf_471_0 M2))) := q2
        have o1' : cf_121_0 (cf_119_0 9 0 (cf_119_0 8 (nI a1) (cf_117_0 M1))) b = (w, K1) := o1
        have o2' : cf_474_0 (cf_472_0 9 0 (cf_472_0 8 (nI a1) (cf_471_0 M2))) = (w, K2) := o2
        refine ⟨?_, ?_, ?_⟩
        · simp [cp_362_0, cp_362_64, u1, u2, p1, p2, i1, i2, ib, ga, hv, hM0, gc, hM1, s1', s2', q1']
        · simp [cp_589_0, cp_589_30, cp_589_61, j1, j2, F1, F2', ib, gb, hv, hM3, gd, hM2, s3', s4', q2']
        · have y1 : cf_362_0 (nI a1) v2 N1 b = (0, (if w = true then 0 else -1001), K1) := by
            simp [cf_362_0, cf_362_64, u2, i1, i2, ga, hv, hM0, gc, hM1, o1']
            split <;> rfl
          have y2 : cf_589_0 (nI a1) v2 N2 = ((if w = true then 0 else -1001), K2) := by
            simp [cf_589_0, cf_589_30, cf_589_61, j1, j2, F2', gb, hv, hM3, gd, hM2, o2']
            split <;> rfl
          rw [y1, y2]
          exact grp_al h6 h1 (by omega) h5 P.lr Q O h0 o3 o4 o5 o6 rfl
      · exact ⟨by simp [cp_362_0, u1, u2, p1, p2, i1, i2], by simp [cp_589_0, cp_589_30, cp_589_29, j1, j2, F3, F4'], cal_m (Nat.le_refl _) (Nat.le_succ _) (Sm_r (a := 0) (a' := 0) (Or.inl h) (Or.inl rfl) (by simp [cf_362_0, u2, i1, i2]) (by simp [cf_589_0, cf_589_30, cf_589_29, j1, j2, F4', n01]))⟩
    · exact ⟨by simp [cp_362_0, u1, u2, p1, p2, i1], by simp [cp_589_0, cp_589_30, cp_589_29, j1, F3, F4'], cal_m (Nat.le_refl _) (Nat.le_succ _) (Sm_r (a := 0) (a' := 0) (Or.inl h) (Or.inl rfl) (by simp [cf_362_0, u2, i1]) (by simp [cf_589_0, cf_589_30, cf_589_29, j1, F4', n01]))⟩
  · obtain ⟨w1, w2⟩ := Sm_d h
    obtain ⟨u1, u2⟩ := c104_d w1
    obtain ⟨F1, F2⟩ := F_d w2
    exact ⟨by simp [cp_362_0, u1, u2], by simp [cp_589_0, cp_589_30, cp_589_29, F1, F2], cal_m (Nat.le_refl _) (Nat.le_succ _) (Sm_r (a := 0) (a' := 0) (Or.inr h) (Or.inr rfl) (by simp [cf_362_0, u2]) (by simp [cf_589_0, cf_589_30, cf_589_29, F2]; rfl))⟩
end Rp
