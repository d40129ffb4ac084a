/-! PURE (50zzzzzd): calls that tell something (made by wip/gen/tells.py). -/
section Td
variable {N N1 N2 : mz_N} {b : Bool} {B q : Nat} {v v1 v2 v3 : Int32}
theorem in_z (v : Int32) : cp_105_0 v (-400) 500 ∧ ((∃ k : Int, -400 ≤ k ∧ k ≤ 500 ∧ v = iI k ∧ cf_105_0 v (-400) 500 = 0 ∧ cf_466_0 v.toInt64 (-400) 500 = true) ∨ (cf_105_0 v (-400) 500 = 1 ∧ cf_466_0 v.toInt64 (-400) 500 = false)) := by
  refine ⟨⟨fun _ => trivial, fun _ => ⟨fun _ => trivial, fun _ => trivial⟩⟩, ?_⟩
  have e1 : (v.toInt64 < -400) ↔ v < -400 := l64_lt v (-400)
  have e2 : ((500 : Int64) < v.toInt64) ↔ 500 < v := l64_lt 500 v
  rw [cf_105_0, cf_466_0]
  by_cases a : v < -400
  · rw [if_pos a, if_pos (e1.mpr a)]
    exact Or.inr ⟨rfl, rfl⟩
  · rw [if_neg a, if_neg (fun z => a (e1.mp z))]
    by_cases c : 500 < v
    · rw [if_pos c, if_pos (e2.mpr c)]
      exact Or.inr ⟨rfl, rfl⟩
    · rw [if_neg c, if_neg (fun z => c (e2.mp z))]
      rw [Int32.lt_iff_toInt_lt] at a c
      have t1 : (-400 : Int32).toInt = -400 := rfl
      have t2 : (500 : Int32).toInt = 500 := rfl
      rw [t1] at a
      rw [t2] at c
      refine Or.inl ⟨v.toInt, by omega, by omega, ?_, rfl, rfl⟩
      exact (Int32.ofInt_toInt v).symm
theorem nI_pr {k : Nat} (h : 1 ≤ k) : nI k - 1 = nI (k - 1) := by rw [show (1 : Int32) = nI 1 from rfl, pk_sub h]
theorem i16_i {k : Int} (h1 : -400 ≤ k) (h2 : k ≤ 500) : i16 (iI k) := by
  unfold i16
  apply Int32.toInt_inj.mp
  rw [Int16.toInt_toInt32, Int32.toInt_toInt16, iI_t (by omega)]
  exact Int.bmod_eq_of_le (by omega) (by omega)
theorem kI1 {H : Kp} {f j : Nat} {x : Int32} : ∀ g, g ≠ f → (kI H f j x).2.1 g = H.2.1 g := fun g hg => by show up H.2.1 f _ g = _; rw [up_d, if_neg hg]
theorem kI0 {H : Kp} {f j : Nat} {x : Int32} : (kI H f j x).2.1 f = up (H.2.1 f) j x := by show up H.2.1 f _ f = _; rw [up_d, if_pos rfl]
theorem sun_al (hB : B + 1 < 2 ^ 30) (h : Sm q B N1 b N2) : cp_177_0 v1 v2 v3 N1 b ∧ cp_497_0 v1 v2 v3 N2 ∧ cal q (B + 1) b N1 N2 (cf_177_0 v1 v2 v3 N1 b) (cf_497_0 v1 v2 v3 N2) := by
  obtain ⟨p1, c1⟩ := in_l 0 3 (by omega) (by omega) v1 (w0 := 0) (w := 3) (g0 := 0) (g := 3) rfl rfl rfl rfl
  obtain ⟨p2, c2⟩ := in_l 0 23 (by omega) (by omega) v2 (w0 := 0) (w := 23) (g0 := 0) (g := 23) rfl rfl rfl rfl
  obtain ⟨p3, c3⟩ := in_l 0 200 (by omega) (by omega) v3 (w0 := 0) (w := 200) (g0 := 0) (g := 200) rfl rfl rfl rfl
  rcases h with h | h
  · obtain ⟨w1, w2⟩ := Sm_u h
    obtain ⟨u1, u2⟩ := c104_u w1
    obtain ⟨F1, F2⟩ := f462_u (a := true) (st := true) w2
    obtain ⟨F3, F4⟩ := f462_u (a := false) (st := true) w2
    have F2' : cf_462_0 true true N2 = (false, mz_pI N2 232 0 0) := F2
    have F4' : cf_462_0 false true N2 = (true, mz_pI N2 232 0 1) := F4
    rcases c1 with ⟨a1, la1, ha1, rfl, i1, j1⟩ | ⟨i1, j1⟩
    · skip
      rcases c2 with ⟨a2, la2, ha2, rfl, i2, j2⟩ | ⟨i2, j2⟩
      · skip
        rcases c3 with ⟨a3, la3, ha3, rfl, i3, j3⟩ | ⟨i3, j3⟩
        · skip
          skip
          obtain ⟨p, C, s, D, H, x, L, R, h1, h2, h3, h4, h5, h6⟩ := h
          have x1 : nI a1 * 24 + nI a2 = nI (24 * a1 + a2) := by rw [show (24 : Int32) = nI 24 from rfl, pk_mul, nI_add, Nat.mul_comm]
          have x2 : 24 * nI a1 + nI a2 = nI (24 * a1 + a2) := by rw [show (24 : Int32) = nI 24 from rfl, pk_mul, nI_add]
          have ib : mz_ib (nI (24 * a1 + a2)) 96 := ib_n (by omega) (by omega)
          have ga : mz_gI N1 67 (nI (24 * a1 + a2)) = nI (H.1 3 (24 * a1 + a2)) := by rw [gI_a, nI_clamp (by omega)]; exact h3.cs.ks.kc.2.2.2.2.1 _ (by omega)
          have gb : mz_gI (mz_pI N2 232 0 0) 246 (nI (24 * a1 + a2)) = nI (H.1 3 (24 * a1 + a2)) := by rw [gI_a, nI_clamp (by omega)]; exact h3.cs.ks.kr.2.2.2.2.1 _ (by omega)
          have k3 := h3.cs.ks.kc.2.2.2.2.1
          have r3 := h3.cs.ks.kr.2.2.2.2.1
          generalize hM1 : mz_wI N1 67 (nI (24 * a1 + a2)) (nI a3) = M1
          generalize hM2 : mz_wI (mz_pI N2 232 0 0) 246 (nI (24 * a1 + a2)) (nI a3) = M2
          have f1 : fq [67] [] N1 M1 := by rw [← hM1]; exact fq_wI (fq_refl _ _ _) rfl
          have f2 : fq [232, 246] [] N2 M2 := by rw [← hM2]; exact fq_wI (fq_pI (fq_refl _ _ _) rfl) rfl
          have i232 : ∀ f, f ≠ 0 → f ≠ 21 → M2.1 232 f = N2.1 232 f := fun f g0 _ => by rw [← hM2, wI_ne (by decide), pI_s, sI_e, up_a, if_neg g0]
          have i21 : M2.1 232 21 = N2.1 232 21 := by rw [← hM2, wI_ne (by decide), pI_s, sI_e, up_a, if_neg (by decide)]
          have l232 : ∀ f, f ≠ 122 → M2.2 232 f = N2.2 232 f := fun f _ => by rw [f2.2 232 rfl]
          have h0 : M2.1 232 0 = 0 := by rw [← hM2, wI_ne (by decide)]; exact code_0
          have n1 : ∀ j, j < 96 → M1.1 67 j = nI ((kS H 3 (24 * a1 + a2) a3).1 3 j) := fun j hj => by
            rw [← hM1, wI_at (by omega), kS0, up_d]; split
            · rfl
            · exact k3 j hj
          have n2 : ∀ j, j < 96 → M2.1 246 j = nI ((kS H 3 (24 * a1 + a2) a3).1 3 j) := fun j hj => by
            rw [← hM2, wI_at (by omega), kS0, up_d]; split
            · rfl
            · exact r3 j hj
          have ky : kyo 5 a1 < 135 := (show ∀ v, v < 4 → kyo 5 v < 135 by decide) a1 (by omega)
          have ha : gka [(5, a1)] := gka_c (by omega) (by omega) ky gka_n
          have t : tld N1 N2 M1 M2 b (kS H 3 (24 * a1 + a2) a3) [(5, a1)] := ⟨ckp_5 h3.cs.ks.kc f1 rfl rfl kS1 (fun _ => rfl) (fun _ => rfl) n1, rkp_5 h3.cs.ks.kr f2 rfl rfl (i232 27 (by decide) (by decide)) i21 (fun f _ => by rw [f2.2 232 rfl]) kS1 (fun _ => rfl) (fun _ => rfl) n2, ha, by show 1 ≤ 16; omega, al_c (kxt_n (show 5 ≤ 12 by omega)) al_n, al_c (kpl_n (show (5 : Nat) ≠ 4 by decide) (show (5 : Nat) ≠ 7 by decide) (show (5 : Nat) ≠ 12 by decide)) al_n, gtx_n ha (al_c (show (5 : Nat) ≠ 6 by decide) al_n), Or.inr (al_c (show (5 : Nat) < 8 ∨ 12 ≤ 5 by decide) al_n)⟩
          have hb : kpb (kS H 3 (24 * a1 + a2) a3) := by
            obtain ⟨y0, y1, y2, y3, y5, y4, yt4, y6, y7, y8, y9, y12, y13, y15, y16, y19, y20⟩ := h3.cs.ks.hb
            exact ⟨y0, y1, y2, fun j => by
              rw [kS0, up_d]; split
              · omega
              · exact y3 j, y5, y4, yt4, y6, y7, y8, y9, y12, y13, y15, y16, y19, y20⟩
          have hk : KB p (kS H 3 (24 * a1 + a2) a3) := by
            obtain ⟨d1, d2, d3, d4, d5, d6, d7, d8, d9, d10, d11, d12, d13, d14, d15, d16, d17⟩ := h3.iv.kb
            exact ⟨d1, d2, d3, d4, d5, d6, d7, d8, d9, d10, d11, d12, d13, d14, d15, d16, d17⟩
          obtain ⟨P, Q, O⟩ := tell_al h3 h4 f1 f2 rfl rfl rfl rfl rfl rfl rfl rfl i232 l232 t hb rfl rfl rfl rfl rfl (fun _ _ z => z) rfl rfl rfl hk (fun j hj z => MR_dr h3 j hj z) (kgo_l (kd0 := 5) (p := fun jx => jx = a1) (kgn_5 kS1 (fun _ => rfl)) (fun jx hj => by rw [hj]; exact List.mem_cons_self) (fun jx hj => by
            show ∀ j, 24 * jx ≤ j → j < 24 * jx + 24 → H.1 3 j = (kS H 3 (24 * a1 + a2) a3).1 3 j
            intro j g1 g2
            rw [kS0, up_d, if_neg (by omega)]))
          obtain ⟨q1, q2, q3⟩ := keep_al (a := nI (H.1 3 (24 * a1 + a2))) h6 h1 (B' := B + 1) (by omega) (by omega) h5 P Q O h0
          have q1' : cp_171_0 5 (nI a1) (nI (H.1 3 (24 * a1 + a2))) M1 b := q1
          have q2' : cp_494_0 5 (nI a1) M2 := q2
          refine ⟨?_, ?_, ?_⟩
          · simp [cp_177_0, u1, u2, p1, p2, p3, i1, i2, i3, x1, x2, ib, ga, hM1, q1']
          · simp [cp_497_0, cp_497_42, cp_497_41, cp_497_90, j1, j2, j3, F1, F2', x1, x2, ib, hM2, q2']
          · have e1 : cf_177_0 (nI a1) (nI a2) (nI a3) N1 b = (0, (cf_171_0 5 (nI a1) (nI (H.1 3 (24 * a1 + a2))) M1 b).1, (cf_171_0 5 (nI a1) (nI (H.1 3 (24 * a1 + a2))) M1 b).2) := by
              simp [cf_177_0, u2, i1, i2, i3, x1, x2, ib, ga, hM1]
            have e2 : cf_497_0 (nI a1) (nI a2) (nI a3) N2 = ((if (cf_494_0 5 (nI a1) M2).1 = true then (nI (H.1 3 (24 * a1 + a2))) else -1001), (cf_494_0 5 (nI a1) M2).2) := by
              simp [cf_497_0, cf_497_42, cf_497_41, cf_497_90, j1, j2, j3, F2', x1, x2, ib, gb, hM2]
              split <;> rfl
            rw [e1, e2]
            exact q3
        · exact ⟨by simp [cp_177_0, u1, u2, p1, p2, p3, i1, i2, i3], by simp [cp_497_0, cp_497_42, cp_497_41, cp_497_90, j1, j2, j3, F3, F4'], cal_m (Nat.le_refl _) (Nat.le_succ _) (Sm_r (a := 0) (a' := 0) (Or.inl h) (Or.inl rfl) (by simp [cf_177_0, u2, i1, i2, i3]) (by simp [cf_497_0, cf_497_42, cf_497_41, cf_497_90, j1, j2, j3, F4', n01]))⟩
      · exact ⟨by simp [cp_177_0, u1, u2, p1, p2, p3, i1, i2], by simp [cp_497_0, cp_497_42, cp_497_41, cp_497_90, j1, j2, F3, F4'], cal_m (Nat.le_refl _) (Nat.le_succ _) (Sm_r (a := 0) (a' := 0) (Or.inl h) (Or.inl rfl) (by simp [cf_177_0, u2, i1, i2]) (by simp [cf_497_0, cf_497_42, cf_497_41, cf_497_90, j1, j2, F4', n01]))⟩
    · exact ⟨by simp [cp_177_0, u1, u2, p1, p2, p3, i1], by simp [cp_497_0, cp_497_42, cp_497_41, cp_497_90, j1, F3, F4'], cal_m (Nat.le_refl _) (Nat.le_succ _) (Sm_r (a := 0) (a' := 0) (Or.inl h) (Or.inl rfl) (by simp [cf_177_0, u2, i1]) (by simp [cf_497_0, cf_497_42, cf_497_41, cf_497_90, j1, F4', n01]))⟩
  · obtain ⟨w1, w2⟩ := Sm_d h
    obtain ⟨u1, u2⟩ := c104_d w1
    obtain ⟨F1, F2⟩ := F_d w2
    exact ⟨by simp [cp_177_0, u1, u2], by simp [cp_497_0, cp_497_42, cp_497_41, cp_497_90, F1, F2], cal_m (Nat.le_refl _) (Nat.le_succ _) (Sm_r (a := 0) (a' := 0) (Or.inr h) (Or.inr rfl) (by simp [cf_177_0, u2]) (by simp [cf_497_0, cf_497_42, cf_497_41, cf_497_90, F2]; rfl))⟩
theorem weather_al (hB : B + 1 < 2 ^ 30) (h : Sm q B N1 b N2) : cp_175_0 v1 v2 N1 b ∧ cp_496_0 v1 v2 N2 ∧ cal q (B + 1) b N1 N2 (cf_175_0 v1 v2 N1 b) (cf_496_0 v1 v2 N2) := by
  obtain ⟨p1, c1⟩ := in_l 0 23 (by omega) (by omega) v1 (w0 := 0) (w := 23) (g0 := 0) (g := 23) rfl rfl rfl rfl
  obtain ⟨p2, c2⟩ := in_z v2
  rcases h with h | h
  · obtain ⟨w1, w2⟩ := Sm_u h
    obtain ⟨u1, u2⟩ := c104_u w1
    obtain ⟨F1, F2⟩ := f462_u (a := true) (st := true) w2
    obtain ⟨F3, F4⟩ := f462_u (a := false) (st := true) w2
    have F2' : cf_462_0 true true N2 = (false, mz_pI N2 232 0 0) := F2
    have F4' : cf_462_0 false true N2 = (true, mz_pI N2 232 0 1) := F4
    rcases c1 with ⟨a1, la1, ha1, rfl, i1, j1⟩ | ⟨i1, j1⟩
    · skip
      rcases c2 with ⟨a2, la2, ha2, rfl, i2, j2⟩ | ⟨i2, j2⟩
      · skip
        skip
        obtain ⟨p, C, s, D, H, x, L, R, h1, h2, h3, h4, h5, h6⟩ := h
        have x1 : nI a1 / 12 = nI (a1 / 12) := by rw [show (12 : Int32) = nI 12 from rfl, pk_div (by omega) (by omega) (by omega)]
        have ib : mz_ib (nI a1) 24 := ib_n (by omega) (by omega)
        have ga : mz_gI N1 66 (nI a1) = H.2.1 0 a1 := by rw [gI_a, nI_clamp (by omega)]; exact h3.cs.ks.kc.2.2.2.1 _ (by omega)
        have gb : mz_gI (mz_pI N2 232 0 0) 245 (nI a1) = H.2.1 0 a1 := by rw [gI_a, nI_clamp (by omega)]; exact h3.cs.ks.kr.2.2.2.1 _ (by omega)
        have k3 := h3.cs.ks.kc.2.2.2.1
        have r3 := h3.cs.ks.kr.2.2.2.1
        generalize hM1 : mz_wI N1 66 (nI a1) (iI a2) = M1
        generalize hM2 : mz_wI (mz_pI N2 232 0 0) 245 (nI a1) (iI a2) = M2
        have f1 : fq [66] [] N1 M1 := by rw [← hM1]; exact fq_wI (fq_refl _ _ _) rfl
        have f2 : fq [232, 245] [] N2 M2 := by rw [← hM2]; exact fq_wI (fq_pI (fq_refl _ _ _) rfl) rfl
        have i232 : ∀ f, f ≠ 0 → f ≠ 21 → M2.1 232 f = N2.1 232 f := fun f g0 _ => by rw [← hM2, wI_ne (by decide), pI_s, sI_e, up_a, if_neg g0]
        have i21 : M2.1 232 21 = N2.1 232 21 := by rw [← hM2, wI_ne (by decide), pI_s, sI_e, up_a, if_neg (by decide)]
        have l232 : ∀ f, f ≠ 122 → M2.2 232 f = N2.2 232 f := fun f _ => by rw [f2.2 232 rfl]
        have h0 : M2.1 232 0 = 0 := by rw [← hM2, wI_ne (by decide)]; exact code_0
        have n1 : ∀ j, j < 24 → M1.1 66 j = (kI H 0 a1 (iI a2)).2.1 0 j := fun j hj => by
          rw [← hM1, wI_at (by omega), kI0, up_d]; split
          · rfl
          · exact k3 j hj
        have n2 : ∀ j, j < 24 → M2.1 245 j = (kI H 0 a1 (iI a2)).2.1 0 j := fun j hj => by
          rw [← hM2, wI_at (by omega), kI0, up_d]; split
          · rfl
          · exact r3 j hj
        have we : ∀ j, j < 24 → ∃ v : Int, -400 ≤ v ∧ v ≤ 500 ∧ (kI H 0 a1 (iI a2)).2.1 0 j = iI v := fun j hj => by
          rw [kI0, up_d]; split
          · exact ⟨a2, la2, ha2, rfl⟩
          · exact h3.iv.kb.we j hj
        have ky : kyo 4 (a1 / 12) < 135 := (show ∀ v, v < 2 → kyo 4 v < 135 by decide) (a1 / 12) (by omega)
        have ha : gka [(4, (a1 / 12))] := gka_c (by omega) (by omega) ky gka_n
        have t : tld N1 N2 M1 M2 b (kI H 0 a1 (iI a2)) [(4, (a1 / 12))] := ⟨ckp_4 h3.cs.ks.kc f1 rfl rfl (fun _ => rfl) kI1 (fun _ => rfl) n1, rkp_4 h3.cs.ks.kr f2 rfl rfl (i232 27 (by decide) (by decide)) i21 (fun f _ => by rw [f2.2 232 rfl]) (fun _ => rfl) kI1 (fun _ => rfl) n2, ha, by show 1 ≤ 16; omega, al_c (kxt_n (show 4 ≤ 12 by omega)) al_n, al_c ⟨fun _ t ht => by
          obtain ⟨v, e1, e2, e3⟩ := we (12 * (a1 / 12) + t) (by omega)
          show i16 ((kI H 0 a1 (iI a2)).2.1 0 (12 * (a1 / 12) + t))
          rw [e3]
          exact i16_i e1 e2, fun z => absurd z (by show (4 : Nat) ≠ 7; decide), fun z => absurd z (by show (4 : Nat) ≠ 12; decide)⟩ al_n, gtx_n ha (al_c (show (4 : Nat) ≠ 6 by decide) al_n), Or.inr (al_c (show (4 : Nat) < 8 ∨ 12 ≤ 4 by decide) al_n)⟩
        have hb : kpb (kI H 0 a1 (iI a2)) := h3.cs.ks.hb
        have hk : KB p (kI H 0 a1 (iI a2)) := by
          obtain ⟨d1, d2, d3, d4, d5, d6, d7, d8, d9, d10, d11, d12, d13, d14, d15, d16, d17⟩ := h3.iv.kb
          exact ⟨d1, d2, d3, we, d5, d6, d7, d8, d9, d10, d11, d12, d13, d14, d15, d16, d17⟩
        obtain ⟨P, Q, O⟩ := tell_al h3 h4 f1 f2 rfl rfl rfl rfl rfl rfl rfl rfl i232 l232 t hb rfl rfl rfl rfl rfl (fun _ _ z => z) rfl rfl rfl hk (fun j hj z => MR_dr h3 j hj z) (kgo_l (kd0 := 4) (p := fun jx => jx = a1 / 12) (kgn_4 (fun _ => rfl) kI1) (fun jx hj => by rw [hj]; exact List.mem_cons_self) (fun jx hj => by
          show ∀ j, 12 * jx ≤ j → j < 12 * jx + 12 → H.2.1 0 j = (kI H 0 a1 (iI a2)).2.1 0 j
          intro j g1 g2
          rw [kI0, up_d, if_neg (by omega)]))
        obtain ⟨q1, q2, q3⟩ := keep_al (a := H.2.1 0 a1) h6 h1 (B' := B + 1) (by omega) (by omega) h5 P Q O h0
        have q1' : cp_171_0 4 (nI (a1 / 12)) (H.2.1 0 a1) M1 b := q1
        have q2' : cp_494_0 4 (nI (a1 / 12)) M2 := q2
        refine ⟨?_, ?_, ?_⟩
        · simp [cp_175_0, u1, u2, p1, p2, i1, i2, x1, ib, ga, hM1, q1']
        · simp [cp_496_0, cp_496_32, cp_496_31, j1, j2, F1, F2', x1, ib, hM2, q2']
        · have e1 : cf_175_0 (nI a1) (iI a2) N1 b = (0, (cf_171_0 4 (nI (a1 / 12)) (H.2.1 0 a1) M1 b).1, (cf_171_0 4 (nI (a1 / 12)) (H.2.1 0 a1) M1 b).2) := by
            simp [cf_175_0, u2, i1, i2, x1, ib, ga, hM1]
          have e2 : cf_496_0 (nI a1) (iI a2) N2 = ((if (cf_494_0 4 (nI (a1 / 12)) M2).1 = true then (H.2.1 0 a1) else -1001), (cf_494_0 4 (nI (a1 / 12)) M2).2) := by
            simp [cf_496_0, cf_496_32, cf_496_31, j1, j2, F2', x1, ib, gb, hM2]
            split <;> rfl
          rw [e1, e2]
          exact q3
      · exact ⟨by simp [cp_175_0, u1, u2, p1, p2, i1, i2], by simp [cp_496_0, cp_496_32, cp_496_31, j1, j2, F3, F4'], cal_m (Nat.le_refl _) (Nat.le_succ _) (Sm_r (a := 0) (a' := 0) (Or.inl h) (Or.inl rfl) (by simp [cf_175_0, u2, i1, i2]) (by simp [cf_496_0, cf_496_32, cf_496_31, j1, j2, F4', n01]))⟩
    · exact ⟨by simp [cp_175_0, u1, u2, p1, p2, i1], by simp [cp_496_0, cp_496_32, cp_496_31, j1, F3, F4'], cal_m (Nat.le_refl _) (Nat.le_succ _) (Sm_r (a := 0) (a' := 0) (Or.inl h) (Or.inl rfl) (by simp [cf_175_0, u2, i1]) (by simp [cf_496_0, cf_496_32, cf_496_31, j1, F4', n01]))⟩
  · obtain ⟨w1, w2⟩ := Sm_d h
    obtain ⟨u1, u2⟩ := c104_d w1
    obtain ⟨F1, F2⟩ := F_d w2
    exact ⟨by simp [cp_175_0, u1, u2], by simp [cp_496_0, cp_496_32, cp_496_31, F1, F2], cal_m (Nat.le_refl _) (Nat.le_succ _) (Sm_r (a := 0) (a' := 0) (Or.inr h) (Or.inr rfl) (by simp [cf_175_0, u2]) (by simp [cf_496_0, cf_496_32, cf_496_31, F2]; rfl))⟩
theorem life_al (hB : B + 1 < 2 ^ 30) (h : Sm q B N1 b N2) : cp_184_0 v1 v2 N1 b ∧ cp_500_0 v1 v2 N2 ∧ cal q (B + 1) b N1 N2 (cf_184_0 v1 v2 N1 b) (cf_500_0 v1 v2 N2) := by
  obtain ⟨p1, c1⟩ := in_l 0 2 (by omega) (by omega) v1 (w0 := 0) (w := 2) (g0 := 0) (g := 2) rfl rfl rfl rfl
  obtain ⟨p2, c2⟩ := in_l 1 100000 (by omega) (by omega) v2 (w0 := 1) (w := 100000) (g0 := 1) (g := 100000) rfl rfl rfl rfl
  rcases h with h | h
  · obtain ⟨w1, w2⟩ := Sm_u h
    obtain ⟨u1, u2⟩ := c104_u w1
    obtain ⟨F1, F2⟩ := f462_u (a := true) (st := true) w2
    obtain ⟨F3, F4⟩ := f462_u (a := false) (st := true) w2
    have F2' : cf_462_0 true true N2 = (false, mz_pI N2 232 0 0) := F2
    have F4' : cf_462_0 false true N2 = (true, mz_pI N2 232 0 1) := F4
    rcases c1 with ⟨a1, la1, ha1, rfl, i1, j1⟩ | ⟨i1, j1⟩
    · skip
      rcases c2 with ⟨a2, la2, ha2, rfl, i2, j2⟩ | ⟨i2, j2⟩
      · skip
        skip
        obtain ⟨p, C, s, D, H, x, L, R, h1, h2, h3, h4, h5, h6⟩ := h
        have ib : mz_ib (nI a1) 3 := ib_n (by omega) (by omega)
        have ga : mz_gI N1 125 (nI a1) = H.2.1 7 a1 := by rw [gI_a, nI_clamp (by omega)]; exact (h3.cs.ks.kc.2.2.2.2.2.2.2.2.2.2.2.2.1 _ (by omega)).1
        have gb : mz_gI (mz_pI N2 232 0 0) 250 (nI a1) = H.2.1 7 a1 := by rw [gI_a, nI_clamp (by omega)]; exact (h3.cs.ks.kr.2.2.2.2.2.2.2.2.2.2.2.2.1 _ (by omega)).1
        have k3 := h3.cs.ks.kc.2.2.2.2.2.2.2.2.2.2.2.2.1
        have r3 := h3.cs.ks.kr.2.2.2.2.2.2.2.2.2.2.2.2.1
        generalize hM1 : mz_wI N1 125 (nI a1) (nI a2) = M1
        generalize hM2 : mz_wI (mz_pI N2 232 0 0) 250 (nI a1) (nI a2) = M2
        have f1 : fq [125] [] N1 M1 := by rw [← hM1]; exact fq_wI (fq_refl _ _ _) rfl
        have f2 : fq [232, 250] [] N2 M2 := by rw [← hM2]; exact fq_wI (fq_pI (fq_refl _ _ _) rfl) rfl
        have i232 : ∀ f, f ≠ 0 → f ≠ 21 → M2.1 232 f = N2.1 232 f := fun f g0 _ => by rw [← hM2, wI_ne (by decide), pI_s, sI_e, up_a, if_neg g0]
        have i21 : M2.1 232 21 = N2.1 232 21 := by rw [← hM2, wI_ne (by decide), pI_s, sI_e, up_a, if_neg (by decide)]
        have l232 : ∀ f, f ≠ 122 → M2.2 232 f = N2.2 232 f := fun f _ => by rw [f2.2 232 rfl]
        have h0 : M2.1 232 0 = 0 := by rw [← hM2, wI_ne (by decide)]; exact code_0
        have n1 : ∀ j, j < 3 → M1.1 125 j = (kI H 7 a1 (nI a2)).2.1 7 j ∧ M1.1 126 j = (kI H 7 a1 (nI a2)).2.1 8 j ∧ M1.1 127 j = (kI H 7 a1 (nI a2)).2.1 9 j ∧ M1.1 128 j = nI ((kI H 7 a1 (nI a2)).1 7 j) := fun j hj => by
          rw [f1.1 126 rfl, f1.1 127 rfl, f1.1 128 rfl]
          refine ⟨?_, (k3 j hj).2⟩
          rw [← hM1, wI_at (by omega), kI0, up_d]; split
          · rfl
          · exact (k3 j hj).1
        have n2 : ∀ j, j < 3 → M2.1 250 j = (kI H 7 a1 (nI a2)).2.1 7 j ∧ M2.2 305 j = ((kI H 7 a1 (nI a2)).2.1 8 j).toInt64 ∧ M2.1 306 j = (kI H 7 a1 (nI a2)).2.1 9 j ∧ M2.1 307 j = nI ((kI H 7 a1 (nI a2)).1 7 j) := fun j hj => by
          rw [f2.2 305 rfl, f2.1 306 rfl, f2.1 307 rfl]
          refine ⟨?_, (r3 j hj).2⟩
          rw [← hM2, wI_at (by omega), kI0, up_d]; split
          · rfl
          · exact (r3 j hj).1
        have ky : kyo 11 a1 < 135 := kyo_11 a1 (by omega)
        have ha : gka [(11, a1)] := gka_c (by omega) (by omega) ky gka_n
        have t : tld N1 N2 M1 M2 b (kI H 7 a1 (nI a2)) [(11, a1)] := ⟨ckp_11 h3.cs.ks.kc f1 rfl rfl (fun _ _ => rfl) (fun f g _ _ => kI1 f g) (fun _ => rfl) n1, rkp_11 h3.cs.ks.kr f2 rfl rfl (i232 27 (by decide) (by decide)) i21 (fun f _ => by rw [f2.2 232 rfl]) (fun _ _ => rfl) (fun f g _ _ => kI1 f g) (fun _ => rfl) n2, ha, by show 1 ≤ 16; omega, al_c (kxt_n (show 11 ≤ 12 by omega)) al_n, al_c (kpl_n (show (11 : Nat) ≠ 4 by decide) (show (11 : Nat) ≠ 7 by decide) (show (11 : Nat) ≠ 12 by decide)) al_n, gtx_n ha (al_c (show (11 : Nat) ≠ 6 by decide) al_n), Or.inl (al_c (show 8 ≤ 11 ∧ 11 ≤ 12 by decide) al_n)⟩
        have hb : kpb (kI H 7 a1 (nI a2)) := h3.cs.ks.hb
        have hk : KB p (kI H 7 a1 (nI a2)) := by
          obtain ⟨d1, d2, d3, d4, d5, d6, d7, d8, d9, d10, d11, d12, d13, d14, d15, d16, d17⟩ := h3.iv.kb
          exact ⟨d1, d2, d3, d4, d5, d6, d7, d8, d9, d10, d11, d12, d13, d14, d15, d16, d17⟩
        obtain ⟨P, Q, O⟩ := tell_al h3 h4 f1 f2 rfl rfl rfl rfl rfl rfl rfl rfl i232 l232 t hb rfl rfl rfl rfl rfl (fun _ _ z => z) rfl rfl rfl hk (fun j hj z => MR_dr h3 j hj z) (fun k hk' hw _ => (kgn_0 (H := H) (G := kI H 7 a1 (nI a2)) (fun _ _ => rfl) (fun f _ _ _ _ _ g _ _ => kI1 f g)) _ _ (kdk_ok k hk').1 (kdk_ok k hk').2.1 hw (by have := (kdk_ok k hk').1; omega))
        obtain ⟨q1, q2, q3⟩ := keep_al (a := H.2.1 7 a1) h6 h1 (B' := B + 1) (by omega) (by omega) h5 P Q O h0
        have q1' : cp_171_0 11 (nI a1) (H.2.1 7 a1) M1 b := q1
        have q2' : cp_494_0 11 (nI a1) M2 := q2
        refine ⟨?_, ?_, ?_⟩
        · simp [cp_184_0, u1, u2, p1, p2, i1, i2, ib, ga, hM1, q1']
        · simp [cp_500_0, cp_500_30, cp_500_29, j1, j2, F1, F2', ib, hM2, q2']
        · have e1 : cf_184_0 (nI a1) (nI a2) N1 b = (0, (cf_171_0 11 (nI a1) (H.2.1 7 a1) M1 b).1, (cf_171_0 11 (nI a1) (H.2.1 7 a1) M1 b).2) := by
            simp [cf_184_0, u2, i1, i2, ib, ga, hM1]
          have e2 : cf_500_0 (nI a1) (nI a2) N2 = ((if (cf_494_0 11 (nI a1) M2).1 = true then (H.2.1 7 a1) else -1001), (cf_494_0 11 (nI a1) M2).2) := by
            simp [cf_500_0, cf_500_30, cf_500_29, j1, j2, F2', ib, gb, hM2]
            split <;> rfl
          rw [e1, e2]
          exact q3
      · exact ⟨by simp [cp_184_0, u1, u2, p1, p2, i1, i2], by simp [cp_500_0, cp_500_30, cp_500_29, j1, j2, F3, F4'], cal_m (Nat.le_refl _) (Nat.le_succ _) (Sm_r (a := 0) (a' := 0) (Or.inl h) (Or.inl rfl) (by simp [cf_184_0, u2, i1, i2]) (by simp [cf_500_0, cf_500_30, cf_500_29, j1, j2, F4', n01]))⟩
    · exact ⟨by simp [cp_184_0, u1, u2, p1, p2, i1], by simp [cp_500_0, cp_500_30, cp_500_29, j1, F3, F4'], cal_m (Nat.le_refl _) (Nat.le_succ _) (Sm_r (a := 0) (a' := 0) (Or.inl h) (Or.inl rfl) (by simp [cf_184_0, u2, i1]) (by simp [cf_500_0, cf_500_30, cf_500_29, j1, F4', n01]))⟩
  · obtain ⟨w1, w2⟩ := Sm_d h
    obtain ⟨u1, u2⟩ := c104_d w1
    obtain ⟨F1, F2⟩ := F_d w2
    exact ⟨by simp [cp_184_0, u1, u2], by simp [cp_500_0, cp_500_30, cp_500_29, F1, F2], cal_m (Nat.le_refl _) (Nat.le_succ _) (Sm_r (a := 0) (a' := 0) (Or.inr h) (Or.inr rfl) (by simp [cf_184_0, u2]) (by simp [cf_500_0, cf_500_30, cf_500_29, F2]; rfl))⟩
/-- a price, on the reference's side -/
noncomputable def prM (N : mz_N) (a v : Nat) : mz_N := if a = 0 then mz_pI N 232 21 (nI v) else mz_wI N 249 (nI (a - 1)) (nI v)
theorem price_al (hB : B + 1 < 2 ^ 30) (h : Sm q B N1 b N2) : cp_181_0 v1 v2 N1 b ∧ cp_499_0 v1 v2 N2 ∧ cal q (B + 1) b N1 N2 (cf_181_0 v1 v2 N1 b) (cf_499_0 v1 v2 N2) := by
  obtain ⟨p1, c1⟩ := in_l 0 3 (by omega) (by omega) v1 (w0 := 0) (w := 3) (g0 := 0) (g := 3) rfl rfl rfl rfl
  rcases h with h | h
  · obtain ⟨w1, w2⟩ := Sm_u h
    obtain ⟨u1, u2⟩ := c104_u w1
    obtain ⟨F1, F2⟩ := f462_u (a := true) (st := true) w2
    obtain ⟨F3, F4⟩ := f462_u (a := false) (st := true) w2
    have F2' : cf_462_0 true true N2 = (false, mz_pI N2 232 0 0) := F2
    have F4' : cf_462_0 false true N2 = (true, mz_pI N2 232 0 1) := F4
    rcases c1 with ⟨a1, la1, ha1, rfl, i1, j1⟩ | ⟨i1, j1⟩
    · have z0 : (nI a1 = 0) = (a1 = 0) := nI_lit (c := 0) (by omega) (by omega)
      have R2 : cp_105_0 v2 0 (if a1 = 0 then 20000 else 1000) ∧ ((∃ k, k ≤ (if a1 = 0 then 20000 else 1000) ∧ v2 = nI k ∧ cf_105_0 v2 0 (if a1 = 0 then 20000 else 1000) = 0 ∧ cf_466_0 v2.toInt64 0 (if a1 = 0 then 20000 else 1000) = true) ∨ (cf_105_0 v2 0 (if a1 = 0 then 20000 else 1000) = 1 ∧ cf_466_0 v2.toInt64 0 (if a1 = 0 then 20000 else 1000) = false)) := by
        by_cases w : a1 = 0
        · simp only [if_pos w]; exact in_r 20000 (by omega) v2 rfl rfl
        · simp only [if_neg w]; exact in_r 1000 (by omega) v2 rfl rfl
      obtain ⟨p2, c2⟩ := R2
      rcases c2 with ⟨a2, hm, rfl, i2, j2⟩ | ⟨i2, j2⟩
      · skip
        obtain ⟨p, C, s, D, H, x, L, R, h1, h2, h3, h4, h5, h6⟩ := h
        have ib : mz_ib (nI a1) 4 := ib_n (by omega) (by omega)
        have ga : mz_gI N1 215 (nI a1) = H.2.1 6 a1 := by rw [gI_a, nI_clamp (by omega)]; exact h3.cs.ks.kc.2.2.2.2.2.2.2.2.2.2.2.1 _ (by omega)
        have k3 := h3.cs.ks.kc.2.2.2.2.2.2.2.2.2.2.2.1
        have r3 := h3.cs.ks.kr.2.2.2.2.2.2.2.2.2.2.2.1
        generalize hM1 : mz_wI N1 215 (nI a1) (nI a2) = M1
        generalize hM2 : prM (mz_pI N2 232 0 0) a1 a2 = M2
        have f1 : fq [215] [] N1 M1 := by rw [← hM1]; exact fq_wI (fq_refl _ _ _) rfl
        have f2 : fq [232, 249] [] N2 M2 := by rw [← hM2]; exact by unfold prM; split; exact fq_pI (fq_pI (fq_refl _ _ _) rfl) rfl; exact fq_wI (fq_pI (fq_refl _ _ _) rfl) rfl
        have i232 : ∀ f, f ≠ 0 → f ≠ 21 → M2.1 232 f = N2.1 232 f := fun f g0 g21 => by rw [← hM2]; unfold prM; split; rw [pI_s, sI_e, up_a, if_neg g21, pI_s, sI_e, up_a, if_neg g0]; rw [wI_ne (by decide), pI_s, sI_e, up_a, if_neg g0]
        have l232 : ∀ f, f ≠ 122 → M2.2 232 f = N2.2 232 f := fun f _ => by rw [f2.2 232 rfl]
        have h0 : M2.1 232 0 = 0 := by rw [← hM2]; unfold prM; split; rw [pI_s, sI_e, up_a, if_neg (by decide)]; exact code_0; rw [wI_ne (by decide)]; exact code_0
        have n1 : ∀ j, j < 4 → M1.1 215 j = (kI H 6 a1 (nI a2)).2.1 6 j := fun j hj => by
          rw [← hM1, wI_at (by omega), kI0, up_d]; split
          · rfl
          · exact k3 j hj
        have n2 : M2.1 232 21 = (kI H 6 a1 (nI a2)).2.1 6 0 ∧ ∀ j, j < 3 → M2.1 249 j = (kI H 6 a1 (nI a2)).2.1 6 (j + 1) := by
          rw [← hM2, kI0]
          unfold prM
          split
          · rename_i w
            subst w
            refine ⟨by rw [pI_s, sI_e, up_a, if_pos rfl, up_d, if_pos rfl], fun j hj => ?_⟩
            rw [pI_s, sI_n (by decide), pI_s, sI_n (by decide), up_d, if_neg (by omega)]
            exact r3.2 j hj
          · rename_i w
            refine ⟨by rw [wI_ne (by decide), pI_s, sI_e, up_a, if_neg (by decide), up_d, if_neg (fun z => w z.symm)]; exact r3.1, fun j hj => ?_⟩
            rw [wI_at (by omega), up_d]
            by_cases y : j = a1 - 1
            · rw [if_pos y, if_pos (by omega)]
            · rw [if_neg y, if_neg (by omega)]
              exact r3.2 j hj
        have ky : kyo 10 0 < 135 := kyo_10
        have ha : gka [(10, 0)] := gka_c (by omega) (by omega) ky gka_n
        have t : tld N1 N2 M1 M2 b (kI H 6 a1 (nI a2)) [(10, 0)] := ⟨ckp_10 h3.cs.ks.kc f1 rfl rfl (fun _ => rfl) kI1 (fun _ => rfl) n1, rkp_10 h3.cs.ks.kr f2 rfl rfl (i232 27 (by decide) (by decide)) (fun f _ => by rw [f2.2 232 rfl]) (fun _ => rfl) kI1 (fun _ => rfl) n2, ha, by show 1 ≤ 16; omega, al_c (kxt_n (show 10 ≤ 12 by omega)) al_n, al_c (kpl_n (show (10 : Nat) ≠ 4 by decide) (show (10 : Nat) ≠ 7 by decide) (show (10 : Nat) ≠ 12 by decide)) al_n, gtx_n ha (al_c (show (10 : Nat) ≠ 6 by decide) al_n), Or.inl (al_c (show 8 ≤ 10 ∧ 10 ≤ 12 by decide) al_n)⟩
        have hb : kpb (kI H 6 a1 (nI a2)) := h3.cs.ks.hb
        have hk : KB p (kI H 6 a1 (nI a2)) := by
          obtain ⟨d1, d2, d3, d4, d5, d6, d7, d8, d9, d10, d11, d12, d13, d14, d15, d16, d17⟩ := h3.iv.kb
          refine ⟨d1, d2, d3, d4, ?_, fun j g1 g4 => ?_, d7, d8, d9, d10, d11, d12, d13, d14, d15, d16, d17⟩
          · rw [kI0, up_d]; split
            · rename_i w; exact ⟨a2, by rw [← w] at hm; exact hm, rfl⟩
            · exact d5
          · rw [kI0, up_d]; split
            · rename_i w; exact ⟨a2, by rw [if_neg (by omega)] at hm; exact hm, rfl⟩
            · exact d6 j g1 g4
        obtain ⟨P, Q, O⟩ := tell_al h3 h4 f1 f2 rfl rfl rfl rfl rfl rfl rfl rfl i232 l232 t hb rfl rfl rfl rfl rfl (fun _ _ z => z) rfl rfl rfl hk (fun j hj z => MR_dr h3 j hj z) (fun k hk' hw _ => (kgn_0 (H := H) (G := kI H 6 a1 (nI a2)) (fun _ _ => rfl) (fun f _ _ _ _ g _ _ _ => kI1 f g)) _ _ (kdk_ok k hk').1 (kdk_ok k hk').2.1 hw (by have := (kdk_ok k hk').1; omega))
        obtain ⟨q1, q2, q3⟩ := keep_al (a := H.2.1 6 a1) h6 h1 (B' := B + 1) (by omega) (by omega) h5 P Q O h0
        have q1' : cp_171_0 10 0 (H.2.1 6 a1) M1 b := q1
        have q2' : cp_494_0 10 0 M2 := q2
        have e1 : cf_181_0 (nI a1) (nI a2) N1 b = (0, (cf_171_0 10 0 (H.2.1 6 a1) M1 b).1, (cf_171_0 10 0 (H.2.1 6 a1) M1 b).2) := by
          simp [cf_181_0, cf_182_0, z0, u2, i1, i2, ga, hM1]
        refine ⟨by simp [cp_181_0, cp_182_0, cf_182_0, z0, u1, u2, p1, p2, i1, i2, ib, ga, hM1, q1'], ?_, ?_⟩
        · by_cases w : a1 = 0
          · have w0 : (a1 = 0) = True := eq_true w
            have hM : mz_pI (mz_pI N2 232 0 0) 232 21 (nI a2) = M2 := by rw [← hM2]; unfold prM; rw [if_pos w]
            simp only [w0, if_true] at j2
            simp [cp_499_0, cp_499_29, cp_499_40, cp_499_68, cp_499_90, z0, w0, j1, j2, F1, F2', hM, q2']
          · have w0 : (a1 = 0) = False := eq_false w
            have ib3 : mz_ib (nI (a1 - 1)) 3 := ib_n (by omega) (by omega)
            have s1 : nI a1 - 1 = nI (a1 - 1) := nI_pr (by omega)
            have hM : mz_wI (mz_pI N2 232 0 0) 249 (nI (a1 - 1)) (nI a2) = M2 := by rw [← hM2]; unfold prM; rw [if_neg w]
            simp only [w0, if_false] at j2
            simp [cp_499_0, cp_499_29, cp_499_40, cp_499_68, cp_499_90, z0, w0, j1, j2, F1, F2', s1, ib3, hM, q2']
        · have e2 : cf_499_0 (nI a1) (nI a2) N2 = ((if (cf_494_0 10 0 M2).1 = true then (H.2.1 6 a1) else -1001), (cf_494_0 10 0 M2).2) := by
            by_cases w : a1 = 0
            · have w0 : (a1 = 0) = True := eq_true w
              have hM : mz_pI (mz_pI N2 232 0 0) 232 21 (nI a2) = M2 := by rw [← hM2]; unfold prM; rw [if_pos w]
              have gb : (mz_pI N2 232 0 0).1 232 21 = H.2.1 6 a1 := by rw [w, pI_s, sI_e, up_a, if_neg (by decide)]; exact r3.1
              simp only [w0, if_true] at j2
              simp [cf_499_0, cf_499_29, cf_499_40, cf_499_68, cf_499_90, z0, w0, j1, j2, F2', gb, hM]
              split <;> rfl
            · have w0 : (a1 = 0) = False := eq_false w
              have s1 : nI a1 - 1 = nI (a1 - 1) := nI_pr (by omega)
              have hM : mz_wI (mz_pI N2 232 0 0) 249 (nI (a1 - 1)) (nI a2) = M2 := by rw [← hM2]; unfold prM; rw [if_neg w]
              have gb : mz_gI (mz_pI N2 232 0 0) 249 (nI (a1 - 1)) = H.2.1 6 a1 := by
                rw [gI_a, nI_clamp (by omega)]
                show N2.1 249 (a1 - 1) = _
                rw [r3.2 _ (by omega), show a1 - 1 + 1 = a1 by omega]
              simp only [w0, if_false] at j2
              simp [cf_499_0, cf_499_29, cf_499_40, cf_499_68, cf_499_90, z0, w0, j1, j2, F2', s1, gb, hM]
              split <;> rfl
          rw [e1, e2]
          exact q3
      · refine ⟨by simp [cp_181_0, cp_182_0, cf_182_0, z0, u1, u2, p1, p2, i1, i2], ?_, cal_m (Nat.le_refl _) (Nat.le_succ _) (Sm_r (a := 0) (a' := 0) (Or.inl h) (Or.inl rfl) (by simp [cf_181_0, cf_182_0, z0, u2, i1, i2]) ?_)⟩
        · by_cases w : a1 = 0
          · have w0 : (a1 = 0) = True := eq_true w
            simp only [w0, if_true] at j2
            simp [cp_499_0, cp_499_29, cp_499_39, cp_499_40, z0, w0, j1, j2, F3, F4']
          · have w0 : (a1 = 0) = False := eq_false w
            simp only [w0, if_false] at j2
            simp [cp_499_0, cp_499_29, cp_499_39, cp_499_40, z0, w0, j1, j2, F3, F4']
        · by_cases w : a1 = 0
          · have w0 : (a1 = 0) = True := eq_true w
            simp only [w0, if_true] at j2
            simp [cf_499_0, cf_499_29, cf_499_39, cf_499_40, z0, w0, j1, j2, F4', n01]
          · have w0 : (a1 = 0) = False := eq_false w
            simp only [w0, if_false] at j2
            simp [cf_499_0, cf_499_29, cf_499_39, cf_499_40, z0, w0, j1, j2, F4', n01]
    · exact ⟨by simp [cp_181_0, u1, u2, p1, i1], by simp [cp_499_0, cp_499_39, cp_499_40, j1, F3, F4'], cal_m (Nat.le_refl _) (Nat.le_succ _) (Sm_r (a := 0) (a' := 0) (Or.inl h) (Or.inl rfl) (by simp [cf_181_0, u2, i1]) (by simp [cf_499_0, cf_499_39, cf_499_40, j1, F4', n01]))⟩
  · obtain ⟨w1, w2⟩ := Sm_d h
    obtain ⟨u1, u2⟩ := c104_d w1
    obtain ⟨F1, F2⟩ := F_d w2
    exact ⟨by simp [cp_181_0, u1, u2], by simp [cp_499_0, cp_499_29, cp_499_39, cp_499_40, F1, F2], cal_m (Nat.le_refl _) (Nat.le_succ _) (Sm_r (a := 0) (a' := 0) (Or.inr h) (Or.inr rfl) (by simp [cf_181_0, u2]) (by simp [cf_499_0, cf_499_29, cf_499_39, cf_499_40, F2]; rfl))⟩
end Td
