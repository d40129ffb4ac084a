/-! PURE (50zzzzzc): people. -/
section Pe
variable {N N1 N2 : mz_N} {b : Bool} {B q : Nat} {v v1 v2 v3 : Int32}
theorem in_l (lo hi : Nat) (hh : hi < 2 ^ 31) (hl : lo ≤ hi) (v : Int32) {w0 w : Int32} {g0 g : Int64} (e0 : w0 = nI lo) (hw : w = nI hi) (e1 : g0 = (nI lo).toInt64) (hg : g = (nI hi).toInt64) : cp_105_0 v w0 w ∧ ((∃ k, lo ≤ k ∧ k ≤ hi ∧ v = nI k ∧ cf_105_0 v w0 w = 0 ∧ cf_466_0 v.toInt64 g0 g = true) ∨ (cf_105_0 v w0 w = 1 ∧ cf_466_0 v.toInt64 g0 g = false)) := by
  subst e0 hw e1 hg
  exact in_c hh hl
theorem F_d (h : N2.1 232 137 = 1) : (∀ a st, cp_462_0 a st N2) ∧ ∀ a st, cf_462_0 a st N2 = (true, mz_pI N2 232 0 2) := ⟨fun _ _ => (f462_d h).1, fun _ _ => (f462_d h).2⟩
theorem kS1 {H : Kp} {f j x : Nat} : ∀ g, g ≠ f → (kS H f j x).1 g = H.1 g := fun g hg => by show up H.1 f _ g = _; rw [up_d, if_neg hg]
theorem kS0 {H : Kp} {f j x : Nat} : (kS H f j x).1 f = up (H.1 f) j x := by show up H.1 f _ f = _; rw [up_d, if_pos rfl]
theorem people_al (hB : B + 1 < 2 ^ 30) (h : Sm q B N1 b N2) : cp_173_0 v1 v2 v3 N1 b ∧ cp_495_0 v1 v2 v3 N2 ∧ cal q (B + 1) b N1 N2 (cf_173_0 v1 v2 v3 N1 b) (cf_495_0 v1 v2 v3 N2) := by
  obtain ⟨p1, c1⟩ := in_l 0 9 (by omega) (by omega) v1 (w0 := 0) (w := 9) (g0 := 0) (g := 9) rfl rfl rfl rfl
  obtain ⟨p2, c2⟩ := in_l 0 23 (by omega) (by omega) v2 (w0 := 0) (w := 23) (g0 := 0) (g := 23) rfl rfl rfl rfl
  obtain ⟨p3, c3⟩ := in_l 0 20 (by omega) (by omega) v3 (w0 := 0) (w := 20) (g0 := 0) (g := 20) rfl rfl rfl rfl
  rcases h with h | h
  · obtain ⟨w1, w2⟩ := Sm_u h
    obtain ⟨u1, u2⟩ := c104_u w1
    obtain ⟨F1, F2⟩ := f462_u (a := true) (st := true) w2
    obtain ⟨F3, F4⟩ := f462_u (a := false) (st := true) w2
    have F2' : cf_462_0 true true N2 = (false, mz_pI N2 232 0 0) := F2
    have F4' : cf_462_0 false true N2 = (true, mz_pI N2 232 0 1) := F4
    rcases c1 with ⟨a1, _, ha1, rfl, i1, j1⟩ | ⟨i1, j1⟩
    · rcases c2 with ⟨a2, _, ha2, rfl, i2, j2⟩ | ⟨i2, j2⟩
      · rcases c3 with ⟨a3, _, ha3, rfl, i3, j3⟩ | ⟨i3, j3⟩
        · obtain ⟨p, C, s, D, H, x, L, R, h1, h2, h3, h4, h5, h6⟩ := h
          have x1 : nI a1 * 24 + nI a2 = nI (24 * a1 + a2) := by rw [show (24 : Int32) = nI 24 from rfl, pk_mul, nI_add, Nat.mul_comm]
          have x2 : 24 * nI a1 + nI a2 = nI (24 * a1 + a2) := by rw [show (24 : Int32) = nI 24 from rfl, pk_mul, nI_add]
          have ib : mz_ib (nI (24 * a1 + a2)) 240 := ib_n (by omega) (by omega)
          have k3 := h3.cs.ks.kc.2.2.1
          have r3 := h3.cs.ks.kr.2.2.1
          have ga : mz_gI N1 40 (nI (24 * a1 + a2)) = nI (H.1 2 (24 * a1 + a2)) := by rw [gI_a, nI_clamp (by omega)]; exact k3 _ (by omega)
          have gb : mz_gI (mz_pI N2 232 0 0) 244 (nI (24 * a1 + a2)) = nI (H.1 2 (24 * a1 + a2)) := by rw [gI_a, nI_clamp (by omega)]; exact r3 _ (by omega)
          generalize hM1 : mz_wI N1 40 (nI (24 * a1 + a2)) (nI a3) = M1
          generalize hM2 : mz_wI (mz_pI N2 232 0 0) 244 (nI (24 * a1 + a2)) (nI a3) = M2
          have f1 : fq [40] [] N1 M1 := by rw [← hM1]; exact fq_wI (fq_refl _ _ _) rfl
          have f2 : fq [232, 244] [] N2 M2 := by rw [← hM2]; exact fq_wI (fq_pI (fq_refl _ _ _) rfl) rfl
          have i232 : ∀ f, f ≠ 0 → f ≠ 21 → M2.1 232 f = N2.1 232 f := fun f g0 _ => by rw [← hM2, wI_ne (by decide), pI_s, sI_e, up_a, if_neg g0]
          have l232 : ∀ f, f ≠ 122 → M2.2 232 f = N2.2 232 f := fun f _ => by rw [f2.2 232 rfl]
          have h0 : M2.1 232 0 = 0 := by rw [← hM2, wI_ne (by decide)]; exact code_0
          have n1 : ∀ j, j < 240 → M1.1 40 j = nI ((kS H 2 (24 * a1 + a2) a3).1 2 j) := fun j hj => by
            rw [← hM1, wI_at (by omega), kS0, up_d]; split
            · rfl
            · exact k3 j hj
          have n2 : ∀ j, j < 240 → M2.1 244 j = nI ((kS H 2 (24 * a1 + a2) a3).1 2 j) := fun j hj => by
            rw [← hM2, wI_at (by omega), kS0, up_d]; split
            · rfl
            · exact r3 j hj
          have b20 : ∀ j, (kS H 2 (24 * a1 + a2) a3).1 2 j ≤ 20 := fun j => by
            rw [kS0, up_d]; split
            · exact ha3
            · exact h3.iv.kb.pp j
          have ky : kyo 3 a1 < 135 := (show ∀ v, v < 10 → kyo 3 v < 135 by decide) a1 (by omega)
          have ha : gka [(3, a1)] := gka_c (by omega) (by omega) ky gka_n
          have t : tld N1 N2 M1 M2 b (kS H 2 (24 * a1 + a2) a3) [(3, a1)] := ⟨ckp_3 h3.cs.ks.kc f1 rfl rfl kS1 (fun _ => rfl) (fun _ => rfl) n1, rkp_3 h3.cs.ks.kr f2 rfl rfl (i232 27 (by decide) (by decide)) (by rw [← hM2, wI_ne (by decide), pI_s, sI_e, up_a, if_neg (by decide)]) (fun f _ => by rw [f2.2 232 rfl]) kS1 (fun _ => rfl) (fun _ => rfl) n2, ha, by show 1 ≤ 16; omega, al_c (kxt_n (show 3 ≤ 12 by omega)) al_n, al_c (kpl_n (show (3 : Nat) ≠ 4 by decide) (show (3 : Nat) ≠ 7 by decide) (show (3 : Nat) ≠ 12 by decide)) al_n, gtx_n ha (al_c (show (3 : Nat) ≠ 6 by decide) al_n), Or.inr (al_c (show (3 : Nat) < 8 ∨ 12 ≤ 3 by decide) al_n)⟩
          have hb : kpb (kS H 2 (24 * a1 + a2) a3) := by
            obtain ⟨y0, y1, y2, y3, y5, y4, yt4, y6, y7, y8, y9, y12, y13, y15, y16, y19, y20⟩ := h3.cs.ks.hb
            exact ⟨y0, y1, fun j => by have := b20 j; omega, y3, y5, y4, yt4, y6, y7, y8, y9, y12, y13, y15, y16, y19, y20⟩
          have hk : KB p (kS H 2 (24 * a1 + a2) a3) := by
            obtain ⟨d1, d2, d3, d4, d5, d6, d7, d8, d9, d10, d11, d12, d13, d14, d15, d16, d17⟩ := h3.iv.kb
            exact ⟨b20, d2, d3, d4, d5, d6, d7, d8, d9, d10, d11, d12, d13, d14, d15, d16, d17⟩
          obtain ⟨P, Q, O⟩ := tell_al h3 h4 f1 f2 rfl rfl rfl rfl rfl rfl rfl rfl i232 l232 t hb rfl rfl rfl rfl rfl (fun _ _ z => z) rfl rfl rfl hk (fun j hj z => MR_dr h3 j hj z) (kgo_l (kd0 := 3) (p := fun jx => jx = a1) (kgn_3 kS1 (fun _ => rfl)) (fun jx hj => by rw [hj]; exact List.mem_cons_self) (fun jx hj => by
            show ∀ j, 24 * jx ≤ j → j < 24 * jx + 24 → H.1 2 j = (kS H 2 (24 * a1 + a2) a3).1 2 j
            intro j g1 g2
            rw [kS0, up_d, if_neg (by omega)]))
          obtain ⟨q1, q2, q3⟩ := keep_al (a := nI (H.1 2 (24 * a1 + a2))) h6 h1 (B' := B + 1) (by omega) (by omega) h5 P Q O h0
          have q1' : cp_171_0 3 (nI a1) (nI (H.1 2 (24 * a1 + a2))) M1 b := q1
          have q2' : cp_494_0 3 (nI a1) M2 := q2
          refine ⟨?_, ?_, ?_⟩
          · simp [cp_173_0, u1, u2, p1, p2, p3, i1, i2, i3, x1, ib, ga, hM1, q1']
          · simp [cp_495_0, cp_495_42, cp_495_90, j1, j2, j3, F1, F2', x2, ib, hM2, q2']
          · have e1 : cf_173_0 (nI a1) (nI a2) (nI a3) N1 b = (0, (cf_171_0 3 (nI a1) (nI (H.1 2 (24 * a1 + a2))) M1 b).1, (cf_171_0 3 (nI a1) (nI (H.1 2 (24 * a1 + a2))) M1 b).2) := by
              simp [cf_173_0, u2, i1, i2, i3, x1, ga, hM1]
            have e2 : cf_495_0 (nI a1) (nI a2) (nI a3) N2 = ((if (cf_494_0 3 (nI a1) M2).1 = true then nI (H.1 2 (24 * a1 + a2)) else -1001), (cf_494_0 3 (nI a1) M2).2) := by
              simp [cf_495_0, cf_495_42, cf_495_90, j1, j2, j3, F2', x2, gb, hM2]
              split <;> rfl
            rw [e1, e2]
            exact q3
        · exact ⟨by simp [cp_173_0, u1, u2, p1, p2, p3, i1, i2, i3], by simp [cp_495_0, cp_495_42, cp_495_41, j1, j2, j3, F3, F4'], cal_m (Nat.le_refl _) (Nat.le_succ _) (Sm_r (a := 0) (a' := 0) (Or.inl h) (Or.inl rfl) (by simp [cf_173_0, u2, i1, i2, i3]) (by simp [cf_495_0, cf_495_42, cf_495_41, j1, j2, j3, F4', n01]))⟩
      · exact ⟨by simp [cp_173_0, u1, u2, p1, p2, p3, i1, i2], by simp [cp_495_0, cp_495_42, cp_495_41, j1, j2, F3, F4'], cal_m (Nat.le_refl _) (Nat.le_succ _) (Sm_r (a := 0) (a' := 0) (Or.inl h) (Or.inl rfl) (by simp [cf_173_0, u2, i1, i2]) (by simp [cf_495_0, cf_495_42, cf_495_41, j1, j2, F4', n01]))⟩
    · exact ⟨by simp [cp_173_0, u1, u2, p1, p2, p3, i1], by simp [cp_495_0, cp_495_42, cp_495_41, j1, F3, F4'], cal_m (Nat.le_refl _) (Nat.le_succ _) (Sm_r (a := 0) (a' := 0) (Or.inl h) (Or.inl rfl) (by simp [cf_173_0, u2, i1]) (by simp [cf_495_0, cf_495_42, cf_495_41, j1, F4', n01]))⟩
  · obtain ⟨w1, w2⟩ := Sm_d h
    obtain ⟨u1, u2⟩ := c104_d w1
    obtain ⟨F1, F2⟩ := F_d w2
    exact ⟨by simp [cp_173_0, u1, u2], by simp [cp_495_0, cp_495_42, cp_495_41, F1, F2], cal_m (Nat.le_refl _) (Nat.le_succ _) (Sm_r (a := 0) (a' := 0) (Or.inr h) (Or.inr rfl) (by simp [cf_173_0, u2]) (by simp [cf_495_0, cf_495_42, cf_495_41, F2]; rfl))⟩
end Pe
