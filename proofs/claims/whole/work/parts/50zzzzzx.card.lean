/-! PURE (50zzzzzx): card. -/
section Ca
variable {N N1 N2 M1 M2 : mz_N} {b : Bool} {B q : Nat} {s : st_S} {D H G : Kp} {x : CrS} {L L' : LvS} {R : RsS} {v v1 v2 v3 v4 : Int32} {v5 : Bool} {t : Nat → Nat}
theorem card_al (hB : B + 1 < 2 ^ 30) (h : Sm q B N1 b N2) : cp_303_0 v1 v2 v3 v4 v5 N1 b ∧ cp_577_0 v1 v2 v3 v4 v5 N2 ∧ cal q (B + 1) b N1 N2 (cf_303_0 v1 v2 v3 v4 v5 N1 b) (cf_577_0 v1 v2 v3 v4 v5 N2) := by
  obtain ⟨p1, c1⟩ := in_l 0 39 (by omega) (by omega) v1 (w0 := 0) (w := 39) (g0 := 0) (g := 39) rfl rfl rfl rfl
  obtain ⟨p2, c2⟩ := in_l 0 1048575 (by omega) (by omega) v2 (w0 := 0) (w := 1048575) (g0 := 0) (g := 1048575) rfl rfl rfl rfl
  obtain ⟨p3, c3⟩ := in_l 0 23 (by omega) (by omega) v3 (w0 := 0) (w := 23) (g0 := 0) (g := 23) rfl rfl rfl rfl
  obtain ⟨p4, c4⟩ := in_l 0 23 (by omega) (by omega) v4 (w0 := 0) (w := 23) (g0 := 0) (g := 23) rfl rfl rfl rfl
  have e2' : decide (cf_105_0 v2 0 1048575 = 0) = (if v2 < 0 then false else (if v2 < 1048576 then true else false)) := i105 (v := v2) (hi := 1048575) (by omega)
  rcases Sm_0 h with ⟨hu, u1, u2, F1, Ft, Ff, Fs, F3, F4⟩ | ⟨u1, u2, F1, Fd, F3, F4⟩
  · rcases c1 with ⟨k, _, hk, rfl, i1, j1⟩ | ⟨i1, j1⟩
    · rcases c2 with ⟨y, _, hy, rfl, i2, j2⟩ | ⟨i2, j2⟩
      · have n0 : (nI y < 0) = False := eq_false (nI_neg2 (by omega)).2
        have n1 : (nI y < 1048576) = True := eq_true ((nI_ltI (b := 1048576) (by omega) (by omega)).mpr (by omega))
        rcases c3 with ⟨a, _, ha, rfl, i3, j3⟩ | ⟨i3, j3⟩
        · rcases c4 with ⟨c, _, hc, rfl, i4, j4⟩ | ⟨i4, j4⟩
          · obtain ⟨p, C, s, D, H, x, L, R, h1, h2, h3, h4, h5, h6⟩ := id hu
            have ib : mz_ib (nI k) 40 := ib_n (by omega) (by omega)
            have kc14 := h3.cs.ks.kc.2.2.2.2.2.2.2.2.2.2.2.2.2.2.2.1
            have kr14 := h3.cs.ks.kr.2.2.2.2.2.2.2.2.2.2.2.2.2.2.2.1
            have hb15 : ∀ j, H.1 15 j ≤ 1 := h3.cs.ks.hb.2.2.2.2.2.2.2.2.2.2.2.2.2.1
            obtain ⟨m, hm⟩ : ∃ m, m = b1 v5 := ⟨_, rfl⟩
            have em : mz_b01 v5 = nI m := by rw [hm]; cases v5 <;> rfl
            have m1 : m ≤ 1 := by rw [hm]; cases v5 <;> decide
            have g311 : mz_gI (mz_pI N2 232 0 0) 311 (nI k) = nI (H.1 15 k) := by rw [gI_a, nI_clamp (by omega)]; exact (kr14 k (by omega)).1
            have bk := hb15 k
            have z311 : mz_z01 (nI (H.1 15 k)) := by rcases (show H.1 15 k = 0 ∨ H.1 15 k = 1 by omega) with w | w <;> rw [w] <;> first | exact Or.inl rfl | exact Or.inr rfl
            have gz : mz_gZ (mz_pI N2 232 0 0) 311 (nI k) = decide (H.1 15 k = 1) := by
              rw [gZ_a, nI_clamp (by omega)]
              show decide (N2.1 311 k = 1) = _
              rw [(kr14 k (by omega)).1]
              rcases (show H.1 15 k = 0 ∨ H.1 15 k = 1 by omega) with w | w <;> rw [w] <;> rfl
            obtain ⟨y0, hy0⟩ : ∃ y0, y0 = N2.1 316 k := ⟨_, rfl⟩
            have g316 : mz_gI (mz_pI N2 232 0 0) 316 (nI k) = y0 := by rw [gI_a, nI_clamp (by omega), hy0]; rfl
            have y1 : ¬ H.1 15 k = 1 → (-1 : Int32) = y0 := fun z => by rw [hy0, (h4.wh k (by omega)).2, nO_ge (by have := h4.wn k (by omega) z; omega)]
            generalize hM1 : cf_71_0 (nI k) (nI y) (nI a) (nI c) (nI m) N1 = M1
            generalize hM2 : mz_wI (mz_wI (mz_wI (mz_wI (mz_wI (mz_wI (mz_pI N2 232 0 0) 316 (nI k) y0) 311 (nI k) (mz_b01 true)) 312 (nI k) (nI y)) 313 (nI k) (nI a)) 314 (nI k) (nI c)) 315 (nI k) (nI m) = M2
            have f1 : fq [104, 105, 106, 107, 108] [] N1 M1 := by rw [← hM1, cf_71_0]; exact fq_wI (fq_wI (fq_wI (fq_wI (fq_wI (fq_refl _ _ _) rfl) rfl) rfl) rfl) rfl
            have f2' : fq [232, 311, 312, 313, 314, 315, 316] [] N2 M2 := by rw [← hM2]; exact fq_wI (fq_wI (fq_wI (fq_wI (fq_wI (fq_wI (fq_pI (fq_refl _ _ _) rfl) rfl) rfl) rfl) rfl) rfl) rfl
            have m316 : M2.1 316 = N2.1 316 := funext fun j => by
              rw [← hM2, wI_ne (by decide), wI_ne (by decide), wI_ne (by decide), wI_ne (by decide), wI_ne (by decide), wI_at (by omega)]
              by_cases z : j = k
              · rw [if_pos z, z, hy0]
              · rw [if_neg z]; rfl
            have f2 : fq [232, 311, 312, 313, 314, 315] [] N2 M2 := ⟨fun z hz => by
              by_cases w : z = 316
              · rw [w]; exact m316
              · refine f2'.1 z ?_
                simp only [List.contains_eq_mem, List.mem_cons, List.not_mem_nil, or_false, decide_eq_false_iff_not] at hz ⊢
                omega, fun z hz => f2'.2 z hz⟩
            have i232 : ∀ f, f ≠ 0 → f ≠ 21 → M2.1 232 f = N2.1 232 f := fun f g0 _ => by rw [← hM2, wI_ne (by decide), wI_ne (by decide), wI_ne (by decide), wI_ne (by decide), wI_ne (by decide), wI_ne (by decide), pI_s, sI_e, up_a, if_neg g0]
            have i21 : M2.1 232 21 = N2.1 232 21 := by rw [← hM2, wI_ne (by decide), wI_ne (by decide), wI_ne (by decide), wI_ne (by decide), wI_ne (by decide), wI_ne (by decide), pI_s, sI_e, up_a, if_neg (by decide)]
            have l232 : ∀ f, f ≠ 122 → M2.2 232 f = N2.2 232 f := fun f _ => by rw [f2.2 232 rfl]
            have h0 : M2.1 232 0 = 0 := by rw [← hM2, wI_ne (by decide), wI_ne (by decide), wI_ne (by decide), wI_ne (by decide), wI_ne (by decide), wI_ne (by decide)]; exact code_0
            have m104 : ∀ j, M1.1 104 j = if j = k then 1 else N1.1 104 j := fun j => by rw [← hM1, cf_71_0, wI_ne (by decide), wI_ne (by decide), wI_ne (by decide), wI_ne (by decide), wI_at (by omega)]
            have m105 : ∀ j, M1.1 105 j = if j = k then nI a else N1.1 105 j := fun j => by rw [← hM1, cf_71_0, wI_ne (by decide), wI_ne (by decide), wI_ne (by decide), wI_at (by omega), wI_ne (by decide)]
            have m106 : ∀ j, M1.1 106 j = if j = k then nI c else N1.1 106 j := fun j => by rw [← hM1, cf_71_0, wI_ne (by decide), wI_ne (by decide), wI_at (by omega), wI_ne (by decide), wI_ne (by decide)]
            have m107 : ∀ j, M1.1 107 j = if j = k then nI m else N1.1 107 j := fun j => by rw [← hM1, cf_71_0, wI_ne (by decide), wI_at (by omega), wI_ne (by decide), wI_ne (by decide), wI_ne (by decide)]
            have m108 : ∀ j, M1.1 108 j = if j = k then nI y else N1.1 108 j := fun j => by rw [← hM1, cf_71_0, wI_at (by omega), wI_ne (by decide), wI_ne (by decide), wI_ne (by decide), wI_ne (by decide)]
            have m311 : ∀ j, M2.1 311 j = if j = k then 1 else N2.1 311 j := fun j => by rw [← hM2, wI_ne (by decide), wI_ne (by decide), wI_ne (by decide), wI_ne (by decide), wI_at (by omega), wI_ne (by decide)]; rfl
            have m312 : ∀ j, M2.1 312 j = if j = k then nI y else N2.1 312 j := fun j => by rw [← hM2, wI_ne (by decide), wI_ne (by decide), wI_ne (by decide), wI_at (by omega), wI_ne (by decide), wI_ne (by decide)]; rfl
            have m313 : ∀ j, M2.1 313 j = if j = k then nI a else N2.1 313 j := fun j => by rw [← hM2, wI_ne (by decide), wI_ne (by decide), wI_at (by omega), wI_ne (by decide), wI_ne (by decide), wI_ne (by decide)]; rfl
            have m314 : ∀ j, M2.1 314 j = if j = k then nI c else N2.1 314 j := fun j => by rw [← hM2, wI_ne (by decide), wI_at (by omega), wI_ne (by decide), wI_ne (by decide), wI_ne (by decide), wI_ne (by decide)]; rfl
            have m315 : ∀ j, M2.1 315 j = if j = k then nI m else N2.1 315 j := fun j => by rw [← hM2, wI_at (by omega), wI_ne (by decide), wI_ne (by decide), wI_ne (by decide), wI_ne (by decide), wI_ne (by decide)]; rfl
            have E1 : ∀ f, f ≠ 15 → f ≠ 16 → f ≠ 17 → f ≠ 18 → (kCd H k a c m (nI y)).1 f = H.1 f := fun f a1 a2 a3 a4 => by show (if f = 15 then _ else _) = _; rw [if_neg a1, if_neg a2, if_neg a3, if_neg a4]
            have E2 : ∀ f, f ≠ 12 → (kCd H k a c m (nI y)).2.1 f = H.2.1 f := fun f a1 => by show (if f = 12 then _ else _) = _; rw [if_neg a1]
            have gc : c_kp M1 b (kCd H k a c m (nI y)) := ckp_14 h3.cs.ks.kc f1 rfl rfl E1 E2 (fun _ => rfl) (fun j hj => by
              show M1.1 104 j = nI (up (H.1 15) k 1 j) ∧ (up (H.1 15) k 1 j = 1 → M1.1 105 j = nI (up (H.1 16) k a j) ∧ M1.1 106 j = nI (up (H.1 17) k c j) ∧ M1.1 107 j = nI (up (H.1 18) k m j) ∧ M1.1 108 j = up (H.2.1 12) k (nI y) j)
              rw [m104, m105, m106, m107, m108, up_d, up_d, up_d, up_d, up_d]
              by_cases z : j = k
              · simp only [if_pos z]; exact ⟨rfl, fun _ => ⟨trivial, trivial, trivial, trivial⟩⟩
              · simp only [if_neg z]; exact kc14 j hj)
            have gr : r_kp M2 (kCd H k a c m (nI y)) := rkp_14 h3.cs.ks.kr f2 rfl rfl (i232 27 (by decide) (by decide)) i21 (fun f _ => by rw [f2.2 232 rfl]) E1 E2 (fun _ => rfl) (fun j hj => by
              show M2.1 311 j = nI (up (H.1 15) k 1 j) ∧ (up (H.1 15) k 1 j = 1 → M2.1 313 j = nI (up (H.1 16) k a j) ∧ M2.1 314 j = nI (up (H.1 17) k c j) ∧ M2.1 315 j = nI (up (H.1 18) k m j) ∧ M2.1 312 j = up (H.2.1 12) k (nI y) j)
              rw [m311, m312, m313, m314, m315, up_d, up_d, up_d, up_d, up_d]
              by_cases z : j = k
              · simp only [if_pos z]; exact ⟨rfl, fun _ => ⟨trivial, trivial, trivial, trivial⟩⟩
              · simp only [if_neg z]; exact kr14 j hj)
            have hb : kpb (kCd H k a c m (nI y)) := by
              obtain ⟨y0, y1, y2, y3, y5, y4, yt4, y6, y7, y8, y9, y12, y13, y15, y16, y19, y20⟩ := h3.cs.ks.hb
              refine ⟨y0, y1, y2, y3, y5, y4, yt4, y6, y7, y8, y9, y12, y13, fun j => ?_, fun j => ?_, y19, y20⟩
              · show up (H.1 15) k 1 j ≤ 1
                rw [up_d]; split
                · omega
                · exact y15 j
              · show up (H.1 16) k a j < 256 ∧ up (H.1 17) k c j < 256 ∧ up (H.1 18) k m j ≤ 1
                rw [up_d, up_d, up_d]
                by_cases z : j = k
                · rw [if_pos z, if_pos z, if_pos z]; omega
                · rw [if_neg z, if_neg z, if_neg z]; exact y16 j
            have hK : KB p (kCd H k a c m (nI y)) := h3.iv.kb
            have ky : kyo 14 k < 135 := (show ∀ v, v < 40 → kyo 14 v < 135 by decide) k (by omega)
            have hga : gka [(14, k)] := gka_c (by omega) (by omega) ky gka_n
            have hx1 : kxt (kCd H k a c m (nI y)) 14 k := ⟨fun z => by omega, fun _ => by show up (H.1 15) k 1 k = 1; rw [up_d, if_pos rfl], fun z => by omega⟩
            have tl : tld N1 N2 M1 M2 b (kCd H k a c m (nI y)) [(14, k)] := ⟨gc, gr, hga, by show 1 ≤ 16; omega, al_c hx1 al_n, al_c (kpl_n (show (14 : Nat) ≠ 4 by decide) (show (14 : Nat) ≠ 7 by decide) (show (14 : Nat) ≠ 12 by decide)) al_n, gtx_n hga (al_c (show (14 : Nat) ≠ 6 by decide) al_n), Or.inr (al_c (show (14 : Nat) < 8 ∨ 12 ≤ 14 by decide) al_n)⟩
            obtain ⟨P, Q, O⟩ := tell_al h3 h4 f1 f2 rfl rfl rfl rfl rfl rfl rfl rfl i232 l232 tl hb rfl rfl rfl rfl rfl (fun j _ z => by
              show up (H.1 15) k 1 j = 1
              rw [up_d]; split
              · rfl
              · exact z) rfl rfl rfl hK (fun j hj => MR_dr h3 j hj) (kgo_l (kd0 := 14) (p := fun jx => jx = k) (kgn_14 E1 E2) (fun jx hj => by rw [hj]; exact List.mem_cons_self) (fun jx hj => by
              show H.1 15 jx = up (H.1 15) k 1 jx ∧ (H.1 15 jx = 1 → H.1 16 jx = up (H.1 16) k a jx ∧ H.1 17 jx = up (H.1 17) k c jx ∧ H.1 18 jx = up (H.1 18) k m jx ∧ H.2.1 12 jx = up (H.2.1 12) k (nI y) jx)
              rw [up_d, up_d, up_d, up_d, up_d, if_neg hj, if_neg hj, if_neg hj, if_neg hj, if_neg hj]; exact ⟨rfl, fun _ => ⟨rfl, rfl, rfl, rfl⟩⟩))
            obtain ⟨q1, q2, q3⟩ := keep_al (a := 0) h6 h1 (B' := B + 1) (by omega) (by omega) h5 P Q O h0
            have q1' : cp_171_0 14 (nI k) 0 M1 b := q1
            have q2' : cp_494_0 14 (nI k) M2 := q2
            have s1 : cp_303_53 (nI k) (nI y) (nI a) (nI c) v5 (nI k) N1 b ∧ cf_303_53 (nI k) (nI y) (nI a) (nI c) v5 (nI k) N1 b = (0, (cf_171_0 14 (nI k) 0 M1 b).1, (cf_171_0 14 (nI k) 0 M1 b).2) := by
              rw [cp_303_53, cf_303_53, em, hM1]; exact ⟨⟨⟨ib, ib, ib, ib, ib⟩, q1'⟩, rfl⟩
            have s2 : cp_303_0 (nI k) (nI y) (nI a) (nI c) v5 N1 b ∧ cf_303_0 (nI k) (nI y) (nI a) (nI c) v5 N1 b = cf_303_53 (nI k) (nI y) (nI a) (nI c) v5 (nI k) N1 b := by
              cases v5 with
              | true => exact ⟨by simp [cp_303_0, u1, u2, p1, p2, p3, p4, i1, i2, i3, i4, s1.1], by simp [cf_303_0, u2, i1, i2, i3, i4]⟩
              | false => exact ⟨by simp [cp_303_0, u1, u2, p1, p2, p3, p4, i1, i2, i3, i4, s1.1], by simp [cf_303_0, u2, i1, i2, i3, i4]⟩
            have s3 : ∀ z, z = y0 → cp_577_87 (nI k) z (nI k) (nI y) (nI a) (nI c) v5 (mz_pI N2 232 0 0) ∧ cf_577_87 (nI k) z (nI k) (nI y) (nI a) (nI c) v5 (mz_pI N2 232 0 0) = ((if (cf_494_0 14 (nI k) M2).1 = true then 0 else -1001), (cf_494_0 14 (nI k) M2).2) := fun z hz => by
              rw [hz, cp_577_87, cf_577_87, cp_577_109, cf_577_109, em, hM2]
              refine ⟨⟨ib, ib, ib, ib, ib, ib, q2'⟩, ?_⟩
              split <;> rfl
            have s4 : cp_577_0 (nI k) (nI y) (nI a) (nI c) v5 N2 ∧ cf_577_0 (nI k) (nI y) (nI a) (nI c) v5 N2 = ((if (cf_494_0 14 (nI k) M2).1 = true then 0 else -1001), (cf_494_0 14 (nI k) M2).2) := by
              by_cases z : H.1 15 k = 1
              · have z' : decide (H.1 15 k = 1) = true := decide_eq_true z
                rw [z'] at gz
                exact ⟨by simp [cp_577_0, cp_577_54, j1, n0, n1, j3, j4, F1, Ft, ib, g311, z311, gz, g316, (s3 y0 rfl).1], by simp only [cf_577_0, cf_577_54, j1, n0, n1, j3, j4, if_true, if_false, Ft, Bool.false_eq_true, gz, g316, (s3 y0 rfl).2]⟩
              · have z' : decide (H.1 15 k = 1) = false := decide_eq_false z
                rw [z'] at gz
                exact ⟨by simp [cp_577_0, cp_577_54, j1, n0, n1, j3, j4, F1, Ft, ib, g311, z311, gz, (s3 (-1) (y1 z)).1], by simp only [cf_577_0, cf_577_54, j1, n0, n1, j3, j4, if_true, if_false, Ft, Bool.false_eq_true, gz, (s3 (-1) (y1 z)).2]⟩
            refine ⟨s2.1, s4.1, ?_⟩
            rw [s2.2, s1.2, s4.2]
            exact q3
          · exact ⟨by simp [cp_303_0, u1, u2, p1, p2, p3, p4, i1, i2, i3, i4], by simp [cp_577_0, cp_577_53, cp_577_54, j1, n0, n1, j3, j4, F1, Ff], cal_m (Nat.le_refl _) (Nat.le_succ _) (Sm_r (a := 0) (a' := 0) h (Or.inl rfl) (by simp [cf_303_0, u2, i1, i2, i3, i4]) (by simp [cf_577_0, cf_577_53, cf_577_54, j1, n0, n1, j3, j4, Ff]))⟩
        · exact ⟨by simp [cp_303_0, u1, u2, p1, p2, p3, i1, i2, i3], by simp [cp_577_0, cp_577_53, cp_577_54, j1, n0, n1, j3, F1, Ff], cal_m (Nat.le_refl _) (Nat.le_succ _) (Sm_r (a := 0) (a' := 0) h (Or.inl rfl) (by simp [cf_303_0, u2, i1, i2, i3]) (by simp [cf_577_0, cf_577_53, cf_577_54, j1, n0, n1, j3, Ff]))⟩
      · rw [i2] at e2'
        have e3 : (false : Bool) = if v2 < 0 then false else if v2 < 1048576 then true else false := e2'
        by_cases z : v2 < 0
        · exact ⟨by simp [cp_303_0, u1, u2, p1, p2, i1, i2], by simp [cp_577_0, cp_577_53, cp_577_54, j1, z, F1, Ff], cal_m (Nat.le_refl _) (Nat.le_succ _) (Sm_r (a := 0) (a' := 0) h (Or.inl rfl) (by simp [cf_303_0, u2, i1, i2]) (by simp [cf_577_0, cf_577_53, cf_577_54, j1, z, Ff]))⟩
        · have z2 : ¬ v2 < 1048576 := fun y => by rw [if_neg z, if_pos y] at e3; cases e3
          exact ⟨by simp [cp_303_0, u1, u2, p1, p2, i1, i2], by simp [cp_577_0, cp_577_53, cp_577_54, j1, z, z2, F1, Ff], cal_m (Nat.le_refl _) (Nat.le_succ _) (Sm_r (a := 0) (a' := 0) h (Or.inl rfl) (by simp [cf_303_0, u2, i1, i2]) (by simp [cf_577_0, cf_577_53, cf_577_54, j1, z, z2, Ff]))⟩
    · exact ⟨by simp [cp_303_0, u1, u2, p1, i1], by simp [cp_577_0, cp_577_53, cp_577_54, j1, F1, Ff], cal_m (Nat.le_refl _) (Nat.le_succ _) (Sm_r (a := 0) (a' := 0) h (Or.inl rfl) (by simp [cf_303_0, u2, i1]) (by simp [cf_577_0, cf_577_53, cf_577_54, j1, Ff]))⟩
  · exact ⟨by simp [cp_303_0, u1, u2], by simp [cp_577_0, cp_577_53, cp_577_54, F1, Fd], cal_m (Nat.le_refl _) (Nat.le_succ _) (Sm_r (a := 0) (a' := 0) h (Or.inr rfl) (by simp [cf_303_0, u2]) (by simp [cf_577_0, cf_577_53, cf_577_54, Fd]))⟩
end Ca
