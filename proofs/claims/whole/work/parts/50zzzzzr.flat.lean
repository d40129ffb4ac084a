/-! PURE (50zzzzzr): flat; the plan changes. -/
def lpA : List Nat := [43, 44, 45, 46, 47, 48, 49, 50, 51, 52, 53, 56, 58, 59, 60, 61, 65, 72, 73, 81, 82, 83, 85, 86, 99]
def lpC : List Nat := [253, 254, 255, 256, 257, 272, 273, 274, 275, 278, 279, 280, 285]
section Fl
variable {N N1 N2 M1 M2 : mz_N} {b : Bool} {B q : Nat} {s : st_S} {D H G : Kp} {x : CrS} {L : LvS} {R : RsS} {v v1 v2 v3 : Int32} {e fl e' fl' : Nat → Nat}
theorem LR_p {A1 B1 A2 B2 : List Nat} (h : LR q e fl L N1 b N2) (hp : plW M1 M2 e' fl') (f1 : fq A1 B1 N1 M1) (f2 : fq A2 B2 N2 M2) (a1 : lpA.all (fun c => !A1.contains c) = true) (b1' : lrB.all (fun c => !B1.contains c) = true) (a2 : lpC.all (fun c => !A2.contains c) = true) (b2 : lrD.all (fun c => !B2.contains c) = true) (i2 : ∀ f, f = 28 ∨ (52 ≤ f ∧ f ≤ 65) ∨ f = 72 → M2.1 232 f = N2.1 232 f) (j2 : ∀ f, f = 1 ∨ f = 66 ∨ f = 68 → M2.2 232 f = N2.2 232 f) : LR q e' fl' L M1 b M2 := by
  have c1 : ∀ z, lpA.contains z = true → M1.1 z = N1.1 z := fun z hz => f1.1 z (ct_nt a1 hz)
  have l1 : ∀ z, lrB.contains z = true → M1.2 z = N1.2 z := fun z hz => f1.2 z (ct_nt b1' hz)
  have c2 : ∀ z, lpC.contains z = true → M2.1 z = N2.1 z := fun z hz => f2.1 z (ct_nt a2 hz)
  have l2 : ∀ z, lrD.contains z = true → M2.2 z = N2.2 z := fun z hz => f2.2 z (ct_nt b2 hz)
  have r1 : ∀ z, z < 53 → 43 ≤ z → lpA.contains z = true := by decide +kernel
  have r2 : ∀ z, z < 257 → 253 ≤ z → lpC.contains z = true := by decide +kernel
  have r3 : ∀ z, z < 276 → 272 ≤ z → lpC.contains z = true := by decide +kernel
  have r4 : ∀ z, z < 281 → 278 ≤ z → lpC.contains z = true := by decide +kernel
  have r5 : ∀ z, z < 62 → 58 ≤ z → lpA.contains z = true := by decide +kernel
  have r6 : ∀ z, z < 72 → 68 ≤ z → lrB.contains z = true := by decide +kernel
  have r7 : ∀ z, z < 99 → 91 ≤ z → lrB.contains z = true := by decide +kernel
  have r8 : ∀ z, z < 266 → 260 ≤ z → lrD.contains z = true := by decide +kernel
  obtain ⟨p1, p2, p3, p4, p5, p6, p7, p8, p9, p10, p11, p12, p13, p14, p15, p16, p17, p18⟩ := h
  exact ⟨hp, prR_f p2 (fun z h1 h2 => c1 z (r1 z (by omega) h1)) (i2 28 (by omega)) (fun z h1 h2 => c2 z (r2 z (by omega) h1)), p3, tgR_f p4 (c1 53 rfl) (c2 257 rfl), p5, ciR_f p6 (fun z h1 h2 => c1 z (r5 z (by omega) h1)) (fun z h1 h2 => c2 z (r3 z (by omega) h1)), p7, suC_f p8 (fun f _ _ => by rw [c1 56 rfl]), suR_f p9 (fun f h1 h2 => i2 f (by omega)) (j2 68 (by omega)) (j2 66 (by omega)), p10, clC_f p11 (fun z h1 h2 => l1 z (r6 z (by omega) h1)) (c1 72 rfl) (c1 73 rfl) (by rw [c1 65 rfl]), clR_f p12 (fun z h1 h2 => l2 z (r8 z (by omega) h1)), p13, waR_f p14 (fun z hz => by rcases hz with w | w | w | w <;> subst w <;> exact c1 _ rfl) (by rw [c1 81 rfl]) (fun z h1 h2 => c2 z (r4 z (by omega) h1)) (l2 281 rfl) (i2 72 (by omega)), p15, poR_f p16 (fun z h1 h2 => l1 z (r7 z (by omega) h1)) (c1 99 rfl) (l2 286 rfl) (c2 285 rfl), p17, by rw [l1 56 rfl]; exact p18.1, by rw [j2 1 (by omega)]; exact p18.2⟩
theorem flat_in (v : Int32) : cp_170_0 v ∧ ((∃ f, (f < 10 ∨ f = 15) ∧ v = nI f ∧ cf_170_0 v = true ∧ (if cf_466_0 v.toInt64 0 9 = true then true else if v = 15 then true else false) = true) ∨ (cf_170_0 v = false ∧ (if cf_466_0 v.toInt64 0 9 = true then true else if v = 15 then true else false) = false)) := by
  obtain ⟨p1, c1⟩ := in_l 0 9 (by omega) (by omega) v (w0 := 0) (w := 9) (g0 := 0) (g := 9) rfl rfl rfl rfl
  have T : cp_170_0 v := ⟨fun _ => trivial, fun _ => ⟨fun _ => trivial, fun _ => trivial⟩⟩
  refine ⟨T, ?_⟩
  rcases c1 with ⟨f, _, hf, rfl, i1, j1⟩ | ⟨i1, j1⟩
  · refine Or.inl ⟨f, by omega, rfl, ?_, by rw [if_pos j1]⟩
    rw [cf_170_0, if_neg (nI_neg2 (by omega)).2, if_pos (show nI f < 10 from (nI_ltI (b := 10) (by omega) (by omega)).mpr (by omega))]
  · have e : decide (cf_105_0 v 0 9 = 0) = _ := i105 (v := v) (hi := 9) (by omega)
    rw [i1] at e
    have e' : (false : Bool) = if v < 0 then false else if v < nI 10 then true else false := e
    have j1' : ¬ cf_466_0 v.toInt64 0 9 = true := fun z => by rw [j1] at z; cases z
    by_cases w : v = 15
    · exact Or.inl ⟨15, Or.inr rfl, w, by rw [w]; decide, by rw [if_neg j1', if_pos w]⟩
    · refine Or.inr ⟨?_, by rw [if_neg j1', if_neg w]⟩
      rw [cf_170_0, cf_170_10, if_neg w]
      by_cases a : v < 0
      · rw [if_pos a]
      · rw [if_neg a] at e' ⊢
        by_cases c : v < nI 10
        · rw [if_pos c] at e'; cases e'
        · have c' : ¬ v < 10 := c
          rw [if_neg c']
theorem flat_al (hB : B + 1 < 2 ^ 30) (h : Sm q B N1 b N2) : cp_169_0 v1 v2 v3 N1 b ∧ cp_493_0 v1 v2 v3 N2 ∧ cal q (B + 1) b N1 N2 (cf_169_0 v1 v2 v3 N1 b) (cf_493_0 v1 v2 v3 N2) := by
  obtain ⟨p1, c1⟩ := in_l 0 4 (by omega) (by omega) v1 (w0 := 0) (w := 4) (g0 := 0) (g := 4) rfl rfl rfl rfl
  obtain ⟨p2, c2⟩ := in_l 0 47 (by omega) (by omega) v2 (w0 := 0) (w := 47) (g0 := 0) (g := 47) rfl rfl rfl rfl
  obtain ⟨p3, c3⟩ := flat_in v3
  rcases Sm_0 h with ⟨hu, u1, u2, F1, Ft, Ff, Fs, F3, F4⟩ | ⟨u1, u2, F1, Fd, F3, F4⟩
  · rcases c1 with ⟨a1, _, ha1, rfl, i1, j1⟩ | ⟨i1, j1⟩
    · rcases c2 with ⟨a2, _, ha2, rfl, i2, j2⟩ | ⟨i2, j2⟩
      · have ci : cf_491_0 (nI a1) (nI a2) = true := by rw [cell_in, i1, i2]; rfl
        rcases c3 with ⟨f, hf, rfl, i3, j3⟩ | ⟨i3, j3⟩
        · obtain ⟨p, C, s, D, H, x, L, R, h1, h2, h3, h4, h5, h6⟩ := id hu
          have x1 : nI a1 * 48 + nI a2 = nI (48 * a1 + a2) := by rw [show (48 : Int32) = nI 48 from rfl, pk_mul, nI_add, Nat.mul_comm]
          have x2 : 48 * nI a1 + nI a2 = nI (48 * a1 + a2) := by rw [show (48 : Int32) = nI 48 from rfl, pk_mul, nI_add]
          have hz : 48 * a1 + a2 < 240 := by omega
          have hzz : ∀ jx, jx ≠ a1 → ∀ j, 48 * jx ≤ j → j < 48 * jx + 48 → j ≠ 48 * a1 + a2 := fun jx hj j g1 g2 => by omega
          generalize 48 * a1 + a2 = z at *
          have ib : mz_ib (nI z) 240 := ib_n (by omega) (by omega)
          have k3 := h3.cs.ks.kc.2.1
          have r3 := h3.cs.ks.kr.2.1
          have ga : mz_gI N1 37 (nI z) = nI (H.1 1 z) := by rw [gI_a, nI_clamp (by omega)]; exact k3 _ (by omega)
          have gb : mz_gI (mz_pI N2 232 0 0) 234 (nI z) = nI (H.1 1 z) := by rw [gI_a, nI_clamp (by omega)]; exact r3 _ (by omega)
          have b16 : ∀ j, (kS H 1 z f).1 1 j < 16 := fun j => by
            rw [kS0, up_d]; split
            · omega
            · exact h3.cs.ks.hb.2.1 j
          have n1 : ∀ j, j < 240 → (mz_wI N1 37 (nI z) (nI f)).1 37 j = nI ((kS H 1 z f).1 1 j) := fun j hj => by
            rw [wI_at (by omega), kS0, up_d]; split
            · rfl
            · exact k3 j hj
          have n2 : ∀ j, j < 240 → (mz_wI (mz_pI N2 232 0 0) 234 (nI z) (nI f)).1 234 j = nI ((kS H 1 z f).1 1 j) := fun j hj => by
            rw [wI_at (by omega), kS0, up_d]; split
            · rfl
            · exact r3 j hj
          obtain ⟨o1, o2, o3⟩ := c_survey (N := mz_wI N1 37 (nI z) (nI f)) (e := H.1 0) (fl := (kS H 1 z f).1 1) h3.iv.pl.n (fun i hi => ⟨by rw [wI_ne (by decide)]; exact h3.cs.ks.kc.1 i hi, h3.iv.pl.e4 i hi⟩) (fun c hc => ⟨n1 c hc, b16 c⟩)
          have hr := h3.lr.pl.2
          obtain ⟨m1, g1, g2, m2, m3⟩ := r_hrt (M := mz_wI (mz_pI N2 232 0 0) 234 (nI z) (nI f)) (e := H.1 0) (fl := (kS H 1 z f).1 1) h3.iv.pl.n (fun c hc => ⟨n2 c hc, b16 c⟩) (by rw [wI_ne (by decide)]; exact hr.1) (fun k hk => by rw [wI_ne (by decide)]; exact (hr.2.2.1 k hk).1) (fun k hk => by rw [wI_ne (by decide)]; exact (hr.2.2.1 k hk).2)
          have f1 : fq (37 :: sv_A) [] N1 (cf_77_0 (mz_wI N1 37 (nI z) (nI f))) := fq_trans (M := mz_wI N1 37 (nI z) (nI f)) (fq_wI (fq_refl _ _ _) rfl) (fq_sub (fq_fr o2.1) rfl rfl)
          have f2 : fq [232, 234, 242, 243] [] N2 (cf_435_0 (mz_wI (mz_pI N2 232 0 0) 234 (nI z) (nI f))) := by rw [m2]; exact fq_sI (fq_sI (fq_wI (fq_pI (fq_refl _ _ _) rfl) rfl) rfl) rfl
          have k37 : ∀ j, j < 240 → (cf_77_0 (mz_wI N1 37 (nI z) (nI f))).1 37 j = nI ((kS H 1 z f).1 1 j) := fun j hj => by rw [o2.1.1 37 rfl]; exact n1 j hj
          have k234 : ∀ j, j < 240 → (cf_435_0 (mz_wI (mz_pI N2 232 0 0) 234 (nI z) (nI f))).1 234 j = nI ((kS H 1 z f).1 1 j) := fun j hj => by rw [m2, sI_n (by decide), sI_n (by decide)]; exact n2 j hj
          have v1' : (cf_77_0 (mz_wI N1 37 (nI z) (nI f))).1 2 3 = N1.1 2 3 := by rw [o2.2 3 (by decide) (by decide), wI_ne (by decide)]
          have i232 : ∀ f', f' ≠ 0 → (cf_435_0 (mz_wI (mz_pI N2 232 0 0) 234 (nI z) (nI f))).1 232 f' = N2.1 232 f' := fun f' g0 => by rw [m2, sI_n (by decide), sI_n (by decide), wI_ne (by decide), pI_s, sI_e, up_a, if_neg g0]
          have h0 : (cf_435_0 (mz_wI (mz_pI N2 232 0 0) 234 (nI z) (nI f))).1 232 0 = 0 := by rw [m2, sI_n (by decide), sI_n (by decide), wI_ne (by decide)]; exact code_0
          have hpl : r_pl (H.1 0) ((kS H 1 z f).1 1) (cf_435_0 (mz_wI (mz_pI N2 232 0 0) 234 (nI z) (nI f))) := by
            obtain ⟨t1, t2, t3, t4, t5, t6⟩ := hr
            refine ⟨by rw [i232 7 (by decide)]; exact t1, by rw [f2.1 235 rfl]; exact t2, by rw [f2.1 236 rfl, f2.1 237 rfl]; exact t3, by rw [f2.1 240 rfl, f2.1 241 rfl]; exact t4, by rw [f2.1 239 rfl]; exact t5, fun j hj => ?_⟩
            rw [m2, sI_e, sI_n (show 242 ≠ 243 by decide), sI_e]
            exact m3 j hj
          have P1 : cp_77_0 (mz_wI N1 37 (nI z) (nI f)) := o1
          have P2 : cp_435_0 (mz_wI (mz_pI N2 232 0 0) 234 (nI z) (nI f)) := m1
          generalize hM1 : cf_77_0 (mz_wI N1 37 (nI z) (nI f)) = M1 at f1 k37 v1' o3
          generalize hM2 : cf_435_0 (mz_wI (mz_pI N2 232 0 0) 234 (nI z) (nI f)) = M2 at f2 k234 i232 h0 hpl
          have ky : kyo 2 a1 < 135 := (show ∀ v, v < 5 → kyo 2 v < 135 by decide) a1 (by omega)
          have ha : gka [(2, a1)] := gka_c (by omega) (by omega) ky gka_n
          have hb : kpb (kS H 1 z f) := by
            obtain ⟨y0, y1, y2, y3, y5, y4, yt4, y6, y7, y8, y9, y12, y13, y15, y16, y19, y20⟩ := h3.cs.ks.hb
            exact ⟨y0, b16, y2, y3, y5, y4, yt4, y6, y7, y8, y9, y12, y13, y15, y16, y19, y20⟩
          have hk : KB p (kS H 1 z f) := h3.iv.kb
          have W : pW p C s D (kS H 1 z f) x L M1 b M2 [(2, a1)] := by
            refine pW_of h3 ?_ (stK_of f1 f2 rfl rfl (fun f hf => i232 f (by omega)) (by rw [f2.2 232 rfl])) (ckp_2 h3.cs.ks.kc f1 rfl rfl kS1 (fun _ => rfl) (fun _ => rfl) k37) (rkp_2 h3.cs.ks.kr f2 rfl rfl (i232 27 (by decide)) (i232 21 (by decide)) (fun f _ => by rw [f2.2 232 rfl]) kS1 (fun _ => rfl) (fun _ => rfl) k234) hb (crC_f h3.cs.cc f1 rfl rfl) (crR_f h3.cs.cr f2 rfl rfl (i232 96 (by decide)) (by rw [f2.2 232 rfl]) rfl) rfl rfl rfl hk ?_ h3.iv.pr (by have t : txo H := MR_tx h3; unfold txo at t ⊢; exact t) (fun j hj z => MR_dr h3 j hj z) (kgo_l (kd0 := 2) (p := fun jx => jx = a1) (kgn_2 kS1 (fun _ => rfl)) (fun jx hj => by rw [hj]; exact List.mem_cons_self) (fun jx hj => by
              show ∀ j, 48 * jx ≤ j → j < 48 * jx + 48 → H.1 1 j = (kS H 1 z f).1 1 j
              intro j g1 g2
              rw [kS0, up_d, if_neg (hzz jx hj j g1 g2)])) ha (by show 1 ≤ 16; omega) (al_c (kxt_n (show 2 ≤ 12 by omega)) al_n) (al_c (kpl_n (show (2 : Nat) ≠ 4 by decide) (show (2 : Nat) ≠ 7 by decide) (show (2 : Nat) ≠ 12 by decide)) al_n) (gtx_n ha (al_c (show (2 : Nat) ≠ 6 by decide) al_n)) (Or.inr (al_c (show (2 : Nat) < 8 ∨ 12 ≤ 2 by decide) al_n))
            · exact LR_p h3.lr ⟨o3, hpl⟩ f1 f2 rfl rfl rfl rfl (fun f hf => i232 f (by omega)) (fun f _ => by rw [f2.2 232 rfl])
            · exact ⟨h3.iv.pl.n, h3.iv.pl.e4, h3.iv.pl.bd, fun c _ => b16 c⟩
          have rs : RsR (kS H 1 z f) L R M1 M2 := RsR_f h4 ⟨fun c hc => f1.1 c (ct_nt (A := 37 :: sv_A) (X := rsA) rfl hc), v1', fun f _ => by rw [f1.1 41 rfl], by rw [f1.1 100 rfl], fun f _ => by rw [f1.1 1 rfl], fun c hc => f2.1 c (ct_nt (A := [232, 234, 242, 243]) (X := rsC) rfl hc), f2.2 317 rfl, fun j _ => by rw [f2.1 233 rfl], fun f hf => i232 f (rsI_ne hf rfl)⟩ (fun _ _ z => z) rfl rfl rfl h4.pn
          obtain ⟨q1, q2, q3⟩ := keep_al (a := nI (H.1 1 z)) h6 h1 (B' := B + 1) (by omega) (by omega) h5 W rs (oF_q f1 f2 rfl rfl rfl rfl) h0
          have q1' : cp_171_0 2 (nI a1) (nI (H.1 1 z)) M1 b := q1
          have q2' : cp_494_0 2 (nI a1) M2 := q2
          have s3 : cp_493_27 (nI a1) (nI a2) (nI f) N2 ∧ cf_493_27 (nI a1) (nI a2) (nI f) N2 = ((if (cf_494_0 2 (nI a1) M2).1 = true then nI (H.1 1 z) else -1001), (cf_494_0 2 (nI a1) M2).2) := by
            refine ⟨by simp [cp_493_27, cp_493_32, cp_493_84, F1, Ft, x2, ib, P2, hM2, q2'], ?_⟩
            simp [cf_493_27, cf_493_32, cf_493_84, Ft, x2, gb, hM2]
            split <;> rfl
          have s4 : cp_493_0 (nI a1) (nI a2) (nI f) N2 ∧ cf_493_0 (nI a1) (nI a2) (nI f) N2 = cf_493_27 (nI a1) (nI a2) (nI f) N2 := by
            by_cases w : cf_466_0 (nI f).toInt64 0 9 = true
            · exact ⟨by simp [cp_493_0, ci, w, s3.1], by simp [cf_493_0, ci, w]⟩
            · rw [if_neg w] at j3
              by_cases w2 : nI f = 15
              · rw [cp_493_0, cf_493_0, if_pos ci, if_neg w, if_pos w2]
                exact ⟨⟨fun _ => ⟨fun y => absurd y w, fun _ => ⟨fun _ => s3.1, fun y => absurd w2 y⟩⟩, fun y => absurd ci y⟩, rfl⟩
              · rw [if_neg w2] at j3; cases j3
          refine ⟨?_, s4.1, ?_⟩
          · simp [cp_169_0, cf_142_0, u1, u2, p1, p2, p3, i1, i2, i3, x1, ib, ga, P1, hM1, q1']
          · have e1 : cf_169_0 (nI a1) (nI a2) (nI f) N1 b = (0, (cf_171_0 2 (nI a1) (nI (H.1 1 z)) M1 b).1, (cf_171_0 2 (nI a1) (nI (H.1 1 z)) M1 b).2) := by
              simp [cf_169_0, cf_142_0, u2, i1, i2, i3, x1, ga, hM1]
            rw [e1, s4.2, s3.2]
            exact q3
        · have n3 : ¬ cf_466_0 v3.toInt64 0 9 = true := fun z => by rw [if_pos z] at j3; cases j3
          have n4 : ¬ v3 = 15 := fun z => by rw [if_neg n3, if_pos z] at j3; cases j3
          exact ⟨by simp [cp_169_0, cf_142_0, u1, u2, p1, p2, p3, i1, i2, i3], by simp [cp_493_0, cp_493_31, cp_493_32, ci, n3, n4, F1, Ff], cal_m (Nat.le_refl _) (Nat.le_succ _) (Sm_r (a := 0) (a' := 0) h (Or.inl rfl) (by simp [cf_169_0, cf_142_0, u2, i1, i2, i3]) (by simp [cf_493_0, cf_493_31, cf_493_32, ci, n3, n4, Ff]))⟩
      · have ci : cf_491_0 (nI a1) v2 = false := by rw [cell_in, i1, i2]; rfl
        exact ⟨by simp [cp_169_0, u1, u2, p1, p2, i1, i2], by simp [cp_493_0, cp_493_31, cp_493_32, ci, F1, Ff], cal_m (Nat.le_refl _) (Nat.le_succ _) (Sm_r (a := 0) (a' := 0) h (Or.inl rfl) (by simp [cf_169_0, u2, i1, i2]) (by simp [cf_493_0, cf_493_31, cf_493_32, ci, Ff]))⟩
    · have ci : cf_491_0 v1 v2 = false := by rw [cell_in, i1]; rfl
      exact ⟨by simp [cp_169_0, u1, u2, p1, i1], by simp [cp_493_0, cp_493_31, cp_493_32, ci, F1, Ff], cal_m (Nat.le_refl _) (Nat.le_succ _) (Sm_r (a := 0) (a' := 0) h (Or.inl rfl) (by simp [cf_169_0, u2, i1]) (by simp [cf_493_0, cf_493_31, cf_493_32, ci, Ff]))⟩
  · exact ⟨by simp [cp_169_0, u1, u2], by simp [cp_493_0, cp_493_27, cp_493_31, cp_493_32, F1, Fd], cal_m (Nat.le_refl _) (Nat.le_succ _) (Sm_r (a := 0) (a' := 0) h (Or.inr rfl) (by simp [cf_169_0, u2]) (by simp [cf_493_0, cf_493_27, cf_493_31, cf_493_32, Fd]))⟩
end Fl
