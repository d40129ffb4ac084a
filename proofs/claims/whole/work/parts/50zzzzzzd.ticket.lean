/-! PURE (50zzzzzzd): ticket. -/
section Ti
variable {N N1 N2 M1 M2 : mz_N} {b : Bool} {B q : Nat} {s : st_S} {D H G : Kp} {x : CrS} {L L' : LvS} {R : RsS} {v v1 v2 v3 : Int32}
theorem ticket_al (hq : q < 2 ^ 15) (hB : B + 1 < 2 ^ 30) (h : Sm q B N1 b N2) : cp_328_0 v1 v2 N1 b ∧ cp_560_0 v1 v2 N2 ∧ cal (q + 1) (B + 1) b N1 N2 (cf_328_0 v1 v2 N1 b) (cf_560_0 v1 v2 N2) := by
  obtain ⟨p1, c1⟩ := in_l 0 4 (by omega) (by omega) v1 (w0 := 0) (w := 4) (g0 := 0) (g := 4) rfl rfl rfl rfl
  obtain ⟨p2, c2⟩ := in_l 0 47 (by omega) (by omega) v2 (w0 := 0) (w := 47) (g0 := 0) (g := 47) rfl rfl rfl rfl
  rcases Sm_0 h with ⟨hu, u1, u2, F1, Ft, Ff, Fs, F3, F4⟩ | ⟨u1, u2, F1, Fd, F3, F4⟩
  · rcases c1 with ⟨a, _, ha, rfl, i1, j1⟩ | ⟨i1, j1⟩
    · rcases c2 with ⟨c, _, hc, rfl, i2, j2⟩ | ⟨i2, j2⟩
      · have ci : cf_491_0 (nI a) (nI c) = true := by rw [cell_in, i1, i2]; rfl
        obtain ⟨p, C, s, D, H, x, L, R, h1, h2, h3, h4, h5, h6⟩ := id hu
        have h3' : MR p C s D H x L N1 b (mz_pI N2 232 0 0) := MR_code h3
        have hnn : x.nn ≤ 1000000000 + 4 * p := h3.iv.nn
        have hnn2 : x.nn ≤ 1000000000 + 4 * (p + 1) := by omega
        have hac : a < 5 ∧ c < 48 ∧ 3 ≤ 3 := by omega
        obtain ⟨f1, f2⟩ := free_c h3.cs.ks.kc h3.cs.ks.hb
        obtain ⟨g1, g2, g3⟩ := give_r (a := a) (c := c) (q := 3) h3'.cs.ks.kr h3'.cs.cr h3.cs.ks.hb (show x.nn < 2 ^ 31 by omega)
        have g1' : cp_536_0 (nI a) (nI c) 3 (mz_pI N2 232 0 0) := g1
        by_cases w : fz (H.1 8) 16 < 16
        · obtain ⟨T2, t1, t2, t3, t4, t5⟩ := g3 w
          have t1' : cf_536_0 (nI a) (nI c) 3 (mz_pI N2 232 0 0) = (nI (fz (H.1 8) 16), T2) := t1
          have hz : H.1 8 (fz (H.1 8) 16) = 0 := fz_z (t := H.1 8) 16 w
          generalize fz (H.1 8) 16 = k at *
          rw [nO_lt w] at f2
          obtain ⟨n1, n2⟩ := nI_neg2 (k := k) (by omega)
          have etm : N1.1 208 0 = H.2.1 5 0 := h3.cs.ks.kc.2.2.2.2.2.2.2.2.2.2.1.1
          obtain ⟨y1, y2, y3, y4⟩ := give_c (p := k) (a := a) (c := c) (q := 3) (t := H.2.1 5 0) h3.cs.ks.kc h3.cs.cc w
          have y1' : cp_260_0 (nI k) (nI a) (nI c) 3 (H.2.1 5 0) N1 := y1
          have eM1 : cf_260_0 (nI k) (nI a) (nI c) 3 (H.2.1 5 0) N1 = cf_260_0 (nI k) (nI a) (nI c) (nI 3) (H.2.1 5 0) N1 := rfl
          rw [← eM1] at y2 y3 y4
          generalize hM1 : cf_260_0 (nI k) (nI a) (nI c) 3 (H.2.1 5 0) N1 = M1 at y2 y3 y4
          have q1 : fq [115, 117, 118, 119, 120, 121, 122, 123] [] N1 M1 := fq_fr y4
          have q2 : fq [232, 287, 288, 289, 290, 293] [232, 291, 292] N2 T2 := fq_trans (M := mz_pI N2 232 0 0) (fq_pI (fq_refl _ _ _) rfl) (fq_sub t4 rfl rfl)
          have i232 : ∀ f, f ≠ 0 → T2.1 232 f = N2.1 232 f := fun f g0 => by rw [t4.1 232 rfl, pI_s, sI_e, up_a, if_neg g0]
          have l232 : ∀ f, f ≠ 87 → T2.2 232 f = N2.2 232 f := fun f g0 => by rw [t5 f g0]; rfl
          have h0 : T2.1 232 0 = 0 := by rw [t4.1 232 rfl]; exact code_0
          have hbb : kpb (tkH H k a c 3 (H.2.1 5 0) (nI x.nn)) := tkH_b h3.cs.ks.hb (by omega) (by omega) (by omega)
          have g117 : mz_gI M1 117 (nI k) = nI x.nn := by
            rw [gI_a, nI_clamp (by omega)]
            have := (y2.2.2.2.2.2.2.2.2.2.2.2.2.2.1 k w).2 (by show up (H.1 8) k 1 k = 1; rw [up_d, if_pos rfl])
            rw [this.2.2.2.2]
            show up (H.2.1 11) k (nI x.nn) k = _
            rw [up_d, if_pos rfl]
          have g292 : T2.2 292 k = lN x.nn := by
            have := (t2.2.2.2.2.2.2.2.2.2.2.2.2.2.1 k w).2 (by show up (H.1 8) k 1 k = 1; rw [up_d, if_pos rfl])
            rw [this.2.2.2.2]
            show (up (H.2.1 11) k (nI x.nn) k).toInt64 = _
            rw [up_d, if_pos rfl, nI_L (by omega)]
          have hkp : kpl (tkH H k a c 3 (H.2.1 5 0) (nI x.nn)) 12 k := by
            refine ⟨(fun z => absurd z (by decide)), (fun z => absurd z (by decide)), fun _ _ => ⟨x.nn, by omega, ?_⟩⟩
            show up (H.2.1 11) k (nI x.nn) k = _
            rw [up_d, if_pos rfl]
          have f8 : ∀ j, (tkH H k a c 3 (H.2.1 5 0) (nI x.nn)).1 8 j = if j = k then 1 else H.1 8 j := fun j => rfl
          have f9 : ∀ j, (tkH H k a c 3 (H.2.1 5 0) (nI x.nn)).1 9 j = if j = k then a else H.1 9 j := fun j => rfl
          have f10 : ∀ j, (tkH H k a c 3 (H.2.1 5 0) (nI x.nn)).1 10 j = if j = k then c else H.1 10 j := fun j => rfl
          have f11 : ∀ j, (tkH H k a c 3 (H.2.1 5 0) (nI x.nn)).1 11 j = if j = k then 3 else H.1 11 j := fun j => rfl
          have g10 : ∀ j, (tkH H k a c 3 (H.2.1 5 0) (nI x.nn)).2.1 10 j = if j = k then H.2.1 5 0 else H.2.1 10 j := fun j => rfl
          have g11 : ∀ j, (tkH H k a c 3 (H.2.1 5 0) (nI x.nn)).2.1 11 j = if j = k then nI x.nn else H.2.1 11 j := fun j => rfl
          have e1 : ∀ f, f ≠ 8 → f ≠ 9 → f ≠ 10 → f ≠ 11 → (tkH H k a c 3 (H.2.1 5 0) (nI x.nn)).1 f = H.1 f := fun f a b c d => tkH_1 f a b c d
          have e2 : ∀ f, f ≠ 10 → f ≠ 11 → (tkH H k a c 3 (H.2.1 5 0) (nI x.nn)).2.1 f = H.2.1 f := fun f a b => tkH_2 f a b
          have e3 : (tkH H k a c 3 (H.2.1 5 0) (nI x.nn)).2.2 = H.2.2 := rfl
          generalize tkH H k a c 3 (H.2.1 5 0) (nI x.nn) = G at *
          obtain ⟨b1', b2, b3, b4, b5, b6, b7, b8⟩ := h3.iv
          have hKB : KB (p + 1) G := by
            obtain ⟨d1, d2, d3, d4, d5, d6, d7, d8, d9, d10, d11, d12, d13, d14, d15, d16, d17⟩ := KB_m (show p ≤ p + 1 by omega) b2
            refine ⟨?_, ?_, ?_, ?_, ?_, ?_, ?_, ?_, ?_, ?_, ?_, ?_, ?_, ?_, fun j hj hj8 => ?_, fun j hj hj8 => ?_, fun j hj hj8 => ?_⟩
            · rw [e1 2 (by decide) (by decide) (by decide) (by decide)]; exact d1
            · rw [e1 6 (by decide) (by decide) (by decide) (by decide)]; exact d2
            · rw [e2 1 (by decide) (by decide)]; exact d3
            · rw [e2 0 (by decide) (by decide)]; exact d4
            · rw [e2 6 (by decide) (by decide)]; exact d5
            · rw [e2 6 (by decide) (by decide)]; exact d6
            · rw [e2 2 (by decide) (by decide)]; exact d7
            · rw [e2 3 (by decide) (by decide)]; exact d8
            · rw [e2 4 (by decide) (by decide)]; exact d9
            · rw [e2 5 (by decide) (by decide)]; exact d10
            · rw [e2 5 (by decide) (by decide)]; exact d11
            · rw [e2 5 (by decide) (by decide)]; exact d12
            · rw [e2 8 (by decide) (by decide)]; exact d13
            · rw [e1 19 (by decide) (by decide) (by decide) (by decide), e1 20 (by decide) (by decide) (by decide) (by decide), e1 21 (by decide) (by decide) (by decide) (by decide)]; exact d14
            · rw [g11 j]; rw [f8 j] at hj8
              by_cases z : j = k
              · rw [if_pos z]; exact ⟨x.nn, hnn2, rfl⟩
              · rw [if_neg z] at hj8 ⊢; exact d15 j hj hj8
            · rw [f9 j, f10 j, f11 j]; rw [f8 j] at hj8
              by_cases z : j = k
              · rw [if_pos z, if_pos z, if_pos z]; exact hac
              · rw [if_neg z] at hj8 ⊢; rw [if_neg z, if_neg z]; exact d16 j hj hj8
            · rw [g10 j]; rw [f8 j] at hj8
              by_cases z : j = k
              · rw [if_pos z]; exact d10
              · rw [if_neg z] at hj8 ⊢; exact d17 j hj hj8
          obtain ⟨⟨tm, tm1, tm2, tm3⟩, c2, ⟨cr', c3, c3'⟩, c4, c5, c6, c7, c8, c9, c10, c11⟩ := b7
          have hlt : ∀ j, j < 16 → H.1 8 j = 1 → H.2.1 11 j ≠ nI x.nn := fun j hj hj8 z => by
            obtain ⟨n, n1, n2⟩ := c11.1 j hj hj8
            rw [n2] at z
            have := (nI_eq (by omega) (by omega)).mp z
            omega
          have hds : tDs G := fun i j hi hj a b c => by
            rw [g11 i, g11 j] at c
            rw [f8 i] at a
            rw [f8 j] at b
            by_cases z : i = k
            · by_cases y : j = k
              · rw [z, y]
              · rw [if_pos z, if_neg y] at c; rw [if_neg y] at b; exact absurd c.symm (hlt j hj b)
            · rw [if_neg z] at a c
              by_cases y : j = k
              · rw [if_pos y] at c; exact absurd c (hlt i hi a)
              · rw [if_neg y] at b c; exact b5 i j hi hj a b c
          have hCI : CI (p + 1) false G (tkX x k) := by
            refine ⟨⟨tm, tm1, by rw [e2 5 (by decide) (by decide)]; exact tm2, tm3⟩, c2, ⟨cr', by rw [e2 5 (by decide) (by decide)]; exact c3, by show cr' + 3000 * sumN x.om x.oc + 500 * ((x.vs 0 - x.vd 0) + (x.vs 1 - x.vd 1)) ≤ _; omega⟩, c4, c5, c6, fun t ht i a b => ?_, c8, c9, c10, fun j hj hj8 => ?_, fun j hj hj8 => ?_, fun t ht i a b => ?_⟩
            · obtain ⟨y1, y2⟩ := c7 t ht i a b
              refine ⟨y1, ?_⟩
              show G.1 8 (x.tp t i) = 1
              rw [f8]; split
              · rfl
              · exact y2
            · rw [g11 j]; rw [f8 j] at hj8
              by_cases z : j = k
              · rw [if_pos z]; exact ⟨x.nn, by show x.nn < x.nn + 1; omega, rfl⟩
              · rw [if_neg z] at hj8 ⊢
                obtain ⟨n, n1, n2⟩ := c11.1 j hj hj8
                exact ⟨n, by show n < x.nn + 1; omega, n2⟩
            · rw [f8 j] at hj8
              show up x.wk k (-1) j = -1 ∨ ∃ u, u < 2 ∧ up x.wk k (-1) j = nI u
              rw [up_d]
              by_cases z : j = k
              · rw [if_pos z]; exact Or.inl rfl
              · rw [if_neg z] at hj8 ⊢; exact c11.2.1 j hj hj8
            · have ne : x.tp t i ≠ k := fun z => by
                have y := (c7 t ht i a b).2
                rw [z, hz] at y; cases y
              show up x.wk k (-1) (x.tp t i) = nI t
              rw [up_d, if_neg ne]
              exact c11.2.2 t ht i a b
          have ky : kyo 12 k < 135 := (show ∀ v, v < 16 → kyo 12 v < 135 by decide) k w
          have hga : gka [(12, k)] := gka_c (by omega) (by omega) ky gka_n
          have W : pW (p + 1) C s D G (tkX x k) L M1 b T2 [(12, k)] := by
            have hk := h3.cs.ks
            have stK' := stK_of q1 q2 rfl rfl (fun f hf => i232 f (by omega)) (l232 134 (by decide))
            obtain ⟨s1, s2, s3, s4, s5⟩ := stK'
            refine ⟨⟨hk.ok, st_cF hk.c (s1 221 (by omega)) (s1 222 (by omega)) (s1 223 (by omega)) (s1 224 (by omega)) (fun f _ _ => by rw [s2]), st_rF hk.r (s3 329 (by omega)) (s3 330 (by omega)) (s3 331 (by omega)) s4 s5, y2, t2, hbb, zv_f hk.zv (s1 134 (by omega))⟩, y3, t3, ?_, Jd_m (by omega) b1', hKB, ?_, ?_, hds, ?_, ?_, ?_, hCI, by show x.nn + 1 ≤ _; omega, hga, by show 1 ≤ 16; omega, al_c (kxt_n (show 12 ≤ 12 by omega)) al_n, al_c hkp al_n, gtx_n hga (al_c (show (12 : Nat) ≠ 6 by decide) al_n), Or.inl (al_c (show 8 ≤ 12 ∧ 12 ≤ 12 by omega) al_n)⟩
            · rw [e1 0 (by decide) (by decide) (by decide) (by decide), e1 1 (by decide) (by decide) (by decide) (by decide)]
              exact LR_m (by omega) (LR_q h3.lr q1 q2 rfl rfl rfl rfl (fun f hf => i232 f (by omega)) (fun f hf => l232 f (by omega)))
            · rw [e1 0 (by decide) (by decide) (by decide) (by decide), e1 1 (by decide) (by decide) (by decide) (by decide)]; exact b3
            · rw [e1 4 (by decide) (by decide) (by decide) (by decide), e1 5 (by decide) (by decide) (by decide) (by decide)]; exact b4
            · unfold txo; rw [e1 4 (by decide) (by decide) (by decide) (by decide), e1 5 (by decide) (by decide) (by decide) (by decide)]; exact MR_tx h3
            · rw [e1 12 (by decide) (by decide) (by decide) (by decide), e1 13 (by decide) (by decide) (by decide) (by decide), e1 14 (by decide) (by decide) (by decide) (by decide)]; exact fun j hj z => MR_dr h3 j hj z
            · intro y hy hy2 hno
              obtain ⟨k1, k2, _⟩ := kdk_ok y hy
              refine kag_trans k1 k2 (b6 y hy hy2) (kgo_l (kd0 := 12) (p := fun jx => jx = k) (l := [(12, k)]) (kgn_12 e1 e2) (fun jx hj => by rw [hj]; exact List.mem_cons_self) (fun jx hj => ?_) y hy hy2 hno)
              show H.1 8 jx = G.1 8 jx ∧ (H.1 8 jx = 1 → H.1 9 jx = G.1 9 jx ∧ H.1 10 jx = G.1 10 jx ∧ H.1 11 jx = G.1 11 jx ∧ H.2.1 10 jx = G.2.1 10 jx ∧ H.2.1 11 jx = G.2.1 11 jx)
              rw [f8, f9, f10, f11, g10, g11, if_neg hj, if_neg hj, if_neg hj, if_neg hj, if_neg hj, if_neg hj]
              exact ⟨rfl, fun _ => ⟨rfl, rfl, rfl, rfl, rfl⟩⟩
          have rs : RsR G L R M1 T2 := RsR_f h4 (rsF_q q1 q2 rfl rfl rfl (fun f hf => i232 f (rsI_ne hf rfl))) (fun j _ z => by rw [e1 15 (by decide) (by decide) (by decide) (by decide)]; exact z) (e1 4 (by decide) (by decide) (by decide) (by decide)) (by rw [e1 5 (by decide) (by decide) (by decide) (by decide)]) rfl (by rw [e1 19 (by decide) (by decide) (by decide) (by decide)]; exact h4.pn)
          obtain ⟨o1, o2, w', K1, K2, o3, o4, o5, o6, o7, o8⟩ := keep_ok (a := nI x.nn) (show C + 1 < 2 ^ 30 by omega) W
          have o1' : cp_171_0 12 (nI k) (nI x.nn) M1 b := o1
          have o2' : cp_494_0 12 (nI k) T2 := o2
          have o3' : cf_171_0 12 (nI k) (nI x.nn) M1 b = ((if w' = true then nI x.nn else -1001), K1) := o3
          have o4' : cf_494_0 12 (nI k) T2 = (w', K2) := o4
          have gk : mz_gL K2 292 (nI k) = lN x.nn := by rw [gL_a, nI_clamp (by omega), o6.2.2.1 292 (by decide)]; exact g292
          have ib : mz_ib (nI k) 16 := ib_n w (by omega)
          have e1' : cf_328_0 (nI a) (nI c) N1 b = (0, (if w' = true then nI x.nn else -1001), K1) := by simp only [cf_328_0, u2, i1, i2, if_true, f2, if_neg n1, etm, hM1, g117, o3']
          have e2' : cf_560_0 (nI a) (nI c) N2 = ((if w' = true then nI x.nn else -1001), K2) := by
            simp only [cf_560_0, cf_560_51, ci, Ft, Bool.false_eq_true, if_false, t1', if_neg n2, o4', gk, lN_32 (show x.nn < 2 ^ 31 by omega)]
            cases w' <;> rfl
          refine ⟨by simp [cp_328_0, u1, u2, p1, p2, i1, i2, f1, f2, n1, etm, y1', hM1, g117, ib, o1'], by simp [cp_560_0, cp_560_51, ci, F1, Ft, g1', t1', n2, o2', ib], ?_⟩
          rw [e1', e2']
          exact grp_al (show 1 ≤ p + 1 by omega) (show p + 1 ≤ q + 1 by omega) (B' := B + 1) (by omega) (show R.lg ≤ q + 1 by omega) W.lr rs (oF_q q1 q2 rfl rfl rfl rfl) h0 o5 o6 o7 o8 rfl
        · rw [nO_ge w] at f2
          have w16 : fz (H.1 8) 16 = 16 := by have := fz_le (H.1 8) 16; omega
          have t1' : cf_536_0 (nI a) (nI c) 3 (mz_pI N2 232 0 0) = (-1, mz_pI N2 232 0 0) := g2 w16
          have m0 : ((-1 : Int32) < 0) = True := eq_true (by decide)
          have e1 : cf_328_0 (nI a) (nI c) N1 b = (0, -1003, N1) := by simp only [cf_328_0, u2, i1, i2, if_true, f2]
          have e2 : cf_560_0 (nI a) (nI c) N2 = (-1003, mz_pI N2 232 0 0) := by simp only [cf_560_0, ci, Ft, Bool.false_eq_true, if_false, t1', m0, if_true]
          refine ⟨by simp [cp_328_0, u1, u2, p1, p2, i1, i2, f1, f2], by simp [cp_560_0, ci, F1, Ft, g1', t1'], ?_⟩
          rw [e1, e2]
          exact cal_m (by omega) (Nat.le_succ _) (cal_u code_0 rfl oF_code (Up_code hu))
      · have ci : cf_491_0 (nI a) v2 = false := by rw [cell_in, i1, i2]; rfl
        exact ⟨by simp [cp_328_0, u1, u2, p1, p2, i1, i2], by simp [cp_560_0, ci, F1, Ff], cal_m (by omega) (Nat.le_succ _) (Sm_r (a := 0) (a' := 0) h (Or.inl rfl) (by simp [cf_328_0, u2, i1, i2]) (by simp [cf_560_0, ci, Ff]))⟩
    · have ci : cf_491_0 v1 v2 = false := by rw [cell_in, i1]; rfl
      exact ⟨by simp [cp_328_0, u1, u2, p1, i1], by simp [cp_560_0, ci, F1, Ff], cal_m (by omega) (Nat.le_succ _) (Sm_r (a := 0) (a' := 0) h (Or.inl rfl) (by simp [cf_328_0, u2, i1]) (by simp [cf_560_0, ci, Ff]))⟩
  · exact ⟨by simp [cp_328_0, u1, u2], by simp [cp_560_0, F1, Fd], cal_m (by omega) (Nat.le_succ _) (Sm_r (a := 0) (a' := 0) h (Or.inr rfl) (by simp [cf_328_0, u2]) (by simp [cf_560_0, Fd]))⟩
end Ti
