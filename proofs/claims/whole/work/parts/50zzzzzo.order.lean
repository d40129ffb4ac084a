/-! PURE (50zzzzzo): order, take, copy. -/
/-- drafts and version may change, the rest not -/
def rsB : List Nat := [42, 109, 111, 112, 113, 114, 228, 229]
def rsJ : List Nat := [25, 34, 35, 36, 112, 141, 143]
def rsE (N1 N2 K1 K2 : mz_N) : Prop := (∀ c, rsB.contains c = true → K1.1 c = N1.1 c) ∧ (∀ f, f = 1 ∨ f = 4 ∨ f = 5 → K1.1 41 f = N1.1 41 f) ∧ (K1.1 100 10 = N1.1 100 10) ∧ (∀ f, f = 10 ∨ f = 12 → K1.1 1 f = N1.1 1 f) ∧ (∀ c, rsC.contains c = true → K2.1 c = N2.1 c) ∧ (K2.2 317 = N2.2 317) ∧ (∀ f, rsJ.contains f = true → K2.1 232 f = N2.1 232 f)
theorem rsE.a {N1 N2 K1 K2 : mz_N} (h : rsE N1 N2 K1 K2) : ∀ c, rsB.contains c = true → K1.1 c = N1.1 c := h.1
theorem rsE.t {N1 N2 K1 K2 : mz_N} (h : rsE N1 N2 K1 K2) : ∀ f, f = 1 ∨ f = 4 ∨ f = 5 → K1.1 41 f = N1.1 41 f := h.2.1
theorem rsE.g {N1 N2 K1 K2 : mz_N} (h : rsE N1 N2 K1 K2) : K1.1 100 10 = N1.1 100 10 := h.2.2.1
theorem rsE.k {N1 N2 K1 K2 : mz_N} (h : rsE N1 N2 K1 K2) : ∀ f, f = 10 ∨ f = 12 → K1.1 1 f = N1.1 1 f := h.2.2.2.1
theorem rsE.r {N1 N2 K1 K2 : mz_N} (h : rsE N1 N2 K1 K2) : ∀ c, rsC.contains c = true → K2.1 c = N2.1 c := h.2.2.2.2.1
theorem rsE.l {N1 N2 K1 K2 : mz_N} (h : rsE N1 N2 K1 K2) : K2.2 317 = N2.2 317 := h.2.2.2.2.2.1
theorem rsE.f {N1 N2 K1 K2 : mz_N} (h : rsE N1 N2 K1 K2) : ∀ f, rsJ.contains f = true → K2.1 232 f = N2.1 232 f := h.2.2.2.2.2.2
section Od
variable {N N1 N2 M1 M2 K1 K2 : mz_N} {b : Bool} {B q q' : Nat} {s : st_S} {D H G : Kp} {x : CrS} {L L' : LvS} {R : RsS} {v v1 v2 v3 : Int32} {e fl : Nat → Nat}
theorem rsJ_ne {f g : Nat} (hf : rsJ.contains f = true) (hg : rsJ.contains g = false) : f ≠ g := fun z => by rw [z, hg] at hf; cases hf
theorem rsE_q {A B C D : List Nat} (h1 : fq A B N1 K1) (h2 : fq C D N2 K2) (a : (1 :: 41 :: 100 :: rsB).all (fun c => !A.contains c) = true) (c : rsC.all (fun c => !C.contains c) = true) (d : D.contains 317 = false) (i : ∀ f, rsJ.contains f = true → K2.1 232 f = N2.1 232 f) : rsE N1 N2 K1 K2 := by
  have s1 : ∀ z, (1 :: 41 :: 100 :: rsB).contains z = true → K1.1 z = N1.1 z := fun z hz => h1.1 z (ct_nt a hz)
  have s2 : ∀ z, rsC.contains z = true → K2.1 z = N2.1 z := fun z hz => h2.1 z (ct_nt c hz)
  refine ⟨fun z hz => s1 z ?_, fun f _ => by rw [s1 41 rfl], by rw [s1 100 rfl], fun f _ => by rw [s1 1 rfl], s2, h2.2 317 d, i⟩
  have : z ∈ rsB := by simpa using hz
  simp [this]
theorem RsR_e {dr bs : Nat → Nat → Nat} {ve : Int32} (h : RsR H L R N1 N2) (f : rsE N1 N2 K1 K2)
    (dc : ∀ d, d < 3 → ∀ i, i < 550 → K1.1 (5 + d) i = nI (dr d i) ∧ K1.1 (9 + d) i = nI (bs d i)) (rd : ∀ d, d < 3 → ∀ i, i < 550 → K2.1 233 (550 * (1 + d) + i) = nI (dr d i) ∧ K2.1 233 (550 * (4 + d) + i) = nI (bs d i)) (db : ∀ d, d < 3 → ∀ i, i < 550 → dr d i < 4 ∧ bs d i < 4 ∧ (ge_sd (i % 110) < 4 → dr d i = 2 ∨ dr d i = 3)) (hv : K1.1 2 3 = ve ∧ K2.1 232 4 = ve)
    (h15 : ∀ j, j < 40 → H.1 15 j = 1 → G.1 15 j = 1) (h4 : G.1 4 = H.1 4) (h5 : G.1 5 0 = H.1 5 0) (hs : L'.S = L.S) (hp : ∀ j, G.1 19 j ≠ 1 → L'.R.2 j = 0) : RsR G L' (dr, bs, ve, R.tl, R.tx, R.wr, R.wh, R.lg, R.tn, R.ta, R.rn, R.ra) K1 K2 := by
  obtain ⟨a1, a2, a3, a4, a5, a6, a7, a8, a9, a10, a11, a12, a13, a14, a15⟩ := h
  refine ⟨dc, rd, db, hv, ?_, ?_, ?_, ?_, fun j hj w => ?_, ?_, ?_, ?_, ?_, ?_, hp⟩
  · rw [f.t 1 (by omega), f.f 25 rfl]; exact a5
  · rw [f.a 42 rfl, f.r 251 rfl]; exact a6
  · rw [f.f 36 rfl, f.t 4 (by omega), f.t 5 (by omega), f.f 34 rfl, f.f 35 rfl]; exact a7
  · rw [f.a 109 rfl, f.r 316 rfl]; exact a8
  · exact a9 j hj (fun z => w (h15 j hj z))
  · rw [f.g, f.f 112 rfl]; exact a10
  · rw [f.a 111 rfl, f.a 112 rfl, f.a 113 rfl, f.a 114 rfl, f.l, f.r 318 rfl, f.r 319 rfl, f.r 320 rfl]; exact a11
  · rw [f.k 10 (by omega), f.f 141 rfl, f.a 228 rfl, f.r 334 rfl]; exact a12
  · rw [f.k 12 (by omega), f.f 143 rfl, f.a 229 rfl, f.r 335 rfl]; exact a13
  · rw [hs, h4, h5]; exact a14
theorem Sm_0 (h : Sm q B N1 b N2) : (Up q B N1 b N2 ∧ cp_104_0 N1 ∧ cf_104_0 N1 = 0 ∧ (∀ a st, cp_462_0 a st N2) ∧ cf_462_0 true true N2 = (false, mz_pI N2 232 0 0) ∧ (∀ st, cf_462_0 false st N2 = (true, mz_pI N2 232 0 (nI 1))) ∧ cf_462_0 true false N2 = (true, mz_pI N2 232 0 (nI 2)) ∧ cp_484_0 N2 ∧ cf_484_0 N2 = (false, mz_pI N2 232 0 0)) ∨ (cp_104_0 N1 ∧ cf_104_0 N1 = 2 ∧ (∀ a st, cp_462_0 a st N2) ∧ (∀ a st, cf_462_0 a st N2 = (true, mz_pI N2 232 0 (nI 2))) ∧ cp_484_0 N2 ∧ cf_484_0 N2 = (true, mz_pI N2 232 0 1)) := by
  rcases h with h | h
  · obtain ⟨w1, w2⟩ := Sm_u h
    exact Or.inl ⟨h, (c104_u w1).1, (c104_u w1).2, fun _ _ => (f462_u w2).1, (f462_u w2).2, fun st => by cases st <;> exact (f462_u w2).2, (f462_u w2).2, (f484_u w2).1, (f484_u w2).2⟩
  · obtain ⟨w1, w2⟩ := Sm_d h
    exact Or.inr ⟨(c104_d w1).1, (c104_d w1).2, fun _ _ => (f462_d w2).1, fun _ _ => (f462_d w2).2, (f484_d w2).1, (f484_d w2).2⟩
theorem LR_m (hq : q ≤ q') (h : LR q e fl L N1 b N2) : LR q' e fl L N1 b N2 := by
  obtain ⟨p1, p2, p3, p4, p5, p6, p7, p8, p9, p10, p11, p12, p13, p14, p15, p16, p17, p18⟩ := h
  obtain ⟨s1, s2, s3, s4, s5, s6, s7⟩ := p10
  obtain ⟨k1, k2, k3, k4, k5⟩ := p13
  refine ⟨p1, p2, p3, p4, p5, p6, p7, p8, p9, ⟨s1, s2, by omega, s4, s5, by omega, s7⟩, p11, p12, ⟨fun c hc => ?_, fun c hc => ?_, fun c hc => ?_, k4, k5⟩, p14, ⟨?_, fun j hj => ?_⟩, p16, fun j hj => ?_, p18⟩
  · have := k1 c hc; omega
  · have := k2 c hc; omega
  · have := k3 c hc; omega
  · have := p15.1; omega
  · have := p15.2 j hj; omega
  · have := p17 j hj; omega
theorem MR_m (hq : q ≤ q') (h : MR q B s D H x L N1 b N2) : MR q' B s D H x L N1 b N2 :=
  ⟨h.cs, LR_m hq h.lr, IvS_b hq (fun _ _ => rfl) (fun _ _ => rfl) rfl (Or.inl rfl) (KB_m hq h.iv.kb) (by have := h.iv.nn; have e : x.nn ≤ 1000000000 + 4 * q := this; show x.nn + 0 ≤ _; omega) h.iv⟩
theorem order_al (h : Sm q B N1 b N2) : cp_351_0 v1 v2 N1 ∧ cp_572_0 v1 v2 N2 ∧ cal (q + 3) B b N1 N2 (cf_351_0 v1 v2 N1) (cf_572_0 v1 v2 N2) := by
  obtain ⟨p1, c1⟩ := in_l 0 2 (by omega) (by omega) v1 (w0 := 0) (w := 2) (g0 := 0) (g := 2) rfl rfl rfl rfl
  obtain ⟨p2, c2⟩ := in_l 1 9 (by omega) (by omega) v2 (w0 := 1) (w := 9) (g0 := 1) (g := 9) rfl rfl rfl rfl
  rcases Sm_0 h with ⟨hu, u1, u2, F1, Ft, Ff, Fs, F3, F4⟩ | ⟨u1, u2, F1, Fd, F3, F4⟩
  · rcases c1 with ⟨a1, _, ha1, rfl, i1, j1⟩ | ⟨i1, j1⟩
    · rcases c2 with ⟨a2, la2, ha2, rfl, i2', j2⟩ | ⟨i2', j2⟩
      · obtain ⟨p, C, s, D, H, x, L, R, h1, h2, h3, h4, h5, h6⟩ := id hu
        obtain ⟨tm, t1, t2, t3⟩ := h3.iv.ci.tm
        have oc1 := h3.cs.cc.oc
        have oc2 : (mz_pI N2 232 0 0).1 232 96 = nI x.oc := h3.cs.cr.oc
        have o8 := h3.iv.ci.oc
        have k9 := h3.cs.ks.kc.2.2.2.2.2.2.2.2.2.2.1
        have r9 := h3.cs.ks.kr.2.2.2.2.2.2.2.2.2.2.1
        have y1 : N1.1 208 0 + 480 = nI (tm + 480) := by rw [k9.1, t2, show (480 : Int32) = nI 480 from rfl, nI_add]
        have y2 : N2.2 232 2 = lN tm := by rw [r9.1, t2, nI_L (by omega)]
        have l8 : (nI x.oc < 8) = (x.oc < 8) := propext (nI_ltI (b := 8) (by omega) (by omega))
        have q8 : (nI x.oc = 8) = (x.oc = 8) := propext (nI_eq (b := 8) (by omega) (by omega))
        by_cases w : x.oc < 8
        · have w0 : (x.oc < 8) = True := eq_true w
          have w8 : (x.oc = 8) = False := eq_false (by omega)
          have ib : mz_ib (nI x.oc) 8 := ib_n w (by omega)
          have g1 : (mz_wI N1 130 (nI x.oc) (nI a1)).1 115 5 = nI x.oc := by rw [wI_ne (by decide)]; exact oc1
          have g2 : (mz_wI (mz_wI N1 130 (nI x.oc) (nI a1)) 131 (nI x.oc) (nI a2)).1 115 5 = nI x.oc := by rw [wI_ne (by decide)]; exact g1
          have g3 : (mz_wI (mz_wI (mz_wI N1 130 (nI x.oc) (nI a1)) 131 (nI x.oc) (nI a2)) 132 (nI x.oc) (nI (tm + 480))).1 115 5 = nI x.oc := by rw [wI_ne (by decide)]; exact g2
          have m1 : (mz_wI (mz_pI N2 232 0 0) 302 (nI x.oc) (nI a1)).1 232 96 = nI x.oc := by rw [wI_ne (by decide)]; exact oc2
          have m2 : (mz_wI (mz_wI (mz_pI N2 232 0 0) 302 (nI x.oc) (nI a1)) 303 (nI x.oc) (nI a2)).1 232 96 = nI x.oc := by rw [wI_ne (by decide)]; exact m1
          have m3 : (mz_wL (mz_wI (mz_wI (mz_pI N2 232 0 0) 302 (nI x.oc) (nI a1)) 303 (nI x.oc) (nI a2)) 304 (nI x.oc) (lN (tm + 480))).1 232 96 = nI x.oc := by rw [wL_1]; exact m2
          have m4 : (mz_wI (mz_wI (mz_pI N2 232 0 0) 302 (nI x.oc) (nI a1)) 303 (nI x.oc) (nI a2)).2 232 2 = lN tm := y2
          have y3 : lN tm + 480 = lN (tm + 480) := by rw [show (480 : Int64) = lN 480 from rfl, lN_add]
          generalize hM1 : mz_pI (mz_wI (mz_wI (mz_wI N1 130 (nI x.oc) (nI a1)) 131 (nI x.oc) (nI a2)) 132 (nI x.oc) (nI (tm + 480))) 115 5 (nI (x.oc + 1)) = M1
          generalize hM2 : mz_pI (mz_wL (mz_wI (mz_wI (mz_pI N2 232 0 0) 302 (nI x.oc) (nI a1)) 303 (nI x.oc) (nI a2)) 304 (nI x.oc) (lN (tm + 480))) 232 96 (nI (x.oc + 1)) = M2
          have f1 : fq [115, 130, 131, 132] [] N1 M1 := by rw [← hM1]; exact fq_pI (fq_wI (fq_wI (fq_wI (fq_refl _ _ _) rfl) rfl) rfl) rfl
          have f2 : fq [232, 302, 303] [304] N2 M2 := by rw [← hM2]; exact fq_pI (fq_wL (fq_wI (fq_wI (fq_pI (fq_refl _ _ _) rfl) rfl) rfl) rfl) rfl
          have i2 : ∀ f, f ≠ 0 → f ≠ 96 → M2.1 232 f = N2.1 232 f := fun f g0 g1 => by rw [← hM2, pI_s, sI_e, up_a, if_neg g1, wL_1, wI_ne (by decide), wI_ne (by decide), pI_s, sI_e, up_a, if_neg g0]
          have k115 : ∀ f, f ≠ 5 → M1.1 115 f = N1.1 115 f := fun f g => by rw [← hM1, pI_s, sI_e, up_a, if_neg g, wI_ne (by decide), wI_ne (by decide), wI_ne (by decide)]
          have z1 : M1.1 115 5 = nI (x.oc + 1) := by rw [← hM1, pI_s, sI_e, up_a, if_pos rfl]
          have z2 : M2.1 232 96 = nI (x.oc + 1) := by rw [← hM2, pI_s, sI_e, up_a, if_pos rfl]
          have h0 : M2.1 232 0 = 0 := by rw [← hM2, pI_s, sI_e, up_a, if_neg (by decide), wL_1, wI_ne (by decide), wI_ne (by decide)]; exact code_0
          have tt : (M2.2 232 2).toInt32 + 480 = nI (tm + 480) := by rw [f2.2 232 rfl, y2, lN_32 (by omega), show (480 : Int32) = nI 480 from rfl, nI_add]
          have c130 : ∀ j, j < 8 → M1.1 130 j = if j = x.oc then nI a1 else N1.1 130 j := fun j hj => by rw [← hM1, pI_s, sI_n (by decide), wI_ne (by decide), wI_ne (by decide), wI_at (by omega)]
          have c131 : ∀ j, j < 8 → M1.1 131 j = if j = x.oc then nI a2 else N1.1 131 j := fun j hj => by rw [← hM1, pI_s, sI_n (by decide), wI_ne (by decide), wI_at (by omega), wI_ne (by decide)]
          have c132 : ∀ j, j < 8 → M1.1 132 j = if j = x.oc then nI (tm + 480) else N1.1 132 j := fun j hj => by rw [← hM1, pI_s, sI_n (by decide), wI_at (by omega), wI_ne (by decide), wI_ne (by decide)]
          have c302 : ∀ j, j < 8 → M2.1 302 j = if j = x.oc then nI a1 else N2.1 302 j := fun j hj => by rw [← hM2, pI_s, sI_n (by decide), wL_1, wI_ne (by decide), wI_at (by omega), pI_s, sI_n (by decide)]
          have c303 : ∀ j, j < 8 → M2.1 303 j = if j = x.oc then nI a2 else N2.1 303 j := fun j hj => by rw [← hM2, pI_s, sI_n (by decide), wL_1, wI_at (by omega), wI_ne (by decide), pI_s, sI_n (by decide)]
          have c304 : ∀ j, j < 8 → M2.2 304 j = if j = x.oc then lN (tm + 480) else N2.2 304 j := fun j hj => by rw [← hM2, pI_s]; show (mz_wL _ 304 _ _).2 304 j = _; rw [wL_at (by omega)]; rfl
          have cc := h3.cs.cc
          have cr := h3.cs.cr
          have ci := h3.iv.ci
          have e1 : cf_351_0 (nI a1) (nI a2) N1 = (0, nI (tm + 480), M1) := by
            simp only [cf_351_0, cf_352_0, cf_352_24, cf_352_46, u2, i1, i2', oc1, l8, w0, if_true, y1, g1, g2, g3, nI_1, hM1]
          have e2 : cf_572_0 (nI a1) (nI a2) N2 = (nI (tm + 480), M2) := by
            simp only [cf_572_0, cf_572_30, cf_572_72, cf_572_99, j1, j2, Ft, oc2, q8, w8, if_true, if_false, Bool.false_eq_true, m1, m2, m3, m4, y3, nI_1, hM2, tt]
          refine ⟨by simp [cp_351_0, cp_352_0, cp_352_24, cp_352_46, u1, u2, p1, p2, i1, i2', oc1, l8, w0, ib, g1, g2], by simp [cp_572_0, cp_572_30, cp_572_72, cp_572_99, j1, j2, F1, Ft, oc2, q8, w8, ib, m1, m2], ?_⟩
          rw [e1, e2]
          have mr : MR (p + 3) C s D H (x.wk, x.nn, x.oc + 1, up x.op x.oc a1, up x.om x.oc a2, up x.od x.oc (tm + 480), x.vs, x.vd, x.tp, x.tt, x.bk) L M1 b M2 := by
            refine ⟨⟨KS_B h3.cs.ks (stK_of f1 f2 rfl rfl (fun f hf => i2 f (by omega) (by omega)) (by rw [f2.2 232 rfl])) rfl (ckp_q h3.cs.ks.kc f1 rfl rfl) (rkp_q h3.cs.ks.kr f2 rfl rfl (i2 27 (by decide) (by decide)) (i2 21 (by decide) (by decide)) (fun f _ => by rw [f2.2 232 rfl])), ?_, ?_⟩, LR_m (by omega) (LR_q h3.lr f1 f2 rfl rfl rfl rfl (fun f hf => i2 f (by omega) (by omega)) (fun f _ => by rw [f2.2 232 rfl])), ?_⟩
            · obtain ⟨b1', b2, b3, b4, b5, b6, b7⟩ := cc
              refine ⟨by rw [f1.1 122 rfl]; exact b1', (k115 2 (by decide)).trans b2, z1, fun i hi => ?_, by rw [f1.1 133 rfl, f1.1 134 rfl]; exact b5, fun u hu => ?_, by rw [f1.1 141 rfl]; exact b7⟩
              · have hi' : i < x.oc + 1 := hi
                show M1.1 130 i = nI (up x.op x.oc a1 i) ∧ M1.1 131 i = nI (up x.om x.oc a2 i) ∧ M1.1 132 i = nI (up x.od x.oc (tm + 480) i)
                rw [c130 i (by omega), c131 i (by omega), c132 i (by omega), up_d, up_d, up_d]
                by_cases z : i = x.oc
                · rw [if_pos z, if_pos z, if_pos z, if_pos z, if_pos z, if_pos z]; exact ⟨rfl, rfl, rfl⟩
                · rw [if_neg z, if_neg z, if_neg z, if_neg z, if_neg z, if_neg z]; exact b4 i (by omega)
              · have e1 : M1.1 (136 + u) = N1.1 (136 + u) := by rcases (show u = 0 ∨ u = 1 by omega) with w | w <;> rw [w] <;> exact f1.1 _ rfl
                have e2 : M1.1 (139 + u) = N1.1 (139 + u) := by rcases (show u = 0 ∨ u = 1 by omega) with w | w <;> rw [w] <;> exact f1.1 _ rfl
                rw [e1, e2]; exact b6 u hu
            · obtain ⟨b1', b2, b3, b4, b5, b6, b7⟩ := cr
              refine ⟨by rw [f2.1 293 rfl]; exact b1', by rw [f2.2 232 rfl]; exact b2, z2, fun i hi => ?_, by rw [f2.2 298 rfl]; exact b5, by rw [f2.1 296 rfl, f2.1 297 rfl, f2.2 298 rfl]; exact b6, by rw [f2.1 294 rfl, f2.2 295 rfl]; exact b7⟩
              have hi' : i < x.oc + 1 := hi
              show M2.1 302 i = nI (up x.op x.oc a1 i) ∧ M2.1 303 i = nI (up x.om x.oc a2 i) ∧ M2.2 304 i = lN (up x.od x.oc (tm + 480) i)
              rw [c302 i (by omega), c303 i (by omega), c304 i (by omega), up_d, up_d, up_d]
              by_cases z : i = x.oc
              · rw [if_pos z, if_pos z, if_pos z, if_pos z, if_pos z, if_pos z]; exact ⟨rfl, rfl, rfl⟩
              · rw [if_neg z, if_neg z, if_neg z, if_neg z, if_neg z, if_neg z]; exact b4 i (by omega)
            · obtain ⟨d1, d2, d3, d4, d5, d6, d7, d8⟩ := h3.iv
              refine ⟨Jd_m (by omega) d1, KB_m (by omega) d2, d3, d4, d5, d6, ?_, by have e : x.nn ≤ 1000000000 + 4 * p := d8; show x.nn + 0 ≤ _; omega⟩
              obtain ⟨b1', b2, ⟨cr', b3, b3'⟩, b4, b5, b6, b7, b8, b9, b10, b11⟩ := d7
              have e0 : b1 false = 0 := rfl
              refine ⟨⟨tm, t1, t2, fun i hi => ?_⟩, fun i j hij hj => ?_, ⟨cr', b3, ?_⟩, ?_, fun i hi => ?_, b6, b7, b8, b9, b10, b11⟩
              · have hi' : i < x.oc + 1 := hi
                show tm + b1 false ≤ up x.od x.oc (tm + 480) i ∧ up x.od x.oc (tm + 480) i ≤ tm + 480
                rw [up_d]
                by_cases z : i = x.oc
                · rw [if_pos z]; omega
                · rw [if_neg z]; exact t3 i (by omega)
              · have hj' : j < x.oc + 1 := hj
                show up x.od x.oc (tm + 480) i ≤ up x.od x.oc (tm + 480) j
                rw [up_d, up_d]
                by_cases z : j = x.oc
                · rw [if_pos z]
                  by_cases y : i = x.oc
                  · rw [if_pos y]; omega
                  · rw [if_neg y]; exact (t3 i (by omega)).2
                · rw [if_neg z, if_neg (by omega)]; exact b2 i j hij (by omega)
              · have es : sumN (up x.om x.oc a2) (x.oc + 1) = sumN x.om x.oc + a2 := by
                  show sumN (up x.om x.oc a2) x.oc + up x.om x.oc a2 x.oc = _
                  rw [up_d, if_pos rfl]
                  have : ∀ n, n ≤ x.oc → sumN (up x.om x.oc a2) n = sumN x.om n := fun n => by
                    induction n with
                    | zero => intro _; rfl
                    | succ n ih => intro hn; show sumN _ n + up x.om x.oc a2 n = sumN _ n + x.om n; rw [ih (by omega), up_d, if_neg (by omega)]
                  rw [this x.oc (Nat.le_refl _)]
                show cr' + 3000 * sumN (up x.om x.oc a2) (x.oc + 1) + 500 * ((x.vs 0 - x.vd 0) + (x.vs 1 - x.vd 1)) ≤ 100000000 + 10000 * (p + 3)
                rw [es]; omega
              · show x.oc + 1 ≤ 8; omega
              · have hi' : i < x.oc + 1 := hi
                show up x.op x.oc a1 i < 3 ∧ up x.om x.oc a2 i < 100000 ∧ up x.od x.oc (tm + 480) i < 2 ^ 30
                rw [up_d, up_d, up_d]
                by_cases z : i = x.oc
                · rw [if_pos z, if_pos z, if_pos z]; omega
                · rw [if_neg z, if_neg z, if_neg z]; exact b5 i (by omega)
          exact cal_u h0 rfl (oF_q f1 f2 rfl rfl rfl rfl) (up_f (by omega) h2 mr h4 (rsF_q f1 f2 rfl rfl rfl (fun f hf => i2 f (rsI_ne hf rfl) (rsI_ne hf rfl))) rfl rfl (by omega) (by omega))
        · have w0 : (x.oc < 8) = False := eq_false w
          have w8 : (x.oc = 8) = True := eq_true (by omega)
          have e1 : cf_351_0 (nI a1) (nI a2) N1 = (0, -1003, N1) := by simp only [cf_351_0, u2, i1, i2', oc1, l8, w0, if_true, if_false]
          have e2 : cf_572_0 (nI a1) (nI a2) N2 = (-1003, mz_pI N2 232 0 0) := by simp only [cf_572_0, cf_572_30, j1, j2, Ft, oc2, q8, w8, if_true, if_false, Bool.false_eq_true]
          refine ⟨by simp [cp_351_0, u1, u2, p1, p2, i1, i2', oc1, l8, w0], by simp [cp_572_0, cp_572_30, j1, j2, F1, Ft, oc2, q8, w8], ?_⟩
          rw [e1, e2]
          exact cal_m (by omega) (by omega) (cal_u code_0 rfl oF_code (Up_code hu))
      · exact ⟨by simp [cp_351_0, u1, u2, p1, p2, i1, i2'], by simp [cp_572_0, cp_572_30, cp_572_29, j1, j2, F1, Ff], cal_m (by omega) (by omega) (Sm_r (a := 0) (a' := 0) h (Or.inl rfl) (by simp [cf_351_0, u2, i1, i2']) (by simp [cf_572_0, cf_572_30, cf_572_29, j1, j2, Ff]))⟩
    · exact ⟨by simp [cp_351_0, u1, u2, p1, i1], by simp [cp_572_0, cp_572_30, cp_572_29, j1, F1, Ff], cal_m (by omega) (by omega) (Sm_r (a := 0) (a' := 0) h (Or.inl rfl) (by simp [cf_351_0, u2, i1]) (by simp [cf_572_0, cf_572_30, cf_572_29, j1, Ff]))⟩
  · exact ⟨by simp [cp_351_0, u1, u2], by simp [cp_572_0, cp_572_30, cp_572_29, F1, Fd], cal_m (by omega) (by omega) (Sm_r (a := 0) (a' := 0) h (Or.inr rfl) (by simp [cf_351_0, u2]) (by simp [cf_572_0, cf_572_30, cf_572_29, Fd]))⟩
end Od
