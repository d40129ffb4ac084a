/-! PURE (50zzzzzz): go. -/
section Gq
variable {N N1 N2 M1 M2 X1 X2 : mz_N} {b : Bool} {B q p C k j st ed w : Nat} {s : st_S} {D H G : Kp} {x : CrS} {L L' : LvS} {R : RsS} {v v1 v2 J : Int32} {lb : Nat → Nat}
theorem glog_al {wh : Nat → Nat} (hq : q < 2 ^ 20) (h1 : p ≤ q) (h2 : C ≤ B) (h3 : MR p C s D H x L N1 b N2) (h4 : RsR H L R N1 N2) (h5 : R.lg ≤ q) (h6 : 1 ≤ p) (f1 : fq [109] [] N1 X1) (f2 : fq [232, 316] [] N2 X2) (i2 : ∀ f, f ≠ 0 → X2.1 232 f = N2.1 232 f) (h0 : X2.1 232 0 = 0) (hw : ∀ i, i < 40 → X1.1 109 i = nO 240 (wh i) ∧ X2.1 316 i = nO 240 (wh i)) (hn : ∀ i, i < 40 → H.1 15 i ≠ 1 → 240 ≤ wh i) :
    cp_314_0 (X1.1 208 0) v1 v2 J X1 ∧ cp_578_140 v1 v2 J X2 ∧ cal (q + 1) B b N1 N2 (0, J, cf_314_0 (X1.1 208 0) v1 v2 J X1) (cf_578_140 v1 v2 J X2) := by
  obtain ⟨tm, t1, t2, _⟩ := h3.iv.ci.tm
  have k9 := h3.cs.ks.kc.2.2.2.2.2.2.2.2.2.2.1
  have r9 := h3.cs.ks.kr.2.2.2.2.2.2.2.2.2.2.1
  have y1 : X1.1 208 0 = nI tm := by rw [f1.1 208 rfl, k9.1, t2]
  have y2 : X2.2 232 2 = lN tm := by rw [f2.2 232 rfl, r9.1, t2, nI_L (by omega)]
  have g1 : X1.1 100 10 = nI R.lg := by rw [f1.1 100 rfl]; exact h4.lg.1
  have g2 : X2.1 232 112 = nI R.lg := by rw [i2 112 (by decide)]; exact h4.lg.2
  have e64 : mz_irem (nI R.lg) 64 = nI (R.lg % 64) := irem_n (d := 64) (by omega) (by omega) (by omega)
  have hi : R.lg % 64 < 64 := Nat.mod_lt _ (by omega)
  have hil : ∀ i, i < 64 → i < R.lg + 1 → i ≠ R.lg % 64 → i < R.lg := fun i a c e => by omega
  generalize R.lg % 64 = m at e64 hi hil
  have ib : mz_ib (nI m) 64 := ib_n hi (by omega)
  have c1 : (mz_wI (mz_wI (mz_wI (mz_wI X1 111 (nI m) (nI tm)) 112 (nI m) v1) 113 (nI m) v2) 114 (nI m) J).1 100 10 = nI R.lg := by rw [wI_ne (by decide), wI_ne (by decide), wI_ne (by decide), wI_ne (by decide)]; exact g1
  have d1 : (mz_wL X2 317 (nI m) (lN tm)).1 232 112 = nI R.lg := by rw [wL_1]; exact g2
  have d2 : (mz_wI (mz_wL X2 317 (nI m) (lN tm)) 318 (nI m) v1).1 232 112 = nI R.lg := by rw [wI_ne (by decide)]; exact d1
  have d3 : (mz_wI (mz_wI (mz_wL X2 317 (nI m) (lN tm)) 318 (nI m) v1) 319 (nI m) v2).1 232 112 = nI R.lg := by rw [wI_ne (by decide)]; exact d2
  have d4 : (mz_wI (mz_wI (mz_wI (mz_wL X2 317 (nI m) (lN tm)) 318 (nI m) v1) 319 (nI m) v2) 320 (nI m) J).1 232 112 = nI R.lg := by rw [wI_ne (by decide)]; exact d3
  generalize hM1 : mz_pI (mz_wI (mz_wI (mz_wI (mz_wI X1 111 (nI m) (nI tm)) 112 (nI m) v1) 113 (nI m) v2) 114 (nI m) J) 100 10 (nI (R.lg + 1)) = K1
  generalize hM2 : mz_pI (mz_wI (mz_wI (mz_wI (mz_wL X2 317 (nI m) (lN tm)) 318 (nI m) v1) 319 (nI m) v2) 320 (nI m) J) 232 112 (nI (R.lg + 1)) = K2
  have e1 : cf_314_0 (X1.1 208 0) v1 v2 J X1 = K1 := by simp only [cf_314_0, cf_314_39, g1, e64, y1, c1, nI_1, hM1]
  have e2 : cf_578_140 v1 v2 J X2 = (J, K2) := by simp only [cf_578_140, cf_578_169, cf_578_195, g2, e64, y2, d1, d2, d3, d4, nI_1, hM2]
  have F1 : fq [100, 109, 111, 112, 113, 114] [] N1 K1 := by rw [← hM1]; exact fq_pI (fq_wI (fq_wI (fq_wI (fq_wI (fq_sub f1 rfl rfl) rfl) rfl) rfl) rfl) rfl
  have F2 : fq [232, 316, 318, 319, 320] [317] N2 K2 := by rw [← hM2]; exact fq_pI (fq_wI (fq_wI (fq_wI (fq_wL (fq_sub f2 rfl rfl) rfl) rfl) rfl) rfl) rfl
  have I2 : ∀ f, f ≠ 0 → f ≠ 112 → K2.1 232 f = N2.1 232 f := fun f a c => by rw [← hM2, pI_s, sI_e, up_a, if_neg c, wI_ne (by decide), wI_ne (by decide), wI_ne (by decide), wL_1]; exact i2 f a
  have H0 : K2.1 232 0 = 0 := by rw [← hM2, pI_s, sI_e, up_a, if_neg (by decide), wI_ne (by decide), wI_ne (by decide), wI_ne (by decide), wL_1]; exact h0
  have k100 : K1.1 100 10 = nI (R.lg + 1) := by rw [← hM1, pI_s, sI_e, up_a, if_pos rfl]
  have k112 : K2.1 232 112 = nI (R.lg + 1) := by rw [← hM2, pI_s, sI_e, up_a, if_pos rfl]
  have w1 : ∀ i, K1.1 109 i = X1.1 109 i := fun i => by rw [← hM1, pI_s, sI_n (by decide), wI_ne (by decide), wI_ne (by decide), wI_ne (by decide), wI_ne (by decide)]
  have w2 : ∀ i, K2.1 316 i = X2.1 316 i := fun i => by rw [← hM2, pI_s, sI_n (by decide), wI_ne (by decide), wI_ne (by decide), wI_ne (by decide), wL_1]
  have a111 : ∀ i, K1.1 111 i = if i = m then nI tm else N1.1 111 i := fun i => by rw [← hM1, pI_s, sI_n (by decide), wI_ne (by decide), wI_ne (by decide), wI_ne (by decide), wI_at (by omega), f1.1 111 rfl]
  have a112 : ∀ i, K1.1 112 i = if i = m then v1 else N1.1 112 i := fun i => by rw [← hM1, pI_s, sI_n (by decide), wI_ne (by decide), wI_ne (by decide), wI_at (by omega), wI_ne (by decide), f1.1 112 rfl]
  have a113 : ∀ i, K1.1 113 i = if i = m then v2 else N1.1 113 i := fun i => by rw [← hM1, pI_s, sI_n (by decide), wI_ne (by decide), wI_at (by omega), wI_ne (by decide), wI_ne (by decide), f1.1 113 rfl]
  have a114 : ∀ i, K1.1 114 i = if i = m then J else N1.1 114 i := fun i => by rw [← hM1, pI_s, sI_n (by decide), wI_at (by omega), wI_ne (by decide), wI_ne (by decide), wI_ne (by decide), f1.1 114 rfl]
  have b317 : ∀ i, K2.2 317 i = if i = m then lN tm else N2.2 317 i := fun i => by
    rw [← hM2, pI_s]
    show (mz_wL X2 317 (nI m) (lN tm)).2 317 i = _
    rw [wL_at (by omega), f2.2 317 rfl]
  have b318 : ∀ i, K2.1 318 i = if i = m then v1 else N2.1 318 i := fun i => by rw [← hM2, pI_s, sI_n (by decide), wI_ne (by decide), wI_ne (by decide), wI_at (by omega), wL_1, f2.1 318 rfl]
  have b319 : ∀ i, K2.1 319 i = if i = m then v2 else N2.1 319 i := fun i => by rw [← hM2, pI_s, sI_n (by decide), wI_ne (by decide), wI_at (by omega), wI_ne (by decide), wL_1, f2.1 319 rfl]
  have b320 : ∀ i, K2.1 320 i = if i = m then J else N2.1 320 i := fun i => by rw [← hM2, pI_s, sI_n (by decide), wI_at (by omega), wI_ne (by decide), wI_ne (by decide), wL_1, f2.1 320 rfl]
  have mr : MR p C s D H x L K1 b K2 := MR_q h3 F1 F2 rfl rfl rfl rfl (fun f hf => I2 f (fun z => by rw [z] at hf; cases hf) (fun z => by rw [z] at hf; cases hf)) (F2.2 232 rfl) (ckp_q h3.cs.ks.kc F1 rfl rfl) (rkp_q h3.cs.ks.kr F2 rfl rfl (I2 27 (by decide) (by decide)) (I2 21 (by decide) (by decide)) (fun f _ => by rw [F2.2 232 rfl]))
  have rs : RsR H L (R.dr, R.bs, R.ve, R.tl, R.tx, R.wr, wh, R.lg + 1, R.tn, R.ta, R.rn, R.ra) K1 K2 := by
    obtain ⟨a1', a2, a3, a4, a5, a6, a7, a8, a9, a10, a11, a12, a13, a14, a15⟩ := h4
    refine ⟨fun d hd i hi => ?_, ?_, a3, ?_, ?_, ?_, ?_, fun i hi => ?_, hn, ⟨k100, k112⟩, fun i hi hi2 => ?_, ?_, ?_, a14, a15⟩
    · have d1 : K1.1 (5 + d) = N1.1 (5 + d) ∧ K1.1 (9 + d) = N1.1 (9 + d) := by
        rcases (show d = 0 ∨ d = 1 ∨ d = 2 by omega) with w | w | w <;> subst w <;> exact ⟨F1.1 _ rfl, F1.1 _ rfl⟩
      rw [d1.1, d1.2]; exact a1' d hd i hi
    · rw [F2.1 233 rfl]; exact a2
    · rw [F1.1 2 rfl, I2 4 (by decide) (by decide)]; exact a4
    · rw [F1.1 41 rfl, I2 25 (by decide) (by decide)]; exact a5
    · rw [F1.1 42 rfl, F2.1 251 rfl]; exact a6
    · rw [I2 36 (by decide) (by decide), I2 34 (by decide) (by decide), I2 35 (by decide) (by decide), F1.1 41 rfl]; exact a7
    · rw [w1, w2]; exact hw i hi
    · have hi2' : i < R.lg + 1 := hi2
      rw [a111, a112, a113, a114, b317, b318, b319, b320]
      by_cases z : i = m
      · simp only [if_pos z]; exact ⟨(lN_32 (by omega)).symm, trivial, trivial, trivial⟩
      · simp only [if_neg z]; exact a11 i hi (hil i hi hi2' z)
    · rw [F1.1 1 rfl, F1.1 228 rfl, F2.1 334 rfl, I2 141 (by decide) (by decide)]; exact a12
    · rw [F1.1 1 rfl, F1.1 229 rfl, F2.1 335 rfl, I2 143 (by decide) (by decide)]; exact a13
  rw [e1, e2]
  refine ⟨by simp only [cp_314_0, cp_314_39, g1, e64]; exact ⟨ib, ib, ib, ib⟩, by simp only [cp_578_140, cp_578_169, cp_578_195, g2, e64, y2, d1, d2]; exact ⟨ib, ib, ib, by rw [d3, e64]; exact ib, trivial⟩, ?_⟩
  exact cal_u H0 rfl (oF_q F1 F2 rfl rfl rfl rfl) ⟨p, C, s, D, H, x, L, _, by omega, h2, mr, rs, by show R.lg + 1 ≤ q + 1; omega, h6⟩
theorem door_in (h : MR q B s D H x L N1 b N2) : cp_307_0 v N1 ∧ ((∃ k, k < 20 ∧ v = nI k ∧ H.1 12 k = 1 ∧ cf_307_0 v N1 = true) ∨ (cf_307_0 v N1 = false ∧ ∀ k, k < 20 → v = nI k → H.1 12 k = 0)) := by
  have k13 := h.cs.ks.kc.2.2.2.2.2.2.2.2.2.2.2.2.2.2.1
  have b12 : ∀ j, H.1 12 j ≤ 1 := h.cs.ks.hb.2.2.2.2.2.2.2.2.2.2.2.1
  rw [cp_307_0, cf_307_0]
  by_cases a : v < 0
  · rw [if_pos a]
    exact ⟨⟨fun _ => trivial, fun z => absurd a z⟩, Or.inr ⟨rfl, fun k hk e => absurd a (by rw [e]; exact (nI_neg2 (by omega)).2)⟩⟩
  · obtain ⟨e1, e2⟩ := v_nn a
    have hb := Int32.toInt_lt v
    generalize v.toInt.toNat = k at e1 e2
    subst e1
    rw [if_neg a]
    by_cases c : k < 20
    · have l : nI k < 20 := (nI_ltI (b := 20) (by omega) (by omega)).mpr c
      have g1 : mz_gI N1 101 (nI k) = nI (H.1 12 k) := by rw [gI_a, nI_clamp (by omega)]; exact (k13 k c).1
      have bk := b12 k
      have q1 : (nI (H.1 12 k) = 1) = (H.1 12 k = 1) := propext (nI_eq (b := 1) (by omega) (by omega))
      rw [if_pos l, g1]
      simp only [q1]
      refine ⟨⟨fun _ => trivial, fun _ => ⟨fun _ => ib_n c (by omega), fun _ => trivial⟩⟩, ?_⟩
      by_cases z : H.1 12 k = 1
      · rw [if_pos z]; exact Or.inl ⟨k, c, rfl, z, rfl⟩
      · rw [if_neg z]; exact Or.inr ⟨rfl, fun k' hk' e => by rw [← (nI_eq (by omega) (by omega)).mp e]; omega⟩
    · have l : ¬ nI k < 20 := fun z => c ((nI_ltI (b := 20) (by omega) (by omega)).mp z)
      rw [if_neg l]
      exact ⟨⟨fun _ => trivial, fun _ => ⟨fun z => absurd z l, fun _ => trivial⟩⟩, Or.inr ⟨rfl, fun k' hk' e => absurd ((nI_eq (by omega) (by omega)).mp e) (by omega)⟩⟩
theorem go_al (hq : q < 2 ^ 20) (h : Sm q B N1 b N2) : cp_305_0 v1 v2 N1 ∧ cp_578_0 v1 v2 N2 ∧ cal (q + 1) B b N1 N2 (cf_305_0 v1 v2 N1) (cf_578_0 v1 v2 N2) := by
  have E19 := i466 (v := v2) (hi := 19) (g := 19) (by omega) rfl
  rcases Sm_0 h with ⟨hu, u1, u2, F1, Ft, Ff, Fs, F3, F4⟩ | ⟨u1, u2, F1, Fd, F3, F4⟩
  · obtain ⟨p, C, s, D, H, x, L, R, h1, h2, h3, h4, h5, h6⟩ := id hu
    obtain ⟨p1, p2, c1⟩ := card_in (v := v1) h3
    obtain ⟨p3, c3⟩ := door_in (v := v2) h3
    have kr13 := h3.cs.ks.kr.2.2.2.2.2.2.2.2.2.2.2.2.2.2.1
    have kc13 := h3.cs.ks.kc.2.2.2.2.2.2.2.2.2.2.2.2.2.2.1
    have kc14 := h3.cs.ks.kc.2.2.2.2.2.2.2.2.2.2.2.2.2.2.2.1
    have kr14 := h3.cs.ks.kr.2.2.2.2.2.2.2.2.2.2.2.2.2.2.2.1
    have b12 : ∀ j, H.1 12 j ≤ 1 := h3.cs.ks.hb.2.2.2.2.2.2.2.2.2.2.2.1
    have b18 : ∀ j, H.1 18 j ≤ 1 := fun j => (h3.cs.ks.hb.2.2.2.2.2.2.2.2.2.2.2.2.2.2.1 j).2.2
    have b16 : ∀ j, H.1 16 j < 256 ∧ H.1 17 j < 256 := fun j => ⟨(h3.cs.ks.hb.2.2.2.2.2.2.2.2.2.2.2.2.2.2.1 j).1, (h3.cs.ks.hb.2.2.2.2.2.2.2.2.2.2.2.2.2.2.1 j).2.1⟩
    have gz : ∀ k, k < 20 → mz_gZ N2 308 (nI k) = decide (H.1 12 k = 1) ∧ mz_z01 (mz_gI N2 308 (nI k)) := fun k hk => by
      have tk := b12 k
      rw [gZ_a, gI_a, nI_clamp (by omega), (kr13 k hk).1]
      rcases (show H.1 12 k = 0 ∨ H.1 12 k = 1 by omega) with w | w <;> rw [w] <;> first | exact ⟨rfl, Or.inl rfl⟩ | exact ⟨rfl, Or.inr rfl⟩
    rcases c1 with ⟨k, hk, rfl, hk1, i1, j1⟩ | ⟨i1, j1⟩
    · rcases c3 with ⟨j, hj, rfl, hj1, i3⟩ | ⟨i3, hj0⟩
      · obtain ⟨tm, t1, t2, _⟩ := h3.iv.ci.tm
        have k9 := h3.cs.ks.kc.2.2.2.2.2.2.2.2.2.2.1
        have r9 := h3.cs.ks.kr.2.2.2.2.2.2.2.2.2.2.1
        have hr1 := hour_c (N1 := N1) (tm := tm) (k9.1.trans t2) (by omega)
        have hr2 : cf_508_0 (mz_pI N2 232 0 0) = nI (tm / 10 % 24) := hour_r (N2 := mz_pI N2 232 0 0) (tm := tm) (show N2.2 232 2 = lN tm by rw [r9.1, t2, nI_L (by omega)]) (by omega)
        generalize tm / 10 % 24 = hr at hr1 hr2
        obtain ⟨ds, de⟩ := MR_dr h3 j hj hj1
        have X : goX N1 (mz_pI N2 232 0 0) k j (H.1 13 j) (H.1 14 j) (R.wh k) (pl_lab (H.1 0)) := by
          refine ⟨hk, hj, ds, de, ?_, ?_, ?_, h3.lr.pl.1.2.1.1, ?_, ?_, ?_, h3.lr.pl.2.2.1, fun c hc => ?_⟩
          · rw [gI_a, nI_clamp (by omega)]; exact (h4.wh k hk).1
          · rw [gI_a, nI_clamp (by omega)]; exact ((kc13 j hj).2 hj1).1
          · rw [gI_a, nI_clamp (by omega)]; exact ((kc13 j hj).2 hj1).2
          · rw [gI_a, nI_clamp (by omega)]; exact (h4.wh k hk).2
          · rw [gI_a, nI_clamp (by omega)]; exact ((kr13 j hj).2 hj1).1
          · rw [gI_a, nI_clamp (by omega)]; exact ((kr13 j hj).2 hj1).2
          · have := pl_lab_lt (e := H.1 0) hc
            have := h3.iv.pl.n
            omega
        obtain ⟨n1, n2, n3, n4⟩ := near_c X
        obtain ⟨m1, m2⟩ := meets_c X (x := R.wh k) (y := nfc (H.1 13 j) (ge_bf (H.1 14 j)))
        obtain ⟨m3, m4⟩ := meets_c X (x := R.wh k) (y := nfc (H.1 13 j) (ge_bh (H.1 14 j)))
        obtain ⟨s1, s2⟩ := isAt_r X
        obtain ⟨s3, s4⟩ := stpd_c X
        have ps := pass_r X
        have ibk : mz_ib (nI k) 40 := ib_n hk (by omega)
        have ibj : mz_ib (nI j) 20 := ib_n hj (by omega)
        have g105 : mz_gI N1 105 (nI k) = nI (H.1 16 k) := by rw [gI_a, nI_clamp (by omega)]; exact ((kc14 k hk).2 hk1).1
        have g106 : mz_gI N1 106 (nI k) = nI (H.1 17 k) := by rw [gI_a, nI_clamp (by omega)]; exact ((kc14 k hk).2 hk1).2.1
        have g107 : mz_gI N1 107 (nI k) = nI (H.1 18 k) := by rw [gI_a, nI_clamp (by omega)]; exact ((kc14 k hk).2 hk1).2.2.1
        have g108 : mz_gI N1 108 (nI k) = H.2.1 12 k := by rw [gI_a, nI_clamp (by omega)]; exact ((kc14 k hk).2 hk1).2.2.2
        have r313 : mz_gI (mz_pI N2 232 0 0) 313 (nI k) = nI (H.1 16 k) := by rw [gI_a, nI_clamp (by omega)]; exact ((kr14 k hk).2 hk1).1
        have r314 : mz_gI (mz_pI N2 232 0 0) 314 (nI k) = nI (H.1 17 k) := by rw [gI_a, nI_clamp (by omega)]; exact ((kr14 k hk).2 hk1).2.1
        have r315 : mz_gI (mz_pI N2 232 0 0) 315 (nI k) = nI (H.1 18 k) := by rw [gI_a, nI_clamp (by omega)]; exact ((kr14 k hk).2 hk1).2.2.1
        have r312 : mz_gI (mz_pI N2 232 0 0) 312 (nI k) = H.2.1 12 k := by rw [gI_a, nI_clamp (by omega)]; exact ((kr14 k hk).2 hk1).2.2.2
        have bk := b18 k
        have q107 : (nI (H.1 18 k) = 1) = (H.1 18 k = 1) := propext (nI_eq (b := 1) (by omega) (by omega))
        have z315 : mz_z01 (nI (H.1 18 k)) := by rcases (show H.1 18 k = 0 ∨ H.1 18 k = 1 by omega) with w | w <;> rw [w] <;> first | exact Or.inl rfl | exact Or.inr rfl
        have gz315 : mz_gZ (mz_pI N2 232 0 0) 315 (nI k) = decide (H.1 18 k = 1) := by
          rw [gZ_a, nI_clamp (by omega)]
          show decide (N2.1 315 k = 1) = _
          rw [((kr14 k hk).2 hk1).2.2.1]
          rcases (show H.1 18 k = 0 ∨ H.1 18 k = 1 by omega) with w | w <;> rw [w] <;> rfl
        have g53 : mz_gI N1 53 14 = iI (L.T 14) := (h3.lr.tg 14 (by omega)).1
        have g257 : mz_gI (mz_pI N2 232 0 0) 257 14 = iI (L.T 14) := (h3.lr.tg 14 (by omega)).2
        have hour : cp_312_0 (nI k) (nI hr) N1 ∧ cp_581_0 (nI k) (mz_pI N2 232 0 0) ∧ cf_581_0 (nI k) (mz_pI N2 232 0 0) = cf_312_0 (nI k) (nI hr) N1 := by
          refine ⟨⟨ibk, fun _ => ⟨ibk, fun _ => ⟨ibk, ibk⟩, fun _ => ⟨ibk, ibk⟩⟩, fun _ => ⟨ibk, fun _ => ⟨ibk, ibk⟩, fun _ => ⟨ibk, ibk⟩⟩⟩, ⟨ibk, fun _ => ⟨ibk, fun _ => ⟨ibk, ibk⟩, fun _ => ⟨ibk, ibk⟩⟩, fun _ => ⟨ibk, fun _ => ⟨ibk, ibk⟩, fun _ => ⟨ibk, ibk⟩⟩⟩, ?_⟩
          simp only [cf_581_0, cf_581_20, cf_581_36, cf_312_0, cf_312_15, cf_312_31, hr2, r313, r314, g105, g106]
        have key : ∀ op : Bool, (op = true ↔ iI (L.T 14) = 1) → ∃ J : Int32, (J = 0 → (mt (pl_lab (H.1 0)) (R.wh k) (nfc (H.1 13 j) (ge_bf (H.1 14 j))) || mt (pl_lab (H.1 0)) (R.wh k) (nfc (H.1 13 j) (ge_bh (H.1 14 j)))) = true) ∧ cp_308_0 (nI k) (nI j) op (nI hr) N1 ∧ cf_308_0 (nI k) (nI j) op (nI hr) N1 = J ∧ cf_578_49 true (nI k) (nI j) N2 = cf_578_129 J (nI k) (nI j) (mz_pI N2 232 0 0) ∧ (cp_578_129 J (nI k) (nI j) (mz_pI N2 232 0 0) → cp_578_49 true (nI k) (nI j) N2) := fun op hop => by
          have P38 : cp_308_38 (nI k) (nI j) op (nI hr) N1 := ⟨fun _ => trivial, fun _ => ⟨ibk, fun _ => trivial, fun _ => ⟨ibk, fun _ => trivial, fun _ => hour.1⟩⟩⟩
          have P308 : cp_308_0 (nI k) (nI j) op (nI hr) N1 := by
            rw [cp_308_0, X.c1, n2, n4]
            exact ⟨ibk, n1, m1, fun _ => P38, fun _ => ⟨ibk, n3, m3, fun _ => P38, fun _ => trivial⟩⟩
          have C308 : cf_308_0 (nI k) (nI j) op (nI hr) N1 = if (mt (pl_lab (H.1 0)) (R.wh k) (nfc (H.1 13 j) (ge_bf (H.1 14 j))) || mt (pl_lab (H.1 0)) (R.wh k) (nfc (H.1 13 j) (ge_bh (H.1 14 j)))) = true then cf_308_38 (nI k) (nI j) op (nI hr) N1 else 4 := by
            rw [cf_308_0, X.c1, n2, n4, m2, m4]
            cases mt (pl_lab (H.1 0)) (R.wh k) (nfc (H.1 13 j) (ge_bf (H.1 14 j))) <;> cases mt (pl_lab (H.1 0)) (R.wh k) (nfc (H.1 13 j) (ge_bh (H.1 14 j))) <;> rfl
          rw [C308]
          generalize (mt (pl_lab (H.1 0)) (R.wh k) (nfc (H.1 13 j) (ge_bf (H.1 14 j))) || mt (pl_lab (H.1 0)) (R.wh k) (nfc (H.1 13 j) (ge_bh (H.1 14 j)))) = at' at s2
          have nf : ¬ (false = true) := fun z => by cases z
          cases at' with
          | false =>
            refine ⟨4, fun z => absurd z (by decide), P308, rfl, ?_, fun y => ?_⟩
            · simp only [cf_578_49, Ft, if_neg nf, s2]
            · simp only [cp_578_49, Ft, s2]
              exact ⟨F1 _ _, fun z => absurd z nf, fun _ => ⟨s1, fun z => absurd z nf, fun _ => y⟩⟩
          | true =>
            rw [if_pos rfl]
            refine ⟨_, fun _ => rfl, P308, rfl, ?_, fun y => ?_⟩
            · simp only [cf_578_49, Ft, if_neg nf, s2, if_true, g257, cf_308_38, g107, q107, g108, gz315, r312, hour.2.2]
              cases op with
              | true => rw [if_pos (hop.mp rfl), if_pos rfl]
              | false =>
                rw [if_neg (fun z => by have := hop.mpr z; cases this), if_neg nf]
                by_cases z1 : H.1 18 k = 1
                · rw [if_pos z1, if_pos (decide_eq_true z1)]
                · rw [if_neg z1, if_neg (fun z => z1 (of_decide_eq_true z))]
                  by_cases z2 : mz_ishr (H.2.1 12 k) (nI j) &&& 1 = 0
                  · rw [if_pos z2, if_pos z2]
                  · rw [if_neg z2, if_neg z2]
                    cases cf_312_0 (nI k) (nI hr) N1 with
                    | true => rw [if_pos rfl, if_pos rfl]
                    | false => rw [if_neg nf, if_neg nf]
            · simp only [cp_578_49, Ft, s2, g257, r315, gz315, r312, hour.2.2]
              simp only [cf_308_38, g107, q107, g108] at y
              refine ⟨F1 _ _, fun z => absurd z nf, fun _ => ⟨s1, fun _ => ⟨fun z => ?_, fun z => ⟨ibk, z315, fun z1 => ?_, fun z1 => ⟨ibk, fun z2 => ?_, fun z2 => ⟨hour.2.1, fun z3 => ?_, fun z3 => ?_⟩⟩⟩⟩, fun z => absurd trivial z⟩⟩
              · rw [if_pos (hop.mpr z)] at y; exact y
              · rw [if_neg (fun y => z (hop.mp y)), if_pos (of_decide_eq_true z1)] at y; exact y
              · rw [if_neg (fun y => z (hop.mp y)), if_neg (fun y => z1 (decide_eq_true y)), if_pos z2] at y; exact y
              · rw [if_neg (fun y => z (hop.mp y)), if_neg (fun y => z1 (decide_eq_true y)), if_neg z2, if_pos z3] at y; exact y
              · rw [if_neg (fun y => z (hop.mp y)), if_neg (fun y => z1 (decide_eq_true y)), if_neg z2, if_neg z3] at y; exact y
        have i232 : ∀ f, f ≠ 0 → (mz_pI N2 232 0 0).1 232 f = N2.1 232 f := fun f g0 => by rw [pI_s, sI_e, up_a, if_neg g0]
        have fin : ∀ op : Bool, (op = true ↔ iI (L.T 14) = 1) → cp_305_52 (nI k) (nI j) op (nI k) (nI j) N1 ∧ cp_578_49 true (nI k) (nI j) N2 ∧ cal (q + 1) B b N1 N2 (cf_305_52 (nI k) (nI j) op (nI k) (nI j) N1) (cf_578_49 true (nI k) (nI j) N2) := fun op hop => by
          obtain ⟨J, e0, e1, e2, e3, e4⟩ := key op hop
          rw [cp_305_52, cf_305_52, hr1, e2, e3, cf_578_129]
          by_cases z : J = 0
          · obtain ⟨d1, d2⟩ := ps (e0 z)
            obtain ⟨l1, l2, l3⟩ := glog_al (wh := up R.wh k (gto (pl_lab (H.1 0)) (H.1 13 j) (H.1 14 j) (R.wh k))) (X1 := mz_wI N1 109 (nI k) (nO 240 (gto (pl_lab (H.1 0)) (H.1 13 j) (H.1 14 j) (R.wh k)))) (X2 := mz_wI (mz_pI N2 232 0 0) 316 (nI k) (nO 240 (gto (pl_lab (H.1 0)) (H.1 13 j) (H.1 14 j) (R.wh k)))) (v1 := nI k) (v2 := nI j) (J := J) hq h1 h2 h3 h4 h5 h6 (fq_wI (fq_refl _ _ _) rfl) (fq_wI (fq_pI (fq_refl _ _ _) rfl) rfl) (fun f g0 => by rw [wI_ne (by decide)]; exact i232 f g0) (by rw [wI_ne (by decide)]; exact code_0) (fun i hi => by
              rw [wI_at (by omega), wI_at (by omega), up_d]
              by_cases y : i = k
              · rw [if_pos y, if_pos y, if_pos y]; exact ⟨rfl, rfl⟩
              · rw [if_neg y, if_neg y, if_neg y]; exact h4.wh i hi) (fun i hi hn => by
              rw [up_d]
              by_cases y : i = k
              · rw [y] at hn; exact absurd hk1 hn
              · rw [if_neg y]; exact h4.wn i hi hn)
            rw [if_pos z, if_pos z, s4, d2]
            refine ⟨⟨e1, fun _ => ⟨s3, l1⟩, fun y => absurd z y⟩, e4 ⟨fun _ => ⟨d1, by rw [d2]; exact l2⟩, fun y => absurd z y⟩, l3⟩
          · obtain ⟨l1, l2, l3⟩ := glog_al (wh := R.wh) (X1 := N1) (X2 := mz_pI N2 232 0 0) (v1 := nI k) (v2 := nI j) (J := J) hq h1 h2 h3 h4 h5 h6 (fq_refl _ _ _) (fq_pI (fq_refl _ _ _) rfl) i232 code_0 h4.wh h4.wn
            rw [if_neg z, if_neg z]
            exact ⟨⟨e1, fun y => absurd y z, fun _ => l1⟩, e4 ⟨fun y => absurd y z, fun _ => l2⟩, l3⟩
        have z1 : cf_466_0 (nI j).toInt64 0 19 = true := by
          rw [E19, if_neg (nI_neg2 (by omega)).2, if_pos ((nI_ltI (by omega) (by omega)).mpr (by omega))]
        have l0 : ¬ nI j < 0 := (nI_neg2 (by omega)).2
        have l20 : nI j < 20 := (nI_ltI (b := 20) (by omega) (by omega)).mpr hj
        obtain ⟨gz1, gz2⟩ := gz j hj
        rw [decide_eq_true hj1] at gz1
        by_cases op : iI (L.T 14) = 1
        · obtain ⟨a1, a2, a3⟩ := fin true ⟨fun _ => op, fun _ => rfl⟩
          refine ⟨by simp [cp_305_0, cf_142_0, u1, u2, p1, p3, i1, i3, g53, op, a1], by simp [cp_578_0, cp_578_40, p2, j1, l0, l20, z1, ibj, gz1, gz2, a2], ?_⟩
          have e1 : cf_305_0 (nI k) (nI j) N1 = cf_305_52 (nI k) (nI j) true (nI k) (nI j) N1 := by simp only [cf_305_0, cf_142_0, u2, i1, i3, if_true, g53, if_pos op]
          have e2 : cf_578_0 (nI k) (nI j) N2 = cf_578_49 true (nI k) (nI j) N2 := by simp only [cf_578_0, cf_578_40, j1, if_true, if_neg l0, if_pos l20, z1, gz1]
          rw [e1, e2]; exact a3
        · obtain ⟨a1, a2, a3⟩ := fin false ⟨fun y => (by cases y), fun y => absurd y op⟩
          refine ⟨by simp [cp_305_0, cf_142_0, u1, u2, p1, p3, i1, i3, g53, op, a1], by simp [cp_578_0, cp_578_40, p2, j1, l0, l20, z1, ibj, gz1, gz2, a2], ?_⟩
          have e1 : cf_305_0 (nI k) (nI j) N1 = cf_305_52 (nI k) (nI j) false (nI k) (nI j) N1 := by simp only [cf_305_0, cf_142_0, u2, i1, i3, if_true, g53, if_neg op]
          have e2 : cf_578_0 (nI k) (nI j) N2 = cf_578_49 true (nI k) (nI j) N2 := by simp only [cf_578_0, cf_578_40, j1, if_true, if_neg l0, if_pos l20, z1, gz1]
          rw [e1, e2]; exact a3
      · have R0 : cp_578_0 (nI k) v2 N2 ∧ cf_578_0 (nI k) v2 N2 = (0, mz_pI N2 232 0 (nI 1)) := by
          have q48 : cp_578_48 (nI k) v2 N2 ∧ cf_578_48 (nI k) v2 N2 = (0, mz_pI N2 232 0 (nI 1)) := ⟨by simp [cp_578_48, cp_578_49, F1, Ff], by simp [cf_578_48, cf_578_49, Ff]⟩
          by_cases a : v2 < 0
          · exact ⟨by simp [cp_578_0, p2, j1, a, q48.1], by simp [cf_578_0, j1, a, q48.2]⟩
          · by_cases c : v2 < 20
            · have c' : v2 < nI (19 + 1) := c
              rw [if_neg a, if_pos c'] at E19
              obtain ⟨e1, e2⟩ := v_nn a
              generalize v2.toInt.toNat = m at e1 e2
              subst e1
              have hm : m < 20 := by
                have hb := Int32.toInt_lt (nI m)
                exact (nI_ltI (b := 20) (by omega) (by omega)).mp c
              obtain ⟨g1, g2⟩ := gz m hm
              have ibm : mz_ib (nI m) 20 := ib_n hm (by omega)
              rw [decide_eq_false (show ¬ H.1 12 m = 1 by have := hj0 m hm rfl; omega)] at g1
              exact ⟨by simp [cp_578_0, cp_578_40, p2, j1, a, c, E19, ibm, g1, g2, q48.1], by simp [cf_578_0, cf_578_40, j1, a, c, E19, g1, q48.2]⟩
            · exact ⟨by simp [cp_578_0, p2, j1, a, c, q48.1], by simp [cf_578_0, j1, a, c, q48.2]⟩
        exact ⟨by simp [cp_305_0, cf_142_0, u1, u2, p1, p3, i1, i3], R0.1, cal_m (by omega) (Nat.le_refl _) (Sm_r (a := 0) (a' := 0) h (Or.inl rfl) (by simp [cf_305_0, cf_142_0, u2, i1, i3]) R0.2)⟩
    · exact ⟨by simp [cp_305_0, cf_142_0, u1, u2, p1, i1], by simp [cp_578_0, cp_578_48, cp_578_49, p2, j1, F1, Ff], cal_m (by omega) (Nat.le_refl _) (Sm_r (a := 0) (a' := 0) h (Or.inl rfl) (by simp [cf_305_0, cf_142_0, u2, i1]) (by simp [cf_578_0, cf_578_48, cf_578_49, j1, Ff]))⟩
  · have hd : dz N2 := by
      rcases h with hh | hh
      · obtain ⟨w1, w2⟩ := Sm_u hh
        have := (c104_u w1).2
        rw [u2] at this; cases this
      · exact Dn_z hh
    have Q : ∀ st, cp_578_49 st v1 v2 N2 ∧ cf_578_49 st v1 v2 N2 = (0, mz_pI N2 232 0 (nI 2)) := fun st => ⟨by simp [cp_578_49, F1, Fd], by simp [cf_578_49, Fd]⟩
    have Q4 : ∀ m, m < 20 → cp_578_40 (nI m) v1 v2 N2 ∧ cf_578_40 (nI m) v1 v2 N2 = (0, mz_pI N2 232 0 (nI 2)) := fun m hm => by
      have g1 : mz_z01 (mz_gI N2 308 (nI m)) := by rw [gI_a, nI_clamp (by omega)]; exact hd.1 m hm
      rw [cp_578_40, cf_578_40, cp_578_48, cf_578_48]
      refine ⟨⟨ib_n hm (by omega), g1, fun _ => (Q true).1, fun _ => (Q false).1⟩, ?_⟩
      split
      · exact (Q true).2
      · exact (Q false).2
    have R0 : cp_578_0 v1 v2 N2 ∧ cf_578_0 v1 v2 N2 = (0, mz_pI N2 232 0 (nI 2)) := by
      rw [cp_578_0, cf_578_0]
      have q48 : cp_578_48 v1 v2 N2 ∧ cf_578_48 v1 v2 N2 = (0, mz_pI N2 232 0 (nI 2)) := Q false
      have q40 : (¬ v2 < 0) → v2 < 20 → cp_578_40 v2 v1 v2 N2 ∧ cf_578_40 v2 v1 v2 N2 = (0, mz_pI N2 232 0 (nI 2)) := fun a c => by
        obtain ⟨e1, e2⟩ := v_nn a
        have hb := Int32.toInt_lt v2
        have hm : v2.toInt.toNat < 20 := by
          rw [Int32.lt_iff_toInt_lt] at c
          have t : (20 : Int32).toInt = 20 := rfl
          rw [t] at c; omega
        have := Q4 _ hm
        rw [← e1] at this
        exact this
      have q00 : cp_578_40 0 v1 v2 N2 ∧ cf_578_40 0 v1 v2 N2 = (0, mz_pI N2 232 0 (nI 2)) := Q4 0 (by omega)
      refine ⟨⟨card_d hd, fun _ => ⟨fun _ => q48.1, fun a => ⟨fun c => ⟨fun _ => (q40 a c).1, fun _ => q00.1⟩, fun _ => q48.1⟩⟩, fun _ => q48.1⟩, ?_⟩
      by_cases a0 : cf_579_0 v1 N2 = true
      · rw [if_pos a0]
        by_cases a : v2 < 0
        · rw [if_pos a]; exact q48.2
        · rw [if_neg a]
          by_cases c : v2 < 20
          · rw [if_pos c]; split
            · exact (q40 a c).2
            · exact q00.2
          · rw [if_neg c]; exact q48.2
      · rw [if_neg a0]; exact q48.2
    exact ⟨by simp [cp_305_0, u1, u2], R0.1, cal_m (by omega) (Nat.le_refl _) (Sm_r (a := 0) (a' := 0) h (Or.inr rfl) (by simp [cf_305_0, u2]) R0.2)⟩
end Gq
