/-! PURE (50zzzzzu): merge. -/
section Mg
variable {N N1 N2 M1 M2 : mz_N} {b : Bool} {B q d : Nat} {s : st_S} {D H G : Kp} {x : CrS} {L : LvS} {R : RsS} {v v1 : Int32} {l : List (Nat × Nat)}
/-- a group whose keys are joined already -/
theorem wr_MR2 (hB : B + 1 < 2 ^ 30) (h : pW q B s D G x L N1 b N2 l) (g1 : gr_c N1 (gkl l) l.length) (g2 : gr_r N2 (gkl l) l.length) : cp_121_0 N1 b ∧ cp_474_0 N2 ∧ ∃ w K1 K2, cf_121_0 N1 b = (w, K1) ∧ cf_474_0 N2 = (w, K2) ∧ cyF N1 K1 ∧ ryF N2 K2 ∧ (w = true → ∃ s' D', MR q (B + 1) s' D' G x L K1 b K2) ∧ (w = false → Dwn (B + 1) D K1 K2 ∧ Jd q D) := by
  obtain ⟨p1, p2, w, K1, K2, o1, o2, o3, o4, o5, o6⟩ := wr2 hB h.ks g1 g2 h.ha h.hl h.ht h.hp h.hx
  refine ⟨p1, p2, w, K1, K2, o1, o2, o3, o4, fun hw => ?_, fun hw => ⟨o6 hw, h.jd⟩⟩
  obtain ⟨s', k1⟩ := o5 hw
  have hgk : ∀ i, i < l.length → gkl l i < 135 := fun i hi => by
    obtain ⟨y, m, e⟩ := gkl_i hi
    rw [e]; exact (h.ha y m).2.2
  have hgt : ∀ i, i < l.length → kxt G (kdk (gkl l i)) (ixk (gkl l i)) := fun i hi => by
    obtain ⟨y, m, e⟩ := gkl_i hi
    obtain ⟨e1, e2⟩ := kyo_inv (h.ha y m).2.2
    rw [e, e1, e2]; exact h.ht y m
  have hA : KA (DG (gkl l) D G l.length) G := fun k hk hk2 => by
    obtain ⟨b1', b2, _⟩ := kdk_ok k hk
    obtain ⟨d1, d2⟩ := DG_kag (D := D) (H := G) (gk := gkl l) (gc := l.length) hgk hgt l.length (Nat.le_refl _) k hk
    by_cases v : ∃ i, i < l.length ∧ gkl l i = k
    · exact d1 v
    · exact kag_trans b1' b2 (d2 v) (h.ka k hk hk2 v)
  have hJ : Jd q (mxD (DG (gkl l) D G l.length) G) := by
    rcases h.md with v | v
    · have hg : mgk (gkl l) l.length := fun i hi => by
        obtain ⟨y, m, e⟩ := gkl_i hi
        rw [e, (kyo_inv (h.ha y m).2.2).1]
        exact v y m
      exact mx_Jd (KB_DG h.jd.kb h.kb l.length hg).1 (fun _ _ _ => rfl) h.kb h.pl h.pr h.ds h.tx h.dr
    · exact mx_Jd h.jd.kb (DG_nb l.length hgk (fun i hi => by
        obtain ⟨y, m, e⟩ := gkl_i hi
        rw [e, (kyo_inv (h.ha y m).2.2).1]
        exact v y m)) h.kb h.pl h.pr h.ds h.tx h.dr
  exact ⟨s', _, ⟨⟨⟨mx_S k1.ok h.ks.hb hA, k1.c, k1.r, k1.kc, k1.kr, k1.hb, k1.zv⟩, crc_y o3 h.cc, crr_y o4 h.cr⟩, LR_cr h.lr (crF_y o3) (crG_y o4), ⟨hJ, h.kb, h.pl, h.pr, h.ds, mx_KA, h.ci, h.nn⟩⟩⟩
/-- the plan of H anew -/
def kE (H : Kp) (t : Nat → Nat) : Kp := (fun f => if f = 0 then t else H.1 f, H.2.1, H.2.2)
theorem kE0 {t : Nat → Nat} : (kE H t).1 0 = t := rfl
theorem kE1 {t : Nat → Nat} : ∀ f, f ≠ 0 → (kE H t).1 f = H.1 f := fun f hf => if_neg hf
theorem merge_al (hB : B + 1 < 2 ^ 30) (h : Sm q B N1 b N2) : cp_111_0 v1 N1 b ∧ cp_467_0 v1 N2 ∧ cal q (B + 1) b N1 N2 (cf_111_0 v1 N1 b) (cf_467_0 v1 N2) := by
  obtain ⟨p1, c1⟩ := in_l 0 2 (by omega) (by omega) v1 (w0 := 0) (w := 2) (g0 := 0) (g := 2) rfl rfl rfl rfl
  have dk := desk_in (v := v1)
  rcases Sm_0 h with ⟨hu, u1, u2, F1, Ft, Ff, Fs, F3, F4⟩ | ⟨u1, u2, F1, Fd, F3, F4⟩
  · rcases c1 with ⟨d, _, hd', rfl, i1, j1⟩ | ⟨i1, j1⟩
    · rw [i1] at dk
      have dk' : cf_461_0 (nI d) = true := dk
      obtain ⟨p, C, s, D, H, x, L, R, h1, h2, h3, h4, h5, h6⟩ := id hu
      have hd : d < 3 := by omega
      have k2 : dkR N1 (mz_pI N2 232 0 0) d (H.1 0) (R.dr d) (R.bs d) := dk_of h3 h4 hd
      obtain ⟨a1, a2, n, hn, a3, a4⟩ := conf_n hd k2
      have g0 : (0 < nI n) = (0 < n) := propext (nI_gt0 (by omega))
      by_cases w : 0 < n
      · have w0 : (0 < n) = True := eq_true w
        have e1 : cf_111_0 (nI d) N1 b = (0, -(nI n), N1) := by simp only [cf_111_0, u2, i1, if_true, a3, g0, w0]
        have e2 : cf_467_0 (nI d) N2 = (-(nI n), mz_pI N2 232 0 0) := by simp only [cf_467_0, dk', Ft, Bool.false_eq_true, if_false, a4, g0, w0, if_true]
        refine ⟨by simp [cp_111_0, u1, u2, p1, i1, a1, a3, g0, w0], by simp [cp_467_0, dk', F1, Ft, a2, a4, g0, w0], ?_⟩
        rw [e1, e2]
        exact cal_m (Nat.le_refl _) (Nat.le_succ _) (cal_u code_0 rfl oF_code (Up_code hu))
      · have w0 : (0 < n) = False := eq_false w
        obtain ⟨t, ht⟩ : ∃ t, t = tri (H.1 0) (R.dr d) (R.bs d) := ⟨_, rfl⟩
        have t4 : ∀ i, i < 550 → t i < 4 := fun i hi => by rw [ht]; exact tri_4 k2 hi
        have tb : ∀ i, i < 550 → ge_sd (i % 110) < 4 → t i = 2 ∨ t i = 3 := fun i hi hs => by
          rw [ht, tri_e hi]; split
          · exact (h4.db d hd i hi).2.2 hs
          · exact h3.iv.pl.bd i hi hs
        have tE : ∀ i, 550 ≤ i → t i = H.1 0 i := fun i hi => by rw [ht]; exact if_neg (by omega)
        obtain ⟨b1', T, f, qq, b2, b3⟩ := tri_c hd k2
        have k3 : dkR N1 (mz_pI N2 232 0 0) d (H.1 0) (R.dr d) (R.bs d) := k2
        rw [← ht] at b2 b3
        have hT1 : fq [12, 13, 14] [] N1 (mz_sI (mz_sI (mz_sI N1 12 T) 13 f) 14 qq) := fq_sI (fq_sI (fq_sI (fq_refl _ _ _) rfl) rfl) rfl
        have hT12 : ∀ i, i < 550 → (mz_sI (mz_sI (mz_sI N1 12 T) 13 f) 14 qq).1 12 i = nI (t i) := fun i hi => by rw [sI_n (by decide), sI_n (by decide), sI_e]; exact b3 i hi
        generalize mz_sI (mz_sI (mz_sI N1 12 T) 13 f) 14 qq = T1 at b2 hT1 hT12
        have pn40 : pl_n t < 2 ^ 31 := by have := pl_n_le t; omega
        have g40 : ((40 : Int32) < nI (pl_n t)) = (40 < pl_n t) := propext (nI_ltI (a := 40) (by omega) pn40)
        have tDn : ∀ K, trM (mz_pI N2 232 0 0) K t → (∀ c, c = 239 ∨ c = 240 ∨ c = 241 ∨ c = 242 ∨ c = 243 → K.1 c = N2.1 c) ∧ (∀ i, i < 550 → K.1 233 i = nI (H.1 0 i) ∧ H.1 0 i < 4) := fun K hK => ⟨fun c hc => by
          rw [hK.f.1 c (by rcases hc with y | y | y | y | y <;> rw [y] <;> rfl)]
          rcases hc with y | y | y | y | y <;> rw [y] <;> rfl, fun i hi => ⟨by rw [hK.o i (by omega)]; exact h3.cs.ks.kr.1 i hi, h3.iv.pl.e4 i hi⟩⟩
        by_cases w40 : 40 < pl_n t
        · have w40' : (40 < pl_n t) = True := eq_true w40
          obtain ⟨m1, K, m2, m3⟩ := tri_r hd k2 (fun K hK => by
            rw [← ht] at hK
            rw [hK.n, g40]
            refine ⟨fun _ => (r_relay (K := K) h3.iv.pl.n h3.lr.pl.2 (tDn K hK).1 (tDn K hK).2).1, fun y => absurd w40 y⟩)
          rw [← ht] at m2
          rw [m2.n, if_pos (by rw [g40]; exact w40)] at m3
          obtain ⟨r1, r2, r3, r4⟩ := r_relay (K := K) h3.iv.pl.n h3.lr.pl.2 (tDn K m2).1 (tDn K m2).2
          have e1 : cf_111_0 (nI d) N1 b = (0, -1002, T1) := by simp only [cf_111_0, u2, i1, if_true, a3, g0, w0, if_false, b2, g40, w40']
          have e2 : cf_467_0 (nI d) N2 = (-1002, cf_428_0 0 K) := by simp only [cf_467_0, dk', Ft, Bool.false_eq_true, if_false, a4, g0, w0, m3]
          refine ⟨by simp [cp_111_0, u1, u2, p1, i1, a1, a3, g0, w0, b1', b2, g40, w40'], by simp [cp_467_0, dk', F1, Ft, a2, a4, g0, w0, m1], ?_⟩
          rw [e1, e2]
          have f2 : fq [232, 233, 235, 236, 237, 238] [] N2 (cf_428_0 0 K) := fq_trans (M := K) (fq_trans (M := mz_pI N2 232 0 0) (fq_pI (fq_refl _ _ _) rfl) (fq_fr m2.f)) (fq_sub (fq_fr r2) rfl rfl)
          have i2 : ∀ z, z ≠ 0 → z ≠ 7 → (cf_428_0 0 K).1 232 z = N2.1 232 z := fun z h0 h7 => by rw [r3 z h7, m2.i z h7, pI_s, sI_e, up_a, if_neg h0]
          have h0 : (cf_428_0 0 K).1 232 0 = 0 := by rw [r3 0 (by decide), m2.i 0 (by decide)]; exact code_0
          have o233 : ∀ j, j < 3850 → (cf_428_0 0 K).1 233 j = N2.1 233 j := fun j hj => by rw [r2.1 233 rfl, m2.o j hj]; rfl
          generalize cf_428_0 0 K = M2 at f2 i2 h0 o233 r4
          have mr : MR p C s D H x L T1 b M2 := ⟨⟨KS_B h3.cs.ks (stK_of hT1 f2 rfl rfl (fun f hf => i2 f (by omega) (by omega)) (by rw [f2.2 232 rfl])) rfl (ckp_q h3.cs.ks.kc hT1 rfl rfl) (rkp_1 h3.cs.ks.kr f2 rfl rfl (i2 27 (by decide) (by decide)) (i2 21 (by decide) (by decide)) (fun f _ => by rw [f2.2 232 rfl]) (fun _ _ => rfl) (fun _ => rfl) (fun _ => rfl) (fun j hj => by rw [o233 j (by omega)]; exact h3.cs.ks.kr.1 j hj)), crC_f h3.cs.cc hT1 rfl rfl, crR_f h3.cs.cr f2 rfl rfl (i2 96 (by decide) (by decide)) (by rw [f2.2 232 rfl]) rfl⟩, LR_p h3.lr ⟨pl_cg (fun c hc => hT1.1 c (ct_nt (A := [12, 13, 14]) (X := plA) rfl hc)) h3.lr.pl.1, r4⟩ hT1 f2 rfl rfl rfl rfl (fun f hf => i2 f (by omega) (by omega)) (fun f _ => by rw [f2.2 232 rfl]), h3.iv⟩
          have d1 : ∀ u, u < 3 → T1.1 (5 + u) = N1.1 (5 + u) ∧ T1.1 (9 + u) = N1.1 (9 + u) := fun u hu' => by
            rcases (show u = 0 ∨ u = 1 ∨ u = 2 by omega) with w | w | w <;> subst w <;> exact ⟨hT1.1 _ rfl, hT1.1 _ rfl⟩
          exact cal_m (Nat.le_refl _) (Nat.le_succ _) (cal_u h0 rfl (oF_q hT1 f2 rfl rfl rfl rfl) ⟨p, C, s, D, H, x, L, _, h1, h2, mr, RsR_e (dr := R.dr) (bs := R.bs) (ve := R.ve) h4 (rsE_q hT1 f2 rfl rfl rfl (fun f hf => i2 f (rsJ_ne hf rfl) (rsJ_ne hf rfl))) (fun u hu' i hi => by rw [(d1 u hu').1, (d1 u hu').2]; exact h4.dc u hu' i hi) (fun u hu' i hi => by rw [o233 _ (by omega), o233 _ (by omega)]; exact h4.rd u hu' i hi) h4.db ⟨by rw [hT1.1 2 rfl]; exact h4.ve.1, by rw [i2 4 (by decide) (by decide)]; exact h4.ve.2⟩ (fun _ _ z => z) rfl rfl rfl h4.pn, h5, h6⟩)
        · have w40' : (40 < pl_n t) = False := eq_false w40
          have hn40 : pl_n t ≤ 40 := by omega
          obtain ⟨l1, l2, l3, l4⟩ := mkl_ok (E := H.1 0) (t := t) 5 (Nat.le_refl _)
          have hb4 : ∀ i, i < 550 → t i < 4 ∧ H.1 0 i < 4 := fun i hi => ⟨t4 i hi, h3.iv.pl.e4 i hi⟩
          have hfb : ∀ c, H.1 1 c < 16 := h3.cs.ks.hb.2.1
          obtain ⟨j1', j2, j3⟩ := gjc_ok (N := T1) l1 (by omega)
          obtain ⟨ac1, ac2, ac3, ac4, ac5, ac6⟩ := acc_c (M := gjc T1 (mkl (H.1 0) t 5)) (fl := H.1 1) hd hn40 (fun i hi => by rw [j2.1 12 rfl]; exact hT12 i hi) t4 (fun c hc => ⟨by rw [j2.1 37 rfl, hT1.1 37 rfl]; exact h3.cs.ks.kc.2.1 c hc, hfb c⟩)
          have f1 : fq ([12, 13, 14, 219, 226] ++ acA) [] N1 (cf_120_0 (nI d) (gjc T1 (mkl (H.1 0) t 5))) := fq_trans (fq_sub hT1 rfl rfl) (fq_trans (M := gjc T1 (mkl (H.1 0) t 5)) (fq_sub (fq_fr j2) rfl rfl) (fq_sub ac2 rfl rfl))
          have q219 : ∀ f, f ≠ 11 → (cf_120_0 (nI d) (gjc T1 (mkl (H.1 0) t 5))).1 219 f = N1.1 219 f := fun f hf => by rw [ac2.1 219 rfl, j3 f hf, hT1.1 219 rfl]
          have gc : gr_c (cf_120_0 (nI d) (gjc T1 (mkl (H.1 0) t 5))) (gkl (mkl (H.1 0) t 5)) (mkl (H.1 0) t 5).length := by
            unfold gr_c; rw [ac2.1 219 rfl, ac2.1 226 rfl]; exact j1'
          have ver : (cf_120_0 (nI d) (gjc T1 (mkl (H.1 0) t 5))).1 2 3 = R.ve + 1 := by rw [ac5, j2.1 2 rfl, hT1.1 2 rfl, h4.ve.1]
          have dcA : ∀ u, u < 3 → ∀ i, i < 550 → (cf_120_0 (nI d) (gjc T1 (mkl (H.1 0) t 5))).1 (5 + u) i = nI ((if u = d then t else R.dr u) i) ∧ (cf_120_0 (nI d) (gjc T1 (mkl (H.1 0) t 5))).1 (9 + u) i = nI ((if u = d then t else R.bs u) i) := fun u hu' i hi => by
            rw [(ac4 u hu' i hi).1, (ac4 u hu' i hi).2]
            have y : (gjc T1 (mkl (H.1 0) t 5)).1 (5 + u) = N1.1 (5 + u) ∧ (gjc T1 (mkl (H.1 0) t 5)).1 (9 + u) = N1.1 (9 + u) := by
              rcases (show u = 0 ∨ u = 1 ∨ u = 2 by omega) with w | w | w <;> subst w <;> exact ⟨(j2.1 _ rfl).trans (hT1.1 _ rfl), (j2.1 _ rfl).trans (hT1.1 _ rfl)⟩
            by_cases z : u = d
            · rw [if_pos z, if_pos z, if_pos z, if_pos z]; exact ⟨rfl, rfl⟩
            · rw [if_neg z, if_neg z, if_neg z, if_neg z, y.1, y.2]; exact h4.dc u hu' i hi
          -- the reference, for any memory that holds the trial
          have hR : ∀ K, trM (mz_pI N2 232 0 0) K t → ∃ A2, acp d (gjr K (mkl (H.1 0) t 5)) ∧ acr d (gjr K (mkl (H.1 0) t 5)) = A2 ∧ fq ([333] ++ (233 :: rl_A)) [] N2 A2 ∧ (∀ f, f ≠ 0 → f ≠ 4 → f ≠ 7 → f ≠ 139 → A2.1 232 f = N2.1 232 f) ∧ A2.1 232 0 = 0 ∧ A2.1 232 4 = R.ve + 1 ∧ gr_r A2 (gkl (mkl (H.1 0) t 5)) (mkl (H.1 0) t 5).length ∧ (∀ i, i < 550 → A2.1 233 i = nI (t i)) ∧ (∀ u, u < 3 → ∀ i, i < 550 → A2.1 233 (550 * (1 + u) + i) = nI ((if u = d then t else R.dr u) i) ∧ A2.1 233 (550 * (4 + u) + i) = nI ((if u = d then t else R.bs u) i)) ∧ r_pl t (H.1 1) A2 := fun K hK => by
            obtain ⟨n1, n2, n3⟩ := gjr_ok (N := K) l1 (by omega)
            obtain ⟨s1, s2, s3, s4, s5, s6, s7⟩ := acc_r (M := gjr K (mkl (H.1 0) t 5)) (fl := H.1 1) hd hn40 (fun i hi => by rw [n2.1 233 rfl]; exact hK.t i hi) t4 tb (fun c hc => ⟨by rw [n2.1 234 rfl, hK.f.1 234 rfl]; exact h3.cs.ks.kr.2.1 c hc, hfb c⟩)
            have i2 : ∀ f, f ≠ 0 → f ≠ 4 → f ≠ 7 → f ≠ 139 → (acr d (gjr K (mkl (H.1 0) t 5))).1 232 f = N2.1 232 f := fun f h0 h4 h7 h9 => by rw [s6 f h4 h7, n3 f h9, hK.i f h7, pI_s, sI_e, up_a, if_neg h0]
            refine ⟨_, s1, rfl, fq_trans (M := mz_pI N2 232 0 0) (fq_pI (fq_refl _ _ _) rfl) (fq_trans (M := K) (fq_sub (fq_fr hK.f) rfl rfl) (fq_trans (M := gjr K (mkl (H.1 0) t 5)) (fq_sub (fq_fr n2) rfl rfl) (fq_sub s2 rfl rfl))), i2, ?_, ?_, ?_, s3, fun u hu' i hi => ?_, s7⟩
            · rw [s6 0 (by decide) (by decide), n3 0 (by decide), hK.i 0 (by decide)]; exact code_0
            · rw [s5, n3 4 (by decide), hK.i 4 (by decide)]
              show N2.1 232 4 + 1 = _
              rw [h4.ve.2]
            · unfold gr_r; rw [s6 139 (by decide) (by decide), s2.1 333 rfl]; exact n1
            · rw [(s4 u hu' i hi).1, (s4 u hu' i hi).2, n2.1 233 rfl, hK.o _ (by omega), hK.o _ (by omega)]
              by_cases z : u = d
              · rw [if_pos z, if_pos z, if_pos z, if_pos z]; exact ⟨rfl, rfl⟩
              · rw [if_neg z, if_neg z, if_neg z, if_neg z]; exact h4.rd u hu' i hi
          generalize hA1 : cf_120_0 (nI d) (gjc T1 (mkl (H.1 0) t 5)) = A1 at ac3 ac6 f1 q219 gc ver dcA
          have hbG : kpb (kE H t) := by
            obtain ⟨y0, y1⟩ := h3.cs.ks.hb
            refine ⟨fun j => ?_, y1⟩
            show t j < 4
            by_cases z : j < 550
            · exact t4 j z
            · rw [tE j (by omega)]; exact y0 j
          have dbA : ∀ u, u < 3 → ∀ i, i < 550 → (if u = d then t else R.dr u) i < 4 ∧ (if u = d then t else R.bs u) i < 4 ∧ (ge_sd (i % 110) < 4 → (if u = d then t else R.dr u) i = 2 ∨ (if u = d then t else R.dr u) i = 3) := fun u hu' i hi => by
            by_cases z : u = d
            · rw [if_pos z, if_pos z]; exact ⟨t4 i hi, t4 i hi, tb i hi⟩
            · rw [if_neg z, if_neg z]; exact h4.db u hu' i hi
          -- both write
          have hW : ∀ A2, fq ([333] ++ (233 :: rl_A)) [] N2 A2 → (∀ f, f ≠ 0 → f ≠ 4 → f ≠ 7 → f ≠ 139 → A2.1 232 f = N2.1 232 f) → A2.1 232 4 = R.ve + 1 → (∀ i, i < 550 → A2.1 233 i = nI (t i)) → (∀ u, u < 3 → ∀ i, i < 550 → A2.1 233 (550 * (1 + u) + i) = nI ((if u = d then t else R.dr u) i) ∧ A2.1 233 (550 * (4 + u) + i) = nI ((if u = d then t else R.bs u) i)) → r_pl t (H.1 1) A2 → pW p C s D (kE H t) x L A1 b A2 (mkl (H.1 0) t 5) ∧ RsR (kE H t) L (fun u => if u = d then t else R.dr u, fun u => if u = d then t else R.bs u, R.ve + 1, R.tl, R.tx, R.wr, R.wh, R.lg, R.tn, R.ta, R.rn, R.ra) A1 A2 ∧ oF N1 N2 A1 A2 := fun A2 f2 i2 z4 z233 zd zp => by
            have hk := h3.cs.ks
            refine ⟨⟨⟨hk.ok, st_cF hk.c (f1.1 221 rfl) (f1.1 222 rfl) (f1.1 223 rfl) (f1.1 224 rfl) (fun f g1 g2 => q219 f (by omega)), st_rF hk.r (f2.1 329 rfl) (f2.1 330 rfl) (f2.1 331 rfl) (fun f hf => i2 f (by omega) (by omega) (by omega) (by omega)) (by rw [f2.2 232 rfl]), ckp_1 hk.kc f1 rfl rfl kE1 (fun _ => rfl) (fun _ => rfl) ac3, rkp_1 hk.kr f2 rfl rfl (i2 27 (by decide) (by decide) (by decide) (by decide)) (i2 21 (by decide) (by decide) (by decide) (by decide)) (fun f _ => by rw [f2.2 232 rfl]) kE1 (fun _ => rfl) (fun _ => rfl) z233, hbG, zv_f hk.zv (f1.1 134 rfl)⟩, crC_f h3.cs.cc f1 rfl rfl, crR_f h3.cs.cr f2 rfl rfl (i2 96 (by decide) (by decide) (by decide) (by decide)) (by rw [f2.2 232 rfl]) rfl, LR_p h3.lr ⟨ac6, zp⟩ f1 f2 rfl rfl rfl rfl (fun f hf => i2 f (by omega) (by omega) (by omega) (by omega)) (fun f _ => by rw [f2.2 232 rfl]), h3.iv.jd, h3.iv.kb, ⟨hn40, t4, tb, h3.iv.pl.fl⟩, h3.iv.pr, h3.iv.ds, by have y : txo H := MR_tx h3; unfold txo at y ⊢; exact y, fun j hj z => MR_dr h3 j hj z, fun k hk hk2 hno => ?_, h3.iv.ci, h3.iv.nn, l1, by omega, fun k hk => kxt_n (by rw [(l3 k hk).1]; omega), fun k hk => kpl_n (by rw [(l3 k hk).1]; omega) (by rw [(l3 k hk).1]; omega) (by rw [(l3 k hk).1]; omega), gtx_n l1 (fun k hk => by rw [(l3 k hk).1]; omega), Or.inr (fun k hk => by rw [(l3 k hk).1]; omega)⟩, RsR_e h4 (rsE_q f1 f2 rfl rfl rfl (fun f hf => i2 f (rsJ_ne hf rfl) (rsJ_ne hf rfl) (rsJ_ne hf rfl) (rsJ_ne hf rfl))) dcA zd dbA ⟨ver, z4⟩ (fun _ _ z => z) rfl rfl rfl h4.pn, oF_q f1 f2 rfl rfl rfl rfl⟩
            obtain ⟨b1', b2, _⟩ := kdk_ok k hk
            refine kag_trans b1' b2 (h3.iv.ka k hk hk2) (kgo_l (kd0 := 1) (p := fun jx => jx < 5 ∧ dfn (H.1 0) t jx 110 = true) (l := mkl (H.1 0) t 5) (kgn_1 kE1 (fun _ => rfl)) (fun jx hj => l4 jx hj.1 hj.2) (fun jx hj => ?_) k hk hk2 hno)
            show ∀ j, 110 * jx ≤ j → j < 110 * jx + 110 → H.1 0 j = t j
            intro j y1 y2
            by_cases y5 : jx < 5
            · have y6 : dfn (H.1 0) t jx 110 = false := by
                cases y7 : dfn (H.1 0) t jx 110 with
                | true => exact absurd ⟨y5, y7⟩ hj
                | false => rfl
              have := dfn_f 110 y6 (j - 110 * jx) (by omega)
              rw [show 110 * jx + (j - 110 * jx) = j by omega] at this
              exact this.symm
            · exact (tE j (by omega)).symm
          obtain ⟨m1, K, m2, m3⟩ := tri_r hd k2 (fun K hK => by
            rw [← ht] at hK
            rw [hK.n, g40]
            refine ⟨fun y => absurd y w40, fun _ => ?_⟩
            obtain ⟨A2, t1, t2, t3, t4', t5, t6, t7, t8, t9, t10⟩ := hR K hK
            obtain ⟨W, rs, O⟩ := hW A2 t3 t4' t6 t8 t9 t10
            obtain ⟨o1, o2, w', K1, K2, o3, o4, _⟩ := wr_MR2 (show C + 1 < 2 ^ 30 by omega) W gc t7
            exact (key_r (M := K) (E := H.1 0) (t := t) hK.t (fun i hi => ((tDn K hK).2 i hi).1) hb4 ⟨t1, by rw [t2]; exact o2⟩ (w := w') (W := K2) (by rw [t2]; exact o4)).1)
          rw [← ht] at m2
          rw [m2.n, if_neg (by rw [g40]; exact w40)] at m3
          obtain ⟨A2, t1, t2, t3, t4', t5, t6, t7, t8, t9, t10⟩ := hR K m2
          obtain ⟨W, rs, O⟩ := hW A2 t3 t4' t6 t8 t9 t10
          obtain ⟨o1, o2, w', K1, K2, o3, o4, o5, o6, o7, o8⟩ := wr_MR2 (show C + 1 < 2 ^ 30 by omega) W gc t7
          obtain ⟨_, kr2⟩ := key_r (M := K) (E := H.1 0) (t := t) (d := d) m2.t (fun i hi => ((tDn K m2).2 i hi).1) hb4 ⟨t1, by rw [t2]; exact o2⟩ (w := w') (W := K2) (by rw [t2]; exact o4)
          obtain ⟨kc1, kc2⟩ := key_c (M := T1) (E := H.1 0) (t := t) (d := d) (b := b) hT12 (fun i hi => by rw [hT1.1 3 rfl]; exact h3.cs.ks.kc.1 i hi) hb4 ⟨ac1, by rw [hA1]; exact o1⟩ (w := w') (W := K1) (by rw [hA1]; exact o3)
          have e1 : cf_111_0 (nI d) N1 b = (0, (if w' = true then K1.1 2 3 else -1001), K1) := by simp only [cf_111_0, u2, i1, if_true, a3, g0, w0, if_false, b2, g40, w40', kc2]
          have e2 : cf_467_0 (nI d) N2 = ((if w' = true then K2.1 232 4 else -1001), K2) := by simp only [cf_467_0, dk', Ft, Bool.false_eq_true, if_false, a4, g0, w0, m3, kr2]
          refine ⟨by simp [cp_111_0, u1, u2, p1, i1, a1, a3, g0, w0, b1', b2, g40, w40', kc1], by simp [cp_467_0, dk', F1, Ft, a2, a4, g0, w0, m1], ?_⟩
          rw [e1, e2]
          have ev : K1.1 2 3 = K2.1 232 4 := by rw [o5.1 2 rfl, o6.2.1 4 (by decide) (by decide) (by decide) (by decide) (by decide), ver, t6]
          exact grp_al (R := (fun u => if u = d then t else R.dr u, fun u => if u = d then t else R.bs u, R.ve + 1, R.tl, R.tx, R.wr, R.wh, R.lg, R.tn, R.ta, R.rn, R.ra)) h6 h1 (B' := B + 1) (by omega) h5 W.lr rs O t5 o5 o6 o7 o8 (by rw [ev])
    · rw [i1] at dk
      have dk' : cf_461_0 v1 = false := dk
      exact ⟨by simp [cp_111_0, u1, u2, p1, i1], by simp [cp_467_0, dk', F1, Ff], cal_m (Nat.le_refl _) (Nat.le_succ _) (Sm_r (a := 0) (a' := 0) h (Or.inl rfl) (by simp [cf_111_0, u2, i1]) (by simp [cf_467_0, dk', Ff]))⟩
  · exact ⟨by simp [cp_111_0, u1, u2], by simp [cp_467_0, F1, Fd], cal_m (Nat.le_refl _) (Nat.le_succ _) (Sm_r (a := 0) (a' := 0) h (Or.inr rfl) (by simp [cf_111_0, u2]) (by simp [cf_467_0, Fd]))⟩
end Mg
