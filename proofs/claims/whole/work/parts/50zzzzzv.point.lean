/-! PURE (50zzzzzv): point. -/
def kPt (H : Kp) (k a c : Nat) : Kp := (fun f => if f = 19 then up (H.1 19) k 1 else if f = 20 then up (H.1 20) k a else if f = 21 then up (H.1 21) k c else H.1 f, H.2.1, H.2.2)
section Po
variable {N N1 N2 M1 M2 : mz_N} {b : Bool} {B q : Nat} {s : st_S} {D H G : Kp} {x : CrS} {L L' : LvS} {R : RsS} {v v1 v2 v3 : Int32} {l : List (Nat × Nat)}
theorem i466 {hi : Nat} {g : Int64} (hh : hi + 1 < 2 ^ 31) (hg : g = (nI hi).toInt64) : cf_466_0 v.toInt64 0 g = (if v < 0 then false else (if v < nI (hi + 1) then true else false)) := by
  obtain ⟨p1, c1⟩ := in_l 0 hi (by omega) (by omega) v (w0 := 0) (w := nI hi) (g0 := 0) (g := g) rfl rfl rfl hg
  rw [← i105 hh]
  rcases c1 with ⟨k, _, _, _, e1, e2⟩ | ⟨e1, e2⟩
  · rw [e1, e2]; rfl
  · rw [e1, e2]; rfl
theorem v_le {a : Nat} (ha : a + 1 < 2 ^ 31) : (nI a < v) = ¬ (v < nI (a + 1)) := by
  rw [Int32.lt_iff_toInt_lt, Int32.lt_iff_toInt_lt, nI_toInt (by omega), nI_toInt (by omega)]
  exact propext ⟨fun h => by omega, fun h => by omega⟩
theorem v_0 : (if v < 0 then false else if v < nI 1 then true else false) = (if v < 0 then false else if v = 0 then true else false) := by
  by_cases a : v < 0
  · rw [if_pos a, if_pos a]
  · rw [if_neg a, if_neg a]
    by_cases c : v = 0
    · rw [if_pos c, if_pos (by rw [c]; decide)]
    · rw [if_neg c, if_neg (fun z => c ?_)]
      rw [Int32.lt_iff_toInt_lt] at a z
      have t0 : (0 : Int32).toInt = 0 := rfl
      rw [nI_toInt (by omega)] at z
      rw [t0] at a
      apply Int32.toInt_inj.mp
      rw [t0]; omega
theorem pt_in : cp_558_0 v2 v3 ∧ cf_324_0 v2 v3 = cf_558_0 v2 v3 ∧ (cf_558_0 v2 v3 = true → ∃ a c, a ≤ 6 ∧ c ≤ 10 ∧ v2 = nI a ∧ v3 = nI c ∧ (a < 2 → c < 10) ∧ (2 < a → c = 0)) := by
  have T : cp_558_0 v2 v3 := ⟨fun _ => ⟨fun _ => trivial, fun _ => ⟨fun _ => trivial, fun _ => trivial⟩⟩, fun _ => trivial⟩
  have tt : ∀ y : Bool, (if y = true then true else false) = y := fun y => by cases y <;> rfl
  have E9 := i466 (v := v3) (hi := 9) (g := 9) (by omega) rfl
  have E10 := i466 (v := v3) (hi := 10) (g := 10) (by omega) rfl
  have E0 := i466 (v := v3) (hi := 0) (g := 0) (by omega) rfl
  have E6 := i466 (v := v2) (hi := 6) (g := 6) (by omega) rfl
  have V6 : ((6 : Int32) < v2) = ¬ v2 < nI 7 := v_le (a := 6) (by omega)
  have K : ∀ hi g, hi ≤ 10 → g = (nI hi).toInt64 → cf_466_0 v3.toInt64 0 g = true → ∃ c, c ≤ hi ∧ v3 = nI c := fun hi g h1 h2 h3 => by
    obtain ⟨p1, c1⟩ := in_l 0 hi (by omega) (by omega) v3 (w0 := 0) (w := nI hi) (g0 := 0) (g := g) rfl rfl rfl h2
    rcases c1 with ⟨k, _, h, e, _⟩ | ⟨_, e2⟩
    · exact ⟨k, by omega, e⟩
    · rw [h3] at e2; cases e2
  refine ⟨T, ?_, fun h => ?_⟩
  · rw [cf_324_0, cf_558_0, cf_558_38, cf_558_38, cf_558_38, tt, tt, tt, E9, E10, E0, E6, v_0]
    simp only [V6]
    by_cases a : v2 < 0
    · simp [a]
    · by_cases c : v2 < nI 7
      · have l10 : (v3 < nI (9 + 1)) = (v3 < 10) := rfl
        have l11 : (v3 < nI (10 + 1)) = (v3 < 11) := rfl
        have c' : v2 < nI (6 + 1) := c
        rw [if_neg a, if_neg (fun z => z c), if_neg a, if_pos c', if_pos rfl]
        by_cases n : v3 < 0
        · simp only [if_pos n]; split
          · rfl
          · split <;> rfl
        · simp only [if_neg n]; exact rfl
      · have c' : ¬ v2 < nI (6 + 1) := c
        rw [if_neg a, if_pos c, if_neg a, if_neg c', if_neg (fun z => by cases z)]
  · rw [cf_558_0, cf_558_38, cf_558_38, cf_558_38, tt, tt, tt] at h
    obtain ⟨p1, c1⟩ := in_l 0 6 (by omega) (by omega) v2 (w0 := 0) (w := 6) (g0 := 0) (g := 6) rfl rfl rfl rfl
    rcases c1 with ⟨a, _, ha, e, _, e1⟩ | ⟨_, e2⟩
    · rw [if_pos e1] at h
      have l2 : (v2 < 2) = (a < 2) := by rw [e]; exact propext (nI_ltI (b := 2) (by omega) (by omega))
      have q2 : (v2 = 2) = (a = 2) := by rw [e]; exact propext (nI_eq (b := 2) (by omega) (by omega))
      by_cases y : a < 2
      · rw [if_pos (by rw [l2]; exact y)] at h
        obtain ⟨c, hc, ec⟩ := K 9 9 (by omega) rfl h
        exact ⟨a, c, ha, by omega, e, ec, by omega, by omega⟩
      · rw [if_neg (by rw [l2]; exact y)] at h
        by_cases y2 : a = 2
        · rw [if_pos (by rw [q2]; exact y2)] at h
          obtain ⟨c, hc, ec⟩ := K 10 10 (by omega) rfl h
          exact ⟨a, c, ha, by omega, e, ec, by omega, by omega⟩
        · rw [if_neg (by rw [q2]; exact y2)] at h
          obtain ⟨c, hc, ec⟩ := K 0 0 (by omega) rfl h
          exact ⟨a, c, ha, by omega, e, ec, by omega, by omega⟩
    · rw [e2, if_neg (fun z => by cases z)] at h; cases h
theorem point_al (hB : B + 1 < 2 ^ 30) (h : Sm q B N1 b N2) : cp_323_0 v1 v2 v3 N1 b ∧ cp_557_0 v1 v2 v3 N2 ∧ cal q (B + 1) b N1 N2 (cf_323_0 v1 v2 v3 N1 b) (cf_557_0 v1 v2 v3 N2) := by
  obtain ⟨p1, c1⟩ := in_l 0 7 (by omega) (by omega) v1 (w0 := 0) (w := 7) (g0 := 0) (g := 7) rfl rfl rfl rfl
  obtain ⟨p2, e2, c2⟩ := pt_in (v2 := v2) (v3 := v3)
  rcases Sm_0 h with ⟨hu, u1, u2, F1, Ft, Ff, Fs, F3, F4⟩ | ⟨u1, u2, F1, Fd, F3, F4⟩
  · rcases c1 with ⟨k, _, hk, rfl, i1, j1⟩ | ⟨i1, j1⟩
    · cases w : cf_558_0 v2 v3 with
      | true =>
        obtain ⟨a, c, ha, hc, rfl, rfl, hac, hac2⟩ := c2 w
        rw [w] at e2
        obtain ⟨p, C, s, D, H, x, L, R, h1, h2, h3, h4, h5, h6⟩ := id hu
        have ib : mz_ib (nI k) 8 := ib_n (by omega) (by omega)
        generalize hM1 : cf_72_0 (nI k) (nI a) (nI c) N1 = M1
        generalize hM2 : mz_wI (mz_wI (mz_wI (mz_wI (mz_pI N2 232 0 0) 282 (nI k) (mz_b01 true)) 283 (nI k) (nI a)) 284 (nI k) (nI c)) 285 (nI k) 0 = M2
        have f1 : fq [87, 88, 89, 99] [] N1 M1 := by rw [← hM1, cf_72_0]; exact fq_wI (fq_wI (fq_wI (fq_wI (fq_refl _ _ _) rfl) rfl) rfl) rfl
        have f2 : fq [232, 282, 283, 284, 285] [] N2 M2 := by rw [← hM2]; exact fq_wI (fq_wI (fq_wI (fq_wI (fq_pI (fq_refl _ _ _) rfl) rfl) rfl) rfl) rfl
        have i232 : ∀ f, f ≠ 0 → M2.1 232 f = N2.1 232 f := fun f g0 => by rw [← hM2, wI_ne (by decide), wI_ne (by decide), wI_ne (by decide), wI_ne (by decide), pI_s, sI_e, up_a, if_neg g0]
        have h0 : M2.1 232 0 = 0 := by rw [← hM2, wI_ne (by decide), wI_ne (by decide), wI_ne (by decide), wI_ne (by decide)]; exact code_0
        have m87 : ∀ j, M1.1 87 j = if j = k then 1 else N1.1 87 j := fun j => by rw [← hM1, cf_72_0, wI_ne (by decide), wI_ne (by decide), wI_ne (by decide), wI_at (by omega)]
        have m88 : ∀ j, M1.1 88 j = if j = k then nI a else N1.1 88 j := fun j => by rw [← hM1, cf_72_0, wI_ne (by decide), wI_ne (by decide), wI_at (by omega), wI_ne (by decide)]
        have m89 : ∀ j, M1.1 89 j = if j = k then nI c else N1.1 89 j := fun j => by rw [← hM1, cf_72_0, wI_ne (by decide), wI_at (by omega), wI_ne (by decide), wI_ne (by decide)]
        have m99 : ∀ j, M1.1 99 j = if j = k then 0 else N1.1 99 j := fun j => by rw [← hM1, cf_72_0, wI_at (by omega), wI_ne (by decide), wI_ne (by decide), wI_ne (by decide)]
        have m282 : ∀ j, M2.1 282 j = if j = k then 1 else N2.1 282 j := fun j => by rw [← hM2, wI_ne (by decide), wI_ne (by decide), wI_ne (by decide), wI_at (by omega)]; rfl
        have m283 : ∀ j, M2.1 283 j = if j = k then nI a else N2.1 283 j := fun j => by rw [← hM2, wI_ne (by decide), wI_ne (by decide), wI_at (by omega), wI_ne (by decide)]; rfl
        have m284 : ∀ j, M2.1 284 j = if j = k then nI c else N2.1 284 j := fun j => by rw [← hM2, wI_ne (by decide), wI_at (by omega), wI_ne (by decide), wI_ne (by decide)]; rfl
        have m285 : ∀ j, M2.1 285 j = if j = k then 0 else N2.1 285 j := fun j => by rw [← hM2, wI_at (by omega), wI_ne (by decide), wI_ne (by decide), wI_ne (by decide)]; rfl
        have kc15 := h3.cs.ks.kc.2.2.2.2.2.2.2.2.2.2.2.2.2.2.2.2
        have kr15 := h3.cs.ks.kr.2.2.2.2.2.2.2.2.2.2.2.2.2.2.2.2
        have gc : c_kp M1 b (kPt H k a c) := ckp_15 h3.cs.ks.kc f1 rfl rfl (fun f a1 a2 a3 => by show (if f = 19 then _ else _) = _; rw [if_neg a1, if_neg a2, if_neg a3]) (fun _ => rfl) (fun _ => rfl) (fun j hj => by
          show M1.1 87 j = nI (up (H.1 19) k 1 j) ∧ (up (H.1 19) k 1 j = 1 → M1.1 88 j = nI (up (H.1 20) k a j) ∧ M1.1 89 j = nI (up (H.1 21) k c j))
          rw [m87, m88, m89, up_d, up_d, up_d]
          by_cases z : j = k
          · rw [if_pos z, if_pos z, if_pos z, if_pos z, if_pos z, if_pos z]; exact ⟨rfl, fun _ => ⟨rfl, rfl⟩⟩
          · rw [if_neg z, if_neg z, if_neg z, if_neg z, if_neg z, if_neg z]; exact kc15 j hj)
        have gr : r_kp M2 (kPt H k a c) := rkp_15 h3.cs.ks.kr f2 rfl rfl (i232 27 (by decide)) (i232 21 (by decide)) (fun f _ => by rw [f2.2 232 rfl]) (fun f a1 a2 a3 => by show (if f = 19 then _ else _) = _; rw [if_neg a1, if_neg a2, if_neg a3]) (fun _ => rfl) (fun _ => rfl) (fun j hj => by
          show M2.1 282 j = nI (up (H.1 19) k 1 j) ∧ (up (H.1 19) k 1 j = 1 → M2.1 283 j = nI (up (H.1 20) k a j) ∧ M2.1 284 j = nI (up (H.1 21) k c j))
          rw [m282, m283, m284, up_d, up_d, up_d]
          by_cases z : j = k
          · rw [if_pos z, if_pos z, if_pos z, if_pos z, if_pos z, if_pos z]; exact ⟨rfl, fun _ => ⟨rfl, rfl⟩⟩
          · rw [if_neg z, if_neg z, if_neg z, if_neg z, if_neg z, if_neg z]; exact kr15 j hj)
        have hb : kpb (kPt H k a c) := by
          obtain ⟨y0, y1, y2, y3, y5, y4, yt4, y6, y7, y8, y9, y12, y13, y15, y16, y19, y20⟩ := h3.cs.ks.hb
          refine ⟨y0, y1, y2, y3, y5, y4, yt4, y6, y7, y8, y9, y12, y13, y15, y16, fun j => ?_, fun j => ?_⟩
          · show up (H.1 19) k 1 j ≤ 1
            rw [up_d]; split
            · omega
            · exact y19 j
          · show up (H.1 20) k a j < 256 ∧ up (H.1 21) k c j < 256
            rw [up_d, up_d]
            by_cases z : j = k
            · rw [if_pos z, if_pos z]; omega
            · rw [if_neg z, if_neg z]; exact y20 j
        have hK : KB p (kPt H k a c) := by
          obtain ⟨d1, d2, d3, d4, d5, d6, d7, d8, d9, d10, d11, d12, d13, d14, d15, d16, d17⟩ := h3.iv.kb
          refine ⟨d1, d2, d3, d4, d5, d6, d7, d8, d9, d10, d11, d12, d13, fun j hj => ?_, d15, d16, d17⟩
          show up (H.1 19) k 1 j = 1 → ptok (up (H.1 20) k a j) (up (H.1 21) k c j)
          rw [up_d, up_d, up_d]
          by_cases z : j = k
          · rw [if_pos z, if_pos z, if_pos z]; intro _; unfold ptok; omega
          · rw [if_neg z, if_neg z, if_neg z]; exact d14 j hj
        have lr : LR p ((kPt H k a c).1 0) ((kPt H k a c).1 1) (L.T, L.c, L.u, L.k, L.w, L.cr, (L.R.1, up L.R.2 k 0), L.S, L.sd) M1 b M2 := by
          obtain ⟨q1, q2, q3, q4, q5, q6, q7, q8, q9, q10, q11, q12, q13, q14, q15, q16, q17, q18⟩ := h3.lr
          have z43 : ∀ y, y < 52 → 43 ≤ y → ([87, 88, 89, 99] : List Nat).contains y = false := by decide
          refine ⟨plW_q q1 f1 f2 rfl rfl (i232 7 (by decide)), prR_f q2 (fun z h1 h2 => f1.1 z (z43 z (by omega) h1)) (i232 28 (by decide)) (fun z h1 h2 => f2.1 z (by rcases (show z = 253 ∨ z = 254 ∨ z = 255 ∨ z = 256 by omega) with y | y | y | y <;> rw [y] <;> rfl)), q3, tgR_f q4 (f1.1 53 rfl) (f2.1 257 rfl), q5, ciR_f q6 (fun z h1 h2 => f1.1 z (by rcases (show z = 58 ∨ z = 59 ∨ z = 60 ∨ z = 61 by omega) with y | y | y | y <;> rw [y] <;> rfl)) (fun z h1 h2 => f2.1 z (by rcases (show z = 272 ∨ z = 273 ∨ z = 274 ∨ z = 275 by omega) with y | y | y | y <;> rw [y] <;> rfl)), q7, suC_f q8 (fun f _ _ => by rw [f1.1 56 rfl]), suR_f q9 (fun f h1 h2 => i232 f (by omega)) (by rw [f2.2 232 rfl]) (by rw [f2.2 232 rfl]), q10, clC_f q11 (fun z h1 h2 => f1.2 z rfl) (f1.1 72 rfl) (f1.1 73 rfl) (by rw [f1.1 65 rfl]), clR_f q12 (fun z h1 h2 => f2.2 z rfl), q13, waR_f q14 (fun z hz => by rcases hz with w | w | w | w <;> subst w <;> exact f1.1 _ rfl) (by rw [f1.1 81 rfl]) (fun z h1 h2 => f2.1 z (by rcases (show z = 278 ∨ z = 279 ∨ z = 280 by omega) with y | y | y <;> rw [y] <;> rfl)) (f2.2 281 rfl) (i232 72 (by decide)), q15, ⟨⟨fun j hj t ht ht2 => ?_, fun j hj => ?_⟩, fun j hj t ht ht2 => ?_, fun j hj => ?_⟩, fun j hj => ?_, by rw [f1.2 56 rfl]; exact q18.1, by rw [f2.2 232 rfl]; exact q18.2⟩
          · have ht3 : t < up L.R.2 k 0 j := ht2
            rw [up_d] at ht3
            rw [f1.2 (91 + j) rfl]; exact q16.1.1 j hj t ht (by split at ht3 <;> omega)
          · show M1.1 99 j = nI (up L.R.2 k 0 j)
            rw [m99, up_d]; split
            · rfl
            · exact q16.1.2 j hj
          · have ht3 : t < up L.R.2 k 0 j := ht2
            rw [up_d] at ht3
            rw [f2.2 286 rfl]; exact q16.2.1 j hj t ht (by split at ht3 <;> omega)
          · show M2.1 285 j = nI (up L.R.2 k 0 j)
            rw [m285, up_d]; split
            · rfl
            · exact q16.2.2 j hj
          · show up L.R.2 k 0 j ≤ _
            rw [up_d]; split
            · omega
            · exact q17 j hj
        have ky : kyo 15 k < 135 := (show ∀ v, v < 8 → kyo 15 v < 135 by decide) k (by omega)
        have hga : gka [(15, k)] := gka_c (by omega) (by omega) ky gka_n
        have hx1 : kxt (kPt H k a c) 15 k := ⟨fun z => by omega, fun z => by omega, fun _ => by show up (H.1 19) k 1 k = 1; rw [up_d, if_pos rfl]⟩
        have W := pW_of (l := [(15, k)]) h3 lr (stK_of f1 f2 rfl rfl (fun f hf => i232 f (by omega)) (by rw [f2.2 232 rfl])) gc gr hb (crC_f h3.cs.cc f1 rfl rfl) (crR_f h3.cs.cr f2 rfl rfl (i232 96 (by decide)) (by rw [f2.2 232 rfl]) rfl) rfl rfl rfl hK h3.iv.pl h3.iv.pr (by have t : txo H := MR_tx h3; unfold txo at t ⊢; exact t) (fun j hj z => MR_dr h3 j hj z) (kgo_l (kd0 := 15) (p := fun jx => jx = k) (kgn_15 (fun f a1 a2 a3 => by show (if f = 19 then _ else _) = _; rw [if_neg a1, if_neg a2, if_neg a3]) (fun _ => rfl)) (fun jx hj => by rw [hj]; exact List.mem_cons_self) (fun jx hj => by
          show H.1 19 jx = up (H.1 19) k 1 jx ∧ (H.1 19 jx = 1 → H.1 20 jx = up (H.1 20) k a jx ∧ H.1 21 jx = up (H.1 21) k c jx)
          rw [up_d, up_d, up_d, if_neg hj, if_neg hj, if_neg hj]; exact ⟨rfl, fun _ => ⟨rfl, rfl⟩⟩)) hga (by show 1 ≤ 16; omega) (al_c hx1 al_n) (al_c (kpl_n (show (15 : Nat) ≠ 4 by decide) (show (15 : Nat) ≠ 7 by decide) (show (15 : Nat) ≠ 12 by decide)) al_n) (gtx_n hga (al_c (show (15 : Nat) ≠ 6 by decide) al_n)) (Or.inr (al_c (show (15 : Nat) < 8 ∨ 12 ≤ 15 by decide) al_n))
        have rs : RsR (kPt H k a c) (L.T, L.c, L.u, L.k, L.w, L.cr, (L.R.1, up L.R.2 k 0), L.S, L.sd) R M1 M2 := RsR_f h4 (rsF_q f1 f2 rfl rfl rfl (fun f hf => i232 f (rsI_ne hf rfl))) (fun _ _ z => z) rfl rfl rfl (fun j hj => by
          have hj' : ¬ up (H.1 19) k 1 j = 1 := hj
          show up L.R.2 k 0 j = 0
          rw [up_d] at hj' ⊢
          by_cases z : j = k
          · rw [if_pos z]
          · rw [if_neg z] at hj' ⊢; exact h4.pn j hj')
        obtain ⟨q1, q2, q3⟩ := keep_al (a := 0) h6 h1 (B' := B + 1) (by omega) (by omega) h5 W rs (oF_q f1 f2 rfl rfl rfl rfl) h0
        have q1' : cp_171_0 15 (nI k) 0 M1 b := q1
        have q2' : cp_494_0 15 (nI k) M2 := q2
        refine ⟨by simp [cp_323_0, cf_142_0, u1, u2, p1, i1, e2, cp_72_0, ib, hM1, q1'], by simp [cp_557_0, cp_557_26, cp_557_56, j1, p2, w, F1, Ft, ib, hM2, q2'], ?_⟩
        have e1 : cf_323_0 (nI k) (nI a) (nI c) N1 b = (0, (cf_171_0 15 (nI k) 0 M1 b).1, (cf_171_0 15 (nI k) 0 M1 b).2) := by simp [cf_323_0, cf_142_0, u2, i1, e2, hM1]
        have e3 : cf_557_0 (nI k) (nI a) (nI c) N2 = ((if (cf_494_0 15 (nI k) M2).1 = true then 0 else -1001), (cf_494_0 15 (nI k) M2).2) := by
          simp [cf_557_0, cf_557_26, cf_557_56, j1, w, Ft, hM2]
          split <;> rfl
        rw [e1, e3]
        exact q3
      | false =>
        rw [w] at e2
        exact ⟨by simp [cp_323_0, cf_142_0, u1, u2, p1, i1, e2], by simp [cp_557_0, cp_557_25, cp_557_26, j1, p2, w, F1, Ff], cal_m (Nat.le_refl _) (Nat.le_succ _) (Sm_r (a := 0) (a' := 0) h (Or.inl rfl) (by simp [cf_323_0, cf_142_0, u2, i1, e2]) (by simp [cf_557_0, cf_557_25, cf_557_26, j1, w, Ff]))⟩
    · exact ⟨by simp [cp_323_0, u1, u2, p1, i1], by simp [cp_557_0, cp_557_25, cp_557_26, j1, F1, Ff], cal_m (Nat.le_refl _) (Nat.le_succ _) (Sm_r (a := 0) (a' := 0) h (Or.inl rfl) (by simp [cf_323_0, u2, i1]) (by simp [cf_557_0, cf_557_25, cf_557_26, j1, Ff]))⟩
  · exact ⟨by simp [cp_323_0, u1, u2], by simp [cp_557_0, cp_557_25, cp_557_26, F1, Fd, p2], cal_m (Nat.le_refl _) (Nat.le_succ _) (Sm_r (a := 0) (a' := 0) h (Or.inr rfl) (by simp [cf_323_0, u2]) (by simp [cf_557_0, cf_557_25, cf_557_26, Fd]))⟩
end Po
