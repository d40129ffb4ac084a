/-! PURE (50zzzzzw): door, card. -/
def kDo (H : Kp) (k a c : Nat) : Kp := (fun f => if f = 12 then up (H.1 12) k 1 else if f = 13 then up (H.1 13) k a else if f = 14 then up (H.1 14) k c else H.1 f, H.2.1, H.2.2)
def kCd (H : Kp) (k a c m : Nat) (y : Int32) : Kp := (fun f => if f = 15 then up (H.1 15) k 1 else if f = 16 then up (H.1 16) k a else if f = 17 then up (H.1 17) k c else if f = 18 then up (H.1 18) k m else H.1 f, fun f => if f = 12 then up (H.2.1 12) k y else H.2.1 f, H.2.2)
section Do
variable {N N1 N2 M1 M2 : mz_N} {b : Bool} {B q : Nat} {s : st_S} {D H G : Kp} {x : CrS} {L L' : LvS} {R : RsS} {v v1 v2 v3 v4 : Int32} {v5 : Bool} {t : Nat → Nat}
theorem free_d (ht : ∀ j, t j ≤ 1) (h : ∀ j, j < 20 → N.1 101 j = nI (t j)) : cp_301_0 N ∧ cf_301_0 N = nO 20 (fz t 20) := by
  rw [cp_301_0, cf_301_0, cp_301_2, cf_301_2]
  have hl := fz_le t 20
  refine lp_fz t 20 (fun j hj hn => ?_) ?_
  · have l : nI j < 20 := (nI_ltI (b := 20) (by omega) (by omega)).mpr hj
    have g : mz_gI N 101 (nI j) = nI (t j) := by rw [gI_a, nI_clamp (by omega)]; exact h j hj
    have := ht j
    have n0 : ¬ nI (t j) = 0 := fun z => hn ((nI_eq0 (by omega)).mp z)
    rw [cd_301_2, cq_301_2, if_pos l, g, if_neg n0, nI_1]
    exact ⟨⟨fun _ => ib_n hj (by omega), fun _ => trivial⟩, rfl⟩
  · rw [cd_301_2, cq_301_2]
    by_cases w : fz t 20 < 20
    · have l : nI (fz t 20) < 20 := (nI_ltI (b := 20) (by omega) (by omega)).mpr w
      have g : mz_gI N 101 (nI (fz t 20)) = 0 := by rw [gI_a, nI_clamp (by omega), h _ w, fz_z 20 w]; rfl
      rw [if_pos l, g, if_pos rfl, nO_lt w]
      exact ⟨⟨fun _ => ib_n w (by omega), fun _ => trivial⟩, rfl⟩
    · have l : ¬ nI (fz t 20) < 20 := fun z => w ((nI_ltI (b := 20) (by omega) (by omega)).mp z)
      rw [if_neg l, nO_ge w]
      exact ⟨⟨fun y => absurd y l, fun _ => trivial⟩, rfl⟩
theorem cnt_d (ht : ∀ j, t j ≤ 1) (h : ∀ j, j < 20 → N.1 308 j = nI (t j)) : cp_576_0 N ∧ ∃ n, n ≤ 20 ∧ cf_576_0 N = nI n ∧ (n = 20 ↔ ¬ fz t 20 < 20) := by
  rw [cp_576_0, cf_576_0, cp_576_4, cf_576_4]
  refine mz_lpn (f := cq_576_4 N) (P := cd_576_4 N) (Q := fun r => ∃ n, n ≤ 20 ∧ r = nI n ∧ (n = 20 ↔ ¬ fz t 20 < 20)) 20 (fun k s => ∃ c, c ≤ k ∧ s = (nI c, nI k) ∧ (c = k ↔ ∀ i, i < k → t i ≠ 0)) ?_ ?_ (Nat.zero_le _) ⟨0, Nat.le_refl _, rfl, fun _ i hi => absurd hi (Nat.not_lt_zero i), fun _ => rfl⟩
  · rintro k s hk ⟨c, hc, rfl, hi⟩
    have l : nI k < 20 := (nI_ltI (b := 20) (by omega) (by omega)).mpr hk
    have tk := ht k
    have g : mz_gI N 308 (nI k) = nI (t k) := by rw [gI_a, nI_clamp (by omega)]; exact h k hk
    have gz : mz_gZ N 308 (nI k) = decide (t k = 1) := by
      rw [gZ_a, nI_clamp (by omega)]
      rw [h k hk]
      rcases (show t k = 0 ∨ t k = 1 by omega) with w | w <;> rw [w] <;> rfl
    have z : mz_z01 (nI (t k)) := by rcases (show t k = 0 ∨ t k = 1 by omega) with w | w <;> rw [w] <;> first | exact Or.inl rfl | exact Or.inr rfl
    rw [cd_576_4, cq_576_4]
    simp only [l, if_true, g, gz]
    refine ⟨⟨fun _ => ⟨ib_n hk (by omega), z, fun _ => trivial, fun _ => trivial⟩, fun y => absurd trivial y⟩, Or.inl ?_⟩
    by_cases w : t k = 1
    · rw [if_pos (decide_eq_true w)]
      refine ⟨_, rfl, c + 1, by omega, by show (nI c + 1, nI k + 1) = _; rw [nI_1, nI_1], fun y i hi' => ?_, fun y => ?_⟩
      · by_cases e : i = k
        · rw [e, w]; omega
        · exact hi.mp (by omega) i (by omega)
      · have := hi.mpr (fun i hi' => y i (by omega)); omega
    · rw [if_neg (fun y => w (of_decide_eq_true y))]
      refine ⟨_, rfl, c, by omega, by show (nI c + 0, nI k + 1) = _; rw [nI_1, Int32.add_zero], fun y i hi' => ?_, fun y => ?_⟩
      · omega
      · exact absurd (show t k = 0 by omega) (y k (by omega))
  · rintro s ⟨c, hc, rfl, hi⟩
    have l : ¬ nI 20 < 20 := by decide
    rw [cd_576_4, cq_576_4]
    simp only [l, if_false]
    refine ⟨⟨False.elim, fun _ => trivial⟩, _, rfl, c, hc, rfl, fun y z => ?_, fun y => ?_⟩
    · exact hi.mp y _ z (fz_z 20 z)
    · exact hi.mpr (fun i hi' => fz_nz 20 i (by have := fz_le t 20; omega))
theorem door_r {w : Bool} {K : mz_N} (ht : ∀ j, t j ≤ 1) (h : ∀ j, j < 20 → N.1 308 j = nI (t j)) (hf : fz t 20 < 20) (hp : cp_494_0 13 (nI (fz t 20)) (mz_wI (mz_wI (mz_wI N 308 (nI (fz t 20)) (mz_b01 true)) 309 (nI (fz t 20)) v1) 310 (nI (fz t 20)) v2)) (he : cf_494_0 13 (nI (fz t 20)) (mz_wI (mz_wI (mz_wI N 308 (nI (fz t 20)) (mz_b01 true)) 309 (nI (fz t 20)) v1) 310 (nI (fz t 20)) v2) = (w, K)) : cp_574_30 v1 v2 0 N ∧ cf_574_30 v1 v2 0 N = ((if w = true then nI (fz t 20) else -1001), K) := by
  rw [cp_574_30, cf_574_30]
  have gz : ∀ k, k < 20 → mz_gZ N 308 (nI k) = decide (t k = 1) ∧ mz_z01 (mz_gI N 308 (nI k)) := fun k hk => by
    have tk := ht k
    rw [gZ_a, gI_a, nI_clamp (by omega), h k hk]
    rcases (show t k = 0 ∨ t k = 1 by omega) with w | w <;> rw [w] <;> first | exact ⟨rfl, Or.inl rfl⟩ | exact ⟨rfl, Or.inr rfl⟩
  refine lp_fz t 20 (fun j hj hn => ?_) ?_
  · have tk := ht j
    rw [cd_574_30, cq_574_30, (gz j hj).1, decide_eq_true (show t j = 1 by omega), if_pos rfl, nI_1]
    exact ⟨⟨ib_n hj (by omega), (gz j hj).2, fun _ => trivial, fun y => absurd rfl y⟩, rfl⟩
  · have z := fz_z (t := t) 20 hf
    have i1 := ib_n hf (show 20 < 2 ^ 31 by omega)
    obtain ⟨z1, z2⟩ := gz _ hf
    generalize fz t 20 = k at *
    rw [cd_574_30, cq_574_30, z1, decide_eq_false (show ¬ t k = 1 by omega), if_neg (fun y => by cases y), he]
    refine ⟨⟨i1, z2, fun y => (by cases y), fun _ => ⟨i1, i1, i1, hp, fun _ => trivial, fun _ => trivial⟩⟩, ?_⟩
    cases w <;> rfl
theorem mayd {st ed : Nat} (hs : st ≤ 4) (he : ed ≤ 109) : cf_300_0 (nI st) (nI ed) = decide (st = 0 ∨ ¬ ge_sd ed < 4) ∧ cf_575_0 (nI st) (nI ed) = decide (st = 0 ∨ ¬ ge_sd ed < 4) := by
  obtain ⟨_, _, _, _, e1, e2⟩ := ge_e ed (by omega)
  have q0 : (nI st = 0) = (st = 0) := propext (nI_eq0 (by omega))
  have m1 : (nO 4 (ge_sd ed) = -1) = (¬ ge_sd ed < 4) := propext (nO_m1 (by omega))
  have e4 : cf_464_0 (nI st) (nI ed) = true := by
    have l1 : nI st < 5 := (nI_ltI (b := 5) (by omega) (by omega)).mpr (by omega)
    have l2 : nI ed < 110 := (nI_ltI (b := 110) (by omega) (by omega)).mpr (by omega)
    rw [cf_464_0, cf_465_0, if_neg (nI_neg2 (by omega)).2, if_pos l1, if_pos rfl, if_neg (nI_neg2 (by omega)).2, if_pos l2]
  rw [cf_300_0, cf_575_0, e1, e2, e4]
  simp only [q0, m1, if_true]
  by_cases a : st = 0
  · rw [if_pos a, if_pos a]; exact ⟨(decide_eq_true (Or.inl a)).symm, (decide_eq_true (Or.inl a)).symm⟩
  · rw [if_neg a, if_neg a]
    by_cases c : ge_sd ed < 4
    · have e : ¬ (st = 0 ∨ ¬ ge_sd ed < 4) := fun z => by rcases z with z | z; exact a z; exact z c
      rw [if_neg (fun z => z c), if_pos (decide_eq_true c), decide_eq_false e]; exact ⟨rfl, rfl⟩
    · rw [if_pos c, if_neg (fun z => c (of_decide_eq_true z)), decide_eq_true (Or.inr c)]; exact ⟨rfl, rfl⟩
theorem door_al (hB : B + 1 < 2 ^ 30) (h : Sm q B N1 b N2) : cp_299_0 v1 v2 N1 b ∧ cp_574_0 v1 v2 N2 ∧ cal q (B + 1) b N1 N2 (cf_299_0 v1 v2 N1 b) (cf_574_0 v1 v2 N2) := by
  obtain ⟨p1, c1⟩ := in_l 0 4 (by omega) (by omega) v1 (w0 := 0) (w := 4) (g0 := 0) (g := 4) rfl rfl rfl rfl
  obtain ⟨p2, c2⟩ := in_l 0 109 (by omega) (by omega) v2 (w0 := 0) (w := 109) (g0 := 0) (g := 109) rfl rfl rfl rfl
  have sk : cf_465_0 v1 = decide (cf_105_0 v1 0 4 = 0) := by rw [cf_465_0, show (4 : Int32) = nI 4 from rfl, i105 (by omega)]; rfl
  have ek : cf_464_0 v1 v2 = if cf_465_0 v1 = true then decide (cf_105_0 v2 0 109 = 0) else false := by rw [cf_464_0, show (109 : Int32) = nI 109 from rfl, i105 (by omega)]; rfl
  rcases Sm_0 h with ⟨hu, u1, u2, F1, Ft, Ff, Fs, F3, F4⟩ | ⟨u1, u2, F1, Fd, F3, F4⟩
  · rcases c1 with ⟨st, _, hs, rfl, i1, j1⟩ | ⟨i1, j1⟩
    · rcases c2 with ⟨ed, _, he, rfl, i2, j2⟩ | ⟨i2, j2⟩
      · obtain ⟨m1, m2⟩ := mayd hs he
        by_cases w : st = 0 ∨ ¬ ge_sd ed < 4
        · rw [decide_eq_true w] at m1 m2
          obtain ⟨p, C, s, D, H, x, L, R, h1, h2, h3, h4, h5, h6⟩ := id hu
          have kc13 := h3.cs.ks.kc.2.2.2.2.2.2.2.2.2.2.2.2.2.2.1
          have kr13 := h3.cs.ks.kr.2.2.2.2.2.2.2.2.2.2.2.2.2.2.1
          have hb12 : ∀ j, H.1 12 j ≤ 1 := h3.cs.ks.hb.2.2.2.2.2.2.2.2.2.2.2.1
          obtain ⟨a1, a2⟩ := free_d hb12 (fun j hj => (kc13 j hj).1)
          obtain ⟨a3, n, hn, a4, a5⟩ := cnt_d (N := mz_pI N2 232 0 0) hb12 (fun j hj => (kr13 j hj).1)
          have q20 : (nI n = 20) = (n = 20) := propext (nI_eq (b := 20) (by omega) (by omega))
          by_cases f : fz (H.1 12) 20 < 20
          · have n20 : (n = 20) = False := eq_false (fun z => a5.mp z f)
            have t0 := fz_z (t := H.1 12) 20 f
            have dr1 := @door_r (mz_pI N2 232 0 0) (nI st) (nI ed) (H.1 12)
            generalize fz (H.1 12) 20 = k at f t0 a2 dr1
            rw [nO_lt f] at a2
            obtain ⟨n1, n2⟩ := nI_neg2 (k := k) (by omega)
            have ib : mz_ib (nI k) 20 := ib_n f (by omega)
            generalize hM1 : cf_69_0 (nI k) (nI st) (nI ed) N1 = M1
            generalize hM2 : mz_wI (mz_wI (mz_wI (mz_pI N2 232 0 0) 308 (nI k) (mz_b01 true)) 309 (nI k) (nI st)) 310 (nI k) (nI ed) = M2
            have f1 : fq [101, 102, 103] [] N1 M1 := by rw [← hM1, cf_69_0]; exact fq_wI (fq_wI (fq_wI (fq_refl _ _ _) rfl) rfl) rfl
            have f2 : fq [232, 308, 309, 310] [] N2 M2 := by rw [← hM2]; exact fq_wI (fq_wI (fq_wI (fq_pI (fq_refl _ _ _) rfl) rfl) rfl) rfl
            have i232 : ∀ f, f ≠ 0 → f ≠ 21 → M2.1 232 f = N2.1 232 f := fun f g0 _ => by rw [← hM2, wI_ne (by decide), wI_ne (by decide), wI_ne (by decide), pI_s, sI_e, up_a, if_neg g0]
            have l232 : ∀ f, f ≠ 122 → M2.2 232 f = N2.2 232 f := fun f _ => by rw [f2.2 232 rfl]
            have i21 : M2.1 232 21 = N2.1 232 21 := by rw [← hM2, wI_ne (by decide), wI_ne (by decide), wI_ne (by decide), pI_s, sI_e, up_a, if_neg (by decide)]
            have h0 : M2.1 232 0 = 0 := by rw [← hM2, wI_ne (by decide), wI_ne (by decide), wI_ne (by decide)]; exact code_0
            have m101 : ∀ j, M1.1 101 j = if j = k then 1 else N1.1 101 j := fun j => by rw [← hM1, cf_69_0, wI_ne (by decide), wI_ne (by decide), wI_at (by omega)]
            have m102 : ∀ j, M1.1 102 j = if j = k then nI st else N1.1 102 j := fun j => by rw [← hM1, cf_69_0, wI_ne (by decide), wI_at (by omega), wI_ne (by decide)]
            have m103 : ∀ j, M1.1 103 j = if j = k then nI ed else N1.1 103 j := fun j => by rw [← hM1, cf_69_0, wI_at (by omega), wI_ne (by decide), wI_ne (by decide)]
            have m308 : ∀ j, M2.1 308 j = if j = k then 1 else N2.1 308 j := fun j => by rw [← hM2, wI_ne (by decide), wI_ne (by decide), wI_at (by omega)]; rfl
            have m309 : ∀ j, M2.1 309 j = if j = k then nI st else N2.1 309 j := fun j => by rw [← hM2, wI_ne (by decide), wI_at (by omega), wI_ne (by decide)]; rfl
            have m310 : ∀ j, M2.1 310 j = if j = k then nI ed else N2.1 310 j := fun j => by rw [← hM2, wI_at (by omega), wI_ne (by decide), wI_ne (by decide)]; rfl
            have E1 : ∀ f, f ≠ 12 → f ≠ 13 → f ≠ 14 → (kDo H k st ed).1 f = H.1 f := fun f a1 a2 a3 => by show (if f = 12 then _ else _) = _; rw [if_neg a1, if_neg a2, if_neg a3]
            have gc : c_kp M1 b (kDo H k st ed) := ckp_13 h3.cs.ks.kc f1 rfl rfl E1 (fun _ => rfl) (fun _ => rfl) (fun j hj => by
              show M1.1 101 j = nI (up (H.1 12) k 1 j) ∧ (up (H.1 12) k 1 j = 1 → M1.1 102 j = nI (up (H.1 13) k st j) ∧ M1.1 103 j = nI (up (H.1 14) k ed j))
              rw [m101, m102, m103, up_d, up_d, up_d]
              by_cases z : j = k
              · rw [if_pos z, if_pos z, if_pos z, if_pos z, if_pos z, if_pos z]; exact ⟨rfl, fun _ => ⟨rfl, rfl⟩⟩
              · rw [if_neg z, if_neg z, if_neg z, if_neg z, if_neg z, if_neg z]; exact kc13 j hj)
            have gr : r_kp M2 (kDo H k st ed) := rkp_13 h3.cs.ks.kr f2 rfl rfl (i232 27 (by decide) (by decide)) i21 (fun f _ => by rw [f2.2 232 rfl]) E1 (fun _ => rfl) (fun _ => rfl) (fun j hj => by
              show M2.1 308 j = nI (up (H.1 12) k 1 j) ∧ (up (H.1 12) k 1 j = 1 → M2.1 309 j = nI (up (H.1 13) k st j) ∧ M2.1 310 j = nI (up (H.1 14) k ed j))
              rw [m308, m309, m310, up_d, up_d, up_d]
              by_cases z : j = k
              · rw [if_pos z, if_pos z, if_pos z, if_pos z, if_pos z, if_pos z]; exact ⟨rfl, fun _ => ⟨rfl, rfl⟩⟩
              · rw [if_neg z, if_neg z, if_neg z, if_neg z, if_neg z, if_neg z]; exact kr13 j hj)
            have hb : kpb (kDo H k st ed) := by
              obtain ⟨y0, y1, y2, y3, y5, y4, yt4, y6, y7, y8, y9, y12, y13, y15, y16, y19, y20⟩ := h3.cs.ks.hb
              refine ⟨y0, y1, y2, y3, y5, y4, yt4, y6, y7, y8, y9, fun j => ?_, fun j => ?_, y15, y16, y19, y20⟩
              · show up (H.1 12) k 1 j ≤ 1
                rw [up_d]; split
                · omega
                · exact y12 j
              · show up (H.1 13) k st j < 256 ∧ up (H.1 14) k ed j < 256
                rw [up_d, up_d]
                by_cases z : j = k
                · rw [if_pos z, if_pos z]; omega
                · rw [if_neg z, if_neg z]; exact y13 j
            have hK : KB p (kDo H k st ed) := h3.iv.kb
            have ky : kyo 13 k < 135 := (show ∀ v, v < 20 → kyo 13 v < 135 by decide) k f
            have hga : gka [(13, k)] := gka_c (by omega) (by omega) ky gka_n
            have hx1 : kxt (kDo H k st ed) 13 k := ⟨fun _ => by show up (H.1 12) k 1 k = 1; rw [up_d, if_pos rfl], fun z => by omega, fun z => by omega⟩
            have tl : tld N1 N2 M1 M2 b (kDo H k st ed) [(13, k)] := ⟨gc, gr, hga, by show 1 ≤ 16; omega, al_c hx1 al_n, al_c (kpl_n (show (13 : Nat) ≠ 4 by decide) (show (13 : Nat) ≠ 7 by decide) (show (13 : Nat) ≠ 12 by decide)) al_n, gtx_n hga (al_c (show (13 : Nat) ≠ 6 by decide) al_n), Or.inr (al_c (show (13 : Nat) < 8 ∨ 12 ≤ 13 by decide) al_n)⟩
            obtain ⟨P, Q, O⟩ := tell_al h3 h4 f1 f2 rfl rfl rfl rfl rfl rfl rfl rfl i232 l232 tl hb rfl rfl rfl rfl rfl (fun _ _ z => z) rfl rfl rfl hK (fun j hj => by
              show up (H.1 12) k 1 j = 1 → up (H.1 13) k st j < 5 ∧ up (H.1 14) k ed j < 110
              rw [up_d, up_d, up_d]
              by_cases z : j = k
              · rw [if_pos z, if_pos z, if_pos z]; intro _; omega
              · rw [if_neg z, if_neg z, if_neg z]; exact MR_dr h3 j hj) (kgo_l (kd0 := 13) (p := fun jx => jx = k) (kgn_13 E1 (fun _ => rfl)) (fun jx hj => by rw [hj]; exact List.mem_cons_self) (fun jx hj => by
              show H.1 12 jx = up (H.1 12) k 1 jx ∧ (H.1 12 jx = 1 → H.1 13 jx = up (H.1 13) k st jx ∧ H.1 14 jx = up (H.1 14) k ed jx)
              rw [up_d, up_d, up_d, if_neg hj, if_neg hj, if_neg hj]; exact ⟨rfl, fun _ => ⟨rfl, rfl⟩⟩))
            obtain ⟨q1, q2, q3⟩ := keep_al (a := nI k) h6 h1 (B' := B + 1) (by omega) (by omega) h5 P Q O h0
            have q1' : cp_171_0 13 (nI k) (nI k) M1 b := q1
            have q2' : cp_494_0 13 (nI k) M2 := q2
            rw [hM2] at dr1
            obtain ⟨d1, d2⟩ := dr1 (w := (cf_494_0 13 (nI k) M2).1) (K := (cf_494_0 13 (nI k) M2).2) hb12 (fun j hj => (kr13 j hj).1) f q2' rfl
            have e1 : cf_299_0 (nI st) (nI ed) N1 b = (0, (cf_171_0 13 (nI k) (nI k) M1 b).1, (cf_171_0 13 (nI k) (nI k) M1 b).2) := by simp only [cf_299_0, cf_142_0, u2, i1, i2, m1, if_true, a2, if_neg n1, hM1]
            have e2 : cf_574_0 (nI st) (nI ed) N2 = ((if (cf_494_0 13 (nI k) M2).1 = true then nI k else -1001), (cf_494_0 13 (nI k) M2).2) := by simp only [cf_574_0, m2, Ft, Bool.false_eq_true, if_false, a4, q20, n20, d2]
            refine ⟨by simp [cp_299_0, cf_142_0, u1, u2, p1, p2, i1, i2, m1, a1, a2, cp_69_0, ib, hM1, q1'], by simp [cp_574_0, m2, F1, Ft, a3, a4, q20, n20, d1], ?_⟩
            rw [e1, e2]
            exact q3
          · have n20 : (n = 20) = True := eq_true (a5.mpr f)
            rw [nO_ge f] at a2
            have e1 : cf_299_0 (nI st) (nI ed) N1 b = (0, -1003, N1) := by simp only [cf_299_0, cf_142_0, u2, i1, i2, m1, if_true, a2]
            have e2 : cf_574_0 (nI st) (nI ed) N2 = (-1003, mz_pI N2 232 0 0) := by simp only [cf_574_0, m2, Ft, Bool.false_eq_true, if_false, a4, q20, n20, if_true]
            refine ⟨by simp [cp_299_0, cf_142_0, u1, u2, p1, p2, i1, i2, m1, a1, a2], by simp [cp_574_0, m2, F1, Ft, a3, a4, q20, n20], ?_⟩
            rw [e1, e2]
            exact cal_m (Nat.le_refl _) (Nat.le_succ _) (cal_u code_0 rfl oF_code (Up_code hu))
        · rw [decide_eq_false w] at m1 m2
          exact ⟨by simp [cp_299_0, cf_142_0, u1, u2, p1, p2, i1, i2, m1], by simp [cp_574_0, m2, F1, Ff], cal_m (Nat.le_refl _) (Nat.le_succ _) (Sm_r (a := 0) (a' := 0) h (Or.inl rfl) (by simp [cf_299_0, cf_142_0, u2, i1, i2, m1]) (by simp [cf_574_0, m2, Ff]))⟩
      · rw [i1] at sk
        have sk' : cf_465_0 (nI st) = true := sk
        rw [sk', i2] at ek
        have ek' : cf_464_0 (nI st) v2 = false := ek
        have m2 : cf_575_0 (nI st) v2 = false := by rw [cf_575_0, ek', if_neg (fun z => by cases z)]
        exact ⟨by simp [cp_299_0, u1, u2, p1, p2, i1, i2], by simp [cp_574_0, m2, F1, Ff], cal_m (Nat.le_refl _) (Nat.le_succ _) (Sm_r (a := 0) (a' := 0) h (Or.inl rfl) (by simp [cf_299_0, u2, i1, i2]) (by simp [cf_574_0, m2, Ff]))⟩
    · rw [i1] at sk
      have sk' : cf_465_0 v1 = false := sk
      rw [sk'] at ek
      have ek' : cf_464_0 v1 v2 = false := ek
      have m2 : cf_575_0 v1 v2 = false := by rw [cf_575_0, ek', if_neg (fun z => by cases z)]
      exact ⟨by simp [cp_299_0, u1, u2, p1, i1], by simp [cp_574_0, m2, F1, Ff], cal_m (Nat.le_refl _) (Nat.le_succ _) (Sm_r (a := 0) (a' := 0) h (Or.inl rfl) (by simp [cf_299_0, u2, i1]) (by simp [cf_574_0, m2, Ff]))⟩
  · exact ⟨by simp [cp_299_0, u1, u2], by simp [cp_574_0, F1, Fd], cal_m (Nat.le_refl _) (Nat.le_succ _) (Sm_r (a := 0) (a' := 0) h (Or.inr rfl) (by simp [cf_299_0, u2]) (by simp [cf_574_0, Fd]))⟩
end Do
