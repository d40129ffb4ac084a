/-! PURE (50zzzzzn): run and crash. -/
section Rc
variable {N N1 N2 M1 M2 K1 K2 : mz_N} {b : Bool} {B q : Nat} {s : st_S} {D H : Kp} {x : CrS} {L : LvS} {R : RsS} {v v1 : Int32}
theorem rsF_mn (h : mnF N1 N2 K1 K2) : rsF N1 N2 K1 K2 := rsF_q h.c h.r rfl rfl rfl (fun f hf => h.i f (by
  have := ct_nt (A := mnI) (X := rsI) rfl hf
  exact this))
theorem oF_mn (h : mnF N1 N2 K1 K2) : oF N1 N2 K1 K2 := oF_q h.c h.r rfl rfl rfl rfl
theorem run_al (hq : q + 120 < 2 ^ 15) (hB : B + 1680 < 2 ^ 30) (h : Sm q B N1 b N2) : cp_198_0 v1 N1 b ∧ cp_506_0 v1 N2 ∧ cal (q + 120) (B + 1680) b N1 N2 (cf_198_0 v1 N1 b) (cf_506_0 v1 N2) := by
  obtain ⟨p1, c1⟩ := in_l 1 120 (by omega) (by omega) v1 (w0 := 1) (w := 120) (g0 := 1) (g := 120) rfl rfl rfl rfl
  rcases h with h | h
  · obtain ⟨w1, w2⟩ := Sm_u h
    obtain ⟨u1, u2⟩ := c104_u w1
    obtain ⟨F1, F2⟩ := f462_u (a := true) (st := true) w2
    have F2' : cf_462_0 true true N2 = (false, mz_pI N2 232 0 0) := F2
    obtain ⟨F3, F4⟩ := f462_u (a := false) (st := true) w2
    have F4' : cf_462_0 false true N2 = (true, mz_pI N2 232 0 1) := F4
    obtain ⟨F5, F6⟩ := f462_u (a := true) (st := false) w2
    have F6' : cf_462_0 true false N2 = (true, mz_pI N2 232 0 2) := F6
    obtain ⟨F7, F8⟩ := f462_u (a := false) (st := false) w2
    have F8' : cf_462_0 false false N2 = (true, mz_pI N2 232 0 1) := F8
    obtain ⟨p, C, s, D, H, x, L, R, h1, h2, h3, h4, h5, h6⟩ := id h
    rcases c1 with ⟨n, ln, hn, rfl, i1, j1⟩ | ⟨i1, j1⟩
    · obtain ⟨tm, t1, t2, _⟩ := h3.iv.ci.tm
      have k9 := h3.cs.ks.kc.2.2.2.2.2.2.2.2.2.2.1
      have r9 := h3.cs.ks.kr.2.2.2.2.2.2.2.2.2.2.1
      have x1 : N1.1 208 0 + nI n = nI (tm + n) := by rw [k9.1, t2, nI_add]
      have x2 : N2.2 232 2 + (nI n).toInt64 = lN (tm + n) := by rw [r9.1, t2, nI_L (by omega), nI_L (by omega), lN_add]
      have y1 : ((2000000 : Int32) < nI (tm + n)) = (2000000 < tm + n) := propext (nI_ltI (a := 2000000) (by omega) (by omega))
      have y2 : ((2000000 : Int64) < lN (tm + n)) = (2000000 < tm + n) := propext (lN_lt64 (a := 2000000) (by omega) (by omega))
      by_cases w : 2000000 < tm + n
      · have w0 : (2000000 < tm + n) = True := eq_true w
        exact ⟨by simp [cp_198_0, cp_198_30, cf_187_0, u1, u2, p1, i1, x1, y1, w0], by simp [cp_506_0, cp_506_29, x2, y2, w0, j1, F5, F6'], cal_m (by omega) (by omega) (Sm_r (a := 0) (a' := 0) (Or.inl h) (Or.inr rfl) (by simp [cf_198_0, cf_198_30, cf_187_0, u2, i1, x1, y1, w0]) (by simp [cf_506_0, cf_506_29, x2, y2, w0, j1, F6']; rfl))⟩
      · have w0 : (2000000 < tm + n) = False := eq_false w
        obtain ⟨P1, P2, g, K1, K2, o1, o2, o3, o4, o5⟩ := run_l (n := n) (tm := tm) (show p + n < 2 ^ 15 by omega) (show C + 14 * n < 2 ^ 30 by omega) (MR_code (c := 0) h3) t2 (by omega)
        have e1 : cf_198_0 (nI n) N1 b = (0, (if g = true then nI (tm + n) else -1001), K1) := by simp only [cf_198_0, cf_198_30, cf_187_0, u2, i1, x1, y1, w0, if_true, if_false, o1]
        have e2 : cf_506_0 (nI n) N2 = ((if g = true then nI (tm + n) else -1001), K2) := by simp only [cf_506_0, cf_506_29, x2, y2, w0, j1, F2', if_false, Bool.false_eq_true, o2]
        refine ⟨by simp [cp_198_0, cp_198_30, cf_187_0, u1, u2, p1, i1, x1, y1, w0, P1], by simp [cp_506_0, cp_506_29, x2, y2, w0, j1, F1, F2', P2], ?_⟩
        rw [e1, e2]
        refine ⟨Nat.zero_le _, ?_, fun _ => rfl, oF_t oF_code (oF_mn o3), ?_⟩
        · show K2.1 232 0 = 0
          rw [o3.i 0 rfl]; exact code_0
        · cases g with
          | true =>
            obtain ⟨B', s', D', H', x', L', m1, m2, m3, m4, m5, m6⟩ := o4 rfl
            exact Or.inl ⟨p + n, B', s', D', H', x', L', R, by omega, by omega, m2, RsR_f h4 (rsF_t rsF_code (rsF_mn o3)) (fun j _ z => by rw [m4 15 (by omega)]; exact z) (m4 4 (by omega)) (by rw [m4 5 (by omega)]) m5 (fun j hj => by
              rw [m4 19 (by omega)] at hj
              rw [m6.2 j hj]; exact h4.pn j hj), by omega, by omega⟩
          | false =>
            obtain ⟨D', m1, m2⟩ := o5 rfl
            refine Or.inr ⟨D', Dwn_m (by omega) m1, Jd_m (by omega) m2, ?_⟩
            rw [o3.c.2 56 rfl, o3.s]
            show N1.2 56 15 = N2.2 232 1
            rw [h3.lr.sd.1, h3.lr.sd.2]
    · refine ⟨by simp [cp_198_0, u1, u2, p1, i1], by simp [cp_506_0, cp_506_29, j1, F3, F4', F7, F8'], cal_m (by omega) (by omega) (Sm_r (a := 0) (a' := 0) (Or.inl h) (Or.inl rfl) (by simp [cf_198_0, u2, i1]) (by simp [cf_506_0, cf_506_29, j1, F4', F8', n01]))⟩
  · obtain ⟨w1, w2⟩ := Sm_d h
    obtain ⟨u1, u2⟩ := c104_d w1
    obtain ⟨F1, F2⟩ := F_d w2
    exact ⟨by simp [cp_198_0, u1, u2], by simp [cp_506_0, cp_506_29, F1, F2], cal_m (by omega) (by omega) (Sm_r (a := 0) (a' := 0) (Or.inr h) (Or.inr rfl) (by simp [cf_198_0, u2]) (by simp [cf_506_0, cf_506_29, F2]; rfl))⟩
theorem in_f (v : Int32) : cp_105_0 v (-1) 1000 ∧ ((fus v ∧ cf_105_0 v (-1) 1000 = 0 ∧ cf_466_0 v.toInt64 (-1) 1000 = true) ∨ (cf_105_0 v (-1) 1000 = 1 ∧ cf_466_0 v.toInt64 (-1) 1000 = false)) := by
  refine ⟨⟨fun _ => trivial, fun _ => ⟨fun _ => trivial, fun _ => trivial⟩⟩, ?_⟩
  have e1 : (v.toInt64 < -1) ↔ v < -1 := l64_lt v (-1)
  have e2 : ((1000 : Int64) < v.toInt64) ↔ 1000 < v := l64_lt 1000 v
  rw [cf_105_0, cf_466_0]
  by_cases a : v < -1
  · rw [if_pos a, if_pos (e1.mpr a)]
    exact Or.inr ⟨rfl, rfl⟩
  · rw [if_neg a, if_neg (fun z => a (e1.mp z))]
    by_cases c : 1000 < v
    · rw [if_pos c, if_pos (e2.mpr c)]
      exact Or.inr ⟨rfl, rfl⟩
    · rw [if_neg c, if_neg (fun z => c (e2.mp z))]
      rw [Int32.lt_iff_toInt_lt] at a c
      have t1 : (-1 : Int32).toInt = -1 := rfl
      have t2 : (1000 : Int32).toInt = 1000 := rfl
      rw [t1] at a
      rw [t2] at c
      refine Or.inl ⟨?_, rfl, rfl⟩
      by_cases d : v.toInt = -1
      · left
        apply Int32.toInt_inj.mp
        rw [d]; rfl
      · right
        refine ⟨v.toInt.toNat, by omega, ?_⟩
        apply Int32.toInt_inj.mp
        rw [nI_toInt (by omega)]
        omega
theorem crash_al (h : Sm q B N1 b N2) : cp_364_0 v1 N1 ∧ cp_590_0 v1 N2 ∧ cal q B b N1 N2 ((cf_364_0 v1 N1).1, (), (cf_364_0 v1 N1).2) ((), cf_590_0 v1 N2) := by
  obtain ⟨p1, c1⟩ := in_f v1
  rcases h with h | h
  · obtain ⟨w1, w2⟩ := Sm_u h
    obtain ⟨u1, u2⟩ := c104_u w1
    obtain ⟨F1, F2⟩ := f462_u (a := true) (st := true) w2
    have F2' : cf_462_0 true true N2 = (false, mz_pI N2 232 0 0) := F2
    obtain ⟨F3, F4⟩ := f462_u (a := false) (st := true) w2
    have F4' : cf_462_0 false true N2 = (true, mz_pI N2 232 0 1) := F4
    obtain ⟨p, C, s, D, H, x, L, R, h1, h2, h3, h4, h5, h6⟩ := id h
    rcases c1 with ⟨hv, i1, j1⟩ | ⟨i1, j1⟩
    · have e1 : cf_364_0 v1 N1 = (0, mz_pI N1 219 8 v1) := by simp [cf_364_0, u2, i1]
      have e2 : cf_590_0 v1 N2 = mz_pI (mz_pI N2 232 0 0) 232 136 v1 := by simp [cf_590_0, j1, F2']
      have P1 : cp_364_0 v1 N1 := by simp [cp_364_0, u1, u2, p1]
      have P2 : cp_590_0 v1 N2 := by simp [cp_590_0, j1, F1]
      have f1 : fq [219] [] N1 (mz_pI N1 219 8 v1) := fq_pI (fq_refl _ _ _) rfl
      have f2 : fq [232] [] N2 (mz_pI (mz_pI N2 232 0 0) 232 136 v1) := fq_pI (fq_pI (fq_refl _ _ _) rfl) rfl
      have k1 : ∀ f, f ≠ 8 → (mz_pI N1 219 8 v1).1 219 f = N1.1 219 f := fun f g => by rw [pI_s, sI_e, up_a, if_neg g]
      have k2 : ∀ f, f ≠ 0 → f ≠ 136 → (mz_pI (mz_pI N2 232 0 0) 232 136 v1).1 232 f = N2.1 232 f := fun f g g' => by rw [pI_s, sI_e, up_a, if_neg g', pI_s, sI_e, up_a, if_neg g]
      have z1 : (mz_pI N1 219 8 v1).1 219 8 = v1 := by rw [pI_s, sI_e, up_a, if_pos rfl]
      have z2 : (mz_pI (mz_pI N2 232 0 0) 232 136 v1).1 232 136 = v1 := by rw [pI_s, sI_e, up_a, if_pos rfl]
      have z0 : (mz_pI (mz_pI N2 232 0 0) 232 136 v1).1 232 0 = 0 := by rw [pI_s, sI_e, up_a, if_neg (by decide)]; exact code_0
      generalize mz_pI N1 219 8 v1 = M1 at e1 f1 k1 z1
      generalize mz_pI (mz_pI N2 232 0 0) 232 136 v1 = M2 at e2 f2 k2 z2 z0
      rw [e1, e2]
      refine ⟨P1, P2, cal_u z0 rfl (oF_q f1 f2 rfl rfl rfl rfl) ⟨p, C, (s.1, v1, s.2.2), D, H, x, L, R, h1, h2, ⟨⟨⟨?_, ?_, ?_, ckp_q h3.cs.ks.kc f1 rfl rfl, rkp_q h3.cs.ks.kr f2 rfl rfl (k2 27 (by decide) (by decide)) (k2 21 (by decide) (by decide)) (fun f _ => by rw [f2.2 232 rfl]), h3.cs.ks.hb, zv_f h3.cs.ks.zv (f1.1 134 rfl)⟩, crC_f h3.cs.cc f1 rfl rfl, crR_f h3.cs.cr f2 rfl rfl (k2 96 (by decide) (by decide)) (by rw [f2.2 232 rfl]) rfl⟩, LR_q h3.lr f1 f2 rfl rfl rfl rfl (fun f hf => k2 f (by omega) (by omega)) (fun f _ => by rw [f2.2 232 rfl]), h3.iv⟩, RsR_f h4 (rsF_q f1 f2 rfl rfl rfl (fun f hf => k2 f (rsI_ne hf rfl) (rsI_ne hf rfl))) (fun _ _ z => z) rfl rfl rfl h4.pn, h5, h6⟩⟩
      · obtain ⟨⟨⟨s1, s2, s3⟩, s4⟩, s5⟩ := h3.cs.ks.ok
        exact ⟨⟨⟨s1, hv, s3⟩, s4⟩, s5⟩
      · obtain ⟨s1, s2, s3, s4, s5, s6, s7, s8⟩ := h3.cs.ks.c
        refine ⟨?_, (k1 4 (by decide)).trans s2, (k1 5 (by decide)).trans s3, (k1 6 (by decide)).trans s4, (k1 7 (by decide)).trans s5, z1, by rw [f1.1 223 rfl]; exact s7, by rw [f1.1 224 rfl]; exact s8⟩
        intro a ha j hj
        have e : M1.1 (221 + a) = N1.1 (221 + a) := by rcases (show a = 0 ∨ a = 1 by omega) with w | w <;> subst w <;> exact f1.1 _ rfl
        show M1.1 (221 + a) j = nI (s.1 a j)
        rw [e]; exact s1 a ha j hj
      · obtain ⟨s1, s2, s3, s4, s5, s6, s7, s8⟩ := h3.cs.ks.r
        refine ⟨?_, (k2 133 (by decide) (by decide)).trans s2, by rw [f2.2 232 rfl]; exact s3, (k2 135 (by decide) (by decide)).trans s4, (k2 137 (by decide) (by decide)).trans s5, z2, by rw [f2.1 331 rfl]; exact s7, by rw [f2.1 330 rfl]; exact s8⟩
        unfold r_dk at s1 ⊢; show ∀ a, a < 2 → ∀ j, j < 9600 → M2.1 329 _ = by8 (s.1 a j); rw [f2.1 329 rfl]; exact s1
    · exact ⟨by simp [cp_364_0, u1, u2, p1], by simp [cp_590_0, j1, F3], Sm_r (a := ()) (a' := ()) (Or.inl h) (Or.inl rfl) (by simp [cf_364_0, u2, i1]) (by simp [cf_590_0, j1, F4', n01])⟩
  · obtain ⟨w1, w2⟩ := Sm_d h
    obtain ⟨u1, u2⟩ := c104_d w1
    obtain ⟨F1, F2⟩ := F_d w2
    exact ⟨by simp [cp_364_0, u1, u2], by simp [cp_590_0, F1], Sm_r (a := ()) (a' := ()) (Or.inr h) (Or.inr rfl) (by simp [cf_364_0, u2]) (by simp [cf_590_0, F2]; rfl)⟩
end Rc
