/-! PURE (50zzzzzi): more calls that only ask: spaces, rows, tickets. -/
section A4
variable {N N1 N2 : mz_N} {b : Bool} {B q n m : Nat} {s : st_S} {D H : Kp} {x : CrS} {L : LvS} {R : RsS} {v v1 v2 v3 : Int32} {e : Nat → Nat} {k : Nat}
theorem b01_add (n : Nat) (z : Bool) : nI n + mz_b01 z = nI (n + cond z 1 0) := by cases z; exact nI_add n 0; exact nI_add n 1
theorem sp_in (h : MR q B s D H x L N1 b N2) : cp_105_0 v 0 (N1.1 2 7 - 1) ∧ ((∃ k, k < pl_n (H.1 0) ∧ v = nI k ∧ cf_105_0 v 0 (N1.1 2 7 - 1) = 0 ∧ cf_466_0 v.toInt64 0 ((N2.1 232 7 - 1).toInt64) = true) ∨ (cf_105_0 v 0 (N1.1 2 7 - 1) = 1 ∧ cf_466_0 v.toInt64 0 ((N2.1 232 7 - 1).toInt64) = false)) := by
  have ga : N1.1 2 7 = nI (pl_n (H.1 0)) := h.lr.pl.1.1
  have gb : N2.1 232 7 = nI (pl_n (H.1 0)) := h.lr.pl.2.1
  have h1 : 0 < pl_n (H.1 0) := Nat.lt_of_le_of_lt (Nat.zero_le _) (pl_lab_lt (e := H.1 0) (c := 0) (by omega))
  have h2 := h.iv.pl.n
  rw [ga, gb]
  generalize pl_n (H.1 0) = n at h1 h2
  rw [nI_pr (by omega)]
  obtain ⟨p, c⟩ := in_r (n - 1) (by omega) v (w := nI (n - 1)) (g := (nI (n - 1)).toInt64) rfl rfl
  refine ⟨p, ?_⟩
  rcases c with ⟨k, hk, e1, e2, e3⟩ | c
  · exact Or.inl ⟨k, by omega, e1, e2, e3⟩
  · exact Or.inr c
theorem sm_of {fl : Nat → Nat} (h : c_pl e fl N) : c_sm e N := ⟨fun k hk => ⟨(h.2.1.2.1 k hk).2.2.1, (h.2.1.2.1 k hk).2.2.2.2⟩, h.2.1.2.2⟩
theorem nfs_of (h : clC N L.k) : nfs N := by
  obtain ⟨fi, f1, f2⟩ := h.fi
  refine ⟨by rw [f1]; exact z01_b01 _, fun z c hc => ?_⟩
  rw [f1] at z
  cases fi with
  | true => cases z
  | false => rw [h.sm c hc]; exact (f2 rfl c hc).2
theorem detected_ok (h : MR q B s D H x L N1 b N2) : cp_293_0 v1 N1 ∧ cp_555_0 v1 N2 ∧ qok N2 (cf_293_0 v1 N1) (cf_555_0 v1 N2) := by
  obtain ⟨u1, u2⟩ := c104_u (MR_u1 h)
  obtain ⟨p1, c1⟩ := sp_in (v := v1) h
  obtain ⟨F1, F2⟩ := F_t h
  obtain ⟨F3, F4⟩ := F_f h
  have hn := h.iv.pl.n
  rcases c1 with ⟨k, hk, rfl, i1, j1⟩ | ⟨i1, j1⟩
  · obtain ⟨d1, d2⟩ := det_c hn (sm_of h.lr.pl.1) (nfs_of h.lr.kc) hk
    obtain ⟨r1, r2⟩ := sum_r (N := mz_pI N2 232 0 0) (e := H.1 0) (k := k) (a1 := 265) h.lr.pl.2.2.1 (by omega)
    obtain ⟨s1, s2⟩ := sz_b hk
    have g37 : (mz_gI (mz_pI N2 232 0 0) 237 (nI k)).toInt64 = lN (pl_sz (H.1 0) k) := by rw [gI_a, nI_clamp (by omega)]; show (N2.1 237 k).toInt64 = _; rw [(h.lr.pl.2.2.2.1 k hk).2, nI_L (by omega)]
    have e1 : dtc (H.1 0) (N1.2 71) k = dtc (H.1 0) L.k.sm k := dtc_cg h.lr.kc.sm
    have e2 : cf_556_0 (nI k) (mz_pI N2 232 0 0) = dtc (H.1 0) L.k.sm k := by
      rw [cf_556_0, r2, g37, ← dtc_cg (w := N2.2 265) h.lr.kr.sm, dtc]
      show (if 20 * lN (pl_sz (H.1 0) k) < ts (H.1 0) (N2.2 265) k then true else false) = decide (20 * lN (pl_sz (H.1 0) k) < ts (H.1 0) (N2.2 265) k)
      split
      · rename_i z; rw [decide_eq_true z]
      · rename_i z; rw [decide_eq_false z]
    have d3 : cp_556_0 (nI k) (mz_pI N2 232 0 0) := by rw [cp_556_0]; exact ⟨r1, ib_n (by omega) (by omega)⟩
    rw [e1] at d2
    generalize dtc (H.1 0) L.k.sm k = z at d2 e2
    cases z <;> simp [cp_293_0, cf_293_0, cp_555_0, cf_555_0, cp_555_21, cf_555_21, cp_555_33, cf_555_33, u1, u2, p1, i1, j1, F1, F2, qok, n00, d1, d2, d3, e2]
  · simp [cp_293_0, cf_293_0, cp_555_0, cf_555_0, cp_555_33, cf_555_33, u1, u2, p1, i1, j1, F3, F4, qok, n01]
theorem space_ok (h : MR q B s D H x L N1 b N2) : cp_156_0 v1 v2 N1 ∧ cp_486_0 v1 v2 N2 ∧ qok N2 (cf_156_0 v1 v2 N1) (cf_486_0 v1 v2 N2) := by
  obtain ⟨u1, u2⟩ := c104_u (MR_u1 h)
  obtain ⟨p1, c1⟩ := sp_in (v := v1) h
  obtain ⟨p2, c2⟩ := in_r 6 (by omega) v2 (w := 6) (g := 6) rfl rfl
  obtain ⟨F1, F2⟩ := F_t h
  obtain ⟨F3, F4⟩ := F_f h
  have hn := h.iv.pl.n
  rcases c1 with ⟨k, hk, rfl, i1, j1⟩ | ⟨i1, j1⟩
  · rcases c2 with ⟨a2, ha2, rfl, i2, j2⟩ | ⟨i2, j2⟩
    · obtain ⟨d1, d2⟩ := wrm_c hn (sm_of h.lr.pl.1) hk
      obtain ⟨r1, r2⟩ := sum_r (N := mz_pI N2 232 0 0) (e := H.1 0) (k := k) (a1 := 260) h.lr.pl.2.2.1 (by omega)
      obtain ⟨s1, s2⟩ := sz_b hk
      have g37 : (100 : Int64) * (mz_gI (mz_pI N2 232 0 0) 237 (nI k)).toInt64 = lN (100 * pl_sz (H.1 0) k) := by rw [gI_a, nI_clamp (by omega)]; show (100 : Int64) * (N2.1 237 k).toInt64 = _; rw [(h.lr.pl.2.2.2.1 k hk).2, nI_L (by omega), show (100 : Int64) = lN 100 from rfl, lN_mul]
      have d3 : cp_487_0 (nI k) (mz_pI N2 232 0 0) := by rw [cp_487_0, r2, g37]; exact ⟨r1, ib_n (by omega) (by omega), by_p (by omega) (by omega)⟩
      have e1 : wrm (H.1 0) (N1.2 68) k = wrm (H.1 0) L.k.h k := by unfold wrm; rw [ts_congr h.lr.kc.h]
      have e2 : cf_487_0 (nI k) (mz_pI N2 232 0 0) = wrm (H.1 0) L.k.h k := by
        rw [cf_487_0, r2, g37]
        show cf_489_0 (ts (H.1 0) (N2.2 260) k) _ = _
        rw [ts_congr h.lr.kr.h]; rfl
      rw [e1] at d2
      generalize wrm (H.1 0) L.k.h k = W at d2 e2
      obtain ⟨l1, l2, l3, l4, l5⟩ := h.lr.pl.1.2.1.2.1 k hk
      obtain ⟨m1, m2, _, _⟩ := h.lr.pl.1.2.2.1 k hk
      obtain ⟨t1, t2⟩ := h.lr.pl.2.2.2.1 k hk
      obtain ⟨t3, t4⟩ := h.lr.pl.2.2.2.2.1 k hk
      obtain ⟨f1, f2⟩ := flt_r (N := mz_pI N2 232 0 0) (e := H.1 0) (fl := H.1 1) (by omega) hk h.cs.ks.kr.2.1 (fun k hk => (h.lr.pl.2.2.2.1 k hk).1)
      have lc := (pl_lc_ok (e := H.1 0) hk).1
      have c0 : mz_gI (mz_pI N2 232 0 0) 236 (nI k) = nI (pl_lc (H.1 0) k) := by rw [gI_a, nI_clamp (by omega)]; exact t1
      have c2 : mz_gI (mz_pI N2 232 0 0) 237 (nI k) = nI (pl_sz (H.1 0) k) := by rw [gI_a, nI_clamp (by omega)]; exact t2
      have c4 : mz_gI (mz_pI N2 232 0 0) 240 (nI k) = nI (pl_hv (H.1 0) k) := by rw [gI_a, nI_clamp (by omega)]; exact t3
      have c5 : mz_gI (mz_pI N2 232 0 0) 241 (nI k) = nI (pl_gl (H.1 0) k) := by rw [gI_a, nI_clamp (by omega)]; exact t4
      generalize H.1 1 (pl_lc (H.1 0) k) = fv at l4 f2
      generalize pl_lc (H.1 0) k = lcv at l1 l2 lc c0
      generalize pl_sz (H.1 0) k = szv at l3 c2
      generalize pl_hv (H.1 0) k = hvv at m1 c4
      generalize pl_gl (H.1 0) k = glv at m2 c5
      have q0 : nI lcv / 48 = nI (lcv / 48) := by rw [show (48 : Int32) = nI 48 from rfl, pk_div (by omega) (by omega) (by omega)]
      have q1 : mz_irem (nI lcv) 48 = nI (lcv % 48) := by rw [show (48 : Int32) = nI 48 from rfl, irem_n (by omega) (by omega) (by omega)]
      have ib : mz_ib (nI k) 40 := ib_n (by omega) (by omega)
      have ib2 : mz_ib (nI k) 240 := ib_n (by omega) (by omega)
      have ib3 : a2 ≠ 6 → mz_ib (nI a2) 13 := fun _ => ib_n (by omega) (by omega)
      have cl : (nI a2).toNatClampNeg = a2 := nI_clamp (by omega)
      have ga : mz_gI N1 (17 + a2) (nI k) = N1.1 (17 + a2) k := by rw [gI_a, nI_clamp (by omega)]
      have z0 : (nI a2 = 0) = (a2 = 0) := nI_lit (c := 0) (by omega) (by omega)
      have z1 : (nI a2 = 1) = (a2 = 1) := nI_lit (c := 1) (by omega) (by omega)
      have z2 : (nI a2 = 2) = (a2 = 2) := nI_lit (c := 2) (by omega) (by omega)
      have z3 : (nI a2 = 3) = (a2 = 3) := nI_lit (c := 3) (by omega) (by omega)
      have z4 : (nI a2 = 4) = (a2 = 4) := nI_lit (c := 4) (by omega) (by omega)
      have z5 : (nI a2 = 5) = (a2 = 5) := nI_lit (c := 5) (by omega) (by omega)
      have z6 : (nI a2 = 6) = (a2 = 6) := nI_lit (c := 6) (by omega) (by omega)
      rcases (show a2 = 0 ∨ a2 = 1 ∨ a2 = 2 ∨ a2 = 3 ∨ a2 = 4 ∨ a2 = 5 ∨ a2 = 6 by omega) with w | w | w | w | w | w | w
      · have w0 : (a2 = 0) = True := eq_true w
        have w1 : (a2 = 1) = False := eq_false (by omega)
        have w2 : (a2 = 2) = False := eq_false (by omega)
        have w3 : (a2 = 3) = False := eq_false (by omega)
        have w4 : (a2 = 4) = False := eq_false (by omega)
        have w5 : (a2 = 5) = False := eq_false (by omega)
        have w6 : (a2 = 6) = False := eq_false (by omega)
        have w9 : N1.1 (17 + a2) k = N1.1 (17 + 0) k := by rw [w]
        have w8 : N1.1 (17 + 0) k = _ := l1
        simp [cp_156_0, cf_156_0, cp_486_0, cf_486_0, cp_486_34, cf_486_34, u1, u2, p1, p2, i1, i2, j1, j2, F1, F2, qok, n00, cl, z0, z1, z2, z3, z4, z5, z6, w0, w1, w2, w3, w4, w5, w6, d1, d2, d3, e2, c0, c2, c4, c5, f1, f2, q0, q1, ib, ib2, ga, ib3 (by omega), w9, w8]
      · have w0 : (a2 = 0) = False := eq_false (by omega)
        have w1 : (a2 = 1) = True := eq_true w
        have w2 : (a2 = 2) = False := eq_false (by omega)
        have w3 : (a2 = 3) = False := eq_false (by omega)
        have w4 : (a2 = 4) = False := eq_false (by omega)
        have w5 : (a2 = 5) = False := eq_false (by omega)
        have w6 : (a2 = 6) = False := eq_false (by omega)
        have w9 : N1.1 (17 + a2) k = N1.1 (17 + 1) k := by rw [w]
        have w8 : N1.1 (17 + 1) k = _ := l2
        simp [cp_156_0, cf_156_0, cp_486_0, cf_486_0, cp_486_34, cf_486_34, u1, u2, p1, p2, i1, i2, j1, j2, F1, F2, qok, n00, cl, z0, z1, z2, z3, z4, z5, z6, w0, w1, w2, w3, w4, w5, w6, d1, d2, d3, e2, c0, c2, c4, c5, f1, f2, q0, q1, ib, ib2, ga, ib3 (by omega), w9, w8]
      · have w0 : (a2 = 0) = False := eq_false (by omega)
        have w1 : (a2 = 1) = False := eq_false (by omega)
        have w2 : (a2 = 2) = True := eq_true w
        have w3 : (a2 = 3) = False := eq_false (by omega)
        have w4 : (a2 = 4) = False := eq_false (by omega)
        have w5 : (a2 = 5) = False := eq_false (by omega)
        have w6 : (a2 = 6) = False := eq_false (by omega)
        have w9 : N1.1 (17 + a2) k = N1.1 (17 + 2) k := by rw [w]
        have w8 : N1.1 (17 + 2) k = _ := l3
        simp [cp_156_0, cf_156_0, cp_486_0, cf_486_0, cp_486_34, cf_486_34, u1, u2, p1, p2, i1, i2, j1, j2, F1, F2, qok, n00, cl, z0, z1, z2, z3, z4, z5, z6, w0, w1, w2, w3, w4, w5, w6, d1, d2, d3, e2, c0, c2, c4, c5, f1, f2, q0, q1, ib, ib2, ga, ib3 (by omega), w9, w8]
      · have w0 : (a2 = 0) = False := eq_false (by omega)
        have w1 : (a2 = 1) = False := eq_false (by omega)
        have w2 : (a2 = 2) = False := eq_false (by omega)
        have w3 : (a2 = 3) = True := eq_true w
        have w4 : (a2 = 4) = False := eq_false (by omega)
        have w5 : (a2 = 5) = False := eq_false (by omega)
        have w6 : (a2 = 6) = False := eq_false (by omega)
        have w9 : N1.1 (17 + a2) k = N1.1 (17 + 3) k := by rw [w]
        have w8 : N1.1 (17 + 3) k = _ := l4
        simp [cp_156_0, cf_156_0, cp_486_0, cf_486_0, cp_486_34, cf_486_34, u1, u2, p1, p2, i1, i2, j1, j2, F1, F2, qok, n00, cl, z0, z1, z2, z3, z4, z5, z6, w0, w1, w2, w3, w4, w5, w6, d1, d2, d3, e2, c0, c2, c4, c5, f1, f2, q0, q1, ib, ib2, ga, ib3 (by omega), w9, w8]
      · have w0 : (a2 = 0) = False := eq_false (by omega)
        have w1 : (a2 = 1) = False := eq_false (by omega)
        have w2 : (a2 = 2) = False := eq_false (by omega)
        have w3 : (a2 = 3) = False := eq_false (by omega)
        have w4 : (a2 = 4) = True := eq_true w
        have w5 : (a2 = 5) = False := eq_false (by omega)
        have w6 : (a2 = 6) = False := eq_false (by omega)
        have w9 : N1.1 (17 + a2) k = N1.1 (17 + 4) k := by rw [w]
        have w8 : N1.1 (17 + 4) k = _ := m1
        simp [cp_156_0, cf_156_0, cp_486_0, cf_486_0, cp_486_34, cf_486_34, u1, u2, p1, p2, i1, i2, j1, j2, F1, F2, qok, n00, cl, z0, z1, z2, z3, z4, z5, z6, w0, w1, w2, w3, w4, w5, w6, d1, d2, d3, e2, c0, c2, c4, c5, f1, f2, q0, q1, ib, ib2, ga, ib3 (by omega), w9, w8]
      · have w0 : (a2 = 0) = False := eq_false (by omega)
        have w1 : (a2 = 1) = False := eq_false (by omega)
        have w2 : (a2 = 2) = False := eq_false (by omega)
        have w3 : (a2 = 3) = False := eq_false (by omega)
        have w4 : (a2 = 4) = False := eq_false (by omega)
        have w5 : (a2 = 5) = True := eq_true w
        have w6 : (a2 = 6) = False := eq_false (by omega)
        have w9 : N1.1 (17 + a2) k = N1.1 (17 + 5) k := by rw [w]
        have w8 : N1.1 (17 + 5) k = _ := m2
        simp [cp_156_0, cf_156_0, cp_486_0, cf_486_0, cp_486_34, cf_486_34, u1, u2, p1, p2, i1, i2, j1, j2, F1, F2, qok, n00, cl, z0, z1, z2, z3, z4, z5, z6, w0, w1, w2, w3, w4, w5, w6, d1, d2, d3, e2, c0, c2, c4, c5, f1, f2, q0, q1, ib, ib2, ga, ib3 (by omega), w9, w8]
      · have w0 : (a2 = 0) = False := eq_false (by omega)
        have w1 : (a2 = 1) = False := eq_false (by omega)
        have w2 : (a2 = 2) = False := eq_false (by omega)
        have w3 : (a2 = 3) = False := eq_false (by omega)
        have w4 : (a2 = 4) = False := eq_false (by omega)
        have w5 : (a2 = 5) = False := eq_false (by omega)
        have w6 : (a2 = 6) = True := eq_true w
        simp [cp_156_0, cf_156_0, cp_486_0, cf_486_0, cp_486_34, cf_486_34, u1, u2, p1, p2, i1, i2, j1, j2, F1, F2, qok, n00, cl, z0, z1, z2, z3, z4, z5, z6, w0, w1, w2, w3, w4, w5, w6, d1, d2, d3, e2, c0, c2, c4, c5, f1, f2, q0, q1, ib, ib2, ga]
    · simp [cp_156_0, cf_156_0, cp_486_0, cf_486_0, cp_486_33, cf_486_33, cp_486_34, cf_486_34, u1, u2, p1, p2, i1, i2, j1, j2, F3, F4, qok, n01]
  · simp [cp_156_0, cf_156_0, cp_486_0, cf_486_0, cp_486_33, cf_486_33, cp_486_34, cf_486_34, u1, u2, p1, i1, j1, F3, F4, qok, n01]
theorem rows_ok (h : MR q B s D H x L N1 b N2) : cp_366_0 v1 N1 ∧ cp_599_0 v1 N2 ∧ qok N2 (cf_366_0 v1 N1) (cf_599_0 v1 N2) := by
  obtain ⟨u1, u2⟩ := c104_u (MR_u1 h)
  obtain ⟨p1, c1⟩ := in_r 3 (by omega) v1 (w := 3) (g := 3) rfl rfl
  obtain ⟨F1, F2⟩ := F_t h
  obtain ⟨F3, F4⟩ := F_f h
  rcases c1 with ⟨a1, ha1, rfl, i1, j1⟩ | ⟨i1, j1⟩
  · obtain ⟨s1, s2, s3, s4, s5, s6, s7, s8⟩ := h.cs.ks.c
    obtain ⟨t1, t2, t3, t4, t5, t6, t7, t8⟩ := h.cs.ks.r
    obtain ⟨d1, d2⟩ := cnt_c (a := 224) (N := N1) s8
    have z0 : (nI a1 = 0) = (a1 = 0) := nI_lit (c := 0) (by omega) (by omega)
    have z1 : (nI a1 = 1) = (a1 = 1) := nI_lit (c := 1) (by omega) (by omega)
    have z2 : (nI a1 = 2) = (a1 = 2) := nI_lit (c := 2) (by omega) (by omega)
    have r8 : ∀ k, k < 135 → (mz_pI N2 232 0 0).1 330 k = nI (b1 (s.2.2.2.2.2.1 k)) := t8
    have g0 : (mz_pI N2 232 0 0).1 232 133 = nI s.2.2.1 := t2
    have g1 : ((mz_pI N2 232 0 0).2 232 134).toInt32 = nI s.2.2.2.1 := by show (N2.2 232 134).toInt32 = _; rw [t3, lN_i]
    have g2 : (mz_pI N2 232 0 0).1 232 135 = nI s.2.2.2.2.1 := t4
    generalize s.2.2.2.2.2.1 = kt at *
    generalize s.2.2.1 = x0 at *
    generalize s.2.2.2.1 = x1 at *
    generalize s.2.2.2.2.1 = x2 at *
    have L5 : cp_599_23 (nI a1) 0 0 (mz_pI N2 232 0 0) ∧ cf_599_23 (nI a1) 0 0 (mz_pI N2 232 0 0) = ((if a1 = 0 then nI x0 else if a1 = 1 then nI x1 else if a1 = 2 then nI x2 else nI (cnt kt 135)), mz_pI N2 232 0 0) := by
      refine mz_lps (f := cq_599_23 (nI a1) (mz_pI N2 232 0 0)) (P := cd_599_23 (nI a1) (mz_pI N2 232 0 0)) 135 (fun t => (nI (cnt kt t), nI t)) ?_ ?_ (Nat.zero_le _)
      · intro t ht
        have l : nI t < 135 := (nI_ltI (b := 135) (by omega) (by omega)).mpr ht
        have g : mz_gI (mz_pI N2 232 0 0) 330 (nI t) = nI (b1 (kt t)) := by rw [gI_a, nI_clamp (by omega)]; exact r8 t ht
        have gz : mz_gZ (mz_pI N2 232 0 0) 330 (nI t) = kt t := by rw [gZ_a, nI_clamp (by omega), r8 t ht]; cases kt t <;> rfl
        rw [cd_599_23, cq_599_23]
        simp only [l, if_true, g, gz]
        refine ⟨⟨fun _ => ⟨ib_n ht (by omega), z01_b _, fun _ => trivial, fun _ => trivial⟩, fun z => absurd trivial z⟩, ?_⟩
        have e0 : ∀ z : Bool, nI (cnt kt t) + mz_b01 z = nI (cnt kt t + cond z 1 0) := b01_add _
        rw [cnt]
        cases kt t <;> simp only [cf_599_45, e0, nI_1, if_true, Bool.false_eq_true, if_false]
      · have l : ¬ nI 135 < 135 := by decide
        rw [cd_599_23, cq_599_23]
        simp only [l, if_false, z0, z1, z2, g0, g1, g2]
        refine ⟨⟨False.elim, fun _ => trivial⟩, ?_⟩
        split
        · rfl
        · split
          · rfl
          · split <;> rfl
    obtain ⟨L6, L7⟩ := L5
    rcases (show a1 = 0 ∨ a1 = 1 ∨ a1 = 2 ∨ a1 = 3 by omega) with w | w | w | w
    · have w0 : (a1 = 0) = True := eq_true w
      simp only [w0, if_true] at L7
      simp [cp_366_0, cf_366_0, cp_599_0, cf_599_0, u1, u2, p1, i1, j1, F1, F2, qok, n00, z0, w0, L6, L7, s2]
    · have w0 : (a1 = 0) = False := eq_false (by omega)
      have w1 : (a1 = 1) = True := eq_true w
      simp only [w0, w1, if_true, if_false] at L7
      simp [cp_366_0, cf_366_0, cp_599_0, cf_599_0, u1, u2, p1, i1, j1, F1, F2, qok, n00, z0, z1, w0, w1, L6, L7, s3]
    · have w0 : (a1 = 0) = False := eq_false (by omega)
      have w1 : (a1 = 1) = False := eq_false (by omega)
      have w2 : (a1 = 2) = True := eq_true w
      simp only [w0, w1, w2, if_true, if_false] at L7
      simp [cp_366_0, cf_366_0, cp_599_0, cf_599_0, u1, u2, p1, i1, j1, F1, F2, qok, n00, z0, z1, z2, w0, w1, w2, L6, L7, s4]
    · have w0 : (a1 = 0) = False := eq_false (by omega)
      have w1 : (a1 = 1) = False := eq_false (by omega)
      have w2 : (a1 = 2) = False := eq_false (by omega)
      simp only [w0, w1, w2, if_false] at L7
      simp [cp_366_0, cf_366_0, cp_599_0, cf_599_0, u1, u2, p1, i1, j1, F1, F2, qok, n00, z0, z1, z2, w0, w1, w2, L6, L7, d1, d2]
  · simp [cp_366_0, cf_366_0, cp_599_0, cf_599_0, u1, u2, p1, i1, j1, F3, F4, qok, n01]
/-- how many tickets there are -/
theorem tk_n (h1 : ∀ j, j < 16 → N1.1 123 j = nI (H.1 8 j)) (h2 : ∀ j, j < 16 → N2.1 287 j = nI (H.1 8 j)) (hb : ∀ j, H.1 8 j ≤ 1) : (cp_331_0 N1 ∧ cf_331_0 N1 = nI (sumN (H.1 8) 16)) ∧ cp_562_0 N2 ∧ cf_562_0 N2 = nI (sumN (H.1 8) 16) := by
  refine ⟨?_, ?_⟩
  · refine mz_lps (f := cq_331_4 N1) (P := cd_331_4 N1) 16 (fun t => (nI (sumN (H.1 8) t), nI t)) ?_ ?_ (Nat.zero_le _)
    · intro t ht
      have l : nI t < 16 := (nI_ltI (b := 16) (by omega) (by omega)).mpr ht
      have g : mz_gI N1 123 (nI t) = nI (H.1 8 t) := by rw [gI_a, nI_clamp (by omega)]; exact h1 t ht
      rw [cd_331_4, cq_331_4]
      simp only [l, if_true, g, nI_add, nI_1]
      exact ⟨⟨fun _ => ib_n ht (by omega), fun z => absurd trivial z⟩, rfl⟩
    · have l : ¬ nI 16 < 16 := by decide
      rw [cd_331_4, cq_331_4]
      simp only [l, if_false]
      exact ⟨⟨False.elim, fun _ => trivial⟩, trivial⟩
  · refine mz_lps (f := cq_562_4 N2) (P := cd_562_4 N2) 16 (fun t => (nI (sumN (H.1 8) t), nI t)) ?_ ?_ (Nat.zero_le _)
    · intro t ht
      have l : nI t < 16 := (nI_ltI (b := 16) (by omega) (by omega)).mpr ht
      have g : mz_gI N2 287 (nI t) = nI (H.1 8 t) := by rw [gI_a, nI_clamp (by omega)]; exact h2 t ht
      have hx := hb t
      have gz : mz_gZ N2 287 (nI t) = decide (H.1 8 t = 1) := by
        rw [gZ_a, nI_clamp (by omega), h2 t ht]
        rcases (show H.1 8 t = 0 ∨ H.1 8 t = 1 by omega) with w | w <;> rw [w] <;> rfl
      rw [cd_562_4, cq_562_4]
      simp only [l, if_true, g, gz]
      refine ⟨⟨fun _ => ⟨ib_n ht (by omega), z01_n hx, fun _ => trivial, fun _ => trivial⟩, fun z => absurd trivial z⟩, ?_⟩
      have e0 : ∀ z : Bool, nI (sumN (H.1 8) t) + mz_b01 z = nI (sumN (H.1 8) t + cond z 1 0) := b01_add _
      rw [sumN]
      rcases (show H.1 8 t = 0 ∨ H.1 8 t = 1 by omega) with w | w
      · rw [w]
        have d : decide ((0 : Nat) = 1) = false := rfl
        simp only [cf_562_25, d, e0, nI_1, Bool.false_eq_true, if_false, cond_false]
      · rw [w]
        have d : decide ((1 : Nat) = 1) = true := rfl
        simp only [cf_562_25, decide_true, e0, nI_1, if_true, cond_true]
    · have l : ¬ nI 16 < 16 := by decide
      rw [cd_562_4, cq_562_4]
      simp only [l, if_false]
      exact ⟨⟨False.elim, fun _ => trivial⟩, trivial⟩
theorem tickets_ok (h : MR q B s D H x L N1 b N2) : cp_330_0 N1 ∧ cp_561_0 N2 ∧ qok N2 (cf_330_0 N1) (cf_561_0 N2) := by
  obtain ⟨u1, u2⟩ := c104_u (MR_u1 h)
  obtain ⟨F1, F2⟩ := F_c h
  obtain ⟨⟨a1, a2⟩, a3, a4⟩ := tk_n (N1 := N1) (N2 := mz_pI N2 232 0 0) (H := H) (fun j hj => (h.cs.ks.kc.2.2.2.2.2.2.2.2.2.2.2.2.2.1 j hj).1) (fun j hj => (h.cs.ks.kr.2.2.2.2.2.2.2.2.2.2.2.2.2.1 j hj).1) h.cs.ks.hb.2.2.2.2.2.2.2.2.2.1
  simp [cp_330_0, cf_330_0, cp_561_0, cf_561_0, u1, u2, F1, F2, qok, n00, a1, a2, a3, a4]
theorem isDown_al (h : Sm q B N1 b N2) : cp_100_0 N1 ∧ cp_591_0 N2 ∧ (cf_591_0 N2).1 = cf_100_0 N1 ∧ (cf_591_0 N2).2.1 232 0 = 0 ∧ oF N1 N2 N1 (cf_591_0 N2).2 ∧ Sm q B N1 b (cf_591_0 N2).2 := by
  have hz : mz_z01 (N1.1 219 7) ∧ mz_z01 (N2.1 232 137) ∧ N1.1 219 7 = N2.1 232 137 := by
    rcases h with h | h
    · obtain ⟨w1, w2⟩ := Sm_u h
      rw [w1, w2]; exact ⟨Or.inl rfl, Or.inl rfl, rfl⟩
    · obtain ⟨w1, w2⟩ := Sm_d h
      rw [w1, w2]; exact ⟨Or.inr rfl, Or.inr rfl, rfl⟩
  refine ⟨hz.1, hz.2.1, ?_, code_0, oF_code, Sm_code h⟩
  rw [cf_591_0, cf_100_0]
  show decide (N2.1 232 137 = 1) = decide (N1.1 219 7 = 1)
  rw [hz.2.2]
end A4
