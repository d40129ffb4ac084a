/-! PURE (50zzzzzh): more calls that only ask. -/
section A3
variable {N N1 N2 : mz_N} {b : Bool} {B q n m : Nat} {s : st_S} {D H : Kp} {x : CrS} {L : LvS} {R : RsS} {v v1 v2 v3 : Int32}
theorem disk_ok (h : MR q B s D H x L N1 b N2) : cp_368_0 v1 v2 v3 N1 ∧ cp_600_0 v1 v2 v3 N2 ∧ qok N2 (cf_368_0 v1 v2 v3 N1) (cf_600_0 v1 v2 v3 N2) := by
  obtain ⟨u1, u2⟩ := c104_u (MR_u1 h)
  obtain ⟨p1, c1⟩ := in_r 1 (by omega) v1 (w := 1) (g := 1) rfl rfl
  obtain ⟨p2, c2⟩ := in_r 199 (by omega) v2 (w := 199) (g := 199) rfl rfl
  obtain ⟨p3, c3⟩ := in_r 47 (by omega) v3 (w := 47) (g := 47) rfl rfl
  obtain ⟨F1, F2⟩ := F_t h
  obtain ⟨F3, F4⟩ := F_f h
  rcases c1 with ⟨a1, ha1, rfl, i1, j1⟩ | ⟨i1, j1⟩
  · rcases c2 with ⟨a2, ha2, rfl, i2, j2⟩ | ⟨i2, j2⟩
    · rcases c3 with ⟨a3, ha3, rfl, i3, j3⟩ | ⟨i3, j3⟩
      · have x1 : nI a2 * 48 + nI a3 = nI (48 * a2 + a3) := by rw [show (48 : Int32) = nI 48 from rfl, pk_mul, nI_add, Nat.mul_comm]
        have x2 : 9600 * nI a1 + 48 * nI a2 + nI a3 = nI (9600 * a1 + (48 * a2 + a3)) := by
          rw [show (9600 : Int32) = nI 9600 from rfl, show (48 : Int32) = nI 48 from rfl, pk_mul, pk_mul, nI_add, nI_add, Nat.add_assoc]
        have ib0 : mz_ib (nI a1) 2 := ib_n (by omega) (by omega)
        have ib : mz_ib (nI (48 * a2 + a3)) 9600 := ib_n (by omega) (by omega)
        have ib2 : mz_ib (nI (9600 * a1 + (48 * a2 + a3))) 19200 := ib_n (by omega) (by omega)
        have cl : (nI a1).toNatClampNeg = a1 := nI_clamp (by omega)
        have ga : mz_gI N1 (221 + a1) (nI (48 * a2 + a3)) = nI (s.1 a1 (48 * a2 + a3)) := by rw [gI_a, nI_clamp (by omega)]; exact h.cs.ks.c.1 a1 (by omega) _ (by omega)
        have gb : mz_gI (mz_pI N2 232 0 0) 329 (nI (9600 * a1 + (48 * a2 + a3))) = by8 (s.1 a1 (48 * a2 + a3)) := by rw [gI_a, nI_clamp (by omega)]; exact h.cs.ks.r.1 a1 (by omega) _ (by omega)
        have hd : s.1 a1 (48 * a2 + a3) < 256 := h.cs.ks.ok.1.1.1 _ _
        have gc := by8_and _ hd
        generalize s.1 a1 (48 * a2 + a3) = z at ga gb gc
        simp [cp_368_0, cf_368_0, cp_600_0, cf_600_0, cp_600_40, cf_600_40, u1, u2, p1, p2, p3, i1, i2, i3, j1, j2, j3, F1, F2, qok, n00, cl, x1, x2, ib0, ib, ib2, ga, gb, gc]
      · simp [cp_368_0, cf_368_0, cp_600_0, cf_600_0, cp_600_39, cf_600_39, cp_600_40, cf_600_40, u1, u2, p1, p2, p3, i1, i2, i3, j1, j2, j3, F3, F4, qok, n01]
    · simp [cp_368_0, cf_368_0, cp_600_0, cf_600_0, cp_600_39, cf_600_39, cp_600_40, cf_600_40, u1, u2, p1, p2, i1, i2, j1, j2, F3, F4, qok, n01]
  · simp [cp_368_0, cf_368_0, cp_600_0, cf_600_0, cp_600_39, cf_600_39, cp_600_40, cf_600_40, u1, u2, p1, i1, j1, F3, F4, qok, n01]
theorem tape_ok (h : MR q B s D H x L N1 b N2) (hr : RsR H L R N1 N2) : cp_373_0 v1 N1 ∧ cp_602_0 v1 N2 ∧ qok N2 (cf_373_0 v1 N1) (cf_602_0 v1 N2) := by
  obtain ⟨u1, u2⟩ := c104_u (MR_u1 h)
  obtain ⟨t1, t2, t3, t4⟩ := hr.tp
  obtain ⟨p1, c1⟩ := m1_105 (v := v1) (n := R.tn) (by omega)
  rw [← t1] at p1 c1
  obtain ⟨F1, F2⟩ := F_t h
  obtain ⟨F3, F4⟩ := F_f h
  rcases c1 with ⟨k, hk, rfl, i1, j1, j2⟩ | ⟨i1, j1⟩
  · have ib : mz_ib (nI k) 4056 := ib_n (by omega) (by omega)
    have ib2 : mz_ib (nI k) 4100 := ib_n (by omega) (by omega)
    obtain ⟨y1, y2, y3⟩ := t4 k hk
    have ga : mz_gI N1 228 (nI k) = nI (R.ta k) := by rw [gI_a, nI_clamp (by omega)]; exact y1
    have gb : mz_gI (mz_pI N2 232 0 0) 334 (nI k) = by8 (R.ta k) := by rw [gI_a, nI_clamp (by omega)]; exact y2
    have gc := by8_and _ y3
    rw [t1] at j2
    simp [cp_373_0, cf_373_0, cp_602_0, cf_602_0, cp_602_18, cf_602_18, u1, u2, p1, i1, j1, j2, t2, F1, F2, qok, n00, ib, ib2, ga, gb, gc]
  · rw [t1] at j1
    by_cases a : v1 < 0
    · simp [cp_373_0, cf_373_0, cp_602_0, cf_602_0, cp_602_17, cf_602_17, cp_602_18, cf_602_18, u1, u2, p1, i1, a, F3, F4, qok, n01]
    · have a2 : ¬ v1 < nI R.tn := by rcases j1 with z | z; exact absurd z a; exact z
      simp [cp_373_0, cf_373_0, cp_602_0, cf_602_0, cp_602_17, cf_602_17, cp_602_18, cf_602_18, u1, u2, p1, i1, a, a2, t2, F3, F4, qok, n01]
theorem log_ok (h : MR q B s D H x L N1 b N2) (hr : RsR H L R N1 N2) (hl : R.lg < 2 ^ 31) : cp_321_0 v1 v2 N1 ∧ cp_585_0 v1 v2 N2 ∧ qok N2 (cf_321_0 v1 v2 N1) (cf_585_0 v1 v2 N2) := by
  obtain ⟨u1, u2⟩ := c104_u (MR_u1 h)
  obtain ⟨t1, t2⟩ := hr.lg
  obtain ⟨p1, c1⟩ := kept_in (v := v1) (n := R.lg) (m := 64) hl (by omega)
  have e64 : nI 64 = 64 := rfl
  rw [e64] at p1 c1
  obtain ⟨p2, c2⟩ := in_r 3 (by omega) v2 (w := 3) (g := 3) rfl rfl
  obtain ⟨F1, F2⟩ := F_t h
  obtain ⟨F3, F4⟩ := F_f h
  rcases c1 with ⟨k, hk, hk2, rfl, i1, j1⟩ | ⟨i1, j1⟩
  · rcases c2 with ⟨a2, ha2, rfl, i2, j2⟩ | ⟨i2, j2⟩
    · have x1 : mz_irem (nI R.lg - 1 - nI k) 64 = nI ((R.lg - 1 - k) % 64) := by rw [nI_pr (by omega), pk_sub (by omega), show (64 : Int32) = nI 64 from rfl, irem_n (by omega) (by omega) (by omega)]
      have t2' : (mz_pI N2 232 0 0).1 232 112 = nI R.lg := t2
      have hz : (R.lg - 1 - k) % 64 < 64 := Nat.mod_lt _ (by omega)
      have hz2 : (R.lg - 1 - k) % 64 < R.lg := Nat.lt_of_le_of_lt (Nat.mod_le _ _) (by omega)
      generalize (R.lg - 1 - k) % 64 = z at x1 hz hz2
      obtain ⟨y1, y2, y3, y4⟩ := hr.lo z hz hz2
      have ib : mz_ib (nI z) 64 := ib_n hz (by omega)
      have ib2 : mz_ib (nI a2) 4 := ib_n (by omega) (by omega)
      have cl : (nI a2).toNatClampNeg = a2 := nI_clamp (by omega)
      have z0 : (nI a2 = 0) = (a2 = 0) := nI_lit (c := 0) (by omega) (by omega)
      have z1 : (nI a2 = 1) = (a2 = 1) := nI_lit (c := 1) (by omega) (by omega)
      have z2 : (nI a2 = 2) = (a2 = 2) := nI_lit (c := 2) (by omega) (by omega)
      have g0 : (mz_gL (mz_pI N2 232 0 0) 317 (nI z)).toInt32 = N1.1 111 z := by rw [gL_a, nI_clamp (by omega)]; exact y1.symm
      have g1 : mz_gI (mz_pI N2 232 0 0) 318 (nI z) = N1.1 112 z := by rw [gI_a, nI_clamp (by omega)]; exact y2.symm
      have g2 : mz_gI (mz_pI N2 232 0 0) 319 (nI z) = N1.1 113 z := by rw [gI_a, nI_clamp (by omega)]; exact y3.symm
      have g3 : mz_gI (mz_pI N2 232 0 0) 320 (nI z) = N1.1 114 z := by rw [gI_a, nI_clamp (by omega)]; exact y4.symm
      have ga : mz_gI N1 (111 + a2) (nI z) = N1.1 (111 + a2) z := by rw [gI_a, nI_clamp (by omega)]
      rcases (show a2 = 0 ∨ a2 = 1 ∨ a2 = 2 ∨ a2 = 3 by omega) with w | w | w | w
      · have w0 : (a2 = 0) = True := eq_true w
        have w3 : N1.1 (111 + a2) z = N1.1 111 z := by rw [w]
        simp [cp_321_0, cf_321_0, cp_585_0, cf_585_0, cp_585_31, cf_585_31, u1, u2, p1, p2, i1, i2, j1, j2, F1, F2, qok, n00, t1, t2, t2', x1, cl, ib, ib2, z0, z1, z2, w0, g0, g1, g2, g3, ga, w3]
      · have w0 : (a2 = 0) = False := eq_false (by omega)
        have w1 : (a2 = 1) = True := eq_true w
        have w3 : N1.1 (111 + a2) z = N1.1 112 z := by rw [w]
        simp [cp_321_0, cf_321_0, cp_585_0, cf_585_0, cp_585_31, cf_585_31, u1, u2, p1, p2, i1, i2, j1, j2, F1, F2, qok, n00, t1, t2, t2', x1, cl, ib, ib2, z0, z1, z2, w0, w1, g0, g1, g2, g3, ga, w3]
      · have w0 : (a2 = 0) = False := eq_false (by omega)
        have w1 : (a2 = 1) = False := eq_false (by omega)
        have w2 : (a2 = 2) = True := eq_true w
        have w3 : N1.1 (111 + a2) z = N1.1 113 z := by rw [w]
        simp [cp_321_0, cf_321_0, cp_585_0, cf_585_0, cp_585_31, cf_585_31, u1, u2, p1, p2, i1, i2, j1, j2, F1, F2, qok, n00, t1, t2, t2', x1, cl, ib, ib2, z0, z1, z2, w0, w1, w2, g0, g1, g2, g3, ga, w3]
      · have w0 : (a2 = 0) = False := eq_false (by omega)
        have w1 : (a2 = 1) = False := eq_false (by omega)
        have w2 : (a2 = 2) = False := eq_false (by omega)
        have w3 : N1.1 (111 + a2) z = N1.1 114 z := by rw [w]
        simp [cp_321_0, cf_321_0, cp_585_0, cf_585_0, cp_585_31, cf_585_31, u1, u2, p1, p2, i1, i2, j1, j2, F1, F2, qok, n00, t1, t2, t2', x1, cl, ib, ib2, z0, z1, z2, w0, w1, w2, g0, g1, g2, g3, ga, w3]
    · simp [cp_321_0, cf_321_0, cp_585_0, cf_585_0, cp_585_30, cf_585_30, cp_585_31, cf_585_31, u1, u2, p1, p2, i1, i2, j1, j2, F3, F4, qok, n01, t1, t2]
  · simp [cp_321_0, cf_321_0, cp_585_0, cf_585_0, cp_585_30, cf_585_30, cp_585_31, cf_585_31, u1, u2, p1, i1, j1, F3, F4, qok, n01, t1, t2]
theorem alarm_qok (h : MR q B s D H x L N1 b N2) (hq : q < 2 ^ 20) : cp_297_0 v1 v2 N1 ∧ cp_546_0 v1 v2 N2 ∧ qok N2 (cf_297_0 v1 v2 N1) (cf_546_0 v1 v2 N2) := by
  obtain ⟨u1, u2⟩ := c104_u (MR_u1 h)
  have t1 : N1.1 81 3 = nI L.w.2.2.2 := h.lr.wa.1.2.2
  have t2 : N2.1 232 72 = nI L.w.2.2.2 := h.lr.wa.2.1.2.2
  have hl := h.lr.wab.1
  have y := h.lr.wa.1.2.1
  have y' := h.lr.wa.2.1.2.1
  generalize L.w.2.2.2 = nn at t1 t2 hl y y'
  obtain ⟨p1, c1⟩ := kept_in (v := v1) (n := nn) (m := 32) (by omega) (by omega)
  have e64 : nI 32 = 32 := rfl
  rw [e64] at p1 c1
  obtain ⟨p2, c2⟩ := in_r 1 (by omega) v2 (w := 1) (g := 1) rfl rfl
  obtain ⟨F1, F2⟩ := F_t h
  obtain ⟨F3, F4⟩ := F_f h
  rcases c1 with ⟨k, hk, hk2, rfl, i1, j1⟩ | ⟨i1, j1⟩
  · rcases c2 with ⟨a2, ha2, rfl, i2, j2⟩ | ⟨i2, j2⟩
    · have x1 : mz_irem (nI nn - 1 - nI k) 32 = nI ((nn - 1 - k) % 32) := by rw [nI_pr (by omega), pk_sub (by omega), show (32 : Int32) = nI 32 from rfl, irem_n (by omega) (by omega) (by omega)]
      have t2' : (mz_pI N2 232 0 0).1 232 72 = nI nn := t2
      have hz : (nn - 1 - k) % 32 < 32 := Nat.mod_lt _ (by omega)
      have hzn : (nn - 1 - k) % 32 < nn := by have := Nat.mod_le (nn - 1 - k) 32; omega
      generalize (nn - 1 - k) % 32 = z at x1 hz hzn
      obtain ⟨y1, y2⟩ := y z hz hzn
      obtain ⟨y3, y4⟩ := y' z hz hzn
      have ib : mz_ib (nI z) 32 := ib_n hz (by omega)
      have ib2 : mz_ib (nI a2) 2 := ib_n (by omega) (by omega)
      have cl : (nI a2).toNatClampNeg = a2 := nI_clamp (by omega)
      have z0 : (nI a2 = 0) = (a2 = 0) := nI_lit (c := 0) (by omega) (by omega)
      have g0 : mz_gI (mz_pI N2 232 0 0) 280 (nI z) = nI (L.w.2.1 z) := by rw [gI_a, nI_clamp (by omega)]; exact y3
      have g1 : (mz_gL (mz_pI N2 232 0 0) 281 (nI z)).toInt32 = nI (L.w.2.2.1 z) := by rw [gL_a, nI_clamp (by omega)]; show (N2.2 281 z).toInt32 = _; rw [y4, lN_i]
      have ga : mz_gI N1 (85 + a2) (nI z) = N1.1 (85 + a2) z := by rw [gI_a, nI_clamp (by omega)]
      rcases (show a2 = 0 ∨ a2 = 1 by omega) with w | w
      · have w0 : (a2 = 0) = True := eq_true w
        have w3 : N1.1 (85 + a2) z = nI (L.w.2.1 z) := by rw [w]; exact y1
        simp [cp_297_0, cf_297_0, cp_546_0, cf_546_0, cp_546_29, cf_546_29, u1, u2, p1, p2, i1, i2, j1, j2, F1, F2, qok, n00, t1, t2, t2', x1, cl, ib, ib2, z0, w0, g0, g1, ga, w3]
      · have w0 : (a2 = 0) = False := eq_false (by omega)
        have w3 : N1.1 (85 + a2) z = nI (L.w.2.2.1 z) := by rw [w]; exact y2
        simp [cp_297_0, cf_297_0, cp_546_0, cf_546_0, cp_546_29, cf_546_29, u1, u2, p1, p2, i1, i2, j1, j2, F1, F2, qok, n00, t1, t2, t2', x1, cl, ib, ib2, z0, w0, g0, g1, ga, w3]
    · simp [cp_297_0, cf_297_0, cp_546_0, cf_546_0, cp_546_28, cf_546_28, cp_546_29, cf_546_29, u1, u2, p1, p2, i1, i2, j1, j2, F3, F4, qok, n01, t1, t2]
  · simp [cp_297_0, cf_297_0, cp_546_0, cf_546_0, cp_546_28, cf_546_28, cp_546_29, cf_546_29, u1, u2, p1, i1, j1, F3, F4, qok, n01, t1, t2]
theorem trend_ok (h : MR q B s D H x L N1 b N2) (hr : RsR H L R N1 N2) (hq : q < 2 ^ 20) : cp_326_0 v1 v2 N1 ∧ cp_559_0 v1 v2 N2 ∧ qok N2 (cf_326_0 v1 v2 N1) (cf_559_0 v1 v2 N2) := by
  obtain ⟨u1, u2⟩ := c104_u (MR_u1 h)
  obtain ⟨p1, c1⟩ := in_r 7 (by omega) v1 (w := 7) (g := 7) rfl rfl
  obtain ⟨F1, F2⟩ := F_t h
  obtain ⟨F3, F4⟩ := F_f h
  rcases c1 with ⟨k, hk, rfl, i1, j1⟩ | ⟨i1, j1⟩
  · have r15 := h.cs.ks.kr.2.2.2.2.2.2.2.2.2.2.2.2.2.2.2.2
    have b19 : ∀ j, H.1 19 j ≤ 1 := h.cs.ks.hb.2.2.2.2.2.2.2.2.2.2.2.2.2.2.2.1
    have hR := h.lr.pob k (by omega)
    have pn := hr.pn k
    obtain ⟨pc, pr⟩ := h.lr.po
    have t1 : mz_gI N1 99 (nI k) = nI (L.R.2 k) := by rw [gI_a, nI_clamp (by omega)]; exact pc.2 k (by omega)
    have t2 : mz_gI N2 285 (nI k) = nI (L.R.2 k) := by rw [gI_a, nI_clamp (by omega)]; exact pr.2 k (by omega)
    have t3 : mz_gI (mz_pI N2 232 0 0) 285 (nI k) = nI (L.R.2 k) := t2
    have vc := pc.1 k (by omega)
    have vr := pr.1 k (by omega)
    generalize L.R.2 k = nn at hR pn t1 t2 t3 vc vr
    obtain ⟨p2, c2⟩ := kept_in (v := v2) (n := nn) (m := 48) (by omega) (by omega)
    have e64 : nI 48 = 48 := rfl
    rw [e64] at p2 c2
    have ib0 : mz_ib (nI k) 8 := ib_n (by omega) (by omega)
    have cl : (nI k).toNatClampNeg = k := nI_clamp (by omega)
    have gz : mz_gI N2 282 (nI k) = nI (H.1 19 k) := by rw [gI_a, nI_clamp (by omega)]; exact (r15 k (by omega)).1
    have gz2 : mz_gZ N2 282 (nI k) = decide (H.1 19 k = 1) := by
      rw [gZ_a, nI_clamp (by omega), (r15 k (by omega)).1]
      have := b19 k
      rcases (show H.1 19 k = 0 ∨ H.1 19 k = 1 by omega) with w | w <;> rw [w] <;> rfl
    have zz : mz_z01 (nI (H.1 19 k)) := z01_n (b19 k)
    rcases c2 with ⟨a2, ha2, ha3, rfl, i2, j2⟩ | ⟨i2, j2⟩
    · have told : H.1 19 k = 1 := by
        by_cases w : H.1 19 k = 1
        · exact w
        · have := pn w; omega
      have told' : (H.1 19 k = 1) = True := eq_true told
      have x1 : mz_irem (nI nn - 1 - nI a2) 48 = nI ((nn - 1 - a2) % 48) := by rw [nI_pr (by omega), pk_sub (by omega), show (48 : Int32) = nI 48 from rfl, irem_n (by omega) (by omega) (by omega)]
      have hz : (nn - 1 - a2) % 48 < 48 := Nat.mod_lt _ (by omega)
      have hzn : (nn - 1 - a2) % 48 < nn := by have := Nat.mod_le (nn - 1 - a2) 48; omega
      generalize (nn - 1 - a2) % 48 = z at x1 hz hzn
      have x2 : 48 * nI k + nI z = nI (48 * k + z) := by rw [show (48 : Int32) = nI 48 from rfl, pk_mul, nI_add]
      have ib : mz_ib (nI z) 48 := ib_n hz (by omega)
      have ib2 : mz_ib (nI (48 * k + z)) 384 := ib_n (by omega) (by omega)
      have ga : mz_gL N1 (91 + k) (nI z) = L.R.1 k z := by rw [gL_a, nI_clamp (by omega)]; exact vc z hz hzn
      have gb : mz_gL (mz_pI N2 232 0 0) 286 (nI (48 * k + z)) = L.R.1 k z := by rw [gL_a, nI_clamp (by omega)]; exact vr z hz hzn
      simp [cp_326_0, cf_326_0, cp_559_0, cf_559_0, cp_559_43, cf_559_43, u1, u2, p1, p2, i1, i2, j1, j2, F1, F2, qok, n00, cl, t1, t2, t3, gz, gz2, zz, told', ib0, x1, x2, ib, ib2, ga, gb]
    · by_cases w : H.1 19 k = 1
      · have w0 : (H.1 19 k = 1) = True := eq_true w
        simp [cp_326_0, cf_326_0, cp_559_0, cf_559_0, cp_559_42, cf_559_42, cp_559_43, cf_559_43, u1, u2, p1, p2, i1, i2, j1, j2, F3, F4, qok, n01, cl, t1, t2, gz, gz2, zz, w0, ib0]
      · have w0 : (H.1 19 k = 1) = False := eq_false w
        simp [cp_326_0, cf_326_0, cp_559_0, cf_559_0, cp_559_42, cf_559_42, cp_559_43, cf_559_43, u1, u2, p1, p2, i1, i2, j1, j2, F3, F4, qok, n01, cl, t1, t2, gz, gz2, zz, w0, ib0]
  · simp [cp_326_0, cf_326_0, cp_559_0, cf_559_0, cp_559_42, cf_559_42, cp_559_43, cf_559_43, u1, u2, p1, i1, j1, F3, F4, qok, n01]
end A3
