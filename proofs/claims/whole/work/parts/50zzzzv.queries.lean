/-! PURE (50zzzzv): calls that only ask (made by wip/gen/queries.py). -/
section Qv
variable {N1 N2 : mz_N} {b : Bool} {B q : Nat} {s : st_S} {D H : Kp} {x : CrS} {L : LvS} {v1 v2 v3 : Int32}
theorem account_ok (h : MR q B s D H x L N1 b N2) : cp_358_0 v1 v2 N1 ∧ cp_587_0 v1 v2 N2 ∧ qok N2 (cf_358_0 v1 v2 N1) (cf_587_0 v1 v2 N2) := by
  obtain ⟨u1, u2⟩ := c104_u (MR_u1 h)
  obtain ⟨p1, c1⟩ := in_r 9 (by omega) v1 (w := 9) (g := 9) rfl rfl
  obtain ⟨p2, c2⟩ := in_r 1 (by omega) v2 (w := 1) (g := 1) rfl rfl
  obtain ⟨F1, F2⟩ := F_t h
  obtain ⟨F3, F4⟩ := F_f h
  rcases c1 with ⟨a1, ha1, rfl, i1, j1⟩ | ⟨i1, j1⟩
  · skip
    rcases c2 with ⟨a2, ha2, rfl, i2, j2⟩ | ⟨i2, j2⟩
    · skip
      have k8b := h.cs.ks.kc.2.2.2.2.2.2.2.2.2.1
      have r8b := h.cs.ks.kr.2.2.2.2.2.2.2.2.2.1
      have ib : mz_ib (nI a1) 10 := ib_n (by omega) (by omega)
      have cl : (nI a1).toNatClampNeg = a1 := nI_clamp (by omega)
      have ga : mz_gL N1 213 (nI a1) = H.2.2 0 a1 := by rw [gL_a, cl]; exact (k8b a1 (by omega)).1
      have gb : mz_gL N1 214 (nI a1) = H.2.2 1 a1 := by rw [gL_a, cl]; exact (k8b a1 (by omega)).2
      have gc : mz_gL (mz_pI N2 232 0 0) 324 (nI a1) = H.2.2 0 a1 := by rw [gL_a, cl]; exact (r8b a1 (by omega)).1
      have gd : mz_gL (mz_pI N2 232 0 0) 325 (nI a1) = H.2.2 1 a1 := by rw [gL_a, cl]; exact (r8b a1 (by omega)).2
      have z0 : (nI a2 = 0) = (a2 = 0) := nI_lit (c := 0) (by omega) (by omega)
      rcases (show a2 = 0 ∨ a2 = 1 by omega) with w | w
      · have w0 : (a2 = 0) = True := eq_true w
        simp [cp_358_0, cf_358_0, cp_587_0, cf_587_0, cp_587_28, cf_587_28, cp_587_27, cf_587_27, u1, u2, p1, p2, i1, i2, j1, j2, F1, F2, qok, n00, z0, w0, ib, ga, gb, gc, gd]
      · have w0 : (a2 = 0) = False := eq_false (by omega)
        simp [cp_358_0, cf_358_0, cp_587_0, cf_587_0, cp_587_28, cf_587_28, cp_587_27, cf_587_27, u1, u2, p1, p2, i1, i2, j1, j2, F1, F2, qok, n00, z0, w0, ib, ga, gb, gc, gd]
    · simp [cp_358_0, cf_358_0, cp_587_0, cf_587_0, cp_587_28, cf_587_28, cp_587_27, cf_587_27, u1, u2, p1, p2, i1, i2, j1, j2, F3, F4, qok, n01]
  · simp [cp_358_0, cf_358_0, cp_587_0, cf_587_0, cp_587_28, cf_587_28, cp_587_27, cf_587_27, u1, u2, p1, p2, i1, j1, F3, F4, qok, n01]
theorem money_ok (h : MR q B s D H x L N1 b N2) : cp_360_0 v1 N1 ∧ cp_588_0 v1 N2 ∧ qok N2 (cf_360_0 v1 N1) (cf_588_0 v1 N2) := by
  obtain ⟨u1, u2⟩ := c104_u (MR_u1 h)
  obtain ⟨p1, c1⟩ := in_r 3 (by omega) v1 (w := 3) (g := 3) rfl rfl
  obtain ⟨F1, F2⟩ := F_t h
  obtain ⟨F3, F4⟩ := F_f h
  rcases c1 with ⟨a1, ha1, rfl, i1, j1⟩ | ⟨i1, j1⟩
  · skip
    have k9 := h.cs.ks.kc.2.2.2.2.2.2.2.2.2.2.1
    have r9 := h.cs.ks.kr.2.2.2.2.2.2.2.2.2.2.1
    have ga : N1.2 208 1 = H.2.2 2 0 := k9.2.1
    have gb : N1.2 208 2 = H.2.2 2 1 := k9.2.2.1
    have gc : (N1.1 208 3).toInt64 = (H.2.1 5 1).toInt64 := by rw [k9.2.2.2.1]
    have gd : (N1.1 208 4).toInt64 = (H.2.1 5 2).toInt64 := by rw [k9.2.2.2.2]
    have ge : (mz_pI N2 232 0 0).2 232 122 = H.2.2 2 0 := r9.2.1
    have gf : (mz_pI N2 232 0 0).2 232 123 = H.2.2 2 1 := r9.2.2.1
    have gg : (mz_pI N2 232 0 0).2 232 124 = (H.2.1 5 1).toInt64 := r9.2.2.2.1
    have gh : (mz_pI N2 232 0 0).2 232 125 = (H.2.1 5 2).toInt64 := r9.2.2.2.2
    have z0 : (nI a1 = 0) = (a1 = 0) := nI_lit (c := 0) (by omega) (by omega)
    have z1 : (nI a1 = 1) = (a1 = 1) := nI_lit (c := 1) (by omega) (by omega)
    have z2 : (nI a1 = 2) = (a1 = 2) := nI_lit (c := 2) (by omega) (by omega)
    rcases (show a1 = 0 ∨ a1 = 1 ∨ a1 = 2 ∨ a1 = 3 by omega) with w | w | w | w
    · have w0 : (a1 = 0) = True := eq_true w
      have w1 : (a1 = 1) = False := eq_false (by omega)
      have w2 : (a1 = 2) = False := eq_false (by omega)
      simp [cp_360_0, cf_360_0, cp_588_0, cf_588_0, u1, u2, p1, i1, j1, F1, F2, qok, n00, z0, z1, z2, w0, w1, w2, ga, gb, gc, gd, ge, gf, gg, gh]
    · have w0 : (a1 = 0) = False := eq_false (by omega)
      have w1 : (a1 = 1) = True := eq_true w
      have w2 : (a1 = 2) = False := eq_false (by omega)
      simp [cp_360_0, cf_360_0, cp_588_0, cf_588_0, u1, u2, p1, i1, j1, F1, F2, qok, n00, z0, z1, z2, w0, w1, w2, ga, gb, gc, gd, ge, gf, gg, gh]
    · have w0 : (a1 = 0) = False := eq_false (by omega)
      have w1 : (a1 = 1) = False := eq_false (by omega)
      have w2 : (a1 = 2) = True := eq_true w
      simp [cp_360_0, cf_360_0, cp_588_0, cf_588_0, u1, u2, p1, i1, j1, F1, F2, qok, n00, z0, z1, z2, w0, w1, w2, ga, gb, gc, gd, ge, gf, gg, gh]
    · have w0 : (a1 = 0) = False := eq_false (by omega)
      have w1 : (a1 = 1) = False := eq_false (by omega)
      have w2 : (a1 = 2) = False := eq_false (by omega)
      simp [cp_360_0, cf_360_0, cp_588_0, cf_588_0, u1, u2, p1, i1, j1, F1, F2, qok, n00, z0, z1, z2, w0, w1, w2, ga, gb, gc, gd, ge, gf, gg, gh]
  · simp [cp_360_0, cf_360_0, cp_588_0, cf_588_0, u1, u2, p1, i1, j1, F3, F4, qok, n01]
theorem part_ok (h : MR q B s D H x L N1 b N2) : cp_354_0 v1 v2 N1 ∧ cp_573_0 v1 v2 N2 ∧ qok N2 (cf_354_0 v1 v2 N1) (cf_573_0 v1 v2 N2) := by
  obtain ⟨u1, u2⟩ := c104_u (MR_u1 h)
  obtain ⟨p1, c1⟩ := in_r 2 (by omega) v1 (w := 2) (g := 2) rfl rfl
  obtain ⟨p2, c2⟩ := in_r 3 (by omega) v2 (w := 3) (g := 3) rfl rfl
  obtain ⟨F1, F2⟩ := F_t h
  obtain ⟨F3, F4⟩ := F_f h
  rcases c1 with ⟨a1, ha1, rfl, i1, j1⟩ | ⟨i1, j1⟩
  · skip
    rcases c2 with ⟨a2, ha2, rfl, i2, j2⟩ | ⟨i2, j2⟩
    · skip
      have k11 := h.cs.ks.kc.2.2.2.2.2.2.2.2.2.2.2.2.1
      have r11 := h.cs.ks.kr.2.2.2.2.2.2.2.2.2.2.2.2.1
      have ib : mz_ib (nI a1) 3 := ib_n (by omega) (by omega)
      have ib2 : mz_ib (nI a2) 4 := ib_n (by omega) (by omega)
      have cl : (nI a1).toNatClampNeg = a1 := nI_clamp (by omega)
      have cl2 : (nI a2).toNatClampNeg = a2 := nI_clamp (by omega)
      have b7 : H.1 7 a1 ≤ 1 := h.cs.ks.hb.2.2.2.2.2.2.2.2.1 a1
      have ga : mz_gI N1 (125 + a2) (nI a1) = if a2 = 0 then H.2.1 7 a1 else if a2 = 1 then H.2.1 8 a1 else if a2 = 2 then H.2.1 9 a1 else nI (H.1 7 a1) := by
          rw [gI_a, cl]
          rcases (show a2 = 0 ∨ a2 = 1 ∨ a2 = 2 ∨ a2 = 3 by omega) with w | w | w | w <;> subst w
          · exact (k11 a1 (by omega)).1
          · exact (k11 a1 (by omega)).2.1
          · exact (k11 a1 (by omega)).2.2.1
          · exact (k11 a1 (by omega)).2.2.2
      have gb : mz_gI (mz_pI N2 232 0 0) 250 (nI a1) = H.2.1 7 a1 := by rw [gI_a, cl]; exact (r11 a1 (by omega)).1
      have gc : (mz_gL (mz_pI N2 232 0 0) 305 (nI a1)).toInt32 = H.2.1 8 a1 := by rw [gL_a, cl]; show (N2.2 305 a1).toInt32 = _; rw [(r11 a1 (by omega)).2.1, l32]
      have gd : mz_gI (mz_pI N2 232 0 0) 306 (nI a1) = H.2.1 9 a1 := by rw [gI_a, cl]; exact (r11 a1 (by omega)).2.2.1
      have ge : mz_gI (mz_pI N2 232 0 0) 307 (nI a1) = nI (H.1 7 a1) := by rw [gI_a, cl]; exact (r11 a1 (by omega)).2.2.2
      have zz : mz_z01 (nI (H.1 7 a1)) := z01_n b7
      have gf : mz_gZ (mz_pI N2 232 0 0) 307 (nI a1) = decide (H.1 7 a1 = 1) := by
          rw [gZ_a, cl]
          show decide (N2.1 307 a1 = 1) = _
          rw [(r11 a1 (by omega)).2.2.2]
          rcases (show H.1 7 a1 = 0 ∨ H.1 7 a1 = 1 by omega) with w | w <;> rw [w] <;> rfl
      have gg : (if H.1 7 a1 = 1 then ((1 : Int32), (mz_pI N2 232 0 0)) else (0, (mz_pI N2 232 0 0))) = (nI (H.1 7 a1), (mz_pI N2 232 0 0)) := by
          rcases (show H.1 7 a1 = 0 ∨ H.1 7 a1 = 1 by omega) with w | w <;> rw [w] <;> rfl
      have z0 : (nI a2 = 0) = (a2 = 0) := nI_lit (c := 0) (by omega) (by omega)
      have z1 : (nI a2 = 1) = (a2 = 1) := nI_lit (c := 1) (by omega) (by omega)
      have z2 : (nI a2 = 2) = (a2 = 2) := nI_lit (c := 2) (by omega) (by omega)
      rcases (show a2 = 0 ∨ a2 = 1 ∨ a2 = 2 ∨ a2 = 3 by omega) with w | w | w | w
      · have w0 : (a2 = 0) = True := eq_true w
        have w1 : (a2 = 1) = False := eq_false (by omega)
        have w2 : (a2 = 2) = False := eq_false (by omega)
        simp [cp_354_0, cf_354_0, cp_573_0, cf_573_0, cp_573_30, cf_573_30, cp_573_29, cf_573_29, u1, u2, p1, p2, i1, i2, j1, j2, F1, F2, qok, n00, z0, z1, z2, w0, w1, w2, ib, ib2, cl2, ga, gb, gc, gd, ge, zz, gf, gg]
      · have w0 : (a2 = 0) = False := eq_false (by omega)
        have w1 : (a2 = 1) = True := eq_true w
        have w2 : (a2 = 2) = False := eq_false (by omega)
        simp [cp_354_0, cf_354_0, cp_573_0, cf_573_0, cp_573_30, cf_573_30, cp_573_29, cf_573_29, u1, u2, p1, p2, i1, i2, j1, j2, F1, F2, qok, n00, z0, z1, z2, w0, w1, w2, ib, ib2, cl2, ga, gb, gc, gd, ge, zz, gf, gg]
      · have w0 : (a2 = 0) = False := eq_false (by omega)
        have w1 : (a2 = 1) = False := eq_false (by omega)
        have w2 : (a2 = 2) = True := eq_true w
        simp [cp_354_0, cf_354_0, cp_573_0, cf_573_0, cp_573_30, cf_573_30, cp_573_29, cf_573_29, u1, u2, p1, p2, i1, i2, j1, j2, F1, F2, qok, n00, z0, z1, z2, w0, w1, w2, ib, ib2, cl2, ga, gb, gc, gd, ge, zz, gf, gg]
      · have w0 : (a2 = 0) = False := eq_false (by omega)
        have w1 : (a2 = 1) = False := eq_false (by omega)
        have w2 : (a2 = 2) = False := eq_false (by omega)
        simp [cp_354_0, cf_354_0, cp_573_0, cf_573_0, cp_573_30, cf_573_30, cp_573_29, cf_573_29, u1, u2, p1, p2, i1, i2, j1, j2, F1, F2, qok, n00, z0, z1, z2, w0, w1, w2, ib, ib2, cl2, ga, gb, gc, gd, ge, zz, gf, gg]
    · simp [cp_354_0, cf_354_0, cp_573_0, cf_573_0, cp_573_30, cf_573_30, cp_573_29, cf_573_29, u1, u2, p1, p2, i1, i2, j1, j2, F3, F4, qok, n01]
  · simp [cp_354_0, cf_354_0, cp_573_0, cf_573_0, cp_573_30, cf_573_30, cp_573_29, cf_573_29, u1, u2, p1, p2, i1, j1, F3, F4, qok, n01]
theorem circuit_ok (h : MR q B s D H x L N1 b N2) : cp_285_0 v1 v2 N1 ∧ cp_551_0 v1 v2 N2 ∧ qok N2 (cf_285_0 v1 v2 N1) (cf_551_0 v1 v2 N2) := by
  obtain ⟨u1, u2⟩ := c104_u (MR_u1 h)
  obtain ⟨p1, c1⟩ := in_r 10 (by omega) v1 (w := 10) (g := 10) rfl rfl
  obtain ⟨p2, c2⟩ := in_r 5 (by omega) v2 (w := 5) (g := 5) rfl rfl
  obtain ⟨F1, F2⟩ := F_t h
  obtain ⟨F3, F4⟩ := F_f h
  rcases c1 with ⟨a1, ha1, rfl, i1, j1⟩ | ⟨i1, j1⟩
  · skip
    rcases c2 with ⟨a2, ha2, rfl, i2, j2⟩ | ⟨i2, j2⟩
    · skip
      have k7 := h.cs.ks.kc.2.2.2.2.2.2.2.1
      have r7 := h.cs.ks.kr.2.2.2.2.2.2.2.1
      have ib : mz_ib (nI a1) 11 := ib_n (by omega) (by omega)
      have ib2 : mz_ib (nI a2) 6 := ib_n (by omega) (by omega)
      have cl : (nI a1).toNatClampNeg = a1 := nI_clamp (by omega)
      have cl2 : (nI a2).toNatClampNeg = a2 := nI_clamp (by omega)
      have ci := h.lr.ci a1 (by omega)
      have ga : mz_gI N1 (58 + a2) (nI a1) = if a2 = 0 then nI (L.c.1 a1) else if a2 = 1 then nI (L.c.2.1 a1) else if a2 = 2 then nI (b1 (L.c.2.2.1 a1)) else if a2 = 3 then nI (b1 (L.c.2.2.2 a1)) else if a2 = 4 then H.2.1 1 a1 else nI (H.1 6 a1) := by
          rw [gI_a, cl]
          rcases (show a2 = 0 ∨ a2 = 1 ∨ a2 = 2 ∨ a2 = 3 ∨ a2 = 4 ∨ a2 = 5 by omega) with w | w | w | w | w | w <;> subst w
          · exact ci.1.1
          · exact ci.2.1.1
          · exact ci.2.2.1.1
          · exact ci.2.2.2.1
          · exact (k7 a1 (by omega)).1
          · exact (k7 a1 (by omega)).2
      have gb : mz_gI (mz_pI N2 232 0 0) 272 (nI a1) = nI (L.c.1 a1) := by rw [gI_a, cl]; exact ci.1.2
      have gc : mz_gI (mz_pI N2 232 0 0) 274 (nI a1) = nI (L.c.2.1 a1) := by rw [gI_a, cl]; exact ci.2.1.2
      have gd : mz_gI (mz_pI N2 232 0 0) 275 (nI a1) = nI (b1 (L.c.2.2.1 a1)) := by rw [gI_a, cl]; exact ci.2.2.1.2
      have ge : mz_gI (mz_pI N2 232 0 0) 273 (nI a1) = nI (b1 (L.c.2.2.2 a1)) := by rw [gI_a, cl]; exact ci.2.2.2.2
      have gf : mz_gI (mz_pI N2 232 0 0) 247 (nI a1) = H.2.1 1 a1 := by rw [gI_a, cl]; exact (r7 a1 (by omega)).1
      have gg : mz_gI (mz_pI N2 232 0 0) 248 (nI a1) = nI (H.1 6 a1) := by rw [gI_a, cl]; exact (r7 a1 (by omega)).2
      have y1 : mz_z01 (nI (b1 (L.c.2.2.1 a1))) := z01_b _
      have y2 : mz_z01 (nI (b1 (L.c.2.2.2 a1))) := z01_b _
      have gh : mz_gZ (mz_pI N2 232 0 0) 275 (nI a1) = L.c.2.2.1 a1 := by rw [gZ_a, cl]; show decide (N2.1 275 a1 = 1) = _; rw [ci.2.2.1.2]; cases L.c.2.2.1 a1 <;> rfl
      have gi : mz_gZ (mz_pI N2 232 0 0) 273 (nI a1) = L.c.2.2.2 a1 := by rw [gZ_a, cl]; show decide (N2.1 273 a1 = 1) = _; rw [ci.2.2.2.2]; cases L.c.2.2.2 a1 <;> rfl
      have gj : (if L.c.2.2.1 a1 = true then ((1 : Int32), (mz_pI N2 232 0 0)) else (0, (mz_pI N2 232 0 0))) = (nI (b1 (L.c.2.2.1 a1)), (mz_pI N2 232 0 0)) := by cases L.c.2.2.1 a1 <;> rfl
      have gk : (if L.c.2.2.2 a1 = true then ((1 : Int32), (mz_pI N2 232 0 0)) else (0, (mz_pI N2 232 0 0))) = (nI (b1 (L.c.2.2.2 a1)), (mz_pI N2 232 0 0)) := by cases L.c.2.2.2 a1 <;> rfl
      have z0 : (nI a2 = 0) = (a2 = 0) := nI_lit (c := 0) (by omega) (by omega)
      have z1 : (nI a2 = 1) = (a2 = 1) := nI_lit (c := 1) (by omega) (by omega)
      have z2 : (nI a2 = 2) = (a2 = 2) := nI_lit (c := 2) (by omega) (by omega)
      have z3 : (nI a2 = 3) = (a2 = 3) := nI_lit (c := 3) (by omega) (by omega)
      have z4 : (nI a2 = 4) = (a2 = 4) := nI_lit (c := 4) (by omega) (by omega)
      rcases (show a2 = 0 ∨ a2 = 1 ∨ a2 = 2 ∨ a2 = 3 ∨ a2 = 4 ∨ a2 = 5 by omega) with w | w | w | w | w | w
      · have w0 : (a2 = 0) = True := eq_true w
        have w1 : (a2 = 1) = False := eq_false (by omega)
        have w2 : (a2 = 2) = False := eq_false (by omega)
        have w3 : (a2 = 3) = False := eq_false (by omega)
        have w4 : (a2 = 4) = False := eq_false (by omega)
        simp [cp_285_0, cf_285_0, cp_551_0, cf_551_0, cp_551_30, cf_551_30, cp_551_29, cf_551_29, u1, u2, p1, p2, i1, i2, j1, j2, F1, F2, qok, n00, z0, z1, z2, z3, z4, w0, w1, w2, w3, w4, ib, ib2, cl2, ga, gb, gc, gd, ge, gf, gg, y1, y2, gh, gi, gj, gk]
      · have w0 : (a2 = 0) = False := eq_false (by omega)
        have w1 : (a2 = 1) = True := eq_true w
        have w2 : (a2 = 2) = False := eq_false (by omega)
        have w3 : (a2 = 3) = False := eq_false (by omega)
        have w4 : (a2 = 4) = False := eq_false (by omega)
        simp [cp_285_0, cf_285_0, cp_551_0, cf_551_0, cp_551_30, cf_551_30, cp_551_29, cf_551_29, u1, u2, p1, p2, i1, i2, j1, j2, F1, F2, qok, n00, z0, z1, z2, z3, z4, w0, w1, w2, w3, w4, ib, ib2, cl2, ga, gb, gc, gd, ge, gf, gg, y1, y2, gh, gi, gj, gk]
      · have w0 : (a2 = 0) = False := eq_false (by omega)
        have w1 : (a2 = 1) = False := eq_false (by omega)
        have w2 : (a2 = 2) = True := eq_true w
        have w3 : (a2 = 3) = False := eq_false (by omega)
        have w4 : (a2 = 4) = False := eq_false (by omega)
        simp [cp_285_0, cf_285_0, cp_551_0, cf_551_0, cp_551_30, cf_551_30, cp_551_29, cf_551_29, u1, u2, p1, p2, i1, i2, j1, j2, F1, F2, qok, n00, z0, z1, z2, z3, z4, w0, w1, w2, w3, w4, ib, ib2, cl2, ga, gb, gc, gd, ge, gf, gg, y1, y2, gh, gi, gj, gk]
      · have w0 : (a2 = 0) = False := eq_false (by omega)
        have w1 : (a2 = 1) = False := eq_false (by omega)
        have w2 : (a2 = 2) = False := eq_false (by omega)
        have w3 : (a2 = 3) = True := eq_true w
        have w4 : (a2 = 4) = False := eq_false (by omega)
        simp [cp_285_0, cf_285_0, cp_551_0, cf_551_0, cp_551_30, cf_551_30, cp_551_29, cf_551_29, u1, u2, p1, p2, i1, i2, j1, j2, F1, F2, qok, n00, z0, z1, z2, z3, z4, w0, w1, w2, w3, w4, ib, ib2, cl2, ga, gb, gc, gd, ge, gf, gg, y1, y2, gh, gi, gj, gk]
      · have w0 : (a2 = 0) = False := eq_false (by omega)
        have w1 : (a2 = 1) = False := eq_false (by omega)
        have w2 : (a2 = 2) = False := eq_false (by omega)
        have w3 : (a2 = 3) = False := eq_false (by omega)
        have w4 : (a2 = 4) = True := eq_true w
        simp [cp_285_0, cf_285_0, cp_551_0, cf_551_0, cp_551_30, cf_551_30, cp_551_29, cf_551_29, u1, u2, p1, p2, i1, i2, j1, j2, F1, F2, qok, n00, z0, z1, z2, z3, z4, w0, w1, w2, w3, w4, ib, ib2, cl2, ga, gb, gc, gd, ge, gf, gg, y1, y2, gh, gi, gj, gk]
      · have w0 : (a2 = 0) = False := eq_false (by omega)
        have w1 : (a2 = 1) = False := eq_false (by omega)
        have w2 : (a2 = 2) = False := eq_false (by omega)
        have w3 : (a2 = 3) = False := eq_false (by omega)
        have w4 : (a2 = 4) = False := eq_false (by omega)
        simp [cp_285_0, cf_285_0, cp_551_0, cf_551_0, cp_551_30, cf_551_30, cp_551_29, cf_551_29, u1, u2, p1, p2, i1, i2, j1, j2, F1, F2, qok, n00, z0, z1, z2, z3, z4, w0, w1, w2, w3, w4, ib, ib2, cl2, ga, gb, gc, gd, ge, gf, gg, y1, y2, gh, gi, gj, gk]
    · simp [cp_285_0, cf_285_0, cp_551_0, cf_551_0, cp_551_30, cf_551_30, cp_551_29, cf_551_29, u1, u2, p1, p2, i1, i2, j1, j2, F3, F4, qok, n01]
  · simp [cp_285_0, cf_285_0, cp_551_0, cf_551_0, cp_551_30, cf_551_30, cp_551_29, cf_551_29, u1, u2, p1, p2, i1, j1, F3, F4, qok, n01]
theorem state_ok (h : MR q B s D H x L N1 b N2) : cp_287_0 v1 N1 ∧ cp_552_0 v1 N2 ∧ qok N2 (cf_287_0 v1 N1) (cf_552_0 v1 N2) := by
  obtain ⟨u1, u2⟩ := c104_u (MR_u1 h)
  obtain ⟨p1, c1⟩ := in_r 10 (by omega) v1 (w := 10) (g := 10) rfl rfl
  obtain ⟨F1, F2⟩ := F_t h
  obtain ⟨F3, F4⟩ := F_f h
  rcases c1 with ⟨a1, ha1, rfl, i1, j1⟩ | ⟨i1, j1⟩
  · skip
    have k9 := h.cs.ks.kc.2.2.2.2.2.2.2.2.2.2.1
    have r9 := h.cs.ks.kr.2.2.2.2.2.2.2.2.2.2.1
    have uc := h.lr.sc
    have ur := h.lr.sr
    have ub := h.lr.sb
    have s0a : N1.1 56 1 = nI L.u.ch := uc.ch
    have s0b : (mz_pI N2 232 0 0).1 232 54 = nI L.u.ch := ur.ch
    have s1a : N1.1 56 2 = nI L.u.fu := uc.fu
    have s1b : (mz_pI N2 232 0 0).1 232 53 = nI L.u.fu := ur.fu
    have s2a : N1.1 56 3 = nI L.u.wo := uc.wo
    have s2b : (mz_pI N2 232 0 0).1 232 55 = nI L.u.wo := ur.wo
    have s3a : N1.1 56 7 = nI L.u.tk := uc.tk
    have s3b : (mz_pI N2 232 0 0).1 232 61 = nI L.u.tk := ur.tk
    have s5a : N1.1 56 11 = nI L.u.st := uc.st
    have s5b : (mz_pI N2 232 0 0).1 232 62 = nI L.u.st := ur.st
    have s6a : N1.1 56 12 = nI L.u.co := uc.co
    have s6b : ((mz_pI N2 232 0 0).2 232 68).toInt32 = nI L.u.co := by show (N2.2 232 68).toInt32 = _; rw [ur.co, lN_i]
    have s7a : N1.1 56 13 = nI L.u.bo := uc.bo
    have s7b : ((mz_pI N2 232 0 0).2 232 66).toInt32 = nI L.u.bo := by show (N2.2 232 66).toInt32 = _; rw [ur.bo, lN_i]
    have s4a : mz_fZ N1 56 8 = L.u.wa := by show decide (N1.1 56 8 = 1) = _; rw [uc.wa, d_b01]
    have s4b : mz_fZ (mz_pI N2 232 0 0) 232 63 = L.u.wa := by show decide (N2.1 232 63 = 1) = _; rw [ur.wa, d_b01]
    have s4c : mz_z01 (N1.1 56 8) := by rw [uc.wa]; exact z01_b01 _
    have s4d : mz_z01 ((mz_pI N2 232 0 0).1 232 63) := by show mz_z01 (N2.1 232 63); rw [ur.wa]; exact z01_b01 _
    have s4e : (if L.u.wa = true then ((0 : Nat), (1 : Int32)) else (0, 0)) = (0, mz_b01 L.u.wa) := by cases L.u.wa <;> rfl
    have s4f : (if L.u.wa = true then ((1 : Int32), (mz_pI N2 232 0 0)) else (0, (mz_pI N2 232 0 0))) = (mz_b01 L.u.wa, (mz_pI N2 232 0 0)) := by cases L.u.wa <;> rfl
    have s8a : mz_fZ N1 56 9 = L.u.ra := by show decide (N1.1 56 9 = 1) = _; rw [uc.ra, d_b01]
    have s8b : mz_fZ (mz_pI N2 232 0 0) 232 64 = L.u.ra := by show decide (N2.1 232 64 = 1) = _; rw [ur.ra, d_b01]
    have s8c : mz_z01 (N1.1 56 9) := by rw [uc.ra]; exact z01_b01 _
    have s8d : mz_z01 ((mz_pI N2 232 0 0).1 232 64) := by show mz_z01 (N2.1 232 64); rw [ur.ra]; exact z01_b01 _
    have s8e : (if L.u.ra = true then ((0 : Nat), (1 : Int32)) else (0, 0)) = (0, mz_b01 L.u.ra) := by cases L.u.ra <;> rfl
    have s8f : (if L.u.ra = true then ((1 : Int32), (mz_pI N2 232 0 0)) else (0, (mz_pI N2 232 0 0))) = (mz_b01 L.u.ra, (mz_pI N2 232 0 0)) := by cases L.u.ra <;> rfl
    have s9a : mz_fZ N1 56 5 = L.u.en := by show decide (N1.1 56 5 = 1) = _; rw [uc.en, d_b01]
    have s9b : mz_fZ (mz_pI N2 232 0 0) 232 65 = L.u.en := by show decide (N2.1 232 65 = 1) = _; rw [ur.en, d_b01]
    have s9c : mz_z01 (N1.1 56 5) := by rw [uc.en]; exact z01_b01 _
    have s9d : mz_z01 ((mz_pI N2 232 0 0).1 232 65) := by show mz_z01 (N2.1 232 65); rw [ur.en]; exact z01_b01 _
    have s9e : (if L.u.en = true then ((0 : Nat), (1 : Int32)) else (0, 0)) = (0, mz_b01 L.u.en) := by cases L.u.en <;> rfl
    have s9f : (if L.u.en = true then ((1 : Int32), (mz_pI N2 232 0 0)) else (0, (mz_pI N2 232 0 0))) = (mz_b01 L.u.en, (mz_pI N2 232 0 0)) := by cases L.u.en <;> rfl
    have s10a : N1.1 208 0 = H.2.1 5 0 := k9.1
    have s10b : ((mz_pI N2 232 0 0).2 232 2).toInt32 = H.2.1 5 0 := by show (N2.2 232 2).toInt32 = _; rw [r9.1, l32]
    have z0 : (nI a1 = 0) = (a1 = 0) := nI_lit (c := 0) (by omega) (by omega)
    have z1 : (nI a1 = 1) = (a1 = 1) := nI_lit (c := 1) (by omega) (by omega)
    have z2 : (nI a1 = 2) = (a1 = 2) := nI_lit (c := 2) (by omega) (by omega)
    have z3 : (nI a1 = 3) = (a1 = 3) := nI_lit (c := 3) (by omega) (by omega)
    have z4 : (nI a1 = 4) = (a1 = 4) := nI_lit (c := 4) (by omega) (by omega)
    have z5 : (nI a1 = 5) = (a1 = 5) := nI_lit (c := 5) (by omega) (by omega)
    have z6 : (nI a1 = 6) = (a1 = 6) := nI_lit (c := 6) (by omega) (by omega)
    have z7 : (nI a1 = 7) = (a1 = 7) := nI_lit (c := 7) (by omega) (by omega)
    have z8 : (nI a1 = 8) = (a1 = 8) := nI_lit (c := 8) (by omega) (by omega)
    have z9 : (nI a1 = 9) = (a1 = 9) := nI_lit (c := 9) (by omega) (by omega)
    rcases (show a1 = 0 ∨ a1 = 1 ∨ a1 = 2 ∨ a1 = 3 ∨ a1 = 4 ∨ a1 = 5 ∨ a1 = 6 ∨ a1 = 7 ∨ a1 = 8 ∨ a1 = 9 ∨ a1 = 10 by omega) with w | w | w | w | w | w | w | w | w | w | w
    · have w0 : (a1 = 0) = True := eq_true w
      have w1 : (a1 = 1) = False := eq_false (by omega)
      have w2 : (a1 = 2) = False := eq_false (by omega)
      have w3 : (a1 = 3) = False := eq_false (by omega)
      have w4 : (a1 = 4) = False := eq_false (by omega)
      have w5 : (a1 = 5) = False := eq_false (by omega)
      have w6 : (a1 = 6) = False := eq_false (by omega)
      have w7 : (a1 = 7) = False := eq_false (by omega)
      have w8 : (a1 = 8) = False := eq_false (by omega)
      have w9 : (a1 = 9) = False := eq_false (by omega)
      simp [cp_287_0, cf_287_0, cp_552_0, cf_552_0, u1, u2, p1, i1, j1, F1, F2, qok, n00, z0, z1, z2, z3, z4, z5, z6, z7, z8, z9, w0, w1, w2, w3, w4, w5, w6, w7, w8, w9, s0a, s0b, s1a, s1b, s2a, s2b, s3a, s3b, s5a, s5b, s6a, s6b, s7a, s7b, s10a, s10b, s4a, s4b, s4c, s4d, s4e, s4f, s8a, s8b, s8c, s8d, s8e, s8f, s9a, s9b, s9c, s9d, s9e, s9f]
    · have w0 : (a1 = 0) = False := eq_false (by omega)
      have w1 : (a1 = 1) = True := eq_true w
      have w2 : (a1 = 2) = False := eq_false (by omega)
      have w3 : (a1 = 3) = False := eq_false (by omega)
      have w4 : (a1 = 4) = False := eq_false (by omega)
      have w5 : (a1 = 5) = False := eq_false (by omega)
      have w6 : (a1 = 6) = False := eq_false (by omega)
      have w7 : (a1 = 7) = False := eq_false (by omega)
      have w8 : (a1 = 8) = False := eq_false (by omega)
      have w9 : (a1 = 9) = False := eq_false (by omega)
      simp [cp_287_0, cf_287_0, cp_552_0, cf_552_0, u1, u2, p1, i1, j1, F1, F2, qok, n00, z0, z1, z2, z3, z4, z5, z6, z7, z8, z9, w0, w1, w2, w3, w4, w5, w6, w7, w8, w9, s0a, s0b, s1a, s1b, s2a, s2b, s3a, s3b, s5a, s5b, s6a, s6b, s7a, s7b, s10a, s10b, s4a, s4b, s4c, s4d, s4e, s4f, s8a, s8b, s8c, s8d, s8e, s8f, s9a, s9b, s9c, s9d, s9e, s9f]
    · have w0 : (a1 = 0) = False := eq_false (by omega)
      have w1 : (a1 = 1) = False := eq_false (by omega)
      have w2 : (a1 = 2) = True := eq_true w
      have w3 : (a1 = 3) = False := eq_false (by omega)
      have w4 : (a1 = 4) = False := eq_false (by omega)
      have w5 : (a1 = 5) = False := eq_false (by omega)
      have w6 : (a1 = 6) = False := eq_false (by omega)
      have w7 : (a1 = 7) = False := eq_false (by omega)
      have w8 : (a1 = 8) = False := eq_false (by omega)
      have w9 : (a1 = 9) = False := eq_false (by omega)
      simp [cp_287_0, cf_287_0, cp_552_0, cf_552_0, u1, u2, p1, i1, j1, F1, F2, qok, n00, z0, z1, z2, z3, z4, z5, z6, z7, z8, z9, w0, w1, w2, w3, w4, w5, w6, w7, w8, w9, s0a, s0b, s1a, s1b, s2a, s2b, s3a, s3b, s5a, s5b, s6a, s6b, s7a, s7b, s10a, s10b, s4a, s4b, s4c, s4d, s4e, s4f, s8a, s8b, s8c, s8d, s8e, s8f, s9a, s9b, s9c, s9d, s9e, s9f]
    · have w0 : (a1 = 0) = False := eq_false (by omega)
      have w1 : (a1 = 1) = False := eq_false (by omega)
      have w2 : (a1 = 2) = False := eq_false (by omega)
      have w3 : (a1 = 3) = True := eq_true w
      have w4 : (a1 = 4) = False := eq_false (by omega)
      have w5 : (a1 = 5) = False := eq_false (by omega)
      have w6 : (a1 = 6) = False := eq_false (by omega)
      have w7 : (a1 = 7) = False := eq_false (by omega)
      have w8 : (a1 = 8) = False := eq_false (by omega)
      have w9 : (a1 = 9) = False := eq_false (by omega)
      simp [cp_287_0, cf_287_0, cp_552_0, cf_552_0, u1, u2, p1, i1, j1, F1, F2, qok, n00, z0, z1, z2, z3, z4, z5, z6, z7, z8, z9, w0, w1, w2, w3, w4, w5, w6, w7, w8, w9, s0a, s0b, s1a, s1b, s2a, s2b, s3a, s3b, s5a, s5b, s6a, s6b, s7a, s7b, s10a, s10b, s4a, s4b, s4c, s4d, s4e, s4f, s8a, s8b, s8c, s8d, s8e, s8f, s9a, s9b, s9c, s9d, s9e, s9f]
    · have w0 : (a1 = 0) = False := eq_false (by omega)
      have w1 : (a1 = 1) = False := eq_false (by omega)
      have w2 : (a1 = 2) = False := eq_false (by omega)
      have w3 : (a1 = 3) = False := eq_false (by omega)
      have w4 : (a1 = 4) = True := eq_true w
      have w5 : (a1 = 5) = False := eq_false (by omega)
      have w6 : (a1 = 6) = False := eq_false (by omega)
      have w7 : (a1 = 7) = False := eq_false (by omega)
      have w8 : (a1 = 8) = False := eq_false (by omega)
      have w9 : (a1 = 9) = False := eq_false (by omega)
      simp [cp_287_0, cf_287_0, cp_552_0, cf_552_0, u1, u2, p1, i1, j1, F1, F2, qok, n00, z0, z1, z2, z3, z4, z5, z6, z7, z8, z9, w0, w1, w2, w3, w4, w5, w6, w7, w8, w9, s0a, s0b, s1a, s1b, s2a, s2b, s3a, s3b, s5a, s5b, s6a, s6b, s7a, s7b, s10a, s10b, s4a, s4b, s4c, s4d, s4e, s4f, s8a, s8b, s8c, s8d, s8e, s8f, s9a, s9b, s9c, s9d, s9e, s9f]
    · have w0 : (a1 = 0) = False := eq_false (by omega)
      have w1 : (a1 = 1) = False := eq_false (by omega)
      have w2 : (a1 = 2) = False := eq_false (by omega)
      have w3 : (a1 = 3) = False := eq_false (by omega)
      have w4 : (a1 = 4) = False := eq_false (by omega)
      have w5 : (a1 = 5) = True := eq_true w
      have w6 : (a1 = 6) = False := eq_false (by omega)
      have w7 : (a1 = 7) = False := eq_false (by omega)
      have w8 : (a1 = 8) = False := eq_false (by omega)
      have w9 : (a1 = 9) = False := eq_false (by omega)
      simp [cp_287_0, cf_287_0, cp_552_0, cf_552_0, u1, u2, p1, i1, j1, F1, F2, qok, n00, z0, z1, z2, z3, z4, z5, z6, z7, z8, z9, w0, w1, w2, w3, w4, w5, w6, w7, w8, w9, s0a, s0b, s1a, s1b, s2a, s2b, s3a, s3b, s5a, s5b, s6a, s6b, s7a, s7b, s10a, s10b, s4a, s4b, s4c, s4d, s4e, s4f, s8a, s8b, s8c, s8d, s8e, s8f, s9a, s9b, s9c, s9d, s9e, s9f]
    · have w0 : (a1 = 0) = False := eq_false (by omega)
      have w1 : (a1 = 1) = False := eq_false (by omega)
      have w2 : (a1 = 2) = False := eq_false (by omega)
      have w3 : (a1 = 3) = False := eq_false (by omega)
      have w4 : (a1 = 4) = False := eq_false (by omega)
      have w5 : (a1 = 5) = False := eq_false (by omega)
      have w6 : (a1 = 6) = True := eq_true w
      have w7 : (a1 = 7) = False := eq_false (by omega)
      have w8 : (a1 = 8) = False := eq_false (by omega)
      have w9 : (a1 = 9) = False := eq_false (by omega)
      simp [cp_287_0, cf_287_0, cp_552_0, cf_552_0, u1, u2, p1, i1, j1, F1, F2, qok, n00, z0, z1, z2, z3, z4, z5, z6, z7, z8, z9, w0, w1, w2, w3, w4, w5, w6, w7, w8, w9, s0a, s0b, s1a, s1b, s2a, s2b, s3a, s3b, s5a, s5b, s6a, s6b, s7a, s7b, s10a, s10b, s4a, s4b, s4c, s4d, s4e, s4f, s8a, s8b, s8c, s8d, s8e, s8f, s9a, s9b, s9c, s9d, s9e, s9f]
    · have w0 : (a1 = 0) = False := eq_false (by omega)
      have w1 : (a1 = 1) = False := eq_false (by omega)
      have w2 : (a1 = 2) = False := eq_false (by omega)
      have w3 : (a1 = 3) = False := eq_false (by omega)
      have w4 : (a1 = 4) = False := eq_false (by omega)
      have w5 : (a1 = 5) = False := eq_false (by omega)
      have w6 : (a1 = 6) = False := eq_false (by omega)
      have w7 : (a1 = 7) = True := eq_true w
      have w8 : (a1 = 8) = False := eq_false (by omega)
      have w9 : (a1 = 9) = False := eq_false (by omega)
      simp [cp_287_0, cf_287_0, cp_552_0, cf_552_0, u1, u2, p1, i1, j1, F1, F2, qok, n00, z0, z1, z2, z3, z4, z5, z6, z7, z8, z9, w0, w1, w2, w3, w4, w5, w6, w7, w8, w9, s0a, s0b, s1a, s1b, s2a, s2b, s3a, s3b, s5a, s5b, s6a, s6b, s7a, s7b, s10a, s10b, s4a, s4b, s4c, s4d, s4e, s4f, s8a, s8b, s8c, s8d, s8e, s8f, s9a, s9b, s9c, s9d, s9e, s9f]
    · have w0 : (a1 = 0) = False := eq_false (by omega)
      have w1 : (a1 = 1) = False := eq_false (by omega)
      have w2 : (a1 = 2) = False := eq_false (by omega)
      have w3 : (a1 = 3) = False := eq_false (by omega)
      have w4 : (a1 = 4) = False := eq_false (by omega)
      have w5 : (a1 = 5) = False := eq_false (by omega)
      have w6 : (a1 = 6) = False := eq_false (by omega)
      have w7 : (a1 = 7) = False := eq_false (by omega)
      have w8 : (a1 = 8) = True := eq_true w
      have w9 : (a1 = 9) = False := eq_false (by omega)
      simp [cp_287_0, cf_287_0, cp_552_0, cf_552_0, u1, u2, p1, i1, j1, F1, F2, qok, n00, z0, z1, z2, z3, z4, z5, z6, z7, z8, z9, w0, w1, w2, w3, w4, w5, w6, w7, w8, w9, s0a, s0b, s1a, s1b, s2a, s2b, s3a, s3b, s5a, s5b, s6a, s6b, s7a, s7b, s10a, s10b, s4a, s4b, s4c, s4d, s4e, s4f, s8a, s8b, s8c, s8d, s8e, s8f, s9a, s9b, s9c, s9d, s9e, s9f]
    · have w0 : (a1 = 0) = False := eq_false (by omega)
      have w1 : (a1 = 1) = False := eq_false (by omega)
      have w2 : (a1 = 2) = False := eq_false (by omega)
      have w3 : (a1 = 3) = False := eq_false (by omega)
      have w4 : (a1 = 4) = False := eq_false (by omega)
      have w5 : (a1 = 5) = False := eq_false (by omega)
      have w6 : (a1 = 6) = False := eq_false (by omega)
      have w7 : (a1 = 7) = False := eq_false (by omega)
      have w8 : (a1 = 8) = False := eq_false (by omega)
      have w9 : (a1 = 9) = True := eq_true w
      simp [cp_287_0, cf_287_0, cp_552_0, cf_552_0, u1, u2, p1, i1, j1, F1, F2, qok, n00, z0, z1, z2, z3, z4, z5, z6, z7, z8, z9, w0, w1, w2, w3, w4, w5, w6, w7, w8, w9, s0a, s0b, s1a, s1b, s2a, s2b, s3a, s3b, s5a, s5b, s6a, s6b, s7a, s7b, s10a, s10b, s4a, s4b, s4c, s4d, s4e, s4f, s8a, s8b, s8c, s8d, s8e, s8f, s9a, s9b, s9c, s9d, s9e, s9f]
    · have w0 : (a1 = 0) = False := eq_false (by omega)
      have w1 : (a1 = 1) = False := eq_false (by omega)
      have w2 : (a1 = 2) = False := eq_false (by omega)
      have w3 : (a1 = 3) = False := eq_false (by omega)
      have w4 : (a1 = 4) = False := eq_false (by omega)
      have w5 : (a1 = 5) = False := eq_false (by omega)
      have w6 : (a1 = 6) = False := eq_false (by omega)
      have w7 : (a1 = 7) = False := eq_false (by omega)
      have w8 : (a1 = 8) = False := eq_false (by omega)
      have w9 : (a1 = 9) = False := eq_false (by omega)
      simp [cp_287_0, cf_287_0, cp_552_0, cf_552_0, u1, u2, p1, i1, j1, F1, F2, qok, n00, z0, z1, z2, z3, z4, z5, z6, z7, z8, z9, w0, w1, w2, w3, w4, w5, w6, w7, w8, w9, s0a, s0b, s1a, s1b, s2a, s2b, s3a, s3b, s5a, s5b, s6a, s6b, s7a, s7b, s10a, s10b, s4a, s4b, s4c, s4d, s4e, s4f, s8a, s8b, s8c, s8d, s8e, s8f, s9a, s9b, s9c, s9d, s9e, s9f]
  · simp [cp_287_0, cf_287_0, cp_552_0, cf_552_0, u1, u2, p1, i1, j1, F3, F4, qok, n01]
theorem target_ok (h : MR q B s D H x L N1 b N2) : cp_196_0 v1 N1 ∧ cp_505_0 v1 N2 ∧ qok N2 (cf_196_0 v1 N1) (cf_505_0 v1 N2) := by
  obtain ⟨u1, u2⟩ := c104_u (MR_u1 h)
  obtain ⟨p1, c1⟩ := in_r 15 (by omega) v1 (w := 15) (g := 15) rfl rfl
  obtain ⟨F1, F2⟩ := F_t h
  obtain ⟨F3, F4⟩ := F_f h
  rcases c1 with ⟨a1, ha1, rfl, i1, j1⟩ | ⟨i1, j1⟩
  · skip
    have ib : mz_ib (nI a1) 16 := ib_n (by omega) (by omega)
    have ib3 : mz_ib (nI a1) 53 := ib_n (by omega) (by omega)
    have cl : (nI a1).toNatClampNeg = a1 := nI_clamp (by omega)
    have ga : mz_gI N1 53 (nI a1) = iI (L.T a1) := by rw [gI_a, cl]; exact (h.lr.tg a1 (by omega)).1
    have gb : mz_gI (mz_pI N2 232 0 0) 257 (nI a1) = iI (L.T a1) := by rw [gI_a, cl]; exact (h.lr.tg a1 (by omega)).2
    simp [cp_196_0, cf_196_0, cp_505_0, cf_505_0, u1, u2, p1, i1, j1, F1, F2, qok, n00, ib, ib3, ga, gb]
  · simp [cp_196_0, cf_196_0, cp_505_0, cf_505_0, u1, u2, p1, i1, j1, F3, F4, qok, n01]
theorem cell_ok (h : MR q B s D H x L N1 b N2) : cp_289_0 v1 v2 v3 N1 ∧ cp_553_0 v1 v2 v3 N2 ∧ qok N2 (cf_289_0 v1 v2 v3 N1) (cf_553_0 v1 v2 v3 N2) := by
  obtain ⟨u1, u2⟩ := c104_u (MR_u1 h)
  obtain ⟨p1, c1⟩ := in_r 4 (by omega) v1 (w := 4) (g := 4) rfl rfl
  obtain ⟨p2, c2⟩ := in_r 47 (by omega) v2 (w := 47) (g := 47) rfl rfl
  obtain ⟨p3, c3⟩ := in_r 5 (by omega) v3 (w := 5) (g := 5) rfl rfl
  obtain ⟨F1, F2⟩ := F_t h
  obtain ⟨F3, F4⟩ := F_f h
  rcases c1 with ⟨a1, ha1, rfl, i1, j1⟩ | ⟨i1, j1⟩
  · skip
    rcases c2 with ⟨a2, ha2, rfl, i2, j2⟩ | ⟨i2, j2⟩
    · skip
      rcases c3 with ⟨a3, ha3, rfl, i3, j3⟩ | ⟨i3, j3⟩
      · skip
        have e1 : nI a1 * 48 + nI a2 = nI (48 * a1 + a2) := by rw [show (48 : Int32) = nI 48 from rfl, pk_mul, nI_add, Nat.mul_comm]
        have e2 : 48 * nI a1 + nI a2 = nI (48 * a1 + a2) := by rw [show (48 : Int32) = nI 48 from rfl, pk_mul, nI_add]
        have ib : mz_ib (nI (48 * a1 + a2)) 240 := ib_n (by omega) (by omega)
        have cl : (nI (48 * a1 + a2)).toNatClampNeg = 48 * a1 + a2 := nI_clamp (by omega)
        have kc := h.lr.kc
        have kr := h.lr.kr
        have kb := h.lr.kb
        have hz : 48 * a1 + a2 < 240 := by omega
        have g0a : mz_gL N1 68 (nI (48 * a1 + a2)) = L.k.h (48 * a1 + a2) := by rw [gL_a, cl]; exact kc.h _ hz
        have g0b : mz_gL (mz_pI N2 232 0 0) 260 (nI (48 * a1 + a2)) = L.k.h (48 * a1 + a2) := by rw [gL_a, cl]; exact kr.h _ hz
        have g1a : mz_gL N1 69 (nI (48 * a1 + a2)) = L.k.sa (48 * a1 + a2) := by rw [gL_a, cl]; exact kc.sa _ hz
        have g1b : mz_gL (mz_pI N2 232 0 0) 261 (nI (48 * a1 + a2)) = L.k.sa (48 * a1 + a2) := by rw [gL_a, cl]; exact kr.sa _ hz
        have g2a : mz_gL N1 70 (nI (48 * a1 + a2)) = L.k.mi (48 * a1 + a2) := by rw [gL_a, cl]; exact kc.mi _ hz
        have g2b : mz_gL (mz_pI N2 232 0 0) 262 (nI (48 * a1 + a2)) = L.k.mi (48 * a1 + a2) := by rw [gL_a, cl]; exact kr.mi _ hz
        have g3a : mz_gL N1 71 (nI (48 * a1 + a2)) = L.k.sm (48 * a1 + a2) := by rw [gL_a, cl]; exact kc.sm _ hz
        have g3b : mz_gL (mz_pI N2 232 0 0) 265 (nI (48 * a1 + a2)) = L.k.sm (48 * a1 + a2) := by rw [gL_a, cl]; exact kr.sm _ hz
        have g4a : (mz_gI N1 72 (nI (48 * a1 + a2))).toInt64 = lN (L.k.mo (48 * a1 + a2)) := by rw [gI_a, cl, kc.mo _ hz, nI_L (by have := kb.mo _ hz; omega)]
        have g4b : mz_gL (mz_pI N2 232 0 0) 263 (nI (48 * a1 + a2)) = lN (L.k.mo (48 * a1 + a2)) := by rw [gL_a, cl]; exact kr.mo _ hz
        have g5a : (mz_gI N1 73 (nI (48 * a1 + a2))).toInt64 = lN (L.k.fl (48 * a1 + a2)) := by rw [gI_a, cl, kc.fl _ hz, nI_L (by have := kb.fl _ hz; omega)]
        have g5b : mz_gL (mz_pI N2 232 0 0) 264 (nI (48 * a1 + a2)) = lN (L.k.fl (48 * a1 + a2)) := by rw [gL_a, cl]; exact kr.fl _ hz
        have z0 : (nI a3 = 0) = (a3 = 0) := nI_lit (c := 0) (by omega) (by omega)
        have z1 : (nI a3 = 1) = (a3 = 1) := nI_lit (c := 1) (by omega) (by omega)
        have z2 : (nI a3 = 2) = (a3 = 2) := nI_lit (c := 2) (by omega) (by omega)
        have z3 : (nI a3 = 3) = (a3 = 3) := nI_lit (c := 3) (by omega) (by omega)
        have z4 : (nI a3 = 4) = (a3 = 4) := nI_lit (c := 4) (by omega) (by omega)
        rcases (show a3 = 0 ∨ a3 = 1 ∨ a3 = 2 ∨ a3 = 3 ∨ a3 = 4 ∨ a3 = 5 by omega) with w | w | w | w | w | w
        · have w0 : (a3 = 0) = True := eq_true w
          have w1 : (a3 = 1) = False := eq_false (by omega)
          have w2 : (a3 = 2) = False := eq_false (by omega)
          have w3 : (a3 = 3) = False := eq_false (by omega)
          have w4 : (a3 = 4) = False := eq_false (by omega)
          simp [cell_in, cp_289_0, cf_289_0, cp_553_0, cf_553_0, cp_553_26, cf_553_26, cp_553_25, cf_553_25, u1, u2, p1, p2, p3, i1, i2, i3, j1, j2, j3, F1, F2, qok, n00, z0, z1, z2, z3, z4, w0, w1, w2, w3, w4, e1, e2, ib, g0a, g0b, g1a, g1b, g2a, g2b, g3a, g3b, g4a, g4b, g5a, g5b]
        · have w0 : (a3 = 0) = False := eq_false (by omega)
          have w1 : (a3 = 1) = True := eq_true w
          have w2 : (a3 = 2) = False := eq_false (by omega)
          have w3 : (a3 = 3) = False := eq_false (by omega)
          have w4 : (a3 = 4) = False := eq_false (by omega)
          simp [cell_in, cp_289_0, cf_289_0, cp_553_0, cf_553_0, cp_553_26, cf_553_26, cp_553_25, cf_553_25, u1, u2, p1, p2, p3, i1, i2, i3, j1, j2, j3, F1, F2, qok, n00, z0, z1, z2, z3, z4, w0, w1, w2, w3, w4, e1, e2, ib, g0a, g0b, g1a, g1b, g2a, g2b, g3a, g3b, g4a, g4b, g5a, g5b]
        · have w0 : (a3 = 0) = False := eq_false (by omega)
          have w1 : (a3 = 1) = False := eq_false (by omega)
          have w2 : (a3 = 2) = True := eq_true w
          have w3 : (a3 = 3) = False := eq_false (by omega)
          have w4 : (a3 = 4) = False := eq_false (by omega)
          simp [cell_in, cp_289_0, cf_289_0, cp_553_0, cf_553_0, cp_553_26, cf_553_26, cp_553_25, cf_553_25, u1, u2, p1, p2, p3, i1, i2, i3, j1, j2, j3, F1, F2, qok, n00, z0, z1, z2, z3, z4, w0, w1, w2, w3, w4, e1, e2, ib, g0a, g0b, g1a, g1b, g2a, g2b, g3a, g3b, g4a, g4b, g5a, g5b]
        · have w0 : (a3 = 0) = False := eq_false (by omega)
          have w1 : (a3 = 1) = False := eq_false (by omega)
          have w2 : (a3 = 2) = False := eq_false (by omega)
          have w3 : (a3 = 3) = True := eq_true w
          have w4 : (a3 = 4) = False := eq_false (by omega)
          simp [cell_in, cp_289_0, cf_289_0, cp_553_0, cf_553_0, cp_553_26, cf_553_26, cp_553_25, cf_553_25, u1, u2, p1, p2, p3, i1, i2, i3, j1, j2, j3, F1, F2, qok, n00, z0, z1, z2, z3, z4, w0, w1, w2, w3, w4, e1, e2, ib, g0a, g0b, g1a, g1b, g2a, g2b, g3a, g3b, g4a, g4b, g5a, g5b]
        · have w0 : (a3 = 0) = False := eq_false (by omega)
          have w1 : (a3 = 1) = False := eq_false (by omega)
          have w2 : (a3 = 2) = False := eq_false (by omega)
          have w3 : (a3 = 3) = False := eq_false (by omega)
          have w4 : (a3 = 4) = True := eq_true w
          simp [cell_in, cp_289_0, cf_289_0, cp_553_0, cf_553_0, cp_553_26, cf_553_26, cp_553_25, cf_553_25, u1, u2, p1, p2, p3, i1, i2, i3, j1, j2, j3, F1, F2, qok, n00, z0, z1, z2, z3, z4, w0, w1, w2, w3, w4, e1, e2, ib, g0a, g0b, g1a, g1b, g2a, g2b, g3a, g3b, g4a, g4b, g5a, g5b]
        · have w0 : (a3 = 0) = False := eq_false (by omega)
          have w1 : (a3 = 1) = False := eq_false (by omega)
          have w2 : (a3 = 2) = False := eq_false (by omega)
          have w3 : (a3 = 3) = False := eq_false (by omega)
          have w4 : (a3 = 4) = False := eq_false (by omega)
          simp [cell_in, cp_289_0, cf_289_0, cp_553_0, cf_553_0, cp_553_26, cf_553_26, cp_553_25, cf_553_25, u1, u2, p1, p2, p3, i1, i2, i3, j1, j2, j3, F1, F2, qok, n00, z0, z1, z2, z3, z4, w0, w1, w2, w3, w4, e1, e2, ib, g0a, g0b, g1a, g1b, g2a, g2b, g3a, g3b, g4a, g4b, g5a, g5b]
      · simp [cell_in, cp_289_0, cf_289_0, cp_553_0, cf_553_0, cp_553_26, cf_553_26, cp_553_25, cf_553_25, u1, u2, p1, p2, p3, i1, i2, i3, j1, j2, j3, F3, F4, qok, n01]
    · simp [cell_in, cp_289_0, cf_289_0, cp_553_0, cf_553_0, cp_553_26, cf_553_26, cp_553_25, cf_553_25, u1, u2, p1, p2, p3, i1, i2, j1, j2, F3, F4, qok, n01]
  · simp [cell_in, cp_289_0, cf_289_0, cp_553_0, cf_553_0, cp_553_26, cf_553_26, cp_553_25, cf_553_25, u1, u2, p1, p2, p3, i1, j1, F3, F4, qok, n01]
end Qv
