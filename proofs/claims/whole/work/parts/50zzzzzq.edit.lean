/-! PURE (50zzzzzq): settle, edit, copy. -/
section Ed
variable {N N1 N2 M1 M2 : mz_N} {b : Bool} {B q d : Nat} {s : st_S} {D H : Kp} {x : CrS} {L : LvS} {R : RsS} {v v1 v2 v4 v5 v6 w3 : Int32} {v3 : Bool} {E P G : Nat → Nat}
/-- one place of a desk's draft, of its base -/
def dset (f : Nat → Nat → Nat) (d i y : Nat) : Nat → Nat → Nat := fun u j => if u = d ∧ j = i then y else f u j
theorem settle_al (h : Sm q B N1 b N2) : cp_145_0 v1 v2 v3 N1 ∧ cp_480_0 v1 v2 v3 N2 ∧ cal q B b N1 N2 (cf_145_0 v1 v2 v3 N1) (cf_480_0 v1 v2 v3 N2) := by
  obtain ⟨p1, c1⟩ := in_l 0 2 (by omega) (by omega) v1 (w0 := 0) (w := 2) (g0 := 0) (g := 2) rfl rfl rfl rfl
  have dk := desk_in (v := v1)
  rcases Sm_0 h with ⟨hu, u1, u2, F1, Ft, Ff, Fs, F3, F4⟩ | ⟨u1, u2, F1, Fd, F3, F4⟩
  · rcases c1 with ⟨d, _, hd, rfl, i1, j1⟩ | ⟨i1, j1⟩
    · rw [i1] at dk
      have dk' : cf_461_0 (nI d) = true := dk
      by_cases w : v2 < 0
      · exact ⟨by simp [cp_145_0, cp_145_19, cf_142_0, u1, u2, p1, i1, w], by simp [cp_480_0, cp_480_16, cp_480_17, dk', w, F1, Ff], Sm_r (a := 0) (a' := 0) h (Or.inl rfl) (by simp [cf_145_0, cf_145_19, cf_142_0, u2, i1, w]) (by simp [cf_480_0, cf_480_16, cf_480_17, dk', w, Ff])⟩
      · obtain ⟨p, C, s, D, H, x, L, R, h1, h2, h3, h4, h5, h6⟩ := id hu
        have k2 : dkR N1 (mz_pI N2 232 0 0) d (H.1 0) (R.dr d) (R.bs d) := dk_of h3 h4 (by omega)
        obtain ⟨a1, a2, a3⟩ := conf_f (show d < 3 by omega) k2 v2
        rcases a3 with ⟨i, hi, e1, e2⟩ | ⟨e1, e2⟩
        · obtain ⟨m1, m2⟩ := nI_neg2 (k := i) (by omega)
          have ec : (nI d).toNatClampNeg = d := nI_clamp (by omega)
          have i3 : mz_ib (nI d) 3 := ib_n (by omega) (by omega)
          have i5 : mz_ib (nI i) 550 := ib_n hi (by omega)
          have i44 : mz_ib (nI i) 4400 := ib_n (by omega) (by omega)
          have y1 : mz_ib (nI (550 * (1 + d) + i)) 4400 := ib_n (by omega) (by omega)
          have y4 : mz_ib (nI (550 * (4 + d) + i)) 4400 := ib_n (by omega) (by omega)
          have g1 : mz_gI N1 3 (nI i) = nI (H.1 0 i) := by rw [gI_a, nI_clamp (by omega)]; exact h3.cs.ks.kc.1 i hi
          have g2 : mz_gI (mz_pI N2 232 0 0) 233 (nI i) = nI (H.1 0 i) := by rw [gI_a, nI_clamp (by omega)]; exact h3.cs.ks.kr.1 i hi
          have gg1 : mz_gI (mz_wI N1 (9 + d) (nI i) (nI (H.1 0 i))) 3 (nI i) = nI (H.1 0 i) := by rw [gI_a, nI_clamp (by omega), wI_ne (by omega)]; exact h3.cs.ks.kc.1 i hi
          have gg2 : mz_gI (mz_wI (mz_pI N2 232 0 0) 233 (nI (550 * (4 + d) + i)) (nI (H.1 0 i))) 233 (nI i) = nI (H.1 0 i) := by rw [gI_a, nI_clamp (by omega), wI_at (by omega), if_neg (by omega)]; exact h3.cs.ks.kr.1 i hi
          have hE := h3.iv.pl.e4 i hi
          have hbd := h3.iv.pl.bd i hi
          have n0 : ¬ (false = true) := fun z => by cases z
          cases v3 with
          | true =>
            generalize hM1 : mz_wI N1 (9 + d) (nI i) (nI (H.1 0 i)) = M1
            generalize hM2 : mz_wI (mz_pI N2 232 0 0) 233 (nI (550 * (4 + d) + i)) (nI (H.1 0 i)) = M2
            have f1 : fq [5, 6, 7, 9, 10, 11] [] N1 M1 := by rw [← hM1]; exact fq_wI (fq_refl _ _ _) (d_in (by omega)).2
            have f2 : fq [232, 233] [] N2 M2 := by rw [← hM2]; exact fq_wI (fq_pI (fq_refl _ _ _) rfl) rfl
            have i2 : ∀ f, f ≠ 0 → M2.1 232 f = N2.1 232 f := fun f g0 => by rw [← hM2, wI_ne (by decide), pI_s, sI_e, up_a, if_neg g0]
            have h0 : M2.1 232 0 = 0 := by rw [← hM2, wI_ne (by decide)]; exact code_0
            have c233 : ∀ j, M2.1 233 j = if j = 550 * (4 + d) + i then nI (H.1 0 i) else N2.1 233 j := fun j => by rw [← hM2, wI_at (by omega)]; rfl
            have dc : ∀ u, u < 3 → ∀ j, j < 550 → M1.1 (5 + u) j = nI (R.dr u j) ∧ M1.1 (9 + u) j = nI (dset R.bs d i (H.1 0 i) u j) := fun u hu' j hj => by
              unfold dset
              rw [← hM1, wI_gen (by omega), wI_gen (by omega), if_neg (show ¬ (5 + u = 9 + d ∧ j = i) by omega)]
              by_cases z : u = d ∧ j = i
              · rw [if_pos z, if_pos (show 9 + u = 9 + d ∧ j = i by omega)]; exact ⟨(h4.dc u hu' j hj).1, rfl⟩
              · rw [if_neg z, if_neg (show ¬ (9 + u = 9 + d ∧ j = i) by omega)]; exact h4.dc u hu' j hj
            have rd : ∀ u, u < 3 → ∀ j, j < 550 → M2.1 233 (550 * (1 + u) + j) = nI (R.dr u j) ∧ M2.1 233 (550 * (4 + u) + j) = nI (dset R.bs d i (H.1 0 i) u j) := fun u hu' j hj => by
              unfold dset
              rw [c233, c233, if_neg (show ¬ (550 * (1 + u) + j = 550 * (4 + d) + i) by omega)]
              by_cases z : u = d ∧ j = i
              · rw [if_pos z, if_pos (show 550 * (4 + u) + j = 550 * (4 + d) + i by omega)]; exact ⟨(h4.rd u hu' j hj).1, rfl⟩
              · rw [if_neg z, if_neg (show ¬ (550 * (4 + u) + j = 550 * (4 + d) + i) by omega)]; exact h4.rd u hu' j hj
            have db : ∀ u, u < 3 → ∀ j, j < 550 → R.dr u j < 4 ∧ dset R.bs d i (H.1 0 i) u j < 4 ∧ (ge_sd (j % 110) < 4 → R.dr u j = 2 ∨ R.dr u j = 3) := fun u hu' j hj => by
              unfold dset
              refine ⟨(h4.db u hu' j hj).1, ?_, (h4.db u hu' j hj).2.2⟩
              by_cases z : u = d ∧ j = i
              · rw [if_pos z]; exact hE
              · rw [if_neg z]; exact (h4.db u hu' j hj).2.1
            have d2 : ∀ j, j < 550 → M2.1 233 j = N2.1 233 j := fun j hj => by rw [c233, if_neg (by omega)]
            have k3 : dkR M1 M2 d (H.1 0) (R.dr d) (dset R.bs d i (H.1 0 i) d) := ⟨fun j hj => ⟨by rw [← hM1, wI_ne (by omega)]; exact h3.cs.ks.kc.1 j hj, (dc d (by omega) j hj).1, (dc d (by omega) j hj).2⟩, fun j hj => ⟨by rw [d2 j hj]; exact h3.cs.ks.kr.1 j hj, (rd d (by omega) j hj).1, (rd d (by omega) j hj).2⟩, fun j hj => ⟨h3.iv.pl.e4 j hj, (db d (by omega) j hj).1, (db d (by omega) j hj).2.1⟩⟩
            obtain ⟨b1', b2, n, b3, b4, b5⟩ := conf_n (show d < 3 by omega) k3
            have x1 : cf_145_0 (nI d) v2 true N1 = (0, nI n, M1) := by simp only [cf_145_0, cf_145_19, cf_142_0, u2, i1, if_neg w, e1, if_neg m1, if_true, cf_146_0, ec, g1, hM1, b4]
            have x2 : cf_480_0 (nI d) v2 true N2 = (nI n, M2) := by simp only [cf_480_0, cf_480_17, cf_480_63, cf_480_89, dk', if_neg w, Ft, if_true, Bool.false_eq_true, if_false, e2, if_neg m2, ix_4, g2, hM2, b5]
            refine ⟨by simp [cp_145_0, cp_145_19, cf_142_0, u1, u2, p1, i1, w, a1, e1, cp_146_0, cf_146_0, i3, i5, ec, g1, hM1, b1'], by simp [cp_480_0, cp_480_17, cp_480_63, cp_480_89, dk', w, F1, Ft, a2, e2, ix_4, g2, hM2, i44, y4, b2], ?_⟩
            rw [x1, x2]
            exact cal_u h0 rfl (oF_q f1 f2 rfl rfl rfl rfl) (desk_up h1 h2 h3 h4 h5 h6 f1 f2 i2 d2 dc rd db)
          | false =>
            generalize hM1 : mz_wI (mz_wI N1 (9 + d) (nI i) (nI (H.1 0 i))) (5 + d) (nI i) (nI (H.1 0 i)) = M1
            generalize hM2 : mz_wI (mz_wI (mz_pI N2 232 0 0) 233 (nI (550 * (4 + d) + i)) (nI (H.1 0 i))) 233 (nI (550 * (1 + d) + i)) (nI (H.1 0 i)) = M2
            have f1 : fq [5, 6, 7, 9, 10, 11] [] N1 M1 := by rw [← hM1]; exact fq_wI (fq_wI (fq_refl _ _ _) (d_in (by omega)).2) (d_in (by omega)).1
            have f2 : fq [232, 233] [] N2 M2 := by rw [← hM2]; exact fq_wI (fq_wI (fq_pI (fq_refl _ _ _) rfl) rfl) rfl
            have i2 : ∀ f, f ≠ 0 → M2.1 232 f = N2.1 232 f := fun f g0 => by rw [← hM2, wI_ne (by decide), wI_ne (by decide), pI_s, sI_e, up_a, if_neg g0]
            have h0 : M2.1 232 0 = 0 := by rw [← hM2, wI_ne (by decide), wI_ne (by decide)]; exact code_0
            have c233 : ∀ j, M2.1 233 j = if j = 550 * (1 + d) + i then nI (H.1 0 i) else if j = 550 * (4 + d) + i then nI (H.1 0 i) else N2.1 233 j := fun j => by rw [← hM2, wI_at (by omega), wI_at (by omega)]; rfl
            have dc : ∀ u, u < 3 → ∀ j, j < 550 → M1.1 (5 + u) j = nI (dset R.dr d i (H.1 0 i) u j) ∧ M1.1 (9 + u) j = nI (dset R.bs d i (H.1 0 i) u j) := fun u hu' j hj => by
              unfold dset
              rw [← hM1, wI_gen (by omega), wI_gen (by omega), wI_gen (by omega), wI_gen (by omega), if_neg (show ¬ (5 + u = 9 + d ∧ j = i) by omega), if_neg (show ¬ (9 + u = 5 + d ∧ j = i) by omega)]
              by_cases z : u = d ∧ j = i
              · rw [if_pos z, if_pos z, if_pos (show 9 + u = 9 + d ∧ j = i by omega), if_pos (show 5 + u = 5 + d ∧ j = i by omega)]; exact ⟨rfl, rfl⟩
              · rw [if_neg z, if_neg z, if_neg (show ¬ (9 + u = 9 + d ∧ j = i) by omega), if_neg (show ¬ (5 + u = 5 + d ∧ j = i) by omega)]; exact h4.dc u hu' j hj
            have rd : ∀ u, u < 3 → ∀ j, j < 550 → M2.1 233 (550 * (1 + u) + j) = nI (dset R.dr d i (H.1 0 i) u j) ∧ M2.1 233 (550 * (4 + u) + j) = nI (dset R.bs d i (H.1 0 i) u j) := fun u hu' j hj => by
              unfold dset
              rw [c233, c233, if_neg (show ¬ (550 * (1 + u) + j = 550 * (4 + d) + i) by omega), if_neg (show ¬ (550 * (4 + u) + j = 550 * (1 + d) + i) by omega)]
              by_cases z : u = d ∧ j = i
              · rw [if_pos z, if_pos z, if_pos (show 550 * (4 + u) + j = 550 * (4 + d) + i by omega), if_pos (show 550 * (1 + u) + j = 550 * (1 + d) + i by omega)]; exact ⟨rfl, rfl⟩
              · rw [if_neg z, if_neg z, if_neg (show ¬ (550 * (4 + u) + j = 550 * (4 + d) + i) by omega), if_neg (show ¬ (550 * (1 + u) + j = 550 * (1 + d) + i) by omega)]; exact h4.rd u hu' j hj
            have db : ∀ u, u < 3 → ∀ j, j < 550 → dset R.dr d i (H.1 0 i) u j < 4 ∧ dset R.bs d i (H.1 0 i) u j < 4 ∧ (ge_sd (j % 110) < 4 → dset R.dr d i (H.1 0 i) u j = 2 ∨ dset R.dr d i (H.1 0 i) u j = 3) := fun u hu' j hj => by
              unfold dset
              by_cases z : u = d ∧ j = i
              · rw [if_pos z, if_pos z, z.2]; exact ⟨hE, hE, hbd⟩
              · rw [if_neg z, if_neg z]; exact h4.db u hu' j hj
            have d2 : ∀ j, j < 550 → M2.1 233 j = N2.1 233 j := fun j hj => by rw [c233, if_neg (by omega), if_neg (by omega)]
            have k3 : dkR M1 M2 d (H.1 0) (dset R.dr d i (H.1 0 i) d) (dset R.bs d i (H.1 0 i) d) := ⟨fun j hj => ⟨by rw [← hM1, wI_ne (by omega), wI_ne (by omega)]; exact h3.cs.ks.kc.1 j hj, (dc d (by omega) j hj).1, (dc d (by omega) j hj).2⟩, fun j hj => ⟨by rw [d2 j hj]; exact h3.cs.ks.kr.1 j hj, (rd d (by omega) j hj).1, (rd d (by omega) j hj).2⟩, fun j hj => ⟨h3.iv.pl.e4 j hj, (db d (by omega) j hj).1, (db d (by omega) j hj).2.1⟩⟩
            obtain ⟨b1', b2, n, b3, b4, b5⟩ := conf_n (show d < 3 by omega) k3
            have x1 : cf_145_0 (nI d) v2 false N1 = (0, nI n, M1) := by simp only [cf_145_0, cf_145_19, cf_142_0, u2, i1, if_neg w, e1, if_neg m1, if_true, cf_146_0, cf_146_32, if_neg n0, ec, g1, gg1, hM1, b4]
            have x2 : cf_480_0 (nI d) v2 false N2 = (nI n, M2) := by simp only [cf_480_0, cf_480_17, cf_480_63, cf_480_89, dk', if_neg w, Ft, if_true, Bool.false_eq_true, if_false, e2, if_neg m2, ix_4, ix_1, g2, gg2, hM2, b5]
            refine ⟨by simp [cp_145_0, cp_145_19, cf_142_0, u1, u2, p1, i1, w, a1, e1, cp_146_0, cp_146_32, cf_146_0, cf_146_32, i3, i5, ec, g1, gg1, hM1, b1'], by simp [cp_480_0, cp_480_17, cp_480_63, cp_480_89, dk', w, F1, Ft, a2, e2, ix_4, ix_1, g2, gg2, hM2, i44, y4, y1, b2], ?_⟩
            rw [x1, x2]
            exact cal_u h0 rfl (oF_q f1 f2 rfl rfl rfl rfl) (desk_up h1 h2 h3 h4 h5 h6 f1 f2 i2 d2 dc rd db)
        · have m0 : ((-1 : Int32) < 0) = True := eq_true (by decide)
          have x1 : cf_145_0 (nI d) v2 v3 N1 = (0, -1, N1) := by simp only [cf_145_0, cf_145_19, cf_142_0, u2, i1, if_neg w, e1, if_true]
          have x2 : cf_480_0 (nI d) v2 v3 N2 = (-1, mz_pI N2 232 0 0) := by simp only [cf_480_0, cf_480_17, dk', if_neg w, Ft, if_true, Bool.false_eq_true, if_false, e2, m0]
          refine ⟨by simp [cp_145_0, cp_145_19, cf_142_0, u1, u2, p1, i1, w, a1, e1], by simp [cp_480_0, cp_480_17, dk', w, F1, Ft, a2, e2], ?_⟩
          rw [x1, x2]
          exact cal_u code_0 rfl oF_code (Up_code hu)
    · rw [i1] at dk
      have dk' : cf_461_0 v1 = false := dk
      exact ⟨by simp [cp_145_0, u1, u2, p1, i1], by simp [cp_480_0, cp_480_16, cp_480_17, dk', F1, Ff], Sm_r (a := 0) (a' := 0) h (Or.inl rfl) (by simp [cf_145_0, u2, i1]) (by simp [cf_480_0, cf_480_16, cf_480_17, dk', Ff])⟩
  · exact ⟨by simp [cp_145_0, u1, u2], by simp [cp_480_0, cp_480_16, cp_480_17, F1, Fd], Sm_r (a := 0) (a' := 0) h (Or.inr rfl) (by simp [cf_145_0, u2]) (by simp [cf_480_0, cf_480_16, cf_480_17, Fd])⟩
/-- drafts and bases, both sides -/
def dAll (N1 N2 : mz_N) (dr bs : Nat → Nat → Nat) : Prop := (∀ d, d < 3 → ∀ i, i < 550 → N1.1 (5 + d) i = nI (dr d i) ∧ N1.1 (9 + d) i = nI (bs d i)) ∧ (∀ d, d < 3 → ∀ i, i < 550 → N2.1 233 (550 * (1 + d) + i) = nI (dr d i) ∧ N2.1 233 (550 * (4 + d) + i) = nI (bs d i)) ∧ (∀ d, d < 3 → ∀ i, i < 550 → dr d i < 4 ∧ bs d i < 4 ∧ (ge_sd (i % 110) < 4 → dr d i = 2 ∨ dr d i = 3))
theorem dAll.dc {N1 N2 : mz_N} {dr bs : Nat → Nat → Nat} (h : dAll N1 N2 dr bs) : ∀ d, d < 3 → ∀ i, i < 550 → N1.1 (5 + d) i = nI (dr d i) ∧ N1.1 (9 + d) i = nI (bs d i) := h.1
theorem dAll.rd {N1 N2 : mz_N} {dr bs : Nat → Nat → Nat} (h : dAll N1 N2 dr bs) : ∀ d, d < 3 → ∀ i, i < 550 → N2.1 233 (550 * (1 + d) + i) = nI (dr d i) ∧ N2.1 233 (550 * (4 + d) + i) = nI (bs d i) := h.2.1
theorem dAll.db {N1 N2 : mz_N} {dr bs : Nat → Nat → Nat} (h : dAll N1 N2 dr bs) : ∀ d, d < 3 → ∀ i, i < 550 → dr d i < 4 ∧ bs d i < 4 ∧ (ge_sd (i % 110) < 4 → dr d i = 2 ∨ dr d i = 3) := h.2.2
/-- one edge is drawn -/
theorem draw_al {dr bs : Nat → Nat → Nat} {st ed kd : Nat} (hd : d < 3) (hs : st < 5) (he : ed < 110) (hk : kd < 4) (h : dAll N1 N2 dr bs) : cp_108_0 (nI d) (nI st) (nI ed) (nI kd) N1 ∧ ∃ w dr' M1 M2, cf_108_0 (nI d) (nI st) (nI ed) (nI kd) N1 = (w, M1) ∧ dAll M1 M2 dr' bs ∧ fq [5, 6, 7, 9, 10, 11] [] N1 M1 ∧ fq [233] [] N2 M2 ∧ (∀ j, j < 550 → M2.1 233 j = N2.1 233 j) ∧
    ((kd < 2 ∧ ge_sd ed < 4 ∧ w = false ∧ M2 = N2) ∨ (¬ (kd < 2 ∧ ge_sd ed < 4) ∧ ((w = false ∧ mz_gI N2 233 (nI (550 * (1 + d) + (110 * st + ed))) = nI kd ∧ M2 = N2) ∨ (w = true ∧ ¬ mz_gI N2 233 (nI (550 * (1 + d) + (110 * st + ed))) = nI kd ∧ M2 = mz_wI N2 233 (nI (550 * (1 + d) + (110 * st + ed))) (nI kd))))) := by
  have ec : (nI d).toNatClampNeg = d := nI_clamp (by omega)
  have i3 : mz_ib (nI d) 3 := ib_n (by omega) (by omega)
  have x1 : nI st * 110 + nI ed = nI (110 * st + ed) := by rw [show (110 : Int32) = nI 110 from rfl, pk_mul, nI_add, Nat.mul_comm]
  have i5 : mz_ib (nI (110 * st + ed)) 550 := ib_n (by omega) (by omega)
  have sd := (ge_e ed he).2.2.2.2.1
  have em : (110 * st + ed) % 110 = ed := by omega
  have hz : 110 * st + ed < 550 := by omega
  rw [cp_108_0, cf_108_0, ec, x1]
  generalize 110 * st + ed = z at *
  have ga : mz_gI N1 (5 + d) (nI z) = nI (dr d z) := by rw [gI_a, nI_clamp (by omega)]; exact (h.dc d hd z hz).1
  have gb : mz_gI N2 233 (nI (550 * (1 + d) + z)) = nI (dr d z) := by rw [gI_a, nI_clamp (by omega)]; exact (h.rd d hd z hz).1
  have hb := (h.db d hd z hz).1
  have qq : (nI (dr d z) = nI kd) = (dr d z = kd) := propext (nI_eq (by omega) (by omega))
  have k2 : (nI kd = 2) = (kd = 2) := propext (nI_eq (b := 2) (by omega) (by omega))
  have k3 : (nI kd = 3) = (kd = 3) := propext (nI_eq (b := 3) (by omega) (by omega))
  have m1 : (nO 4 (ge_sd ed) = -1) = (¬ ge_sd ed < 4) := propext (nO_m1 (by omega))
  have mb : cf_109_0 (nI ed) (nI kd) = decide (¬ (kd < 2 ∧ ge_sd ed < 4)) := by
    rw [cf_109_0, sd]
    simp only [m1, k2, k3]
    by_cases a : ge_sd ed < 4
    · by_cases c : kd < 2
      · rw [if_neg (fun y => y a), if_neg (by omega), if_neg (by omega)]; symm; exact decide_eq_false (fun y => y ⟨c, a⟩)
      · rw [if_neg (fun y => y a)]
        by_cases c2 : kd = 2
        · rw [if_pos c2]; symm; exact decide_eq_true (fun y => c y.1)
        · rw [if_neg c2, if_pos (by omega)]; symm; exact decide_eq_true (fun y => c y.1)
    · rw [if_pos a]; symm; exact decide_eq_true (fun y => a y.2)
  rw [mb, ga]
  have nf : ¬ (false = true) := fun z => by cases z
  by_cases o : kd < 2 ∧ ge_sd ed < 4
  · have e0 : decide (¬ (kd < 2 ∧ ge_sd ed < 4)) = false := decide_eq_false (fun y => y o)
    rw [e0]
    exact ⟨⟨fun y => absurd y nf, fun _ => trivial⟩, false, dr, N1, N2, rfl, h, fq_refl _ _ _, fq_refl _ _ _, fun _ _ => rfl, Or.inl ⟨o.1, o.2, rfl, rfl⟩⟩
  · have e0 : decide (¬ (kd < 2 ∧ ge_sd ed < 4)) = true := decide_eq_true o
    rw [e0]
    simp only [qq, if_true]
    refine ⟨⟨fun _ => ⟨i3, i5, fun _ => trivial, fun _ => ⟨i3, i5⟩⟩, fun y => absurd trivial y⟩, ?_⟩
    rw [gb]
    simp only [qq]
    by_cases w : dr d z = kd
    · rw [if_pos w]
      exact ⟨false, dr, N1, N2, rfl, h, fq_refl _ _ _, fq_refl _ _ _, fun _ _ => rfl, Or.inr ⟨o, Or.inl ⟨rfl, w, rfl⟩⟩⟩
    · rw [if_neg w]
      refine ⟨true, dset dr d z kd, _, mz_wI N2 233 (nI (550 * (1 + d) + z)) (nI kd), rfl, ⟨fun u hu j hj => ?_, fun u hu j hj => ?_, fun u hu j hj => ?_⟩, fq_wI (fq_refl _ _ _) (d_in (by omega)).1, fq_wI (fq_refl _ _ _) rfl, fun j hj => by rw [wI_at (by omega), if_neg (by omega)], Or.inr ⟨o, Or.inr ⟨rfl, w, rfl⟩⟩⟩
      · unfold dset
        rw [wI_gen (by omega), wI_gen (by omega), if_neg (show ¬ (9 + u = 5 + d ∧ j = z) by omega)]
        by_cases y : u = d ∧ j = z
        · rw [if_pos y, if_pos (show 5 + u = 5 + d ∧ j = z by omega)]; exact ⟨rfl, (h.dc u hu j hj).2⟩
        · rw [if_neg y, if_neg (show ¬ (5 + u = 5 + d ∧ j = z) by omega)]; exact h.dc u hu j hj
      · unfold dset
        rw [wI_at (by omega), wI_at (by omega), if_neg (show ¬ (550 * (4 + u) + j = 550 * (1 + d) + z) by omega)]
        by_cases y : u = d ∧ j = z
        · rw [if_pos y, if_pos (show 550 * (1 + u) + j = 550 * (1 + d) + z by omega)]; exact ⟨rfl, (h.rd u hu j hj).2⟩
        · rw [if_neg y, if_neg (show ¬ (550 * (1 + u) + j = 550 * (1 + d) + z) by omega)]; exact h.rd u hu j hj
      · unfold dset
        by_cases y : u = d ∧ j = z
        · rw [if_pos y, y.2, em]; exact ⟨hk, (h.db u hu z hz).2.1, fun y2 => by omega⟩
        · rw [if_neg y]; exact h.db u hu j hj
theorem edit_l {dr bs : Nat → Nat → Nat} {st ed n t kd : Nat} (hd : d < 3) (hs : st < 5) (hn : 1 ≤ n) (hz : ed + (n - 1) * t < 110) (ht : t ≤ 110) (hn2 : n ≤ 110) (hk : kd < 4) (h : dAll N1 N2 dr bs) : cp_107_67 (nI d) (nI st) (nI ed) (nI n) (nI t) (nI kd) 0 0 N1 ∧ cp_463_89 (nI d) (nI st) (nI ed) (nI n) (nI t) (nI kd) 0 0 N2 ∧ ∃ c dr' M1 M2, cf_107_67 (nI d) (nI st) (nI ed) (nI n) (nI t) (nI kd) 0 0 N1 = (0, c, M1) ∧ cf_463_89 (nI d) (nI st) (nI ed) (nI n) (nI t) (nI kd) 0 0 N2 = (c, M2) ∧ dAll M1 M2 dr' bs ∧ fq [5, 6, 7, 9, 10, 11] [] N1 M1 ∧ fq [233] [] N2 M2 ∧ ∀ j, j < 550 → M2.1 233 j = N2.1 233 j := by
  have nf : ¬ (false = true) := fun z => by cases z
  rw [cp_107_67, cf_107_67, cp_463_89, cf_463_89]
  refine mz_lp2n (f := cq_107_67 (nI d) (nI st) (nI ed) (nI n) (nI t) (nI kd)) (P := cd_107_67 (nI d) (nI st) (nI ed) (nI n) (nI t) (nI kd)) (g := cq_463_89 (nI d) (nI st) (nI ed) (nI n) (nI t) (nI kd)) (P2 := cd_463_89 (nI d) (nI st) (nI ed) (nI n) (nI t) (nI kd)) (Q := fun r1 r2 => ∃ c dr' M1 M2, r1 = (0, c, M1) ∧ r2 = (c, M2) ∧ dAll M1 M2 dr' bs ∧ fq [5, 6, 7, 9, 10, 11] [] N1 M1 ∧ fq [233] [] N2 M2 ∧ ∀ j, j < 550 → M2.1 233 j = N2.1 233 j) n (fun k s1 s2 => ∃ c dr' M1 M2, s1 = (c, nI k, M1) ∧ s2 = (c, nI k, M2) ∧ dAll M1 M2 dr' bs ∧ fq [5, 6, 7, 9, 10, 11] [] N1 M1 ∧ fq [233] [] N2 M2 ∧ ∀ j, j < 550 → M2.1 233 j = N2.1 233 j) ?_ ?_ (Nat.zero_le _) ⟨0, dr, N1, N2, rfl, rfl, h, fq_refl _ _ _, fq_refl _ _ _, fun _ _ => rfl⟩
  · rintro k s1 s2 hkn ⟨c, dr', M1, M2, rfl, rfl, a1, a2, a3, a4⟩
    have l : nI k < nI n := (nI_ltI (by omega) (by omega)).mpr hkn
    have hkt : ed + k * t < 110 := by
      have : k * t ≤ (n - 1) * t := Nat.mul_le_mul_right t (by omega)
      omega
    have x1 : nI ed + nI k * nI t = nI (ed + k * t) := by rw [pk_mul, nI_add]
    have x2 : 550 * (1 + nI d) + 110 * nI st + nI (ed + k * t) = nI (550 * (1 + d) + (110 * st + (ed + k * t))) := by
      rw [show (550 : Int32) = nI 550 from rfl, show (110 : Int32) = nI 110 from rfl, show (1 : Int32) = nI 1 from rfl, nI_add, pk_mul, pk_mul, nI_add, nI_add, Nat.add_assoc]
    obtain ⟨p1, w, dr2, K1, K2, o1, o2, o3, o4, o5, o6⟩ := draw_al (kd := kd) hd hs hkt hk a1
    have sd := (ge_e (ed + k * t) hkt).2.2.2.2.2
    have g1 : ((1 : Int32) < nI kd) = (1 < kd) := propext (nI_ltI (a := 1) (by omega) (by omega))
    generalize ed + k * t = z at *
    have iz : mz_ib (nI (550 * (1 + d) + (110 * st + z))) 4400 := ib_n (by omega) (by omega)
    generalize nI (550 * (1 + d) + (110 * st + z)) = yy at *
    have res : ∀ c' : Int32, ∃ c dr' M1 M2, (c', nI k + 1, K1) = (c, nI (k + 1), M1) ∧ (c', nI k + 1, K2) = (c, nI (k + 1), M2) ∧ dAll M1 M2 dr' bs ∧ fq [5, 6, 7, 9, 10, 11] [] N1 M1 ∧ fq [233] [] N2 M2 ∧ ∀ j, j < 550 → M2.1 233 j = N2.1 233 j := fun c' => ⟨c', dr2, K1, K2, by rw [nI_1], by rw [nI_1], o2, fq_trans a2 o3, fq_trans a3 o4, fun j hj => (o5 j hj).trans (a4 j hj)⟩
    rw [cd_107_67, cq_107_67, cd_463_89, cq_463_89]
    simp only [l, if_true, x1, x2, o1, sd, g1]
    have T1 : ∀ a e M, cp_107_98 (nI d) (nI st) (nI ed) (nI n) (nI t) (nI kd) a e M := fun _ _ _ => trivial
    have T2 : ∀ a e M, cp_463_160 (nI d) (nI st) (nI ed) (nI n) (nI t) (nI kd) a e M := fun _ _ _ => trivial
    have T3 : ∀ a e, cp_463_136 (nI d) (nI st) (nI ed) (nI n) (nI t) (nI kd) a e yy M2 := fun _ _ => ⟨iz, fun _ => trivial, fun _ => ⟨iz, trivial⟩⟩
    refine ⟨⟨fun _ => ⟨p1, fun _ => trivial, fun _ => trivial⟩, fun z => absurd trivial z⟩, ⟨fun _ => ⟨fun _ => T3 _ _, fun _ => ⟨fun _ => trivial, fun _ => T3 _ _⟩⟩, fun z => absurd trivial z⟩, Or.inl ?_⟩
    rcases o6 with ⟨y1, y2, y3, y4⟩ | ⟨y0, y⟩
    · subst y3 y4
      rw [if_neg nf, if_neg (show ¬ 1 < kd by omega), if_pos (decide_eq_true y2)]
      exact ⟨_, _, rfl, rfl, res c⟩
    · have r0 : (if 1 < kd then cf_463_136 (nI d) (nI st) (nI ed) (nI n) (nI t) (nI kd) c (nI k) yy M2 else if decide (ge_sd z < 4) = true then cf_463_160 (nI d) (nI st) (nI ed) (nI n) (nI t) (nI kd) c (nI k) M2 else cf_463_136 (nI d) (nI st) (nI ed) (nI n) (nI t) (nI kd) c (nI k) yy M2) = cf_463_136 (nI d) (nI st) (nI ed) (nI n) (nI t) (nI kd) c (nI k) yy M2 := by
        by_cases a : 1 < kd
        · rw [if_pos a]
        · rw [if_neg a, if_neg (fun e => y0 ⟨by omega, of_decide_eq_true e⟩)]
      rw [r0]
      rcases y with ⟨y1, y2, y3⟩ | ⟨y1, y2, y3⟩
      · subst y1 y3
        rw [if_neg nf, cf_463_136, if_pos y2]
        exact ⟨_, _, rfl, rfl, res c⟩
      · subst y1
        rw [if_pos rfl, cf_463_136, if_neg y2, ← y3]
        exact ⟨_, _, rfl, rfl, res (c + 1)⟩
  · rintro s1 s2 ⟨c, dr', M1, M2, rfl, rfl, a1, a2, a3, a4⟩
    have l : ¬ nI n < nI n := fun z => by have := (nI_ltI (by omega) (by omega)).mp z; omega
    rw [cd_107_67, cq_107_67, cd_463_89, cq_463_89]
    simp only [l, if_false]
    exact ⟨⟨False.elim, fun _ => trivial⟩, ⟨False.elim, fun _ => trivial⟩, _, _, rfl, rfl, c, dr', M1, M2, rfl, rfl, a1, a2, a3, a4⟩
theorem edit_al (h : Sm q B N1 b N2) : cp_107_0 v1 v2 w3 v4 v5 v6 N1 ∧ cp_463_0 v1 v2 w3 v4 v5 v6 N2 ∧ cal q B b N1 N2 (cf_107_0 v1 v2 w3 v4 v5 v6 N1) (cf_463_0 v1 v2 w3 v4 v5 v6 N2) := by
  obtain ⟨p1, c1⟩ := in_l 0 2 (by omega) (by omega) v1 (w0 := 0) (w := 2) (g0 := 0) (g := 2) rfl rfl rfl rfl
  obtain ⟨p2, c2⟩ := in_l 0 4 (by omega) (by omega) v2 (w0 := 0) (w := 4) (g0 := 0) (g := 4) rfl rfl rfl rfl
  obtain ⟨p3, c3⟩ := in_l 0 109 (by omega) (by omega) w3 (w0 := 0) (w := 109) (g0 := 0) (g := 109) rfl rfl rfl rfl
  obtain ⟨p4, c4⟩ := in_l 1 110 (by omega) (by omega) v4 (w0 := 1) (w := 110) (g0 := 1) (g := 110) rfl rfl rfl rfl
  obtain ⟨p5, c5⟩ := in_l 1 110 (by omega) (by omega) v5 (w0 := 1) (w := 110) (g0 := 1) (g := 110) rfl rfl rfl rfl
  obtain ⟨p6, c6⟩ := in_l 0 3 (by omega) (by omega) v6 (w0 := 0) (w := 3) (g0 := 0) (g := 3) rfl rfl rfl rfl
  have dk := desk_in (v := v1)
  have sk : cf_465_0 v2 = decide (cf_105_0 v2 0 4 = 0) := by rw [cf_465_0, show (4 : Int32) = nI 4 from rfl, i105 (by omega)]; rfl
  have ek : cf_464_0 v2 w3 = if cf_465_0 v2 = true then decide (cf_105_0 w3 0 109 = 0) else false := by rw [cf_464_0, show (109 : Int32) = nI 109 from rfl, i105 (by omega)]; rfl
  rcases Sm_0 h with ⟨hu, u1, u2, F1, Ft, Ff, Fs, F3, F4⟩ | ⟨u1, u2, F1, Fd, F3, F4⟩
  · rcases c1 with ⟨d, _, hd, rfl, i1, j1⟩ | ⟨i1, j1⟩
    · rw [i1] at dk
      have dk' : cf_461_0 (nI d) = true := dk
      rcases c2 with ⟨st, _, hs, rfl, i2, j2⟩ | ⟨i2, j2⟩
      · rw [i2] at sk
        have sk' : cf_465_0 (nI st) = true := sk
        rcases c3 with ⟨ed, _, he, rfl, i3, j3⟩ | ⟨i3, j3⟩
        · rw [sk', i3] at ek
          have ek' : cf_464_0 (nI st) (nI ed) = true := ek
          rcases c4 with ⟨n, hn1, hn, rfl, i4, j4⟩ | ⟨i4, j4⟩
          · rcases c5 with ⟨t, ht1, ht, rfl, i5, j5⟩ | ⟨i5, j5⟩
            · rcases c6 with ⟨kd, _, hk, rfl, i6, j6⟩ | ⟨i6, j6⟩
              · have x1 : nI ed + (nI n - 1) * nI t = nI (ed + (n - 1) * t) := by rw [nI_pr hn1, pk_mul, nI_add]
                have bz : (n - 1) * t ≤ 109 * 110 := Nat.mul_le_mul (by omega) ht
                obtain ⟨p7, c7⟩ := in_l 0 109 (by omega) (by omega) (nI (ed + (n - 1) * t)) (w0 := 0) (w := 109) (g0 := 0) (g := 109) rfl rfl rfl rfl
                have l7 : (nI (ed + (n - 1) * t) < 110) = (ed + (n - 1) * t < 110) := propext (nI_ltI (b := 110) (by omega) (by omega))
                have i7 : decide (cf_105_0 (nI (ed + (n - 1) * t)) 0 109 = 0) = decide (ed + (n - 1) * t < 110) := by
                  have e := i105 (v := nI (ed + (n - 1) * t)) (hi := 109) (by omega)
                  have e' : decide (cf_105_0 (nI (ed + (n - 1) * t)) 0 109 = 0) = _ := e
                  rw [e', if_neg (nI_neg2 (by omega)).2]
                  by_cases w : ed + (n - 1) * t < 110
                  · rw [if_pos ((nI_ltI (by omega) (by omega)).mpr (show _ < 109 + 1 by omega)), decide_eq_true w]
                  · rw [if_neg (fun y => w ((nI_ltI (by omega) (by omega)).mp y)), decide_eq_false w]
                by_cases w : ed + (n - 1) * t < 110
                · have k7 : cf_105_0 (nI (ed + (n - 1) * t)) 0 109 = 0 := of_decide_eq_true (by rw [i7]; exact decide_eq_true w)
                  have w7 : (ed + (n - 1) * t < 110) = True := eq_true w
                  obtain ⟨p, C, s, D, H, x, L, R, h1, h2, h3, h4, h5, h6⟩ := id hu
                  obtain ⟨a1, a2, c, dr', M1, M2, o1, o2, o3, o4, o5, o6⟩ := edit_l (N1 := N1) (N2 := mz_pI N2 232 0 0) (dr := R.dr) (bs := R.bs) (d := d) (st := st) (ed := ed) (n := n) (t := t) (kd := kd) (by omega) (by omega) hn1 w ht hn (by omega) ⟨h4.dc, h4.rd, h4.db⟩
                  have e1 : cf_107_0 (nI d) (nI st) (nI ed) (nI n) (nI t) (nI kd) N1 = (0, c, M1) := by simp only [cf_107_0, u2, i1, i2, i3, i4, i5, i6, x1, k7, if_true, o1]
                  have e2 : cf_463_0 (nI d) (nI st) (nI ed) (nI n) (nI t) (nI kd) N2 = (c, M2) := by simp only [cf_463_0, cf_463_74, dk', ek', j4, j5, j6, x1, l7, w7, if_true, Ft, Bool.false_eq_true, if_false, o2]
                  refine ⟨by simp [cp_107_0, u1, u2, p1, p2, p3, p4, p5, p6, i1, i2, i3, i4, i5, i6, x1, k7, p7, a1], by simp [cp_463_0, cp_463_74, dk', ek', j4, j5, j6, x1, l7, w7, F1, Ft, a2], ?_⟩
                  rw [e1, e2]
                  have f2 : fq [232, 233] [] N2 M2 := fq_trans (M := mz_pI N2 232 0 0) (fq_pI (fq_refl _ _ _) rfl) (fq_sub o5 rfl rfl)
                  have i2' : ∀ f, f ≠ 0 → M2.1 232 f = N2.1 232 f := fun f g0 => by rw [o5.1 232 rfl, pI_s, sI_e, up_a, if_neg g0]
                  exact cal_u (by rw [o5.1 232 rfl]; exact code_0) rfl (oF_q o4 f2 rfl rfl rfl rfl) (desk_up h1 h2 h3 h4 h5 h6 o4 f2 i2' o6 o3.dc o3.rd o3.db)
                · have k7 : cf_105_0 (nI (ed + (n - 1) * t)) 0 109 = 1 := by
                    rcases c7 with ⟨k, _, hk', e, z, _⟩ | ⟨z, _⟩
                    · rw [z] at i7; exact absurd (of_decide_eq_true (i7.symm.trans rfl)) w
                    · exact z
                  have w7 : (ed + (n - 1) * t < 110) = False := eq_false w
                  exact ⟨by simp [cp_107_0, u1, u2, p1, p2, p3, p4, p5, p6, i1, i2, i3, i4, i5, i6, x1, k7, p7], by simp [cp_463_0, cp_463_73, cp_463_74, dk', ek', j4, j5, j6, x1, l7, w7, F1, Ff], Sm_r (a := 0) (a' := 0) h (Or.inl rfl) (by simp [cf_107_0, u2, i1, i2, i3, i4, i5, i6, x1, k7]) (by simp [cf_463_0, cf_463_73, cf_463_74, dk', ek', j4, j5, j6, x1, l7, w7, Ff])⟩
              · exact ⟨by simp [cp_107_0, u1, u2, p1, p2, p3, p4, p5, p6, i1, i2, i3, i4, i5, i6], by simp [cp_463_0, cp_463_73, cp_463_74, dk', ek', j4, j5, j6, F1, Ff], Sm_r (a := 0) (a' := 0) h (Or.inl rfl) (by simp [cf_107_0, u2, i1, i2, i3, i4, i5, i6]) (by simp [cf_463_0, cf_463_73, cf_463_74, dk', ek', j4, j5, j6, Ff])⟩
            · exact ⟨by simp [cp_107_0, u1, u2, p1, p2, p3, p4, p5, i1, i2, i3, i4, i5], by simp [cp_463_0, cp_463_73, cp_463_74, dk', ek', j4, j5, F1, Ff], Sm_r (a := 0) (a' := 0) h (Or.inl rfl) (by simp [cf_107_0, u2, i1, i2, i3, i4, i5]) (by simp [cf_463_0, cf_463_73, cf_463_74, dk', ek', j4, j5, Ff])⟩
          · exact ⟨by simp [cp_107_0, u1, u2, p1, p2, p3, p4, i1, i2, i3, i4], by simp [cp_463_0, cp_463_73, cp_463_74, dk', ek', j4, F1, Ff], Sm_r (a := 0) (a' := 0) h (Or.inl rfl) (by simp [cf_107_0, u2, i1, i2, i3, i4]) (by simp [cf_463_0, cf_463_73, cf_463_74, dk', ek', j4, Ff])⟩
        · rw [sk', i3] at ek
          have ek' : cf_464_0 (nI st) w3 = false := ek
          exact ⟨by simp [cp_107_0, u1, u2, p1, p2, p3, i1, i2, i3], by simp [cp_463_0, cp_463_73, cp_463_74, dk', ek', F1, Ff], Sm_r (a := 0) (a' := 0) h (Or.inl rfl) (by simp [cf_107_0, u2, i1, i2, i3]) (by simp [cf_463_0, cf_463_73, cf_463_74, dk', ek', Ff])⟩
      · rw [i2] at sk
        have sk' : cf_465_0 v2 = false := sk
        rw [sk'] at ek
        have ek' : cf_464_0 v2 w3 = false := ek
        exact ⟨by simp [cp_107_0, u1, u2, p1, p2, i1, i2], by simp [cp_463_0, cp_463_73, cp_463_74, dk', ek', F1, Ff], Sm_r (a := 0) (a' := 0) h (Or.inl rfl) (by simp [cf_107_0, u2, i1, i2]) (by simp [cf_463_0, cf_463_73, cf_463_74, dk', ek', Ff])⟩
    · rw [i1] at dk
      have dk' : cf_461_0 v1 = false := dk
      exact ⟨by simp [cp_107_0, u1, u2, p1, i1], by simp [cp_463_0, cp_463_73, cp_463_74, dk', F1, Ff], Sm_r (a := 0) (a' := 0) h (Or.inl rfl) (by simp [cf_107_0, u2, i1]) (by simp [cf_463_0, cf_463_73, cf_463_74, dk', Ff])⟩
  · exact ⟨by simp [cp_107_0, u1, u2], by simp [cp_463_0, cp_463_73, cp_463_74, F1, Fd], Sm_r (a := 0) (a' := 0) h (Or.inr rfl) (by simp [cf_107_0, u2]) (by simp [cf_463_0, cf_463_73, cf_463_74, Fd])⟩
theorem copy_r {tn rn m : Nat} {ta : Nat → Nat} (hm : m = min tn (4100 - rn)) (ht : tn ≤ 4056) (hr : rn ≤ 4100) (t1 : N.1 232 141 = nI tn) (t2 : N.1 232 143 = nI rn) (t3 : ∀ i, i < tn → N.1 334 i = by8 (ta i)) : cp_604_11 0 N ∧ ∃ g f, cf_604_11 0 N = (nI (rn + m), mz_sI (mz_sI N 335 g) 232 f) ∧ (∀ j, f j = if j = 143 then nI (rn + m) else N.1 232 j) ∧ ∀ j, g j = if rn ≤ j ∧ j < rn + m then by8 (ta (j - rn)) else N.1 335 j := by
  rw [cp_604_11, cf_604_11]
  refine mz_lpn (f := cq_604_11) (P := cd_604_11) (Q := fun r => ∃ g f, r = (nI (rn + m), mz_sI (mz_sI N 335 g) 232 f) ∧ (∀ j, f j = if j = 143 then nI (rn + m) else N.1 232 j) ∧ ∀ j, g j = if rn ≤ j ∧ j < rn + m then by8 (ta (j - rn)) else N.1 335 j) m (fun k s => ∃ g f, s = (nI k, mz_sI (mz_sI N 335 g) 232 f) ∧ (∀ j, f j = if j = 143 then nI (rn + k) else N.1 232 j) ∧ ∀ j, g j = if rn ≤ j ∧ j < rn + k then by8 (ta (j - rn)) else N.1 335 j) ?_ ?_ (Nat.zero_le _) ⟨N.1 335, N.1 232, ?_, fun j => ?_, fun j => ?_⟩
  · rintro k s hk ⟨g, f, rfl, hf, hg⟩
    have e1 : (mz_sI (mz_sI N 335 g) 232 f).1 232 141 = nI tn := by rw [sI_e, hf, if_neg (by decide)]; exact t1
    have e2 : (mz_sI (mz_sI N 335 g) 232 f).1 232 143 = nI (rn + k) := by rw [sI_e, hf, if_pos rfl]
    have l1 : nI k < nI tn := (nI_ltI (by omega) (by omega)).mpr (by omega)
    have l2 : nI (rn + k) < 4100 := (nI_ltI (b := 4100) (by omega) (by omega)).mpr (by omega)
    have g1 : mz_gI (mz_sI (mz_sI N 335 g) 232 f) 334 (nI k) = by8 (ta k) := by rw [gI_a, nI_clamp (by omega), sI_n (by decide), sI_n (by decide)]; exact t3 k (by omega)
    have e3 : (mz_wI (mz_sI (mz_sI N 335 g) 232 f) 335 (nI (rn + k)) (by8 (ta k))).1 232 143 = nI (rn + k) := by rw [wI_ne (by decide)]; exact e2
    rw [cd_604_11, cq_604_11]
    simp only [e1, e2, l1, l2, if_true, g1, by8_nb, e3, nI_1]
    refine ⟨⟨fun _ => ⟨fun _ => ⟨ib_n (by omega) (by omega), ib_n (by omega) (by omega)⟩, fun z => absurd trivial z⟩, fun z => absurd trivial z⟩, Or.inl ⟨_, rfl, upd g (rn + k) (by8 (ta k)), upd f 143 (nI (rn + k + 1)), ?_, fun j => ?_, fun j => ?_⟩⟩
    · rw [wI_s, pI_s, nI_clamp (by omega), sI_n (show 335 ≠ 232 by decide), sI_e]
      have e4 : (mz_sI (mz_sI (mz_sI N 335 g) 232 f) 335 (upd g (rn + k) (by8 (ta k)))).1 232 = f := by rw [sI_n (by decide), sI_e]
      rw [e4]
      refine Prod.ext rfl ?_
      refine Prod.ext (funext fun c => ?_) rfl
      show (mz_sI _ 232 _).1 c = (mz_sI _ 232 _).1 c
      by_cases y : c = 232
      · rw [y, sI_e, sI_e]
      · rw [sI_n y, sI_n y]
        by_cases y2 : c = 335
        · rw [y2, sI_e, sI_e]
        · rw [sI_n y2, sI_n y2, sI_n y, sI_n y2]
    · rw [up_a]
      by_cases y : j = 143
      · rw [if_pos y, if_pos y]; rfl
      · rw [if_neg y, if_neg y, hf, if_neg y]
    · rw [up_a]
      by_cases y : j = rn + k
      · rw [if_pos y, if_pos (by omega), show j - rn = k by omega]
      · rw [if_neg y, hg]
        by_cases y2 : rn ≤ j ∧ j < rn + k
        · rw [if_pos y2, if_pos (by omega)]
        · rw [if_neg y2, if_neg (by omega)]
  · rintro s ⟨g, f, rfl, hf, hg⟩
    have e1 : (mz_sI (mz_sI N 335 g) 232 f).1 232 141 = nI tn := by rw [sI_e, hf, if_neg (by decide)]; exact t1
    have e2 : (mz_sI (mz_sI N 335 g) 232 f).1 232 143 = nI (rn + m) := by rw [sI_e, hf, if_pos rfl]
    rw [cd_604_11, cq_604_11]
    simp only [e1, e2]
    by_cases w : m < tn
    · have l1 : nI m < nI tn := (nI_ltI (by omega) (by omega)).mpr w
      have l2 : ¬ nI (rn + m) < 4100 := fun z => by have := (nI_ltI (b := 4100) (by omega) (by omega)).mp z; omega
      rw [if_pos l1, if_neg l2]
      exact ⟨⟨fun _ => ⟨fun y => absurd y l2, fun _ => trivial⟩, fun y => absurd l1 y⟩, _, rfl, g, f, rfl, hf, hg⟩
    · have l1 : ¬ nI m < nI tn := fun z => w ((nI_ltI (by omega) (by omega)).mp z)
      rw [if_neg l1]
      exact ⟨⟨fun y => absurd y l1, fun _ => trivial⟩, _, rfl, g, f, rfl, hf, hg⟩
  · rw [show mz_sI N 335 (N.1 335) = N from sI_same _ _, show mz_sI N 232 (N.1 232) = N from sI_same _ _]; rfl
  · by_cases y : j = 143
    · rw [if_pos y, y]; exact t2
    · rw [if_neg y]
  · rw [if_neg (by omega)]
theorem copy_al (h : Sm q B N1 b N2) : cp_377_0 N1 ∧ cp_604_0 N2 ∧ cal1 q B b N1 N2 (cf_377_0 N1) (cf_604_0 N2) := by
  rcases Sm_0 h with ⟨hu, u1, u2, F1, Ft, Ff, Fs, F3, F4⟩ | ⟨u1, u2, F1, Fd, F3, F4⟩
  · obtain ⟨p, C, s, D, H, x, L, R, h1, h2, h3, h4, h5, h6⟩ := id hu
    obtain ⟨t1, t2, t3, t4⟩ := h4.tp
    obtain ⟨r1, r2, r3, r4⟩ := h4.re
    obtain ⟨m, hm⟩ : ∃ m, m = min R.tn (4100 - R.rn) := ⟨_, rfl⟩
    obtain ⟨a1, g, f, a2, a3, a4⟩ := copy_r (N := mz_pI N2 232 0 0) (ta := R.ta) hm t3 r3 t2 r2 (fun i hi => (t4 i hi).2.1)
    have em : mz_imin (N1.1 1 10) (4100 - nI R.rn) = nI m := by
      rw [t1, show (4100 : Int32) = nI 4100 from rfl, pk_sub r3, imin_n (by omega) (by omega), ← hm]
    have ck : mz_cpk 0 (nI R.rn) (nI m) 4056 4100 := cpk_n (a := 0) (b := R.rn) (c := m) (by omega) (by omega) (by omega) (by omega)
    have y1 : (mz_yI N1 228 0 229 (nI R.rn) (nI m)).1 1 12 = nI R.rn := by rw [yI_s, sI_n (by decide)]; exact r1
    generalize hM1 : mz_pI (mz_yI N1 228 0 229 (nI R.rn) (nI m)) 1 12 (nI (R.rn + m)) = M1
    generalize hM2 : mz_sI (mz_sI (mz_pI N2 232 0 0) 335 g) 232 f = M2
    have f1 : fq [1, 229] [] N1 M1 := by rw [← hM1, yI_s]; exact fq_pI (fq_sI (fq_refl _ _ _) rfl) rfl
    have f2 : fq [232, 335] [] N2 M2 := by rw [← hM2]; exact fq_sI (fq_sI (fq_pI (fq_refl _ _ _) rfl) rfl) rfl
    have k1 : ∀ f, f ≠ 12 → M1.1 1 f = N1.1 1 f := fun f g => by rw [← hM1, pI_s, sI_e, up_a, if_neg g, yI_s, sI_n (by decide)]
    have z1 : M1.1 1 12 = nI (R.rn + m) := by rw [← hM1, pI_s, sI_e, up_a, if_pos rfl]
    have z2 : M2.1 232 143 = nI (R.rn + m) := by rw [← hM2, sI_e, a3, if_pos rfl]
    have i2 : ∀ f, f ≠ 0 → f ≠ 143 → M2.1 232 f = N2.1 232 f := fun z g0 g1 => by rw [← hM2, sI_e, a3, if_neg g1, pI_s, sI_e, up_a, if_neg g0]
    have h0 : M2.1 232 0 = 0 := by rw [← hM2, sI_e, a3, if_neg (by decide)]; exact code_0
    have c229 : ∀ j, M1.1 229 j = if R.rn ≤ j ∧ j < R.rn + m then N1.1 228 (j - R.rn) else N1.1 229 j := fun j => by
      rw [← hM1, pI_s, sI_n (by decide), yI_s, sI_e, cpy_a, nI_clamp (by omega), nI_clamp (by omega), show (0 : Int32).toNatClampNeg = 0 from rfl, Nat.zero_add]
    have c335 : ∀ j, M2.1 335 j = if R.rn ≤ j ∧ j < R.rn + m then by8 (R.ta (j - R.rn)) else N2.1 335 j := fun j => by rw [← hM2, sI_n (by decide), sI_e, a4]; rfl
    have mr : MR p C s D H x L M1 b M2 := MR_q h3 f1 f2 rfl rfl rfl rfl (fun f hf => i2 f (fun z => by rw [z] at hf; cases hf) (fun z => by rw [z] at hf; cases hf)) (f2.2 232 rfl) (ckp_q h3.cs.ks.kc f1 rfl rfl) (rkp_q h3.cs.ks.kr f2 rfl rfl (i2 27 (by decide) (by decide)) (i2 21 (by decide) (by decide)) (fun f _ => by rw [f2.2 232 rfl]))
    have rs : RsR H L (R.dr, R.bs, R.ve, R.tl, R.tx, R.wr, R.wh, R.lg, R.tn, R.ta, R.rn + m, fun j => if R.rn ≤ j then R.ta (j - R.rn) else R.ra j) M1 M2 := by
      obtain ⟨a1', a2, a3, a4, a5, a6, a7, a8, a9, a10, a11, a12, a13, a14, a15⟩ := h4
      refine ⟨fun d hd i hi => ?_, ?_, a3, ?_, ?_, ?_, ?_, ?_, a9, ?_, ?_, ?_, ?_, a14, a15⟩
      · have d1 : M1.1 (5 + d) = N1.1 (5 + d) ∧ M1.1 (9 + d) = N1.1 (9 + d) := by
          rcases (show d = 0 ∨ d = 1 ∨ d = 2 by omega) with w | w | w <;> subst w <;> exact ⟨f1.1 _ rfl, f1.1 _ rfl⟩
        rw [d1.1, d1.2]; exact a1' d hd i hi
      · rw [f2.1 233 rfl]; exact a2
      · rw [f1.1 2 rfl, i2 4 (by decide) (by decide)]; exact a4
      · rw [f1.1 41 rfl, i2 25 (by decide) (by decide)]; exact a5
      · rw [f1.1 42 rfl, f2.1 251 rfl]; exact a6
      · rw [i2 36 (by decide) (by decide), i2 34 (by decide) (by decide), i2 35 (by decide) (by decide), f1.1 41 rfl]; exact a7
      · rw [f1.1 109 rfl, f2.1 316 rfl]; exact a8
      · rw [f1.1 100 rfl, i2 112 (by decide) (by decide)]; exact a10
      · rw [f1.1 111 rfl, f1.1 112 rfl, f1.1 113 rfl, f1.1 114 rfl, f2.2 317 rfl, f2.1 318 rfl, f2.1 319 rfl, f2.1 320 rfl]; exact a11
      · rw [k1 10 (by decide), f1.1 228 rfl, f2.1 334 rfl, i2 141 (by decide) (by decide)]; exact a12
      · refine ⟨z1, z2, by show R.rn + m ≤ 4100; omega, fun i hi => ?_⟩
        have hi' : i < R.rn + m := hi
        show M1.1 229 i = nI (if R.rn ≤ i then R.ta (i - R.rn) else R.ra i) ∧ M2.1 335 i = by8 (if R.rn ≤ i then R.ta (i - R.rn) else R.ra i) ∧ (if R.rn ≤ i then R.ta (i - R.rn) else R.ra i) < 256
        rw [c229, c335]
        by_cases e : R.rn ≤ i
        · rw [if_pos e, if_pos ⟨e, hi'⟩, if_pos ⟨e, hi'⟩]; exact ⟨(t4 (i - R.rn) (by omega)).1, rfl, (t4 (i - R.rn) (by omega)).2.2⟩
        · rw [if_neg e, if_neg (fun z => e z.1), if_neg (fun z => e z.1)]
          exact r4 i (by omega)
    have e1 : cf_377_0 N1 = (0, nI (R.rn + m), M1) := by simp only [cf_377_0, cf_378_0, u2, if_true, em, r1, y1, nI_add, hM1, z1]
    have e2 : cf_604_0 N2 = (nI (R.rn + m), M2) := by simp only [cf_604_0, F4, Bool.false_eq_true, if_false, a2, hM2]
    refine ⟨by simp [cp_377_0, cp_378_0, u1, u2, em, r1, ck], by simp [cp_604_0, F3, F4, a1], ?_⟩
    rw [e1, e2]
    exact cal1_u h0 rfl (oF_q f1 f2 rfl rfl rfl rfl) ⟨p, C, s, D, H, x, L, _, h1, h2, mr, rs, h5, h6⟩
  · exact ⟨by simp [cp_377_0, u1, u2], by simp [cp_604_0, F3, F4], cal1_d (a := 0) (a' := 0) h (by simp [cf_377_0, u2]) (by simp [cf_604_0, F4])⟩
end Ed
