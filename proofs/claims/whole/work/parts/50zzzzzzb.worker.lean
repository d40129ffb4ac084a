/-! PURE (50zzzzzzb): worker, ticketOf. -/
section Wk
variable {N N1 N2 M1 M2 : mz_N} {b : Bool} {B q : Nat} {s : st_S} {D H G : Kp} {x : CrS} {L L' : LvS} {R : RsS} {v v1 v2 v3 : Int32}
theorem lN_n0 {k : Nat} (h : k < 2 ^ 31) : ¬ lN k < 0 := fun z => by
  have z' : lN k < lN 0 := z
  exact absurd ((lN_lt64 (by omega) (by omega)).mp z') (by omega)
theorem worker_al (h : Sm q B N1 b N2) : cp_348_0 v1 v2 N1 ∧ cp_571_0 v1 v2 N2 ∧ caq q B b N1 N2 (cf_348_0 v1 v2 N1) (cf_571_0 v1 v2 N2) := by
  obtain ⟨p1, c1⟩ := in_l 0 1 (by omega) (by omega) v1 (w0 := 0) (w := 1) (g0 := 0) (g := 1) rfl rfl rfl rfl
  obtain ⟨p2, c2⟩ := in_l 0 3 (by omega) (by omega) v2 (w0 := 0) (w := 3) (g0 := 0) (g := 3) rfl rfl rfl rfl
  rcases Sm_0 h with ⟨hu, u1, u2, F1, Ft, Ff, Fs, F3, F4⟩ | ⟨u1, u2, F1, Fd, F3, F4⟩
  · rcases c1 with ⟨u, _, hu2, rfl, i1, j1⟩ | ⟨i1, j1⟩
    · rcases c2 with ⟨f, _, hf, rfl, i2, j2⟩ | ⟨i2, j2⟩
      · obtain ⟨p, C, s, D, H, x, L, R, h1, h2, h3, h4, h5, h6⟩ := id hu
        have cc := h3.cs.cc
        have cr := h3.cs.cr
        have ci := h3.iv.ci
        have hu' : u < 2 := by omega
        obtain ⟨vs1, vd6, vs2⟩ := ci.vs u hu'
        have g133 : mz_gI N1 133 (nI u) = nI (x.vs u) := by rw [gI_a, nI_clamp (by omega)]; exact (cc.vs u hu').1
        have g134 : mz_gI N1 134 (nI u) = nI (x.vd u) := by rw [gI_a, nI_clamp (by omega)]; exact (cc.vs u hu').2
        have ec : (nI u).toNatClampNeg = u := nI_clamp (by omega)
        have ib2 : mz_ib (nI u) 2 := ib_n hu' (by omega)
        have q0 : (nI f = 0) = (f = 0) := propext (nI_eq0 (by omega))
        have q1 : (nI f = 1) = (f = 1) := propext (nI_eq (b := 1) (by omega) (by omega))
        have q3 : (nI f = 3) = (f = 3) := propext (nI_eq (b := 3) (by omega) (by omega))
        have qv : (nI (x.vs u) = 0) = (x.vs u = 0) := propext (nI_eq0 (by omega))
        have fin : ∀ r, cp_349_0 (nI u) (nI f) N1 → cf_349_0 (nI u) (nI f) N1 = r → cp_571_28 true (nI u) (nI f) N2 → cf_571_28 true (nI u) (nI f) N2 = (r, mz_pI N2 232 0 0) → cp_348_0 (nI u) (nI f) N1 ∧ cp_571_0 (nI u) (nI f) N2 ∧ caq q B b N1 N2 (cf_348_0 (nI u) (nI f) N1) (cf_571_0 (nI u) (nI f) N2) := fun r a1 a2 a3 a4 => by
          have e1 : cf_348_0 (nI u) (nI f) N1 = (0, r) := by simp only [cf_348_0, u2, i1, i2, if_true, a2]
          have e2 : cf_571_0 (nI u) (nI f) N2 = (r, mz_pI N2 232 0 0) := by simp only [cf_571_0, j1, j2, if_true, a4]
          refine ⟨by simp [cp_348_0, u1, u2, p1, p2, i1, i2, a1], by simp [cp_571_0, j1, j2, a3], caq_q h ⟨?_, ?_, ?_⟩⟩
          · rw [e1]; exact Nat.zero_le _
          · rw [e1, e2]; rfl
          · rw [e1, e2]; intro _; rfl
        by_cases w : x.vs u = 0
        · have gl : mz_gL (mz_pI N2 232 0 0) 298 (nI u) = -1 := by rw [gL_a, nI_clamp (by omega)]; exact cr.fr u hu' w
          have l0 : ((-1 : Int64) < 0) = True := eq_true (by decide)
          have w0 : (x.vs u = 0) = True := eq_true w
          refine fin (if f = 0 then 0 else -1) ?_ ?_ ?_ ?_
          · rw [cp_349_0, cp_349_26, g133]; simp only [qv, w0]
            exact ⟨ib2, fun _ => ⟨fun _ => trivial, fun _ => ⟨fun _ => ⟨ib2, fun _ => trivial, fun z => absurd trivial z⟩, fun _ => ⟨fun _ => trivial, fun z => absurd trivial z⟩⟩⟩, fun z => absurd trivial z⟩
          · rw [cf_349_0, cf_349_26, g133]; simp only [qv, w0, q0, q3, if_true]
            by_cases z : f = 0
            · rw [if_pos z, if_pos z]
            · rw [if_neg z, if_neg z]; split <;> rfl
          · simp only [cp_571_28, cp_571_53, cp_571_75, Ft, gl, l0]
            refine ⟨F1 _ _, fun z => (by cases z), fun _ => ⟨ib2, fun _ => ⟨fun _ => ⟨fun _ => trivial, fun _ => ⟨fun _ => ⟨fun _ => trivial, fun z => absurd trivial z⟩, fun _ => ⟨fun _ => trivial, fun z => absurd trivial z⟩⟩⟩, fun z => absurd trivial z⟩, fun z => absurd trivial z⟩⟩
          · simp only [cf_571_28, cf_571_53, cf_571_75, Ft, gl, l0, q0, q3, if_true, Bool.false_eq_true, if_false]
            by_cases z : f = 0
            · rw [if_pos z, if_pos z]
            · rw [if_neg z, if_neg z]; split <;> rfl
        · have w0 : (x.vs u = 0) = False := eq_false w
          obtain ⟨r1, r2, r3⟩ := cr.vs u hu' (by omega)
          have bk := ci.bk u hu'
          have gl : mz_gL (mz_pI N2 232 0 0) 298 (nI u) = lN (x.bk u) := by rw [gL_a, nI_clamp (by omega)]; exact r3
          have l0 : (lN (x.bk u) < 0) = False := eq_false (lN_n0 (by omega))
          have g296 : mz_gI (mz_pI N2 232 0 0) 296 (nI u) = nI (x.vs u) := by rw [gI_a, nI_clamp (by omega)]; exact r1
          have g297 : mz_gI (mz_pI N2 232 0 0) 297 (nI u) = nI (x.vd u) := by rw [gI_a, nI_clamp (by omega)]; exact r2
          have g141 : mz_gI N1 141 (nI u) = nI (x.bk u) := by rw [gI_a, nI_clamp (by omega)]; exact cc.bk u hu' (by omega)
          have sb : nI (x.vs u) - nI (x.vd u) = nI (x.vs u - x.vd u) := pk_sub (by omega)
          have qs : (nI (x.vs u - x.vd u) = 0) = (x.vs u - x.vd u = 0) := propext (nI_eq0 (by omega))
          have y6 : 6 * nI u + nI (x.vd u) = nI (6 * u + x.vd u) := by rw [show (6 : Int32) = nI 6 from rfl, pk_mul, nI_add]
          by_cases wd : x.vs u - x.vd u = 0
          · have wd0 : (x.vs u - x.vd u = 0) = True := eq_true wd
            refine fin (if f = 0 then 0 else if f = 3 then nI (x.bk u) else -1) ?_ ?_ ?_ ?_
            · rw [cp_349_0, cp_349_26, cp_349_26, g133, g134, sb]; simp only [qv, w0, qs, wd0]
              exact ⟨ib2, fun z => z.elim, fun _ => ⟨ib2, ib2, fun _ => trivial, fun _ => ⟨fun _ => ⟨ib2, fun _ => trivial, fun _ => ib2⟩, fun _ => ⟨fun _ => trivial, fun z => absurd trivial z⟩⟩⟩⟩
            · rw [cf_349_0, cf_349_26, cf_349_26, g133, g134, sb, g141]; simp only [qv, w0, qs, wd0, q0, q3, if_true, if_false]
              rw [wd]; rfl
            · simp only [cp_571_28, cp_571_53, cp_571_75, Ft, gl, l0, g296, g297, sb, qs, wd0]
              refine ⟨F1 _ _, fun z => (by cases z), fun _ => ⟨ib2, fun z => z.elim, fun _ => ⟨fun z => (by cases z), fun _ => ⟨ib2, ib2, fun _ => trivial, fun _ => ⟨fun _ => ⟨fun _ => trivial, fun _ => ib2⟩, fun _ => ⟨fun _ => trivial, fun z => absurd trivial z⟩⟩⟩⟩⟩⟩
            · simp only [cf_571_28, cf_571_53, cf_571_75, Ft, gl, l0, g296, g297, sb, qs, wd0, q0, q3, if_true, Bool.false_eq_true, if_false, lN_32 (show x.bk u < 2 ^ 31 by omega)]
              rw [wd]
              by_cases z : f = 0
              · rw [if_pos z, if_pos z]; rfl
              · rw [if_neg z, if_neg z]; split <;> rfl
          · have wd0 : (x.vs u - x.vd u = 0) = False := eq_false wd
            have hvd : x.vd u < x.vs u := by omega
            obtain ⟨tp1, tp2⟩ := ci.tp u hu' (x.vd u) (Nat.le_refl _) hvd
            have tt1 := ci.tt u hu' (x.vd u) hvd
            obtain ⟨ct1, ct2⟩ := cc.tp u hu' (x.vd u) hvd
            obtain ⟨rt1, rt2⟩ := cr.tp u hu' (x.vd u) hvd
            have k12 := h3.cs.ks.kc.2.2.2.2.2.2.2.2.2.2.2.2.2.1 (x.tp u (x.vd u)) tp1
            have r12 := h3.cs.ks.kr.2.2.2.2.2.2.2.2.2.2.2.2.2.1 (x.tp u (x.vd u)) tp1
            obtain ⟨nn, nn1, nn2⟩ := ci.nu (x.tp u (x.vd u)) tp1 tp2
            have nnb := h3.iv.kb.tn (x.tp u (x.vd u)) tp1 tp2
            have g136 : mz_gI N1 (136 + u) (nI (x.vd u)) = nI (x.tp u (x.vd u)) := by rw [gI_a, nI_clamp (by omega)]; exact ct1
            have g139 : mz_gI N1 (139 + u) (nI (x.vd u)) = nI (x.tt u (x.vd u)) := by rw [gI_a, nI_clamp (by omega)]; exact ct2
            have g294 : mz_gI (mz_pI N2 232 0 0) 294 (nI (6 * u + x.vd u)) = nI (x.tp u (x.vd u)) := by rw [gI_a, nI_clamp (by omega)]; exact rt1
            have g295 : mz_gL (mz_pI N2 232 0 0) 295 (nI (6 * u + x.vd u)) = lN (x.tt u (x.vd u)) := by rw [gL_a, nI_clamp (by omega)]; exact rt2
            have g117 : mz_gI N1 117 (nI (x.tp u (x.vd u))) = H.2.1 11 (x.tp u (x.vd u)) := by rw [gI_a, nI_clamp (by omega)]; exact (k12.2 tp2).2.2.2.2
            have g292 : mz_gL (mz_pI N2 232 0 0) 292 (nI (x.tp u (x.vd u))) = (H.2.1 11 (x.tp u (x.vd u))).toInt64 := by rw [gL_a, nI_clamp (by omega)]; exact (r12.2 tp2).2.2.2.2
            have e32 : ((H.2.1 11 (x.tp u (x.vd u))).toInt64).toInt32 = H.2.1 11 (x.tp u (x.vd u)) := by
              apply Int32.toInt_inj.mp
              simp
            have i6 : mz_ib (nI (x.vd u)) 6 := ib_n (by omega) (by omega)
            have i16 : mz_ib (nI (x.tp u (x.vd u))) 16 := ib_n tp1 (by omega)
            have i12 : mz_ib (nI (6 * u + x.vd u)) 12 := ib_n (by omega) (by omega)
            refine fin (if f = 0 then nI (x.vs u - x.vd u) else if f = 3 then nI (x.bk u) else if f = 1 then H.2.1 11 (x.tp u (x.vd u)) else nI (x.tt u (x.vd u))) ?_ ?_ ?_ ?_
            · rw [cp_349_0, cp_349_26, cp_349_26, g133, g134, sb, ec, g136]; simp only [qv, w0, qs, wd0]
              exact ⟨ib2, fun z => z.elim, fun _ => ⟨ib2, ib2, fun _ => trivial, fun _ => ⟨fun _ => ⟨ib2, fun _ => trivial, fun _ => ib2⟩, fun _ => ⟨fun z => z.elim, fun _ => ⟨ib2, fun _ => ⟨ib2, i6, i16⟩, fun _ => ⟨ib2, i6⟩⟩⟩⟩⟩⟩
            · rw [cf_349_0, cf_349_26, cf_349_26, g133, g134, sb, ec, g136, g139, g141, g117]; simp only [qv, w0, qs, wd0, q0, q1, q3, if_false]
            · simp only [cp_571_28, cp_571_53, cp_571_75, Ft, gl, l0, g296, g297, sb, qs, wd0, y6, g294]
              refine ⟨F1 _ _, fun z => (by cases z), fun _ => ⟨ib2, fun z => z.elim, fun _ => ⟨fun z => (by cases z), fun _ => ⟨ib2, ib2, fun _ => trivial, fun _ => ⟨fun _ => ⟨fun _ => trivial, fun _ => ib2⟩, fun _ => ⟨fun z => z.elim, fun _ => ⟨ib2, fun _ => ⟨i12, i16⟩, fun _ => i12⟩⟩⟩⟩⟩⟩⟩
            · simp only [cf_571_28, cf_571_53, cf_571_75, Ft, gl, l0, g296, g297, sb, qs, wd0, q0, q1, q3, Bool.false_eq_true, if_false, y6, g294, g295, g292, e32, lN_32 (show x.bk u < 2 ^ 31 by omega), lN_32 (show x.tt u (x.vd u) < 2 ^ 31 by omega)]
              by_cases z : f = 0
              · rw [if_pos z, if_pos z]
              · rw [if_neg z, if_neg z]; split
                · rfl
                · split <;> rfl
      · refine ⟨by simp [cp_348_0, u1, u2, p1, p2, i1, i2], by simp [cp_571_0, cp_571_27, cp_571_28, j1, j2, F1, Ff], caq_q h ⟨?_, ?_, ?_⟩⟩
        · simp [cf_348_0, u2, i1, i2]
        · simp [cf_348_0, u2, i1, i2, cf_571_0, cf_571_27, cf_571_28, j1, j2, Ff]
        · simp [cf_348_0, u2, i1, i2]
    · refine ⟨by simp [cp_348_0, u1, u2, p1, i1], by simp [cp_571_0, cp_571_27, cp_571_28, j1, F1, Ff], caq_q h ⟨?_, ?_, ?_⟩⟩
      · simp [cf_348_0, u2, i1]
      · simp [cf_348_0, u2, i1, cf_571_0, cf_571_27, cf_571_28, j1, Ff]
      · simp [cf_348_0, u2, i1]
  · refine ⟨by simp [cp_348_0, u1, u2], by simp [cp_571_0, cp_571_27, cp_571_28, F1, Fd], caq_q h ⟨?_, ?_, ?_⟩⟩
    · simp [cf_348_0, u2]
    · simp [cf_348_0, u2, cf_571_0, cf_571_27, cf_571_28, Fd]
    · simp [cf_348_0, u2]
end Wk
