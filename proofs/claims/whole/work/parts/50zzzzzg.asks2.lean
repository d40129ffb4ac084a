/-! PURE (50zzzzzg): more calls that only ask. -/
section A2
variable {N N1 N2 : mz_N} {b : Bool} {B q n m : Nat} {s : st_S} {D H : Kp} {x : CrS} {L : LvS} {R : RsS} {v v1 v2 v3 : Int32}
theorem v_nn (h0 : ¬ v < 0) : v = nI v.toInt.toNat ∧ (v.toInt.toNat : Int) = v.toInt := by
  rw [Int32.lt_iff_toInt_lt] at h0
  have t0 : (0 : Int32).toInt = 0 := rfl
  rw [t0] at h0
  have hb := Int32.toInt_lt v
  refine ⟨?_, by omega⟩
  apply Int32.toInt_inj.mp
  rw [nI_toInt (by omega)]
  omega
theorem m1_105 (hn : n < 2 ^ 31) : cp_105_0 v 0 (nI n - 1) ∧ ((∃ k, k < n ∧ v = nI k ∧ cf_105_0 v 0 (nI n - 1) = 0 ∧ ¬ v < 0 ∧ v < nI n) ∨ (cf_105_0 v 0 (nI n - 1) = 1 ∧ (v < 0 ∨ ¬ v < nI n))) := by
  refine ⟨⟨fun _ => trivial, fun _ => ⟨fun _ => trivial, fun _ => trivial⟩⟩, ?_⟩
  rw [cf_105_0]
  by_cases a : v < 0
  · rw [if_pos a]; exact Or.inr ⟨rfl, Or.inl a⟩
  · rw [if_neg a]
    obtain ⟨e1, e2⟩ := v_nn a
    have hb := Int32.toInt_lt v
    generalize v.toInt.toNat = k at e1 e2
    have hk : k < 2 ^ 31 := by omega
    rw [e1]
    by_cases c : k < n
    · have e : nI n - 1 = nI (n - 1) := nI_pr (by omega)
      rw [e, if_neg (fun z => by have := (nI_ltI (by omega) (by omega)).mp z; omega)]
      exact Or.inl ⟨k, c, rfl, rfl, by rw [← e1]; exact a, (nI_ltI (by omega) (by omega)).mpr c⟩
    · have g : nI n - 1 < nI k := by
        by_cases z : n = 0
        · subst z
          rw [show nI 0 - 1 = (-1 : Int32) from rfl, Int32.lt_iff_toInt_lt, nI_toInt (by omega)]
          have t1 : (-1 : Int32).toInt = -1 := rfl
          rw [t1]; omega
        · rw [nI_pr (by omega)]
          exact (nI_ltI (by omega) (by omega)).mpr (by omega)
      rw [if_pos g]
      exact Or.inr ⟨rfl, Or.inr (fun z => by have := (nI_ltI (by omega) (by omega)).mp z; omega)⟩
theorem kept_in (hn : n < 2 ^ 31) (hm : m < 2 ^ 31) : cp_105_0 v 0 (mz_imin (nI n) (nI m) - 1) ∧ ((∃ k, k < n ∧ k < m ∧ v = nI k ∧ cf_105_0 v 0 (mz_imin (nI n) (nI m) - 1) = 0 ∧ cf_547_0 v (nI n) (nI m) = true) ∨ (cf_105_0 v 0 (mz_imin (nI n) (nI m) - 1) = 1 ∧ cf_547_0 v (nI n) (nI m) = false)) := by
  rw [imin_n hn hm]
  obtain ⟨p, c⟩ := m1_105 (v := v) (n := min n m) (by omega)
  refine ⟨p, ?_⟩
  rcases c with ⟨k, h1, rfl, h3, h4, h5⟩ | ⟨h1, h2⟩
  · refine Or.inl ⟨k, by omega, by omega, rfl, h3, ?_⟩
    rw [cf_547_0, if_neg h4, if_pos ((nI_ltI (by omega) (by omega)).mpr (by omega)), if_pos ((nI_ltI (by omega) (by omega)).mpr (by omega))]
  · refine Or.inr ⟨h1, ?_⟩
    rw [cf_547_0]
    by_cases a : v < 0
    · rw [if_pos a]
    · rw [if_neg a]
      obtain ⟨e1, e2⟩ := v_nn a
      have hb := Int32.toInt_lt v
      generalize v.toInt.toNat = k at e1 e2
      rcases h2 with z | z
      · exact absurd z a
      · rw [e1] at z ⊢
        by_cases c : k < n
        · rw [if_pos ((nI_ltI (by omega) (by omega)).mpr c)]
          by_cases d : k < m
          · exact absurd ((nI_ltI (by omega) (by omega)).mpr (by omega)) z
          · rw [if_neg (fun y => d ((nI_ltI (by omega) (by omega)).mp y))]
        · rw [if_neg (fun y => c ((nI_ltI (by omega) (by omega)).mp y))]
theorem desk_in : cf_461_0 v = decide (cf_105_0 v 0 2 = 0) := by
  rw [cf_461_0, show (2 : Int32) = nI 2 from rfl, i105 (by omega)]; rfl
theorem edge_ok (h : MR q B s D H x L N1 b N2) : cp_148_0 v1 v2 N1 ∧ cp_481_0 v1 v2 N2 ∧ qok N2 (cf_148_0 v1 v2 N1) (cf_481_0 v1 v2 N2) := by
  obtain ⟨u1, u2⟩ := c104_u (MR_u1 h)
  obtain ⟨p1, c1⟩ := in_r 4 (by omega) v1 (w := 4) (g := 4) rfl rfl
  obtain ⟨p2, c2⟩ := in_r 109 (by omega) v2 (w := 109) (g := 109) rfl rfl
  obtain ⟨F1, F2⟩ := F_t h
  obtain ⟨F3, F4⟩ := F_f h
  rcases c1 with ⟨a1, ha1, rfl, i1, j1⟩ | ⟨i1, j1⟩
  · rcases c2 with ⟨a2, ha2, rfl, i2, j2⟩ | ⟨i2, j2⟩
    · have x1 : nI a1 * 110 + nI a2 = nI (110 * a1 + a2) := by rw [show (110 : Int32) = nI 110 from rfl, pk_mul, nI_add, Nat.mul_comm]
      have x2 : 110 * nI a1 + nI a2 = nI (110 * a1 + a2) := by rw [show (110 : Int32) = nI 110 from rfl, pk_mul, nI_add]
      have ib : mz_ib (nI (110 * a1 + a2)) 550 := ib_n (by omega) (by omega)
      have ib2 : mz_ib (nI (110 * a1 + a2)) 4400 := ib_n (by omega) (by omega)
      have ga : mz_gI N1 3 (nI (110 * a1 + a2)) = nI (H.1 0 (110 * a1 + a2)) := by rw [gI_a, nI_clamp (by omega)]; exact h.cs.ks.kc.1 _ (by omega)
      have gb : mz_gI (mz_pI N2 232 0 0) 233 (nI (110 * a1 + a2)) = nI (H.1 0 (110 * a1 + a2)) := by rw [gI_a, nI_clamp (by omega)]; exact h.cs.ks.kr.1 _ (by omega)
      simp [edge_in, cp_148_0, cf_148_0, cp_481_0, cf_481_0, u1, u2, p1, p2, i1, i2, F1, F2, qok, n00, x1, x2, ib, ib2, ga, gb]
    · simp [edge_in, cp_148_0, cf_148_0, cp_481_0, cf_481_0, u1, u2, p1, p2, i1, i2, F3, F4, qok, n01]
  · simp [edge_in, cp_148_0, cf_148_0, cp_481_0, cf_481_0, u1, u2, p1, p2, i1, F3, F4, qok, n01]
theorem spaceAt_ok (h : MR q B s D H x L N1 b N2) : cp_162_0 v1 v2 N1 ∧ cp_490_0 v1 v2 N2 ∧ qok N2 (cf_162_0 v1 v2 N1) (cf_490_0 v1 v2 N2) := by
  obtain ⟨u1, u2⟩ := c104_u (MR_u1 h)
  obtain ⟨p1, c1⟩ := in_r 4 (by omega) v1 (w := 4) (g := 4) rfl rfl
  obtain ⟨p2, c2⟩ := in_r 47 (by omega) v2 (w := 47) (g := 47) rfl rfl
  obtain ⟨F1, F2⟩ := F_t h
  obtain ⟨F3, F4⟩ := F_f h
  rcases c1 with ⟨a1, ha1, rfl, i1, j1⟩ | ⟨i1, j1⟩
  · rcases c2 with ⟨a2, ha2, rfl, i2, j2⟩ | ⟨i2, j2⟩
    · have x1 : nI a1 * 48 + nI a2 = nI (48 * a1 + a2) := by rw [show (48 : Int32) = nI 48 from rfl, pk_mul, nI_add, Nat.mul_comm]
      have x2 : 48 * nI a1 + nI a2 = nI (48 * a1 + a2) := by rw [show (48 : Int32) = nI 48 from rfl, pk_mul, nI_add]
      have ib : mz_ib (nI (48 * a1 + a2)) 240 := ib_n (by omega) (by omega)
      have ga : mz_gI N1 15 (nI (48 * a1 + a2)) = nI (pl_lab (H.1 0) (48 * a1 + a2)) := by rw [gI_a, nI_clamp (by omega)]; exact h.lr.pl.1.2.1.1 _ (by omega)
      have gb : mz_gI (mz_pI N2 232 0 0) 235 (nI (48 * a1 + a2)) = nI (pl_lab (H.1 0) (48 * a1 + a2)) := by rw [gI_a, nI_clamp (by omega)]; exact h.lr.pl.2.2.1 _ (by omega)
      generalize pl_lab (H.1 0) (48 * a1 + a2) = z at ga gb
      simp [cell_in, cp_162_0, cf_162_0, cp_490_0, cf_490_0, u1, u2, p1, p2, i1, i2, F1, F2, qok, n00, x1, x2, ib, ga, gb]
    · simp [cell_in, cp_162_0, cf_162_0, cp_490_0, cf_490_0, u1, u2, p1, p2, i1, i2, F3, F4, qok, n01]
  · simp [cell_in, cp_162_0, cf_162_0, cp_490_0, cf_490_0, u1, u2, p1, p2, i1, F3, F4, qok, n01]
theorem draft_ok (h : MR q B s D H x L N1 b N2) (hr : RsR H L R N1 N2) : cp_150_0 v1 v2 v3 N1 ∧ cp_482_0 v1 v2 v3 N2 ∧ qok N2 (cf_150_0 v1 v2 v3 N1) (cf_482_0 v1 v2 v3 N2) := by
  obtain ⟨u1, u2⟩ := c104_u (MR_u1 h)
  obtain ⟨p1, c1⟩ := in_r 2 (by omega) v1 (w := 2) (g := 2) rfl rfl
  obtain ⟨p2, c2⟩ := in_r 4 (by omega) v2 (w := 4) (g := 4) rfl rfl
  obtain ⟨p3, c3⟩ := in_r 109 (by omega) v3 (w := 109) (g := 109) rfl rfl
  obtain ⟨F1, F2⟩ := F_t h
  obtain ⟨F3, F4⟩ := F_f h
  rcases c1 with ⟨a1, ha1, rfl, i1, j1⟩ | ⟨i1, j1⟩
  · rcases c2 with ⟨a2, ha2, rfl, i2, j2⟩ | ⟨i2, j2⟩
    · rcases c3 with ⟨a3, ha3, rfl, i3, j3⟩ | ⟨i3, j3⟩
      · have x1 : nI a2 * 110 + nI a3 = nI (110 * a2 + a3) := by rw [show (110 : Int32) = nI 110 from rfl, pk_mul, nI_add, Nat.mul_comm]
        have x2 : 550 * (1 + nI a1) + 110 * nI a2 + nI a3 = nI (550 * (1 + a1) + (110 * a2 + a3)) := by
          rw [show (110 : Int32) = nI 110 from rfl, show (1 : Int32) = nI 1 from rfl, show (550 : Int32) = nI 550 from rfl, nI_add, pk_mul, pk_mul, nI_add, nI_add, Nat.add_assoc]
        have ib0 : mz_ib (nI a1) 3 := ib_n (by omega) (by omega)
        have ib : mz_ib (nI (110 * a2 + a3)) 550 := ib_n (by omega) (by omega)
        have ib2 : mz_ib (nI (550 * (1 + a1) + (110 * a2 + a3))) 4400 := ib_n (by omega) (by omega)
        have cl : (nI a1).toNatClampNeg = a1 := nI_clamp (by omega)
        have ga : mz_gI N1 (5 + a1) (nI (110 * a2 + a3)) = nI (R.dr a1 (110 * a2 + a3)) := by rw [gI_a, nI_clamp (by omega)]; exact (hr.dc a1 (by omega) _ (by omega)).1
        have gb : mz_gI (mz_pI N2 232 0 0) 233 (nI (550 * (1 + a1) + (110 * a2 + a3))) = nI (R.dr a1 (110 * a2 + a3)) := by rw [gI_a, nI_clamp (by omega)]; exact (hr.rd a1 (by omega) _ (by omega)).1
        simp [edge_in, desk_in, cp_150_0, cf_150_0, cp_482_0, cf_482_0, cp_482_21, cf_482_21, u1, u2, p1, p2, p3, i1, i2, i3, F1, F2, qok, n00, cl, x1, x2, ib0, ib, ib2, ga, gb]
      · simp [edge_in, desk_in, cp_150_0, cf_150_0, cp_482_0, cf_482_0, cp_482_20, cf_482_20, cp_482_21, cf_482_21, u1, u2, p1, p2, p3, i1, i2, i3, F3, F4, qok, n01]
    · simp [edge_in, desk_in, cp_150_0, cf_150_0, cp_482_0, cf_482_0, cp_482_20, cf_482_20, cp_482_21, cf_482_21, u1, u2, p1, p2, i1, i2, F3, F4, qok, n01]
  · simp [edge_in, desk_in, cp_150_0, cf_150_0, cp_482_0, cf_482_0, cp_482_20, cf_482_20, cp_482_21, cf_482_21, u1, u2, p1, i1, F3, F4, qok, n01]
theorem version_ok (h : MR q B s D H x L N1 b N2) (hr : RsR H L R N1 N2) : cp_152_0 N1 ∧ cp_483_0 N2 ∧ qok N2 (cf_152_0 N1) (cf_483_0 N2) := by
  obtain ⟨u1, u2⟩ := c104_u (MR_u1 h)
  obtain ⟨F1, F2⟩ := F_c h
  have gb : (mz_pI N2 232 0 0).1 232 4 = R.ve := hr.ve.2
  simp [cp_152_0, cf_152_0, cp_483_0, cf_483_0, u1, u2, F1, F2, qok, n00, hr.ve.1, gb]
theorem fault_ok (h : MR q B s D H x L N1 b N2) (hr : RsR H L R N1 N2) : cp_194_0 v1 N1 ∧ cp_504_0 v1 N2 ∧ qok N2 (cf_194_0 v1 N1) (cf_504_0 v1 N2) := by
  obtain ⟨u1, u2⟩ := c104_u (MR_u1 h)
  obtain ⟨p1, c1⟩ := in_r 1 (by omega) v1 (w := 1) (g := 1) rfl rfl
  obtain ⟨F1, F2⟩ := F_t h
  obtain ⟨F3, F4⟩ := F_f h
  obtain ⟨f1, f2, f3⟩ := hr.fw
  rcases c1 with ⟨a1, ha1, rfl, i1, j1⟩ | ⟨i1, j1⟩
  · have z0 : (nI a1 = 0) = (a1 = 0) := nI_lit (c := 0) (by omega) (by omega)
    have gz : mz_z01 ((mz_pI N2 232 0 0).1 232 36) := by show mz_z01 (N2.1 232 36); rw [f1]; exact z01_b01 _
    have gf : mz_fZ (mz_pI N2 232 0 0) 232 36 = R.wr := by show decide (N2.1 232 36 = 1) = _; rw [f1, d_b01]
    cases e : R.wr with
    | true =>
      obtain ⟨g1, g2⟩ := f2 e
      have g3 : (mz_pI N2 232 0 0).1 232 34 = N1.1 41 4 := g1.symm
      have g4 : (mz_pI N2 232 0 0).1 232 35 = N1.1 41 5 := g2.symm
      rw [e] at gf
      rcases (show a1 = 0 ∨ a1 = 1 by omega) with w | w
      · have w0 : (a1 = 0) = True := eq_true w
        simp [cp_194_0, cf_194_0, cp_504_0, cf_504_0, u1, u2, p1, i1, j1, F1, F2, qok, n00, z0, w0, gz, gf, g3, g4]
      · have w0 : (a1 = 0) = False := eq_false (by omega)
        simp [cp_194_0, cf_194_0, cp_504_0, cf_504_0, u1, u2, p1, i1, j1, F1, F2, qok, n00, z0, w0, gz, gf, g3, g4]
    | false =>
      obtain ⟨g1, g2⟩ := f3 e
      rw [e] at gf
      rcases (show a1 = 0 ∨ a1 = 1 by omega) with w | w
      · have w0 : (a1 = 0) = True := eq_true w
        simp [cp_194_0, cf_194_0, cp_504_0, cf_504_0, u1, u2, p1, i1, j1, F1, F2, qok, n00, z0, w0, gz, gf, g1, g2]
      · have w0 : (a1 = 0) = False := eq_false (by omega)
        simp [cp_194_0, cf_194_0, cp_504_0, cf_504_0, u1, u2, p1, i1, j1, F1, F2, qok, n00, z0, w0, gz, gf, g1, g2]
  · simp [cp_194_0, cf_194_0, cp_504_0, cf_504_0, u1, u2, p1, i1, j1, F3, F4, qok, n01]
theorem card_in (h : MR q B s D H x L N1 b N2) : cp_306_0 v N1 ∧ cp_579_0 v N2 ∧ ((∃ k, k < 40 ∧ v = nI k ∧ H.1 15 k = 1 ∧ cf_306_0 v N1 = true ∧ cf_579_0 v N2 = true) ∨ (cf_306_0 v N1 = false ∧ cf_579_0 v N2 = false)) := by
  have k14 := h.cs.ks.kc.2.2.2.2.2.2.2.2.2.2.2.2.2.2.2.1
  have r14 := h.cs.ks.kr.2.2.2.2.2.2.2.2.2.2.2.2.2.2.2.1
  have b15 : ∀ j, H.1 15 j ≤ 1 := h.cs.ks.hb.2.2.2.2.2.2.2.2.2.2.2.2.2.1
  rw [cp_306_0, cf_306_0, cp_579_0, cf_579_0]
  by_cases a : v < 0
  · simp only [a, if_true]
    exact ⟨⟨fun _ => trivial, fun z => absurd trivial z⟩, ⟨fun _ => trivial, fun z => absurd trivial z⟩, Or.inr ⟨trivial, trivial⟩⟩
  · obtain ⟨e1, e2⟩ := v_nn a
    have hb := Int32.toInt_lt v
    generalize v.toInt.toNat = k at e1 e2
    subst e1
    simp only [a, if_false]
    by_cases c : k < 40
    · have l : nI k < 40 := (nI_ltI (b := 40) (by omega) (by omega)).mpr c
      have g1 : mz_gI N1 104 (nI k) = nI (H.1 15 k) := by rw [gI_a, nI_clamp (by omega)]; exact (k14 k c).1
      have g2 : mz_gI N2 311 (nI k) = nI (H.1 15 k) := by rw [gI_a, nI_clamp (by omega)]; exact (r14 k c).1
      have g3 : mz_gZ N2 311 (nI k) = decide (nI (H.1 15 k) = 1) := by rw [gZ_a, nI_clamp (by omega), (r14 k c).1]
      have ib : mz_ib (nI k) 40 := ib_n c (by omega)
      simp only [l, if_true, g1, g2, g3]
      have hx := b15 k
      rcases (show H.1 15 k = 0 ∨ H.1 15 k = 1 by omega) with w | w
      · rw [w]
        exact ⟨⟨False.elim, fun _ => ⟨fun _ => ib, fun z => absurd trivial z⟩⟩, ⟨False.elim, fun _ => ⟨fun _ => ⟨ib, Or.inl rfl⟩, fun z => absurd trivial z⟩⟩, Or.inr ⟨rfl, rfl⟩⟩
      · rw [w]
        exact ⟨⟨False.elim, fun _ => ⟨fun _ => ib, fun z => absurd trivial z⟩⟩, ⟨False.elim, fun _ => ⟨fun _ => ⟨ib, Or.inr rfl⟩, fun z => absurd trivial z⟩⟩, Or.inl ⟨k, c, rfl, w, rfl, rfl⟩⟩
    · have l : ¬ nI k < 40 := fun z => c ((nI_ltI (b := 40) (by omega) (by omega)).mp z)
      simp only [l, if_false]
      exact ⟨⟨False.elim, fun _ => ⟨False.elim, fun _ => trivial⟩⟩, ⟨False.elim, fun _ => ⟨False.elim, fun _ => trivial⟩⟩, Or.inr ⟨trivial, trivial⟩⟩
theorem place_ok (h : MR q B s D H x L N1 b N2) (hr : RsR H L R N1 N2) : cp_316_0 v1 N1 ∧ cp_583_0 v1 N2 ∧ qok N2 (cf_316_0 v1 N1) (cf_583_0 v1 N2) := by
  obtain ⟨u1, u2⟩ := c104_u (MR_u1 h)
  obtain ⟨p1, p2, c1⟩ := card_in (v := v1) h
  obtain ⟨F1, F2⟩ := F_t h
  obtain ⟨F3, F4⟩ := F_f h
  rcases c1 with ⟨k, hk, rfl, _, i1, j1⟩ | ⟨i1, j1⟩
  · have ib : mz_ib (nI k) 40 := ib_n hk (by omega)
    have ga : mz_gI N1 109 (nI k) = nO 240 (R.wh k) := by rw [gI_a, nI_clamp (by omega)]; exact (hr.wh k hk).1
    have gb : mz_gI (mz_pI N2 232 0 0) 316 (nI k) = nO 240 (R.wh k) := by rw [gI_a, nI_clamp (by omega)]; exact (hr.wh k hk).2
    simp [cp_316_0, cf_316_0, cp_583_0, cf_583_0, cp_142_0, cf_142_0, u1, u2, p1, p2, i1, j1, F1, F2, qok, n00, ib, ga, gb]
  · simp [cp_316_0, cf_316_0, cp_583_0, cf_583_0, cp_142_0, cf_142_0, u1, u2, p1, p2, i1, j1, F3, F4, qok, n01]
end A2
