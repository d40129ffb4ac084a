/-! PURE (50zzzzzp): desks: take, edit, conflict, settle. -/
def dkR (N1 N2 : mz_N) (d : Nat) (E P G : Nat → Nat) : Prop := (∀ i, i < 550 → N1.1 3 i = nI (E i) ∧ N1.1 (5 + d) i = nI (P i) ∧ N1.1 (9 + d) i = nI (G i)) ∧ (∀ i, i < 550 → N2.1 233 i = nI (E i) ∧ N2.1 233 (550 * (1 + d) + i) = nI (P i) ∧ N2.1 233 (550 * (4 + d) + i) = nI (G i)) ∧ (∀ i, i < 550 → E i < 4 ∧ P i < 4 ∧ G i < 4)
theorem dkR.c {N1 N2 : mz_N} {d : Nat} {E P G : Nat → Nat} (h : dkR N1 N2 d E P G) : ∀ i, i < 550 → N1.1 3 i = nI (E i) ∧ N1.1 (5 + d) i = nI (P i) ∧ N1.1 (9 + d) i = nI (G i) := h.1
theorem dkR.r {N1 N2 : mz_N} {d : Nat} {E P G : Nat → Nat} (h : dkR N1 N2 d E P G) : ∀ i, i < 550 → N2.1 233 i = nI (E i) ∧ N2.1 233 (550 * (1 + d) + i) = nI (P i) ∧ N2.1 233 (550 * (4 + d) + i) = nI (G i) := h.2.1
theorem dkR.b {N1 N2 : mz_N} {d : Nat} {E P G : Nat → Nat} (h : dkR N1 N2 d E P G) : ∀ i, i < 550 → E i < 4 ∧ P i < 4 ∧ G i < 4 := h.2.2
def cfb (E P G : Nat → Nat) (i : Nat) : Bool := decide (P i ≠ G i) && (decide (E i ≠ G i) && decide (E i ≠ P i))
section Dk2
variable {N N1 N2 M1 M2 : mz_N} {b : Bool} {B q d : Nat} {s : st_S} {D H : Kp} {x : CrS} {L : LvS} {R : RsS} {v v1 v2 v4 v5 v6 : Int32} {v3 : Bool} {E P G : Nat → Nat}
theorem dk_of (h3 : MR q B s D H x L N1 b N2) (h4 : RsR H L R N1 N2) (hd : d < 3) : dkR N1 N2 d (H.1 0) (R.dr d) (R.bs d) :=
  ⟨fun i hi => ⟨h3.cs.ks.kc.1 i hi, (h4.dc d hd i hi).1, (h4.dc d hd i hi).2⟩, fun i hi => ⟨h3.cs.ks.kr.1 i hi, (h4.rd d hd i hi).1, (h4.rd d hd i hi).2⟩, fun i hi => ⟨h3.cs.ks.hb.1 i, (h4.db d hd i hi).1, (h4.db d hd i hi).2.1⟩⟩
theorem ix_1 {d i : Nat} : 550 * (1 + nI d) + nI i = nI (550 * (1 + d) + i) := by rw [show (550 : Int32) = nI 550 from rfl, show (1 : Int32) = nI 1 from rfl, nI_add, pk_mul, nI_add]
theorem ix_4 {d i : Nat} : 550 * (4 + nI d) + nI i = nI (550 * (4 + d) + i) := by rw [show (550 : Int32) = nI 550 from rfl, show (4 : Int32) = nI 4 from rfl, nI_add, pk_mul, nI_add]
theorem conf_i (hd : d < 3) (h : dkR N1 N2 d E P G) {i : Nat} (hi : i < 550) : cp_114_0 (nI d) (nI i) N1 ∧ cp_470_0 (nI d) (nI i) N2 ∧ cf_114_0 (nI d) (nI i) N1 = decide (P i ≠ G i) ∧ cf_470_0 (nI d) (nI i) N2 = decide (P i ≠ G i) ∧ cp_113_0 (nI d) (nI i) N1 ∧ cp_469_0 (nI d) (nI i) N2 ∧ cf_113_0 (nI d) (nI i) N1 = cfb E P G i ∧ cf_469_0 (nI d) (nI i) N2 = cfb E P G i := by
  have ec : (nI d).toNatClampNeg = d := nI_clamp (by omega)
  have i3 : mz_ib (nI d) 3 := ib_n hd (by omega)
  have i5 : mz_ib (nI i) 550 := ib_n hi (by omega)
  have i44 : mz_ib (nI i) 4400 := ib_n (by omega) (by omega)
  have y1 : mz_ib (nI (550 * (1 + d) + i)) 4400 := ib_n (by omega) (by omega)
  have y4 : mz_ib (nI (550 * (4 + d) + i)) 4400 := ib_n (by omega) (by omega)
  obtain ⟨k1, k2, k3⟩ := h.c i hi
  obtain ⟨r1, r2, r3⟩ := h.r i hi
  obtain ⟨b1', b2, b3⟩ := h.b i hi
  have g1 : mz_gI N1 3 (nI i) = nI (E i) := by rw [gI_a, nI_clamp (by omega)]; exact k1
  have g2 : mz_gI N1 (5 + d) (nI i) = nI (P i) := by rw [gI_a, nI_clamp (by omega)]; exact k2
  have g3 : mz_gI N1 (9 + d) (nI i) = nI (G i) := by rw [gI_a, nI_clamp (by omega)]; exact k3
  have s1 : mz_gI N2 233 (nI i) = nI (E i) := by rw [gI_a, nI_clamp (by omega)]; exact r1
  have s2 : mz_gI N2 233 (nI (550 * (1 + d) + i)) = nI (P i) := by rw [gI_a, nI_clamp (by omega)]; exact r2
  have s3 : mz_gI N2 233 (nI (550 * (4 + d) + i)) = nI (G i) := by rw [gI_a, nI_clamp (by omega)]; exact r3
  have q1 : (nI (P i) = nI (G i)) = (P i = G i) := propext (nI_eq (by omega) (by omega))
  have q2 : (nI (E i) = nI (G i)) = (E i = G i) := propext (nI_eq (by omega) (by omega))
  have q3 : (nI (E i) = nI (P i)) = (E i = P i) := propext (nI_eq (by omega) (by omega))
  have c1 : cf_114_0 (nI d) (nI i) N1 = decide (P i ≠ G i) := by
    rw [cf_114_0, ec, g2, g3]; simp only [q1]; by_cases w : P i = G i <;> simp [w]
  have c2 : cf_470_0 (nI d) (nI i) N2 = decide (P i ≠ G i) := by
    rw [cf_470_0, ix_1, ix_4, s2, s3]; simp only [q1]; by_cases w : P i = G i <;> simp [w]
  have p2 : cp_470_0 (nI d) (nI i) N2 := by rw [cp_470_0, ix_1, ix_4]; exact ⟨y1, y4⟩
  refine ⟨⟨i3, i5, i3, i5⟩, p2, c1, c2, ?_, ?_, ?_, ?_⟩
  · rw [cp_113_0]; exact ⟨⟨i3, i5, i3, i5⟩, fun _ => ⟨i5, i3, i5, fun _ => trivial, fun _ => ⟨i5, i3, i5⟩⟩, fun _ => trivial⟩
  · rw [cp_469_0, ix_1, ix_4]; exact ⟨p2, fun _ => ⟨i44, y4, fun _ => trivial, fun _ => ⟨i44, y1⟩⟩, fun _ => trivial⟩
  · rw [cf_113_0, c1, ec, g1, g2, g3]; simp only [q2, q3]; unfold cfb
    by_cases a : P i = G i <;> by_cases c : E i = G i <;> by_cases f : E i = P i <;> simp [a, c, f]
  · rw [cf_469_0, c2, ix_1, ix_4, s1, s2, s3]; simp only [q2, q3]; unfold cfb
    by_cases a : P i = G i <;> by_cases c : E i = G i <;> by_cases f : E i = P i <;> simp [a, c, f]
theorem conf_n (hd : d < 3) (h : dkR N1 N2 d E P G) : cp_112_0 (nI d) N1 ∧ cp_468_0 (nI d) N2 ∧ ∃ n, n ≤ 550 ∧ cf_112_0 (nI d) N1 = nI n ∧ cf_468_0 (nI d) N2 = nI n := by
  rw [cp_112_0, cf_112_0, cp_112_4, cf_112_4, cp_468_0, cf_468_0, cp_468_4, cf_468_4]
  refine mz_lp2n (f := cq_112_4 (nI d) N1) (P := cd_112_4 (nI d) N1) (g := cq_468_4 (nI d) N2) (P2 := cd_468_4 (nI d) N2) (Q := fun r1 r2 => ∃ n, n ≤ 550 ∧ r1 = nI n ∧ r2 = nI n) 550 (fun k s1 s2 => ∃ c, c ≤ k ∧ s1 = (nI c, nI k) ∧ s2 = (nI c, nI k)) ?_ ?_ (Nat.zero_le _) ⟨0, Nat.le_refl _, rfl, rfl⟩
  · rintro k s1 s2 hk ⟨c, hc, rfl, rfl⟩
    have l : nI k < 550 := (nI_ltI (b := 550) (by omega) (by omega)).mpr hk
    obtain ⟨_, _, _, _, a5, a6, a7, a8⟩ := conf_i hd h hk
    rw [cd_112_4, cq_112_4, cd_468_4, cq_468_4]
    simp only [l, if_true, a7, a8]
    refine ⟨⟨fun _ => ⟨a5, fun _ => trivial, fun _ => trivial⟩, fun z => absurd trivial z⟩, ⟨fun _ => ⟨a6, fun _ => trivial, fun _ => trivial⟩, fun z => absurd trivial z⟩, Or.inl ?_⟩
    cases w : cfb E P G k with
    | true => exact ⟨_, _, rfl, rfl, c + 1, by omega, by show (nI c + 1, nI k + 1) = _; rw [nI_1, nI_1], by show (nI c + 1, nI k + 1) = _; rw [nI_1, nI_1]⟩
    | false => exact ⟨_, _, rfl, rfl, c, by omega, by show (nI c, nI k + 1) = _; rw [nI_1], by show (nI c + 0, nI k + 1) = _; rw [nI_1, Int32.add_zero]⟩
  · rintro s1 s2 ⟨c, hc, rfl, rfl⟩
    have l : ¬ nI 550 < 550 := by decide
    rw [cd_112_4, cq_112_4, cd_468_4, cq_468_4]
    simp only [l, if_false]
    exact ⟨⟨False.elim, fun _ => trivial⟩, ⟨False.elim, fun _ => trivial⟩, _, _, rfl, rfl, c, hc, rfl, rfl⟩
theorem conf_f (hd : d < 3) (h : dkR N1 N2 d E P G) (v : Int32) : cp_143_0 (nI d) v N1 ∧ cp_479_0 (nI d) v N2 ∧ ((∃ i, i < 550 ∧ cf_143_0 (nI d) v N1 = nI i ∧ cf_479_0 (nI d) v N2 = nI i) ∨ (cf_143_0 (nI d) v N1 = -1 ∧ cf_479_0 (nI d) v N2 = -1)) := by
  rw [cp_143_0, cf_143_0, cp_143_5, cf_143_5, cp_479_0, cf_479_0, cp_479_5, cf_479_5]
  refine mz_lp2n (f := cq_143_5 (nI d) v N1) (P := cd_143_5 (nI d) v N1) (g := cq_479_5 (nI d) v N2) (P2 := cd_479_5 (nI d) v N2) (Q := fun r1 r2 => (∃ i, i < 550 ∧ r1 = nI i ∧ r2 = nI i) ∨ (r1 = -1 ∧ r2 = -1)) 550 (fun k s1 s2 => ∃ c, s1 = (c, nI k) ∧ s2 = (c, nI k)) ?_ ?_ (Nat.zero_le _) ⟨0, rfl, rfl⟩
  · rintro k s1 s2 hk ⟨c, rfl, rfl⟩
    have l : nI k < 550 := (nI_ltI (b := 550) (by omega) (by omega)).mpr hk
    obtain ⟨_, _, _, _, a5, a6, a7, a8⟩ := conf_i hd h hk
    rw [cd_143_5, cq_143_5, cd_479_5, cq_479_5]
    simp only [l, if_true, a7, a8]
    refine ⟨⟨fun _ => ⟨a5, fun _ => ⟨fun _ => trivial, fun _ => trivial⟩, fun _ => trivial⟩, fun z => absurd trivial z⟩, ⟨fun _ => ⟨a6, fun _ => ⟨fun _ => trivial, fun _ => trivial⟩, fun _ => trivial⟩, fun z => absurd trivial z⟩, ?_⟩
    cases w : cfb E P G k with
    | true =>
      by_cases y : c = v
      · rw [if_pos rfl, if_pos rfl, if_pos y, if_pos y]
        exact Or.inr ⟨_, _, rfl, rfl, Or.inl ⟨k, hk, rfl, rfl⟩⟩
      · rw [if_pos rfl, if_pos rfl, if_neg y, if_neg y]
        exact Or.inl ⟨_, _, rfl, rfl, c + 1, by show (c + 1, nI k + 1) = _; rw [nI_1], by show (c + 1, nI k + 1) = _; rw [nI_1]⟩
    | false => exact Or.inl ⟨_, _, rfl, rfl, c, by show (c, nI k + 1) = _; rw [nI_1], by show (c, nI k + 1) = _; rw [nI_1]⟩
  · rintro s1 s2 ⟨c, rfl, rfl⟩
    have l : ¬ nI 550 < 550 := by decide
    rw [cd_143_5, cq_143_5, cd_479_5, cq_479_5]
    simp only [l, if_false]
    exact ⟨⟨False.elim, fun _ => trivial⟩, ⟨False.elim, fun _ => trivial⟩, _, _, rfl, rfl, Or.inr ⟨rfl, rfl⟩⟩
theorem nI_neg2 {k : Nat} (h : k < 2 ^ 31) : ¬ nI k = -1 ∧ ¬ nI k < 0 := by
  constructor
  · intro z
    have := congrArg Int32.toInt z
    rw [nI_toInt (by omega)] at this
    have t : (-1 : Int32).toInt = -1 := rfl
    rw [t] at this; omega
  · intro z
    rw [Int32.lt_iff_toInt_lt, nI_toInt (by omega)] at z
    have t : (0 : Int32).toInt = 0 := rfl
    rw [t] at z; omega
theorem conflict_al (h : Sm q B N1 b N2) : cp_141_0 v1 v2 N1 ∧ cp_478_0 v1 v2 N2 ∧ caq q B b N1 N2 (cf_141_0 v1 v2 N1) (cf_478_0 v1 v2 N2) := by
  obtain ⟨p1, c1⟩ := in_l 0 2 (by omega) (by omega) v1 (w0 := 0) (w := 2) (g0 := 0) (g := 2) rfl rfl rfl rfl
  have dk := desk_in (v := v1)
  rcases Sm_0 h with ⟨hu, u1, u2, F1, Ft, Ff, Fs, F3, F4⟩ | ⟨u1, u2, F1, Fd, F3, F4⟩
  · rcases c1 with ⟨d, _, hd, rfl, i1, j1⟩ | ⟨i1, j1⟩
    · rw [i1] at dk
      have dk' : cf_461_0 (nI d) = true := dk
      by_cases w : v2 < 0
      · refine ⟨by simp [cp_141_0, cp_141_19, cf_142_0, u1, u2, p1, i1, w], by simp [cp_478_0, cp_478_16, cp_478_17, dk', w, F1, Ff], caq_q h ⟨?_, ?_, ?_⟩⟩
        · simp [cf_141_0, cf_141_19, cf_142_0, u2, i1, w]
        · simp [cf_141_0, cf_141_19, cf_142_0, u2, i1, w, cf_478_0, cf_478_16, cf_478_17, dk', Ff]
        · simp [cf_141_0, cf_141_19, cf_142_0, u2, i1, w]
      · obtain ⟨p, C, s, D, H, x, L, R, h1, h2, h3, h4, h5, h6⟩ := id hu
        have k2 : dkR N1 (mz_pI N2 232 0 0) d (H.1 0) (R.dr d) (R.bs d) := dk_of h3 h4 (by omega)
        obtain ⟨a1, a2, a3⟩ := conf_f (show d < 3 by omega) k2 v2
        rcases a3 with ⟨i, hi, e1, e2⟩ | ⟨e1, e2⟩
        · obtain ⟨m1, m2⟩ := nI_neg2 (k := i) (by omega)
          refine ⟨by simp [cp_141_0, cp_141_19, cf_142_0, u1, u2, p1, i1, w, a1], by simp [cp_478_0, cp_478_17, dk', w, F1, Ft, a2], caq_q h ⟨?_, ?_, ?_⟩⟩
          · simp [cf_141_0, cf_141_19, cf_142_0, u2, i1, w, e1, m1]
          · simp only [cf_141_0, cf_141_19, cf_142_0, u2, i1, if_neg w, e1, if_neg m1, if_true, cf_478_0, cf_478_17, dk', Ft, Bool.false_eq_true, if_false, e2, if_neg m2]; rfl
          · simp only [cf_141_0, cf_141_19, cf_142_0, u2, i1, if_neg w, e1, if_neg m1, if_true, cf_478_0, cf_478_17, dk', Ft, Bool.false_eq_true, if_false, e2, if_neg m2, implies_true]
        · have m0 : ((-1 : Int32) < 0) = True := eq_true (by decide)
          refine ⟨by simp [cp_141_0, cp_141_19, cf_142_0, u1, u2, p1, i1, w, a1], by simp [cp_478_0, cp_478_17, dk', w, F1, Ft, a2], caq_q h ⟨?_, ?_, ?_⟩⟩
          · simp [cf_141_0, cf_141_19, cf_142_0, u2, i1, w, e1]
          · simp only [cf_141_0, cf_141_19, cf_142_0, u2, i1, if_neg w, e1, if_true, cf_478_0, cf_478_17, dk', Ft, Bool.false_eq_true, if_false, e2, m0]; rfl
          · simp only [cf_141_0, cf_141_19, cf_142_0, u2, i1, if_neg w, e1, if_true, cf_478_0, cf_478_17, dk', Ft, Bool.false_eq_true, if_false, e2, m0, implies_true]
    · rw [i1] at dk
      have dk' : cf_461_0 v1 = false := dk
      refine ⟨by simp [cp_141_0, u1, u2, p1, i1], by simp [cp_478_0, cp_478_16, cp_478_17, dk', F1, Ff], caq_q h ⟨?_, ?_, ?_⟩⟩
      · simp [cf_141_0, u2, i1]
      · simp [cf_141_0, u2, i1, cf_478_0, cf_478_16, cf_478_17, dk', Ff]
      · simp [cf_141_0, u2, i1]
  · refine ⟨by simp [cp_141_0, u1, u2], by simp [cp_478_0, cp_478_16, cp_478_17, F1, Fd], caq_q h ⟨?_, ?_, ?_⟩⟩
    · simp [cf_141_0, u2]
    · simp [cf_141_0, u2, cf_478_0, cf_478_16, cf_478_17, Fd]
    · simp [cf_141_0, u2]
/-- both have the same drafts anew -/
theorem desk_up {p C : Nat} {dr bs : Nat → Nat → Nat} (h1 : p ≤ q) (h2 : C ≤ B) (h3 : MR p C s D H x L N1 b N2) (h4 : RsR H L R N1 N2) (h5 : R.lg ≤ q) (h6 : 1 ≤ p) (f1 : fq [5, 6, 7, 9, 10, 11] [] N1 M1) (f2 : fq [232, 233] [] N2 M2) (i2 : ∀ f, f ≠ 0 → M2.1 232 f = N2.1 232 f) (d2 : ∀ j, j < 550 → M2.1 233 j = N2.1 233 j)
    (dc : ∀ d, d < 3 → ∀ i, i < 550 → M1.1 (5 + d) i = nI (dr d i) ∧ M1.1 (9 + d) i = nI (bs d i)) (rd : ∀ d, d < 3 → ∀ i, i < 550 → M2.1 233 (550 * (1 + d) + i) = nI (dr d i) ∧ M2.1 233 (550 * (4 + d) + i) = nI (bs d i)) (db : ∀ d, d < 3 → ∀ i, i < 550 → dr d i < 4 ∧ bs d i < 4 ∧ (ge_sd (i % 110) < 4 → dr d i = 2 ∨ dr d i = 3)) : Up q B M1 b M2 := by
  have mr : MR p C s D H x L M1 b M2 := ⟨⟨KS_B h3.cs.ks (stK_of f1 f2 rfl rfl (fun f hf => i2 f (by omega)) (by rw [f2.2 232 rfl])) rfl (ckp_q h3.cs.ks.kc f1 rfl rfl) (rkp_1 h3.cs.ks.kr f2 rfl rfl (i2 27 (by decide)) (i2 21 (by decide)) (fun f _ => by rw [f2.2 232 rfl]) (fun _ _ => rfl) (fun _ => rfl) (fun _ => rfl) (fun j hj => by rw [d2 j hj]; exact h3.cs.ks.kr.1 j hj)), crC_f h3.cs.cc f1 rfl rfl, crR_f h3.cs.cr f2 rfl rfl (i2 96 (by decide)) (by rw [f2.2 232 rfl]) rfl⟩, LR_q h3.lr f1 f2 rfl rfl rfl rfl (fun f hf => i2 f (by omega)) (fun f _ => by rw [f2.2 232 rfl]), h3.iv⟩
  exact ⟨p, C, s, D, H, x, L, _, h1, h2, mr, RsR_e h4 (rsE_q f1 f2 rfl rfl rfl (fun f hf => i2 f (rsJ_ne hf rfl))) dc rd db ⟨by rw [f1.1 2 rfl]; exact h4.ve.1, by rw [i2 4 (by decide)]; exact h4.ve.2⟩ (fun _ _ z => z) rfl rfl rfl h4.pn, h5, h6⟩
theorem wI_gen {a c i j : Nat} {y : Int32} (hi : i < 2 ^ 31) : (mz_wI N a (nI i) y).1 c j = if c = a ∧ j = i then y else N.1 c j := by
  by_cases w : c = a
  · subst w
    rw [wI_at (by omega)]
    by_cases z : j = i
    · rw [if_pos z, if_pos ⟨rfl, z⟩]
    · rw [if_neg z, if_neg (fun y => z y.2)]
  · rw [wI_ne w, if_neg (fun y => w y.1)]
theorem d_in {d : Nat} (hd : d < 3) : ([5, 6, 7, 9, 10, 11] : List Nat).contains (5 + d) = true ∧ ([5, 6, 7, 9, 10, 11] : List Nat).contains (9 + d) = true := by
  rcases (show d = 0 ∨ d = 1 ∨ d = 2 by omega) with w | w | w <;> subst w <;> exact ⟨rfl, rfl⟩
theorem take_al (h : Sm q B N1 b N2) : cp_103_0 v1 N1 ∧ cp_460_0 v1 N2 ∧ cal q B b N1 N2 (cf_103_0 v1 N1) (cf_460_0 v1 N2) := by
  obtain ⟨p1, c1⟩ := in_l 0 2 (by omega) (by omega) v1 (w0 := 0) (w := 2) (g0 := 0) (g := 2) rfl rfl rfl rfl
  have dk := desk_in (v := v1)
  rcases Sm_0 h with ⟨hu, u1, u2, F1, Ft, Ff, Fs, F3, F4⟩ | ⟨u1, u2, F1, Fd, F3, F4⟩
  · rcases c1 with ⟨d, _, hd, rfl, i1, j1⟩ | ⟨i1, j1⟩
    · rw [i1] at dk
      have dk' : cf_461_0 (nI d) = true := dk
      obtain ⟨p, C, s, D, H, x, L, R, h1, h2, h3, h4, h5, h6⟩ := id hu
      obtain ⟨a1, a2, a3⟩ := c_bring (N := N1) (v := d) (by omega)
      obtain ⟨g1, g, g2, g3⟩ := r_copy1 (N := mz_pI N2 232 0 0) (v := 1 + d) (by omega) (by omega)
      obtain ⟨k1, g', k2, k3⟩ := r_copy1 (N := cf_426_0 0 (nI (1 + d)) (mz_pI N2 232 0 0)) (v := 4 + d) (by omega) (by omega)
      have e1 : (1 : Int32) + nI d = nI (1 + d) := by rw [show (1 : Int32) = nI 1 from rfl, nI_add]
      have e4 : (4 : Int32) + nI d = nI (4 + d) := by rw [show (4 : Int32) = nI 4 from rfl, nI_add]
      have P1 : cp_103_0 (nI d) N1 := by simp [cp_103_0, u1, u2, p1, i1, a1]
      have P2 : cp_460_0 (nI d) N2 := by simp [cp_460_0, cp_460_30, dk', F1, Ft, e1, e4, g1, k1]
      have c1' : cf_103_0 (nI d) N1 = (0, (cf_90_0 (nI d) N1).1 2 3, cf_90_0 (nI d) N1) := by simp [cf_103_0, u2, i1]
      have c2' : cf_460_0 (nI d) N2 = ((cf_426_0 0 (nI (4 + d)) (cf_426_0 0 (nI (1 + d)) (mz_pI N2 232 0 0))).1 232 4, cf_426_0 0 (nI (4 + d)) (cf_426_0 0 (nI (1 + d)) (mz_pI N2 232 0 0))) := by simp [cf_460_0, cf_460_30, dk', Ft, e1, e4]
      rw [c1', c2']
      generalize cf_90_0 (nI d) N1 = M1 at a2 a3
      have gg : ∀ j, g' j = if 550 * (4 + d) ≤ j ∧ j < 550 * (4 + d) + 550 then g (j - 550 * (4 + d)) else g j := fun j => by rw [k3 j, g2]; rfl
      rw [g2] at k2
      rw [g2, k2]
      have f2 : fq [232, 233] [] N2 (mz_sI (mz_sI (mz_pI N2 232 0 0) 233 g) 233 g') := fq_sI (fq_sI (fq_pI (fq_refl _ _ _) rfl) rfl) rfl
      have i2 : ∀ f, f ≠ 0 → (mz_sI (mz_sI (mz_pI N2 232 0 0) 233 g) 233 g').1 232 f = N2.1 232 f := fun f g0 => by rw [sI_n (by decide), sI_n (by decide), pI_s, sI_e, up_a, if_neg g0]
      have h0 : (mz_sI (mz_sI (mz_pI N2 232 0 0) 233 g) 233 g').1 232 0 = 0 := by rw [sI_n (by decide), sI_n (by decide)]; exact code_0
      have k233 : (mz_sI (mz_sI (mz_pI N2 232 0 0) 233 g) 233 g').1 233 = g' := sI_e _ _ _
      generalize mz_sI (mz_sI (mz_pI N2 232 0 0) 233 g) 233 g' = M2 at f2 i2 h0 k233
      have g3' : ∀ j, g j = if 550 * (1 + d) ≤ j ∧ j < 550 * (1 + d) + 550 then N2.1 233 (j - 550 * (1 + d)) else N2.1 233 j := g3
      refine ⟨P1, P2, cal_u h0 ?_ (oF_q a2 f2 rfl rfl rfl rfl) (desk_up (dr := fun u => if u = d then H.1 0 else R.dr u) (bs := fun u => if u = d then H.1 0 else R.bs u) h1 h2 h3 h4 h5 h6 a2 f2 i2 ?_ ?_ ?_ ?_)⟩
      · rw [i2 4 (by decide), a2.1 2 rfl, h4.ve.1, h4.ve.2]
      · intro j hj
        rw [k233, gg, if_neg (by omega), g3', if_neg (by omega)]
      · intro u hu' i hi
        show M1.1 (5 + u) i = nI ((if u = d then H.1 0 else R.dr u) i) ∧ M1.1 (9 + u) i = nI ((if u = d then H.1 0 else R.bs u) i)
        rw [a3, a3]
        by_cases w : u = d
        · rw [if_pos (show (5 + u = 5 + d ∨ 5 + u = 9 + d) ∧ i < 550 by omega), if_pos (show (9 + u = 5 + d ∨ 9 + u = 9 + d) ∧ i < 550 by omega), if_pos w, if_pos w]
          exact ⟨h3.cs.ks.kc.1 i hi, h3.cs.ks.kc.1 i hi⟩
        · rw [if_neg (show ¬ ((5 + u = 5 + d ∨ 5 + u = 9 + d) ∧ i < 550) by omega), if_neg (show ¬ ((9 + u = 5 + d ∨ 9 + u = 9 + d) ∧ i < 550) by omega), if_neg w, if_neg w]
          exact h4.dc u hu' i hi
      · intro u hu' i hi
        show M2.1 233 (550 * (1 + u) + i) = nI ((if u = d then H.1 0 else R.dr u) i) ∧ M2.1 233 (550 * (4 + u) + i) = nI ((if u = d then H.1 0 else R.bs u) i)
        rw [k233, gg, gg]
        by_cases w : u = d
        · subst w
          have y1 : g (550 * (1 + u) + i) = N2.1 233 i := by rw [g3', if_pos (by omega), show 550 * (1 + u) + i - 550 * (1 + u) = i by omega]
          have y2 : g i = N2.1 233 i := by rw [g3', if_neg (by omega)]
          rw [if_neg (show ¬ (550 * (4 + u) ≤ 550 * (1 + u) + i ∧ 550 * (1 + u) + i < 550 * (4 + u) + 550) by omega), if_pos (show 550 * (4 + u) ≤ 550 * (4 + u) + i ∧ 550 * (4 + u) + i < 550 * (4 + u) + 550 by omega), if_pos rfl, if_pos rfl, y1, show 550 * (4 + u) + i - 550 * (4 + u) = i by omega, y2]
          exact ⟨h3.cs.ks.kr.1 i hi, h3.cs.ks.kr.1 i hi⟩
        · have y1 : g (550 * (1 + u) + i) = N2.1 233 (550 * (1 + u) + i) := by rw [g3', if_neg (by omega)]
          have y2 : g (550 * (4 + u) + i) = N2.1 233 (550 * (4 + u) + i) := by rw [g3', if_neg (by omega)]
          rw [if_neg (show ¬ (550 * (4 + d) ≤ 550 * (1 + u) + i ∧ 550 * (1 + u) + i < 550 * (4 + d) + 550) by omega), if_neg (show ¬ (550 * (4 + d) ≤ 550 * (4 + u) + i ∧ 550 * (4 + u) + i < 550 * (4 + d) + 550) by omega), if_neg w, if_neg w, y1, y2]
          exact h4.rd u hu' i hi
      · intro u hu' i hi
        show (if u = d then H.1 0 else R.dr u) i < 4 ∧ (if u = d then H.1 0 else R.bs u) i < 4 ∧ (ge_sd (i % 110) < 4 → (if u = d then H.1 0 else R.dr u) i = 2 ∨ (if u = d then H.1 0 else R.dr u) i = 3)
        by_cases w : u = d
        · rw [if_pos w, if_pos w]; exact ⟨h3.iv.pl.e4 i hi, h3.iv.pl.e4 i hi, h3.iv.pl.bd i hi⟩
        · rw [if_neg w, if_neg w]; exact h4.db u hu' i hi
    · rw [i1] at dk
      have dk' : cf_461_0 v1 = false := dk
      exact ⟨by simp [cp_103_0, u1, u2, p1, i1], by simp [cp_460_0, dk', F1, Ff], Sm_r (a := 0) (a' := 0) h (Or.inl rfl) (by simp [cf_103_0, u2, i1]) (by simp [cf_460_0, dk', Ff])⟩
  · exact ⟨by simp [cp_103_0, u1, u2], by simp [cp_460_0, F1, Fd], Sm_r (a := 0) (a' := 0) h (Or.inr rfl) (by simp [cf_103_0, u2]) (by simp [cf_460_0, Fd])⟩
end Dk2
