/-! PURE (50zzzu): the parts of a minute wear, on both sides. -/
def wr1 (g : Bool) (v : Nat) (H : Kp) : Kp := if g = true then kI H 8 v (H.2.1 8 v + 1) else H
def bL (g : Bool) : Int64 := if g = true then 1 else 0
theorem wr1_t {v : Nat} {H : Kp} : wr1 true v H = kI H 8 v (H.2.1 8 v + 1) := if_pos rfl
theorem wr1_f {v : Nat} {H : Kp} : wr1 false v H = H := if_neg (fun z => by cases z)
section Ww
variable {Iv : Kp → Kp → CrS → Prop} {Jv : Kp → Prop} {N1 N2 : mz_N} {b : Bool} {B : Nat} {s : st_S} {D H : Kp} {x : CrS} {v : Nat}
theorem inc_ok {g : Bool} {w : Nat} (h : CS B s D H x N1 b N2) (hv : v < 3) (hw : H.2.1 8 v = nI w) (hw2 : w < 2 ^ 30) : cp_256_0 (nI v) g N1 ∧ CS B s D (wr1 g v H) x (cf_256_0 (nI v) g N1) b (mz_wL N2 305 (nI v) (mz_gL N2 305 (nI v) + bL g)) ∧ fq [126] [] N1 (cf_256_0 (nI v) g N1) := by
  have cl : (nI v).toNatClampNeg = v := nI_clamp (by omega)
  have ib : mz_ib (nI v) 3 := ib_n hv (by omega)
  have k11 := h.ks.kc.2.2.2.2.2.2.2.2.2.2.2.2.1
  have r11 := h.ks.kr.2.2.2.2.2.2.2.2.2.2.2.2.1
  have gl : mz_gL N2 305 (nI v) = (nI w).toInt64 := by rw [gL_a, cl, (r11 v hv).2.1, hw]
  have f2 : fq [] [305] N2 (mz_wL N2 305 (nI v) (mz_gL N2 305 (nI v) + bL g)) := fq_wL (fq_refl _ _ _) rfl
  have R : ∀ {G : Kp}, (∀ f, G.1 f = H.1 f) → (∀ f, f ≠ 8 → G.2.1 f = H.2.1 f) → (∀ f, G.2.2 f = H.2.2 f) → (∀ j, j < 3 → (if j = v then (nI w).toInt64 + bL g else (H.2.1 8 j).toInt64) = (G.2.1 8 j).toInt64) → r_kp (mz_wL N2 305 (nI v) (mz_gL N2 305 (nI v) + bL g)) G := fun {G} e1 e2 e3 e4 => by
    refine rkp_11 h.ks.kr f2 rfl rfl (by rw [f2.1 232 rfl]) (by rw [f2.1 232 rfl]) (fun f _ => by rw [f2.2 232 rfl]) (fun f _ => e1 f) (fun f _ n8 _ => e2 f n8) e3 (fun j hj => ?_)
    obtain ⟨a1, a2, a3, a4⟩ := r11 j hj
    rw [f2.1 250 rfl, f2.1 306 rfl, f2.1 307 rfl, e1 7, e2 7 (by decide), e2 9 (by decide), ← e4 j hj, gl, wL_s, sL_e, cl, upL_a]
    refine ⟨a1, ?_, a3, a4⟩
    by_cases z : j = v
    · rw [if_pos z, if_pos z]
    · rw [if_neg z, if_neg z]; exact a2
  have rr : ∀ {G : Kp}, G.1 8 = H.1 8 → crR (mz_wL N2 305 (nI v) (mz_gL N2 305 (nI v) + bL g)) G x := fun {G} e8 => by
    obtain ⟨c1, c2, c3, c4, c5, c6, c7⟩ := h.cr
    exact ⟨by rw [e8]; exact c1, c2, c3, c4, c5, c6, c7⟩
  have sr := st_rF h.ks.r (f2.1 329 rfl) (f2.1 330 rfl) (f2.1 331 rfl) (fun f _ => by rw [f2.1 232 rfl]) (by rw [f2.2 232 rfl])
  rw [cp_256_0, cf_256_0]
  cases g with
  | true =>
    rw [if_pos rfl, wr1_t]
    have e : H.2.1 8 v + 1 = nI (w + 1) := by rw [hw, nI_1]
    have f1 : fq [126] [] N1 (mz_wI N1 126 (nI v) (mz_gI N1 126 (nI v) + 1)) := fq_wI (fq_refl _ _ _) rfl
    refine ⟨⟨fun _ => ⟨ib, ib⟩, fun z => absurd rfl z⟩, ⟨⟨h.ks.ok, st_cF h.ks.c (f1.1 221 rfl) (f1.1 222 rfl) (f1.1 223 rfl) (f1.1 224 rfl) (fun f _ _ => by rw [f1.1 219 rfl]), sr, ?_, ?_, h.ks.hb, zv_f h.ks.zv (f1.1 134 rfl)⟩, ?_, rr rfl⟩, f1⟩
    · refine ckp_11 h.ks.kc f1 rfl rfl (fun _ _ => rfl) (fun f _ n8 _ => kI_1 f n8) (fun _ => rfl) (fun j hj => ?_)
      obtain ⟨a1, a2, a3, a4⟩ := k11 j hj
      rw [f1.1 125 rfl, f1.1 127 rfl, f1.1 128 rfl, wI_s, sI_e, cl]
      refine ⟨a1, ?_, a3, a4⟩
      show upd (N1.1 126) v _ j = up (H.2.1 8) v (H.2.1 8 v + 1) j
      rw [up_a, up_d, gI_a, cl, (k11 v hv).2.1]
      by_cases z : j = v
      · rw [if_pos z, if_pos z]
      · rw [if_neg z, if_neg z]; exact a2
    · refine R (fun _ => rfl) kI_1 (fun _ => rfl) (fun j hj => ?_)
      show _ = (up (H.2.1 8) v (H.2.1 8 v + 1) j).toInt64
      rw [up_d]
      by_cases z : j = v
      · rw [if_pos z, if_pos z, e, nI_L (by omega), nI_L (by omega)]; exact lN_1 _
      · rw [if_neg z, if_neg z]
    · obtain ⟨c1, c2, c3, c4, c5, c6, c7⟩ := h.cc
      refine ⟨c1, c2, c3, c4, c5, fun u hu => ?_, c7⟩
      rcases (show u = 0 ∨ u = 1 by omega) with z | z
      · subst z; exact c6 0 hu
      · subst z; exact c6 1 hu
  | false =>
    have nf : ¬ (false = true) := fun z => by cases z
    rw [if_neg nf, wr1_f]
    refine ⟨⟨fun z => absurd z nf, fun _ => trivial⟩, ⟨⟨h.ks.ok, h.ks.c, sr, h.ks.kc, ?_, h.ks.hb, h.ks.zv⟩, h.cc, rr rfl⟩, fq_refl _ _ _⟩
    refine R (fun _ => rfl) (fun _ _ => rfl) (fun _ => rfl) (fun j hj => ?_)
    by_cases z : j = v
    · rw [if_pos z, z, hw]; exact Int64.add_zero _
    · rw [if_neg z]
theorem wear_l (hB : B + 3 < 2 ^ 30) (hcl : ∀ D H x v, v < 3 → Iv D H x → H.1 7 v = 0 → Iv (DG (gkl (wfK v H)) D (wfH v H x) (wfK v H).length) (wfH v H x) (wfX H x)) (hnn : ∀ D H x, Iv D H x → x.nn ≤ 2000000000) (hJ : ∀ D H x, Iv D H x → Jv D) (h : CS B s D H x N1 b N2) (hI : Iv D H x) :
    cp_255_55 0 N1 b ∧ cp_535_67 0 N2 ∧ Out Iv Jv (B + 3) b N1 N2 (cf_255_55 0 N1 b) (cf_535_67 0 N2) := by
  rw [cp_255_55, cf_255_55, cp_535_67, cf_535_67]
  refine mz_lp2n (f := cq_255_55 b) (P := cd_255_55 b) (g := cq_535_67) (P2 := cd_535_67) (Q := fun r1 r2 => Out Iv Jv (B + 3) b N1 N2 r1 r2) 3 (fun k s1 s2 => ∃ M1 M2, s1 = (nI k, M1) ∧ s2 = (nI k, M2) ∧ crF N1 M1 ∧ crG N2 M2 ∧ ∃ B' s' D' H' x', B' ≤ B + k ∧ CS B' s' D' H' x' M1 b M2 ∧ Iv D' H' x') ?_ ?_ (Nat.zero_le _) ⟨N1, N2, rfl, rfl, crF_r _, crG_r _, B, s, D, H, x, Nat.le_refl _, h, hI⟩
  · rintro k s1 s2 hk ⟨M1, M2, rfl, rfl, F1, G1, B', s', D', H', x', hB', h', hI'⟩
    have l3 : nI k < 3 := (nI_ltI (b := 3) (by omega) (by omega)).mpr hk
    have cl : (nI k).toNatClampNeg = k := nI_clamp (by omega)
    have ib : mz_ib (nI k) 3 := ib_n hk (by omega)
    have b7 : H'.1 7 k ≤ 1 := h'.ks.hb.2.2.2.2.2.2.2.2.1 k
    obtain ⟨a1, a2, a3, a4⟩ := h'.ks.kc.2.2.2.2.2.2.2.2.2.2.2.2.1 k hk
    obtain ⟨b1', b2, b3, b4⟩ := h'.ks.kr.2.2.2.2.2.2.2.2.2.2.2.2.1 k hk
    have g128 : mz_gI M1 128 (nI k) = nI (H'.1 7 k) := by rw [gI_a, cl]; exact a4
    have g307 : mz_gI M2 307 (nI k) = nI (H'.1 7 k) := by rw [gI_a, cl]; exact b4
    have g126 : mz_gI M1 126 (nI k) = H'.2.1 8 k := by rw [gI_a, cl]; exact a2
    have g125 : mz_gI M1 125 (nI k) = H'.2.1 7 k := by rw [gI_a, cl]; exact a1
    have g305 : mz_gL M2 305 (nI k) = (H'.2.1 8 k).toInt64 := by rw [gL_a, cl]; exact b2
    have g250 : mz_gI M2 250 (nI k) = H'.2.1 7 k := by rw [gI_a, cl]; exact b1'
    have go : ∀ {z : Prop}, (∃ M1' M2', (nI k + 1, M1) = (nI (k + 1), M1') ∧ (nI k + 1, M2) = (nI (k + 1), M2') ∧ crF N1 M1' ∧ crG N2 M2' ∧ ∃ B' s' D' H' x', B' ≤ B + (k + 1) ∧ CS B' s' D' H' x' M1' b M2' ∧ Iv D' H' x') := fun {z} => ⟨M1, M2, by rw [nI_1], by rw [nI_1], F1, G1, B', s', D', H', x', by omega, h', hI'⟩
    rw [cd_255_55, cq_255_55, cd_535_67, cq_535_67]
    simp only [l3, if_true]
    by_cases e7 : H'.1 7 k = 0
    · have n1 : cf_257_0 (nI k) M1 = decide (¬ H'.2.1 8 k < H'.2.1 7 k) := by
        rw [cf_257_0, cf_224_0, g128, e7, if_pos (show nI 0 = 0 from rfl), if_pos rfl, g126, g125]
        by_cases z : H'.2.1 8 k < H'.2.1 7 k
        · rw [if_pos z, decide_eq_false (fun y => y z)]
        · rw [if_neg z, decide_eq_true z]
      have n1p : cp_257_0 (nI k) M1 := ⟨ib, fun _ => ⟨ib, ib⟩, fun _ => trivial⟩
      have n2 : ¬ mz_gZ M2 307 (nI k) = true := by rw [gZ_a, cl, b4, e7]; decide
      have zz : mz_z01 (mz_gI M2 307 (nI k)) := by rw [g307]; exact z01_n b7
      rw [n1, if_neg n2, g305, g250]
      by_cases z : H'.2.1 8 k < H'.2.1 7 k
      · rw [decide_eq_false (fun y => y z), if_neg (fun y => by cases y), if_pos ((l64_lt _ _).mpr z), cf_255_81, cf_535_144]
        exact ⟨⟨fun _ => ⟨n1p, (fun y => by cases y), fun _ => trivial⟩, fun y => absurd trivial y⟩, ⟨fun _ => ⟨ib, zz, fun y => absurd y n2, fun _ => ⟨ib, ib, fun _ => trivial, fun y => absurd ((l64_lt _ _).mpr z) y⟩⟩, fun y => absurd trivial y⟩, Or.inl ⟨_, _, rfl, rfl, go (z := True)⟩⟩
      · have z2 : ¬ (H'.2.1 8 k).toInt64 < (H'.2.1 7 k).toInt64 := fun y => z ((l64_lt _ _).mp y)
        obtain ⟨p1, ⟨p2, p2'⟩, G, p3, p4, p5, ww, K1, K2, o1, o2, o3, o4, o5, o6⟩ := fail_ok (Iv := Iv) (Jv := Jv) (show B' + 1 < 2 ^ 30 by omega) hk h' (hnn _ _ _ hI') (hcl _ _ _ k hk hI' e7) (hJ _ _ _ hI')
        rw [decide_eq_true z, if_pos rfl, if_neg z2, p4, cf_535_135, o1, o2]
        have pp : cp_535_135 (nI k) G := by
          rw [cp_535_135]
          exact ⟨p5, fun _ => trivial, fun _ => trivial⟩
        have P1 : (nI k < 3 → _) := fun (_ : nI k < 3) => (⟨n1p, fun _ => ⟨p1, fun _ => trivial, fun _ => trivial⟩, fun y => absurd rfl y⟩ : cp_257_0 (nI k) M1 ∧ (true = true → cp_258_0 (nI k) M1 b ∧ ((ww, K1).1 = true → cp_255_81 (nI k) (ww, K1).2 b) ∧ (¬ (ww, K1).1 = true → True)) ∧ (¬ true = true → cp_255_81 (nI k) M1 b))
        refine ⟨⟨fun _ => P1 l3, fun y => absurd trivial y⟩, ⟨fun _ => ⟨ib, zz, fun y => absurd y n2, fun _ => ⟨ib, ib, fun y => absurd y z2, fun _ => ⟨ib, p2, p2', p3 pp⟩⟩⟩, fun y => absurd trivial y⟩, ?_⟩
        cases ww with
        | true =>
          obtain ⟨B2, s2, D2, H2, x2, i1, i2, i3⟩ := o5 rfl
          rw [if_pos rfl, if_pos rfl, cf_255_81, cf_535_144]
          exact Or.inl ⟨_, _, rfl, rfl, K1, K2, by rw [nI_1], by rw [nI_1], crF_t F1 o3, crG_t G1 o4, B2, s2, D2, H2, x2, by omega, i2, i3⟩
        | false =>
          obtain ⟨D2, i1, i2⟩ := o6 rfl
          rw [if_neg (fun y => by cases y), if_neg (fun y => by cases y)]
          exact Or.inr ⟨_, _, rfl, rfl, false, K1, K2, rfl, rfl, crF_t F1 o3, crG_t G1 o4, (fun y => by cases y), fun _ => ⟨D2, Dwn_m (by omega) i1, i2⟩⟩
    · have e71 : H'.1 7 k = 1 := by omega
      have n0 : ¬ nI 1 = 0 := by decide
      have n1 : cf_257_0 (nI k) M1 = false := by rw [cf_257_0, cf_224_0, g128, e71, if_neg n0, if_neg (fun y => by cases y)]
      have n1p : cp_257_0 (nI k) M1 := ⟨ib, fun _ => ⟨ib, ib⟩, fun _ => trivial⟩
      have n2 : mz_gZ M2 307 (nI k) = true := by rw [gZ_a, cl, b4, e71]; rfl
      have zz : mz_z01 (mz_gI M2 307 (nI k)) := by rw [g307]; exact z01_n b7
      rw [n1, if_neg (fun y => by cases y), if_pos n2, cf_255_81, cf_535_144]
      exact ⟨⟨fun _ => ⟨n1p, (fun y => by cases y), fun _ => trivial⟩, fun y => absurd trivial y⟩, ⟨fun _ => ⟨ib, zz, fun _ => trivial, fun y => absurd n2 y⟩, fun y => absurd trivial y⟩, Or.inl ⟨_, _, rfl, rfl, go (z := True)⟩⟩
  · rintro s1 s2 ⟨M1, M2, rfl, rfl, F1, G1, B', s', D', H', x', hB', h', hI'⟩
    have l3 : ¬ nI 3 < 3 := by decide
    rw [cd_255_55, cq_255_55, cd_535_67, cq_535_67]
    simp only [l3, if_false]
    exact ⟨⟨False.elim, fun _ => trivial⟩, ⟨False.elim, fun _ => trivial⟩, _, _, rfl, rfl, true, M1, M2, rfl, rfl, F1, G1, fun _ => ⟨B', s', D', H', x', hB', h', hI'⟩, (fun y => by cases y)⟩
end Ww
section Wo
variable {Iv : Kp → Kp → CrS → Prop} {Jv : Kp → Prop} {N1 N2 : mz_N} {b : Bool} {B : Nat} {s : st_S} {D H : Kp} {x : CrS} {g0 g1 g2 : Bool} {wv : Nat → Nat}
def wrA (g0 g1 g2 : Bool) (H : Kp) : Kp := wr1 g2 2 (wr1 g1 1 (wr1 g0 0 H))
theorem wr1_8 {g : Bool} {v j : Nat} (h : j ≠ v) : (wr1 g v H).2.1 8 j = H.2.1 8 j := by
  cases g with
  | true =>
    rw [wr1_t]
    show up (H.2.1 8) v _ j = _
    rw [up_d, if_neg h]
  | false => rw [wr1_f]
theorem wear_ok (hB : B + 3 < 2 ^ 30) (hcl : ∀ D H x v, v < 3 → Iv D H x → H.1 7 v = 0 → Iv (DG (gkl (wfK v H)) D (wfH v H x) (wfK v H).length) (wfH v H x) (wfX H x)) (hnn : ∀ D H x, Iv D H x → x.nn ≤ 2000000000) (hJ : ∀ D H x, Iv D H x → Jv D) (h : CS B s D H x N1 b N2) (hI : Iv D (wrA g0 g1 g2 H) x) (hw : ∀ v, v < 3 → H.2.1 8 v = nI (wv v) ∧ wv v < 2 ^ 30) (c13 : decide (0 < N1.1 56 13) = g0) (r66 : decide (0 < N2.2 232 66) = g0) (c9 : N1.1 56 9 = mz_b01 g1) (r64 : N2.1 232 64 = mz_b01 g1) (c5 : N1.1 56 5 = mz_b01 g2) (r65 : N2.1 232 65 = mz_b01 g2) :
    cp_255_0 N1 b ∧ cp_535_0 N2 ∧ Out Iv Jv (B + 3) b N1 N2 (cf_255_0 N1 b) (cf_535_0 N2) := by
  have e0 : (0 : Int32) = nI 0 := rfl
  have e1 : (1 : Int32) = nI 1 := rfl
  have e2 : (2 : Int32) = nI 2 := rfl
  obtain ⟨p0, h0, f0⟩ := inc_ok (g := g0) h (show 0 < 3 by omega) (hw 0 (by omega)).1 (hw 0 (by omega)).2
  have w1 : (wr1 g0 0 H).2.1 8 1 = nI (wv 1) := by rw [wr1_8 (by decide)]; exact (hw 1 (by omega)).1
  obtain ⟨p1, h1, f1⟩ := inc_ok (g := g1) h0 (show 1 < 3 by omega) w1 (hw 1 (by omega)).2
  have w2 : (wr1 g1 1 (wr1 g0 0 H)).2.1 8 2 = nI (wv 2) := by rw [wr1_8 (by decide), wr1_8 (by decide)]; exact (hw 2 (by omega)).1
  obtain ⟨p2, h2, f2⟩ := inc_ok (g := g2) h1 (show 2 < 3 by omega) w2 (hw 2 (by omega)).2
  rw [← e0] at p0 h0 f0 p1 h1 f1 p2 h2 f2
  rw [← e1] at p1 h1 f1 p2 h2 f2
  rw [← e2] at p2 h2 f2
  obtain ⟨q1, q2, ww, K1, K2, o1, o2, o3, o4, o5, o6⟩ := wear_l (Iv := Iv) (Jv := Jv) hB hcl hnn hJ h2 hI
  have A : cp_255_20 0 g0 N1 b ∧ cf_255_20 0 g0 N1 b = cf_255_55 0 (cf_256_0 2 g2 (cf_256_0 1 g1 (cf_256_0 0 g0 N1))) b := by
    have d9 : mz_fZ (cf_256_0 0 g0 N1) 56 9 = g1 := by show decide ((cf_256_0 0 g0 N1).1 56 9 = 1) = _; rw [f0.1 56 rfl, c9, d_b01]
    have d5 : mz_fZ (cf_256_0 1 g1 (cf_256_0 0 g0 N1)) 56 5 = g2 := by show decide ((cf_256_0 1 g1 (cf_256_0 0 g0 N1)).1 56 5 = 1) = _; rw [f1.1 56 rfl, f0.1 56 rfl, c5, d_b01]
    rw [cp_255_20, cf_255_20, d9, d5, cf_255_53, cp_255_53, f0.1 56 rfl, f1.1 56 rfl, f0.1 56 rfl, c9, c5]
    exact ⟨⟨p0, z01_b01 _, p1, z01_b01 _, p2, q1⟩, rfl⟩
  have bl1 : ∀ {g : Bool}, g = true → bL g = 1 := fun {g} hg => by rw [hg]; rfl
  have bl0 : ∀ {g : Bool}, g = false → bL g = 0 := fun {g} hg => by rw [hg]; rfl
  have ib : ∀ k, k < 3 → mz_ib (nI k) 3 := fun k hk => ib_n hk (by omega)
  have R : cp_535_21 0 (mz_gL N2 305 0) (bL g0) N2 ∧ cf_535_21 0 (mz_gL N2 305 0) (bL g0) N2 = cf_535_67 0 (mz_wL (mz_wL (mz_wL N2 305 0 (mz_gL N2 305 0 + bL g0)) 305 1 (mz_gL (mz_wL N2 305 0 (mz_gL N2 305 0 + bL g0)) 305 1 + bL g1)) 305 2 (mz_gL (mz_wL (mz_wL N2 305 0 (mz_gL N2 305 0 + bL g0)) 305 1 (mz_gL (mz_wL N2 305 0 (mz_gL N2 305 0 + bL g0)) 305 1 + bL g1)) 305 2 + bL g2)) := by
    rw [cp_535_21, cf_535_21]
    generalize hA : mz_wL N2 305 0 (mz_gL N2 305 0 + bL g0) = A0 at q2 ⊢
    have a64 : A0.1 232 64 = mz_b01 g1 := by rw [← hA]; exact r64
    have a65 : A0.1 232 65 = mz_b01 g2 := by rw [← hA]; exact r65
    have d64 : mz_fZ A0 232 64 = g1 := by show decide (A0.1 232 64 = 1) = _; rw [a64, d_b01]
    have X : cp_535_42 1 (mz_gL A0 305 1) (bL g1) A0 ∧ cf_535_42 1 (mz_gL A0 305 1) (bL g1) A0 = cf_535_67 0 (mz_wL (mz_wL A0 305 1 (mz_gL A0 305 1 + bL g1)) 305 2 (mz_gL (mz_wL A0 305 1 (mz_gL A0 305 1 + bL g1)) 305 2 + bL g2)) := by
      rw [cp_535_42, cf_535_42]
      generalize hA1 : mz_wL A0 305 1 (mz_gL A0 305 1 + bL g1) = A1 at q2 ⊢
      have a65' : A1.1 232 65 = mz_b01 g2 := by rw [← hA1]; exact a65
      have d65 : mz_fZ A1 232 65 = g2 := by show decide (A1.1 232 65 = 1) = _; rw [a65', d_b01]
      rw [d65, a65']
      cases hg : g2 with
      | true =>
        rw [hg, bl1 rfl] at q2
        rw [if_pos rfl, cf_535_63, cp_535_63, bl1 rfl]
        exact ⟨⟨ib 1 (by omega), z01_b01 _, fun _ => ⟨ib 2 (by omega), q2⟩, fun y => absurd rfl y⟩, rfl⟩
      | false =>
        rw [hg, bl0 rfl] at q2
        rw [if_neg (fun y => by cases y), cf_535_63, cp_535_63, bl0 rfl]
        exact ⟨⟨ib 1 (by omega), z01_b01 _, (fun y => by cases y), fun _ => ⟨ib 2 (by omega), q2⟩⟩, rfl⟩
    rw [d64, a64]
    cases hg : g1 with
    | true =>
      rw [hg, bl1 rfl] at X
      rw [if_pos rfl, bl1 rfl]
      exact ⟨⟨ib 0 (by omega), z01_b01 _, fun _ => X.1, fun y => absurd rfl y⟩, X.2⟩
    | false =>
      rw [hg, bl0 rfl] at X
      rw [if_neg (fun y => by cases y), bl0 rfl]
      exact ⟨⟨ib 0 (by omega), z01_b01 _, (fun y => by cases y), fun _ => X.1⟩, X.2⟩
  have EC : cp_255_0 N1 b ∧ cf_255_0 N1 b = cf_255_20 0 g0 N1 b := by
    rw [cp_255_0, cf_255_0]
    by_cases z : 0 < N1.1 56 13
    · rw [decide_eq_true z] at c13
      rw [if_pos z, c13]
      exact ⟨⟨fun _ => A.1, fun y => absurd z y⟩, rfl⟩
    · rw [decide_eq_false z] at c13
      rw [if_neg z, c13]
      exact ⟨⟨fun y => absurd y z, fun _ => A.1⟩, rfl⟩
  have ER : cp_535_0 N2 ∧ cf_535_0 N2 = cf_535_21 0 (mz_gL N2 305 0) (bL g0) N2 := by
    rw [cp_535_0, cf_535_0]
    by_cases z : 0 < N2.2 232 66
    · rw [decide_eq_true z] at r66
      rw [← r66, bl1 rfl] at R ⊢
      rw [if_pos z]
      exact ⟨⟨fun _ => R.1, fun y => absurd z y⟩, rfl⟩
    · rw [decide_eq_false z] at r66
      rw [← r66, bl0 rfl] at R ⊢
      rw [if_neg z]
      exact ⟨⟨fun y => absurd y z, fun _ => R.1⟩, rfl⟩
  refine ⟨EC.1, ER.1, ww, K1, K2, by rw [EC.2, A.2, o1], by rw [ER.2, R.2, o2], ?_, ?_, o5, o6⟩
  · refine crF_t ?_ o3
    have ff : fq [126] [] N1 _ := fq_trans f0 (fq_trans f1 f2)
    exact ⟨fun c hc => ff.1 c (ct_sub rfl hc), fun f _ => by rw [ff.1 208 rfl], funext fun c => ff.2 c rfl⟩
  · refine crG_t ?_ o4
    have ff : fq [] [305] N2 (mz_wL (mz_wL (mz_wL N2 305 0 (mz_gL N2 305 0 + bL g0)) 305 1 (mz_gL (mz_wL N2 305 0 (mz_gL N2 305 0 + bL g0)) 305 1 + bL g1)) 305 2 (mz_gL (mz_wL (mz_wL N2 305 0 (mz_gL N2 305 0 + bL g0)) 305 1 (mz_gL (mz_wL N2 305 0 (mz_gL N2 305 0 + bL g0)) 305 1 + bL g1)) 305 2 + bL g2)) := fq_wL (fq_wL (fq_wL (fq_refl _ _ _) rfl) rfl) rfl
    exact ⟨fun c hc => ff.1 c rfl, fun f _ _ _ _ _ _ => by rw [ff.1 232 rfl], fun c hc => ff.2 c (ct_sub rfl hc), fun f _ _ _ => by rw [ff.2 232 rfl]⟩
end Wo
