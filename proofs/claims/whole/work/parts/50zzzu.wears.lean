/-! PURE (50zzzu): the parts of a minute wear, on both sides. -/
def wr1 (g : Bool) (v : Nat) (H : Kp) : Kp := if g = true then kI H 8 v (H.2.1 8 v + 1) else H
def bL (g : Bool) : Int64 := if g = true then 1 else 0
theorem wr1_t {v : Nat} {H : Kp} : wr1 true v H = kI H 8 v (H.2.1 8 v + 1) := if_pos rfl
theorem wr1_f {v : Nat} {H : Kp} : wr1 false v H = H := if_neg (fun z => by cases z)
section Ww
variable {Iv : Kp → Kp → CrS → Prop} {Jv : Kp → Prop} {N1 N2 : mz_N} {b : Bool} {B : Nat} {s : st_S} {D H : Kp} {x : CrS} {v : Nat}
theorem inc_ok {g : Bool} {w : Nat} (h : CS B s D H x N1 b N2) (hv : v < 3) (hw : H.2.1 8 v = nI w) (hw2 : w < 2 ^ 30) : cp_256_0 (nI v) g N1 ∧ CS B s D (wr1 g v H) x (cf_256_0 (nI v) g N1) b (mz_wL N2 305 (nI v) (mz_gL N2 305 (nI v) + bL g)) ∧ fq [126] [] N1 (cf_256_0 (nI v) g N1) := by
  have cl : (nI v).toNatClampNeg = v := nI_clamp (by omega)
  have ib : mz_ib (nI v) 3 := ib_n hv (by omega)
  have k11 := h.ks.kc.2.2.2.2.2.2.2.2.2.2.2.2.1
  have r11 := h.ks.kr.2.2.2.2.2.2.2.2.2.2.2.2.1
  have gl : mz_gL N2 305 (nI v) = (nI w).toInt64 := by rw [gL_a, cl, (r11 v hv).2.1, hw]
  have f2 : fq [] [305] N2 (mz_wL N2 305 (nI v) (mz_gL N2 305 (nI v) + bL g)) := fq_wL (fq_refl _ _ _) rfl
  have R : ∀ {G : Kp}, (∀ f, G.1 f = H.1 f) → (∀ f, f ≠ 8 → G.2.1 f = H.2.1 f) → (∀ f, G.2.2 f = H.2.2 f) → (∀ j, j < 3 → (if j = v then (nI w).toInt64 + bL g else (H.2.1 8 j).toInt64) = (G.2.1 8 j).toInt64) → r_kp (mz_wL N2 305 (nI v) (mz_gL N2 305 (nI v) + bL g)) G := fun {G} e1 e2 e3 e4 => by
    refine rkp_11 h.ks.kr f2 rfl rfl (by rw [f2.1 232 rfl]) (by rw [f2.1 232 rfl]) (fun f _ => by rw [f2.2 232 rfl]) (fun f _ => e1 f) (fun f _ n8 _ => e2 f n8) e3 (fun j hj => ?_)
    obtain ⟨a1, a2, a3, a4⟩ := r11 j hj
    rw [f2.1 250 rfl, f2.1 306 rfl, f2.1 307 rfl, e1 7, e2 7 (by decide), e2 9 (by decide), ← e4 j hj, gl, wL_s, sL_e, cl, upL_a]
    refine ⟨a1, ?_, a3, a4⟩
    by_cases z : j = v
    · rw [if_pos z, if_pos z]
    · rw [if_neg z, if_neg z]; exact a2
  have rr : ∀ {G : Kp}, G.1 8 = H.1 8 → crR (mz_wL N2 305 (nI v) (mz_gL N2 305 (nI v) + bL g)) G x := fun {G} e8 => by
    obtain ⟨c1, c2, c3, c4, c5, c6, c7⟩ := h.cr
    exact ⟨by rw [e8]; exact c1, c2, c3, c4, c5, c6, c7⟩
  have sr := st_rF h.ks.r (f2.1 329 rfl) (f2.1 330 rfl) (f2.1 331 rfl) (fun f _ => by rw [f2.1 232 rfl]) (by rw [f2.2 232 rfl])
  rw [cp_256_0, cf_256_0]
  cases g with
  | true =>
    rw [if_pos rfl, wr1_t]
    have e : H.2.1 8 v + 1 = nI (w + 1) := by rw [hw, nI_1]
    have f1 : fq [126] [] N1 (mz_wI N1 126 (nI v) (mz_gI N1 126 (nI v) + 1)) := fq_wI (fq_refl _ _ _) rfl
    refine ⟨⟨fun _ => ⟨ib, ib⟩, fun z => absurd rfl z⟩, ⟨⟨h.ks.ok, st_cF h.ks.c (f1.1 221 rfl) (f1.1 222 rfl) (f1.1 223 rfl) (f1.1 224 rfl) (fun f _ _ => by rw [f1.1 219 rfl]), sr, ?_, ?_, h.ks.hb⟩, ?_, rr rfl⟩, f1⟩
    · refine ckp_11 h.ks.kc f1 rfl rfl (fun _ _ => rfl) (fun f _ n8 _ => kI_1 f n8) (fun _ => rfl) (fun j hj => ?_)
      obtain ⟨a1, a2, a3, a4⟩ := k11 j hj
      rw [f1.1 125 rfl, f1.1 127 rfl, f1.1 128 rfl, wI_s, sI_e, cl]
      refine ⟨a1, ?_, a3, a4⟩
      show upd (N1.1 126) v _ j = up (H.2.1 8) v (H.2.1 8 v + 1) j
      rw [up_a, up_d, gI_a, cl, (k11 v hv).2.1]
      by_cases z : j = v
      · rw [if_pos z, if_pos z]
      · rw [if_neg z, if_neg z]; exact a2
    · refine R (fun _ => rfl) kI_1 (fun _ => rfl) (fun j hj => ?_)
      show _ = (up (H.2.1 8) v (H.2.1 8 v + 1) j).toInt64
      rw [up_d]
      by_cases z : j = v
      · rw [if_pos z, if_pos z, e, nI_L (by omega), nI_L (by omega)]; exact lN_1 _
      · rw [if_neg z, if_neg z]
    · obtain ⟨c1, c2, c3, c4, c5, c6, c7⟩ := h.cc
      refine ⟨c1, c2, c3, c4, c5, fun u hu => ?_, c7⟩
      rcases (show u = 0 ∨ u = 1 by omega) with z | z
      · subst z; exact c6 0 hu
      · subst z; exact c6 1 hu
  | false =>
    have nf : ¬ (false = true) := fun z => by cases z
    rw [if_neg nf, wr1_f]
    refine ⟨⟨fun z => absurd z nf, fun _ => trivial⟩, ⟨⟨h.ks.ok, h.ks.c, sr, h.ks.kc, ?_, h.ks.hb⟩, h.cc, rr rfl⟩, fq_refl _ _ _⟩
    refine R (fun _ => rfl) (fun _ _ => rfl) (fun _ => rfl) (fun j hj => ?_)
    by_cases z : j = v
    · rw [if_pos z, z, hw]; exact Int64.add_zero _
    · rw [if_neg z]
theorem wear_l (hB : B + 3 < 2 ^ 30) (hcl : ∀ D H x v, v < 3 → Iv D H x → H.1 7 v = 0 → Iv (DG (gkl (wfK v H)) D (wfH v H x) (wfK v H).length) (wfH v H x) (wfX H x)) (hnn : ∀ D H x, Iv D H x → x.nn ≤ 2000000000) (hJ : ∀ D H x, Iv D H x → Jv D) (h : CS B s D H x N1 b N2) (hI : Iv D H x) :
    cp_255_55 0 N1 b ∧ cp_535_67 0 N2 ∧ Out Iv Jv (B + 3) b N1 N2 (cf_255_55 0 N1 b) (cf_535_67 0 N2) := by
  rw [cp_255_55, cf_255_55, cp_535_67, cf_535_67]
  refine mz_lp2n (f := cq_255_55 b) (P := cd_255_55 b) (g := cq_535_67) (P2 := cd_535_67) (Q := fun r1 r2 => Out Iv Jv (B + 3) b N1 N2 r1 r2) 3 (fun k s1 s2 => ∃ M1 M2, s1 = (nI k, M1) ∧ s2 = (nI k, M2) ∧ crF N1 M1 ∧ crG N2 M2 ∧ ∃ B' s' D' H' x', B' ≤ B + k ∧ CS B' s' D' H' x' M1 b M2 ∧ Iv D' H' x') ?_ ?_ (Nat.zero_le _) ⟨N1, N2, rfl, rfl, crF_r _, crG_r _, B, s, D, H, x, Nat.le_refl _, h, hI⟩
  · rintro k s1 s2 hk ⟨M1, M2, rfl, rfl, F1, G1, B', s', D', H', x', hB', h', hI'⟩
    have l3 : nI k < 3 := (nI_ltI (b := 3) (by omega) (by omega)).mpr hk
    have cl : (nI k).toNatClampNeg = k := nI_clamp (by omega)
    have ib : mz_ib (nI k) 3 := ib_n hk (by omega)
    have b7 : H'.1 7 k ≤ 1 := h'.ks.hb.2.2.2.2.2.2.2.2.1 k
    obtain ⟨a1, a2, a3, a4⟩ := h'.ks.kc.2.2.2.2.2.2.2.2.2.2.2.2.1 k hk
    obtain ⟨b1', b2, b3, b4⟩ := h'.ks.kr.2.2.2.2.2.2.2.2.2.2.2.2.1 k hk
    have g128 : mz_gI M1 128 (nI k) = nI (H'.1 7 k) := by rw [gI_a, cl]; exact a4
    have g307 : mz_gI M2 307 (nI k) = nI (H'.1 7 k) := by rw [gI_a, cl]; exact b4
    have g126 : mz_gI M1 126 (nI k) = H'.2.1 8 k := by rw [gI_a, cl]; exact a2
    have g125 : mz_gI M1 125 (nI k) = H'.2.1 7 k := by rw [gI_a, cl]; exact a1
    have g305 : mz_gL M2 305 (nI k) = (H'.2.1 8 k).toInt64 := by rw [gL_a, cl]; exact b2
    have g250 : mz_gI M2 250 (nI k) = H'.2.1 7 k := by rw [gI_a, cl]; exact b1'
    have go : ∀ {z : Prop}, (∃ M1' M2', (nI k + 1, M1) = (nI (k + 1), M1') ∧ (nI k + 1, M2) = (nI (k + 1), M2') ∧ crF N1 M1' ∧ crG N2 M2' ∧ ∃ B' s' D' H' x', B' ≤ B + (k + 1) ∧ CS B' s' D' H' x' M1' b M2' ∧ Iv D' H' x') := fun {z} => ⟨M1, M2, by rw [nI_1], by rw [nI_1], F1, G1, B', s', D', H', x', by omega, h', hI'⟩
    rw [cd_255_55, cq_255_55, cd_535_67, cq_535_67]
    simp only [l3, if_true]
    by_cases e7 : H'.1 7 k = 0
    · have n1 : cf_257_0 (nI k) M1 = decide (¬ H'.2.1 8 k < H'.2.1 7 k) := by
        rw [cf_257_0, cf_224_0, g128, e7, if_pos (show nI 0 = 0 from rfl), if_pos rfl, g126, g125]
        by_cases z : H'.2.1 8 k < H'.2.1 7 k
        · rw [if_pos z, decide_eq_false (fun y => y z)]
        · rw [if_neg z, decide_eq_true z]
      have n1p : cp_257_0 (nI k) M1 := ⟨ib, fun _ => ⟨ib, ib⟩, fun _ => trivial⟩
      have n2 : ¬ mz_gZ M2 307 (nI k) = true := by rw [gZ_a, cl, b4, e7]; decide
      have zz : mz_z01 (mz_gI M2 307 (nI k)) := by rw [g307]; exact z01_n b7
      rw [n1, if_neg n2, g305, g250]
      by_cases z : H'.2.1 8 k < H'.2.1 7 k
      · rw [decide_eq_false (fun y => y z), if_neg (fun y => by cases y), if_pos ((l64_lt _ _).mpr z), cf_255_81, cf_535_144]
        exact ⟨⟨fun _ => ⟨n1p, (fun y => by cases y), fun _ => trivial⟩, fun y => absurd trivial y⟩, ⟨fun _ => ⟨ib, zz, fun y => absurd y n2, fun _ => ⟨ib, ib, fun _ => trivial, fun y => absurd ((l64_lt _ _).mpr z) y⟩⟩, fun y => absurd trivial y⟩, Or.inl ⟨_, _, rfl, rfl, go (z := True)⟩⟩
      · have z2 : ¬ (H'.2.1 8 k).toInt64 < (H'.2.1 7 k).toInt64 := fun y => z ((l64_lt _ _).mp y)
        obtain ⟨p1, ⟨p2, p2'⟩, G, p3, p4, p5, ww, K1, K2, o1, o2, o3, o4, o5, o6⟩ := fail_ok (Iv := Iv) (Jv := Jv) (show B' + 1 < 2 ^ 30 by omega) hk h' (hnn _ _ _ hI') (hcl _ _ _ k hk hI' e7) (hJ _ _ _ hI')
        rw [decide_eq_true z, if_pos rfl, if_neg z2, p4, cf_535_135, o1, o2]
        have pp : cp_535_135 (nI k) G := by
          rw [cp_535_135]
          exact ⟨p5, fun _ => trivial, fun _ => trivial⟩
        have P1 : (nI k < 3 → _) := fun (_ : nI k < 3) => (⟨n1p, fun _ => ⟨p1, fun _ => trivial, fun _ => trivial⟩, fun y => absurd rfl y⟩ : cp_257_0 (nI k) M1 ∧ (true = true → cp_258_0 (nI k) M1 b ∧ ((ww, K1).1 = true → cp_255_81 (nI k) (ww, K1).2 b) ∧ (¬ (ww, K1).1 = true → True)) ∧ (¬ true = true → cp_255_81 (nI k) M1 b))
        refine ⟨⟨fun _ => P1 l3, fun y => absurd trivial y⟩, ⟨fun _ => ⟨ib, zz, fun y => absurd y n2, fun _ => ⟨ib, ib, fun y => absurd y z2, fun _ => ⟨ib, p2, p2', p3 pp⟩⟩⟩, fun y => absurd trivial y⟩, ?_⟩
        cases ww with
        | true =>
          obtain ⟨B2, s2, D2, H2, x2, i1, i2, i3⟩ := o5 rfl
          rw [if_pos rfl, if_pos rfl, cf_255_81, cf_535_144]
          exact Or.inl ⟨_, _, rfl, rfl, K1, K2, by rw [nI_1], by rw [nI_1], crF_t F1 o3, crG_t G1 o4, B2, s2, D2, H2, x2, by omega, i2, i3⟩
        | false =>
          obtain ⟨D2, i1, i2⟩ := o6 rfl
          rw [if_neg (fun y => by cases y), if_neg (fun y => by cases y)]
          exact Or.inr ⟨_, _, rfl, rfl, false, K1, K2, rfl, rfl, crF_t F1 o3, crG_t G1 o4, (fun y => by cases y), fun _ => ⟨D2, Dwn_m (by omega) i1, i2⟩⟩
    · have e71 : H'.1 7 k = 1 := by omega
      have n0 : ¬ nI 1 = 0 := by decide
      have n1 : cf_257_0 (nI k) M1 = false := by rw [cf_257_0, cf_224_0, g128, e71, if_neg n0, if_neg (fun y => by cases y)]
      have n1p : cp_257_0 (nI k) M1 := ⟨ib, fun _ => ⟨ib, ib⟩, fun _ => trivial⟩
      have n2 : mz_gZ M2 307 (nI k) = true := by rw [gZ_a, cl, b4, e71]; rfl
      have zz : mz_z01 (mz_gI M2 307 (nI k)) := by rw [g307]; exact z01_n b7
      rw [n1, if_neg (fun y => by cases y), if_pos n2, cf_255_81, cf_535_144]
      exact ⟨⟨fun _ => ⟨n1p, (fun y => by cases y), fun _ => trivial⟩, fun y => absurd trivial y⟩, ⟨fun _ => ⟨ib, zz, fun _ => trivial, fun y => absurd n2 y⟩, fun y => absurd trivial y⟩, Or.inl ⟨_, _, rfl, rfl, go (z := True)⟩⟩
  · rintro s1 s2 ⟨M1, M2, rfl, rfl, F1, G1, B', s', D', H', x', hB', h', hI'⟩
    have l3 : ¬ nI 3 < 3 := by decide
    rw [cd_255_55, cq_255_55, cd_535_67, cq_535_67]
    simp only [l3, if_false]
    exact ⟨⟨False.elim, fun _ => trivial⟩, ⟨False.elim, fun _ => trivial⟩, _, _, rfl, rfl, true, M1, M2, rfl, rfl, F1, G1, fun _ => ⟨B', s', D', H', x', hB', h', hI'⟩, (fun y => by cases y)⟩
end Ww
