/-! PURE (50zzzy): workers, on both sides. -/
/-- what care's loops want to know -/
def Cok (H : Kp) (x : CrS) : Prop := (∃ tm, tm < 2 ^ 30 ∧ H.2.1 5 0 = nI tm ∧ ∀ i, i < x.oc → tm ≤ x.od i) ∧ (∃ cr, cr < 2 ^ 30 ∧ H.2.1 5 2 = nI cr) ∧ (x.oc ≤ 8) ∧ (∀ i, i < x.oc → x.op i < 3 ∧ x.om i < 100000 ∧ x.od i < 2 ^ 30) ∧ (∀ u, u < 2 → x.vs u ≤ 6 ∧ x.vd u ≤ 6 ∧ (x.vs u = 0 ∨ x.vd u ≤ x.vs u)) ∧ (∀ u, u < 2 → ∀ i, x.vd u ≤ i → i < x.vs u → x.tp u i < 16 ∧ H.1 8 (x.tp u i) = 1) ∧ (∀ u, u < 2 → ∀ i, i < x.vs u → x.tt u i < 2 ^ 30) ∧ (∀ u, u < 2 → x.bk u < 2 ^ 30) ∧ (x.nn ≤ 2000000000)
theorem Cok.tm {H : Kp} {x : CrS} (h : Cok H x) : ∃ tm, tm < 2 ^ 30 ∧ H.2.1 5 0 = nI tm ∧ ∀ i, i < x.oc → tm ≤ x.od i := h.1
theorem Cok.cr {H : Kp} {x : CrS} (h : Cok H x) : ∃ cr, cr < 2 ^ 30 ∧ H.2.1 5 2 = nI cr := h.2.1
theorem Cok.oc {H : Kp} {x : CrS} (h : Cok H x) : x.oc ≤ 8 := h.2.2.1
theorem Cok.od {H : Kp} {x : CrS} (h : Cok H x) : ∀ i, i < x.oc → x.op i < 3 ∧ x.om i < 100000 ∧ x.od i < 2 ^ 30 := h.2.2.2.1
theorem Cok.vs {H : Kp} {x : CrS} (h : Cok H x) : ∀ u, u < 2 → x.vs u ≤ 6 ∧ x.vd u ≤ 6 ∧ (x.vs u = 0 ∨ x.vd u ≤ x.vs u) := h.2.2.2.2.1
theorem Cok.tp {H : Kp} {x : CrS} (h : Cok H x) : ∀ u, u < 2 → ∀ i, x.vd u ≤ i → i < x.vs u → x.tp u i < 16 ∧ H.1 8 (x.tp u i) = 1 := h.2.2.2.2.2.1
theorem Cok.tt {H : Kp} {x : CrS} (h : Cok H x) : ∀ u, u < 2 → ∀ i, i < x.vs u → x.tt u i < 2 ^ 30 := h.2.2.2.2.2.2.1
theorem Cok.bk {H : Kp} {x : CrS} (h : Cok H x) : ∀ u, u < 2 → x.bk u < 2 ^ 30 := h.2.2.2.2.2.2.2.1
theorem Cok.nn {H : Kp} {x : CrS} (h : Cok H x) : x.nn ≤ 2000000000 := h.2.2.2.2.2.2.2.2
/-- a worker's ticket in this minute -/
def vis (H : Kp) (x : CrS) (u : Nat) : Prop := x.vd u < x.vs u ∧ H.2.1 5 0 = nI (x.tt u (x.vd u))
def bac (H : Kp) (x : CrS) (u : Nat) : Prop := 0 < x.vs u ∧ H.2.1 5 0 = nI (x.bk u)
section Wk
variable {Iv : Kp → Kp → CrS → Prop} {Jv : Kp → Prop} {N1 N2 : mz_N} {b : Bool} {B : Nat} {s : st_S} {D H : Kp} {x : CrS} {u : Nat}
/-- the worker may be back, in both -/
theorem bk_ok (hfr : ∀ D H x u, u < 2 → Iv D H x → bac H x u → Iv D H (bkX x u)) (hC : Cok H x) (h : CS B s D H x N1 b N2) (hI : Iv D H x) (hu : u < 2) (h0 : 0 < x.vs u) :
    cp_207_0 (nI u) (N1.1 208 0) N1 ∧ cp_510_168 (nI u) N2 ∧ ∃ M2 x', cf_510_168 (nI u) N2 = (true, M2) ∧ CS B s D H x' (cf_207_0 (nI u) (N1.1 208 0) N1) b M2 ∧ Iv D H x' ∧ crF N1 (cf_207_0 (nI u) (N1.1 208 0) N1) ∧ crG N2 M2 := by
  obtain ⟨tm, t1, t2, _⟩ := hC.tm
  have k9 := h.ks.kc.2.2.2.2.2.2.2.2.2.2.1
  have r9 := h.ks.kr.2.2.2.2.2.2.2.2.2.2.1
  have e1 : N1.1 208 0 = nI tm := by rw [k9.1, t2]
  have e2 : N2.2 232 2 = lN tm := by rw [r9.1, t2, nI_L (by omega)]
  have v6 := hC.vs u hu
  obtain ⟨a1, a2, a3⟩ := bac_c (N := N1) (tm := tm) h.cc hu (by omega) (hC.bk u hu) t1
  obtain ⟨b1', M2, b2, b3, b4⟩ := bac_r (N := N2) (tm := tm) h.cr hu h0 (hC.bk u hu) e2 t1
  rw [e1]
  refine ⟨a1, b1', M2, _, b2, ⟨?_, a2, b3⟩, ?_, ?_, ?_⟩
  · have f1 := fq_fr a3
    have zb : zv (cf_207_0 (nI u) (nI tm) N1) := fun t ht => by
      have y := (a2.vs t ht).2
      by_cases w : 0 < x.vs u ∧ x.bk u = tm
      · rw [if_pos w] at y
        have y' : (cf_207_0 (nI u) (nI tm) N1).1 134 t = nI (up x.vd u 0 t) := y
        refine ⟨_, ?_, y'⟩
        rw [up_d]; split
        · omega
        · exact (hC.vs t ht).2.1
      · rw [if_neg w] at y
        exact ⟨_, (hC.vs t ht).2.1, y⟩
    exact ⟨h.ks.ok, st_cF h.ks.c (a3.1 221 rfl) (a3.1 222 rfl) (a3.1 223 rfl) (a3.1 224 rfl) (fun f _ _ => by rw [a3.1 219 rfl]), st_rF h.ks.r (b4.1 329 rfl) (b4.1 330 rfl) (b4.1 331 rfl) (fun f _ => by rw [b4.1 232 rfl]) (by rw [b4.2 232 rfl]), ckp_q h.ks.kc f1 rfl rfl, rkp_q h.ks.kr b4 rfl rfl (by rw [b4.1 232 rfl]) (by rw [b4.1 232 rfl]) (fun f _ => by rw [b4.2 232 rfl]), h.ks.hb, zb⟩
  · by_cases w : 0 < x.vs u ∧ x.bk u = tm
    · rw [if_pos w]; exact hfr D H x u hu hI ⟨w.1, by rw [t2, w.2]⟩
    · rw [if_neg w]; exact hI
  · exact ⟨fun c hc => a3.1 c (ct_sub rfl hc), fun f _ => by rw [a3.1 208 rfl], a3.2⟩
  · exact ⟨fun c _ => b4.1 c rfl, fun f _ _ _ _ _ _ => by rw [b4.1 232 rfl], fun c hc => b4.2 c (ct_sub rfl hc), fun f _ _ _ => by rw [b4.2 232 rfl]⟩
theorem work_ok (hB : B + 1 < 2 ^ 30) (hvi : ∀ D H x u, u < 2 → Iv D H x → vis H x u → Iv (DG (gkl (viK H (x.tp u (x.vd u)))) D (viH H (x.tp u (x.vd u))) (viK H (x.tp u (x.vd u))).length) (viH H (x.tp u (x.vd u))) (viX x u)) (hfr : ∀ D H x u, u < 2 → Iv D H x → bac H x u → Iv D H (bkX x u)) (hJ : ∀ D H x, Iv D H x → Jv D) (hCk : ∀ D H x, Iv D H x → Cok H x) (h : CS B s D H x N1 b N2) (hI : Iv D H x) (hu : u < 2) :
    cd_201_84 b (nI u, N1) ∧ cp_510_0 (nI u) N2 ∧ ∃ w K1 K2, cf_510_0 (nI u) N2 = (w, K2) ∧ cq_201_84 b (nI u, N1) = (if w = true then .inl (nI (u + 1), K1) else .inr (false, K1)) ∧ crF N1 K1 ∧ crG N2 K2 ∧ (w = true → ∃ B' s' D' H' x', B' ≤ B + 1 ∧ CS B' s' D' H' x' K1 b K2 ∧ Iv D' H' x') ∧ (w = false → ∃ D', Dwn (B + 1) D' K1 K2 ∧ Jv D') := by
  have hC := hCk D H x hI
  obtain ⟨tm, t1, t2, _⟩ := hC.tm
  obtain ⟨cr, c1, c2⟩ := hC.cr
  have clu : (nI u).toNatClampNeg = u := nI_clamp (by omega)
  have l2 : nI u < 2 := (nI_ltI (b := 2) (by omega) (by omega)).mpr hu
  have ibu : mz_ib (nI u) 2 := ib_n hu (by omega)
  have k9 := h.ks.kc.2.2.2.2.2.2.2.2.2.2.1
  have r9 := h.ks.kr.2.2.2.2.2.2.2.2.2.2.1
  have e1 : N1.1 208 0 = nI tm := by rw [k9.1, t2]
  have e2 : N2.2 232 2 = lN tm := by rw [r9.1, t2, nI_L (by omega)]
  have v6 := hC.vs u hu
  have g133 : mz_gI N1 133 (nI u) = nI (x.vs u) := by rw [gI_a, clu]; exact (h.cc.vs u hu).1
  have g134 : mz_gI N1 134 (nI u) = nI (x.vd u) := by rw [gI_a, clu]; exact (h.cc.vs u hu).2
  rw [cd_201_84, cq_201_84]
  simp only [l2, if_true]
  by_cases h0 : 0 < x.vs u
  · obtain ⟨r1, r2, r3⟩ := h.cr.vs u hu h0
    have g298 : mz_gL N2 298 (nI u) = lN (x.bk u) := by rw [gL_a, clu]; exact r3
    have n298 : ¬ lN (x.bk u) < 0 := fun z => by
      rw [show (0 : Int64) = lN 0 from rfl, lN_lt64 (by have := hC.bk u hu; omega) (by omega)] at z
      omega
    have g296 : mz_gI N2 296 (nI u) = nI (x.vs u) := by rw [gI_a, clu]; exact r1
    have g297 : mz_gI N2 297 (nI u) = nI (x.vd u) := by rw [gI_a, clu]; exact r2
    -- nothing to visit
    have ib6 : x.vd u < x.vs u → mz_ib (nI (x.vd u)) 6 := fun z => ib_n (by omega) (by omega)
    have g139 : x.vd u < x.vs u → mz_gI N1 (139 + u) (nI (x.vd u)) = nI (x.tt u (x.vd u)) := fun z => by rw [gI_a, nI_clamp (by omega)]; exact (h.cc.tp u hu _ z).2
    have g295 : x.vd u < x.vs u → mz_gL N2 295 (6 * nI u + nI (x.vd u)) = lN (x.tt u (x.vd u)) := fun z => by
      rw [gL_a, show (6 : Int32) = nI 6 from rfl, pk_mul, nI_add, nI_clamp (by omega)]; exact (h.cr.tp u hu _ z).2
    have ib12 : x.vd u < x.vs u → mz_ib (6 * nI u + nI (x.vd u)) 12 := fun z => by
      rw [show (6 : Int32) = nI 6 from rfl, pk_mul, nI_add]; exact ib_n (by omega) (by omega)
    have NV : ¬ vis H x u → (cp_204_0 (nI u) (N1.1 208 0) N1 ∧ (cp_510_168 (nI u) N2 → cp_510_0 (nI u) N2) ∧ cf_510_0 (nI u) N2 = cf_510_168 (nI u) N2 ∧ cf_204_0 (nI u) (N1.1 208 0) N1 = -1) := fun hn => by
      rw [cp_204_0, cf_204_0, cp_510_0, cf_510_0, g133, g134, g298, g296, g297, if_neg n298, clu, e1, e2]
      by_cases w : x.vd u < x.vs u
      · have w' : nI (x.vd u) < nI (x.vs u) := (nI_ltI (by omega) (by omega)).mpr w
        have nt : x.tt u (x.vd u) ≠ tm := fun z => hn ⟨w, by rw [t2, z]⟩
        have tb := hC.tt u hu _ w
        have n1 : ¬ nI (x.tt u (x.vd u)) = nI tm := fun z => nt ((nI_eq (by omega) (by omega)).mp z)
        have n2 : ¬ lN (x.tt u (x.vd u)) = lN tm := fun z => nt ((lN_e (by omega) (by omega)).mp z)
        rw [if_pos w', g139 w, if_neg n1, if_pos w', g295 w, if_neg n2]
        exact ⟨⟨ibu, ibu, fun _ => ⟨ibu, ib6 w, fun z => absurd z n1, fun _ => trivial⟩, fun z => absurd w' z⟩, fun hq => ⟨ibu, fun z => absurd z n298, fun _ => ⟨ibu, ibu, fun _ => ⟨ibu, ib12 w, fun z => absurd z n2, fun _ => hq⟩, fun z => absurd w' z⟩⟩, rfl, rfl⟩
      · have w' : ¬ nI (x.vd u) < nI (x.vs u) := fun z => w ((nI_ltI (by omega) (by omega)).mp z)
        rw [if_neg w', if_neg w']
        exact ⟨⟨ibu, ibu, fun z => absurd z w', fun _ => trivial⟩, fun hq => ⟨ibu, fun z => absurd z n298, fun _ => ⟨ibu, ibu, fun z => absurd z w', fun _ => hq⟩⟩, rfl, rfl⟩
    by_cases hv : vis H x u
    · obtain ⟨w, wt⟩ := hv
      have w' : nI (x.vd u) < nI (x.vs u) := (nI_ltI (by omega) (by omega)).mpr w
      have tb := hC.tt u hu _ w
      have et : x.tt u (x.vd u) = tm := by rw [t2] at wt; exact ((nI_eq (by omega) (by omega)).mp wt).symm
      obtain ⟨hp, hp8⟩ := hC.tp u hu _ (Nat.le_refl _) w
      have hIv := hvi D H x u hu hI ⟨w, wt⟩
      have g136 : mz_gI N1 (136 + u) (nI (x.vd u)) = nI (x.tp u (x.vd u)) := by rw [gI_a, nI_clamp (by omega)]; exact (h.cc.tp u hu _ w).1
      have g294 : mz_gI N2 294 (6 * nI u + nI (x.vd u)) = nI (x.tp u (x.vd u)) := by
        rw [gI_a, show (6 : Int32) = nI 6 from rfl, pk_mul, nI_add, nI_clamp (by omega)]; exact (h.cr.tp u hu _ w).1
      have n4 : cf_204_0 (nI u) (N1.1 208 0) N1 = nI (x.tp u (x.vd u)) := by rw [cf_204_0, g133, g134, if_pos w', clu, g139 w, e1, et, if_pos rfl, g136]
      have n5 : cp_204_0 (nI u) (N1.1 208 0) N1 := by rw [cp_204_0, g133, g134, clu]; exact ⟨ibu, ibu, fun _ => ⟨ibu, ib6 w, fun _ => ⟨ibu, ib6 w⟩, fun _ => trivial⟩, fun z => absurd w' z⟩
      rw [n4, cp_510_0, cf_510_0, g298, g296, g297, if_neg n298, if_pos w', g295 w, e2, et, if_pos rfl, g294, nI_1]
      generalize hpe : x.tp u (x.vd u) = p at hp hp8 hIv n4 ⊢
      have nm : ¬ nI p = -1 := fun z => (nI_m1 (by omega)).mp z
      have clp : (nI p).toNatClampNeg = p := nI_clamp (by omega)
      have ibp : mz_ib (nI p) 16 := ib_n hp (by omega)
      have b11 : H.1 11 p < 256 := (h.ks.hb.2.2.2.2.2.2.2.2.2.2.1 p).2.2
      have g290 : mz_gI N2 290 (nI p) = nI (H.1 11 p) := by rw [gI_a, clp]; exact ((h.ks.kr.2.2.2.2.2.2.2.2.2.2.2.2.2.1 p hp).2 hp8).2.2.1
      rw [if_neg nm, g290, show (mz_wI (mz_wI N2 297 (nI u) (nI (x.vd u + 1))) 287 (nI p) (mz_b01 false)).2 232 125 = N2.2 232 125 from rfl]
      obtain ⟨X, x1, x2, x3, x4, x5, x6, x7⟩ := fin_r (p := p) (cr := cr) h.ks.kr h.cr h.ks.r h.ks.hb hu hp hp8 c2 c1 h0 (A := mz_pL (mz_wI (mz_wI N2 297 (nI u) (nI (x.vd u + 1))) 287 (nI p) (mz_b01 false)) 232 125 (N2.2 232 125 + 500)) rfl
      rw [x1]
      obtain ⟨y1, y2, y3, y4, y5, y6⟩ := fin_c (u := u) (p := p) h.ks.kc h.cc h.ks.hb hu hp hp8 (by omega)
      rw [cp_205_0, cf_205_0, y2]
      have z1 : st_c (cf_206_0 (nI u) (nI p) N1) s := st_cF h.ks.c (y5.1 221 rfl) (y5.1 222 rfl) (y5.1 223 rfl) (y5.1 224 rfl) (fun f _ _ => by rw [y5.1 219 rfl])
      have F1 : crF N1 (cf_206_0 (nI u) (nI p) N1) := ⟨fun c hc => y5.1 c (ct_sub rfl hc), y6, funext fun c => y5.2 c rfl⟩
      have zM : zv (cf_206_0 (nI u) (nI p) N1) := fun t ht => by
        have y : (cf_206_0 (nI u) (nI p) N1).1 134 t = nI (up x.vd u (x.vd u + 1) t) := (y4.vs t ht).2
        refine ⟨_, ?_, y⟩
        rw [up_d]; split
        · omega
        · exact (hC.vs t ht).2.1
      generalize cf_206_0 (nI u) (nI p) N1 = M1 at y3 y4 z1 F1 zM ⊢
      -- the keys on the class's side
      have JC : ∃ Y, (if nI (H.1 11 p) < 3 then cf_205_57 (nI p) (cf_119_0 11 (nI (H.1 11 p)) (cf_119_0 9 0 (cf_117_0 M1))) b else cf_205_57 (nI p) (cf_119_0 9 0 (cf_117_0 M1)) b) = cf_205_57 (nI p) Y b ∧ (cp_205_57 (nI p) Y b → (cp_119_0 9 0 (cf_117_0 M1) ∧ ((nI (H.1 11 p) < 3 → cp_119_0 11 (nI (H.1 11 p)) (cf_119_0 9 0 (cf_117_0 M1)) ∧ cp_205_57 (nI p) (cf_119_0 11 (nI (H.1 11 p)) (cf_119_0 9 0 (cf_117_0 M1))) b) ∧ (¬ nI (H.1 11 p) < 3 → cp_205_57 (nI p) (cf_119_0 9 0 (cf_117_0 M1)) b)))) ∧ st_c Y s ∧ gr_c Y (gkl (viL H p)) (viL H p).length ∧ cyF M1 Y := by
        obtain ⟨a1, a2, a3⟩ := cj_go z1
        generalize cf_117_0 M1 = P0 at a1 a2 a3 ⊢
        obtain ⟨d1, d2, d3, d4⟩ := cj_add (l := []) (k1 := 9) (k2 := 0) a1 a2 (by omega) (by omega) kyo_9 (by decide)
        rw [show nI 9 = 9 from rfl, show nI 0 = 0 from rfl] at d1 d2 d3 d4
        generalize cf_119_0 9 0 P0 = P1 at d2 d3 d4 ⊢
        by_cases q3 : H.1 11 p < 3
        · have q3' : nI (H.1 11 p) < 3 := (nI_ltI (b := 3) (by omega) (by omega)).mpr q3
          have el : viL H p = [(11, H.1 11 p), (9, 0)] := if_pos q3
          obtain ⟨f1, f2, f3, f4⟩ := cj_add (l := [(9, 0)]) (k1 := 11) (k2 := H.1 11 p) d2 d3 (by omega) (by omega) (kyo_11 _ q3) (show 1 < 16 by omega)
          rw [show nI 11 = 11 from rfl] at f1 f2 f3 f4
          rw [if_pos q3', el]
          exact ⟨_, rfl, fun hY => ⟨d1, fun _ => ⟨f1, hY⟩, fun z => absurd q3' z⟩, f2, f3, cyF_t a3 (cyF_t d4 f4)⟩
        · have q3' : ¬ nI (H.1 11 p) < 3 := fun z => q3 ((nI_ltI (b := 3) (by omega) (by omega)).mp z)
          have el : viL H p = [(9, 0)] := if_neg q3
          rw [if_neg q3', el]
          exact ⟨_, rfl, fun hY => ⟨d1, fun z => absurd z q3', fun _ => hY⟩, d2, d3, cyF_t a3 d4⟩
      obtain ⟨Y, j1, j2, j3, j4, j5⟩ := JC
      rw [j1]
      have lK : (viL H p).length ≤ 2 := by unfold viL; split <;> simp only [List.length_cons, List.length_nil] <;> omega
      obtain ⟨d1, d2, d3, d4⟩ := cj_add (l := viL H p) (k1 := 12) (k2 := p) j3 j4 (by omega) (by omega) (kyo_12 _ hp) (by omega)
      obtain ⟨f1, f2, f3, f4⟩ := rj_add (l := viL H p) (k1 := 12) (k2 := p) x5 x6 (by omega) (by omega) (kyo_12 _ hp) (by omega)
      rw [show nI 12 = 12 from rfl] at d1 d2 d3 d4 f1 f2 f3 f4
      have hks : KS B s D (viH H p) (cf_119_0 12 (nI p) Y) b (cf_472_0 12 (nI p) X) := ⟨h.ks.ok, d2, f2, cyF_k (cyF_t j5 d4) y3, ryF_k f4 x3, viH_b h.ks.hb, zv_f zM ((cyF_t j5 d4).1 134 rfl)⟩
      have ha : gka (viK H p) := by
        unfold viK viL
        refine gka_c (by omega) (by omega) (kyo_12 _ hp) ?_
        by_cases q3 : H.1 11 p < 3
        · rw [if_pos q3]; exact gka_c (by omega) (by omega) (kyo_11 _ q3) (gka_c (by omega) (by omega) kyo_9 gka_n)
        · rw [if_neg q3]; exact gka_c (by omega) (by omega) kyo_9 gka_n
      have hle : ∀ k, k ∈ viL H p → k.1 = 11 ∨ k.1 = 9 := by
        unfold viL
        by_cases q3 : H.1 11 p < 3
        · rw [if_pos q3]; exact al_c (Or.inl rfl) (al_c (Or.inr rfl) al_n)
        · rw [if_neg q3]; exact al_c (Or.inr rfl) al_n
      have e8 : (viH H p).1 8 p = 0 := by rw [viH_8, up_d, if_pos rfl]
      obtain ⟨o1, o2, ww, K1, K2, o3, o4, o5, o6, o7, o8⟩ := wr2 (l := viK H p) hB hks d3 f3 ha (by show (viL H p).length + 1 ≤ 16; omega) (al_c (kxt_n (Nat.le_refl _)) (fun k hk => kxt_n (by have := hle k hk; omega))) (al_c (show kpl (viH H p) 12 p from ⟨(fun z => absurd z (by decide)), (fun z => absurd z (by decide)), fun _ z => by rw [e8] at z; cases z⟩) (fun k hk => kpl_n (by have := hle k hk; omega) (by have := hle k hk; omega) (by have := hle k hk; omega))) (gtx_n ha (al_c (show (12 : Nat) ≠ 6 by omega) (fun k hk => by have := hle k hk; omega)))
      have PY : cp_205_57 (nI p) Y b := ⟨d1, o1⟩
      rw [cf_205_57, o3, cf_510_152, o4]
      have F2 : crF N1 K1 := crF_t F1 (crF_t (crF_y (cyF_t j5 d4)) (crF_y o5))
      have G2 : crG N2 K2 := crG_t x7 (crG_t (crG_y f4) (crG_y o6))
      cases ww with
      | true =>
        obtain ⟨s', k1⟩ := o7 rfl
        have h2 : CS (B + 1) s' (DG (gkl (viK H p)) D (viH H p) (viK H p).length) (viH H p) (viX x u) K1 b K2 := ⟨k1, crc_y (cyF_t j5 (cyF_t d4 o5)) y4, crr_y (ryF_t f4 o6) x4⟩
        have hC2 := hCk _ _ _ hIv
        obtain ⟨q1, q2, M2, x', q3, q4, q5, q6, q7⟩ := bk_ok (u := u) hfr hC2 h2 hIv hu h0
        rw [if_pos rfl, if_pos rfl, cf_201_121, nI_1, q3]
        refine ⟨⟨fun _ => ⟨n5, fun z => absurd z nm, fun _ => ⟨⟨ibp, y1, j2 PY⟩, fun _ => q1, fun z => absurd rfl z⟩⟩, fun z => absurd trivial z⟩, ⟨ibu, fun z => absurd z n298, fun _ => ⟨ibu, ibu, fun _ => ⟨ibu, ib12 w, fun _ => ⟨ibu, ib12 w, ibp, ibu, ibu, ibp, x2 ?_⟩, fun z => absurd rfl z⟩, fun z => absurd w' z⟩⟩, true, _, M2, rfl, by rw [if_pos rfl], crF_t F2 q6, crG_t G2 q7, fun _ => ⟨B + 1, s', _, _, x', Nat.le_refl _, q4, q5⟩, (fun z => by cases z)⟩
        rw [cp_510_152, o4]
        exact ⟨f1, o2, fun _ => q2, fun z => absurd rfl z⟩
      | false =>
        have nf : ¬ (false = true) := fun z => by cases z
        rw [if_neg nf, if_neg nf]
        refine ⟨⟨fun _ => ⟨n5, fun z => absurd z nm, fun _ => ⟨⟨ibp, y1, j2 PY⟩, fun z => absurd z nf, fun _ => trivial⟩⟩, fun z => absurd trivial z⟩, ⟨ibu, fun z => absurd z n298, fun _ => ⟨ibu, ibu, fun _ => ⟨ibu, ib12 w, fun _ => ⟨ibu, ib12 w, ibp, ibu, ibu, ibp, x2 ?_⟩, fun z => absurd rfl z⟩, fun z => absurd w' z⟩⟩, false, K1, K2, rfl, by rw [if_neg nf], F2, G2, fun z => absurd z nf, fun _ => ⟨D, o8 rfl, hJ _ _ _ hI⟩⟩
        rw [cp_510_152, o4]
        exact ⟨f1, o2, fun z => absurd z nf, fun _ => trivial⟩
    · obtain ⟨n1, n2, n3, n4⟩ := NV hv
      obtain ⟨q1, q2, M2, x', q3, q4, q5, q6, q7⟩ := bk_ok hfr hC h hI hu h0
      rw [n3, n4, if_pos rfl, cf_201_121, nI_1]
      exact ⟨⟨fun _ => ⟨n1, fun _ => q1, fun z => absurd rfl z⟩, fun z => absurd trivial z⟩, n2 q2, true, _, M2, q3, by rw [if_pos rfl], q6, q7, fun _ => ⟨B, s, D, H, x', by omega, q4, q5⟩, (fun z => by cases z)⟩
  · have e0 : x.vs u = 0 := by omega
    have n0 : ¬ nI (x.vd u) < nI 0 := fun z => absurd ((nI_ltI (by omega) (by omega)).mp z) (Nat.not_lt_zero _)
    have n00 : ¬ (0 : Int32) < nI 0 := by decide
    have g298 : mz_gL N2 298 (nI u) = -1 := by rw [gL_a, clu]; exact h.cr.fr u hu e0
    have m1 : (-1 : Int64) < 0 := by decide
    have n4 : cf_204_0 (nI u) (N1.1 208 0) N1 = -1 := by rw [cf_204_0, g133, g134, e0, if_neg n0]
    have n5 : cp_204_0 (nI u) (N1.1 208 0) N1 := by rw [cp_204_0, g133, g134, e0]; exact ⟨ibu, ibu, fun z => absurd z n0, fun _ => trivial⟩
    have n6 : cf_207_0 (nI u) (N1.1 208 0) N1 = N1 := by rw [cf_207_0, g133, e0, if_neg n00]
    have n7 : cp_207_0 (nI u) (N1.1 208 0) N1 := by rw [cp_207_0, g133, e0]; exact ⟨ibu, fun z => absurd z n00, fun _ => trivial⟩
    rw [n4, if_pos rfl, cf_201_121, n6, nI_1, cp_510_0, cf_510_0, g298, if_pos m1]
    exact ⟨⟨fun _ => ⟨n5, fun _ => n7, fun z => absurd rfl z⟩, fun z => absurd trivial z⟩, ⟨ibu, fun _ => trivial, fun z => absurd m1 z⟩, true, N1, N2, rfl, by rw [if_pos rfl], crF_r _, crG_r _, fun _ => ⟨B, s, D, H, x, by omega, h, hI⟩, (fun z => by cases z)⟩
end Wk
