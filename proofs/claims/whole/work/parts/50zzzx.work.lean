/-! PURE (50zzzx): a worker's minute, on both sides. -/
section Fi
variable {N : mz_N} {b : Bool} {H : Kp} {x : CrS} {p q u tm cr : Nat}
theorem viH_8 : (viH H p).1 8 = up (H.1 8) p 0 := by
  unfold viH
  split
  · rfl
  · rfl
theorem viH_b (h : kpb H) : kpb (viH H p) := by
  unfold viH
  split
  · exact vi1_b (vi0_b h)
  · exact vi0_b h
theorem crC_v {M : mz_N} (hc : crC N H x) (hu : u < 2) (f : fq [123, 126, 127, 128, 134, 208] [] N M) (h1 : M.1 134 = upd (N.1 134) u (nI (x.vd u + 1))) : crC M (viH H p) (viX x u) := by
  obtain ⟨c1, c2, c3, c4, c5, c6, c7⟩ := hc
  refine ⟨fun j hj => ?_, by rw [f.1 115 rfl]; exact c2, by rw [f.1 115 rfl]; exact c3, by rw [f.1 130 rfl, f.1 131 rfl, f.1 132 rfl]; exact c4, fun t ht => ?_, fun t ht i hi => ?_, by rw [f.1 141 rfl]; exact c7⟩
  · rw [viH_8, up_d, f.1 122 rfl]
    by_cases w : j = p
    · rw [if_pos w]; intro z; cases z
    · rw [if_neg w]; exact c1 j hj
  · rw [f.1 133 rfl, h1]
    show _ ∧ upd _ u _ t = nI (up x.vd u (x.vd u + 1) t)
    rw [up_a, up_d]
    by_cases w : t = u
    · rw [if_pos w, if_pos w]; exact ⟨(c5 t ht).1, rfl⟩
    · rw [if_neg w, if_neg w]; exact c5 t ht
  · have e1 : M.1 (136 + t) = N.1 (136 + t) := by rcases (show t = 0 ∨ t = 1 by omega) with w | w <;> rw [w] <;> exact f.1 _ rfl
    have e2 : M.1 (139 + t) = N.1 (139 + t) := by rcases (show t = 0 ∨ t = 1 by omega) with w | w <;> rw [w] <;> exact f.1 _ rfl
    rw [e1, e2]; exact c6 t ht i hi
theorem crR_v {M : mz_N} (hc : crR N H x) (hu : u < 2) (f : fq [232, 287, 297, 306, 307, 333] [232, 305] N M) (h1 : M.1 297 = upd (N.1 297) u (nI (x.vd u + 1))) (h2 : M.2 232 87 = N.2 232 87) (h3 : M.1 232 96 = N.1 232 96) : crR M (viH H p) (viX x u) := by
  obtain ⟨c1, c2, c3, c4, c5, c6, c7⟩ := hc
  refine ⟨fun j hj => ?_, by rw [h2]; exact c2, by rw [h3]; exact c3, by rw [f.1 302 rfl, f.1 303 rfl, f.2 304 rfl]; exact c4, by rw [f.2 298 rfl]; exact c5, fun t ht h0 => ?_, fun t ht i hi => by rw [f.1 294 rfl, f.2 295 rfl]; exact c7 t ht i hi⟩
  · rw [viH_8, up_d, f.1 293 rfl]
    by_cases w : j = p
    · rw [if_pos w]; intro z; cases z
    · rw [if_neg w]; exact c1 j hj
  · rw [f.1 296 rfl, h1, f.2 298 rfl]
    show _ ∧ upd _ u _ t = nI (up x.vd u (x.vd u + 1) t) ∧ _
    obtain ⟨y1, y2, y3⟩ := c6 t ht h0
    rw [up_a, up_d]
    by_cases w : t = u
    · rw [if_pos w, if_pos w]; exact ⟨y1, rfl, y3⟩
    · rw [if_neg w, if_neg w]; exact ⟨y1, y2, y3⟩
theorem f39_c (hk : c_kp N b H) (w : q < 3) : cp_206_39 (nI q) N ∧ c_kp (cf_206_39 (nI q) N) b (vi1 H q) ∧ fq [126, 127, 128] [] N (cf_206_39 (nI q) N) := by
  have k11 := hk.2.2.2.2.2.2.2.2.2.2.2.2.1
  have w' : nI q < 3 := (nI_ltI (b := 3) (by omega) (by omega)).mpr w
  have clq : (nI q).toNatClampNeg = q := nI_clamp (by omega)
  have ibq : mz_ib (nI q) 3 := ib_n w (by omega)
  have g127 : mz_gI N 127 (nI q) = H.2.1 9 q := by rw [gI_a, clq]; exact (k11 _ w).2.2.1
  rw [cp_206_39, cf_206_39, if_pos w', g127, cf_206_78]
  have fE : fq [126, 127, 128] [] N (mz_wI (mz_wI (mz_wI N 127 (nI q) (H.2.1 9 q - 1)) 126 (nI q) 0) 128 (nI q) 0) := fq_wI (fq_wI (fq_wI (fq_refl _ _ _) rfl) rfl) rfl
  refine ⟨⟨fun _ => ⟨ibq, ibq, ibq, ibq, trivial⟩, fun z => absurd w' z⟩, ?_, fE⟩
  refine vi1_c (q := q) hk w fE ?_ ?_ ?_
  · rw [wI_s, sI_n (by decide), wI_s, sI_n (by decide), wI_s, sI_e, clq]
  · rw [wI_s, sI_n (by decide), wI_s, sI_e, clq, wI_s, sI_n (by decide)]
  · rw [wI_s, sI_e, clq, wI_s, sI_n (by decide), wI_s, sI_n (by decide)]
theorem fin_c (hk : c_kp N b H) (hc : crC N H x) (hb : kpb H) (hu : u < 2) (hp : p < 16) (h8 : H.1 8 p = 1) (hv : x.vd u < 2 ^ 30) : cp_206_0 (nI u) (nI p) N ∧ mz_gI N 120 (nI p) = nI (H.1 11 p) ∧ c_kp (cf_206_0 (nI u) (nI p) N) b (viH H p) ∧ crC (cf_206_0 (nI u) (nI p) N) (viH H p) (viX x u) ∧ fq [123, 126, 127, 128, 134, 208] [] N (cf_206_0 (nI u) (nI p) N) ∧ ∀ f, f ≠ 4 → (cf_206_0 (nI u) (nI p) N).1 208 f = N.1 208 f := by
  have clu : (nI u).toNatClampNeg = u := nI_clamp (by omega)
  have clp : (nI p).toNatClampNeg = p := nI_clamp (by omega)
  have ibu : mz_ib (nI u) 2 := ib_n hu (by omega)
  have ibp : mz_ib (nI p) 16 := ib_n hp (by omega)
  have k12 := hk.2.2.2.2.2.2.2.2.2.2.2.2.2.1
  have k11 := hk.2.2.2.2.2.2.2.2.2.2.2.2.1
  have g120 : mz_gI N 120 (nI p) = nI (H.1 11 p) := by rw [gI_a, clp]; exact ((k12 p hp).2 h8).2.2.1
  have g134 : mz_gI N 134 (nI u) = nI (x.vd u) := by rw [gI_a, clu]; exact (hc.vs u hu).2
  have b11 : H.1 11 p < 256 := (hb.2.2.2.2.2.2.2.2.2.2.1 p).2.2
  rw [cp_206_0, cf_206_0, g134, nI_1]
  obtain ⟨C, hC⟩ : ∃ C, C = N.1 208 4 + 500 := ⟨_, rfl⟩
  rw [show (mz_wI (mz_wI N 134 (nI u) (nI (x.vd u + 1))) 123 (nI p) 0).1 208 4 = N.1 208 4 from rfl, ← hC]
  generalize hA : mz_pI (mz_wI (mz_wI N 134 (nI u) (nI (x.vd u + 1))) 123 (nI p) 0) 208 4 C = A
  have fA : fq [123, 134, 208] [] N A := by rw [← hA]; exact fq_pI (fq_wI (fq_wI (fq_refl _ _ _) rfl) rfl) rfl
  have a123 : A.1 123 = upd (N.1 123) p 0 := by rw [show A.1 123 = upd (N.1 123) (nI p).toNatClampNeg 0 by rw [← hA]; rfl, clp]
  have a134 : A.1 134 = upd (N.1 134) u (nI (x.vd u + 1)) := by rw [show A.1 134 = upd (N.1 134) (nI u).toNatClampNeg (nI (x.vd u + 1)) by rw [← hA]; rfl, clu]
  have a208 : A.1 208 = upd (N.1 208) 4 C := by rw [← hA]; rfl
  clear hA
  rw [hC] at a208
  have kA := vi0_c (p := p) hk hp fA a123 a208
  have gA : mz_gI A 120 (nI p) = nI (H.1 11 p) := by rw [gI_a, fA.1 120 rfl, ← gI_a]; exact g120
  have e208 : ∀ f, f ≠ 4 → A.1 208 f = N.1 208 f := fun f hf => by rw [a208, up_a, if_neg hf]
  rw [gA, cp_206_39, cf_206_39]
  by_cases w : H.1 11 p < 3
  · have w' : nI (H.1 11 p) < 3 := (nI_ltI (b := 3) (by omega) (by omega)).mpr w
    obtain ⟨z1, kE, fE⟩ := f39_c (q := H.1 11 p) kA w
    rw [cp_206_39] at z1
    rw [cf_206_39] at kE fE
    generalize (if nI (H.1 11 p) < 3 then cf_206_78 (mz_wI (mz_wI (mz_wI A 127 (nI (H.1 11 p)) (mz_gI A 127 (nI (H.1 11 p)) - 1)) 126 (nI (H.1 11 p)) 0) 128 (nI (H.1 11 p)) 0) else cf_206_78 A) = E at kE fE ⊢
    have ff : fq [123, 126, 127, 128, 134, 208] [] N E := fq_trans (fq_sub fA rfl rfl) (fq_sub fE rfl rfl)
    have ev : viH H p = vi1 (vi0 H p) (H.1 11 p) := if_pos w
    refine ⟨⟨ibu, ibu, ibp, ibp, z1⟩, g120, by rw [ev]; exact kE, crC_v hc hu ff (by rw [fE.1 134 rfl]; exact a134), ff, fun f hf => by rw [fE.1 208 rfl]; exact e208 f hf⟩
  · have w' : ¬ nI (H.1 11 p) < 3 := fun z => w ((nI_ltI (b := 3) (by omega) (by omega)).mp z)
    have ff : fq [123, 126, 127, 128, 134, 208] [] N A := fq_sub fA rfl rfl
    have ev : viH H p = vi0 H p := if_neg w
    rw [if_neg w', cf_206_78]
    exact ⟨⟨ibu, ibu, ibp, ibp, fun z => absurd z w', fun _ => trivial⟩, g120, by rw [ev]; exact kA, crC_v hc hu ff a134, ff, e208⟩
theorem f109_r {G : Kp} {q : Nat} (hk : r_kp N G) (hq : q < 3) : r_kp (mz_wI (mz_wL (mz_wI N 306 (nI q) (mz_gI N 306 (nI q) - 1)) 305 (nI q) 0) 307 (nI q) (mz_b01 false)) (vi1 G q) ∧ fq [306, 307] [305] N (mz_wI (mz_wL (mz_wI N 306 (nI q) (mz_gI N 306 (nI q) - 1)) 305 (nI q) 0) 307 (nI q) (mz_b01 false)) := by
  have k11 := hk.2.2.2.2.2.2.2.2.2.2.2.2.1
  have clq : (nI q).toNatClampNeg = q := nI_clamp (by omega)
  have g306 : mz_gI N 306 (nI q) = G.2.1 9 q := by rw [gI_a, clq]; exact (k11 _ hq).2.2.1
  rw [g306]
  have fE : fq [306, 307] [305] N (mz_wI (mz_wL (mz_wI N 306 (nI q) (G.2.1 9 q - 1)) 305 (nI q) 0) 307 (nI q) (mz_b01 false)) := fq_wI (fq_wL (fq_wI (fq_refl _ _ _) rfl) rfl) rfl
  refine ⟨vi1_r (q := q) hk hq fE ?_ ?_ ?_, fE⟩
  · rw [wI_s, sI_n (by decide), wL_s, sL_1, wI_s, sI_e, clq]
  · rw [wI_s, sI_2, wL_s, sL_e, clq, wI_s, sI_2]
  · rw [wI_s, sI_e, clq, wL_s, sL_1, wI_s, sI_n (by decide)]; rfl
theorem kyo_9 : kyo 9 0 < 135 := by decide
theorem fin_r {s : st_S} (hk : r_kp N H) (hc : crR N H x) (hs : st_r N s) (hb : kpb H) (hu : u < 2) (hp : p < 16) (h8 : H.1 8 p = 1) (hcr : H.2.1 5 2 = nI cr) (hcr2 : cr < 2 ^ 30) (hv : 0 < x.vs u) {A : mz_N} (hA : A = mz_pL (mz_wI (mz_wI N 297 (nI u) (nI (x.vd u + 1))) 287 (nI p) (mz_b01 false)) 232 125 (N.2 232 125 + 500)) :
    ∃ X, cf_510_109 (nI u) (nI p) (nI (H.1 11 p)) (cf_471_0 A) = cf_510_152 (nI u) (nI p) X ∧ (cp_510_152 (nI u) (nI p) X → cp_510_109 (nI u) (nI p) (nI (H.1 11 p)) (cf_471_0 A)) ∧ r_kp X (viH H p) ∧ crR X (viH H p) (viX x u) ∧ st_r X s ∧ gr_r X (gkl (viL H p)) (viL H p).length ∧ crG N X := by
  have clu : (nI u).toNatClampNeg = u := nI_clamp (by omega)
  have clp : (nI p).toNatClampNeg = p := nI_clamp (by omega)
  have fA : fq [287, 297] [232] N A := by rw [hA]; exact fq_pL (fq_wI (fq_wI (fq_refl _ _ _) rfl) rfl) rfl
  have a287 : A.1 287 = upd (N.1 287) p 0 := by rw [hA, pL_s, sL_1, wI_s, sI_e, clp, wI_s, sI_n (by decide)]; rfl
  have a297 : A.1 297 = upd (N.1 297) u (nI (x.vd u + 1)) := by rw [hA, pL_s, sL_1, wI_s, sI_n (by decide), wI_s, sI_e, clu]
  have a232 : A.2 232 = vp_updL (N.2 232) 125 (N.2 232 125 + 500) := by rw [hA, pL_s, sL_e, wI_s, sI_2, wI_s, sI_2]
  clear hA
  have kA := vi0_r (p := p) hk hp hcr hcr2 fA a287 a232
  have b11 : H.1 11 p < 256 := (hb.2.2.2.2.2.2.2.2.2.2.1 p).2.2
  have e125 : ∀ f, f ≠ 125 → A.2 232 f = N.2 232 f := fun f hf => by rw [a232, upL_a, if_neg hf]
  have sA : st_r A s := st_rF hs (fA.1 329 rfl) (fA.1 330 rfl) (fA.1 331 rfl) (fun f _ => by rw [fA.1 232 rfl]) (e125 134 (by decide))
  have gA : crG N A := ⟨fun c hc => fA.1 c (ct_sub rfl hc), fun f _ _ _ _ _ _ => by rw [fA.1 232 rfl], fun c hc => fA.2 c (ct_sub rfl hc), fun f _ h _ => e125 f h⟩
  obtain ⟨s1, g1, y1⟩ := rj_go sA
  have kB0 := ryF_k y1 kA
  generalize cf_471_0 A = B0 at s1 g1 y1 kB0 ⊢
  obtain ⟨p2, s2, g2, y2⟩ := rj_add (l := []) (k1 := 9) (k2 := 0) s1 g1 (by omega) (by omega) kyo_9 (by decide)
  have kB := ryF_k y2 kB0
  have e9 : (9 : Int32) = nI 9 := rfl
  have e0 : (0 : Int32) = nI 0 := rfl
  rw [← e9, ← e0] at p2 s2 g2 y2 kB
  rw [cp_510_109, cf_510_109]
  generalize cf_472_0 9 0 B0 = B at s2 g2 y2 kB ⊢
  have yB : ryF A B := ryF_t y1 y2
  have gB : crG N B := crG_t gA (crG_y yB)
  have rB : crR B (viH H p) (viX x u) := by
    have r0 : crR A (viH H p) (viX x u) := crR_v hc hu (fq_sub fA rfl rfl) a297 (e125 87 (by decide)) (by rw [fA.1 232 rfl])
    exact crr_y yB r0
  by_cases w : H.1 11 p < 3
  · have ev : viH H p = vi1 (vi0 H p) (H.1 11 p) := if_pos w
    have el : viL H p = [(11, H.1 11 p), (9, 0)] := if_pos w
    rw [el]
    have w' : nI (H.1 11 p) < 3 := (nI_ltI (b := 3) (by omega) (by omega)).mpr w
    obtain ⟨kC, fC⟩ := f109_r (q := H.1 11 p) kB w
    rw [if_pos w']
    have ibq : mz_ib (nI (H.1 11 p)) 3 := ib_n w (by omega)
    rw [← ev] at kC
    generalize mz_wI (mz_wL (mz_wI B 306 (nI (H.1 11 p)) (mz_gI B 306 (nI (H.1 11 p)) - 1)) 305 (nI (H.1 11 p)) 0) 307 (nI (H.1 11 p)) (mz_b01 false) = C at kC fC ⊢
    have s3 : st_r C s := st_rF s2 (fC.1 329 rfl) (fC.1 330 rfl) (fC.1 331 rfl) (fun f _ => by rw [fC.1 232 rfl]) (by rw [fC.2 232 rfl])
    have g3 := gr_rF g2 (M := C) (by rw [fC.1 232 rfl]) (fC.1 333 rfl)
    have rC : crR C (viH H p) (viX x u) := by
      obtain ⟨c1, c2, c3, c4, c5, c6, c7⟩ := rB
      exact ⟨by rw [fC.1 293 rfl]; exact c1, by rw [fC.2 232 rfl]; exact c2, by rw [fC.1 232 rfl]; exact c3, by rw [fC.1 302 rfl, fC.1 303 rfl, fC.2 304 rfl]; exact c4, by rw [fC.2 298 rfl]; exact c5, by rw [fC.1 296 rfl, fC.1 297 rfl, fC.2 298 rfl]; exact c6, by rw [fC.1 294 rfl, fC.2 295 rfl]; exact c7⟩
    have gC : crG B C := ⟨fun c hc => fC.1 c (ct_sub rfl hc), fun f _ _ _ _ _ _ => by rw [fC.1 232 rfl], fun c hc => fC.2 c (ct_sub rfl hc), fun f _ _ _ => by rw [fC.2 232 rfl]⟩
    obtain ⟨p4, s4, g4, y4⟩ := rj_add (l := [(9, 0)]) (k1 := 11) (k2 := H.1 11 p) s3 g3 (by omega) (by omega) (kyo_11 _ w) (show 1 < 16 by omega)
    have e11 : (11 : Int32) = nI 11 := rfl
    rw [← e11] at p4 s4 g4 y4
    exact ⟨_, rfl, fun hX => ⟨p2, fun _ => ⟨ibq, ibq, ibq, ibq, p4, hX⟩, fun z => absurd w' z⟩, ryF_k y4 kC, crr_y y4 rC, s4, g4, crG_t gB (crG_t gC (crG_y y4))⟩
  · have ev : viH H p = vi0 H p := if_neg w
    have el : viL H p = [(9, 0)] := if_neg w
    rw [el]
    have w' : ¬ nI (H.1 11 p) < 3 := fun z => w ((nI_ltI (b := 3) (by omega) (by omega)).mp z)
    rw [if_neg w']
    rw [← ev] at kB
    exact ⟨B, rfl, fun hX => ⟨p2, fun z => absurd z w', fun _ => hX⟩, kB, rB, s2, g2, gB⟩
end Fi
