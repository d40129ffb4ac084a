/-! PURE (50zzzt): parts wear out and fail. -/
theorem l64_lt (a b : Int32) : a.toInt64 < b.toInt64 ↔ a < b := by rw [Int64.lt_iff_toInt_lt, Int32.lt_iff_toInt_lt, Int32.toInt_toInt64, Int32.toInt_toInt64]
theorem kS_1 {H : Kp} {f j x : Nat} : ∀ g, g ≠ f → (kS H f j x).1 g = H.1 g := fun g hg => by
  show up H.1 f _ g = _
  rw [up_d, if_neg hg]
theorem kI_1 {H : Kp} {f j : Nat} {x : Int32} : ∀ g, g ≠ f → (kI H f j x).2.1 g = H.2.1 g := fun g hg => by
  show up H.2.1 f _ g = _
  rw [up_d, if_neg hg]
/-- how two runs end: they answer alike; if they go on, all is kept alike with Iv, else both are down with Jv -/
def Out (Iv : Kp → Kp → CrS → Prop) (Jv : Kp → Prop) (n : Nat) (b : Bool) (N1 N2 : mz_N) (r1 r2 : Bool × mz_N) : Prop := ∃ w K1 K2, r1 = (w, K1) ∧ r2 = (w, K2) ∧ crF N1 K1 ∧ crG N2 K2 ∧ (w = true → ∃ B s D H x, B ≤ n ∧ CS B s D H x K1 b K2 ∧ Iv D H x) ∧ (w = false → ∃ D, Dwn n D K1 K2 ∧ Jv D)
/-- part v fails: the kept things, the rest, the keys -/
def wfp (H : Kp) : Nat := fz (H.1 8) 16
def wfH (v : Nat) (H : Kp) (x : CrS) : Kp := if wfp H < 16 then tkH (kS H 7 v 1) (wfp H) 0 v v (H.2.1 5 0) (nI x.nn) else kS H 7 v 1
def wfX (H : Kp) (x : CrS) : CrS := if wfp H < 16 then tkX x (wfp H) else x
def wfK (v : Nat) (H : Kp) : List (Nat × Nat) := if wfp H < 16 then [(12, wfp H), (11, v)] else [(11, v)]
theorem kyo_11 : ∀ v, v < 3 → kyo 11 v < 135 := by decide
theorem kyo_12 : ∀ v, v < 16 → kyo 12 v < 135 := by decide
section We
variable {Iv : Kp → Kp → CrS → Prop} {Jv : Kp → Prop} {N1 N2 : mz_N} {b : Bool} {B : Nat} {s : st_S} {D H : Kp} {x : CrS} {v : Nat}
theorem kS7_b (h : kpb H) : kpb (kS H 7 v 1) := by
  obtain ⟨h0, h1, h2, h3, h4, h5, h6, h7, h8, h9, h10, h11, h12, h13, h14, h15, h16⟩ := h
  refine ⟨h0, h1, h2, h3, h4, h5, h6, h7, fun j => ?_, h9, h10, h11, h12, h13, h14, h15, h16⟩
  show up (H.1 7) v 1 j ≤ 1
  rw [up_d]; split; exact Nat.le_refl _; exact h8 j
/-- the mark of a failed part, on both sides -/
theorem KS_f (h : KS B s D H N1 b N2) (hv : v < 3) : KS B s D (kS H 7 v 1) (mz_wI N1 128 (nI v) 1) b (mz_wI N2 307 (nI v) (mz_b01 true)) := by
  have cl : (nI v).toNatClampNeg = v := nI_clamp (by omega)
  have f1 : fq [128] [] N1 (mz_wI N1 128 (nI v) 1) := fq_wI (fq_refl _ _ _) rfl
  have f2 : fq [307] [] N2 (mz_wI N2 307 (nI v) (mz_b01 true)) := fq_wI (fq_refl _ _ _) rfl
  refine ⟨h.ok, st_cF h.c (f1.1 221 rfl) (f1.1 222 rfl) (f1.1 223 rfl) (f1.1 224 rfl) (fun f _ _ => by rw [f1.1 219 rfl]), st_rF h.r (f2.1 329 rfl) (f2.1 330 rfl) (f2.1 331 rfl) (fun f _ => by rw [f2.1 232 rfl]) (by rw [f2.2 232 rfl]), ?_, ?_, kS7_b h.hb, zv_f h.zv (f1.1 134 rfl)⟩
  · have k11 := h.kc.2.2.2.2.2.2.2.2.2.2.2.2.1
    refine ckp_11 h.kc f1 rfl rfl kS_1 (fun _ _ _ _ => rfl) (fun _ => rfl) (fun j hj => ?_)
    obtain ⟨a1, a2, a3, a4⟩ := k11 j hj
    rw [f1.1 125 rfl, f1.1 126 rfl, f1.1 127 rfl, wI_s, sI_e, cl]
    refine ⟨a1, a2, a3, ?_⟩
    show upd (N1.1 128) v 1 j = nI (up (H.1 7) v 1 j)
    rw [up_a, up_d]
    by_cases w : j = v
    · rw [if_pos w, if_pos w]; rfl
    · rw [if_neg w, if_neg w]; exact a4
  · have k11 := h.kr.2.2.2.2.2.2.2.2.2.2.2.2.1
    refine rkp_11 h.kr f2 rfl rfl (by rw [f2.1 232 rfl]) (by rw [f2.1 232 rfl]) (fun f _ => by rw [f2.2 232 rfl]) kS_1 (fun _ _ _ _ => rfl) (fun _ => rfl) (fun j hj => ?_)
    obtain ⟨a1, a2, a3, a4⟩ := k11 j hj
    rw [f2.1 250 rfl, f2.2 305 rfl, f2.1 306 rfl, wI_s, sI_e, cl]
    refine ⟨a1, a2, a3, ?_⟩
    show upd (N2.1 307) v 1 j = nI (up (H.1 7) v 1 j)
    rw [up_a, up_d]
    by_cases w : j = v
    · rw [if_pos w, if_pos w]; rfl
    · rw [if_neg w, if_neg w]; exact a4
theorem fail_ok (hB : B + 1 < 2 ^ 30) (hv : v < 3) (h : CS B s D H x N1 b N2) (hn : x.nn ≤ 2000000000) (hI : Iv (DG (gkl (wfK v H)) D (wfH v H x) (wfK v H).length) (wfH v H x) (wfX H x)) (hJ : Jv D) :
    cp_258_0 (nI v) N1 b ∧ (cp_472_0 11 (nI v) (cf_471_0 (mz_wI N2 307 (nI v) (mz_b01 true))) ∧ cp_536_0 0 (nI v) (nI v) (cf_472_0 11 (nI v) (cf_471_0 (mz_wI N2 307 (nI v) (mz_b01 true))))) ∧ ∃ G, (cp_535_135 (nI v) G → cp_535_124 (nI v) ((cf_536_0 0 (nI v) (nI v) (cf_472_0 11 (nI v) (cf_471_0 (mz_wI N2 307 (nI v) (mz_b01 true))))).1) ((cf_536_0 0 (nI v) (nI v) (cf_472_0 11 (nI v) (cf_471_0 (mz_wI N2 307 (nI v) (mz_b01 true))))).2)) ∧ cf_535_124 (nI v) ((cf_536_0 0 (nI v) (nI v) (cf_472_0 11 (nI v) (cf_471_0 (mz_wI N2 307 (nI v) (mz_b01 true))))).1) ((cf_536_0 0 (nI v) (nI v) (cf_472_0 11 (nI v) (cf_471_0 (mz_wI N2 307 (nI v) (mz_b01 true))))).2) = cf_535_135 (nI v) G ∧ cp_474_0 G ∧ Out Iv Jv (B + 1) b N1 N2 (cf_258_0 (nI v) N1 b) (cf_474_0 G) := by
  have e12 : (12 : Int32) = nI 12 := rfl
  have e11 : (11 : Int32) = nI 11 := rfl
  have e0 : (0 : Int32) = nI 0 := rfl
  have q0 := KS_f (v := v) h.ks hv
  have c0 : crC (mz_wI N1 128 (nI v) 1) (kS H 7 v 1) x := by
    obtain ⟨c1, c2, c3, c4, c5, c6, c7⟩ := h.cc
    refine ⟨c1, c2, c3, c4, c5, fun u hu => ?_, c7⟩
    rcases (show u = 0 ∨ u = 1 by omega) with w | w
    · subst w; exact c6 0 hu
    · subst w; exact c6 1 hu
  have r0 : crR (mz_wI N2 307 (nI v) (mz_b01 true)) (kS H 7 v 1) x := h.cr
  have F0 : crF N1 (mz_wI N1 128 (nI v) 1) := ⟨fun c hc => by rw [wI_s, sI_n (fun z => by rw [z] at hc; cases hc)], fun _ _ => rfl, rfl⟩
  have G0 : crG N2 (mz_wI N2 307 (nI v) (mz_b01 true)) := ⟨fun c hc => by rw [wI_s, sI_n (fun z => by rw [z] at hc; cases hc)], fun _ _ _ _ _ _ _ => rfl, fun _ _ => rfl, fun _ _ _ _ => rfl⟩
  rw [cp_258_0, cf_258_0]
  have ib3 : mz_ib (nI v) 3 := ib_n hv (by omega)
  generalize mz_wI N1 128 (nI v) 1 = M1 at q0 c0 F0 ⊢
  generalize mz_wI N2 307 (nI v) (mz_b01 true) = M2 at q0 r0 G0 ⊢
  obtain ⟨q1, g1, g2, y1, y2⟩ := KS_go q0
  have c1 := crc_y y1 c0
  have r1 := crr_y y2 r0
  have F1 := crF_t F0 (crF_y y1)
  have G1 := crG_t G0 (crG_y y2)
  generalize cf_117_0 M1 = P1 at q1 g1 c1 F1 ⊢
  generalize cf_471_0 M2 = P2 at q1 g2 r1 G1 ⊢
  obtain ⟨p1, p2, q2, g3, g4, y3, y4⟩ := KS_add (l := []) (k1 := 11) (k2 := v) q1 g1 g2 (by omega) (by omega) (kyo_11 v hv) (by decide)
  have c2 := crc_y y3 c1
  have r2 := crr_y y4 r1
  have F2 := crF_t F1 (crF_y y3)
  have G2 := crG_t G1 (crG_y y4)
  rw [← e11] at p1 p2 q2 g3 g4 c2 r2 F2 G2
  generalize cf_119_0 11 (nI v) P1 = S1 at q2 g3 c2 F2 ⊢
  generalize cf_472_0 11 (nI v) P2 = S2 at q2 g4 r2 G2 ⊢
  obtain ⟨fr1, fr2⟩ := free_c q2.kc q2.hb
  obtain ⟨gv1, gv2, gv3⟩ := give_r (a := 0) (c := v) (q := v) q2.kr r2 q2.hb (by omega)
  have ep : fz ((kS H 7 v 1).1 8) 16 = wfp H := rfl
  rw [ep] at fr2 gv2 gv3
  rw [← e0] at gv1 gv2 gv3
  unfold wfH wfX wfK at hI
  have hp16 : wfp H ≤ 16 := fz_le (H.1 8) 16
  generalize wfp H = p at hI fr2 gv2 gv3 hp16
  clear ep
  by_cases w : p < 16
  · rw [if_pos w, if_pos w, if_pos w] at hI
    obtain ⟨T2, t1, t2, t3, t4, t5⟩ := gv3 w
    have n1 : ¬ nI p = -1 := fun z => (nI_m1 (by omega)).mp z
    have n2 : ¬ nI p < 0 := nI_pos (by omega)
    have etm : S1.1 208 0 = H.2.1 5 0 := q2.kc.2.2.2.2.2.2.2.2.2.2.1.1
    obtain ⟨u1, u2, u3, u4⟩ := give_c (p := p) (a := 0) (c := v) (q := v) (t := H.2.1 5 0) q2.kc c2 w
    rw [← e0] at u1 u2 u3 u4
    rw [fr2, nO_lt w, if_neg n1, etm]
    have hbb : kpb (tkH (kS H 7 v 1) p 0 v v (H.2.1 5 0) (nI x.nn)) := tkH_b q2.hb (by omega) (by omega) (by omega)
    have hkp : kpl (tkH (kS H 7 v 1) p 0 v v (H.2.1 5 0) (nI x.nn)) 12 p := by
      refine ⟨(fun z => absurd z (by decide)), (fun z => absurd z (by decide)), fun _ _ => ⟨x.nn, hn, ?_⟩⟩
      show up (H.2.1 11) p (nI x.nn) p = _
      rw [up_d, if_pos rfl]
    have t2' : r_kp T2 (tkH (kS H 7 v 1) p 0 v v (H.2.1 5 0) (nI x.nn)) := t2
    have t3' : crR T2 (tkH (kS H 7 v 1) p 0 v v (H.2.1 5 0) (nI x.nn)) (tkX x p) := t3
    clear t2 t3
    generalize tkH (kS H 7 v 1) p 0 v v (H.2.1 5 0) (nI x.nn) = H' at u2 u3 t2' t3' hbb hkp hI
    generalize tkX x p = x' at u3 t3' hI
    have q3 : KS B s D H' (cf_260_0 (nI p) 0 (nI v) (nI v) (H.2.1 5 0) S1) b T2 := ⟨q2.ok, st_cF q2.c (u4.1 221 rfl) (u4.1 222 rfl) (u4.1 223 rfl) (u4.1 224 rfl) (fun f _ _ => by rw [u4.1 219 rfl]), st_rF q2.r (t4.1 329 rfl) (t4.1 330 rfl) (t4.1 331 rfl) (fun f _ => by rw [t4.1 232 rfl]) (t5 134 (by decide)), u2, t2', hbb, zv_f q2.zv (u4.1 134 rfl)⟩
    have g5 := gr_cF g3 (M := cf_260_0 (nI p) 0 (nI v) (nI v) (H.2.1 5 0) S1) (by rw [u4.1 219 rfl]) (u4.1 226 rfl)
    have g6 := gr_rF g4 (M := T2) (by rw [t4.1 232 rfl]) (t4.1 333 rfl)
    have F3 : crF S1 (cf_260_0 (nI p) 0 (nI v) (nI v) (H.2.1 5 0) S1) := ⟨fun c hc => u4.1 c (ct_sub rfl hc), fun f _ => by rw [u4.1 208 rfl], u4.2⟩
    have G3 : crG S2 T2 := ⟨fun c hc => t4.1 c (ct_sub rfl hc), fun f _ _ _ _ _ _ => by rw [t4.1 232 rfl], fun c hc => t4.2 c (ct_sub rfl hc), fun f k1 _ _ => t5 f k1⟩
    generalize cf_260_0 (nI p) 0 (nI v) (nI v) (H.2.1 5 0) S1 = T1 at u1 q3 g5 u3 F3 ⊢
    obtain ⟨p3, p4, q4, g7, g8, y5, y6⟩ := KS_add (l := [(11, v)]) (k1 := 12) (k2 := p) q3 g5 g6 (by omega) (by omega) (kyo_12 _ w) (show 1 < 16 by omega)
    have c4 := crc_y y5 u3
    have r4 := crr_y y6 t3'
    have F4 := crF_t F2 (crF_t F3 (crF_y y5))
    have G4 := crG_t G2 (crG_t G3 (crG_y y6))
    rw [← e12] at p3 p4 q4 g7 g8 c4 r4 F4 G4
    have ha : gka [(12, p), (11, v)] := gka_c (by omega) (by omega) (kyo_12 _ w) (gka_c (by omega) (by omega) (kyo_11 _ hv) gka_n)
    obtain ⟨o1, o2, ww, K1, K2, o3, o4, o5, o6, o7, o8⟩ := wr2 (l := [(12, p), (11, v)]) hB q4 g7 g8 ha (show 2 ≤ 16 by omega) (al_c (kxt_n (Nat.le_refl _)) (al_c (kxt_n (show 11 ≤ 12 by omega)) al_n)) (al_c hkp (al_c (kpl_n (show (11 : Nat) ≠ 4 by omega) (show (11 : Nat) ≠ 7 by omega) (show (11 : Nat) ≠ 12 by omega)) al_n)) (gtx_n ha (al_c (show (12 : Nat) ≠ 6 by omega) (al_c (show (11 : Nat) ≠ 6 by omega) al_n)))
    rw [cf_258_60, cf_258_70, cp_258_60, cp_258_70, t1]
    refine ⟨⟨ib3, p1, fr1, fun z => absurd z n1, fun _ => ⟨u1, p3, o1⟩⟩, ⟨p2, gv1⟩, cf_472_0 12 (nI p) T2, fun hG => ?_, ?_, o2, ww, K1, K2, by rw [o3], o4, crF_t F4 (crF_y o5), crG_t G4 (crG_y o6), fun hw => ?_, fun hw => ⟨D, o8 hw, hJ⟩⟩
    · exact ⟨fun z => absurd z n2, fun _ => ⟨p4, hG⟩⟩
    · rw [cf_535_124, if_neg n2]
    · obtain ⟨s', k1⟩ := o7 hw
      exact ⟨B + 1, s', _, _, _, Nat.le_refl _, ⟨k1, crc_y o5 c4, crr_y o6 r4⟩, hI⟩
  · rw [if_neg w, if_neg w, if_neg w] at hI
    have e16 : p = 16 := by omega
    have ha : gka [(11, v)] := gka_c (by omega) (by omega) (kyo_11 _ hv) gka_n
    obtain ⟨o1, o2, ww, K1, K2, o3, o4, o5, o6, o7, o8⟩ := wr2 (l := [(11, v)]) hB q2 g3 g4 ha (show 1 ≤ 16 by omega) (al_c (kxt_n (show 11 ≤ 12 by omega)) al_n) (al_c (kpl_n (show (11 : Nat) ≠ 4 by omega) (show (11 : Nat) ≠ 7 by omega) (show (11 : Nat) ≠ 12 by omega)) al_n) (gtx_n ha (al_c (show (11 : Nat) ≠ 6 by omega) al_n))
    rw [fr2, nO_ge w, if_pos rfl, cf_258_70, cp_258_70, gv2 e16]
    refine ⟨⟨ib3, p1, fr1, fun _ => o1, fun z => absurd rfl z⟩, ⟨p2, gv1⟩, S2, fun hG => ⟨fun _ => hG, fun z => absurd (show (-1 : Int32) < 0 by decide) z⟩, ?_, o2, ww, K1, K2, by rw [o3], o4, crF_t F2 (crF_y o5), crG_t G2 (crG_y o6), fun hw => ?_, fun hw => ⟨D, o8 hw, hJ⟩⟩
    · rw [cf_535_124, if_pos (show (-1 : Int32) < 0 by decide)]
    · obtain ⟨s', k1⟩ := o7 hw
      exact ⟨B + 1, s', _, _, _, Nat.le_refl _, ⟨k1, crc_y o5 c2, crr_y o6 r2⟩, hI⟩
end We
