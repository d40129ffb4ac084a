/-! PURE (50zzzzr): what stays true over a minute. -/
/-- the settings stay, and the time -/
def same (H0 H : Kp) : Prop := (∀ f, f < 7 ∨ 12 ≤ f → H.1 f = H0.1 f) ∧ H.2.1 5 0 = H0.2.1 5 0
def IvX (H0 : Kp) (q : Nat) (st : Bool) (D H : Kp) (x : CrS) : Prop := IvS q st (fun _ => 0) D H x ∧ same H0 H
def IvW (H0 : Kp) (q : Nat) (D H : Kp) (x : CrS) : Prop := IvS q true slW D H x ∧ same H0 H ∧ ∀ j, H.1 7 j ≤ 1
section Iq
variable {D H H0 G : Kp} {x : CrS} {q : Nat} {u v : Nat} {st : Bool} {sl sl' : Kp → Nat}
theorem orX_cl (h : IvX H0 q false D H x) (h0 : 0 < x.oc) (ht : H.2.1 5 0 = nI (x.od 0)) : IvX H0 q false (DG (gkl [(11, x.op 0), (9, 0)]) D (orH H x) 2) (orH H x) (orX x) := ⟨or_cl (fun _ _ => rfl) h.1 h0 ht, h.2⟩
theorem swX_cl (h : IvX H0 q false D H x) (hn : ¬ (0 < x.oc ∧ H.2.1 5 0 = nI (x.od 0))) : IvX H0 q true D H x := ⟨sw_cl h.1 hn, h.2⟩
theorem viX_cl (h : IvX H0 q st D H x) (hu : u < 2) (hv : vis H x u) : IvX H0 q st (DG (gkl (viK H (x.tp u (x.vd u)))) D (viH H (x.tp u (x.vd u))) (viK H (x.tp u (x.vd u))).length) (viH H (x.tp u (x.vd u))) (viX x u) := by
  refine ⟨vi_cl h.1 hu hv, fun f hf => ?_, ?_⟩
  · rw [viH_1 f (by omega) (by omega)]; exact h.2.1 f hf
  · rw [viH_5, up_d, if_neg (by decide)]; exact h.2.2
theorem bkX_cl (h : IvX H0 q st D H x) (hu : u < 2) : IvX H0 q st D H (bkX x u) := ⟨bk_cl h.1 hu, h.2⟩
theorem wfX_cl (hq : q < 2 ^ 15) (hv : v < 3) (h : IvW H0 q D H x) (h7 : H.1 7 v = 0) : IvW H0 q (DG (gkl (wfK v H)) D (wfH v H x) (wfK v H).length) (wfH v H x) (wfX H x) := by
  obtain ⟨a1, ⟨a2, a2'⟩, a3⟩ := h
  refine ⟨wf_cl a3 hv a1 h7 hq, ⟨fun f hf => ?_, ?_⟩, fun j => ?_⟩
  · unfold wfH
    split
    · rw [tkH_1 f (by omega) (by omega) (by omega) (by omega), kS_1 f (by omega)]; exact a2 f hf
    · rw [kS_1 f (by omega)]; exact a2 f hf
  · unfold wfH
    split
    · exact a2'
    · exact a2'
  · have e : (wfH v H x).1 7 = up (H.1 7) v 1 := by unfold wfH; split <;> rfl
    rw [e, up_d]; split
    · exact Nat.le_refl _
    · exact a3 j
theorem CI_m {q' : Nat} (hq : q ≤ q') (e5 : G.2.1 5 0 = H.2.1 5 0) (e52 : G.2.1 5 2 = H.2.1 5 2 ∨ G.2.1 5 2 = 0) (e8 : G.1 8 = H.1 8) (e11 : G.2.1 11 = H.2.1 11) (h : CI q st H x) : CI q' st G x := by
  obtain ⟨c1, c2, ⟨cr, r1, r2⟩, c4, c5, c6, c7, c8, c9, c10, c11⟩ := h
  refine ⟨by rw [e5]; exact c1, c2, ?_, c4, c5, c6, by rw [e8]; exact c7, c8, c9, c10, by rw [e8, e11]; exact c11⟩
  rcases e52 with w | w
  · exact ⟨cr, by rw [w]; exact r1, by omega⟩
  · exact ⟨0, by rw [w]; rfl, by omega⟩
/-- books, meters, parts change: the rest stays true -/
theorem IvS_b {q' : Nat} (hq : q ≤ q') (e1 : ∀ f, f ≠ 7 → G.1 f = H.1 f) (e2 : ∀ f, f = 0 ∨ f = 1 ∨ f = 10 ∨ f = 11 ∨ f = 12 → G.2.1 f = H.2.1 f) (e5 : G.2.1 5 0 = H.2.1 5 0) (e52 : G.2.1 5 2 = H.2.1 5 2 ∨ G.2.1 5 2 = 0) (hK : KB q' G) (hn : x.nn + sl' G ≤ 1000000000 + 4 * q') (h : IvS q st sl D H x) : IvS q' st sl' D G x := by
  obtain ⟨h1, h2, h3, h4, h5, h6, h7, h8⟩ := h
  refine ⟨Jd_m hq h1, hK, by rw [e1 0 (by decide), e1 1 (by decide)]; exact h3, by rw [e1 4 (by decide), e1 5 (by decide)]; exact h4, ?_, ?_, CI_m hq e5 e52 (e1 8 (by decide)) (e2 11 (by omega)) h7, hn⟩
  · unfold tDs
    rw [e1 8 (by decide), e2 11 (by omega)]; exact h5
  · exact KA_pb (l := []) h6 gka_n al_n e1 e2
end Iq
section Lt
variable {N1 N2 : mz_N} {b : Bool} {B q tm : Nat} {s : st_S} {D H : Kp} {x : CrS} {L : LvS} {dry : Bool}
theorem wrA_1 {g0 g1 g2 : Bool} : (wrA g0 g1 g2 H).1 = H.1 := by cases g0 <;> cases g1 <;> cases g2 <;> rfl
theorem wr1_2 {g : Bool} {v : Nat} : ∀ f, f ≠ 8 → (wr1 g v H).2.1 f = H.2.1 f := fun f hf => by
  cases g with
  | true => rw [wr1_t]; exact kI_1 f hf
  | false => rw [wr1_f]
theorem wrA_2 {g0 g1 g2 : Bool} : ∀ f, f ≠ 8 → (wrA g0 g1 g2 H).2.1 f = H.2.1 f := fun f hf => by unfold wrA; rw [wr1_2 f hf, wr1_2 f hf, wr1_2 f hf]
theorem wr1_3 {g : Bool} {v : Nat} : (wr1 g v H).2.2 = H.2.2 := by cases g <;> rfl
theorem wr1_v {g : Bool} {v : Nat} {w : Nat} (h : H.2.1 8 v = nI w) : ∃ w', w' ≤ w + 1 ∧ (wr1 g v H).2.1 8 v = nI w' := by
  cases g with
  | true =>
    refine ⟨w + 1, Nat.le_refl _, ?_⟩
    rw [wr1_t]
    show up (H.2.1 8) v (H.2.1 8 v + 1) v = _
    rw [up_d, if_pos rfl, h, nI_1]
  | false => exact ⟨w, by omega, by rw [wr1_f]; exact h⟩
theorem wrA_v {g0 g1 g2 : Bool} {v : Nat} {w : Nat} (hv : v < 3) (h : H.2.1 8 v = nI w) : ∃ w', w' ≤ w + 1 ∧ (wrA g0 g1 g2 H).2.1 8 v = nI w' := by
  unfold wrA
  rcases (show v = 0 ∨ v = 1 ∨ v = 2 by omega) with z | z | z
  · subst z
    obtain ⟨w', a1, a2⟩ := wr1_v (g := g0) h
    exact ⟨w', a1, by rw [wr1_8 (by decide), wr1_8 (by decide)]; exact a2⟩
  · subst z
    obtain ⟨w', a1, a2⟩ := wr1_v (H := wr1 g0 0 H) (g := g1) (v := 1) (w := w) (by rw [wr1_8 (by decide)]; exact h)
    exact ⟨w', a1, by rw [wr1_8 (by decide)]; exact a2⟩
  · subst z
    exact wr1_v (H := wr1 g1 1 (wr1 g0 0 H)) (g := g2) (v := 2) (w := w) (by rw [wr1_8 (by decide), wr1_8 (by decide)]; exact h)
theorem late_ok {p : Nat} (hq : q < 2 ^ 15) (hB : B + 4 < 2 ^ 30) (hc : CS B s D H x N1 b N2) (hL : LR q (H.1 0) (H.1 1) L N1 b N2) (hI : IvS q true slW D H x) (hpq : p + 1 ≤ q) (hw : waB p L.w L.cr) (hR : ∀ j, j < 8 → L.R.2 j ≤ 8 * p) (hwr : ∀ v, v < 3 → ∃ w, w + 1 ≤ 100000000 + q ∧ H.2.1 8 v = nI w) (ht : H.2.1 5 0 = nI tm) (ht2 : tm < 2000000) (d1 : N1.1 56 10 = mz_b01 dry) (d2 : N2.1 232 67 = mz_b01 dry) :
    cp_199_86 N1 b ∧ (cp_535_0 N2 ∧ ((cf_535_0 N2).1 = true → cp_537_0 (cf_535_0 N2).2 ∧ (mz_lrem ((mz_pL (cf_537_0 (cf_535_0 N2).2) 232 2 ((cf_537_0 (cf_535_0 N2).2).2 232 2 + 1)).2 232 2) 10 = 0 → cp_507_79 (mz_pL (cf_537_0 (cf_535_0 N2).2) 232 2 ((cf_537_0 (cf_535_0 N2).2).2 232 2 + 1))) ∧ (¬ mz_lrem ((mz_pL (cf_537_0 (cf_535_0 N2).2) 232 2 ((cf_537_0 (cf_535_0 N2).2).2 232 2 + 1)).2 232 2) 10 = 0 → cp_507_83 (mz_pL (cf_537_0 (cf_535_0 N2).2) 232 2 ((cf_537_0 (cf_535_0 N2).2).2 232 2 + 1))))) ∧
    ∃ w K1 K2, cf_199_86 N1 b = (w, K1) ∧ (if (cf_535_0 N2).1 = true then (if mz_lrem ((mz_pL (cf_537_0 (cf_535_0 N2).2) 232 2 ((cf_537_0 (cf_535_0 N2).2).2 232 2 + 1)).2 232 2) 10 = 0 then cf_507_79 (mz_pL (cf_537_0 (cf_535_0 N2).2) 232 2 ((cf_537_0 (cf_535_0 N2).2).2 232 2 + 1)) else cf_507_83 (mz_pL (cf_537_0 (cf_535_0 N2).2) 232 2 ((cf_537_0 (cf_535_0 N2).2).2 232 2 + 1))) else (false, (cf_535_0 N2).2)) = (w, K2) ∧ mnF N1 N2 K1 K2 ∧ (w = true → ∃ B' s' D' H' x' L', B' ≤ B + 4 ∧ CS B' s' D' H' x' K1 b K2 ∧ LR q (H.1 0) (H.1 1) L' K1 b K2 ∧ IvS q false (fun _ => 0) D' H' x' ∧ H'.2.1 5 0 = nI (tm + 1) ∧ (∀ f, f < 7 ∨ 12 ≤ f → H'.1 f = H.1 f) ∧ L'.S = L.S ∧ LsF H L L') ∧ (w = false → ∃ D', Dwn (B + 4) D' K1 K2 ∧ Jd q D') := by
  have nf : ¬ (false = true) := fun z => by cases z
  have hb7 : ∀ j, H.1 7 j ≤ 1 := hc.ks.hb.2.2.2.2.2.2.2.2.1
  have ub := hL.sb.bo
  have wvt : ∃ wv : Nat → Nat, ∀ v, v < 3 → H.2.1 8 v = nI (wv v) ∧ wv v + 1 ≤ 100000000 + q := by
    obtain ⟨g, hg⟩ := nat_tab (f := H.2.1 8) (n := 3) (C := 100000000 + q) (by omega) (fun j hj => by obtain ⟨w, a, c⟩ := hwr j hj; exact ⟨w, by omega, c⟩)
    refine ⟨g, fun v hv => ⟨(hg v hv).1, ?_⟩⟩
    obtain ⟨w, a, c⟩ := hwr v hv
    have := (nI_eq (show w < 2 ^ 31 by omega) (show g v < 2 ^ 31 by have := (hg v hv).2; omega)).mp (c.symm.trans (hg v hv).1)
    omega
  obtain ⟨wv, hwv⟩ := wvt
  have G0 : ∃ g0, decide (0 < N1.1 56 13) = g0 ∧ decide (0 < N2.2 232 66) = g0 := by
    refine ⟨decide (0 < L.u.bo), ?_, ?_⟩
    · rw [hL.sc.bo]
      by_cases z : 0 < L.u.bo
      · rw [decide_eq_true z, decide_eq_true ((nI_gt0 (by omega)).mpr z)]
      · rw [decide_eq_false z, decide_eq_false (fun y => z ((nI_gt0 (by omega)).mp y))]
    · rw [hL.sr.bo]
      by_cases z : 0 < L.u.bo
      · rw [decide_eq_true z, decide_eq_true ((lN_g0 (by omega)).mpr z)]
      · rw [decide_eq_false z, decide_eq_false (fun y => z ((lN_g0 (by omega)).mp y))]
  obtain ⟨g0, c13, r66⟩ := G0
  have hIW : IvW H q D (wrA g0 L.u.ra L.u.en H) x := by
    refine ⟨IvS_b (Nat.le_refl _) (fun f _ => by rw [wrA_1]) (fun f hf => wrA_2 f (by omega)) (by rw [wrA_2 5 (by decide)]) (Or.inl (by rw [wrA_2 5 (by decide)])) ?_ ?_ hI, ⟨fun f _ => by rw [wrA_1], by rw [wrA_2 5 (by decide)]⟩, by rw [wrA_1]; exact hb7⟩
    · obtain ⟨e1, e2, e3, e4, e5, e6, e7, e8, e9, e10, e11, e12, e13, e14, e15, e16, e17⟩ := hI.kb
      refine ⟨by rw [wrA_1]; exact e1, by rw [wrA_1]; exact e2, by rw [wrA_2 1 (by decide)]; exact e3, by rw [wrA_2 0 (by decide)]; exact e4, by rw [wrA_2 6 (by decide)]; exact e5, by rw [wrA_2 6 (by decide)]; exact e6, by rw [wrA_2 2 (by decide)]; exact e7, by rw [wrA_2 3 (by decide)]; exact e8, by rw [wrA_2 4 (by decide)]; exact e9, by rw [wrA_2 5 (by decide)]; exact e10, by rw [wrA_2 5 (by decide)]; exact e11, by rw [wrA_2 5 (by decide)]; exact e12, fun v hv => ?_, by rw [wrA_1]; exact e14, by rw [wrA_1, wrA_2 11 (by decide)]; exact e15, by rw [wrA_1]; exact e16, by rw [wrA_1, wrA_2 10 (by decide)]; exact e17⟩
      obtain ⟨w', a1, a2⟩ := wrA_v (g0 := g0) (g1 := L.u.ra) (g2 := L.u.en) hv (hwv v hv).1
      exact ⟨w', by have := (hwv v hv).2; omega, a2⟩
    · have := hI.nn
      have e : slW (wrA g0 L.u.ra L.u.en H) = slW H := by unfold slW; rw [wrA_1]
      rw [e]; exact this
  obtain ⟨p1, p2, w, K1, K2, o1, o2, o3, o4, o5, o6⟩ := wear_ok (Iv := IvW H q) (Jv := Jd q) (g0 := g0) (g1 := L.u.ra) (g2 := L.u.en) (wv := wv) (show B + 3 < 2 ^ 30 by omega) (fun D H x v hv hi h7 => wfX_cl hq hv hi h7) (fun D H x hi => by have := hi.1.nn; omega) (fun D H x hi => hi.1.jd) hc hIW (fun v hv => ⟨(hwv v hv).1, by have := (hwv v hv).2; omega⟩) c13 r66 hL.sc.ra hL.sr.ra hL.sc.en hL.sr.en
  rw [cp_199_86, cf_199_86, o1, o2]
  cases w with
  | false =>
    rw [if_neg nf, if_neg nf]
    obtain ⟨D', i1, i2⟩ := o6 rfl
    exact ⟨⟨p1, fun z => absurd z nf, fun _ => trivial⟩, ⟨p2, fun z => absurd z nf⟩, false, K1, K2, rfl, rfl, mnF_cr o3 o4, fun z => absurd z nf, fun _ => ⟨D', Dwn_m (by omega) i1, i2⟩⟩
  | true =>
    rw [if_pos rfl, if_pos rfl]
    obtain ⟨B1, s1, D1, H1, x1, i1, i2, i3, ⟨i4, i4'⟩, i5⟩ := o5 rfl
    have hL1 : LR q (H1.1 0) (H1.1 1) L K1 b K2 := by rw [i4 0 (by omega), i4 1 (by omega)]; exact LR_cr hL o3 o4
    have hp1 : plB (H1.1 0) (H1.1 1) := i3.pl
    have d1' : K1.1 56 10 = mz_b01 dry := by rw [o3.i 56 rfl]; exact d1
    have d2' : K2.1 232 67 = mz_b01 dry := by rw [o4.f 67 (by decide) (by decide) (by decide) (by decide) (by decide) (by decide)]; exact d2
    have ht1 : H1.2.1 5 0 = nI tm := i4'.trans ht
    have k9 := i2.ks.kc.2.2.2.2.2.2.2.2.2.2.1
    have r9 := i2.ks.kr.2.2.2.2.2.2.2.2.2.2.1
    have k11 := i2.ks.kc.2.2.2.2.2.2.2.2.2.2.2.2.1
    have r11 := i2.ks.kr.2.2.2.2.2.2.2.2.2.2.2.2.1
    have fe : ∀ j, nI (H1.1 7 j) = nI (b1 (decide (H1.1 7 j = 1))) := fun j => by
      have := i5 j
      rcases (show H1.1 7 j = 0 ∨ H1.1 7 j = 1 by omega) with z | z <;> rw [z] <;> rfl
    obtain ⟨a1, a2, w', cr', a3, a4, a5, a6, a7, a8⟩ := alarm_ok (p := q) (q := p) (N1 := K1) (N2 := K2) (tm := tm) (dry := dry) (fa := fun j => decide (H1.1 7 j = 1)) hp1 hL1.pl hL1.tg hL1.tgb hL1.sc hL1.sr hL1.sb (by omega) (by omega) hL1.ci hL1.kc hL1.kr hL1.kb.mo hL1.wa hw (k9.1.trans ht1) (by rw [r9.1, ht1, nI_L (by omega)]) d1' d2' (fun j hj => ⟨(k11 j hj).2.2.2.trans (fe j), (r11 j hj).2.2.2.trans (fe j)⟩)
    generalize hA1 : cf_261_0 K1 = A1 at a3 a5 a7
    generalize hA2 : cf_537_0 K2 = A2 at a3 a6 a8
    have cs2 : CS B1 s1 D1 H1 x1 A1 b A2 := ⟨KS_q i2.ks a5 a6 rfl rfl rfl rfl rfl rfl (fun f hf => a8 f (by omega)) (fun f _ => by rw [a6.2 232 rfl]), crC_f i2.cc a5 rfl rfl, crR_f i2.cr a6 rfl rfl (a8 96 (by decide)) (by rw [a6.2 232 rfl]) rfl⟩
    have hL2 : LR q (H1.1 0) (H1.1 1) (L.T, L.c, L.u, L.k, w', cr', L.R, L.S, L.sd) A1 b A2 := by
      have z43 : ∀ y, y < 52 → 43 ≤ y → ([81, 82, 83, 85, 86] : List Nat).contains y = false := by decide
      obtain ⟨q1, q2, q3, q4, q5, q6, q7, q8, q9, q10, q11, q12, q13, q14, q15, q16, q17, q18⟩ := hL1
      refine ⟨plW_q q1 a5 a6 rfl rfl (a8 7 (by decide)), prR_f q2 (fun z h1 h2 => a5.1 z (z43 z (by omega) h1)) (a8 28 (by decide)) (fun z h1 h2 => a6.1 z (by rcases (show z = 253 ∨ z = 254 ∨ z = 255 ∨ z = 256 by omega) with y | y | y | y <;> rw [y] <;> rfl)), q3, tgR_f q4 (a5.1 53 rfl) (a6.1 257 rfl), q5, ciR_f q6 (fun z h1 h2 => a5.1 z (by rcases (show z = 58 ∨ z = 59 ∨ z = 60 ∨ z = 61 by omega) with y | y | y | y <;> rw [y] <;> rfl)) (fun z h1 h2 => a6.1 z (by rcases (show z = 272 ∨ z = 273 ∨ z = 274 ∨ z = 275 by omega) with y | y | y | y <;> rw [y] <;> rfl)), q7, suC_f q8 (fun f _ _ => by rw [a5.1 56 rfl]), suR_f q9 (fun f h1 h2 => a8 f (by omega)) (by rw [a6.2 232 rfl]) (by rw [a6.2 232 rfl]), q10, clC_f q11 (fun z h1 h2 => a5.2 z rfl) (a5.1 72 rfl) (a5.1 73 rfl) (by rw [a5.1 65 rfl]), clR_f q12 (fun z h1 h2 => a6.2 z (by rcases (show z = 260 ∨ z = 261 ∨ z = 262 ∨ z = 263 ∨ z = 264 ∨ z = 265 by omega) with y | y | y | y | y | y <;> rw [y] <;> rfl)), q13, a3, ⟨?_, fun j hj => ?_⟩, poR_f q16 (fun z h1 h2 => a5.2 z rfl) (a5.1 99 rfl) (a6.2 286 rfl) (a6.1 285 rfl), q17, by rw [a5.2 56 rfl]; exact q18.1, by rw [a6.2 232 rfl]; exact q18.2⟩
      · have := a4.1; show w'.2.2.2 ≤ 18 * q; omega
      · have := a4.2 j hj; show cr' j ≤ q; omega
    obtain ⟨y1, y2, y3, w2, E1, E2, z1, z2, z3, z4, z5⟩ := end_ok (p := p) (tm := tm) (show B1 + 1 < 2 ^ 30 by omega) cs2 hL2 i3.kb hp1 hq hR hpq ht1 ht2
    have MF : mnF N1 N2 A1 A2 := mnF_t (mnF_cr o3 o4) ⟨fq_sub a5 rfl rfl, fq_sub a6 rfl rfl, fun f hf => a8 f (fun y => by rw [y] at hf; cases hf), by rw [a6.2 232 rfl]⟩
    rw [z1]
    refine ⟨⟨p1, fun _ => ⟨a1, y1⟩, fun z => absurd rfl z⟩, ⟨p2, fun _ => ⟨a2, y2, y3⟩⟩, w2, E1, E2, rfl, z2, mnF_t MF z3, fun hw2 => ?_, fun hw2 => ⟨D1, Dwn_m (by omega) (z5 hw2), i3.jd⟩⟩
    obtain ⟨B', s', D', G, L', j1, j2, j3, j4, ⟨ja, ji, jt, jc⟩, j6, j7, j8⟩ := z4 hw2
    have eG1 : G.1 = H1.1 := ja
    have eG2 : ∀ f, f ≠ 2 → f ≠ 3 → f ≠ 4 → f ≠ 5 → G.2.1 f = H1.2.1 f := fun f a c d e => by rw [ji f a c d e, kI_1 f e]
    have eGt : G.2.1 5 0 = nI (tm + 1) := jt
    have eGc : G.2.1 5 2 = H1.2.1 5 2 ∨ G.2.1 5 2 = 0 := jc
    have KA1 : KA D1 G := KA_pb (l := []) i3.ka gka_n al_n (fun f _ => by rw [eG1]) (fun f hf => eG2 f (by omega) (by omega) (by omega) (by omega))
    have ds1 : tDs G := by
      unfold tDs
      rw [eG1, eG2 11 (by decide) (by decide) (by decide) (by decide)]; exact i3.ds
    have KJ : KA D' G ∧ Jd q D' := by
      rcases j6 with z | z
      · rw [z]; exact ⟨KA1, i3.jd⟩
      · have ha := dM_a 3 (by omega)
        have hA : KA (DG (gkl (dM 3)) D1 G (dM 3).length) G := KA_pb (l := dM 3) KA1 ha (fun k hk => kxt_n (by have := dM_m 3 k hk; omega)) (fun _ _ => rfl) (fun _ _ => rfl)
        rw [z]
        exact ⟨hA, Jd_DG i3.jd j4 ds1 hA (fun k hk => by have := dM_m 3 k hk; omega) ha⟩
    refine ⟨B', s', D', G, x1, L', by omega, j2, by rw [← i4 0 (by omega), ← i4 1 (by omega)]; exact j3, ⟨KJ.2, j4, by rw [eG1]; exact hp1, by rw [eG1]; exact i3.pr, ds1, KJ.1, ?_, ?_⟩, eGt, fun f hf => by rw [eG1]; exact i4 f hf, j7, j8.1, fun j hj => j8.2 j (by rw [i4 19 (by omega)]; exact hj)⟩
    · obtain ⟨⟨tm', t1, t2, t3⟩, c2, ⟨cr, r1, r2⟩, c4, c5, c6, c7, c8, c9, c10, c11⟩ := i3.ci
      have etm : tm' = tm := by rw [t2] at ht1; exact (nI_eq (by omega) (by omega)).mp ht1
      refine ⟨⟨tm + 1, by omega, eGt, fun i hi => ?_⟩, c2, ?_, c4, c5, c6, by rw [eG1]; exact c7, c8, c9, c10, by rw [eG1, eG2 11 (by decide) (by decide) (by decide) (by decide)]; exact c11⟩
      · have := t3 i hi
        rw [etm] at this
        have e1 : b1 true = 1 := rfl
        have e0 : b1 false = 0 := rfl
        omega
      · rcases eGc with z | z
        · exact ⟨cr, by rw [z]; exact r1, r2⟩
        · exact ⟨0, by rw [z]; rfl, by omega⟩
    · have := i3.nn
      show x1.nn + 0 ≤ _
      omega
end Lt
