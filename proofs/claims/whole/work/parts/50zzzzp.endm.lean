/-! PURE (50zzzzp): the end of a minute, both sides together. -/
section En
variable {N1 N2 : mz_N} {b : Bool} {B q tm : Nat} {s : st_S} {D H : Kp} {x : CrS} {L : LvS} {e fl : Nat → Nat}
/-- cells that do not matter to what lives -/
theorem LR_x {M1 M2 : mz_N} (h : LR q e fl L N1 b N2) (c1 : ∀ z, z < 100 → M1.1 z = N1.1 z) (l1 : ∀ z, z < 100 → M1.2 z = N1.2 z) (c2 : ∀ z, 233 ≤ z → z ≤ 286 → M2.1 z = N2.1 z) (l2 : ∀ z, 233 ≤ z → z ≤ 286 → M2.2 z = N2.2 z) (i2 : ∀ f, f < 87 → M2.1 232 f = N2.1 232 f) (j2 : ∀ f, f = 1 ∨ f = 66 ∨ f = 68 → M2.2 232 f = N2.2 232 f) : LR q e fl L M1 b M2 := by
  obtain ⟨p1, p2, p3, p4, p5, p6, p7, p8, p9, p10, p11, p12, p13, p14, p15, p16, p17, p18⟩ := h
  refine ⟨plW_f p1 (fun z hz => c1 z ?_) (fun z hz => ?_) (i2 7 (by omega)), prR_f p2 (fun z h1 h2 => c1 z (by omega)) (i2 28 (by omega)) (fun z h1 h2 => c2 z (by omega) (by omega)), p3, tgR_f p4 (c1 53 (by omega)) (c2 257 (by omega) (by omega)), p5, ciR_f p6 (fun z h1 h2 => c1 z (by omega)) (fun z h1 h2 => c2 z (by omega) (by omega)), p7, suC_f p8 (fun f _ _ => by rw [c1 56 (by omega)]), suR_f p9 (fun f h1 h2 => i2 f (by omega)) (j2 68 (by omega)) (j2 66 (by omega)), p10, clC_f p11 (fun z _ _ => l1 z (by omega)) (c1 72 (by omega)) (c1 73 (by omega)) (by rw [c1 65 (by omega)]), clR_f p12 (fun z h1 h2 => l2 z (by omega) (by omega)), p13, waR_f p14 (fun z hz => c1 z (by omega)) (by rw [c1 81 (by omega)]) (fun z h1 h2 => c2 z (by omega) (by omega)) (l2 281 (by omega) (by omega)) (i2 72 (by omega)), p15, poR_f p16 (fun z _ _ => l1 z (by omega)) (c1 99 (by omega)) (l2 286 (by omega) (by omega)) (c2 285 (by omega) (by omega)), p17, by rw [l1 56 (by omega)]; exact p18.1, by rw [j2 1 (by omega)]; exact p18.2⟩
  · have : ∀ y, plA.contains y = true → y < 100 := fun y hy => by
      have h1 := List.all_eq_true.mp (show plA.all (fun y => decide (y < 100)) = true from rfl) y (by simpa using hy)
      exact of_decide_eq_true h1
    exact this z hz
  · have : ∀ y, plR.contains y = true → 233 ≤ y ∧ y ≤ 286 := fun y hy => by
      have h1 := List.all_eq_true.mp (show plR.all (fun y => decide (233 ≤ y ∧ y ≤ 286)) = true from rfl) y (by simpa using hy)
      exact of_decide_eq_true h1
    exact c2 z (this z hz).1 (this z hz).2
/-- time goes on -/
theorem time_ok (h : CS B s D H x N1 b N2) (ht : H.2.1 5 0 = nI tm) (ht2 : tm ≤ 2000000) : CS B s D (kI H 5 0 (nI (tm + 1))) x (mz_pI N1 208 0 (N1.1 208 0 + 1)) b (mz_pL N2 232 2 (N2.2 232 2 + 1)) ∧ (mz_pI N1 208 0 (N1.1 208 0 + 1)).1 208 0 = nI (tm + 1) ∧ (mz_pL N2 232 2 (N2.2 232 2 + 1)).2 232 2 = lN (tm + 1) := by
  have k9 := h.ks.kc.2.2.2.2.2.2.2.2.2.2.1
  have r9 := h.ks.kr.2.2.2.2.2.2.2.2.2.2.1
  have e1 : N1.1 208 0 + 1 = nI (tm + 1) := by rw [k9.1, ht, nI_1]
  have e2 : N2.2 232 2 + 1 = lN (tm + 1) := by rw [r9.1, ht, nI_L (by omega)]; exact lN_1 _
  rw [e1, e2]
  have f1 : fq [208] [] N1 (mz_pI N1 208 0 (nI (tm + 1))) := fq_pI (fq_refl _ _ _) rfl
  have f2 : fq [] [232] N2 (mz_pL N2 232 2 (lN (tm + 1))) := fq_pL (fq_refl _ _ _) rfl
  have a1 : ∀ f, f ≠ 0 → (mz_pI N1 208 0 (nI (tm + 1))).1 208 f = N1.1 208 f := fun f hf => by rw [pI_s, sI_e, up_a, if_neg hf]
  have a2 : ∀ f, f ≠ 2 → (mz_pL N2 232 2 (lN (tm + 1))).2 232 f = N2.2 232 f := fun f hf => by rw [pL_s, sL_e, upL_a, if_neg hf]
  have b1' : (mz_pI N1 208 0 (nI (tm + 1))).1 208 0 = nI (tm + 1) := by rw [pI_s, sI_e, up_a, if_pos rfl]
  have b2 : (mz_pL N2 232 2 (lN (tm + 1))).2 232 2 = lN (tm + 1) := by rw [pL_s, sL_e, upL_a, if_pos rfl]
  refine ⟨⟨KS_B h.ks (stK_of f1 f2 rfl rfl (fun f _ => by rw [f2.1 232 rfl]) (a2 134 (by decide))) rfl ?_ ?_, crC_f h.cc f1 rfl rfl, crR_f h.cr f2 rfl rfl (by rw [f2.1 232 rfl]) (a2 87 (by decide)) rfl⟩, b1', b2⟩
  · refine ckp_9 h.ks.kc f1 rfl rfl (fun _ => rfl) kI_1 (fun _ _ => rfl) ?_
    rw [b1', a1 3 (by decide), a1 4 (by decide), f1.2 208 rfl]
    exact ⟨rfl, k9.2.1, k9.2.2.1, k9.2.2.2.1, k9.2.2.2.2⟩
  · refine rkp_9 h.ks.kr f2 rfl rfl (by rw [f2.1 232 rfl]) (by rw [f2.1 232 rfl]) (fun _ => rfl) kI_1 (fun _ _ => rfl) ?_
    rw [b2, a2 122 (by decide), a2 123 (by decide), a2 124 (by decide), a2 125 (by decide)]
    exact ⟨(nI_L (by omega)).symm, r9.2.1, r9.2.2.1, r9.2.2.2.1, r9.2.2.2.2⟩
/-- the seed, and points that are not told -/
def LsF (H : Kp) (L L' : LvS) : Prop := L'.sd = L.sd ∧ ∀ j, H.1 19 j ≠ 1 → L'.R.2 j = L.R.2 j
theorem ptA_k {pr : Nat → Bool} {v : Nat → Int64} {R : ptR} {i : Nat} (hi : pr i = false) : ∀ t, (ptA pr v t R).2 i = R.2 i := by
  intro t
  induction t with
  | zero => rfl
  | succ t ih =>
    rw [ptA_s]
    unfold pt1
    split
    · rename_i w
      show up _ t _ i = _
      rw [up_d, if_neg (fun z => by rw [z, w] at hi; cases hi)]
      exact ih
    · exact ih
/-- points note what they see -/
theorem pts_ok {p : Nat} (h : CS B s D H x N1 b N2) (hL : LR q (H.1 0) (H.1 1) L N1 b N2) (hK : KB q H) (hp : plB (H.1 0) (H.1 1)) (hq : q < 2 ^ 15) (hR : ∀ j, j < 8 → L.R.2 j ≤ 8 * p) (hpq : p + 1 ≤ q) :
    cp_269_0 N1 ∧ cp_539_0 N2 ∧ ∃ L' : LvS, CS B s D H x (cf_269_0 N1) b (cf_539_0 N2) ∧ LR q (H.1 0) (H.1 1) L' (cf_269_0 N1) b (cf_539_0 N2) ∧ fq [99] ptB N1 (cf_269_0 N1) ∧ fq [285] [286] N2 (cf_539_0 N2) ∧ L'.S = L.S ∧ LsF H L L' := by
  obtain ⟨gs, g0, g1⟩ := hK.gs
  have k9 := h.ks.kc.2.2.2.2.2.2.2.2.2.2.1
  have r9 := h.ks.kr.2.2.2.2.2.2.2.2.2.2.1
  have k15 := h.ks.kc.2.2.2.2.2.2.2.2.2.2.2.2.2.2.2.2
  have r15 := h.ks.kr.2.2.2.2.2.2.2.2.2.2.2.2.2.2.2.2
  have b19 : ∀ j, H.1 19 j ≤ 1 := h.ks.hb.2.2.2.2.2.2.2.2.2.2.2.2.2.2.2.1
  have hsb := hL.sb
  have t1 := hsb.tk
  have t2 := hsb.st
  have t3 := hsb.ch
  have pr : ∀ j, nI (H.1 19 j) = nI (b1 (decide (H.1 19 j = 1))) := fun j => by
    have := b19 j
    rcases (show H.1 19 j = 0 ∨ H.1 19 j = 1 by omega) with w | w <;> rw [w] <;> rfl
  obtain ⟨a1, K1, a2, a3, a4⟩ := point_c (N := N1) (e := H.1 0) (fl := H.1 1) (R := L.R) (pr := fun j => decide (H.1 19 j = 1)) (kd := H.1 20) (ar := H.1 21) (L := L.c.1) (tk := L.u.tk) (ho := L.u.st) (ch := L.u.ch) (fu := gs) (v := fun j => ptv (H.1 0) (H.1 1) L.k.h L.k.sa L.c.1 L.u.tk L.u.st L.u.ch gs (H.1 20 j) (H.1 21 j)) hp.n hL.pl.1 hL.po.1 (fun j hj => by have := hR j hj; omega) (fun j hj => ⟨(k15 j hj).1.trans (pr j), fun z => by
    have z' := of_decide_eq_true z
    exact ⟨((k15 j hj).2 z').1, ((k15 j hj).2 z').2, hK.pt j hj z'⟩⟩) (fun j hj => ⟨(hL.ci j hj).1.1, by have := (hL.cib j hj).1; omega⟩) hL.sc.tk (by omega) hL.sc.st (by omega) hL.sc.ch (by omega) (k9.2.2.2.1.trans g1) (by omega) (fun j => (ptv_cg hL.kc.h hL.kc.sa).symm)
  obtain ⟨r1, K2, r2, r3, r4⟩ := point_r (N := N2) (e := H.1 0) (fl := H.1 1) (R := L.R) (pr := fun j => decide (H.1 19 j = 1)) (kd := H.1 20) (ar := H.1 21) (L := L.c.1) (tk := L.u.tk) (ho := L.u.st) (ch := L.u.ch) (fu := gs) (v := fun j => ptv (H.1 0) (H.1 1) L.k.h L.k.sa L.c.1 L.u.tk L.u.st L.u.ch gs (H.1 20 j) (H.1 21 j)) hp.n hL.pl.2 hL.po.2 (fun j hj => by have := hR j hj; omega) (fun j hj => ⟨(r15 j hj).1.trans (pr j), fun z => by
    have z' := of_decide_eq_true z
    exact ⟨((r15 j hj).2 z').1, ((r15 j hj).2 z').2, hK.pt j hj z'⟩⟩) (fun j hj => ⟨(hL.ci j hj).1.2, by have := (hL.cib j hj).1; omega⟩) hL.sr.tk (by omega) hL.sr.st (by omega) hL.sr.ch (by omega) (by rw [r9.2.2.2.1, g1, nI_L (by omega)]) (fun j => (ptv_cg hL.kr.h hL.kr.sa).symm)
  rw [a2, r2]
  have pn := fun i => ptA_n (pr := fun j => decide (H.1 19 j = 1)) (v := fun j => ptv (H.1 0) (H.1 1) L.k.h L.k.sa L.c.1 L.u.tk L.u.st L.u.ch gs (H.1 20 j) (H.1 21 j)) (R := L.R) (i := i) 8
  have pk : ∀ i, H.1 19 i ≠ 1 → (ptA (fun j => decide (H.1 19 j = 1)) (fun j => ptv (H.1 0) (H.1 1) L.k.h L.k.sa L.c.1 L.u.tk L.u.st L.u.ch gs (H.1 20 j) (H.1 21 j)) 8 L.R).2 i = L.R.2 i := fun i hi => ptA_k (decide_eq_false hi) 8
  generalize ptA (fun j => decide (H.1 19 j = 1)) (fun j => ptv (H.1 0) (H.1 1) L.k.h L.k.sa L.c.1 L.u.tk L.u.st L.u.ch gs (H.1 20 j) (H.1 21 j)) 8 L.R = R' at *
  refine ⟨a1, r1, (L.T, L.c, L.u, L.k, L.w, L.cr, R', L.S, L.sd), ⟨KS_q h.ks a3 r3 rfl rfl rfl rfl rfl rfl (fun f _ => by rw [r3.1 232 rfl]) (fun f _ => by rw [r3.2 232 rfl]), crC_f h.cc a3 rfl rfl, crR_f h.cr r3 rfl rfl (by rw [r3.1 232 rfl]) (by rw [r3.2 232 rfl]) rfl⟩, ?_, a3, r3, rfl, rfl, pk⟩
  obtain ⟨p1, p2, p3, p4, p5, p6, p7, p8, p9, p10, p11, p12, p13, p14, p15, p16, p17, p18⟩ := hL
  refine ⟨plW_q p1 a3 r3 rfl rfl (by rw [r3.1 232 rfl]), prR_f p2 (fun z h1 h2 => a3.1 z (by have : ∀ y, y < 52 → 43 ≤ y → ([99] : List Nat).contains y = false := by decide
                                                                                             exact this z (by omega) h1)) (by rw [r3.1 232 rfl]) (fun z h1 h2 => r3.1 z (by rcases (show z = 253 ∨ z = 254 ∨ z = 255 ∨ z = 256 by omega) with w | w | w | w <;> rw [w] <;> rfl)), p3, tgR_f p4 (a3.1 53 rfl) (r3.1 257 rfl), p5, ciR_f p6 (fun z h1 h2 => a3.1 z (by rcases (show z = 58 ∨ z = 59 ∨ z = 60 ∨ z = 61 by omega) with w | w | w | w <;> rw [w] <;> rfl)) (fun z h1 h2 => r3.1 z (by rcases (show z = 272 ∨ z = 273 ∨ z = 274 ∨ z = 275 by omega) with w | w | w | w <;> rw [w] <;> rfl)), p7, suC_f p8 (fun f _ _ => by rw [a3.1 56 rfl]), suR_f p9 (fun f _ _ => by rw [r3.1 232 rfl]) (by rw [r3.2 232 rfl]) (by rw [r3.2 232 rfl]), p10, clC_f p11 (fun z h1 h2 => a3.2 z (by rcases (show z = 68 ∨ z = 69 ∨ z = 70 ∨ z = 71 by omega) with w | w | w | w <;> rw [w] <;> rfl)) (a3.1 72 rfl) (a3.1 73 rfl) (by rw [a3.1 65 rfl]), clR_f p12 (fun z h1 h2 => r3.2 z (by rcases (show z = 260 ∨ z = 261 ∨ z = 262 ∨ z = 263 ∨ z = 264 ∨ z = 265 by omega) with w | w | w | w | w | w <;> rw [w] <;> rfl)), p13, waR_f p14 (fun z hz => a3.1 z (by rcases hz with w | w | w | w <;> rw [w] <;> rfl)) (by rw [a3.1 81 rfl]) (fun z h1 h2 => r3.1 z (by rcases (show z = 278 ∨ z = 279 ∨ z = 280 by omega) with w | w | w <;> rw [w] <;> rfl)) (r3.2 281 rfl) (by rw [r3.1 232 rfl]), p15, ⟨a4, r4⟩, fun j hj => ?_, by rw [a3.2 56 rfl]; exact p18.1, by rw [r3.2 232 rfl]; exact p18.2⟩
  have h1 := pn j
  have h2 := hR j hj
  show R'.2 j ≤ 8 * q
  omega
/-- the books behind the month's bills -/
def blH (H : Kp) (K : mz_N) : Kp := (H.1, up (up (up (up H.2.1 2 (K.1 210)) 3 (K.1 211)) 4 (K.1 212)) 5 (up (up (H.2.1 5) 1 0) 2 0), fun f => if f = 0 then K.2 213 else if f = 1 then K.2 214 else if f = 2 then (fun j => if j = 0 then K.2 208 1 else K.2 208 2) else H.2.2 f)
theorem blH_2 {K : mz_N} : ∀ f, f ≠ 2 → f ≠ 3 → f ≠ 4 → f ≠ 5 → (blH H K).2.1 f = H.2.1 f := fun f h2 h3 h4 h5 => by
  show up (up (up (up H.2.1 2 _) 3 _) 4 _) 5 _ f = _
  rw [up_d, if_neg h5, up_d, if_neg h4, up_d, if_neg h3, up_d, if_neg h2]
theorem blH_3 {K : mz_N} : ∀ f, f ≠ 0 → f ≠ 1 → f ≠ 2 → (blH H K).2.2 f = H.2.2 f := fun f h0 h1 h2 => by
  show (if f = 0 then _ else if f = 1 then _ else if f = 2 then _ else H.2.2 f) = _
  rw [if_neg h0, if_neg h1, if_neg h2]
theorem bill_ok (h : CS B s D H x N1 b N2) (hL : LR q (H.1 0) (H.1 1) L N1 b N2) (hK : KB q H) (hq : q < 2 ^ 15) :
    cp_272_0 N1 ∧ cp_541_0 N2 ∧ ∃ G : Kp, CS B s D G x (cf_272_0 N1) b (cf_541_0 N2) ∧ LR q (H.1 0) (H.1 1) L (cf_272_0 N1) b (cf_541_0 N2) ∧ KB q G ∧ G.1 = H.1 ∧ (∀ f, f ≠ 2 → f ≠ 3 → f ≠ 4 → f ≠ 5 → G.2.1 f = H.2.1 f) ∧ G.2.1 5 0 = H.2.1 5 0 ∧ G.2.1 5 2 = 0 ∧ fq [208, 210, 211, 212] [208, 213, 214, 216, 217, 218] N1 (cf_272_0 N1) ∧ fq [] [232, 321, 322, 323, 324, 325, 326, 327, 328] N2 (cf_541_0 N2) ∧ (∀ f, f ≠ 3 → f ≠ 4 → (cf_272_0 N1).1 208 f = N1.1 208 f) ∧ ∀ f, f ≠ 122 → f ≠ 123 → f ≠ 124 → f ≠ 125 → (cf_541_0 N2).2 232 f = N2.2 232 f := by
  obtain ⟨m0, hm0⟩ := nat_tab (C := 100000000 + 15000 * q) (by omega) hK.m0
  obtain ⟨m1, hm1⟩ := nat_tab (C := 100000000 + 2000 * q) (by omega) hK.m1
  obtain ⟨m2, hm2⟩ := nat_tab (C := 100000000 + 10 * q) (by omega) hK.m2
  obtain ⟨gs, g0, g1⟩ := hK.gs
  obtain ⟨cr, cr0, cr1⟩ := hK.cr
  obtain ⟨p1, p10, p11⟩ := hK.pr 1 (by omega) (by omega)
  obtain ⟨p2, p20, p21⟩ := hK.pr 2 (by omega) (by omega)
  obtain ⟨p3, p30, p31⟩ := hK.pr 3 (by omega) (by omega)
  have k8 := h.ks.kc.2.2.2.2.2.2.2.2.1
  have r8 := h.ks.kr.2.2.2.2.2.2.2.2.1
  have k8b := h.ks.kc.2.2.2.2.2.2.2.2.2.1
  have r8b := h.ks.kr.2.2.2.2.2.2.2.2.2.1
  have k9 := h.ks.kc.2.2.2.2.2.2.2.2.2.2.1
  have r9 := h.ks.kr.2.2.2.2.2.2.2.2.2.2.1
  have k10 := h.ks.kc.2.2.2.2.2.2.2.2.2.2.2.1
  have r10 := h.ks.kr.2.2.2.2.2.2.2.2.2.2.2.1
  obtain ⟨ar, har⟩ : ∃ f : Nat → Nat, ∀ i, f i = pl_ar (H.1 0) (H.1 1) i := ⟨_, fun _ => rfl⟩
  have hab : ∀ i, ar i ≤ 240 := fun i => by rw [har]; exact ar_b
  have hok : blI.ok (gs, cr, p1, p2, p3, m0, m1, m2, ar) := ⟨by show gs ≤ _; omega, by show cr ≤ _; omega, p10, p20, p30, fun i hi => by have := (hm0 i hi).2; show m0 i ≤ _; omega, fun i hi => by have := (hm1 i hi).2; show m1 i ≤ _; omega, fun i hi => by have := (hm2 i hi).2; show m2 i ≤ _; omega, fun i hi => hab i⟩
  have hC : blC N1 (gs, cr, p1, p2, p3, m0, m1, m2, ar) := ⟨k9.2.2.2.1.trans g1, k9.2.2.2.2.trans cr1, (k10 1 (by omega)).trans p11, (k10 2 (by omega)).trans p21, (k10 3 (by omega)).trans p31, fun i hi => (k8 i hi).1.trans (hm0 i hi).1, fun i hi => (k8 i hi).2.1.trans (hm1 i hi).1, fun i hi => (k8 i hi).2.2.trans (hm2 i hi).1, fun i hi => by show _ = nI (ar i); rw [har]; exact (hL.pl.1.2.2.2.2.2 i hi).2⟩
  have hR : blR N2 (gs, cr, p1, p2, p3, m0, m1, m2, ar) := ⟨by rw [r9.2.2.2.1, g1, nI_L (by omega)], by rw [r9.2.2.2.2, cr1, nI_L (by omega)], (r10.2 0 (by omega)).trans p11, (r10.2 1 (by omega)).trans p21, (r10.2 2 (by omega)).trans p31, fun i hi => by rw [(r8 i hi).1, (hm0 i hi).1, nI_L (by have := (hm0 i hi).2; omega)], fun i hi => by rw [(r8 i hi).2.1, (hm1 i hi).1, nI_L (by have := (hm1 i hi).2; omega)], fun i hi => by rw [(r8 i hi).2.2, (hm2 i hi).1, nI_L (by have := (hm2 i hi).2; omega)], fun i hi => by show _ = nI (ar i); rw [har]; exact (hL.pl.2.2.2.2.2.2 i hi).2⟩
  obtain ⟨a1, a2⟩ := bil_c hC hok
  obtain ⟨b1', b2⟩ := bil_r hR hok
  have eL : N2.2 232 123 = N1.2 208 2 := r9.2.2.1.trans k9.2.2.1.symm
  obtain ⟨c1, c2, c3, c4, c5, c6, c7, c8⟩ := a2
  obtain ⟨d1, d2, d3, d4, d5, d6, d7, d8, d9⟩ := b2
  rw [eL] at d2 d3 d6
  generalize blX (gs, cr, p1, p2, p3, m0, m1, m2, ar) (N1.2 208 2) = X at *
  generalize blI.cost (gs, cr, p1, p2, p3, m0, m1, m2, ar) = cost at *
  generalize cf_272_0 N1 = K1 at *
  generalize cf_541_0 N2 = K2 at *
  have i208 : ∀ f, f ≠ 3 → f ≠ 4 → K1.1 208 f = N1.1 208 f := fun f h3 h4 => by rw [c8, up_a, if_neg h4, up_a, if_neg h3]
  have z3 : K1.1 208 3 = 0 := by rw [c8, up_a, if_neg (by decide), up_a, if_pos rfl]
  have z4 : K1.1 208 4 = 0 := by rw [c8, up_a, if_pos rfl]
  refine ⟨a1, b1', blH H K1, ⟨KS_B h.ks (stK_of c1 d1 rfl rfl (fun f _ => by rw [d1.1 232 rfl]) (d5 134 (by decide) (by decide) (by decide) (by decide))) rfl ?_ ?_, crC_f h.cc c1 rfl rfl, crR_f h.cr d1 rfl rfl (by rw [d1.1 232 rfl]) (d5 87 (by decide) (by decide) (by decide) (by decide)) rfl⟩, ?_, ?_, rfl, blH_2, rfl, rfl, c1, d1, i208, d5⟩
  · refine ckp_B h.ks.kc c1 rfl rfl (fun _ => rfl) blH_2 blH_3 (fun j hj => ⟨rfl, rfl, rfl⟩) (fun j hj => ⟨rfl, rfl⟩) ⟨?_, rfl, rfl, z3, z4⟩
    rw [i208 0 (by decide) (by decide)]; exact k9.1
  · refine rkp_B h.ks.kr d1 rfl rfl (by rw [d1.1 232 rfl]) (by rw [d1.1 232 rfl]) (fun _ => rfl) blH_2 blH_3 (fun j hj => ?_) (fun j hj => ?_) ⟨?_, ?_, ?_, ?_, ?_⟩
    · show _ = (K1.1 210 j).toInt64 ∧ _ = (K1.1 211 j).toInt64 ∧ _ = (K1.1 212 j).toInt64
      have x0 : K1.1 210 j = 0 := c7 0 (by omega) j hj
      have x1 : K1.1 211 j = 0 := c7 1 (by omega) j hj
      have x2 : K1.1 212 j = 0 := c7 2 (by omega) j hj
      have y0 : K2.2 321 j = 0 := d7 0 (by omega) j hj
      have y1 : K2.2 322 j = 0 := d7 1 (by omega) j hj
      have y2 : K2.2 323 j = 0 := d7 2 (by omega) j hj
      rw [x0, x1, x2, y0, y1, y2]
      exact ⟨rfl, rfl, rfl⟩
    · show _ = K1.2 213 j ∧ _ = K1.2 214 j
      rw [d6 j hj, d2 j hj, c6 j hj, c2 j hj, (r8b j hj).1, (k8b j hj).1]
      exact ⟨rfl, rfl⟩
    · rw [d5 2 (by decide) (by decide) (by decide) (by decide)]; exact r9.1
    · show _ = K1.2 208 1
      rw [d4, c4, r9.2.1, k9.2.1]
    · show _ = K1.2 208 2
      rw [d3, c3]
    · rw [d8]; rfl
    · rw [d9]; rfl
  · refine LR_x hL (fun z hz => c1.1 z ?_) (fun z hz => c1.2 z ?_) (fun z h1 h2 => d1.1 z rfl) (fun z h1 h2 => d1.2 z ?_) (fun f _ => by rw [d1.1 232 rfl]) (fun f hf => d5 f (by omega) (by omega) (by omega) (by omega))
    · have : ∀ y, y < 100 → ([208, 210, 211, 212] : List Nat).contains y = false := by decide +kernel
      exact this z hz
    · have : ∀ y, y < 100 → ([208, 213, 214, 216, 217, 218] : List Nat).contains y = false := by decide +kernel
      exact this z hz
    · have : ∀ y, y < 287 → 233 ≤ y → ([232, 321, 322, 323, 324, 325, 326, 327, 328] : List Nat).contains y = false := by decide +kernel
      exact this z (by omega) h1
  · obtain ⟨e1, e2, e3, e4, e5, e6, e7, e8, e9, e10, e11, e12, e13, e14, e15, e16, e17⟩ := hK
    exact ⟨e1, e2, e3, e4, e5, e6, fun j hj => ⟨0, Nat.zero_le _, c7 0 (by omega) j hj⟩, fun j hj => ⟨0, Nat.zero_le _, c7 1 (by omega) j hj⟩, fun j hj => ⟨0, Nat.zero_le _, c7 2 (by omega) j hj⟩, e10, ⟨0, Nat.zero_le _, rfl⟩, ⟨0, Nat.zero_le _, rfl⟩, e13, e14, e15, e16, e17⟩
end En
