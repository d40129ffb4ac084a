/-! PURE (50zzzzz): telling something: what all such calls share. -/
def lrA : List Nat := plA ++ [43, 44, 45, 46, 47, 48, 49, 50, 51, 52, 53, 56, 58, 59, 60, 61, 65, 72, 73, 81, 82, 83, 85, 86, 99]
def lrB : List Nat := [56, 68, 69, 70, 71, 91, 92, 93, 94, 95, 96, 97, 98]
def lrC : List Nat := plR ++ [253, 254, 255, 256, 257, 272, 273, 274, 275, 278, 279, 280, 285]
def lrD : List Nat := [260, 261, 262, 263, 264, 265, 281, 286]
section Tl
variable {N1 N2 M1 M2 : mz_N} {b : Bool} {B q : Nat} {s : st_S} {D H G : Kp} {x : CrS} {L L' : LvS} {R : RsS} {e fl : Nat → Nat} {l : List (Nat × Nat)}
theorem LR_q {A1 B1 A2 B2 : List Nat} (h : LR q e fl L N1 b N2) (f1 : fq A1 B1 N1 M1) (f2 : fq A2 B2 N2 M2) (a1 : lrA.all (fun c => !A1.contains c) = true) (b1' : lrB.all (fun c => !B1.contains c) = true) (a2 : lrC.all (fun c => !A2.contains c) = true) (b2 : lrD.all (fun c => !B2.contains c) = true) (i2 : ∀ f, f = 7 ∨ f = 28 ∨ (52 ≤ f ∧ f ≤ 65) ∨ f = 72 → M2.1 232 f = N2.1 232 f) (j2 : ∀ f, f = 1 ∨ f = 66 ∨ f = 68 → M2.2 232 f = N2.2 232 f) : LR q e fl L M1 b M2 := by
  have c1 : ∀ z, lrA.contains z = true → M1.1 z = N1.1 z := fun z hz => f1.1 z (ct_nt a1 hz)
  have l1 : ∀ z, lrB.contains z = true → M1.2 z = N1.2 z := fun z hz => f1.2 z (ct_nt b1' hz)
  have c2 : ∀ z, lrC.contains z = true → M2.1 z = N2.1 z := fun z hz => f2.1 z (ct_nt a2 hz)
  have l2 : ∀ z, lrD.contains z = true → M2.2 z = N2.2 z := fun z hz => f2.2 z (ct_nt b2 hz)
  have r1 : ∀ z, z < 53 → 43 ≤ z → lrA.contains z = true := by decide +kernel
  have r2 : ∀ z, z < 257 → 253 ≤ z → lrC.contains z = true := by decide +kernel
  have r3 : ∀ z, z < 276 → 272 ≤ z → lrC.contains z = true := by decide +kernel
  have r4 : ∀ z, z < 281 → 278 ≤ z → lrC.contains z = true := by decide +kernel
  have r5 : ∀ z, z < 62 → 58 ≤ z → lrA.contains z = true := by decide +kernel
  have r6 : ∀ z, z < 72 → 68 ≤ z → lrB.contains z = true := by decide +kernel
  have r7 : ∀ z, z < 99 → 91 ≤ z → lrB.contains z = true := by decide +kernel
  have r8 : ∀ z, z < 266 → 260 ≤ z → lrD.contains z = true := by decide +kernel
  obtain ⟨p1, p2, p3, p4, p5, p6, p7, p8, p9, p10, p11, p12, p13, p14, p15, p16, p17, p18⟩ := h
  refine ⟨plW_f p1 (fun z hz => c1 z ?_) (fun z hz => c2 z ?_) (i2 7 (by omega)), prR_f p2 (fun z h1 h2 => c1 z (r1 z (by omega) h1)) (i2 28 (by omega)) (fun z h1 h2 => c2 z (r2 z (by omega) h1)), p3, tgR_f p4 (c1 53 rfl) (c2 257 rfl), p5, ciR_f p6 (fun z h1 h2 => c1 z (r5 z (by omega) h1)) (fun z h1 h2 => c2 z (r3 z (by omega) h1)), p7, suC_f p8 (fun f _ _ => by rw [c1 56 rfl]), suR_f p9 (fun f h1 h2 => i2 f (by omega)) (j2 68 (by omega)) (j2 66 (by omega)), p10, clC_f p11 (fun z h1 h2 => l1 z (r6 z (by omega) h1)) (c1 72 rfl) (c1 73 rfl) (by rw [c1 65 rfl]), clR_f p12 (fun z h1 h2 => l2 z (r8 z (by omega) h1)), p13, waR_f p14 (fun z hz => by rcases hz with w | w | w | w <;> subst w <;> exact c1 _ rfl) (by rw [c1 81 rfl]) (fun z h1 h2 => c2 z (r4 z (by omega) h1)) (l2 281 rfl) (i2 72 (by omega)), p15, poR_f p16 (fun z h1 h2 => l1 z (r7 z (by omega) h1)) (c1 99 rfl) (l2 286 rfl) (c2 285 rfl), p17, by rw [l1 56 rfl]; exact p18.1, by rw [j2 1 (by omega)]; exact p18.2⟩
  · have : z ∈ plA := by simpa using hz
    simp [lrA, this]
  · have : z ∈ plR := by simpa using hz
    simp [lrC, this]
/-- the live text, the live doors are as the durable ones -/
theorem MR_tx (h : MR q B s D H x L N1 b N2) : txo H := fun j hj => by
  have k7 : D.1 5 0 = H.1 5 0 := h.iv.ka 33 (by decide) (Or.inl (by decide))
  have hb5 := h.cs.ks.hb.2.2.2.2.1
  have e : D.1 4 j = H.1 4 j := by
    have kk : ∀ i, i < 7 → ∀ z, 28 * i ≤ z → z < 28 * i + 28 → D.1 4 z = H.1 4 z := fun i hi => by
      rcases (show i = 0 ∨ i = 1 ∨ i = 2 ∨ i = 3 ∨ i = 4 ∨ i = 5 ∨ i = 6 by omega) with w | w | w | w | w | w | w <;> subst w
      · exact h.iv.ka 26 (by decide) (Or.inl (by decide))
      · exact h.iv.ka 27 (by decide) (Or.inl (by decide))
      · exact h.iv.ka 28 (by decide) (Or.inl (by decide))
      · exact h.iv.ka 29 (by decide) (Or.inl (by decide))
      · exact h.iv.ka 30 (by decide) (Or.inl (by decide))
      · exact h.iv.ka 31 (by decide) (Or.inl (by decide))
      · exact h.iv.ka 32 (by decide) (Or.inl (by decide))
    exact kk (j / 28) (by omega) j (by omega) (by omega)
  have := h.iv.jd.tx j (by omega)
  rw [e] at this
  exact this
theorem MR_dr (h : MR q B s D H x L N1 b N2) : ∀ j, j < 20 → H.1 12 j = 1 → H.1 13 j < 5 ∧ H.1 14 j < 110 := fun j hj h1 => by
  have kk : ∀ y, y < 20 → 67 + y < 135 ∧ kdk (67 + y) = 13 ∧ ixk (67 + y) = y := by decide
  obtain ⟨a1, a2, a3⟩ := kk j hj
  have := h.iv.ka (67 + j) a1 (by rw [a2]; omega)
  rw [a2, a3] at this
  have t : D.1 12 j = H.1 12 j ∧ (D.1 12 j = 1 → D.1 13 j = H.1 13 j ∧ D.1 14 j = H.1 14 j) := this
  have d1 : D.1 12 j = 1 := t.1.trans h1
  rw [← (t.2 d1).1, ← (t.2 d1).2]
  exact h.iv.jd.dr j hj d1
theorem pW_of (h : MR q B s D H x L N1 b N2) (lr : LR q (G.1 0) (G.1 1) L' M1 b M2) (hs : stK N1 N2 M1 M2) (hc : c_kp M1 b G) (hr : r_kp M2 G) (hb : kpb G) (cc : crC M1 G x) (cr : crR M2 G x) (e8 : G.1 8 = H.1 8) (e11 : G.2.1 11 = H.2.1 11) (e5 : G.2.1 5 = H.2.1 5) (kb : KB q G) (pl : plB (G.1 0) (G.1 1)) (pr : (prs (G.1 4) (G.1 5 0)).1 = 0) (tx : txo G) (dr : ∀ j, j < 20 → G.1 12 j = 1 → G.1 13 j < 5 ∧ G.1 14 j < 110)
    (ka : ∀ k, k < 135 → (kdk k < 8 ∨ 12 ≤ kdk k) → (¬ ∃ i, i < l.length ∧ gkl l i = k) → kag H G (kdk k) (ixk k)) (ha : gka l) (hl : l.length ≤ 16) (ht : ∀ k, k ∈ l → kxt G k.1 k.2) (hp : ∀ k, k ∈ l → kpl G k.1 k.2) (hx : gtx (gkl l) l.length) (md : (∀ k, k ∈ l → 8 ≤ k.1 ∧ k.1 ≤ 12) ∨ ∀ k, k ∈ l → k.1 < 8 ∨ 12 ≤ k.1) : pW q B s D G x L' M1 b M2 l := by
  obtain ⟨s1, s2, s3, s4, s5⟩ := hs
  have hk := h.cs.ks
  refine ⟨⟨hk.ok, st_cF hk.c (s1 221 (by omega)) (s1 222 (by omega)) (s1 223 (by omega)) (s1 224 (by omega)) (fun f _ _ => by rw [s2]), st_rF hk.r (s3 329 (by omega)) (s3 330 (by omega)) (s3 331 (by omega)) s4 s5, hc, hr, hb, zv_f hk.zv (s1 134 (by omega))⟩, cc, cr, lr, h.iv.jd, kb, pl, pr, ?_, tx, dr, fun k hk hk2 hn => ?_, ?_, h.iv.nn, ha, hl, ht, hp, hx, md⟩
  · unfold tDs; rw [e8, e11]; exact h.iv.ds
  · obtain ⟨b1', b2, _⟩ := kdk_ok k hk
    exact kag_trans b1' b2 (h.iv.ka k hk hk2) (ka k hk hk2 hn)
  · obtain ⟨c1, c2, c3, c4, c5, c6, c7, c8, c9, c10, c11⟩ := h.iv.ci
    exact ⟨by rw [e5]; exact c1, c2, by rw [e5]; exact c3, c4, c5, c6, by rw [e8]; exact c7, c8, c9, c10, by rw [e8, e11]; exact c11⟩
theorem rsF_y (h1 : cyF N1 M1) (h2 : ryF N2 M2) : rsF N1 N2 M1 M2 := by
  have c2 : ∀ z, (233 :: rsC).contains z = true → M2.1 z = N2.1 z := fun z hz => h2.1 z (ct_nt rfl hz)
  have i2 : ∀ f, rsI.contains f = true → M2.1 232 f = N2.1 232 f := fun f hf => by
    have : f = 4 ∨ f = 25 ∨ f = 34 ∨ f = 35 ∨ f = 36 ∨ f = 112 ∨ f = 141 ∨ f = 143 := by simpa [rsI] using hf
    exact h2.2.1 f (by omega) (by omega) (by omega) (by omega) (by omega)
  have c1 : ∀ z, (1 :: 2 :: 41 :: 100 :: rsA).contains z = true → M1.1 z = N1.1 z := fun z hz => h1.1 z (ct_nt rfl hz)
  refine ⟨fun z hz => c1 z ?_, by rw [c1 2 rfl], fun f _ => by rw [c1 41 rfl], by rw [c1 100 rfl], fun f _ => by rw [c1 1 rfl], fun z hz => c2 z ?_, h2.2.2.1 317 (by decide), fun j _ => by rw [c2 233 rfl], i2⟩
  · have : z ∈ rsA := by simpa using hz
    simp [this]
  · have : z ∈ rsC := by simpa using hz
    simp [this]
theorem oF_y (h1 : cyF N1 M1) (h2 : ryF N2 M2) : oF N1 N2 M1 M2 := by
  refine ⟨fun c hc => ⟨h1.1 c (ct_ge rfl hc), by rw [h1.2]⟩, fun c hc => ⟨h2.1 c (ct_in rfl hc), h2.2.2.1 c (by omega)⟩⟩
/-- the end of a call that writes a group -/
theorem grp_al {a r : Int32} {w : Bool} {K1 K2 : mz_N} {q' : Nat} (hq : 1 ≤ q) (hqq : q ≤ q') {B' : Nat} (hBB : B + 1 ≤ B') (hlg : R.lg ≤ q') (lr : LR q (G.1 0) (G.1 1) L M1 b M2) (rs : RsR G L R M1 M2) (o : oF N1 N2 M1 M2) (h0 : M2.1 232 0 = 0) (o3 : cyF M1 K1) (o4 : ryF M2 K2) (o5 : w = true → ∃ s' D', MR q (B + 1) s' D' G x L K1 b K2) (o6 : w = false → Dwn (B + 1) D K1 K2 ∧ Jd q D) (hr : r = a) : cal q' B' b N1 N2 (0, a, K1) (r, K2) := by
  refine ⟨Nat.zero_le _, ?_, fun _ => hr, oF_t o (oF_y o3 o4), ?_⟩
  · show K2.1 232 0 = 0
    rw [o4.2.1 0 (by decide) (by decide) (by decide) (by decide) (by decide)]; exact h0
  · cases w with
    | true =>
      obtain ⟨s', D', h1⟩ := o5 rfl
      exact Or.inl ⟨q, B + 1, s', D', G, x, L, R, hqq, hBB, h1, RsR_f rs (rsF_y o3 o4) (fun _ _ z => z) rfl rfl rfl rs.pn, hlg, hq⟩
    | false =>
      obtain ⟨h1, h2⟩ := o6 rfl
      refine Or.inr ⟨D, Dwn_m hBB h1, Jd_m hqq h2, ?_⟩
      rw [show K1.2 56 15 = M1.2 56 15 by rw [o3.2], o4.2.2.2 1 (by decide), lr.sd.1, lr.sd.2]
theorem keep_al {kd ix : Nat} {a : Int32} {q' : Nat} (hq : 1 ≤ q) (hqq : q ≤ q') {B' : Nat} (hBB : B + 1 ≤ B') (hB : B + 1 < 2 ^ 30) (hlg : R.lg ≤ q') (h : pW q B s D G x L M1 b M2 [(kd, ix)]) (rs : RsR G L R M1 M2) (o : oF N1 N2 M1 M2) (h0 : M2.1 232 0 = 0) :
    cp_171_0 (nI kd) (nI ix) a M1 b ∧ cp_494_0 (nI kd) (nI ix) M2 ∧ cal q' B' b N1 N2 (0, (cf_171_0 (nI kd) (nI ix) a M1 b).1, (cf_171_0 (nI kd) (nI ix) a M1 b).2) ((if (cf_494_0 (nI kd) (nI ix) M2).1 = true then a else -1001), (cf_494_0 (nI kd) (nI ix) M2).2) := by
  obtain ⟨p1, p2, w, K1, K2, o1, o2, o3, o4, o5, o6⟩ := keep_ok (a := a) hB h
  rw [o1, o2]
  exact ⟨p1, p2, grp_al hq hqq hBB hlg h.lr rs o h0 o3 o4 o5 o6 rfl⟩
end Tl
