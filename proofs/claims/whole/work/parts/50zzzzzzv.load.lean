/-! PURE (50zzzzzzv): a program is read: parts for load and put. -/
section Ld
variable {N N1 N2 M1 M2 M P K : mz_N} {b b' : Bool} {B q n a1 : Nat} {s : st_S} {D H G : Kp} {x : CrS} {L : LvS} {R : RsS} {tx e fl : Nat → Nat} {l : List (Nat × Nat)}
theorem prs_b : (prs tx n).1 ≤ 6 := pz_e tx n _ _ _
/-- a text was read into the other program of the class -/
def pcR (N P : mz_N) (b : Bool) (m : Nat) (tx : Nat → Nat) : Prop := (fq pgA [] N P) ∧ (∀ d, d < 5 → P.1 (mz_lv b + d) = N.1 (mz_lv b + d)) ∧ (P.1 (mz_ot b) 6 = nI (prs tx m).1) ∧ ((prs tx m).1 ≠ 0 → P.1 (mz_ot b) 7 = nI (prs tx m).2.1) ∧ (P.1 (mz_ot b) 1 = nI m) ∧ (∀ j, j < m → P.1 (mz_ot b + 1) j = nI (tx j)) ∧ ((prs tx m).1 = 0 → P.1 (mz_ot b) 4 = nI (prs tx m).2.2.length ∧ P.1 (mz_ot b) 5 = nI (na (prs tx m).2.2) ∧ wds (P.1 (mz_ot b + 2)) (P.1 (mz_ot b + 3)) (prs tx m).2.2)
theorem pcR.f {N P : mz_N} {b : Bool} {m : Nat} {tx : Nat → Nat} (h : pcR N P b m tx) : fq pgA [] N P := h.1
theorem pcR.lv {N P : mz_N} {b : Bool} {m : Nat} {tx : Nat → Nat} (h : pcR N P b m tx) : ∀ d, d < 5 → P.1 (mz_lv b + d) = N.1 (mz_lv b + d) := h.2.1
theorem pcR.e6 {N P : mz_N} {b : Bool} {m : Nat} {tx : Nat → Nat} (h : pcR N P b m tx) : P.1 (mz_ot b) 6 = nI (prs tx m).1 := h.2.2.1
theorem pcR.e7 {N P : mz_N} {b : Bool} {m : Nat} {tx : Nat → Nat} (h : pcR N P b m tx) : (prs tx m).1 ≠ 0 → P.1 (mz_ot b) 7 = nI (prs tx m).2.1 := h.2.2.2.1
theorem pcR.ln {N P : mz_N} {b : Bool} {m : Nat} {tx : Nat → Nat} (h : pcR N P b m tx) : P.1 (mz_ot b) 1 = nI m := h.2.2.2.2.1
theorem pcR.t {N P : mz_N} {b : Bool} {m : Nat} {tx : Nat → Nat} (h : pcR N P b m tx) : ∀ j, j < m → P.1 (mz_ot b + 1) j = nI (tx j) := h.2.2.2.2.2.1
theorem pcR.c {N P : mz_N} {b : Bool} {m : Nat} {tx : Nat → Nat} (h : pcR N P b m tx) : (prs tx m).1 = 0 → P.1 (mz_ot b) 4 = nI (prs tx m).2.2.length ∧ P.1 (mz_ot b) 5 = nI (na (prs tx m).2.2) ∧ wds (P.1 (mz_ot b + 2)) (P.1 (mz_ot b + 3)) (prs tx m).2.2 := h.2.2.2.2.2.2
theorem par_c (ha : a1 = 42 ∨ a1 = 55) (hn : n ≤ 196) (hT : ∀ j, j < n → N.1 a1 j = nI (tx j)) (htx : ∀ j, tx j < 128) : cp_23_0 (mz_ot b) a1 (nI n) N ∧ (cf_23_0 (mz_ot b) a1 (nI n) N).1 = decide ((prs tx n).1 = 0) ∧ pcR N (cf_23_0 (mz_ot b) a1 (nI n) N).2 b n tx := by
  have h1 : a1 ≠ mz_ot b := by rcases ot_o (b := b) with w | w <;> rw [w] <;> omega
  have h2 : a1 ≠ mz_ot b + 1 := by rcases ot_o (b := b) with w | w <;> rw [w] <;> omega
  obtain ⟨p1, T, pT, p2⟩ := c_parse (N := N) (n := n) (o := mz_ot b) (a1 := a1) (tx := tx) hn hT htx h1 h2
  have f1 := par_f ot_o p2
  obtain ⟨F, A, B, C, r1, r2, r3, r3', r4⟩ := p2
  rw [r1] at f1 ⊢
  refine ⟨p1, rfl, f1, fun d hd => ?_, ?_, fun z => ?_, ?_, fun j hj => ?_, fun z => ⟨?_, ?_, ?_⟩⟩
  · show (rdM (mz_sI N (mz_ot b + 1) T) (mz_ot b) F A B C).1 (mz_lv b + d) = _
    unfold rdM
    have k : ∀ c, c < 5 → mz_lv b + d ≠ mz_ot b + c := fun c hc => by
      cases b
      · show 43 + d ≠ 48 + c; omega
      · show 48 + d ≠ 43 + c; omega
    have k0 : mz_lv b + d ≠ mz_ot b := k 0 (by omega)
    rw [sI_n k0, sI_n (k 4 (by omega)), sI_n (k 3 (by omega)), sI_n (k 2 (by omega)), sI_n (k 1 (by omega))]
  · show (rdM (mz_sI N (mz_ot b + 1) T) (mz_ot b) F A B C).1 (mz_ot b) 6 = _
    rw [rd_o]; exact r3
  · show (rdM (mz_sI N (mz_ot b + 1) T) (mz_ot b) F A B C).1 (mz_ot b) 7 = _
    rw [rd_o]; exact r3' z
  · show (rdM (mz_sI N (mz_ot b + 1) T) (mz_ot b) F A B C).1 (mz_ot b) 1 = _
    rw [rd_o]; exact r2
  · show (rdM (mz_sI N (mz_ot b + 1) T) (mz_ot b) F A B C).1 (mz_ot b + 1) j = _
    rw [rd_1, sI_e]; exact pT j hj
  · show (rdM (mz_sI N (mz_ot b + 1) T) (mz_ot b) F A B C).1 (mz_ot b) 4 = _
    rw [rd_o]; exact (r4 z).2.1
  · show (rdM (mz_sI N (mz_ot b + 1) T) (mz_ot b) F A B C).1 (mz_ot b) 5 = _
    rw [rd_o]; exact (r4 z).2.2.1
  · show wds ((rdM (mz_sI N (mz_ot b + 1) T) (mz_ot b) F A B C).1 (mz_ot b + 2)) ((rdM (mz_sI N (mz_ot b + 1) T) (mz_ot b) F A B C).1 (mz_ot b + 3)) _
    have g3 : (rdM (mz_sI N (mz_ot b + 1) T) (mz_ot b) F A B C).1 (mz_ot b + 2) = A := by
      unfold rdM
      rw [sI_n (by omega), sI_n (by omega), sI_n (by omega), sI_e]
    have g4 : (rdM (mz_sI N (mz_ot b + 1) T) (mz_ot b) F A B C).1 (mz_ot b + 3) = B := by
      unfold rdM
      rw [sI_n (by omega), sI_n (by omega), sI_e]
    rw [g3, g4]; exact (r4 z).2.2.2
/-- cells of what lives, but for the program and its targets -/
def lgA : List Nat := plA ++ [56, 58, 59, 60, 61, 65, 72, 73, 81, 82, 83, 85, 86, 99]
def lgC : List Nat := plR ++ [272, 273, 274, 275, 278, 279, 280, 285]
theorem LR_g {A1 B1 A2 B2 : List Nat} {T : Nat → Int} {S : List (Nat × Nat)} (h : LR q e fl L N1 b N2) (hp : prR M1 b' M2 S) (hS : prB S) (hT : tgR M1 M2 T) (hB : tgB T) (f1 : fq A1 B1 N1 M1) (f2 : fq A2 B2 N2 M2) (a1 : lgA.all (fun c => !A1.contains c) = true) (b1' : lrB.all (fun c => !B1.contains c) = true) (a2 : lgC.all (fun c => !A2.contains c) = true) (b2 : lrD.all (fun c => !B2.contains c) = true) (i2 : ∀ f, f = 7 ∨ (52 ≤ f ∧ f ≤ 65) ∨ f = 72 → M2.1 232 f = N2.1 232 f) (j2 : ∀ f, f = 1 ∨ f = 66 ∨ f = 68 → M2.2 232 f = N2.2 232 f) : LR q e fl (T, L.c, L.u, L.k, L.w, L.cr, L.R, S, L.sd) M1 b' M2 := by
  have c1 : ∀ z, lgA.contains z = true → M1.1 z = N1.1 z := fun z hz => f1.1 z (ct_nt a1 hz)
  have l1 : ∀ z, lrB.contains z = true → M1.2 z = N1.2 z := fun z hz => f1.2 z (ct_nt b1' hz)
  have c2 : ∀ z, lgC.contains z = true → M2.1 z = N2.1 z := fun z hz => f2.1 z (ct_nt a2 hz)
  have l2 : ∀ z, lrD.contains z = true → M2.2 z = N2.2 z := fun z hz => f2.2 z (ct_nt b2 hz)
  have r3 : ∀ z, z < 276 → 272 ≤ z → lgC.contains z = true := by decide +kernel
  have r4 : ∀ z, z < 281 → 278 ≤ z → lgC.contains z = true := by decide +kernel
  have r5 : ∀ z, z < 62 → 58 ≤ z → lgA.contains z = true := by decide +kernel
  have r6 : ∀ z, z < 72 → 68 ≤ z → lrB.contains z = true := by decide +kernel
  have r7 : ∀ z, z < 99 → 91 ≤ z → lrB.contains z = true := by decide +kernel
  have r8 : ∀ z, z < 266 → 260 ≤ z → lrD.contains z = true := by decide +kernel
  obtain ⟨p1, p2, p3, p4, p5, p6, p7, p8, p9, p10, p11, p12, p13, p14, p15, p16, p17, p18⟩ := h
  refine ⟨plW_f p1 (fun z hz => c1 z ?_) (fun z hz => c2 z ?_) (i2 7 (by omega)), hp, hS, hT, hB, ciR_f p6 (fun z h1 h2 => c1 z (r5 z (by omega) h1)) (fun z h1 h2 => c2 z (r3 z (by omega) h1)), p7, suC_f p8 (fun f _ _ => by rw [c1 56 rfl]), suR_f p9 (fun f h1 h2 => i2 f (by omega)) (j2 68 (by omega)) (j2 66 (by omega)), p10, clC_f p11 (fun z h1 h2 => l1 z (r6 z (by omega) h1)) (c1 72 rfl) (c1 73 rfl) (by rw [c1 65 rfl]), clR_f p12 (fun z h1 h2 => l2 z (r8 z (by omega) h1)), p13, waR_f p14 (fun z hz => by rcases hz with w | w | w | w <;> subst w <;> exact c1 _ rfl) (by rw [c1 81 rfl]) (fun z h1 h2 => c2 z (r4 z (by omega) h1)) (l2 281 rfl) (i2 72 (by omega)), p15, poR_f p16 (fun z h1 h2 => l1 z (r7 z (by omega) h1)) (c1 99 rfl) (l2 286 rfl) (c2 285 rfl), p17, by rw [l1 56 rfl]; exact p18.1, by rw [j2 1 (by omega)]; exact p18.2⟩
  · have : z ∈ plA := by simpa using hz
    simp [lgA, this]
  · have : z ∈ plR := by simpa using hz
    simp [lgC, this]
/-- the class keeps its things, another program -/
theorem ckp_t {A B : List Nat} (h : c_kp N b H) (f : fq A B N M) (hA : ([3, 37, 40, 62, 63, 66, 67, 87, 88, 89, 101, 102, 103, 104, 105, 106, 107, 108, 117, 118, 119, 120, 121, 123, 125, 126, 127, 128, 208, 210, 211, 212, 215] : List Nat).all (fun c => !A.contains c) = true) (hB : kcL.all (fun c => !B.contains c) = true) (e1 : ∀ f, f ≠ 4 → f ≠ 5 → G.1 f = H.1 f) (e2 : G.2 = H.2) (hn : M.1 (mz_lv b') 1 = nI (G.1 5 0)) (ht : ∀ j, j < G.1 5 0 → M.1 (mz_lv b' + 1) j = nI (G.1 4 j)) : c_kp M b' G := by
  have q1 : ∀ c, ([3, 37, 40, 62, 63, 66, 67, 87, 88, 89, 101, 102, 103, 104, 105, 106, 107, 108, 117, 118, 119, 120, 121, 123, 125, 126, 127, 128, 208, 210, 211, 212, 215] : List Nat).contains c = true → M.1 c = N.1 c := fun c hc => f.1 c (ct_nt hA hc)
  have q2 : ∀ c, kcL.contains c = true → M.2 c = N.2 c := fun c hc => f.2 c (ct_nt hB hc)
  obtain ⟨k1, k2, k3, k4, k5, k6, k6b, k7, k8, k8b, k9, k10, k11, k12, k13, k14, k15⟩ := h
  unfold c_kp
  rw [q1 3 rfl, q1 37 rfl, q1 40 rfl, q1 66 rfl, q1 67 rfl, q1 62 rfl, q1 63 rfl, q1 210 rfl, q1 211 rfl, q1 212 rfl, q2 213 rfl, q2 214 rfl, q1 208 rfl, q2 208 rfl, q1 215 rfl, q1 125 rfl, q1 126 rfl, q1 127 rfl, q1 128 rfl, q1 123 rfl, q1 118 rfl, q1 119 rfl, q1 120 rfl, q1 121 rfl, q1 117 rfl, q1 101 rfl, q1 102 rfl, q1 103 rfl, q1 104 rfl, q1 105 rfl, q1 106 rfl, q1 107 rfl, q1 108 rfl, q1 87 rfl, q1 88 rfl, q1 89 rfl, e2, e1 0 (by decide) (by decide), e1 1 (by decide) (by decide), e1 2 (by decide) (by decide), e1 3 (by decide) (by decide), e1 6 (by decide) (by decide), e1 7 (by decide) (by decide), e1 8 (by decide) (by decide), e1 9 (by decide) (by decide), e1 10 (by decide) (by decide), e1 11 (by decide) (by decide), e1 12 (by decide) (by decide), e1 13 (by decide) (by decide), e1 14 (by decide) (by decide), e1 15 (by decide) (by decide), e1 16 (by decide) (by decide), e1 17 (by decide) (by decide), e1 18 (by decide) (by decide), e1 19 (by decide) (by decide), e1 20 (by decide) (by decide), e1 21 (by decide) (by decide)]
  exact ⟨k1, k2, k3, k4, k5, hn, ht, k7, k8, k8b, k9, k10, k11, k12, k13, k14, k15⟩
theorem rkp_t {A B : List Nat} (h : r_kp N H) (f : fq A B N M) (hA : ([233, 234, 244, 245, 246, 247, 248, 249, 250, 282, 283, 284, 287, 288, 289, 290, 306, 307, 308, 309, 310, 311, 312, 313, 314, 315] : List Nat).all (fun c => !A.contains c) = true) (hB : krL.all (fun c => !B.contains c) = true) (h21 : M.1 232 21 = N.1 232 21) (h9 : M.2 232 = N.2 232) (e1 : ∀ f, f ≠ 4 → f ≠ 5 → G.1 f = H.1 f) (e2 : G.2 = H.2) (hn : M.1 232 27 = nI (G.1 5 0)) (ht : ∀ j, j < 196 → M.1 252 j = nI (G.1 4 j)) : r_kp M G := by
  have q1 : ∀ c, ([233, 234, 244, 245, 246, 247, 248, 249, 250, 282, 283, 284, 287, 288, 289, 290, 306, 307, 308, 309, 310, 311, 312, 313, 314, 315] : List Nat).contains c = true → M.1 c = N.1 c := fun c hc => f.1 c (ct_nt hA hc)
  have q2 : ∀ c, krL.contains c = true → M.2 c = N.2 c := fun c hc => f.2 c (ct_nt hB hc)
  obtain ⟨r1, r2, r3, r4, r5, r6, r6b, r7, r8, r8b, r9, r10, r11, r12, r13, r14, r15⟩ := h
  unfold r_kp
  rw [q1 233 rfl, q1 234 rfl, q1 244 rfl, q1 245 rfl, q1 246 rfl, q1 247 rfl, q1 248 rfl, q2 321 rfl, q2 322 rfl, q2 323 rfl, q2 324 rfl, q2 325 rfl, h9, h21, q1 249 rfl, q1 250 rfl, q2 305 rfl, q1 306 rfl, q1 307 rfl, q1 287 rfl, q1 288 rfl, q1 289 rfl, q1 290 rfl, q2 291 rfl, q2 292 rfl, q1 308 rfl, q1 309 rfl, q1 310 rfl, q1 311 rfl, q1 312 rfl, q1 313 rfl, q1 314 rfl, q1 315 rfl, q1 282 rfl, q1 283 rfl, q1 284 rfl, e2, e1 0 (by decide) (by decide), e1 1 (by decide) (by decide), e1 2 (by decide) (by decide), e1 3 (by decide) (by decide), e1 6 (by decide) (by decide), e1 7 (by decide) (by decide), e1 8 (by decide) (by decide), e1 9 (by decide) (by decide), e1 10 (by decide) (by decide), e1 11 (by decide) (by decide), e1 12 (by decide) (by decide), e1 13 (by decide) (by decide), e1 14 (by decide) (by decide), e1 15 (by decide) (by decide), e1 16 (by decide) (by decide), e1 17 (by decide) (by decide), e1 18 (by decide) (by decide), e1 19 (by decide) (by decide), e1 20 (by decide) (by decide), e1 21 (by decide) (by decide)]
  exact ⟨r1, r2, r3, r4, r5, hn, ht, r7, r8, r8b, r9, r10, r11, r12, r13, r14, r15⟩
/-- the text's eight keys -/
def kl6 : Nat → List (Nat × Nat)
  | 0 => []
  | t + 1 => (6, t) :: kl6 t
theorem kl6_n : ∀ t, (kl6 t).length = t := by
  intro t
  induction t with
  | zero => rfl
  | succ t ih => show (kl6 t).length + 1 = t + 1; rw [ih]
theorem kl6_m : ∀ t k, k ∈ kl6 t ↔ k.1 = 6 ∧ k.2 < t := by
  intro t
  induction t with
  | zero => intro k; exact ⟨(fun h => by cases h), fun h => absurd h.2 (Nat.not_lt_zero _)⟩
  | succ t ih =>
    intro k
    show k ∈ (6, t) :: kl6 t ↔ _
    rw [List.mem_cons, ih]
    constructor
    · rintro (h | ⟨h1, h2⟩)
      · rw [h]; exact ⟨rfl, Nat.lt_succ_self t⟩
      · exact ⟨h1, by omega⟩
    · rintro ⟨h1, h2⟩
      by_cases w : k.2 = t
      · exact Or.inl (Prod.ext h1 w)
      · exact Or.inr ⟨h1, by omega⟩
theorem kl6_a {t : Nat} (ht : t ≤ 8) : gka (kl6 t) := fun k hk => by
  obtain ⟨h1, h2⟩ := (kl6_m t k).mp hk
  rw [h1]
  exact ⟨by omega, by omega, (show ∀ v, v < 8 → kyo 6 v < 135 by decide) k.2 (by omega)⟩
theorem kl6_g : gtx (gkl (kl6 8)) (kl6 8).length := Or.inl (fun ix hx => by
  refine ⟨ix, by rw [kl6_n]; exact hx, ?_⟩
  exact (show ∀ ix, ix < 8 → gkl (kl6 8) ix = kyo 6 ix by decide) ix hx)
/-- what is told before a writing, the program having changed -/
theorem pW_ob {L' : LvS} (h : MR q B s D H x L N1 b N2) (lr : LR q (G.1 0) (G.1 1) L' M1 b' M2) (hs : stK N1 N2 M1 M2) (hc : c_kp M1 b' G) (hr : r_kp M2 G) (hb : kpb G) (cc : crC M1 G x) (cr : crR M2 G x) (e8 : G.1 8 = H.1 8) (e11 : G.2.1 11 = H.2.1 11) (e5 : G.2.1 5 = H.2.1 5) (kb : KB q G) (pl : plB (G.1 0) (G.1 1)) (pr : (prs (G.1 4) (G.1 5 0)).1 = 0) (tx : txo G) (dr : ∀ j, j < 20 → G.1 12 j = 1 → G.1 13 j < 5 ∧ G.1 14 j < 110)
    (ka : ∀ k, k < 135 → (kdk k < 8 ∨ 12 ≤ kdk k) → (¬ ∃ i, i < l.length ∧ gkl l i = k) → kag H G (kdk k) (ixk k)) (ha : gka l) (hl : l.length ≤ 16) (ht : ∀ k, k ∈ l → kxt G k.1 k.2) (hp : ∀ k, k ∈ l → kpl G k.1 k.2) (hx : gtx (gkl l) l.length) (md : (∀ k, k ∈ l → 8 ≤ k.1 ∧ k.1 ≤ 12) ∨ ∀ k, k ∈ l → k.1 < 8 ∨ 12 ≤ k.1) : pW q B s D G x L' M1 b' M2 l := by
  obtain ⟨s1, s2, s3, s4, s5⟩ := hs
  have hk := h.cs.ks
  refine ⟨⟨hk.ok, st_cF hk.c (s1 221 (by omega)) (s1 222 (by omega)) (s1 223 (by omega)) (s1 224 (by omega)) (fun f _ _ => by rw [s2]), st_rF hk.r (s3 329 (by omega)) (s3 330 (by omega)) (s3 331 (by omega)) s4 s5, hc, hr, hb, zv_f hk.zv (s1 134 (by omega))⟩, cc, cr, lr, h.iv.jd, kb, pl, pr, ?_, tx, dr, fun k hk hk2 hn => ?_, ?_, h.iv.nn, ha, hl, ht, hp, hx, md⟩
  · unfold tDs; rw [e8, e11]; exact h.iv.ds
  · obtain ⟨b1', b2, _⟩ := kdk_ok k hk
    exact kag_trans b1' b2 (h.iv.ka k hk hk2) (ka k hk hk2 hn)
  · obtain ⟨c1, c2, c3, c4, c5, c6, c7, c8, c9, c10, c11⟩ := h.iv.ci
    exact ⟨by rw [e5]; exact c1, c2, by rw [e5]; exact c3, c4, c5, c6, by rw [e8]; exact c7, c8, c9, c10, by rw [e8, e11]; exact c11⟩
end Ld
