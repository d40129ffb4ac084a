/-! PURE (50zzzzzzt): beginAnew in the reference (414). -/
section Anr
variable {N M K : mz_N} {kt : Nat → Bool} {kb : Nat → Nat → Nat} {D : Kp} {q n : Nat} {tx : Nat → Nat}
/-- the reference reads the program again -/
def rPg (N X : mz_N) (S : kyL) : Prop := (fq [232, 253, 254, 255, 256, 338, 339] [] N X) ∧ (∀ f, f ≠ 28 → f ≠ 31 → (f < 147 ∨ 154 < f) → f ≠ 156 → f ≠ 157 → X.1 232 f = N.1 232 f) ∧ (X.1 232 28 = nI (na S)) ∧ (rws (X.1 253) (X.1 254) (X.1 255) (X.1 256) S)
theorem rPg.f {N X : mz_N} {S : kyL} (h : rPg N X S) : fq [232, 253, 254, 255, 256, 338, 339] [] N X := h.1
theorem rPg.i {N X : mz_N} {S : kyL} (h : rPg N X S) : ∀ f, f ≠ 28 → f ≠ 31 → (f < 147 ∨ 154 < f) → f ≠ 156 → f ≠ 157 → X.1 232 f = N.1 232 f := h.2.1
theorem rPg.r8 {N X : mz_N} {S : kyL} (h : rPg N X S) : X.1 232 28 = nI (na S) := h.2.2.1
theorem rPg.rw {N X : mz_N} {S : kyL} (h : rPg N X S) : rws (X.1 253) (X.1 254) (X.1 255) (X.1 256) S := h.2.2.2
theorem rd438 (h27 : N.1 232 27 = nI n) (hn : n ≤ 196) (h : ∀ j, j < n → N.1 252 j = nI (tx j)) (htx : ∀ j, tx j < 128) (hp : (prs tx n).1 = 0) : cp_438_0 N ∧ rPg N (cf_438_0 N) (prs tx n).2.2 := by
  have hq : ∀ K, r_sc N K n tx → cp_439_0 K ∧ rpr K (K.1 232) (prs tx n) (cf_439_0 K) := fun K hK => r_parse hn (by rw [hK.2.1, up_a, if_pos rfl]) hK.2.2 htx
  obtain ⟨a1, K, a2, a3⟩ := r_src h27 hn h (fun K hK => (hq K hK).1)
  obtain ⟨_, F, W, V, E, G, K', r1, r2, r3, _, r4⟩ := hq K a3
  obtain ⟨r5, r6, _, r7⟩ := r4 hp
  obtain ⟨s1, s2, s3⟩ := a3
  rw [a2, r1]
  refine ⟨a1, ?_⟩
  show rPg N (rsM K F W V E G K') (prs tx n).2.2
  have g1 : (rsM K F W V E G K').1 232 = F := by unfold rsM; rw [sI_e]
  have g2 : (rsM K F W V E G K').1 253 = W := by unfold rsM; rw [sI_n (by decide), sI_n (by decide), sI_n (by decide), sI_n (by decide), sI_n (by decide), sI_e]
  have g3 : (rsM K F W V E G K').1 254 = V := by unfold rsM; rw [sI_n (by decide), sI_n (by decide), sI_n (by decide), sI_n (by decide), sI_e]
  have g4 : (rsM K F W V E G K').1 255 = E := by unfold rsM; rw [sI_n (by decide), sI_n (by decide), sI_n (by decide), sI_e]
  have g5 : (rsM K F W V E G K').1 256 = G := by unfold rsM; rw [sI_n (by decide), sI_n (by decide), sI_e]
  refine ⟨fq_trans (M := K) (fq_sub s1 rfl rfl) (fq_sI (fq_sI (fq_sI (fq_sI (fq_sI (fq_sI (fq_refl _ _ _) rfl) rfl) rfl) rfl) rfl) rfl), fun f h1 h2 h3 h4 h5 => ?_, by rw [g1]; exact r6, by rw [g2, g3, g4, g5]; exact r7⟩
  rw [g1]
  by_cases w : f = 35
  · rw [w, r5, s2, up_a, if_neg (by decide)]
  · rw [r2 f h1 h2 w (by omega) h4 h5, s2, up_a, if_neg (by omega)]
def raA : List Nat := [232, 233, 234, 235, 236, 237, 238, 239, 240, 241, 242, 243, 244, 245, 246, 247, 248, 249, 250, 252, 253, 254, 255, 256, 257, 272, 273, 274, 275, 278, 279, 282, 283, 284, 285, 287, 288, 289, 290, 293, 296, 297, 306, 307, 308, 309, 310, 311, 312, 313, 314, 315, 316, 338, 339]
def raB : List Nat := [232, 260, 261, 262, 263, 264, 265, 291, 292, 298, 305, 321, 322, 323, 324, 325]
/-- the reference begins anew with the house D -/
def rAn (N M : mz_N) (D : Kp) : Prop := (fq raA raB N M) ∧ (∀ f, f = 0 ∨ f = 133 ∨ f = 135 → M.1 232 f = N.1 232 f) ∧ (M.1 232 136 = -1) ∧ (M.1 232 137 = 0) ∧ (∀ f, f = 1 ∨ f = 134 → M.2 232 f = N.2 232 f) ∧ (r_kp M D) ∧ (r_ks M D) ∧ (M.2 232 87 = lN (MX D 16)) ∧ (r_pl (D.1 0) (D.1 1) M) ∧ (r_nf M) ∧ (M.1 232 28 = nI (na (prs (D.1 4) (D.1 5 0)).2.2)) ∧ (rws (M.1 253) (M.1 254) (M.1 255) (M.1 256) (prs (D.1 4) (D.1 5 0)).2.2) ∧ (∀ j, j < 16 → M.1 257 j = nI (tg0 j)) ∧ (∀ v, v < 7 → ∀ j, j < 550 → M.1 233 (550 * v + j) = nI (D.1 0 j))
theorem rAn.f {N M : mz_N} {D : Kp} (h : rAn N M D) : fq raA raB N M := h.1
theorem rAn.i {N M : mz_N} {D : Kp} (h : rAn N M D) : ∀ f, f = 0 ∨ f = 133 ∨ f = 135 → M.1 232 f = N.1 232 f := h.2.1
theorem rAn.s6 {N M : mz_N} {D : Kp} (h : rAn N M D) : M.1 232 136 = -1 := h.2.2.1
theorem rAn.s7 {N M : mz_N} {D : Kp} (h : rAn N M D) : M.1 232 137 = 0 := h.2.2.2.1
theorem rAn.l {N M : mz_N} {D : Kp} (h : rAn N M D) : ∀ f, f = 1 ∨ f = 134 → M.2 232 f = N.2 232 f := h.2.2.2.2.1
theorem rAn.kp {N M : mz_N} {D : Kp} (h : rAn N M D) : r_kp M D := h.2.2.2.2.2.1
theorem rAn.ks {N M : mz_N} {D : Kp} (h : rAn N M D) : r_ks M D := h.2.2.2.2.2.2.1
theorem rAn.nn {N M : mz_N} {D : Kp} (h : rAn N M D) : M.2 232 87 = lN (MX D 16) := h.2.2.2.2.2.2.2.1
theorem rAn.pl {N M : mz_N} {D : Kp} (h : rAn N M D) : r_pl (D.1 0) (D.1 1) M := h.2.2.2.2.2.2.2.2.1
theorem rAn.nf {N M : mz_N} {D : Kp} (h : rAn N M D) : r_nf M := h.2.2.2.2.2.2.2.2.2.1
theorem rAn.r8 {N M : mz_N} {D : Kp} (h : rAn N M D) : M.1 232 28 = nI (na (prs (D.1 4) (D.1 5 0)).2.2) := h.2.2.2.2.2.2.2.2.2.2.1
theorem rAn.rw {N M : mz_N} {D : Kp} (h : rAn N M D) : rws (M.1 253) (M.1 254) (M.1 255) (M.1 256) (prs (D.1 4) (D.1 5 0)).2.2 := h.2.2.2.2.2.2.2.2.2.2.2.1
theorem rAn.g {N M : mz_N} {D : Kp} (h : rAn N M D) : ∀ j, j < 16 → M.1 257 j = nI (tg0 j) := h.2.2.2.2.2.2.2.2.2.2.2.2.1
theorem rAn.dk {N M : mz_N} {D : Kp} (h : rAn N M D) : ∀ v, v < 7 → ∀ j, j < 550 → M.1 233 (550 * v + j) = nI (D.1 0 j) := h.2.2.2.2.2.2.2.2.2.2.2.2.2
theorem rnf_f (h : r_nf N) {A B : List Nat} (f : fq A B N M) (h1 : ([272, 273, 274, 275, 278, 279, 285, 316, 296, 297] : List Nat).all (fun c => !A.contains c) = true) (h2 : ([260, 261, 262, 263, 264, 265, 298] : List Nat).all (fun c => !B.contains c) = true) (i : ∀ f, f = 4 ∨ f = 25 ∨ f = 36 ∨ (52 ≤ f ∧ f ≤ 67) ∨ f = 72 ∨ f = 96 ∨ f = 112 ∨ f = 141 ∨ f = 143 → M.1 232 f = N.1 232 f) (l : ∀ f, f = 66 ∨ f = 68 → M.2 232 f = N.2 232 f) : r_nf M := by
  have q1 : ∀ c, ([272, 273, 274, 275, 278, 279, 285, 316, 296, 297] : List Nat).contains c = true → M.1 c = N.1 c := fun c hc => f.1 c (by
    have := List.all_eq_true.mp h1 c (by simpa using hc)
    simpa using this)
  have q2 : ∀ c, ([260, 261, 262, 263, 264, 265, 298] : List Nat).contains c = true → M.2 c = N.2 c := fun c hc => f.2 c (by
    have := List.all_eq_true.mp h2 c (by simpa using hc)
    simpa using this)
  unfold r_nf at h ⊢
  rw [q1 272 rfl, q1 273 rfl, q1 274 rfl, q1 275 rfl, q2 260 rfl, q2 261 rfl, q2 262 rfl, q2 263 rfl, q2 264 rfl, q2 265 rfl, q1 278 rfl, q1 279 rfl, q1 285 rfl, q1 316 rfl, q2 298 rfl, q1 296 rfl, q1 297 rfl, l 66 (by omega), l 68 (by omega), i 52 (by omega), i 53 (by omega), i 54 (by omega), i 55 (by omega), i 61 (by omega), i 62 (by omega), i 63 (by omega), i 64 (by omega), i 65 (by omega), i 67 (by omega), i 72 (by omega), i 112 (by omega), i 96 (by omega), i 141 (by omega), i 143 (by omega), i 25 (by omega), i 36 (by omega), i 4 (by omega)]
  exact h
theorem r_anew (hq : q < 2 ^ 15) (hD : st_D kt kb D) (hk : ∀ k, k < 135 → kt k = true → ∀ j, j < 28 → N.1 331 (28 * k + j) = by8 (kb k j)) (ht : ∀ k, k < 135 → N.1 330 k = nI (b1 (kt k))) (hJ : Jd q D) : cp_414_0 N ∧ rAn N (cf_414_0 N) D := by
  have hb := hD.1
  rw [cp_414_0, cf_414_0]
  have y0 : fq [232] [] N (mz_pI (mz_pI N 232 136 (-1)) 232 137 (mz_b01 false)) := fq_pI (fq_pI (fq_refl _ _ _) rfl) rfl
  have y1 : (mz_pI (mz_pI N 232 136 (-1)) 232 137 (mz_b01 false)).1 232 = upd (upd (N.1 232) 136 (-1)) 137 0 := rfl
  generalize mz_pI (mz_pI N 232 136 (-1)) 232 137 (mz_b01 false) = Y at y0 y1 ⊢
  obtain ⟨a1, a2, a3, a4, a5, a6, a7⟩ := r_first (N := Y)
  generalize cf_415_0 Y = A at a1 a2 a3 a4 a5 a6 a7 ⊢
  have n331 : A.1 331 = N.1 331 := by rw [a2.1 331 rfl, y0.1 331 rfl]
  have n330 : A.1 330 = N.1 330 := by rw [a2.1 330 rfl, y0.1 330 rfl]
  have n6 : D.1 5 0 ≤ 196 := hb.2.2.2.2.1
  have tk : tkn D := fun j hj z => by
    obtain ⟨n, n1, n2⟩ := hJ.kb.tn j hj z
    exact ⟨n, by omega, n2⟩
  -- what comes behind the keys
  have BK : ∀ M, r_ra A M D → cp_414_61 1 M ∧ rAn N (cf_414_61 1 M) D := fun M hM => by
    obtain ⟨m1, m2, m3, m4, m5⟩ := hM
    have LY : ∀ K, fq [233] [] M K → (∀ v, v < 7 → ∀ j, j < 550 → K.1 233 (550 * v + j) = M.1 233 j) → cp_427_0 K ∧ cp_437_0 (cf_427_0 K) ∧ cp_438_0 (cf_437_0 (cf_427_0 K)) ∧ cp_414_98 0 (mz_pL (cf_438_0 (cf_437_0 (cf_427_0 K))) 232 87 0) ∧ rAn N (cf_414_98 0 (mz_pL (cf_438_0 (cf_437_0 (cf_427_0 K))) 232 87 0)) D := fun K k1 k2 => by
      obtain ⟨r1, r2, r3, r4, r5, r6, r6b, r7, r8, r8b, r9, r10, r11, r12, r13, r14, r15⟩ := id m2
      have k3 : ∀ v, v < 7 → ∀ j, j < 550 → K.1 233 (550 * v + j) = nI (D.1 0 j) := fun v hv j hj => by rw [k2 v hv j hj]; exact r1 j hj
      obtain ⟨l1, l2, l3⟩ := r_lay (N := K) (e := D.1 0) (fl := D.1 1) hJ.pl.n (fun c hc => ⟨by rw [k1.1 234 rfl]; exact r2 c hc, hJ.pl.fl c hc⟩) (fun i hi => ⟨by have := k3 0 (by omega) i hi; rw [Nat.mul_zero, Nat.zero_add] at this; exact this, hJ.pl.e4 i hi⟩) hJ.pl.bd
      generalize cf_427_0 K = B at l1 l2 l3 ⊢
      obtain ⟨t1, g, t2, t3⟩ := tg_r (N := B)
      rw [t2]
      have tf : fq [257] [] B (mz_sI B 257 g) := fq_sI (fq_refl _ _ _) rfl
      have t4 : ∀ j, j < 16 → (mz_sI B 257 g).1 257 j = nI (tg0 j) := fun j hj => by
        rw [sI_e, t3, if_pos ⟨Nat.zero_le _, by omega⟩, Nat.sub_zero]
      generalize mz_sI B 257 g = T at tf t4 ⊢
      have b232 : ∀ f, f ≠ 7 → T.1 232 f = M.1 232 f := fun f hf => by rw [tf.1 232 rfl, l2.2 f hf, k1.1 232 rfl]
      have fMT : fq [232, 233, 235, 236, 237, 238, 239, 240, 241, 242, 243, 257] [] M T := fq_trans (M := K) (fq_sub k1 rfl rfl) (fq_trans (M := B) (fq_sub (fq_fr l2.1) rfl rfl) (fq_sub tf rfl rfl))
      obtain ⟨p1, p2⟩ := rd438 (N := T) (n := D.1 5 0) (tx := D.1 4) (by rw [b232 27 (by decide)]; exact r6) n6 (fun j hj => by rw [fMT.1 252 rfl]; exact r6b j (by omega)) hb.2.2.2.2.2.1 hJ.pr
      generalize cf_438_0 T = X at p1 p2 ⊢
      have fMX : fq [232, 233, 235, 236, 237, 238, 239, 240, 241, 242, 243, 253, 254, 255, 256, 257, 338, 339] [] M X := fq_trans (M := T) (fq_sub fMT rfl rfl) (fq_sub p2.f rfl rfl)
      have i232 : ∀ f, f ≠ 7 → f ≠ 28 → f ≠ 31 → (f < 147 ∨ 154 < f) → f ≠ 156 → f ≠ 157 → X.1 232 f = M.1 232 f := fun f h1 h2 h3 h4 h5 h6 => by rw [p2.i f h2 h3 h4 h5 h6, b232 f h1]
      obtain ⟨x1, x2⟩ := nx_r (X := X) (D := D) hb.2.2.2.2.2.2.2.2.2.1 tk (fun j hj => by
        rw [fMX.1 287 rfl, fMX.2 292 rfl]
        exact ⟨(r12 j hj).1, fun z => ((r12 j hj).2 z).2.2.2.2⟩)
      rw [x2]
      refine ⟨l1, t1, p1, x1, ?_⟩
      have vf : fq [] [232] X (mz_pL X 232 87 (lN (MX D 16))) := fq_pL (fq_refl _ _ _) rfl
      have v7 : (mz_pL X 232 87 (lN (MX D 16))).2 232 87 = lN (MX D 16) := by rw [pL_s, sL_e, upL_a, if_pos rfl]
      have vn : ∀ f, f ≠ 87 → (mz_pL X 232 87 (lN (MX D 16))).2 232 f = X.2 232 f := fun f hf => by rw [pL_s, sL_e, upL_a, if_neg hf]
      generalize mz_pL X 232 87 (lN (MX D 16)) = V at vf v7 vn ⊢
      have fMV : fq [232, 233, 235, 236, 237, 238, 239, 240, 241, 242, 243, 253, 254, 255, 256, 257, 338, 339] [232] M V := fq_trans (M := X) (fq_sub fMX rfl rfl) (fq_sub vf rfl rfl)
      have iV : ∀ f, f ≠ 7 → f ≠ 28 → f ≠ 31 → (f < 147 ∨ 154 < f) → f ≠ 156 → f ≠ 157 → V.1 232 f = M.1 232 f := fun f h1 h2 h3 h4 h5 h6 => by rw [vf.1 232 rfl, i232 f h1 h2 h3 h4 h5 h6]
      have lV : ∀ f, f ≠ 87 → V.2 232 f = M.2 232 f := fun f hf => by rw [vn f hf, fMX.2 232 rfl]
      have fNV : fq raA raB N V := fq_trans (M := Y) (fq_sub y0 rfl rfl) (fq_trans (M := A) (fq_sub a2 rfl rfl) (fq_trans (M := M) (fq_sub m1 rfl rfl) (fq_sub fMV rfl rfl)))
      have jA : ∀ f, f ≠ 7 → f ≠ 28 → f ≠ 31 → (f < 147 ∨ 154 < f) → f ≠ 156 → f ≠ 157 → f ≠ 27 → f ≠ 21 → V.1 232 f = A.1 232 f := fun f h1 h2 h3 h4 h5 h6 h7 h8 => by rw [iV f h1 h2 h3 h4 h5 h6, m4 f h7 h8]
      have jY : ∀ f, f = 0 ∨ (133 ≤ f ∧ f ≤ 137) → V.1 232 f = Y.1 232 f := fun f hf => by
        rw [jA f (by omega) (by omega) (by omega) (by omega) (by omega) (by omega) (by omega) (by omega), a6 f (by omega)]
        have : ∀ f, f < 138 → (f = 0 ∨ 133 ≤ f) → rfF.contains f = false := by decide
        exact this f (by omega) (by omega)
      refine ⟨fNV, fun f hf => ?_, ?_, ?_, fun f hf => ?_, ?_, ?_, v7, ?_, ?_, ?_, ?_, fun j hj => ?_, fun v hv j hj => ?_⟩
      · rw [jY f (by omega), y1, up_a, if_neg (by omega), up_a, if_neg (by omega)]
      · rw [jY 136 (by omega), y1, up_a, if_neg (by decide), up_a, if_pos rfl]
      · rw [jY 137 (by omega), y1, up_a, if_pos rfl]
      · rw [lV f (by omega)]
        rcases hf with w | w
        · rw [w, m5 1 rfl, a7 1 rfl, y0.2 232 rfl]
        · rw [w, m5 134 rfl, a7 134 rfl, y0.2 232 rfl]
      · unfold r_kp
        rw [fMV.1 234 rfl, fMV.1 244 rfl, fMV.1 245 rfl, fMV.1 246 rfl, iV 27 (by omega) (by omega) (by omega) (by omega) (by omega) (by omega), fMV.1 252 rfl, fMV.1 247 rfl, fMV.1 248 rfl, fMV.2 321 rfl, fMV.2 322 rfl, fMV.2 323 rfl, fMV.2 324 rfl, fMV.2 325 rfl, lV 2 (by omega), lV 122 (by omega), lV 123 (by omega), lV 124 (by omega), lV 125 (by omega), iV 21 (by omega) (by omega) (by omega) (by omega) (by omega) (by omega), fMV.1 249 rfl, fMV.1 250 rfl, fMV.2 305 rfl, fMV.1 306 rfl, fMV.1 307 rfl, fMV.1 287 rfl, fMV.1 288 rfl, fMV.1 289 rfl, fMV.1 290 rfl, fMV.2 291 rfl, fMV.2 292 rfl, fMV.1 308 rfl, fMV.1 309 rfl, fMV.1 310 rfl, fMV.1 311 rfl, fMV.1 312 rfl, fMV.1 313 rfl, fMV.1 314 rfl, fMV.1 315 rfl, fMV.1 282 rfl, fMV.1 283 rfl, fMV.1 284 rfl]
        refine ⟨fun j hj => ?_, r2, r3, r4, r5, r6, r6b, r7, r8, r8b, r9, r10, r11, r12, r13, r14, r15⟩
        have e : V.1 233 = K.1 233 := by rw [vf.1 233 rfl, p2.f.1 233 rfl, tf.1 233 rfl, l2.1.1 233 rfl]
        have := k3 0 (by omega) j hj
        rw [Nat.mul_zero, Nat.zero_add] at this
        rw [e]; exact this
      · intro j hj z
        rw [fMV.1 293 rfl]; exact m3 j hj z
      · have e7 : V.1 232 7 = B.1 232 7 := by rw [vf.1 232 rfl, p2.i 7 (by decide) (by decide) (by decide) (by decide) (by decide), tf.1 232 rfl]
        refine rpl_cg e7 (fun c hc => ?_) l3
        have hc' : c ∈ plR := by simpa using hc
        have fBV : fq [232, 253, 254, 255, 256, 257, 338, 339] [232] B V := fq_trans (M := T) (fq_sub tf rfl rfl) (fq_trans (M := X) (fq_sub p2.f rfl rfl) (fq_sub vf rfl rfl))
        exact fBV.1 c (by
          have : ∀ c, c ∈ plR → ([232, 253, 254, 255, 256, 257, 338, 339] : List Nat).contains c = false := by decide
          exact this c hc')
      · refine rnf_f a5 (A := [232, 233, 234, 235, 236, 237, 238, 239, 240, 241, 242, 243, 244, 245, 246, 247, 248, 249, 250, 252, 253, 254, 255, 256, 257, 282, 283, 284, 287, 288, 289, 290, 293, 306, 307, 308, 309, 310, 311, 312, 313, 314, 315, 338, 339]) (B := [232, 291, 292, 305, 321, 322, 323, 324, 325]) (fq_trans (M := M) (fq_sub m1 rfl rfl) (fq_sub fMV rfl rfl)) rfl rfl (fun f hf => jA f (by omega) (by omega) (by omega) (by omega) (by omega) (by omega) (by omega) (by omega)) (fun f hf => ?_)
        rw [lV f (by omega)]
        rcases hf with w | w
        · rw [w, m5 66 rfl]
        · rw [w, m5 68 rfl]
      · rw [vf.1 232 rfl]; exact p2.r8
      · rw [vf.1 253 rfl, vf.1 254 rfl, vf.1 255 rfl, vf.1 256 rfl]; exact p2.rw
      · rw [vf.1 257 rfl, p2.f.1 257 rfl]; exact t4 j hj
      · have e : V.1 233 = K.1 233 := by rw [vf.1 233 rfl, p2.f.1 233 rfl, tf.1 233 rfl, l2.1.1 233 rfl]
        rw [e]; exact k3 v hv j hj
    obtain ⟨o1, K, o2, o3, o4⟩ := r_brings (N := M) (fun K k1 k2 => ⟨(LY K k1 k2).1, (LY K k1 k2).2.1, (LY K k1 k2).2.2.1, (LY K k1 k2).2.2.2.1⟩)
    rw [o2]
    exact ⟨o1, (LY K o3 o4).2.2.2.2⟩
  obtain ⟨e1, M, e2, e3⟩ := r_keys (N := A) hD (fun k hk' hk2 j hj => by rw [n331]; exact hk k hk' hk2 j hj) (fun k hk' => by rw [n330]; exact ht k hk') a3 a4 (fun M hM => (BK M hM).1)
  rw [e2]
  exact ⟨⟨a1, e1⟩, (BK M e3).2⟩
end Anr
