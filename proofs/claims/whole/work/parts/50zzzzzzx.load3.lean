/-! PURE (50zzzzzzx): load, both. -/
/-- a call that may change which program is live -/
def cab1 {α : Type} (q B : Nat) (N1 N2 : mz_N) (c : Nat × α × mz_N × Bool) (r : α × mz_N) : Prop := cal1 q B c.2.2.2 N1 N2 (c.1, c.2.1, c.2.2.1) r
section Lq
variable {N N1 N2 M1 M2 M P K : mz_N} {b b' : Bool} {B q n : Nat} {s : st_S} {D H G : Kp} {x : CrS} {L L' : LvS} {R : RsS} {tx e fl : Nat → Nat} {l : List (Nat × Nat)}
theorem cal_1 {α : Type} {a r : α} {K1 K2 : mz_N} (h : cal q B b N1 N2 (0, a, K1) (r, K2)) : cal1 q B b N1 N2 (0, a, K1) (r, K2) := ⟨Or.inl rfl, (by show K2.1 232 0 = nI (0 / 2); rw [show (0 : Nat) / 2 = 0 from rfl]; exact h.2.1), fun _ => h.2.2.1 rfl, h.2.2.2.1, h.2.2.2.2⟩
theorem RsR_g {A1 B1 A2 B2 : List Nat} {w : Bool} (h : RsR H L R N1 N2) (f1 : fq A1 B1 N1 M1) (f2 : fq A2 B2 N2 M2) (a1 : (1 :: 2 :: 100 :: rsA).all (fun c => !A1.contains c) = true) (c : (233 :: rsC).all (fun c => !A2.contains c) = true) (d : B2.contains 317 = false) (k41 : M1.1 41 1 = N1.1 41 1) (i : ∀ f, f = 4 ∨ f = 25 ∨ f = 112 ∨ f = 141 ∨ f = 143 → M2.1 232 f = N2.1 232 f) (fw : M2.1 232 36 = mz_b01 w ∧ (w = true → M1.1 41 4 = M2.1 232 34 ∧ M1.1 41 5 = M2.1 232 35) ∧ (w = false → M1.1 41 4 = -1 ∧ M1.1 41 5 = -1)) (e15 : G.1 15 = H.1 15) (e19 : G.1 19 = H.1 19) (sp : L'.S = (prs (G.1 4) (G.1 5 0)).2.2) (eR : L'.R = L.R) : RsR G L' (R.dr, R.bs, R.ve, R.tl, R.tx, w, R.wh, R.lg, R.tn, R.ta, R.rn, R.ra) M1 M2 := by
  have c1 : ∀ z, (1 :: 2 :: 100 :: rsA).contains z = true → M1.1 z = N1.1 z := fun z hz => f1.1 z (ct_nt a1 hz)
  have c2 : ∀ z, (233 :: rsC).contains z = true → M2.1 z = N2.1 z := fun z hz => f2.1 z (ct_nt c hz)
  obtain ⟨a1', a2, a3, a4, a5, a6, a7, a8, a9, a10, a11, a12, a13, a14, a15⟩ := h
  refine ⟨fun d hd i hi => ?_, ?_, a3, ?_, ?_, ?_, fw, ?_, ?_, ?_, ?_, ?_, ?_, sp, ?_⟩
  · have d1 : M1.1 (5 + d) = N1.1 (5 + d) ∧ M1.1 (9 + d) = N1.1 (9 + d) := by
      rcases (show d = 0 ∨ d = 1 ∨ d = 2 by omega) with w | w | w <;> subst w <;> exact ⟨c1 _ rfl, c1 _ rfl⟩
    rw [d1.1, d1.2]; exact a1' d hd i hi
  · rw [c2 233 rfl]; exact a2
  · rw [c1 2 rfl, i 4 (by omega)]; exact a4
  · rw [k41, i 25 (by omega)]; exact a5
  · rw [c1 42 rfl, c2 251 rfl]; exact a6
  · rw [c1 109 rfl, c2 316 rfl]; exact a8
  · rw [e15]; exact a9
  · rw [c1 100 rfl, i 112 (by omega)]; exact a10
  · rw [c1 111 rfl, c1 112 rfl, c1 113 rfl, c1 114 rfl, f2.2 317 d, c2 318 rfl, c2 319 rfl, c2 320 rfl]; exact a11
  · rw [c1 1 rfl, c1 228 rfl, i 141 (by omega), c2 334 rfl]; exact a12
  · rw [c1 1 rfl, c1 229 rfl, i 143 (by omega), c2 335 rfl]; exact a13
  · rw [e19, eR]; exact a15
/-- a text was read by the reference -/
def rsQ (N X : mz_N) (m : Nat) (tx : Nat → Nat) : Prop := (fq [232, 253, 254, 255, 256, 338, 339] [] N X) ∧ (∀ f, f ≠ 28 → f ≠ 31 → f ≠ 35 → (f < 147 ∨ 154 < f) → f ≠ 156 → f ≠ 157 → X.1 232 f = N.1 232 f) ∧ ((prs tx m).1 ≠ 0 → X.1 232 35 = nI (prs tx m).2.1) ∧ ((prs tx m).1 = 0 → X.1 232 28 = nI (na (prs tx m).2.2) ∧ rws (X.1 253) (X.1 254) (X.1 255) (X.1 256) (prs tx m).2.2)
theorem rsQ.f {N X : mz_N} {m : Nat} {tx : Nat → Nat} (h : rsQ N X m tx) : fq [232, 253, 254, 255, 256, 338, 339] [] N X := h.1
theorem rsQ.i {N X : mz_N} {m : Nat} {tx : Nat → Nat} (h : rsQ N X m tx) : ∀ f, f ≠ 28 → f ≠ 31 → f ≠ 35 → (f < 147 ∨ 154 < f) → f ≠ 156 → f ≠ 157 → X.1 232 f = N.1 232 f := h.2.1
theorem rsQ.e5 {N X : mz_N} {m : Nat} {tx : Nat → Nat} (h : rsQ N X m tx) : (prs tx m).1 ≠ 0 → X.1 232 35 = nI (prs tx m).2.1 := h.2.2.1
theorem rsQ.c {N X : mz_N} {m : Nat} {tx : Nat → Nat} (h : rsQ N X m tx) : (prs tx m).1 = 0 → X.1 232 28 = nI (na (prs tx m).2.2) ∧ rws (X.1 253) (X.1 254) (X.1 255) (X.1 256) (prs tx m).2.2 := h.2.2.2
theorem rd439 (hn : n ≤ 196) (htx : ∀ j, tx j < 128) (hK : r_sc N K n tx) : cp_439_0 K ∧ (cf_439_0 K).1 = nI (prs tx n).1 ∧ rsQ N (cf_439_0 K).2 n tx := by
  obtain ⟨s1, s2, s3⟩ := hK
  obtain ⟨a1, F, W, V, E, G, K', r1, r2, r3, r3', r4⟩ := r_parse (N := K) hn (by rw [s2, up_a, if_pos rfl]) s3 htx
  rw [r1]
  refine ⟨a1, rfl, ?_⟩
  show rsQ N (rsM K F W V E G K') n tx
  have g1 : (rsM K F W V E G K').1 232 = F := by unfold rsM; rw [sI_e]
  have g2 : (rsM K F W V E G K').1 253 = W := by unfold rsM; rw [sI_n (by decide), sI_n (by decide), sI_n (by decide), sI_n (by decide), sI_n (by decide), sI_e]
  have g3 : (rsM K F W V E G K').1 254 = V := by unfold rsM; rw [sI_n (by decide), sI_n (by decide), sI_n (by decide), sI_n (by decide), sI_e]
  have g4 : (rsM K F W V E G K').1 255 = E := by unfold rsM; rw [sI_n (by decide), sI_n (by decide), sI_n (by decide), sI_e]
  have g5 : (rsM K F W V E G K').1 256 = G := by unfold rsM; rw [sI_n (by decide), sI_n (by decide), sI_e]
  refine ⟨fq_trans (M := K) (fq_sub s1 rfl rfl) (fq_sI (fq_sI (fq_sI (fq_sI (fq_sI (fq_sI (fq_refl _ _ _) rfl) rfl) rfl) rfl) rfl) rfl), fun f h1 h2 h2' h3 h4 h5 => ?_, fun z => by rw [g1]; exact r3' z, fun z => ⟨by rw [g1]; exact (r4 z).2.1, by rw [g2, g3, g4, g5]; exact (r4 z).2.2.2⟩⟩
  rw [g1, r2 f h1 h2 h2' (by omega) h4 h5, s2, up_a, if_neg (by omega)]
theorem load_al (hB : B + 1 < 2 ^ 30) (h : Sm q B N1 b N2) : cp_191_0 N1 b ∧ cp_503_0 N2 ∧ cab1 q (B + 1) N1 N2 (cf_191_0 N1 b) (cf_503_0 N2) := by
  rcases Sm_0 h with ⟨hu, u1, u2, F1, Ft, Ff, Fs, F3, F4⟩ | ⟨u1, u2, F1, Fd, F3, F4⟩
  · obtain ⟨p, C, s, D, H, x, L, R, h1, h2, h3, h4, h5, h6⟩ := id hu
    obtain ⟨t1, t2, t3⟩ := h4.tl
    have hk := h3.cs.ks
    have hbH := hk.hb
    obtain ⟨n, en⟩ : ∃ n, n = R.tl := ⟨_, rfl⟩
    rw [← en] at t1 t2 t3
    obtain ⟨tx, etx⟩ : ∃ tx : Nat → Nat, tx = fun j => if j < n then R.tx j else 0 := ⟨_, rfl⟩
    have tlt : ∀ j, j < n → tx j = R.tx j := fun j hj => by rw [etx]; exact if_pos hj
    have tge : ∀ j, n ≤ j → tx j = 0 := fun j hj => by rw [etx]; exact if_neg (by omega)
    have t42 : ∀ j, j < n → N1.1 42 j = nI (tx j) := fun j hj => by rw [tlt j hj]; exact (h4.tx j (by omega)).1
    have t251 : ∀ j, j < n → (mz_pI N2 232 0 0).1 251 j = nI (tx j) := fun j hj => by rw [tlt j hj]; exact (h4.tx j (by omega)).2.1
    have txb : ∀ j, j < n → 32 ≤ tx j ∧ tx j ≤ 126 := fun j hj => by rw [tlt j hj]; exact (h4.tx j (by omega)).2.2
    have tx8 : ∀ j, tx j < 128 := fun j => by
      by_cases w : j < n
      · have := txb j w; omega
      · rw [tge j (by omega)]; omega
    have c25 : (mz_pI N2 232 0 0).1 232 25 = nI n := t2
    have e232 : ∀ f, f ≠ 0 → (mz_pI N2 232 0 0).1 232 f = N2.1 232 f := fun f hf => by rw [pI_s, sI_e, up_a, if_neg hf]
    have e0 : (mz_pI N2 232 0 0).1 232 0 = 0 := code_0
    have fY : fq [232] [] N2 (mz_pI N2 232 0 0) := fq_pI (fq_refl _ _ _) rfl
    obtain ⟨p1, p2, p3⟩ := par_c (N := N1) (b := b) (n := n) (a1 := 42) (tx := tx) (Or.inl rfl) t3 t42 tx8
    have pb := prs_b (tx := tx) (n := n)
    have R1 : cf_503_0 N2 = cf_503_19 0 (mz_pI (mz_pI N2 232 0 0) 232 147 ((mz_pI N2 232 0 0).1 232 25)) := by rw [cf_503_0, F4, if_neg (fun z => by cases z)]
    have R2 : cp_503_19 0 (mz_pI (mz_pI N2 232 0 0) 232 147 ((mz_pI N2 232 0 0).1 232 25)) → cp_503_0 N2 := fun z => by
      rw [cp_503_0, F4]
      exact ⟨F3, (fun y => by cases y), fun _ => z⟩
    rw [R1]
    generalize mz_pI N2 232 0 0 = Y at fY e232 e0 c25 t251 R2 ⊢
    generalize hP : cf_23_0 (mz_ot b) 42 (nI n) N1 = PP at p2 p3
    obtain ⟨pk, P⟩ := PP
    have p2 : pk = decide ((prs tx n).1 = 0) := p2
    have p3 : pcR N1 P b n tx := p3
    have ot41 : mz_ot b ≠ 41 := by rcases ot_o (b := b) with w | w <;> rw [w] <;> decide
    -- what remains: for every K
    have FIN : ∀ (cc : Nat × Int32 × mz_N × Bool), cf_191_0 N1 b = cc → cp_191_0 N1 b → (∀ K, r_sc Y K n tx → ((0 < nI (prs tx n).1 → cp_503_60 true (nI (prs tx n).1) (cf_439_0 K).2) ∧ (¬ 0 < nI (prs tx n).1 → cp_503_60 false (nI (prs tx n).1) (cf_439_0 K).2)) ∧ cab1 q (B + 1) N1 N2 cc (if 0 < nI (prs tx n).1 then cf_503_60 true (nI (prs tx n).1) (cf_439_0 K).2 else cf_503_60 false (nI (prs tx n).1) (cf_439_0 K).2)) → cp_191_0 N1 b ∧ cp_503_0 N2 ∧ cab1 q (B + 1) N1 N2 (cf_191_0 N1 b) (cf_503_19 0 (mz_pI Y 232 147 (Y.1 232 25))) := fun cc ec cp hall => by
      obtain ⟨a1, K, a2, a3⟩ := r_typ (N := Y) (n := n) (tx := tx) (r := fun K => if 0 < (cf_439_0 K).1 then cf_503_60 true (cf_439_0 K).1 (cf_439_0 K).2 else cf_503_60 false (cf_439_0 K).1 (cf_439_0 K).2) c25 t3 t251 (fun K => rfl) (fun K hK => by
        obtain ⟨b1', b2, _⟩ := rd439 t3 tx8 hK
        rw [b2]
        exact ⟨b1', (hall K hK).1⟩)
      obtain ⟨_, b2, _⟩ := rd439 t3 tx8 a3
      have a2' : cf_503_19 0 (mz_pI Y 232 147 (Y.1 232 25)) = if 0 < (cf_439_0 K).1 then cf_503_60 true (cf_439_0 K).1 (cf_439_0 K).2 else cf_503_60 false (cf_439_0 K).1 (cf_439_0 K).2 := a2
      rw [b2] at a2'
      refine ⟨cp, R2 a1, ?_⟩
      rw [ec, a2']
      exact (hall K a3).2
    by_cases hz : (prs tx n).1 = 0
    · -- the text can be read
      have n0 : ¬ 0 < nI (prs tx n).1 := by rw [hz]; decide
      have pt : pk = true := by rw [p2]; exact decide_eq_true hz
      have fA : fq (41 :: pgA) [] N1 (mz_pI (mz_pI P 41 4 (-1)) 41 5 (-1)) := fq_pI (fq_pI (fq_sub p3.f rfl rfl) rfl) rfl
      have xA : (mz_pI (mz_pI P 41 4 (-1)) 41 5 (-1)).1 41 = upd (upd (N1.1 41) 4 (-1)) 5 (-1) := by
        rw [pI_s, sI_e, pI_s, sI_e, p3.f.1 41 rfl]
      have oA : ∀ d, d < 5 → (mz_pI (mz_pI P 41 4 (-1)) 41 5 (-1)).1 (mz_ot b + d) = P.1 (mz_ot b + d) := fun d hd => by
        have k : mz_ot b + d ≠ 41 := by rcases ot_o (b := b) with w | w <;> rw [w] <;> omega
        rw [pI_s, sI_n k, pI_s, sI_n k]
      generalize hA : mz_pI (mz_pI P 41 4 (-1)) 41 5 (-1) = A at fA xA oA
      obtain ⟨g1, g, g2, g3⟩ := tg_c (N := A)
      have f1 : fq (41 :: 53 :: pgA) [] N1 (mz_sI A 53 g) := fq_sI (fq_sub fA rfl rfl) rfl
      have x41 : (mz_sI A 53 g).1 41 = upd (upd (N1.1 41) 4 (-1)) 5 (-1) := by rw [sI_n (by decide)]; exact xA
      have x53 : ∀ j, j < 16 → (mz_sI A 53 g).1 53 j = nI (tg0 j) := fun j hj => by rw [sI_e, g3, if_pos hj]
      have oM : ∀ d, d < 5 → (mz_sI A 53 g).1 (mz_lv (!b) + d) = P.1 (mz_ot b + d) := fun d hd => by
        have k : mz_ot b + d ≠ 53 := by rcases ot_o (b := b) with w | w <;> rw [w] <;> omega
        rw [lv_ot, sI_n k]; exact oA d hd
      have C2 : cf_191_0 N1 b = cf_191_27 0 (cf_117_0 (mz_sI A 53 g)) (!b) := by
        rw [cf_191_0, u2, if_pos rfl, cf_192_0, t1, hP, if_pos pt, cf_76_0]
        dsimp only
        rw [hA, g2, if_pos rfl]
      have C3 : cp_191_27 0 (cf_117_0 (mz_sI A 53 g)) (!b) → cp_191_0 N1 b := fun z => by
        rw [cp_191_0, u2, cp_192_0, cf_192_0, t1, hP, if_pos pt, cf_76_0, cp_76_0]
        dsimp only
        rw [hA, g2]
        exact ⟨u1, fun _ => ⟨⟨p1, fun _ => g1, fun y => absurd pt y⟩, fun _ => z, fun y => absurd rfl y⟩, fun y => absurd rfl y⟩
      generalize mz_sI A 53 g = Q1 at f1 x41 x53 oM C2 C3
      have o0 : Q1.1 (mz_lv (!b)) = P.1 (mz_ot b) := oM 0 (by omega)
      obtain ⟨w4, w5, ww⟩ := p3.c hz
      obtain ⟨G, eG⟩ : ∃ G : Kp, G = (up (up H.1 4 tx) 5 (up (H.1 5) 0 n), H.2) := ⟨_, rfl⟩
      have G4 : G.1 4 = tx := by rw [eG]; rfl
      have G5 : G.1 5 0 = n := by rw [eG]; rfl
      have Ge : ∀ f, f ≠ 4 → f ≠ 5 → G.1 f = H.1 f := fun f a c => by rw [eG]; show up (up H.1 4 tx) 5 _ f = _; rw [up_d, if_neg c, up_d, if_neg a]
      have G2 : G.2 = H.2 := by rw [eG]
      clear eG
      have hbG : kpb G := by
        obtain ⟨y0, y1, y2, y3, y5, y4, yt, y6⟩ := hbH
        unfold kpb
        rw [G4, G5, Ge 0 (by decide) (by decide), Ge 1 (by decide) (by decide), Ge 2 (by decide) (by decide), Ge 3 (by decide) (by decide), Ge 6 (by decide) (by decide), Ge 7 (by decide) (by decide), Ge 8 (by decide) (by decide), Ge 9 (by decide) (by decide), Ge 10 (by decide) (by decide), Ge 11 (by decide) (by decide), Ge 12 (by decide) (by decide), Ge 13 (by decide) (by decide), Ge 14 (by decide) (by decide), Ge 15 (by decide) (by decide), Ge 16 (by decide) (by decide), Ge 17 (by decide) (by decide), Ge 18 (by decide) (by decide), Ge 19 (by decide) (by decide), Ge 20 (by decide) (by decide), Ge 21 (by decide) (by decide)]
        exact ⟨y0, y1, y2, y3, t3, tx8, tge, y6⟩
      have hKB : KB p G := by
        obtain ⟨d1, d2, d3, d4, d5, d6, d7, d8, d9, d10, d11, d12, d13, d14, d15, d16, d17⟩ := h3.iv.kb
        unfold KB
        rw [G2, Ge 2 (by decide) (by decide), Ge 6 (by decide) (by decide), Ge 8 (by decide) (by decide), Ge 9 (by decide) (by decide), Ge 10 (by decide) (by decide), Ge 11 (by decide) (by decide), Ge 19 (by decide) (by decide), Ge 20 (by decide) (by decide), Ge 21 (by decide) (by decide)]
        exact ⟨d1, d2, d3, d4, d5, d6, d7, d8, d9, d10, d11, d12, d13, d14, d15, d16, d17⟩
      obtain ⟨v1, v2, v3, v4⟩ := prs_v hz
      have hck : c_kp Q1 (!b) G := ckp_t hk.kc f1 rfl rfl Ge G2 (by rw [o0, G5]; exact p3.ln) (fun j hj => by rw [G5] at hj; rw [oM 1 (by omega), G4]; exact p3.t j hj)
      have hcc : crC Q1 G x := crC_f h3.cs.cc f1 rfl (Ge 8 (by decide) (by decide))
      -- the reference, for every K
      have AL : ∀ K, r_sc Y K n tx → ∀ X, X = (cf_439_0 K).2 → ∀ g', (∀ j, j < 196 → g' j = nI (tx j)) → cp_437_0 (mz_sI (mz_pI (mz_pI X 232 36 0) 232 27 (nI n)) 252 g') ∧ (∃ M2, cf_437_0 (mz_sI (mz_pI (mz_pI X 232 36 0) 232 27 (nI n)) 252 g') = M2 ∧ pW p C s D G x (fun j => (tg0 j : Int), L.c, L.u, L.k, L.w, L.cr, L.R, (prs tx n).2.2, L.sd) Q1 (!b) M2 (kl6 8) ∧ RsR G (fun j => (tg0 j : Int), L.c, L.u, L.k, L.w, L.cr, L.R, (prs tx n).2.2, L.sd) (R.dr, R.bs, R.ve, R.tl, R.tx, false, R.wh, R.lg, R.tn, R.ta, R.rn, R.ra) Q1 M2 ∧ oF N1 N2 Q1 M2 ∧ M2.1 232 0 = 0 ∧ M2.1 232 28 = nI (na (prs tx n).2.2)) := fun K hK X eX g' hg' => by
        obtain ⟨_, _, b3⟩ := rd439 t3 tx8 hK
        rw [← eX] at b3
        have x232 : ∀ f, f ≠ 36 → f ≠ 27 → (mz_sI (mz_pI (mz_pI X 232 36 0) 232 27 (nI n)) 252 g').1 232 f = X.1 232 f := fun f a c => by
          rw [sI_n (by decide), pI_s, sI_e, up_a, if_neg c, pI_s, sI_e, up_a, if_neg a]
        have x27 : (mz_sI (mz_pI (mz_pI X 232 36 0) 232 27 (nI n)) 252 g').1 232 27 = nI n := by rw [sI_n (by decide), pI_s, sI_e, up_a, if_pos rfl]
        have x36 : (mz_sI (mz_pI (mz_pI X 232 36 0) 232 27 (nI n)) 252 g').1 232 36 = 0 := by rw [sI_n (by decide), pI_s, sI_e, up_a, if_neg (by decide), pI_s, sI_e, up_a, if_pos rfl]
        have x252 : (mz_sI (mz_pI (mz_pI X 232 36 0) 232 27 (nI n)) 252 g').1 252 = g' := sI_e _ _ _
        have fZ : fq [232, 252, 253, 254, 255, 256, 338, 339] [] N2 (mz_sI (mz_pI (mz_pI X 232 36 0) 232 27 (nI n)) 252 g') := fq_sI (fq_pI (fq_pI (fq_trans (M := Y) (fq_sub fY rfl rfl) (fq_sub b3.f rfl rfl)) rfl) rfl) rfl
        have x25 : ∀ z, z = 253 ∨ z = 254 ∨ z = 255 ∨ z = 256 → (mz_sI (mz_pI (mz_pI X 232 36 0) 232 27 (nI n)) 252 g').1 z = X.1 z := fun z hz => by
          rw [sI_n (by omega), pI_s, sI_n (by omega), pI_s, sI_n (by omega)]
        generalize mz_sI (mz_pI (mz_pI X 232 36 0) 232 27 (nI n)) 252 g' = Z at x232 x27 x36 x252 fZ x25 ⊢
        obtain ⟨q1, g'', q2, q3⟩ := tg_r (N := Z)
        refine ⟨q1, _, q2, ?_⟩
        have f2 : fq [232, 252, 253, 254, 255, 256, 257, 338, 339] [] N2 (mz_sI Z 257 g'') := fq_sI (fq_sub fZ rfl rfl) rfl
        have y257 : ∀ j, j < 16 → (mz_sI Z 257 g'').1 257 j = nI (tg0 j) := fun j hj => by rw [sI_e, q3, if_pos ⟨Nat.zero_le _, by omega⟩, Nat.sub_zero]
        have y232 : (mz_sI Z 257 g'').1 232 = Z.1 232 := sI_n (by decide)
        have y252 : (mz_sI Z 257 g'').1 252 = Z.1 252 := sI_n (by decide)
        have y25 : ∀ z, z = 253 ∨ z = 254 ∨ z = 255 ∨ z = 256 → (mz_sI Z 257 g'').1 z = X.1 z := fun z hz => by rw [sI_n (by omega)]; exact x25 z hz
        generalize mz_sI Z 257 g'' = M2 at f2 y257 y232 y252 y25 ⊢
        have i2 : ∀ f, f ≠ 0 → f ≠ 27 → f ≠ 28 → f ≠ 31 → f ≠ 35 → f ≠ 36 → (f < 147 ∨ 154 < f) → f ≠ 156 → f ≠ 157 → M2.1 232 f = N2.1 232 f := fun f a0 a1 a2 a3 a4 a5 a6 a7 a8 => by
          rw [y232, x232 f a5 a1, b3.i f a2 a3 a4 a6 a7 a8, e232 f a0]
        have l2 : M2.2 232 = N2.2 232 := f2.2 232 rfl
        have e28 : M2.1 232 28 = nI (na (prs tx n).2.2) := by rw [y232, x232 28 (by decide) (by decide)]; exact (b3.c hz).1
        have h0 : M2.1 232 0 = 0 := by rw [y232, x232 0 (by decide) (by decide), b3.i 0 (by decide) (by decide) (by decide) (by decide) (by decide) (by decide)]; exact e0
        refine ⟨?_, ?_, oF_q f1 f2 rfl rfl rfl rfl, h0, e28⟩
        · refine pW_ob h3 (L' := (fun j => (tg0 j : Int), L.c, L.u, L.k, L.w, L.cr, L.R, (prs tx n).2.2, L.sd)) ?_ (stK_of f1 f2 rfl rfl (fun f hf => i2 f (by omega) (by omega) (by omega) (by omega) (by omega) (by omega) (by omega) (by omega) (by omega)) (by rw [l2])) hck ?_ hbG hcc (crR_f h3.cs.cr f2 rfl rfl (i2 96 (by omega) (by omega) (by omega) (by omega) (by omega) (by omega) (by omega) (by omega) (by omega)) (by rw [l2]) (Ge 8 (by decide) (by decide))) (Ge 8 (by decide) (by decide)) (by rw [G2]) (by rw [G2]) hKB ?_ (by rw [G4, G5]; exact hz) ?_ ?_ ?_ (kl6_a (Nat.le_refl _)) (by rw [kl6_n]; omega) (fun k hk => kxt_n (by rw [((kl6_m 8 k).mp hk).1]; omega)) (fun k hk => kpl_n (by rw [((kl6_m 8 k).mp hk).1]; omega) (by rw [((kl6_m 8 k).mp hk).1]; omega) (by rw [((kl6_m 8 k).mp hk).1]; omega)) kl6_g (Or.inr (fun k hk => Or.inl (by rw [((kl6_m 8 k).mp hk).1]; omega)))
          · rw [Ge 0 (by decide) (by decide), Ge 1 (by decide) (by decide)]
            refine LR_g h3.lr ⟨by rw [o0]; exact w4, by rw [o0]; exact w5, by rw [oM 2 (by omega), oM 3 (by omega)]; exact ww, e28, ?_⟩ ⟨v1, v2, Nat.le_trans v4 t3, v3⟩ (fun j hj => ?_) tg0_J f1 f2 rfl rfl rfl rfl (fun f hf => i2 f (by omega) (by omega) (by omega) (by omega) (by omega) (by omega) (by omega) (by omega) (by omega)) (fun f _ => by rw [l2])
            · rw [y25 253 (by omega), y25 254 (by omega), y25 255 (by omega), y25 256 (by omega)]; exact (b3.c hz).2
            · rw [← iI_n]; exact ⟨x53 j hj, y257 j hj⟩
          · exact rkp_t hk.kr f2 rfl rfl (i2 21 (by omega) (by omega) (by omega) (by omega) (by omega) (by omega) (by omega) (by omega) (by omega)) l2 Ge G2 (by rw [y232, x27, G5]) (fun j hj => by rw [y252, x252, G4]; exact hg' j hj)
          · rw [Ge 0 (by decide) (by decide), Ge 1 (by decide) (by decide)]; exact h3.iv.pl
          · intro j hj
            rw [G5] at hj
            rw [G4]; exact txb j hj
          · rw [Ge 12 (by decide) (by decide), Ge 13 (by decide) (by decide), Ge 14 (by decide) (by decide)]
            exact fun j hj z => MR_dr h3 j hj z
          · refine kgo_l (kd0 := 6) (p := fun jx => jx < 8) (l := kl6 8) (kgn_6 Ge (fun f => by rw [G2])) (fun jx hj => (kl6_m 8 (6, jx)).mpr ⟨rfl, hj⟩) (fun jx hj => ?_)
            show (if jx = 7 then H.1 5 0 = G.1 5 0 else ∀ j, 28 * jx ≤ j → j < 28 * jx + 28 → H.1 4 j = G.1 4 j)
            rw [if_neg (by omega)]
            intro j y1 y2
            have nH : H.1 5 0 ≤ 196 := hbH.2.2.2.2.1
            rw [hbH.2.2.2.2.2.2.1 j (by omega), G4, tge j (by omega)]
        · exact RsR_g h4 f1 f2 rfl rfl rfl (by rw [x41]; rfl) (fun f hf => i2 f (by omega) (by omega) (by omega) (by omega) (by omega) (by omega) (by omega) (by omega) (by omega)) ⟨by rw [y232, x36]; rfl, (fun z => by cases z), fun _ => ⟨by rw [x41]; rfl, by rw [x41]; rfl⟩⟩ (Ge 15 (by decide) (by decide)) (Ge 19 (by decide) (by decide)) (by rw [G4, G5]) rfl
      -- both write
      have WR : ∀ K, r_sc Y K n tx → ∀ X, X = (cf_439_0 K).2 → ∀ g', (∀ j, j < 196 → g' j = nI (tx j)) → cp_437_0 (mz_sI (mz_pI (mz_pI X 232 36 0) 232 27 (nI n)) 252 g') ∧ cp_503_150 0 (cf_471_0 (cf_437_0 (mz_sI (mz_pI (mz_pI X 232 36 0) 232 27 (nI n)) 252 g'))) ∧ cp_191_27 0 (cf_117_0 Q1) (!b) ∧ ∃ a K1 K2, cf_191_27 0 (cf_117_0 Q1) (!b) = (0, a, K1, !b) ∧ cf_503_150 0 (cf_471_0 (cf_437_0 (mz_sI (mz_pI (mz_pI X 232 36 0) 232 27 (nI n)) 252 g'))) = (a, K2) ∧ cal1 q (B + 1) (!b) N1 N2 (0, a, K1) (a, K2) := fun K hK X eX g' hg' => by
        obtain ⟨q1, M2, q2, W, rs, O, h0, e28⟩ := AL K hK X eX g' hg'
        rw [q2]
        obtain ⟨o1, o2, w', K1, K2, o3, o4, o5, o6, o7, o8⟩ := wr_MR (show C + 1 < 2 ^ 30 by omega) W
        obtain ⟨k1, k2⟩ := k6_c (N := Q1) (b := !b) o1 o3
        obtain ⟨k3, k4⟩ := k6_r (N := M2) o2 o4
        have ea : K1.1 (mz_lv (!b)) 5 = nI (na (prs tx n).2.2) := by
          have e : K1.1 (mz_lv (!b)) = Q1.1 (mz_lv (!b)) := o5.1 _ (by rcases lv_o (b := !b) with w | w <;> rw [w] <;> rfl)
          rw [e, o0]; exact w5
        have er : K2.1 232 28 = nI (na (prs tx n).2.2) := by rw [o6.2.1 28 (by decide) (by decide) (by decide) (by decide) (by decide)]; exact e28
        rw [ea] at k2
        rw [er] at k4
        exact ⟨q1, k3, k1, _, K1, K2, k2, k4, cal_1 (grp_al (R := (R.dr, R.bs, R.ve, R.tl, R.tx, false, R.wh, R.lg, R.tn, R.ta, R.rn, R.ra)) h6 h1 (by omega) h5 W.lr rs O h0 o5 o6 o7 o8 rfl)⟩
      -- the end
      have hr60 : ∀ X : mz_N, cf_503_60 false (nI (prs tx n).1) X = cf_503_103 0 (mz_pI (mz_pI X 232 36 0) 232 27 (X.1 232 25)) ∧ (cp_503_103 0 (mz_pI (mz_pI X 232 36 0) 232 27 (X.1 232 25)) → cp_503_60 false (nI (prs tx n).1) X) := fun X => by
        have e1 : (mz_pI X 232 36 (mz_b01 false)).1 232 36 = 0 := by rw [pI_s, sI_e, up_a, if_pos rfl]; rfl
        have e2 : mz_fZ (mz_pI X 232 36 (mz_b01 false)) 232 36 = false := by
          show decide ((mz_pI X 232 36 (mz_b01 false)).1 232 36 = 1) = false
          rw [e1]; rfl
        have e3 : (mz_pI X 232 36 (mz_b01 false)).1 232 25 = X.1 232 25 := by rw [pI_s, sI_e, up_a, if_neg (by decide)]
        have nf : ¬ (false = true) := fun z => by cases z
        rw [cf_503_60, cp_503_60, e2, if_neg nf, e3, e1]
        exact ⟨rfl, fun z => ⟨Or.inl rfl, fun y => absurd y nf, fun _ => z⟩⟩
      have x25 : ∀ K, r_sc Y K n tx → (cf_439_0 K).2.1 232 25 = nI n ∧ ∀ j, j < n → (cf_439_0 K).2.1 251 j = nI (tx j) := fun K hK => by
        obtain ⟨_, _, b3⟩ := rd439 t3 tx8 hK
        exact ⟨by rw [b3.i 25 (by decide) (by decide) (by decide) (by decide) (by decide) (by decide)]; exact c25, fun j hj => by rw [b3.f.1 251 rfl]; exact t251 j hj⟩
      have KP : ∀ K, r_sc Y K n tx → cp_503_103 0 (mz_pI (mz_pI (cf_439_0 K).2 232 36 0) 232 27 (nI n)) ∧ ∃ g', cf_503_103 0 (mz_pI (mz_pI (cf_439_0 K).2 232 36 0) 232 27 (nI n)) = cf_503_150 0 (cf_471_0 (cf_437_0 (mz_sI (mz_pI (mz_pI (cf_439_0 K).2 232 36 0) 232 27 (nI n)) 252 g'))) ∧ ∀ j, j < 196 → g' j = nI (tx j) := fun K hK => by
        obtain ⟨y1, y2⟩ := x25 K hK
        have WK := WR K hK _ rfl
        generalize (cf_439_0 K).2 = X at y1 y2 WK ⊢
        refine r_keep (r := fun Z => cf_503_150 0 (cf_471_0 (cf_437_0 Z))) (n := n) (tx := tx) ?_ t3 (fun j hj => ?_) tge (fun g' hg' => ⟨(WK g' hg').1, (WK g' hg').2.1, rfl⟩)
        · rw [pI_s, sI_e, up_a, if_neg (by decide), pI_s, sI_e, up_a, if_neg (by decide)]; exact y1
        · rw [pI_s, sI_n (by decide), pI_s, sI_n (by decide)]; exact y2 j hj
      -- one K is there, so the class's side is settled
      have CP : cp_191_0 N1 b := by
        have hK0 : r_sc Y (mz_sI (mz_pI Y 232 147 (nI n)) 338 (fun j => nI (tx j))) n tx := ⟨fq_sI (fq_pI (fq_refl _ _ _) rfl) rfl, by rw [sI_n (by decide), pI_s, sI_e], fun j hj => by rw [sI_e]⟩
        exact C3 (WR _ hK0 _ rfl (fun j => nI (tx j)) (fun j _ => rfl)).2.2.1
      refine FIN _ rfl CP (fun K hK => ?_)
      obtain ⟨d1, d2⟩ := hr60 (cf_439_0 K).2
      obtain ⟨y1, y2⟩ := x25 K hK
      rw [y1] at d1 d2
      obtain ⟨k1, g', k2, k3⟩ := KP K hK
      obtain ⟨_, _, _, a, K1, K2, m1, m2, m3⟩ := WR K hK _ rfl g' k3
      refine ⟨⟨fun z => absurd z n0, fun _ => d2 k1⟩, ?_⟩
      rw [if_neg n0, d1, k2, m2, C2, m1]
      exact m3
    · -- the text can't be read
      have n0 : 0 < nI (prs tx n).1 := by
        show nI 0 < _
        exact (nI_ltI (by omega) (by omega)).mpr (by omega)
      have pt : ¬ pk = true := by rw [p2, decide_eq_false hz]; exact fun z => by cases z
      have ot0 : mz_ot b ≠ 41 := ot41
      have eo : (mz_pI P 41 4 (nI (prs tx n).1)).1 (mz_ot b) 7 = nI (prs tx n).2.1 := by rw [pI_s, sI_n ot0]; exact p3.e7 hz
      have C2 : cf_191_0 N1 b = (0, -1004, mz_pI (mz_pI P 41 4 (nI (prs tx n).1)) 41 5 (nI (prs tx n).2.1), b) := by
        rw [cf_191_0, u2, if_pos rfl, cf_192_0, t1, hP, if_neg pt]
        dsimp only
        rw [p3.e6, cf_192_29, if_neg (fun z => by cases z), eo]
      have CP : cp_191_0 N1 b := by
        rw [cp_191_0, u2, cp_192_0, cf_192_0, t1, hP, if_neg pt, cf_192_29]
        exact ⟨u1, fun _ => ⟨⟨p1, fun y => absurd y pt, fun _ => trivial⟩, (fun y => by cases y), fun _ => trivial⟩, fun y => absurd rfl y⟩
      have f1 : fq (41 :: pgA) [] N1 (mz_pI (mz_pI P 41 4 (nI (prs tx n).1)) 41 5 (nI (prs tx n).2.1)) := fq_pI (fq_pI (fq_sub p3.f rfl rfl) rfl) rfl
      have x41 : (mz_pI (mz_pI P 41 4 (nI (prs tx n).1)) 41 5 (nI (prs tx n).2.1)).1 41 = upd (upd (N1.1 41) 4 (nI (prs tx n).1)) 5 (nI (prs tx n).2.1) := by
        rw [pI_s, sI_e, pI_s, sI_e, p3.f.1 41 rfl]
      have oM : ∀ d, d < 5 → (mz_pI (mz_pI P 41 4 (nI (prs tx n).1)) 41 5 (nI (prs tx n).2.1)).1 (mz_lv b + d) = N1.1 (mz_lv b + d) := fun d hd => by
        have k : mz_lv b + d ≠ 41 := by rcases lv_o (b := b) with w | w <;> rw [w] <;> omega
        rw [pI_s, sI_n k, pI_s, sI_n k]; exact p3.lv d hd
      refine FIN _ C2 CP (fun K hK => ?_)
      generalize mz_pI (mz_pI P 41 4 (nI (prs tx n).1)) 41 5 (nI (prs tx n).2.1) = Q1 at f1 x41 oM ⊢
      have o0 : Q1.1 (mz_lv b) = N1.1 (mz_lv b) := oM 0 (by omega)
      obtain ⟨_, _, b3⟩ := rd439 t3 tx8 hK
      generalize (cf_439_0 K).2 = X at b3 ⊢
      obtain ⟨r1, r2, r3, r4, r5, r6, r6b, r7⟩ := id hk.kr
      have e1 : (mz_pI X 232 36 (mz_b01 true)).1 232 36 = 1 := by rw [pI_s, sI_e, up_a, if_pos rfl]; rfl
      have e2 : mz_fZ (mz_pI X 232 36 (mz_b01 true)) 232 36 = true := by
        show decide ((mz_pI X 232 36 (mz_b01 true)).1 232 36 = 1) = true
        rw [e1]; rfl
      have x232 : ∀ f, f ≠ 36 → f ≠ 34 → (mz_pI (mz_pI X 232 36 (mz_b01 true)) 232 34 (nI (prs tx n).1)).1 232 f = X.1 232 f := fun f a c => by rw [pI_s, sI_e, up_a, if_neg c, pI_s, sI_e, up_a, if_neg a]
      have x36 : (mz_pI (mz_pI X 232 36 (mz_b01 true)) 232 34 (nI (prs tx n).1)).1 232 36 = 1 := by rw [pI_s, sI_e, up_a, if_neg (by decide)]; exact e1
      have x34 : (mz_pI (mz_pI X 232 36 (mz_b01 true)) 232 34 (nI (prs tx n).1)).1 232 34 = nI (prs tx n).1 := by rw [pI_s, sI_e, up_a, if_pos rfl]
      have fT : fq [232, 253, 254, 255, 256, 338, 339] [] N2 (mz_pI (mz_pI X 232 36 (mz_b01 true)) 232 34 (nI (prs tx n).1)) := fq_pI (fq_pI (fq_trans (M := Y) (fq_sub fY rfl rfl) (fq_sub b3.f rfl rfl)) rfl) rfl
      rw [if_pos n0, cf_503_60, cp_503_60, e2, e1, if_pos rfl]
      generalize mz_pI (mz_pI X 232 36 (mz_b01 true)) 232 34 (nI (prs tx n).1) = T at x232 x36 x34 fT ⊢
      have eT : ∀ f, f ≠ 0 → f ≠ 28 → f ≠ 31 → f ≠ 34 → f ≠ 35 → f ≠ 36 → (f < 147 ∨ 154 < f) → f ≠ 156 → f ≠ 157 → T.1 232 f = N2.1 232 f := fun f a0 a1 a2 a3 a4 a5 a6 a7 a8 => by
        rw [x232 f a5 a3, b3.i f a1 a2 a4 a6 a7 a8, e232 f a0]
      obtain ⟨d1, d2⟩ := rd438 (N := T) (n := H.1 5 0) (tx := H.1 4) (by rw [eT 27 (by omega) (by omega) (by omega) (by omega) (by omega) (by omega) (by omega) (by omega) (by omega)]; exact r6) hbH.2.2.2.2.1 (fun j hj => by
        have := hbH.2.2.2.2.1
        rw [fT.1 252 rfl]; exact r6b j (by omega)) hbH.2.2.2.2.2.1 h3.iv.pr
      generalize cf_438_0 T = V at d1 d2 ⊢
      refine ⟨⟨fun _ => ⟨Or.inr rfl, fun _ => d1, fun y => absurd rfl y⟩, fun y => absurd n0 y⟩, ?_⟩
      have f2 : fq [232, 253, 254, 255, 256, 338, 339] [] N2 (mz_pI V 232 35 (T.1 232 35)) := fq_pI (fq_trans fT d2.f) rfl
      have y232 : ∀ f, f ≠ 35 → (mz_pI V 232 35 (T.1 232 35)).1 232 f = V.1 232 f := fun f a => by rw [pI_s, sI_e, up_a, if_neg a]
      have y35 : (mz_pI V 232 35 (T.1 232 35)).1 232 35 = nI (prs tx n).2.1 := by rw [pI_s, sI_e, up_a, if_pos rfl, x232 35 (by decide) (by decide)]; exact b3.e5 hz
      have y25 : ∀ z, z = 253 ∨ z = 254 ∨ z = 255 ∨ z = 256 → (mz_pI V 232 35 (T.1 232 35)).1 z = V.1 z := fun z hz => by rw [pI_s, sI_n (by omega)]
      generalize mz_pI V 232 35 (T.1 232 35) = M2 at f2 y232 y35 y25 ⊢
      have i2 : ∀ f, f ≠ 0 → f ≠ 28 → f ≠ 31 → f ≠ 34 → f ≠ 35 → f ≠ 36 → (f < 147 ∨ 154 < f) → f ≠ 156 → f ≠ 157 → M2.1 232 f = N2.1 232 f := fun f a0 a1 a2 a3 a4 a5 a6 a7 a8 => by
        rw [y232 f a4, d2.i f a1 a2 a6 a7 a8, eT f a0 a1 a2 a3 a4 a5 a6 a7 a8]
      have l2 : M2.2 232 = N2.2 232 := f2.2 232 rfl
      have h0 : M2.1 232 0 = 0 := by rw [y232 0 (by decide), d2.i 0 (by decide) (by decide) (by decide) (by decide) (by decide), x232 0 (by decide) (by decide), b3.i 0 (by decide) (by decide) (by decide) (by decide) (by decide) (by decide)]; exact e0
      have lr : LR p (H.1 0) (H.1 1) (L.T, L.c, L.u, L.k, L.w, L.cr, L.R, L.S, L.sd) Q1 b M2 := by
        obtain ⟨q1, q2, q3, q4, q5⟩ := h3.lr.pr
        refine LR_g h3.lr ⟨by rw [o0]; exact q1, by rw [o0]; exact q2, by rw [oM 2 (by omega), oM 3 (by omega)]; exact q3, ?_, ?_⟩ h3.lr.prb (fun j hj => ?_) h3.lr.tgb f1 f2 rfl rfl rfl rfl (fun f hf => i2 f (by omega) (by omega) (by omega) (by omega) (by omega) (by omega) (by omega) (by omega) (by omega)) (fun f _ => by rw [l2])
        · rw [y232 28 (by decide), h4.sp]; exact d2.r8
        · rw [y25 253 (by omega), y25 254 (by omega), y25 255 (by omega), y25 256 (by omega), h4.sp]; exact d2.rw
        · rw [f1.1 53 rfl, f2.1 257 rfl]; exact h3.lr.tg j hj
      have mr : MR p C s D H x (L.T, L.c, L.u, L.k, L.w, L.cr, L.R, L.S, L.sd) Q1 b M2 := by
        refine ⟨⟨KS_B hk (stK_of f1 f2 rfl rfl (fun f hf => i2 f (by omega) (by omega) (by omega) (by omega) (by omega) (by omega) (by omega) (by omega) (by omega)) (by rw [l2])) rfl ?_ ?_, crC_f h3.cs.cc f1 rfl rfl, crR_f h3.cs.cr f2 rfl rfl (i2 96 (by omega) (by omega) (by omega) (by omega) (by omega) (by omega) (by omega) (by omega) (by omega)) (by rw [l2]) rfl⟩, lr, h3.iv⟩
        · refine ckp_t hk.kc f1 rfl rfl (fun _ _ _ => rfl) rfl ?_ (fun j hj => ?_)
          · rw [o0]; exact hk.kc.2.2.2.2.2.1
          · rw [oM 1 (by omega)]; exact hk.kc.2.2.2.2.2.2.1 j hj
        · refine rkp_t hk.kr f2 rfl rfl (i2 21 (by omega) (by omega) (by omega) (by omega) (by omega) (by omega) (by omega) (by omega) (by omega)) l2 (fun _ _ _ => rfl) rfl ?_ (fun j hj => ?_)
          · rw [i2 27 (by omega) (by omega) (by omega) (by omega) (by omega) (by omega) (by omega) (by omega) (by omega)]; exact r6
          · rw [f2.1 252 rfl]; exact r6b j hj
      have rs := RsR_g (w := true) (G := H) (L' := (L.T, L.c, L.u, L.k, L.w, L.cr, L.R, L.S, L.sd)) h4 f1 f2 rfl rfl rfl (by rw [x41]; rfl) (fun f hf => i2 f (by omega) (by omega) (by omega) (by omega) (by omega) (by omega) (by omega) (by omega) (by omega)) ⟨by rw [y232 36 (by decide), d2.i 36 (by decide) (by decide) (by decide) (by decide) (by decide), x36]; rfl, fun _ => ⟨by rw [x41, y232 34 (by decide), d2.i 34 (by decide) (by decide) (by decide) (by decide) (by decide), x34]; rfl, by rw [x41, y35]; rfl⟩, (fun z => by cases z)⟩ rfl rfl h4.sp rfl
      exact cal1_u h0 rfl (oF_q f1 f2 rfl rfl rfl rfl) ⟨p, C, s, D, H, x, _, _, h1, by omega, mr, rs, h5, h6⟩
  · refine ⟨?_, ?_, ?_⟩
    · rw [cp_191_0, u2]
      exact ⟨u1, (fun z => by cases z), fun _ => trivial⟩
    · rw [cp_503_0, F4]
      exact ⟨F3, fun _ => trivial, fun z => absurd rfl z⟩
    · have e1 : cf_191_0 N1 b = (2, 0, N1, b) := by rw [cf_191_0, u2, if_neg (by decide)]
      have e2 : cf_503_0 N2 = (0, mz_pI N2 232 0 1) := by rw [cf_503_0, F4, if_pos rfl]
      rw [e1, e2]
      show cal1 q (B + 1) b N1 N2 (2, 0, N1) (0, mz_pI N2 232 0 1)
      exact cal1_d (a := 0) (a' := 0) (Sm_m (Nat.le_refl _) (Nat.le_succ _) h) rfl rfl
end Lq
