/-! PURE (50zzzm): the reference notes its alarms (2). -/
section Alr2
variable {N : mz_N} {e fl : Nat → Nat} {w : wtc} {tm co : Nat} {on tr sh fa : Nat → Bool} {dry : Bool} {G : Nat → Int32} {cr mo : Nat → Nat}
theorem cold_lr {g : Int32} {W : Int64} (hg : -(2 ^ 30 : Int) ≤ g.toInt ∧ g.toInt ≤ 2 ^ 30) : (W < (g - 30).toInt64) ↔ W.toInt + 30 < g.toInt := by
  rw [lt_i, Int32.toInt_toInt64, Int32.toInt_sub, show (30 : Int32).toInt = 30 from rfl, Int.bmod_eq_of_le (by omega) (by omega)]
  omega
theorem note_r {v : Nat → Nat} {st u : Nat → Int64} (hn : pl_n e ≤ 40) (hp : r_pl e fl N) (hw : wcr N w) (hwn : w.2.2.2 < 2 ^ 29) (htm : N.2 232 2 = lN tm) (h78 : ∀ j, j < 10 → N.1 278 j = nI (v j) ∧ v j ≤ 2 ^ 30) (hdry : N.1 232 67 = mz_b01 dry) (hco : N.2 232 68 = lN co) (hco2 : co < 2 ^ 30) (htr : ∀ j, j < 11 → N.1 275 j = nI (b1 (tr j))) (hsh : ∀ j, j < 11 → N.1 273 j = nI (b1 (sh j))) (hfa : ∀ j, j < 3 → N.1 307 j = nI (b1 (fa j))) (hmo : ∀ c, c < 240 → N.2 263 c = lN (mo c) ∧ mo c ≤ 1000) (hst : N.2 261 = st) (hu : N.2 265 = u)
    (o0 : ∀ j, j < 10 → on j = decide (30 ≤ v j)) (o10 : on 10 = dry) (o11 : on 11 = decide (240 ≤ co)) (o12 : on 12 = anb tr 11) (o13 : on 13 = anb fa 3) (o14 : on 14 = anb sh 11) (o15 : on 15 = anb (stf e fl st) 10) (o16 : on 16 = adt e u (pl_n e)) (o17 : on 17 = anb (fun c => decide (500 ≤ mo c)) 240) :
    cp_537_115 0 N ∧ ∃ K, cf_537_115 0 N = K ∧ fq [232, 279, 280] [281, 340] N K ∧ wcr K (snA on tm 18 w) ∧ ∀ j, j ≠ 72 → K.1 232 j = N.1 232 j := by
  rw [cp_537_115, cf_537_115]
  refine mz_lpn (f := cq_537_115) (P := cd_537_115) (Q := fun t => ∃ K, t = K ∧ fq [232, 279, 280] [281, 340] N K ∧ wcr K (snA on tm 18 w) ∧ ∀ j, j ≠ 72 → K.1 232 j = N.1 232 j) 18 (fun a t => ∃ K, t = (nI a, K) ∧ fq [232, 279, 280] [281, 340] N K ∧ wcr K (snA on tm a w) ∧ ∀ j, j ≠ 72 → K.1 232 j = N.1 232 j) ?_ ?_ (Nat.zero_le _) ⟨N, rfl, fq_refl _ _ _, hw, fun _ _ => rfl⟩
  · rintro a t ha ⟨K, rfl, h1, h2, h4⟩
    have hpK : r_pl e fl K := rpl_cg (h4 7 (by decide)) (fun c hc => h1.1 c (by
      have k1 : c ≠ 232 := fun z => by rw [z] at hc; cases hc
      have k2 : c ≠ 279 := fun z => by rw [z] at hc; cases hc
      have k3 : c ≠ 280 := fun z => by rw [z] at hc; cases hc
      simp [k1, k2, k3])) hp
    obtain ⟨p1, M, p2, p3⟩ := on_r (N := K) (a := a) (v := v) (on := on) (tr := tr) (sh := sh) (fa := fa) (mo := mo) (st := st) (u := u) ha hn hpK (by rw [h1.1 278 rfl]; exact h78) (by rw [h4 67 (by decide)]; exact hdry) (by rw [h1.2 232 rfl]; exact hco) hco2 (by rw [h1.1 275 rfl]; exact htr) (by rw [h1.1 273 rfl]; exact hsh) (by rw [h1.1 307 rfl]; exact hfa) (by rw [h1.2 263 rfl]; exact hmo) (by rw [h1.2 261 rfl]; exact hst) (by rw [h1.2 265 rfl]; exact hu) o0 o10 o11 o12 o13 o14 o15 o16 o17
    have hcnt := snA_n (on := on) (tm := tm) (w := w) a
    have m1 : M.1 = K.1 := funext fun c => p3.1 c rfl
    have m81 : M.2 281 = K.2 281 := p3.2 281 rfl
    have m232 : M.2 232 = N.2 232 := by rw [p3.2 232 rfl, h1.2 232 rfl]
    have mfq : fq [232, 279, 280] [281, 340] N M := fq_trans h1 ⟨fun c _ => by rw [m1], fun c hc => p3.2 c (by
      have k1 : c ≠ 340 := fun z => by rw [z] at hc; cases hc
      simp [k1])⟩
    rw [snA_s] at *
    generalize snA on tm a w = wa at h2 hcnt
    obtain ⟨w1, w2, w3⟩ := h2
    have l : nI a < 18 := (nI_ltI (b := 18) (by omega) (by omega)).mpr ha
    have ia : mz_ib (nI a) 18 := ib_n ha (by omega)
    have ca : (nI a).toNatClampNeg = a := nI_clamp (by omega)
    have gz : mz_gZ M 279 (nI a) = wa.1 a := by rw [gZ_a, ca, m1, w1 a ha]; exact d_b01 _
    have hz : mz_z01 (mz_gI M 279 (nI a)) := by rw [gI_a, ca, m1, w1 a ha]; exact z01_b01 _
    have nochg : ¬ (on a = true ∧ wa.1 a = false) → ∃ t2, cf_537_179 (nI a) (on a) M = .inl t2 ∧ ∃ K, t2 = (nI (a + 1), K) ∧ fq [232, 279, 280] [281, 340] N K ∧ wcr K (snd1 a (on a) tm wa) ∧ ∀ j, j ≠ 72 → K.1 232 j = N.1 232 j := fun hno => by
      refine ⟨_, rfl, _, by rw [nI_1], fq_wI mfq rfl, ?_, fun j hj => by show M.1 232 j = _; rw [m1]; exact h4 j hj⟩
      rw [snd1, if_neg hno]
      refine ⟨fun b hb => ?_, fun i hi hi2 => ⟨?_, ?_⟩, ?_⟩
      · show upd (M.1 279) (nI a).toNatClampNeg (mz_b01 (on a)) b = mz_b01 (up wa.1 a (on a) b)
        rw [up_a, ca, m1]
        unfold up
        by_cases z : b = a
        · rw [if_pos z, if_pos z]
        · rw [if_neg z, if_neg z]; exact w1 b hb
      · show M.1 280 i = _
        rw [m1]; exact (w2 i hi hi2).1
      · show M.2 281 i = _
        rw [m81]; exact (w2 i hi hi2).2
      · show M.1 232 72 = _
        rw [m1]; exact w3
    rw [cd_537_115, cq_537_115]
    simp only [l, if_true, p2, gz]
    cases ho : on a with
    | false =>
      rw [ho] at nochg
      rw [if_neg (by decide)]
      exact ⟨⟨fun _ => ⟨p1, (fun z => by cases z), fun _ => ia⟩, fun _ => trivial⟩, Or.inl (nochg (fun z => by cases z.1))⟩
    | true =>
      rw [ho] at nochg
      rw [if_pos rfl]
      cases hwa : wa.1 a with
      | true =>
        rw [if_pos rfl]
        exact ⟨⟨fun _ => ⟨p1, fun _ => ⟨ia, hz, fun _ => ia, fun z => absurd rfl z⟩, fun z => absurd rfl z⟩, fun _ => trivial⟩, Or.inl (nochg (fun z => by have := z.2; rw [hwa] at this; cases this))⟩
      | false =>
        rw [if_neg (by decide)]
        have m72 : M.1 232 72 = nI wa.2.2.2 := by rw [m1]; exact w3
        have er : mz_irem (nI wa.2.2.2) 32 = nI (wa.2.2.2 % 32) := by rw [show (32 : Int32) = nI 32 from rfl, irem_n (by omega) (by omega) (by omega)]
        have e72 : ∀ i x, (mz_wI M 280 i x).1 232 72 = nI wa.2.2.2 := fun i x => m72
        have e2 : ∀ i x, (mz_wI M 280 i x).2 232 2 = lN tm := fun i x => by show M.2 232 2 = _; rw [m232]; exact htm
        have ir : mz_ib (nI (wa.2.2.2 % 32)) 32 := ib_n (by omega) (by omega)
        have cr' : (nI (wa.2.2.2 % 32)).toNatClampNeg = wa.2.2.2 % 32 := nI_clamp (by omega)
        simp only [m72, e72, er, e2]
        refine ⟨⟨fun _ => ⟨p1, fun _ => ⟨ia, hz, (fun z => by cases z), fun _ => ⟨ir, ir, ia⟩⟩, fun z => absurd trivial z⟩, fun _ => trivial⟩, Or.inl ?_⟩
        refine ⟨_, rfl, _, by rw [nI_1], fq_wI (fq_pI (fq_wL (fq_wI mfq rfl) rfl) rfl) rfl, ?_, fun j hj => ?_⟩
        · rw [snd1, if_pos ⟨rfl, hwa⟩]
          have hlt : ∀ i, i < 32 → i < wa.2.2.2 + 1 → i ≠ wa.2.2.2 % 32 → i < wa.2.2.2 := fun i a c d => by omega
          refine ⟨fun b hb => ?_, fun i hi hi2 => ⟨?_, ?_⟩, ?_⟩
          · show upd (M.1 279) (nI a).toNatClampNeg (mz_b01 true) b = mz_b01 (up wa.1 a true b)
            rw [up_a, ca, m1]
            unfold up
            by_cases z : b = a
            · rw [if_pos z, if_pos z]
            · rw [if_neg z, if_neg z]; exact w1 b hb
          · show upd (M.1 280) (nI (wa.2.2.2 % 32)).toNatClampNeg (nI a) i = nI (up wa.2.1 (wa.2.2.2 % 32) a i)
            rw [up_a, cr', m1]
            unfold up
            by_cases z : i = wa.2.2.2 % 32
            · rw [if_pos z, if_pos z]
            · rw [if_neg z, if_neg z]; exact (w2 i hi (hlt i hi hi2 z)).1
          · show vp_updL (M.2 281) (nI (wa.2.2.2 % 32)).toNatClampNeg (lN tm) i = lN (up wa.2.2.1 (wa.2.2.2 % 32) tm i)
            rw [upL_a, cr', m81]
            unfold up
            by_cases z : i = wa.2.2.2 % 32
            · rw [if_pos z, if_pos z]
            · rw [if_neg z, if_neg z]; exact (w2 i hi (hlt i hi hi2 z)).2
          · show upd (M.1 232) 72 (M.1 232 72 + 1) 72 = nI (wa.2.2.2 + 1)
            rw [up_a, if_pos rfl, m72, nI_1]
        · show upd (M.1 232) 72 (M.1 232 72 + 1) j = _
          rw [up_a, if_neg hj, m1]
          exact h4 j hj
  · rintro t ⟨K, rfl, h1, h2, h4⟩
    rw [cd_537_115, cq_537_115]
    exact ⟨⟨fun z => absurd z (show ¬ nI 18 < 18 by decide), fun _ => trivial⟩, _, if_neg (show ¬ (nI 18 : Int32) < 18 by decide), K, rfl, h1, h2, h4⟩
theorem alarm_r (hn : pl_n e ≤ 40) (hp : r_pl e fl N) (hw : wcr N w) (hwn : w.2.2.2 < 2 ^ 29) (htm : N.2 232 2 = lN tm) (hG : ∀ j, j < 10 → N.1 257 j = G j ∧ -(2 ^ 30 : Int) ≤ (G j).toInt ∧ (G j).toInt ≤ 2 ^ 30) (hcr : ∀ j, j < 10 → N.1 278 j = nI (cr j) ∧ cr j < 2 ^ 30) (hdry : N.1 232 67 = mz_b01 dry) (hco : N.2 232 68 = lN co) (hco2 : co < 2 ^ 30) (htr : ∀ j, j < 11 → N.1 275 j = nI (b1 (tr j))) (hsh : ∀ j, j < 11 → N.1 273 j = nI (b1 (sh j))) (hfa : ∀ j, j < 3 → N.1 307 j = nI (b1 (fa j))) (hmo : ∀ c, c < 240 → N.2 263 c = lN (mo c) ∧ mo c ≤ 1000)
    (o0 : ∀ j, j < 10 → on j = decide (30 ≤ crn (col e fl G (N.2 260)) cr j)) (o10 : on 10 = dry) (o11 : on 11 = decide (240 ≤ co)) (o12 : on 12 = anb tr 11) (o13 : on 13 = anb fa 3) (o14 : on 14 = anb sh 11) (o15 : on 15 = anb (stf e fl (N.2 261)) 10) (o16 : on 16 = adt e (N.2 265) (pl_n e)) (o17 : on 17 = anb (fun c => decide (500 ≤ mo c)) 240) :
    cp_537_0 N ∧ ∃ K, cf_537_0 N = K ∧ fq [232, 278, 279, 280] [281, 340] N K ∧ wcr K (snA on tm 18 w) ∧ (∀ j, j < 10 → K.1 278 j = nI (crn (col e fl G (N.2 260)) cr j)) ∧ ∀ j, j ≠ 72 → K.1 232 j = N.1 232 j := by
  obtain ⟨q1, f, q2, q3⟩ := sma_r (N := N) (e := e) (a1 := 260) hp.1 hp.2.1 (by decide)
  rw [cp_537_0, cf_537_0, q2, cp_537_10, cf_537_10]
  refine (fun (h : _ ∧ _) => ⟨⟨q1, h.1⟩, h.2⟩) (mz_lpn (f := cq_537_10) (P := cd_537_10) (Q := fun t => ∃ K, t = K ∧ fq [232, 278, 279, 280] [281, 340] N K ∧ wcr K (snA on tm 18 w) ∧ (∀ j, j < 10 → K.1 278 j = nI (crn (col e fl G (N.2 260)) cr j)) ∧ ∀ j, j ≠ 72 → K.1 232 j = N.1 232 j) 10 (fun j t => ∃ g, t = (nI j, mz_sI (mz_sL N 340 f) 278 g) ∧ ∀ i, i < 10 → g i = nI (crw (col e fl G (N.2 260)) cr j i)) ?_ ?_ (Nat.zero_le _) ⟨N.1 278, by
      have := sI_same (mz_sL N 340 f) 278
      rw [sL_1] at this
      rw [this]; rfl, fun i hi => (hcr i hi).1⟩)
  · rintro j t hj ⟨g, rfl, hg⟩
    obtain ⟨c1, c2⟩ := hcr j hj
    have l : nI j < 10 := (nI_ltI (b := 10) (by omega) (by omega)).mpr hj
    have ij : mz_ib (nI j) 10 := ib_n hj (by omega)
    have cj : (nI j).toNatClampNeg = j := nI_clamp (by omega)
    have g42 : mz_gI (mz_sI (mz_sL N 340 f) 278 g) 242 (nI j) = nO (pl_n e) (pl_ht e fl j) := by rw [gI_a, cj, sI_n (by decide), sL_1]; exact (hp.2.2.2.2.2 j hj).1
    have g57 : mz_gI (mz_sI (mz_sL N 340 f) 278 g) 257 (nI j) = G j := by rw [gI_a, cj, sI_n (by decide), sL_1]; exact (hG j hj).1
    have g78 : mz_gI (mz_sI (mz_sL N 340 f) 278 g) 278 (nI j) = nI (cr j) := by rw [gI_a, cj, sI_e, hg j hj, crw, if_neg (Nat.lt_irrefl _)]
    have fin : ∀ v : Int32, v = nI (crn (col e fl G (N.2 260)) cr j) → ∃ t2, cf_537_106 (nI j) v (nI j) (mz_sI (mz_sL N 340 f) 278 g) = .inl t2 ∧ ∃ g, t2 = (nI (j + 1), mz_sI (mz_sL N 340 f) 278 g) ∧ ∀ i, i < 10 → g i = nI (crw (col e fl G (N.2 260)) cr (j + 1) i) := fun v hv => by
      refine ⟨_, rfl, upd g j v, by rw [nI_1, wI_s, sI_e, sI_sI, cj], fun i hi => ?_⟩
      rw [up_a]
      by_cases z : i = j
      · rw [if_pos z, crw, if_pos (by omega), z, hv]
      · rw [if_neg z, hg i hi, crw, crw]
        by_cases y : i < j
        · rw [if_pos y, if_pos (by omega)]
        · rw [if_neg y, if_neg (by omega)]
    have p84 : ∀ b, cp_537_84 b (nI j) (mz_sI (mz_sL N 340 f) 278 g) := fun b => ⟨fun _ => ⟨ij, ij⟩, fun _ => ij⟩
    have r84 : ∀ b, b = col e fl G (N.2 260) j → ∃ t2, cf_537_84 b (nI j) (mz_sI (mz_sL N 340 f) 278 g) = .inl t2 ∧ ∃ g, t2 = (nI (j + 1), mz_sI (mz_sL N 340 f) 278 g) ∧ ∀ i, i < 10 → g i = nI (crw (col e fl G (N.2 260)) cr (j + 1) i) := fun b hb => by
      rw [cf_537_84]
      cases hbb : b with
      | true =>
        rw [if_pos rfl, g78, nI_1]
        exact fin _ (by rw [crn, ← hb, hbb, if_pos rfl])
      | false =>
        rw [if_neg (by decide)]
        exact fin _ (by rw [crn, ← hb, hbb, if_neg (by decide)]; rfl)
    rw [cd_537_10, cq_537_10]
    simp only [l, if_true, g42]
    by_cases y : pl_ht e fl j < pl_n e
    · have eO : nO (pl_n e) (pl_ht e fl j) = nI (pl_ht e fl j) := if_pos y
      have nm : ¬ nI (pl_ht e fl j) < 0 := nI_pos (by omega)
      have hz := pl_sz_le y
      have hz1 := pl_some y
      have g37 : (100 : Int64) * (mz_gI (mz_sI (mz_sL N 340 f) 278 g) 237 (nI (pl_ht e fl j))).toInt64 = lN (100 * pl_sz e (pl_ht e fl j)) := by
        rw [gI_a, nI_clamp (by omega), sI_n (by decide), sL_1, (hp.2.2.1 _ y).2, nI_L (by omega), show (100 : Int64) = lN 100 from rfl, lN_mul]
      have g40 : mz_gL (mz_sI (mz_sL N 340 f) 278 g) 340 (nI (pl_ht e fl j)) = ts e (N.2 260) (pl_ht e fl j) := by rw [gL_a, nI_clamp (by omega), sI_2, sL_e]; exact q3 _ y
      have ew : cf_489_0 (ts e (N.2 260) (pl_ht e fl j)) (lN (100 * pl_sz e (pl_ht e fl j))) = wrm e (N.2 260) (pl_ht e fl j) := rfl
      have clt := cold_lr (g := G j) (W := wrm e (N.2 260) (pl_ht e fl j)) (hG j hj).2
      have ih : mz_ib (nI (pl_ht e fl j)) 240 := ib_n (by omega) (by omega)
      have p35 : cp_537_35 (nI (pl_ht e fl j)) (nI j) (mz_sI (mz_sL N 340 f) 278 g) := by
        rw [cp_537_35, g42, eO, g37, g40]
        exact ⟨ij, fun q => (nm q).elim, fun _ => ⟨ih, ih, by_p (by omega) (by omega), ib_n (by omega) (by omega), fun _ => p84 true, fun _ => p84 false⟩⟩
      simp only [eO, nm, if_false]
      refine ⟨⟨fun _ => ⟨ij, False.elim, fun _ => ⟨ij, p35⟩⟩, fun z => absurd trivial z⟩, Or.inl ?_⟩
      rw [cf_537_35, g42, eO, if_neg nm, g37, g40, ew, g57]
      by_cases x : (wrm e (N.2 260) (pl_ht e fl j)).toInt + 30 < (G j).toInt
      · rw [if_pos (clt.mpr x)]
        exact r84 true (by rw [col, decide_eq_true ⟨y, x⟩])
      · rw [if_neg (fun q => x (clt.mp q)), cf_537_83]
        exact r84 false (by rw [col, decide_eq_false (fun u => x u.2)])
    · have eO : nO (pl_n e) (pl_ht e fl j) = -1 := if_neg y
      have lm : (-1 : Int32) < 0 := by decide
      have p35 : cp_537_35 0 (nI j) (mz_sI (mz_sL N 340 f) 278 g) := by
        rw [cp_537_35, g42, eO]
        exact ⟨ij, fun _ => p84 false, fun z => absurd lm z⟩
      simp only [eO, lm, if_true]
      refine ⟨⟨fun _ => ⟨ij, fun _ => p35, fun z => absurd trivial z⟩, fun z => absurd trivial z⟩, Or.inl ?_⟩
      rw [cf_537_35, g42, eO, if_pos lm, cf_537_83]
      exact r84 false (by rw [col, decide_eq_false (fun u => y u.1)])
  · rintro t ⟨g, rfl, hg⟩
    have hcb : ∀ j, j < 10 → crn (col e fl G (N.2 260)) cr j ≤ 2 ^ 30 := fun j hj => by
      have := (hcr j hj).2
      unfold crn
      split <;> omega
    have hg' : ∀ i, i < 10 → g i = nI (crn (col e fl G (N.2 260)) cr i) := fun i hi => by rw [hg i hi, crw, if_pos hi]
    obtain ⟨n1, K, n2, n3, n4, n5⟩ := note_r (N := mz_sI (mz_sL N 340 f) 278 g) (e := e) (fl := fl) (w := w) (tm := tm) (co := co) (on := on) (tr := tr) (sh := sh) (fa := fa) (dry := dry) (mo := mo) (v := crn (col e fl G (N.2 260)) cr) (st := N.2 261) (u := N.2 265) hn hp hw hwn htm (fun j hj => ⟨by rw [sI_e]; exact hg' j hj, hcb j hj⟩) hdry hco hco2 htr hsh hfa hmo rfl rfl o0 o10 o11 o12 o13 o14 o15 o16 o17
    rw [cd_537_10, cq_537_10]
    refine ⟨⟨fun z => absurd z (show ¬ nI 10 < 10 by decide), fun _ => n1⟩, _, if_neg (show ¬ (nI 10 : Int32) < 10 by decide), K, n2, ⟨fun c hc => ?_, fun c hc => ?_⟩, n4, fun j hj => ?_, n5⟩
    · have k1 : c ≠ 232 := fun z => by rw [z] at hc; cases hc
      have k2 : c ≠ 278 := fun z => by rw [z] at hc; cases hc
      have k3 : c ≠ 279 := fun z => by rw [z] at hc; cases hc
      have k4 : c ≠ 280 := fun z => by rw [z] at hc; cases hc
      rw [n3.1 c (by simp [k1, k3, k4]), sI_n k2, sL_1]
    · have k1 : c ≠ 281 := fun z => by rw [z] at hc; cases hc
      have k2 : c ≠ 340 := fun z => by rw [z] at hc; cases hc
      rw [n3.2 c (by simp [k1, k2]), sI_2, sL_n k2]
    · rw [n3.1 278 rfl, sI_e]; exact hg' j hj
end Alr2
