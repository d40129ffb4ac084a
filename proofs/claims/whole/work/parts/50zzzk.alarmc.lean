/-! PURE (50zzzk): the class sounds its alarms. -/
def crw (c : Nat → Bool) (cr : Nat → Nat) (j i : Nat) : Nat := if i < j then crn c cr i else cr i
section Alc2
variable {N : mz_N} {e fl : Nat → Nat} {w : wtc} {tm co : Nat} {on tr sh fa : Nat → Bool} {dry : Bool} {G : Nat → Int32} {cr mo : Nat → Nat}
def alI (N : mz_N) (on : Nat → Bool) (tm : Nat) (w : wtc) (v : Nat → Nat) (a : Nat) (K : mz_N) : Prop := fq [81, 82, 83, 85, 86] [] N K ∧ wcl K (snA on tm a w) ∧ (∀ i, i < 10 → K.1 82 i = nI (v i)) ∧ ∀ j, j ≠ 3 → K.1 81 j = N.1 81 j
theorem al_sn {v : Nat → Nat} {a : Nat} {b : Bool} {K : mz_N} (ha : a < 18) (hb : b = on a) (hw : w.2.2.2 < 2 ^ 29) (h : alI N on tm w v a K) : cp_263_0 (nI a) b (nI tm) K ∧ alI N on tm w v (a + 1) (cf_263_0 (nI a) b (nI tm) K) := by
  obtain ⟨h1, h2, h3, h4⟩ := h
  have hn := snA_n (on := on) (tm := tm) (w := w) a
  obtain ⟨p, M, q1, q2, q3, q4⟩ := snd_c (N := K) (on := b) (tm := tm) ha h2 (by omega)
  rw [q1]
  refine ⟨p, fq_trans h1 ⟨fun c hc => q2.1 c ?_, q2.2⟩, by rw [snA_s, ← hb]; exact q3, fun i hi => ?_, fun j hj => by rw [q4 j hj, h4 j hj]⟩
  · have k1 : c ≠ 81 := fun z => by rw [z] at hc; cases hc
    have k2 : c ≠ 83 := fun z => by rw [z] at hc; cases hc
    have k3 : c ≠ 85 := fun z => by rw [z] at hc; cases hc
    have k4 : c ≠ 86 := fun z => by rw [z] at hc; cases hc
    simp [k1, k2, k3, k4]
  · rw [q2.1 82 rfl]; exact h3 i hi
theorem cold_lt {g : Int32} {W : Int64} (hg : -(2 ^ 30 : Int) ≤ g.toInt ∧ g.toInt ≤ 2 ^ 30) (hW : -(2 ^ 57 : Int) ≤ W.toInt ∧ W.toInt ≤ 2 ^ 57) : (30 < g.toInt64 - W) ↔ W.toInt + 30 < g.toInt := by
  rw [lt_i, Int64.toInt_sub, Int32.toInt_toInt64, Int.bmod_eq_of_le (by omega) (by omega), show (30 : Int64).toInt = 30 from rfl]
  omega
theorem alarm_c (hn : pl_n e ≤ 40) (hp : c_pl e fl N) (hw : wcl N w) (hwn : w.2.2.2 < 2 ^ 29) (htm : N.1 208 0 = nI tm) (hG : ∀ j, j < 10 → N.1 53 j = G j ∧ -(2 ^ 30 : Int) ≤ (G j).toInt ∧ (G j).toInt ≤ 2 ^ 30) (hcr : ∀ j, j < 10 → N.1 82 j = nI (cr j) ∧ cr j < 2 ^ 30) (hdry : N.1 56 10 = mz_b01 dry) (hco : N.1 56 12 = nI co) (hco2 : co < 2 ^ 30) (htr : ∀ j, j < 11 → N.1 60 j = nI (b1 (tr j))) (hsh : ∀ j, j < 11 → N.1 61 j = nI (b1 (sh j))) (hfa : ∀ j, j < 3 → N.1 128 j = nI (b1 (fa j))) (hmo : ∀ c, c < 240 → N.1 72 c = nI (mo c) ∧ mo c ≤ 1000) (hnf : nfs N)
    (o0 : ∀ j, j < 10 → on j = decide (30 ≤ crn (col e fl G (N.2 68)) cr j)) (o10 : on 10 = dry) (o11 : on 11 = decide (240 ≤ co)) (o12 : on 12 = anb tr 11) (o13 : on 13 = anb fa 3) (o14 : on 14 = anb sh 11) (o15 : on 15 = anb (stf e fl (N.2 69)) 10) (o16 : on 16 = adt e (N.2 71) (pl_n e)) (o17 : on 17 = anb (fun c => decide (500 ≤ mo c)) 240) :
    cp_261_0 N ∧ alI N on tm w (crn (col e fl G (N.2 68)) cr) 18 (cf_261_0 N) := by
  have h38 := fun j (hj : j < 10) => (hp.2.2.2.2.2 j hj).1
  have hsm := sm_pl hp
  have hcb : ∀ j, j < 10 → crn (col e fl G (N.2 68)) cr j ≤ 2 ^ 30 := fun j hj => by
    have := (hcr j hj).2
    unfold crn
    split <;> omega
  rw [cp_261_0, cf_261_0, htm, cp_261_12, cf_261_12]
  refine mz_lpn (f := cq_261_12 (nI tm)) (P := cd_261_12 (nI tm)) (Q := fun t => alI N on tm w (crn (col e fl G (N.2 68)) cr) 18 t) 10 (fun j t => ∃ K, t = (anb (stf e fl (N.2 69)) j, nI j, K) ∧ alI N on tm w (crw (col e fl G (N.2 68)) cr j) j K) ?_ ?_ (Nat.zero_le _) ⟨N, rfl, fq_refl _ _ _, hw, fun i hi => (hcr i hi).1, fun _ _ => rfl⟩
  · rintro j t hj ⟨K, rfl, hI⟩
    have hI' := hI
    obtain ⟨h1, h2, h3, h4⟩ := hI'
    have l : nI j < 10 := (nI_ltI (b := 10) (by omega) (by omega)).mpr hj
    have ij : mz_ib (nI j) 10 := ib_n hj (by omega)
    have cj : (nI j).toNatClampNeg = j := nI_clamp (by omega)
    have hpK : c_pl e fl K := pl_fq h1 rfl hp
    have e68 : K.2 68 = N.2 68 := h1.2 68 rfl
    have e69 : K.2 69 = N.2 69 := h1.2 69 rfl
    have g38 : mz_gI K 38 (nI j) = nO (pl_n e) (pl_ht e fl j) := by rw [gI_a, cj, h1.1 38 rfl]; exact h38 j hj
    have g53 : mz_gI K 53 (nI j) = G j := by rw [gI_a, cj, h1.1 53 rfl]; exact (hG j hj).1
    have g82 : mz_gI K 82 (nI j) = nI (cr j) := by rw [gI_a, cj, h3 j hj, crw, if_neg (Nat.lt_irrefl _)]
    obtain ⟨hcr1, hcr2⟩ := hcr j hj
    have hb := hcb j hj
    -- one flat
    have go : ∀ (s0 : Bool) (v4 : Int32), s0 = col e fl G (N.2 68) j → (v4 = nO (pl_n e) (pl_ht e fl j)) → cp_261_68 s0 (nI tm) (anb (stf e fl (N.2 69)) j) (nI j) v4 K ∧ ∃ t2, cf_261_68 s0 (nI tm) (anb (stf e fl (N.2 69)) j) (nI j) v4 K = .inl t2 ∧ ∃ K', t2 = (anb (stf e fl (N.2 69)) (j + 1), nI (j + 1), K') ∧ alI N on tm w (crw (col e fl G (N.2 68)) cr (j + 1)) (j + 1) K' := fun s0 v4 hs0 hv4 => by
      have e62 : cp_262_0 (nI j) s0 K ∧ cf_262_0 (nI j) s0 K = (on j, mz_wI K 82 (nI j) (nI (crn (col e fl G (N.2 68)) cr j))) := by
        have g82' : ∀ x, mz_gI (mz_wI K 82 (nI j) x) 82 (nI j) = x := fun x => by rw [gI_a, wI_s, sI_e, up_a, if_pos rfl]
        have lt : (nI (crn (col e fl G (N.2 68)) cr j) < 30) ↔ crn (col e fl G (N.2 68)) cr j < 30 := nI_ltI (b := 30) (by omega) (by omega)
        have fin : ∀ s2, s2 = nI (crn (col e fl G (N.2 68)) cr j) → cf_262_21 (nI j) s2 (nI j) K = (on j, mz_wI K 82 (nI j) (nI (crn (col e fl G (N.2 68)) cr j))) := fun s2 h2 => by
          rw [cf_262_21, g82', h2, o0 j hj]
          by_cases z : crn (col e fl G (N.2 68)) cr j < 30
          · rw [if_pos (lt.mpr z), decide_eq_false (by omega)]
          · rw [if_neg (fun y => z (lt.mp y)), decide_eq_true (by omega)]
        rw [cp_262_0, cf_262_0]
        cases hs : s0 with
        | true =>
          rw [if_pos rfl]
          refine ⟨⟨fun _ => ⟨ij, ij, ij⟩, fun z => absurd rfl z⟩, fin _ ?_⟩
          rw [g82, nI_1, crn, ← hs0, hs, if_pos rfl]
        | false =>
          rw [if_neg (by decide)]
          refine ⟨⟨(fun z => by cases z), fun _ => ⟨ij, ij⟩⟩, fin _ ?_⟩
          rw [crn, ← hs0, hs, if_neg (by decide)]; rfl
      have hI2 : alI N on tm w (crw (col e fl G (N.2 68)) cr (j + 1)) j (mz_wI K 82 (nI j) (nI (crn (col e fl G (N.2 68)) cr j))) := by
        refine ⟨fq_wI h1 rfl, ?_, fun i hi => ?_, fun k hk => ?_⟩
        · obtain ⟨w1, w2, w3⟩ := h2
          exact ⟨w1, w2, w3⟩
        · rw [wI_s, sI_e, up_a, cj]
          by_cases z : i = j
          · rw [if_pos z, crw, if_pos (by omega), z]
          · rw [if_neg z, h3 i hi, crw, crw]
            by_cases y : i < j
            · rw [if_pos y, if_pos (by omega)]
            · rw [if_neg y, if_neg (by omega)]
        · exact h4 k hk
      obtain ⟨s1, s2⟩ := al_sn (a := j) (b := on j) (by omega) rfl hwn hI2
      rw [cp_261_68, cf_261_68, e62.2]
      generalize hM : cf_263_0 (nI j) (on j) (nI tm) (mz_wI K 82 (nI j) (nI (crn (col e fl G (N.2 68)) cr j))) = M at s2 ⊢
      have hpM : c_pl e fl M := pl_fq s2.1 rfl hp
      have next : ∀ b : Bool, b = anb (stf e fl (N.2 69)) (j + 1) → ∃ t2, cf_261_120 b (nI tm) (nI j) M = .inl t2 ∧ ∃ K', t2 = (anb (stf e fl (N.2 69)) (j + 1), nI (j + 1), K') ∧ alI N on tm w (crw (col e fl G (N.2 68)) cr (j + 1)) (j + 1) K' := fun b hb => ⟨_, rfl, M, by rw [hb, nI_1], s2⟩
      have ea : anb (stf e fl (N.2 69)) (j + 1) = (anb (stf e fl (N.2 69)) j || stf e fl (N.2 69) j) := rfl
      cases hst : anb (stf e fl (N.2 69)) j with
      | true =>
        rw [if_pos rfl]
        refine ⟨⟨e62.1, s1, fun _ => trivial, fun z => absurd rfl z⟩, ?_⟩
        rw [cf_261_115]
        exact next true (by rw [ea, hst]; rfl)
      | false =>
        rw [if_neg (by decide)]
        by_cases y : pl_ht e fl j < pl_n e
        · have v4' : v4 = nI (pl_ht e fl j) := by rw [hv4]; exact if_pos y
          have nm : ¬ v4 = -1 := by rw [v4']; exact fun z => (nI_m1 (by omega)).mp z
          obtain ⟨u1, u2⟩ := sum_c (N := M) (e := e) (a2 := 69) hn (sm_pl hpM) y
          have hz := pl_sz_le y
          have g19 : (1000 : Int64) * (mz_gI M 19 v4).toInt64 = 1000 * lN (pl_sz e (pl_ht e fl j)) := by
            rw [v4', gI_a, nI_clamp (by omega), ((sm_pl hpM).1 _ y).1, nI_L (by omega)]
          have e64 : cf_264_0 v4 M = stf e fl (N.2 69) j := by
            rw [cf_264_0, g19, v4', u2, s2.1.2 69 rfl, stf]
            by_cases x : 1000 * lN (pl_sz e (pl_ht e fl j)) < ts e (N.2 69) (pl_ht e fl j)
            · rw [if_pos x, decide_eq_true ⟨y, x⟩]
            · rw [if_neg x, decide_eq_false (fun u => x u.2)]
          have p64 : cp_264_0 v4 M := by rw [v4']; exact ⟨u1, ib_n (by omega) (by omega)⟩
          rw [if_neg nm, e64]
          cases hsj : stf e fl (N.2 69) j with
          | true =>
            rw [if_pos rfl]
            refine ⟨⟨e62.1, s1, (fun z => by cases z), fun _ => ⟨fun z => absurd z nm, fun _ => ⟨p64, fun _ => trivial, fun z => absurd rfl z⟩⟩⟩, ?_⟩
            rw [cf_261_115]
            exact next true (by rw [ea, hst, hsj]; rfl)
          | false =>
            rw [if_neg (by decide)]
            refine ⟨⟨e62.1, s1, (fun z => by cases z), fun _ => ⟨fun z => absurd z nm, fun _ => ⟨p64, (fun z => by cases z), fun _ => trivial⟩⟩⟩, ?_⟩
            rw [cf_261_119]
            exact next false (by rw [ea, hst, hsj]; rfl)
        · have v4' : v4 = -1 := by rw [hv4]; exact if_neg y
          have hsj : stf e fl (N.2 69) j = false := decide_eq_false (fun u => y u.1)
          rw [if_pos v4']
          refine ⟨⟨e62.1, s1, (fun z => by cases z), fun _ => ⟨fun _ => trivial, fun z => absurd v4' z⟩⟩, ?_⟩
          rw [cf_261_119]
          exact next false (by rw [ea, hst, hsj]; rfl)
    rw [cd_261_12, cq_261_12]
    simp only [l, if_true, g38, g53]
    by_cases y : pl_ht e fl j < pl_n e
    · have eO : nO (pl_n e) (pl_ht e fl j) = nI (pl_ht e fl j) := if_pos y
      have nm : ¬ nI (pl_ht e fl j) = -1 := fun z => (nI_m1 (by omega)).mp z
      obtain ⟨r1, r2⟩ := wrm_c (N := K) hn (sm_pl hpK) y
      rw [e68] at r2
      have hz := pl_sz_le y
      have hz1 := pl_some y
      have bnd : -(2 ^ 57 : Int) ≤ (wrm e (N.2 68) (pl_ht e fl j)).toInt ∧ (wrm e (N.2 68) (pl_ht e fl j)).toInt ≤ (2 ^ 57 : Int) := by
        rw [wrm]; exact by_b (by omega) (by omega)
      have clt := cold_lt (g := G j) (W := wrm e (N.2 68) (pl_ht e fl j)) (hG j hj).2 bnd
      simp only [eO, nm, if_false, r2, clt]
      by_cases x : (wrm e (N.2 68) (pl_ht e fl j)).toInt + 30 < (G j).toInt
      · obtain ⟨g1, g2⟩ := go true (nI (pl_ht e fl j)) (by rw [col, decide_eq_true ⟨y, x⟩]) eO.symm
        simp only [x, if_true]
        exact ⟨⟨fun _ => ⟨ij, False.elim, fun _ => ⟨ib_n (by omega) (by omega), r1, fun _ => g1, fun z => absurd trivial z⟩⟩, fun z => absurd trivial z⟩, Or.inl g2⟩
      · obtain ⟨g1, g2⟩ := go false (nI (pl_ht e fl j)) (by rw [col, decide_eq_false (fun u => x u.2)]) eO.symm
        simp only [x, if_false]
        exact ⟨⟨fun _ => ⟨ij, False.elim, fun _ => ⟨ib_n (by omega) (by omega), r1, False.elim, fun _ => g1⟩⟩, fun z => absurd trivial z⟩, Or.inl g2⟩
    · have eO : nO (pl_n e) (pl_ht e fl j) = -1 := if_neg y
      obtain ⟨g1, g2⟩ := go false (-1) (by rw [col, decide_eq_false (fun u => y u.1)]) eO.symm
      simp only [eO, if_true]
      exact ⟨⟨fun _ => ⟨ij, fun _ => g1, fun z => absurd trivial z⟩, fun z => absurd trivial z⟩, Or.inl g2⟩
  · rintro t ⟨K, rfl, hI⟩
    have hI0 : alI N on tm w (crn (col e fl G (N.2 68)) cr) 10 K := ⟨hI.1, hI.2.1, fun i hi => by rw [hI.2.2.1 i hi, crw, if_pos hi], hI.2.2.2⟩
    have l : ¬ nI 10 < 10 := by decide
    have z10 : mz_z01 (K.1 56 10) := by rw [hI.1.1 56 rfl, hdry]; exact z01_b01 _
    have e10 : mz_fZ K 56 10 = dry := by show decide (K.1 56 10 = 1) = dry; rw [hI.1.1 56 rfl, hdry]; exact d_b01 _
    rw [cd_261_12, cq_261_12]
    simp only [l, if_false, e10]
    have a10 : cp_263_0 10 dry (nI tm) K ∧ alI N on tm w (crn (col e fl G (N.2 68)) cr) 11 (cf_263_0 10 dry (nI tm) K) := al_sn (a := 10) (by omega) o10.symm hwn hI0
    generalize cf_263_0 10 dry (nI tm) K = K1 at a10 ⊢
    have e12 : K1.1 56 12 = nI co := by rw [a10.2.1.1 56 rfl]; exact hco
    rw [e12]
    have ltc : (nI co < 240) ↔ co < 240 := nI_ltI (b := 240) (by omega) (by omega)
    have rest : ∀ b : Bool, b = on 11 → cp_261_168 11 b (nI tm) (anb (stf e fl (N.2 69)) 10) K1 ∧ alI N on tm w (crn (col e fl G (N.2 68)) cr) 18 (cf_261_168 11 b (nI tm) (anb (stf e fl (N.2 69)) 10) K1) := fun b hb => by
      rw [cp_261_168, cf_261_168]
      have a11 : cp_263_0 11 b (nI tm) K1 ∧ alI N on tm w (crn (col e fl G (N.2 68)) cr) 12 (cf_263_0 11 b (nI tm) K1) := al_sn (a := 11) (by omega) hb hwn a10.2
      generalize cf_263_0 11 b (nI tm) K1 = K2 at a11 ⊢
      obtain ⟨t1, t2⟩ := any_c (N := K2) (v := 2) (p := tr) (by omega) (fun j hj => by rw [a11.2.1.1 60 rfl]; exact htr j hj)
      have t1' : cp_265_0 2 K2 := t1
      have t2' : cf_265_0 2 K2 = anb tr 11 := t2
      rw [t2']
      have a12 : cp_263_0 12 (anb tr 11) (nI tm) K2 ∧ alI N on tm w (crn (col e fl G (N.2 68)) cr) 13 (cf_263_0 12 (anb tr 11) (nI tm) K2) := al_sn (a := 12) (by omega) o12.symm hwn a11.2
      generalize cf_263_0 12 (anb tr 11) (nI tm) K2 = K3 at a12 ⊢
      obtain ⟨f1, f2⟩ := fail_c (N := K3) (p := fa) (fun j hj => by rw [a12.2.1.1 128 rfl]; exact hfa j hj)
      rw [f2]
      have a13 : cp_263_0 13 (anb fa 3) (nI tm) K3 ∧ alI N on tm w (crn (col e fl G (N.2 68)) cr) 14 (cf_263_0 13 (anb fa 3) (nI tm) K3) := al_sn (a := 13) (by omega) o13.symm hwn a12.2
      generalize cf_263_0 13 (anb fa 3) (nI tm) K3 = K4 at a13 ⊢
      rw [cp_261_207, cf_261_207]
      obtain ⟨s1, s2⟩ := any_c (N := K4) (v := 3) (p := sh) (by omega) (fun j hj => by rw [a13.2.1.1 61 rfl]; exact hsh j hj)
      have s1' : cp_265_0 3 K4 := s1
      have s2' : cf_265_0 3 K4 = anb sh 11 := s2
      rw [s2']
      have a14 : cp_263_0 14 (anb sh 11) (nI tm) K4 ∧ alI N on tm w (crn (col e fl G (N.2 68)) cr) 15 (cf_263_0 14 (anb sh 11) (nI tm) K4) := al_sn (a := 14) (by omega) o14.symm hwn a13.2
      generalize cf_263_0 14 (anb sh 11) (nI tm) K4 = K5 at a14 ⊢
      have a15 : cp_263_0 15 (anb (stf e fl (N.2 69)) 10) (nI tm) K5 ∧ alI N on tm w (crn (col e fl G (N.2 68)) cr) 16 (cf_263_0 15 (anb (stf e fl (N.2 69)) 10) (nI tm) K5) := al_sn (a := 15) (by omega) o15.symm hwn a14.2
      generalize cf_263_0 15 (anb (stf e fl (N.2 69)) 10) (nI tm) K5 = K6 at a15 ⊢
      have hp6 : c_pl e fl K6 := pl_fq a15.2.1 rfl hp
      have hnf6 : nfs K6 := by
        unfold nfs
        rw [a15.2.1.1 65 rfl, a15.2.1.2 71 rfl]
        exact hnf
      obtain ⟨d1, d2⟩ := adt_c (N := K6) hn (sm_pl hp6) hp6.1 hnf6
      rw [a15.2.1.2 71 rfl] at d2
      rw [d2]
      have a16 : cp_263_0 16 (adt e (N.2 71) (pl_n e)) (nI tm) K6 ∧ alI N on tm w (crn (col e fl G (N.2 68)) cr) 17 (cf_263_0 16 (adt e (N.2 71) (pl_n e)) (nI tm) K6) := al_sn (a := 16) (by omega) o16.symm hwn a15.2
      generalize cf_263_0 16 (adt e (N.2 71) (pl_n e)) (nI tm) K6 = K7 at a16 ⊢
      obtain ⟨m1, m2⟩ := mouldy_c (N := K7) (mo := mo) (fun c hc => by rw [a16.2.1.1 72 rfl]; exact hmo c hc)
      rw [m2]
      have a17 : cp_263_0 17 (anb (fun c => decide (500 ≤ mo c)) 240) (nI tm) K7 ∧ alI N on tm w (crn (col e fl G (N.2 68)) cr) 18 (cf_263_0 17 (anb (fun c => decide (500 ≤ mo c)) 240) (nI tm) K7) := al_sn (a := 17) (by omega) o17.symm hwn a16.2
      rw [cf_261_274]
      exact ⟨⟨a11.1, t1', a12.1, f1, a13.1, s1', a14.1, a15.1, d1, a16.1, m1, a17.1, trivial⟩, a17.2⟩
    by_cases z : co < 240
    · obtain ⟨r1, r2⟩ := rest false (by rw [o11, decide_eq_false (by omega)])
      rw [if_pos (ltc.mpr z)]
      exact ⟨⟨False.elim, fun _ => ⟨z10, a10.1, fun _ => r1, fun y => absurd (ltc.mpr z) y⟩⟩, _, rfl, r2⟩
    · obtain ⟨r1, r2⟩ := rest true (by rw [o11, decide_eq_true (by omega)])
      rw [if_neg (fun y => z (ltc.mp y))]
      exact ⟨⟨False.elim, fun _ => ⟨z10, a10.1, fun y => absurd (ltc.mp y) z, fun _ => r1⟩⟩, _, rfl, r2⟩
end Alc2
