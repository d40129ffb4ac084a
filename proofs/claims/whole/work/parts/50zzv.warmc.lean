/-! PURE (50zzv): the class warms. -/
/-- what spaces have behind the boiler -/
noncomputable def ht2 (e fl : Nat → Nat) (T : Nat → Int64) (G : Nat → Int32) (on : Bool) (st ra k : Nat) : Int64 := if on = true then T k + lN (bs e fl T G st ra k) else T k
noncomputable def bs2 (e fl : Nat → Nat) (T : Nat → Int64) (G : Nat → Int32) (on : Bool) (st ra k : Nat) : Nat := if on = true then bs e fl T G st ra k else 0
noncomputable def bv2 (e fl : Nat → Nat) (T : Nat → Int64) (G : Nat → Int32) (on : Bool) (st ra : Nat) : Nat := if on = true then bv e fl T G st ra else 0
theorem ba_0 {e fl : Nat → Nat} {j : Nat} : ba e fl (fun _ => 0) j = 0 := by
  have h : ∀ t, bm e fl (fun _ => 0) j t = 0 := fun t => by
    induction t with
    | zero => rfl
    | succ t ih =>
      unfold bm at ih ⊢
      rw [sumN, ih, Nat.zero_add]
      exact ite_self 0
  rw [ba, h, Nat.zero_add]
  exact ite_self 0
def plA : List Nat := [2, 15, 17, 18, 19, 20, 21, 22, 23, 24, 25, 26, 27, 28, 30, 33, 34, 35, 36, 38, 39]
theorem pl_cg {N K : mz_N} {e fl : Nat → Nat} (h : ∀ c, plA.contains c = true → K.1 c = N.1 c) (hp : c_pl e fl N) : c_pl e fl K := by
  obtain ⟨p1, ⟨q1, q2, q3⟩, p3, p4, ⟨mm, pa, pb, n1, n2, n3, n4⟩, p6⟩ := hp
  refine ⟨by rw [h 2 rfl]; exact p1, ⟨by rw [h 15 rfl]; exact q1, by rw [h 17 rfl, h 18 rfl, h 19 rfl, h 20 rfl, h 28 rfl]; exact q2, by rw [h 30 rfl]; exact q3⟩, fun k hk => ?_, by rw [h 36 rfl]; exact p4, ⟨mm, pa, pb, n1, by rw [h 2 rfl]; exact n2, by rw [h 33 rfl, h 34 rfl, h 35 rfl]; exact n3, n4⟩, by rw [h 38 rfl, h 39 rfl]; exact p6⟩
  obtain ⟨r1, r2, r3, r4⟩ := p3 k hk
  refine ⟨by rw [h 21 rfl]; exact r1, by rw [h 22 rfl]; exact r2, fun d hd => ?_, by rw [h 27 rfl]; exact r4⟩
  have hd4 : d = 0 ∨ d = 1 ∨ d = 2 ∨ d = 3 := by omega
  rw [h (23 + d) (by rcases hd4 with z | z | z | z <;> rw [z] <;> rfl)]
  exact r3 d hd
theorem pl_fq {N K : mz_N} {e fl : Nat → Nat} {A B : List Nat} (h : fq A B N K) (hA : plA.all (fun c => !A.contains c) = true) (hp : c_pl e fl N) : c_pl e fl K := by
  refine pl_cg (fun c hc => h.1 c ?_) hp
  have h1 := List.all_eq_true.mp hA c (List.contains_iff_mem.mp hc)
  simpa using h1
section Wac
variable {N : mz_N} {e fl : Nat → Nat} {G : Nat → Int32} {st ra q0 hr : Nat} {m S P L : Nat → Nat} {ou : Int64} {T0 T1 : Nat → Int64} {lv on fit : Bool}
theorem set_c (hn : pl_n e ≤ 40) (hp : c_pl e fl N) {T : Nat → Int64} (hT : ∀ k, k < pl_n e → N.2 74 k = T k) : cp_242_0 N ∧ ∃ K, cf_242_0 N = K ∧ fq [] [68, 75] N K ∧ (∀ c, c < 240 → K.2 68 c = spd e T c) ∧ ∀ k, k < pl_n e → K.2 75 k = wmv e T k := by
  obtain ⟨b1, w, b2, b3⟩ := wms_c (N := N) hn hp.1 (fun k hk => ((sm_pl hp).1 k hk).1)
  obtain ⟨c1, g, c2, c3⟩ := spr_c (N := mz_sL N 75 w) (a2 := 68) (by decide) hn hp.1 (sm_pl hp)
  rw [cp_242_0, cf_242_0, b2]
  refine ⟨⟨b1, c1⟩, _, c2, fq_sL (fq_sL (fq_refl _ _ _) rfl) rfl, fun c hc => ?_, fun k hk => ?_⟩
  · rw [sL_e, c3 c hc, sL_n (by decide)]
    have hl := pl_lab_lt (e := e) hc
    rw [spd, spd, spi, spi, spq, spq, hT _ hl]
  · rw [sL_n (by decide), sL_e, b3 k hk, wmv, wmv, hT k hk]
theorem warm_c (hn : pl_n e ≤ 40) (hp : c_pl e fl N) (hfl : ∀ c, c < 240 → fl c < 16) (hhr : hr < 24) (h67 : ∀ d, d < 4 → N.1 67 (24 * d + hr) / 10 = nI (S d)) (hS : ∀ d, S d ≤ 30) (h66 : (N.1 66 hr).toInt64 = ou)
    (h40 : ∀ j, j < 240 → N.1 40 j = nI (P j)) (hP : ∀ j, P j ≤ 20) (h58 : ∀ j, j < 11 → N.1 58 j = nI (L j)) (hL : ∀ j, j < 11 → L j ≤ 2000)
    (hG : ∀ j, j < 10 → N.1 53 j = G j) (hra : N.1 215 0 = nI ra) (hra2 : ra < 2 ^ 31) (h11 : N.1 56 11 = nI st) (hst : st ≤ 20000) (hm : ∀ j, j < 11 → N.1 210 j = nI (m j) ∧ m j < 2 ^ 30) (hq : N.1 208 3 = nI q0)
    (h6 : N.1 56 6 = mz_b01 lv) (hfit : N.1 128 0 = nI (b1 (!fit))) (hon : on = (decide (N.1 53 11 = 1) && lv && fit)) (hT0 : T0 = ts e (N.2 68)) (hT1 : T1 = het e fl T0 (wmv e T0) ou S (fun j => 8 * pnt e fl P hr j + 3 * L j)) :
    cp_233_0 (nI hr) N ∧ ∃ K, cf_233_0 (nI hr) N = K ∧ fq [56, 208, 210] [68, 74, 75, 76, 77, 78] N K ∧ (∀ c, c < 240 → K.2 68 c = spd e (ht2 e fl T1 G on st ra) c) ∧ (∀ k, k < pl_n e → K.2 75 k = wmv e (ht2 e fl T1 G on st ra) k) ∧ (∀ j, j < 11 → K.1 210 j = nI (m j + ba e fl (bs2 e fl T1 G on st ra) j)) ∧ (K.1 56 11 = nI (st + bs2 e fl T1 G on st ra (pl_n e)) ∧ K.1 56 13 = nI (bv2 e fl T1 G on st ra) ∧ ∀ j, j ≠ 11 → j ≠ 13 → K.1 56 j = N.1 56 j) ∧ K.1 208 3 = nI (q0 + (11 * bv2 e fl T1 G on st ra + 9) / 10) ∧ ∀ j, j ≠ 3 → K.1 208 j = N.1 208 j := by
  obtain ⟨a1, f, w, a2, a3, a4⟩ := flow_c (N := N) (S := S) (ou := ou) (T := T0) hn hp hhr h67 hS h66 hT0
  obtain ⟨b1', f2, b2, b3⟩ := hea_c (N := mz_sL (mz_sL N 75 w) 74 f) (e := e) (fl := fl) (P := P) (L := L) hn (fun j hj => (hp.2.2.2.2.2 j hj).1) h40 hP h58 hL hhr
  have b2' : cf_237_0 (nI hr) (mz_sL (mz_sL N 75 w) 74 f) = mz_sL (mz_sL N 75 w) 74 f2 := by rw [b2, sL_sL]
  have hT : ∀ k, k < pl_n e → f2 k = T1 k := fun k hk => by
    rw [b3 k hk, sL_e, a4 k hk, hT1]; rfl
  rw [cp_233_0, cf_233_0, a2, b2']
  have hz : mz_z01 ((mz_pI (mz_sL (mz_sL N 75 w) 74 f2) 56 13 0).1 56 6) := by
    show mz_z01 (N.1 56 6)
    rw [h6]; cases lv
    · exact Or.inl rfl
    · exact Or.inr rfl
  have e53 : mz_gI (mz_pI (mz_sL (mz_sL N 75 w) 74 f2) 56 13 0) 53 11 = N.1 53 11 := rfl
  have e6 : mz_fZ (mz_pI (mz_sL (mz_sL N 75 w) 74 f2) 56 13 0) 56 6 = lv := by
    show decide (N.1 56 6 = 1) = lv
    rw [h6]; cases lv <;> rfl
  have e24 : cf_224_0 0 (mz_pI (mz_sL (mz_sL N 75 w) 74 f2) 56 13 0) = fit := by
    rw [cf_224_0]
    show (if N.1 128 0 = 0 then true else false) = fit
    rw [hfit]; cases fit <;> rfl
  have p24 : cp_224_0 0 (mz_pI (mz_sL (mz_sL N 75 w) 74 f2) 56 13 0) := by rw [cp_224_0]; exact ib_n (k := 0) (by omega) (by omega)
  rw [e53, e6, e24]
  generalize hM : mz_pI (mz_sL (mz_sL N 75 w) 74 f2) 56 13 0 = M at hz p24
  have m1 : ∀ c, c ≠ 56 → M.1 c = N.1 c := fun c hc => by rw [← hM, pI_s, sI_n hc]; rfl
  have m56 : ∀ j, j ≠ 13 → M.1 56 j = N.1 56 j := fun j hj => by
    rw [← hM, pI_s, sI_e, up_a, if_neg hj]; rfl
  have m13 : M.1 56 13 = 0 := by rw [← hM]; rfl
  have m74 : M.2 74 = f2 := by rw [← hM]; rfl
  have mfq : fq [56, 208, 210] [68, 74, 75, 76, 77, 78] N M := by rw [← hM]; exact fq_pI (fq_sL (fq_sL (fq_refl _ _ _) rfl) rfl) rfl
  have mp : c_pl e fl M := pl_fq mfq rfl hp
  have off : on = false → cp_233_91 M ∧ ∃ K, cf_233_91 M = K ∧ fq [56, 208, 210] [68, 74, 75, 76, 77, 78] N K ∧ (∀ c, c < 240 → K.2 68 c = spd e (ht2 e fl T1 G on st ra) c) ∧ (∀ k, k < pl_n e → K.2 75 k = wmv e (ht2 e fl T1 G on st ra) k) ∧ (∀ j, j < 11 → K.1 210 j = nI (m j + ba e fl (bs2 e fl T1 G on st ra) j)) ∧ (K.1 56 11 = nI (st + bs2 e fl T1 G on st ra (pl_n e)) ∧ K.1 56 13 = nI (bv2 e fl T1 G on st ra) ∧ ∀ j, j ≠ 11 → j ≠ 13 → K.1 56 j = N.1 56 j) ∧ K.1 208 3 = nI (q0 + (11 * bv2 e fl T1 G on st ra + 9) / 10) ∧ ∀ j, j ≠ 3 → K.1 208 j = N.1 208 j := fun ho => by
    obtain ⟨c1, K, c2, c3, c4, c5⟩ := set_c (N := M) hn mp (T := T1) (fun k hk => by rw [m74]; exact hT k hk)
    have e2 : ht2 e fl T1 G on st ra = T1 := funext fun k => by rw [ht2, ho]; rfl
    have e3 : bs2 e fl T1 G on st ra = fun _ => 0 := funext fun k => by rw [bs2, ho]; rfl
    have e4 : bv2 e fl T1 G on st ra = 0 := by rw [bv2, ho]; rfl
    rw [cp_233_91, cf_233_91, e2, e3, e4]
    refine ⟨c1, K, c2, fq_trans mfq ⟨fun c _ => c3.1 c rfl, fun c hc => c3.2 c ?_⟩, c4, c5, fun j hj => ?_, ⟨?_, ?_, fun j h1 h2 => ?_⟩, ?_, fun j h1 => ?_⟩
    · have h1 : c ≠ 68 := fun z => by rw [z] at hc; cases hc
      have h2 : c ≠ 75 := fun z => by rw [z] at hc; cases hc
      simp [h1, h2]
    · rw [c3.1 210 rfl, m1 210 (by decide), ba_0, Nat.add_zero]; exact (hm j hj).1
    · rw [c3.1 56 rfl, m56 11 (by decide), Nat.add_zero]; exact h11
    · rw [c3.1 56 rfl, m13]; rfl
    · rw [c3.1 56 rfl, m56 j h2]
    · rw [c3.1 208 rfl, m1 208 (by decide)]; exact hq
    · rw [c3.1 208 rfl, m1 208 (by decide)]
  by_cases g11 : N.1 53 11 = 1
  · rw [if_pos g11]
    have d1 : decide (N.1 53 11 = 1) = true := decide_eq_true g11
    cases hl : lv with
    | false =>
      obtain ⟨o1, o2⟩ := off (by rw [hon, hl, d1]; rfl)
      rw [if_neg (by decide)]
      exact ⟨⟨a1, b1', fun _ => ⟨hz, (fun z => by cases z), fun _ => o1⟩, fun z => absurd g11 z⟩, o2⟩
    | true =>
      rw [if_pos rfl]
      cases hf : fit with
      | false =>
        obtain ⟨o1, o2⟩ := off (by rw [hon, hl, d1, hf]; rfl)
        rw [if_neg (by decide)]
        exact ⟨⟨a1, b1', fun _ => ⟨hz, fun _ => ⟨p24, (fun z => by cases z), fun _ => o1⟩, fun z => absurd rfl z⟩, fun z => absurd g11 z⟩, o2⟩
      | true =>
        have ho : on = true := by rw [hon, hl, d1, hf]; rfl
        rw [if_pos rfl]
        obtain ⟨d1', K, d2, d3, d4, d5, ⟨d6, d7, d8⟩, d9, d10⟩ := boil_c (N := M) (e := e) (fl := fl) (T := T1) (G := G) (st := st) (ra := ra) (q0 := q0) (m := m) hn mp hfl (fun j hj => by rw [m1 53 (by decide)]; exact hG j hj) (by rw [m1 215 (by decide)]; exact hra) hra2 (by rw [m56 11 (by decide)]; exact h11) hst (fun j hj => by rw [m1 210 (by decide)]; exact hm j hj) (by rw [m1 208 (by decide)]; exact hq) (fun k hk => by rw [m74]; exact hT k hk)
        have kp : c_pl e fl K := pl_fq d3 rfl mp
        obtain ⟨c1, K2, c2, c3, c4, c5⟩ := set_c (N := K) hn kp (T := ht2 e fl T1 G on st ra) (fun k hk => by rw [d4 k hk, ht2, if_pos ho])
        have e3 : bs2 e fl T1 G on st ra = bs e fl T1 G st ra := funext fun k => by rw [bs2, if_pos ho]
        have e4 : bv2 e fl T1 G on st ra = bv e fl T1 G st ra := by rw [bv2, if_pos ho]
        rw [e3, e4]
        refine ⟨⟨a1, b1', fun _ => ⟨hz, fun _ => ⟨p24, fun _ => ⟨d1', by rw [d2]; exact c1⟩, fun z => absurd rfl z⟩, fun z => absurd rfl z⟩, fun z => absurd g11 z⟩, K2, by rw [d2]; exact c2, fq_trans mfq (fq_trans ⟨d3.1, fun c hc => d3.2 c ?_⟩ ⟨fun c _ => c3.1 c rfl, fun c hc => c3.2 c ?_⟩), c4, c5, fun j hj => by rw [c3.1 210 rfl]; exact d5 j hj, ⟨by rw [c3.1 56 rfl]; exact d6, by rw [c3.1 56 rfl]; exact d7, fun j h1 h2 => by rw [c3.1 56 rfl, d8 j h1 h2, m56 j h2]⟩, by rw [c3.1 208 rfl]; exact d9, fun j h1 => by rw [c3.1 208 rfl, d10 j h1, m1 208 (by decide)]⟩
        · have h1 : c ≠ 74 := fun z => by rw [z] at hc; cases hc
          have h2 : c ≠ 76 := fun z => by rw [z] at hc; cases hc
          have h3 : c ≠ 77 := fun z => by rw [z] at hc; cases hc
          have h4 : c ≠ 78 := fun z => by rw [z] at hc; cases hc
          simp [h1, h2, h3, h4]
        · have h1 : c ≠ 68 := fun z => by rw [z] at hc; cases hc
          have h2 : c ≠ 75 := fun z => by rw [z] at hc; cases hc
          simp [h1, h2]
  · rw [if_neg g11]
    obtain ⟨o1, o2⟩ := off (by rw [hon, decide_eq_false g11]; rfl)
    exact ⟨⟨a1, b1', fun z => absurd z g11, fun _ => o1⟩, o2⟩
end Wac
