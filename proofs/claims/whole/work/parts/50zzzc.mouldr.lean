/-! PURE (50zzzc): mould in the reference; its air as a whole. -/
theorem clp_up {mo : Nat} (h : mo ≤ 1000) : cf_528_0 (lN mo + 1) 0 1000 = lN (min 1000 (mo + 1)) := by
  rw [show (1000 : Int64) = lN 1000 from rfl, show (1 : Int64) = lN 1 from rfl, lN_add, clp_r (by omega)]
  refine congrArg lN ?_
  unfold clp
  rw [lN_j (by omega)]
  omega
theorem clp_dn {mo : Nat} (h : mo ≤ 1000) : cf_528_0 (lN mo - 1) 0 1000 = lN (mo - 1) := by
  rw [show (1000 : Int64) = lN 1000 from rfl, clp_r (by omega)]
  refine congrArg lN ?_
  unfold clp
  rw [show (lN mo - 1).toInt = (mo : Int) - 1 from mr_i (by omega)]
  omega
section Mour
variable {N : mz_N} {e fl : Nat → Nat} {P hw mo A : Nat → Nat} {hr vv vn c : Nat} {X : Nat → Int64} {lv : Bool}
theorem mo1_r {g : Nat → Int64} (hn : pl_n e ≤ 40) (h33 : ∀ i, i < 550 → N.1 233 i = nI (e i) ∧ e i < 4) (hp : r_pl e fl N) (hbd : ∀ i, i < 550 → ge_sd (i % 110) < 4 → e i = 2 ∨ e i = 3) (h68 : ∀ k, k < pl_n e → N.2 268 k = X k) (hc : c < 240) (hg : g c = lN (mo c)) (hmo : mo c ≤ 1000) :
    cp_531_37 (nI c) false 0 (mz_sL N 263 g) ∧ ∃ g', cf_531_37 (nI c) false 0 (mz_sL N 263 g) = .inl (nI (c + 1), mz_sL N 263 g') ∧ ∀ j, g' j = if j = c then lN (mou (pl_dm e c) (wmv e X (pl_lab e c)) (N.2 262 c) (mo c)) else g j := by
  have ic : mz_ib (nI c) 240 := ib_n hc (by omega)
  have d2 : mz_irem (nI c) 48 = nI (c % 48) := by rw [show (48 : Int32) = nI 48 from rfl, irem_n (by omega) (by omega) (by omega)]
  have d1 : nI c / 48 = nI (c / 48) := by rw [show (48 : Int32) = nI 48 from rfl, pk_div (by omega) (by omega) (by omega)]
  have hl := pl_lab_lt (e := e) hc
  have hz := pl_sz_le hl
  have hz1 := pl_some hl
  rw [cp_531_37, cf_531_37]
  refine mz_lpn (f := cq_531_37 (nI c) (mz_sL N 263 g)) (P := cd_531_37 (nI c) (mz_sL N 263 g)) (Q := fun t => ∃ g', t = .inl (nI (c + 1), mz_sL N 263 g') ∧ ∀ j, g' j = if j = c then lN (mou (pl_dm e c) (wmv e X (pl_lab e c)) (N.2 262 c) (mo c)) else g j) 4 (fun d s => s = (decide (0 < cnt (dmq e c) d), nI d)) ?_ ?_ (Nat.zero_le _) rfl
  · rintro d s hd rfl
    have l : nI d < 4 := (nI_ltI (b := 4) (by omega) (by omega)).mpr hd
    obtain ⟨q1, q2, q3, q4, q5, q6⟩ := ge_c (c % 48) (by omega) d hd
    obtain ⟨w1, w2, w3, w4, w5, w6⟩ := ge_e (ge_ed (c % 48) d) q5
    have ei : (110 : Int32) * nI (c / 48) + nI (ge_ed (c % 48) d) = nI (110 * (c / 48) + ge_ed (c % 48) d) := by rw [show (110 : Int32) = nI 110 from rfl, pk_mul, nI_add]
    have g33 : mz_gI (mz_sL N 263 g) 233 (nI (110 * (c / 48) + ge_ed (c % 48) d)) = nI (e (110 * (c / 48) + ge_ed (c % 48) d)) := by rw [gI_a, sL_1, nI_clamp (by omega)]; exact (h33 _ (by omega)).1
    have e4 := (h33 (110 * (c / 48) + ge_ed (c % 48) d) (by omega)).2
    have ii : mz_ib (nI (110 * (c / 48) + ge_ed (c % 48) d)) 4400 := ib_n (by omega) (by omega)
    have st : ∀ b : Bool, b = decide (0 < cnt (dmq e c) (d + 1)) → ∃ s2, cf_531_90 b (nI c) (nI d) (mz_sL N 263 g) = .inl s2 ∧ s2 = (decide (0 < cnt (dmq e c) (d + 1)), nI (d + 1)) := fun b hb => ⟨_, rfl, by rw [hb, nI_1]⟩
    rw [cd_531_37, cq_531_37]
    simp only [l, if_true, d1, d2, q4, w6, ei, g33]
    by_cases h0 : 0 < cnt (dmq e c) d
    · have h1 : decide (0 < cnt (dmq e c) d) = true := decide_eq_true h0
      rw [if_pos h1]
      refine ⟨⟨fun _ => ⟨fun _ => trivial, fun z => absurd h1 z⟩, fun z => absurd trivial z⟩, Or.inl ?_⟩
      rw [cf_531_85]
      exact st true (decide_eq_true (Nat.lt_of_lt_of_le h0 (cnt_mono (Nat.le_succ d)))).symm
    · have h1 : ¬ decide (0 < cnt (dmq e c) d) = true := by simpa using h0
      have c0 : cnt (dmq e c) d = 0 := by omega
      rw [if_neg h1]
      by_cases s1 : ge_sd (ge_ed (c % 48) d) < 4
      · have s2 : decide (ge_sd (ge_ed (c % 48) d) < 4) = true := decide_eq_true s1
        rw [if_pos s2]
        by_cases t1 : e (110 * (c / 48) + ge_ed (c % 48) d) = 2
        · have t2 : nI (e (110 * (c / 48) + ge_ed (c % 48) d)) = 2 := by rw [t1]; rfl
          rw [if_pos t2]
          refine ⟨⟨fun _ => ⟨fun z => absurd z h1, fun _ => ⟨fun _ => ⟨ii, fun _ => trivial, fun z => absurd t2 z⟩, fun z => absurd s2 z⟩⟩, fun z => absurd trivial z⟩, Or.inl ?_⟩
          rw [cf_531_85]
          exact st true (decide_eq_true (by rw [cnt_s (show dmq e c d = true from decide_eq_true ⟨s1, t1⟩)]; omega)).symm
        · have t2 : ¬ nI (e (110 * (c / 48) + ge_ed (c % 48) d)) = 2 := fun z => t1 ((nI_eq (b := 2) (by omega) (by omega)).mp z)
          rw [if_neg t2]
          refine ⟨⟨fun _ => ⟨fun z => absurd z h1, fun _ => ⟨fun _ => ⟨ii, fun z => absurd z t2, fun _ => trivial⟩, fun z => absurd s2 z⟩⟩, fun z => absurd trivial z⟩, Or.inl ?_⟩
          rw [cf_531_89]
          exact st false (decide_eq_false (by rw [cnt_sn (show dmq e c d = false from decide_eq_false (fun z => t1 z.2))]; omega)).symm
      · have s2 : ¬ decide (ge_sd (ge_ed (c % 48) d) < 4) = true := by simpa using s1
        rw [if_neg s2]
        refine ⟨⟨fun _ => ⟨fun z => absurd z h1, fun _ => ⟨fun z => absurd z s2, fun _ => trivial⟩⟩, fun z => absurd trivial z⟩, Or.inl ?_⟩
        rw [cf_531_89]
        exact st false (decide_eq_false (by rw [cnt_sn (show dmq e c d = false from decide_eq_false (fun z => s1 z.1))]; omega)).symm
  · rintro s rfl
    have dm := dm_eq hbd hc
    rw [← dm]
    have g35 : mz_gI (mz_sL N 263 g) 235 (nI c) = nI (pl_lab e c) := by rw [gI_a, sL_1, nI_clamp (by omega)]; exact hp.2.1 c hc
    have g37 : mz_gI (mz_sL N 263 g) 237 (nI (pl_lab e c)) = nI (pl_sz e (pl_lab e c)) := by rw [gI_a, sL_1, nI_clamp (by omega)]; exact (hp.2.2.1 _ hl).2
    have g68 : mz_gL (mz_sL N 263 g) 268 (nI (pl_lab e c)) = X (pl_lab e c) := by rw [gL_a, sL_n (by decide), nI_clamp (by omega)]; exact h68 _ hl
    have g62 : mz_gL (mz_sL N 263 g) 262 (nI c) = N.2 262 c := by rw [gL_a, sL_n (by decide), nI_clamp (by omega)]
    have g63 : mz_gL (mz_sL N 263 g) 263 (nI c) = lN (mo c) := by rw [gL_a, sL_e, nI_clamp (by omega)]; exact hg
    have ew : cf_489_0 (X (pl_lab e c)) (100 * (nI (pl_sz e (pl_lab e c))).toInt64) = wmv e X (pl_lab e c) := by
      rw [nI_L (by omega), show (100 : Int64) = lN 100 from rfl, lN_mul]; rfl
    have pw : cp_489_0 (X (pl_lab e c)) (100 * (nI (pl_sz e (pl_lab e c))).toInt64) := by
      rw [nI_L (by omega), show (100 : Int64) = lN 100 from rfl, lN_mul]; exact by_p (by omega) (by omega)
    have i1 : mz_ib (nI (pl_lab e c)) 40 := ib_n (by omega) (by omega)
    have i2 : mz_ib (nI (pl_lab e c)) 240 := ib_n (by omega) (by omega)
    have nxt : ∀ v : Int64, v = lN (mou (pl_dm e c) (wmv e X (pl_lab e c)) (N.2 262 c) (mo c)) → ∃ g', cf_531_195 (nI c) (mz_wL (mz_sL N 263 g) 263 (nI c) v) = .inl (nI (c + 1), mz_sL N 263 g') ∧ ∀ j, g' j = if j = c then lN (mou (pl_dm e c) (wmv e X (pl_lab e c)) (N.2 262 c) (mo c)) else g j := fun v hv => by
      refine ⟨vp_updL g c v, by rw [cf_531_195, nI_1, wL_s, sL_e, sL_sL, nI_clamp (by omega)], fun j => ?_⟩
      rw [upL_a, hv]
    have p1 : ∀ b, cp_531_156 b (nI c) (mz_sL N 263 g) := fun b => ⟨fun _ => ⟨ic, ic, trivial⟩, fun _ => ⟨ic, ic, trivial⟩⟩
    rw [cd_531_37, cq_531_37]
    have l4 : ¬ nI 4 < 4 := by decide
    simp only [l4, if_false, g35, g37, g68, g62, ew]
    cases hd : pl_dm e c with
    | false =>
      rw [if_neg (by decide)]
      refine ⟨⟨False.elim, fun _ => ⟨(fun z => by cases z), fun _ => trivial⟩⟩, _, rfl, g, by rw [cf_531_195, nI_1], fun j => ?_⟩
      by_cases z : j = c
      · rw [if_pos z, z, hg]; rfl
      · rw [if_neg z]
    | true =>
      rw [if_pos rfl]
      by_cases y1 : wmv e X (pl_lab e c) < 130
      · by_cases y2 : 300 < N.2 262 c
        · simp only [y1, y2, if_true]
          refine ⟨⟨False.elim, fun _ => ⟨fun _ => ⟨ic, i1, ic, i2, pw, fun _ => ⟨ic, fun _ => p1 true, fun z => absurd trivial z⟩, fun z => absurd trivial z⟩, fun _ => trivial⟩⟩, _, rfl, ?_⟩
          rw [cf_531_156, if_pos rfl, cf_531_187, g63, clp_up hmo]
          obtain ⟨g', a, b⟩ := nxt (lN (min 1000 (mo c + 1))) (by rw [mou, hd, if_pos rfl, if_pos ⟨y1, y2⟩])
          rw [hd] at b
          exact ⟨g', a, b⟩
        · simp only [y1, y2, if_true, if_false]
          refine ⟨⟨False.elim, fun _ => ⟨fun _ => ⟨ic, i1, ic, i2, pw, fun _ => ⟨ic, False.elim, fun _ => p1 false⟩, fun z => absurd trivial z⟩, fun _ => trivial⟩⟩, _, rfl, ?_⟩
          rw [cf_531_155, cf_531_156, if_neg (by decide), cf_531_187, g63, clp_dn hmo]
          obtain ⟨g', a, b⟩ := nxt (lN (mo c - 1)) (by rw [mou, hd, if_pos rfl, if_neg (fun z => y2 z.2)])
          rw [hd] at b
          exact ⟨g', a, b⟩
      · simp only [y1, if_false]
        refine ⟨⟨False.elim, fun _ => ⟨fun _ => ⟨ic, i1, ic, i2, pw, False.elim, fun _ => p1 false⟩, fun _ => trivial⟩⟩, _, rfl, ?_⟩
        rw [cf_531_155, cf_531_156, if_neg (by decide), cf_531_187, g63, clp_dn hmo]
        obtain ⟨g', a, b⟩ := nxt (lN (mo c - 1)) (by rw [mou, hd, if_pos rfl, if_neg (fun z => y1 z.1)])
        rw [hd] at b
        exact ⟨g', a, b⟩
theorem mou_r (hn : pl_n e ≤ 40) (h33 : ∀ i, i < 550 → N.1 233 i = nI (e i) ∧ e i < 4) (hp : r_pl e fl N) (hbd : ∀ i, i < 550 → ge_sd (i % 110) < 4 → e i = 2 ∨ e i = 3) (h68 : ∀ k, k < pl_n e → N.2 268 k = X k) (h63 : ∀ c, c < 240 → N.2 263 c = lN (mo c) ∧ mo c ≤ 1000) : cp_531_25 0 N ∧ ∃ g, cf_531_25 0 N = mz_sL N 263 g ∧ ∀ c, c < 240 → g c = lN (mou (pl_dm e c) (wmv e X (pl_lab e c)) (N.2 262 c) (mo c)) := by
  rw [cp_531_25, cf_531_25]
  refine mz_lpn (f := cq_531_25) (P := cd_531_25) (Q := fun t => ∃ g, t = mz_sL N 263 g ∧ ∀ c, c < 240 → g c = lN (mou (pl_dm e c) (wmv e X (pl_lab e c)) (N.2 262 c) (mo c))) 240 (fun x s => ∃ g, s = (nI x, mz_sL N 263 g) ∧ ∀ c, g c = if c < x then lN (mou (pl_dm e c) (wmv e X (pl_lab e c)) (N.2 262 c) (mo c)) else N.2 263 c) ?_ ?_ (Nat.zero_le _) ⟨N.2 263, by rw [sL_same]; rfl, fun k => by rw [if_neg (Nat.not_lt_zero _)]⟩
  · rintro x s hx ⟨g, rfl, hg⟩
    have l : nI x < 240 := (nI_ltI (b := 240) (by omega) (by omega)).mpr hx
    obtain ⟨m1, m2⟩ := h63 x hx
    obtain ⟨p1, g', p2, p3⟩ := mo1_r (g := g) (mo := mo) hn h33 hp hbd h68 hx (by rw [hg x, if_neg (Nat.lt_irrefl _), m1]) m2
    rw [cd_531_25, cq_531_25]
    simp only [l, if_true, p2]
    refine ⟨⟨fun _ => p1, fun _ => trivial⟩, Or.inl ⟨_, rfl, g', rfl, fun c => ?_⟩⟩
    rw [p3 c]
    by_cases z : c = x
    · rw [if_pos z, if_pos (by omega), z]
    · rw [if_neg z, hg c]
      by_cases y : c < x
      · rw [if_pos y, if_pos (by omega)]
      · rw [if_neg y, if_neg (by omega)]
  · rintro s ⟨g, rfl, hg⟩
    rw [cd_531_25, cq_531_25]
    exact ⟨⟨fun z => absurd z (show ¬ nI 240 < 240 by decide), fun _ => trivial⟩, _, if_neg (show ¬ (nI 240 : Int32) < 240 by decide), g, rfl, fun c hc => by rw [hg c, if_pos hc]⟩
theorem air_r (hn : pl_n e ≤ 40) (h33 : ∀ i, i < 550 → N.1 233 i = nI (e i) ∧ e i < 4) (hp : r_pl e fl N) (hbd : ∀ i, i < 550 → ge_sd (i % 110) < 4 → e i = 2 ∨ e i = 3) (hlv : N.1 276 10 = mz_b01 lv) (hvn : N.1 257 13 = nI vn) (hvn2 : vn ≤ 100) (hvv : vv = if lv = true then 10 * vn else 0) (h44 : ∀ j, j < 240 → N.1 244 j = nI (P j)) (hP : ∀ j, P j ≤ 20) (h77 : ∀ j, j < 10 → N.1 277 j = nI (hw j)) (hhw : ∀ j, j < 10 → hw j ≤ 100) (hhr : hr < 24) (h68 : ∀ k, k < pl_n e → N.2 268 k = X k) (h63 : ∀ c, c < 240 → N.2 263 c = lN (mo c) ∧ mo c ≤ 1000) :
    cp_531_0 (nI hr) N ∧ ∃ K, cf_531_0 (nI hr) N = K ∧ fq [238] [261, 262, 263, 271] N K ∧ (∀ c, c < 240 → K.2 261 c = spd e (arT e fl (fun j => 20 * pnt e fl P hr j) vv (N.2 261)) c) ∧ (∀ c, c < 240 → K.2 262 c = spd e (arT e fl (fun j => 5 * pnt e fl P hr j + 2 * hw j) vv (N.2 262)) c) ∧ ∀ c, c < 240 → K.2 263 c = lN (mou (pl_dm e c) (wmv e X (pl_lab e c)) (K.2 262 c) (mo c)) := by
  obtain ⟨a1, K1, a2, a3, a4⟩ := aof_r (N := N) (e := e) (fl := fl) (P := P) (hw := hw) (A := fun j => 20 * pnt e fl P hr j) (hr := hr) (vv := vv) (vn := vn) (lv := lv) (c3 := 20) (c4 := 0) (a1 := 261) hn hp (by decide) hlv hvn hvn2 hvv h44 hP h77 hhw hhr (by omega) (by omega) (fun j => by rw [Nat.zero_mul, Nat.add_zero])
  have hp1 : r_pl e fl K1 := rpl_cg (by rw [a3.1 232 rfl]) (fun c hc => a3.1 c (by
    have h1 : c ≠ 238 := fun z => by rw [z] at hc; cases hc
    simpa using h1)) hp
  obtain ⟨b1', K2, b2, b3, b4⟩ := aof_r (N := K1) (e := e) (fl := fl) (P := P) (hw := hw) (A := fun j => 5 * pnt e fl P hr j + 2 * hw j) (hr := hr) (vv := vv) (vn := vn) (lv := lv) (c3 := 5) (c4 := 2) (a1 := 262) hn hp1 (by decide) (by rw [a3.1 276 rfl]; exact hlv) (by rw [a3.1 257 rfl]; exact hvn) hvn2 hvv (by rw [a3.1 244 rfl]; exact h44) hP (by rw [a3.1 277 rfl]; exact h77) hhw hhr (by omega) (by omega) (fun j => rfl)
  have hp2 : r_pl e fl K2 := rpl_cg (by rw [b3.1 232 rfl]) (fun c hc => b3.1 c (by
    have h1 : c ≠ 238 := fun z => by rw [z] at hc; cases hc
    simpa using h1)) hp1
  obtain ⟨c1, g, c2, c3⟩ := mou_r (N := K2) (e := e) (fl := fl) (X := X) (mo := mo) hn (by rw [b3.1 233 rfl, a3.1 233 rfl]; exact h33) hp2 hbd (by rw [b3.2 268 rfl, a3.2 268 rfl]; exact h68) (by rw [b3.2 263 rfl, a3.2 263 rfl]; exact h63)
  have a2' : cf_532_0 261 (nI hr) 20 0 N = K1 := a2
  have b2' : cf_532_0 262 (nI hr) 5 2 K1 = K2 := b2
  rw [cp_531_0, cf_531_0, a2', b2', c2]
  refine ⟨⟨a1, b1', c1⟩, _, rfl, ⟨fun c hc => ?_, fun c hc => ?_⟩, fun c hc => ?_, fun c hc => ?_, fun c hc => ?_⟩
  · rw [sL_1, b3.1 c hc, a3.1 c hc]
  · have h1 : c ≠ 261 := fun z => by rw [z] at hc; cases hc
    have h2 : c ≠ 262 := fun z => by rw [z] at hc; cases hc
    have h3 : c ≠ 263 := fun z => by rw [z] at hc; cases hc
    have h4 : c ≠ 271 := fun z => by rw [z] at hc; cases hc
    rw [sL_n h3, b3.2 c (by simp [h2, h4]), a3.2 c (by simp [h1, h4])]
  · rw [sL_n (by decide), b3.2 261 rfl, a4 c hc]
  · rw [sL_n (by decide), b4 c hc, a3.2 262 rfl]
  · rw [sL_e, c3 c hc, sL_n (by decide)]
end Mour
