/-! PURE (33): the reference looks at its disk. -/
section Opr
variable {N : mz_N} {d : Nat → Nat → Nat} {a n g : Nat}
theorem and32 (v : Int64) : v &&& 4294967295 = lN (uv v % 2 ^ 32) := by
  apply Int64.toBitVec_inj.mp
  rw [Int64.toBitVec_and, lN_bv2, show (4294967295 : Int64).toBitVec = BitVec.ofNat 64 (2 ^ 32 - 1) from rfl]
  apply BitVec.eq_of_toNat_eq
  rw [BitVec.toNat_and, BitVec.toNat_ofNat, BitVec.toNat_ofNat, Nat.mod_eq_of_lt (show 2 ^ 32 - 1 < 2 ^ 64 by decide), Nat.and_two_pow_sub_one_eq_mod]
  have := Nat.mod_lt (uv v) (show 0 < 2 ^ 32 by decide)
  rw [Nat.mod_eq_of_lt (show uv v % 2 ^ 32 < 2 ^ 64 by omega)]
  rfl
theorem lN_e {a b : Nat} (ha : a < 2 ^ 62) (hb : b < 2 ^ 62) : lN a = lN b ↔ a = b := pk_lEQ (by omega) (by omega)
theorem at_r {p : Nat} : 9600 * nI a + 48 * nI n + nI p = nI (9600 * a + (48 * n + p)) := by
  rw [show (9600 : Int32) = nI 9600 from rfl, show (48 : Int32) = nI 48 from rfl, pk_mul, pk_mul, nI_add, nI_add, Nat.add_assoc]
theorem at_r0 : 9600 * nI a + 48 * nI n = nI (9600 * a + 48 * n) := by
  rw [show (9600 : Int32) = nI 9600 from rfl, show (48 : Int32) = nI 48 from rfl, pk_mul, pk_mul, nI_add]
theorem wh_r (hd : r_dk d N) (hd2 : ∀ a j, d a j < 256) (ha : a < 2) (hn : n < 200) (hg : g < 2 ^ 32) : cp_595_0 (nI a) (nI n) (lN g) N ∧ (cf_595_0 (nI a) (nI n) (lN g) N = true ↔ whl d a n ∧ ag d a n = g) := by
  have e3 : 9600 * nI a + 48 * nI n + 3 = nI (9600 * a + (48 * n + 3)) := at_r (p := 3)
  have e4 : 9600 * nI a + 48 * nI n + 4 = nI (9600 * a + (48 * n + 4)) := at_r (p := 4)
  have e8 : 9600 * nI a + 48 * nI n + 8 = nI (9600 * a + (48 * n + 8)) := at_r (p := 8)
  have e44 : 9600 * nI a + 48 * nI n + 44 = nI (9600 * a + (48 * n + 44)) := at_r (p := 44)
  rw [at_r0] at e3 e4 e8 e44
  have g3 : mz_gI N 329 (nI (9600 * a + (48 * n + 3))) = by8 (d a (48 * n + 3)) := by rw [gI_a, nI_clamp (by omega)]; exact hd a ha _ (by omega)
  obtain ⟨p1, q1⟩ := rd4_r (p := 48 * n + 44) hd hd2 ha (by omega)
  obtain ⟨p2, q2⟩ := rd4_r (p := 48 * n + 4) hd hd2 ha (by omega)
  obtain ⟨p4, q4⟩ := rd4_r (p := 48 * n + 8) hd hd2 ha (by omega)
  obtain ⟨p3, q3⟩ := cr_r (N := N) (a := 329) (n := 19200) (p := 9600 * a + 48 * n) (k := 44) (d := fun i => d a (48 * n + i)) (fun i hi => ⟨by rw [Nat.add_assoc]; exact hd a ha _ (by omega), hd2 _ _⟩) (by omega) (by omega)
  have p3' : cp_413_0 329 19200 (nI (9600 * a + 48 * n)) 44 N := p3
  have l3 : cru (d a) (48 * n) 44 < 2 ^ 32 := cru_lt (fun _ _ => hd2 _ _)
  have q3' : (cf_413_0 329 19200 (nI (9600 * a + 48 * n)) 44 N).toInt64 &&& 4294967295 = lN (cru (d a) (48 * n) 44) := by
    have e : cf_413_0 329 19200 (nI (9600 * a + 48 * n)) 44 N = crv (fun i => d a (48 * n + i)) 0 44 := q3
    rw [e, crv_n, show cru (fun i => d a (48 * n + i)) 0 44 = cru (d a) (48 * n) 44 from by
      unfold cru; rw [crs_congr (e := d a) (q := 48 * n) (fun i hi => by rw [Nat.zero_add])], and32, toInt64_uv _ l3]
  have l1 : num (d a) (48 * n + 44) 4 < 2 ^ 32 := num_lt (n := 4) (fun _ _ => hd2 _ _)
  have l2 : num (d a) (48 * n + 4) 4 < 2 ^ 32 := num_lt (n := 4) (fun _ _ => hd2 _ _)
  have l4 : ag d a n < 2 ^ 32 := ag_lt hd2
  have q4' : cf_423_0 329 19200 (nI (9600 * a + (48 * n + 8))) 4 N = lN (ag d a n) := q4
  have eg : lN g &&& 4294967295 = lN g := by rw [and32, uv_lN (by omega), Nat.mod_eq_of_lt hg]
  have en : (nI n).toInt64 = lN n := nI_l (by omega)
  have b3 := hd2 a (48 * n + 3)
  rw [cp_595_0, cf_595_0]
  simp only [e3, e4, e8, e44, at_r0, g3, q1, q2, q3', q4', eg, en, (by8_0 _ b3).1, lN_e (show num (d a) (48 * n + 44) 4 < 2 ^ 62 by omega) (show cru (d a) (48 * n) 44 < 2 ^ 62 by omega), lN_e (show num (d a) (48 * n + 4) 4 < 2 ^ 62 by omega) (show n < 2 ^ 62 by omega), lN_e (show ag d a n < 2 ^ 62 by omega) (show g < 2 ^ 62 by omega)]
  refine ⟨⟨ib_n (by omega) (by omega), fun _ => ⟨p1, p3', fun _ => ⟨p2, fun _ => p4, fun _ => trivial⟩, fun _ => trivial⟩, fun _ => trivial⟩, ?_⟩
  unfold whl
  generalize num (d a) (48 * n + 44) 4 = x1 at *
  generalize num (d a) (48 * n + 4) 4 = x2 at *
  generalize cru (d a) (48 * n) 44 = x3 at *
  by_cases w0 : d a (48 * n + 3) = 0
  · rw [if_pos w0]
    by_cases w1 : x1 = x3
    · rw [if_pos w1]
      by_cases w2 : x2 = n
      · rw [if_pos w2]
        by_cases w4 : ag d a n = g
        · rw [if_pos w4]; exact ⟨fun _ => ⟨⟨w0, w1, w2⟩, w4⟩, fun _ => rfl⟩
        · rw [if_neg w4]; exact ⟨(fun w => by cases w), fun w => absurd w.2 w4⟩
      · rw [if_neg w2]; exact ⟨(fun w => by cases w), fun w => absurd w.1.2.2 w2⟩
    · rw [if_neg w1]; exact ⟨(fun w => by cases w), fun w => absurd w.1.2.1 w1⟩
  · rw [if_neg w0]; exact ⟨(fun w => by cases w), fun w => absurd w.1.1 w0⟩
theorem ky_r (hd : r_dk d N) (hd2 : ∀ a j, d a j < 256) (ha : a < 2) (hn : n < 200) : cp_597_0 (nI a) (nI n) N ∧ cf_597_0 (nI a) (nI n) N = nO 135 (rky d a n) := by
  have e1 : 9600 * nI a + 48 * nI n + 1 = nI (9600 * a + (48 * n + 1)) := at_r (p := 1)
  have b0 := hd2 a (48 * n)
  have b1 := hd2 a (48 * n + 1)
  have g0 : mz_gI N 329 (nI (9600 * a + 48 * n)) &&& 255 = nI (d a (48 * n)) := by rw [gI_a, nI_clamp (by omega), hd a ha _ (by omega), by8_and _ b0]
  have g1 : mz_gI N 329 (nI (9600 * a + (48 * n + 1))) &&& 255 = nI (d a (48 * n + 1)) := by rw [gI_a, nI_clamp (by omega), hd a ha _ (by omega), by8_and _ b1]
  rw [cp_597_0, cf_597_0, e1, at_r0, g0, g1]
  exact ⟨⟨ib_n (by omega) (by omega), ib_n (by omega) (by omega)⟩, (kyo_r (by omega) (by omega)).2⟩
theorem ls_r (hd : r_dk d N) (hd2 : ∀ a j, d a j < 256) (ha : a < 2) (hn : n < 200) : cp_596_0 (nI a) (nI n) N ∧ (cf_596_0 (nI a) (nI n) N = true ↔ lsr d a n) := by
  have e2 : 9600 * nI a + 48 * nI n + 2 = nI (9600 * a + (48 * n + 2)) := at_r (p := 2)
  have b := hd2 a (48 * n + 2)
  have g2 : mz_gI N 329 (nI (9600 * a + (48 * n + 2))) = by8 (d a (48 * n + 2)) := by rw [gI_a, nI_clamp (by omega)]; exact hd a ha _ (by omega)
  rw [cp_596_0, cf_596_0, e2, g2]
  simp only [(by8_0 _ b).2]
  refine ⟨ib_n (by omega) (by omega), ?_⟩
  unfold lsr
  by_cases w : d a (48 * n + 2) = 1
  · rw [if_pos w]; exact ⟨fun _ => w, fun _ => rfl⟩
  · rw [if_neg w]; exact ⟨(fun q => by cases q), fun q => absurd q w⟩
theorem ge_r (hd : r_dk d N) (hd2 : ∀ a j, d a j < 256) (ha : a < 2) (hb : ag d a 0 < 2 ^ 31) : cp_594_0 (nI a) N ∧ cf_594_0 (nI a) N = lN (ag d a 0) := by
  have e : 9600 * nI a + 8 = nI (9600 * a + 8) := by rw [show (9600 : Int32) = nI 9600 from rfl, show (8 : Int32) = nI 8 from rfl, pk_mul, nI_add]
  obtain ⟨p1, q1⟩ := rd4_r (p := 8) hd hd2 ha (by omega)
  rw [cp_594_0, cf_594_0, e, q1, lN_i]
  exact ⟨p1, nI_l hb⟩
/-- rows of keys -/
theorem kr_r (hd : r_dk d N) (hd2 : ∀ a j, d a j < 256) (ha : a < 2) (hn : n < 200) (hg : g < 2 ^ 32) : (cf_595_0 (nI a) (nI n) (lN g) N = true ∧ ¬ cf_597_0 (nI a) (nI n) N < 0) ↔ krw d a n g := by
  rw [(wh_r hd hd2 ha hn hg).2, (ky_r hd hd2 ha hn).2, nO_neg (by omega)]
  unfold krw rky
  constructor
  · rintro ⟨⟨a1, a2⟩, a3⟩; exact ⟨a1, a2, Classical.not_not.mp a3⟩
  · rintro ⟨a1, a2, a3⟩; exact ⟨⟨a1, a2⟩, fun w => w a3⟩
theorem ga_r (hd : r_dk d N) (hd2 : ∀ a j, d a j < 256) (ha : a < 2) (hb : ag d a 0 < 2 ^ 31) : cp_593_0 (nI a) N ∧ (cf_593_0 (nI a) N = true ↔ gda d a) := by
  obtain ⟨p1, q1⟩ := ge_r hd hd2 ha hb
  obtain ⟨p2, q2⟩ := wh_r (n := 0) (g := ag d a 0) hd hd2 ha (by omega) (by omega)
  obtain ⟨p3, q3⟩ := ls_r (n := 0) hd hd2 ha (by omega)
  rw [nI_0] at p2 q2 p3 q3
  have e0 : 9600 * nI a = nI (9600 * a) := by rw [show (9600 : Int32) = nI 9600 from rfl, pk_mul]
  have e1 : nI (9600 * a) + 1 = nI (9600 * a + 1) := nI_1 _
  have e12 : nI (9600 * a) + 12 = nI (9600 * a + 12) := by rw [show (12 : Int32) = nI 12 from rfl, nI_add]
  have b0 := hd2 a 0
  have b1 := hd2 a 1
  have g0 : mz_gI N 329 (nI (9600 * a)) = by8 (d a 0) := by rw [gI_a, nI_clamp (by omega)]; exact hd a ha 0 (by omega)
  have g1 : mz_gI N 329 (nI (9600 * a + 1)) = by8 (d a 1) := by rw [gI_a, nI_clamp (by omega)]; exact hd a ha 1 (by omega)
  obtain ⟨p4, q4⟩ := rd4_r (p := 12) hd hd2 ha (by omega)
  have q4' : cf_423_0 329 19200 (nI (9600 * a + 12)) 4 N = lN (cnn d a) := q4
  have lc : cnn d a < 2 ^ 32 := num_lt (n := 4) (fun _ _ => hd2 _ _)
  have hc : (199 < lN (cnn d a)) ↔ ¬ cnn d a < 200 := by
    rw [show (199 : Int64) = lN 199 from rfl, lN_lt64 (by omega) (by omega)]; omega
  have hloop : cnn d a < 200 → cp_593_80 (nI a) (lN (cnn d a)) true 1 N ∧ (cf_593_80 (nI a) (lN (cnn d a)) true 1 N = true ↔ (∀ n, 1 ≤ n → n ≤ cnn d a → krw d a n (ag d a 0)) ∧ (cnn d a = 0 ∨ lsr d a (cnn d a))) := by
    intro hcl
    generalize cnn d a = c at *
    refine mz_lpn (f := cq_593_80 (nI a) (lN c) N) (P := cd_593_80 (nI a) (lN c) N) (Q := fun t => t = true ↔ (∀ n, 1 ≤ n → n ≤ c → krw d a n (ag d a 0)) ∧ (c = 0 ∨ lsr d a c)) (c + 1) (fun t s => 1 ≤ t ∧ ((s = (true, nI t) ∧ (∀ n, 1 ≤ n → n < t → krw d a n (ag d a 0)) ∧ (c < t → c = 0 ∨ lsr d a c)) ∨ (s = (false, nI t) ∧ ¬ ((∀ n, 1 ≤ n → n ≤ c → krw d a n (ag d a 0)) ∧ (c = 0 ∨ lsr d a c))))) ?_ ?_ (show 1 ≤ c + 1 by omega) ⟨Nat.le_refl _, Or.inl ⟨rfl, fun n h1 h2 => by omega, fun w => Or.inl (by omega)⟩⟩
    · rintro t s ht ⟨h1, h⟩
      have en : (nI t).toInt64 = lN t := nI_l (by omega)
      have hlt : ¬ lN c < lN t := fun w => by have := (lN_lt64 (by omega) (by omega)).mp w; omega
      rcases h with ⟨rfl, hk, hl⟩ | ⟨rfl, hng⟩
      · obtain ⟨u1, u2⟩ := wh_r (n := t) (g := ag d a 0) hd hd2 ha (by omega) (by omega)
        obtain ⟨v1, v2⟩ := ky_r (n := t) hd hd2 ha (by omega)
        obtain ⟨w1, w2⟩ := ls_r (n := t) hd hd2 ha (by omega)
        have kk := kr_r (n := t) (g := ag d a 0) hd hd2 ha (by omega) (by omega)
        rw [cd_593_80, cq_593_80, q1]
        simp only [en, hlt, if_false, if_true, cp_593_140, cp_593_136, cp_593_141, cf_593_140, cf_593_136, cf_593_141, nI_1]
        refine ⟨⟨False.elim, fun _ => ⟨fun _ => ⟨p1, u1, fun _ => ⟨v1, fun _ => trivial, fun _ => ⟨fun _ => trivial, fun _ => ⟨w1, fun _ => trivial, fun _ => trivial⟩⟩⟩, fun _ => trivial⟩, fun w => absurd trivial w⟩⟩, ?_⟩
        by_cases y1 : cf_595_0 (nI a) (nI t) (lN (ag d a 0)) N = true
        · rw [if_pos y1]
          by_cases y2 : cf_597_0 (nI a) (nI t) N < 0
          · rw [if_pos y2]
            exact Or.inl ⟨_, rfl, by omega, Or.inr ⟨rfl, fun q => (kk.mpr (q.1 t h1 (by omega))).2 y2⟩⟩
          · rw [if_neg y2]
            have hkt := kk.mp ⟨y1, y2⟩
            have hall : ∀ n, 1 ≤ n → n < t + 1 → krw d a n (ag d a 0) := fun n a1 a2 => by
              by_cases z : n = t
              · rw [z]; exact hkt
              · exact hk n a1 (by omega)
            by_cases y3 : lN t < lN c
            · rw [if_pos y3]
              have := (lN_lt64 (by omega) (by omega)).mp y3
              exact Or.inl ⟨_, rfl, by omega, Or.inl ⟨rfl, hall, fun q => by omega⟩⟩
            · rw [if_neg y3]
              have htc : t = c := by
                have : ¬ t < c := fun q => y3 ((lN_lt64 (by omega) (by omega)).mpr q)
                omega
              by_cases y4 : lsr d a t
              · rw [if_pos (w2.mpr y4)]
                exact Or.inl ⟨_, rfl, by omega, Or.inl ⟨rfl, hall, fun _ => Or.inr (by rw [← htc]; exact y4)⟩⟩
              · rw [if_neg (fun q => y4 (w2.mp q))]
                refine Or.inl ⟨_, rfl, by omega, Or.inr ⟨rfl, fun q => ?_⟩⟩
                rcases q.2 with z | z
                · omega
                · rw [← htc] at z; exact y4 z
        · rw [if_neg y1]
          exact Or.inl ⟨_, rfl, by omega, Or.inr ⟨rfl, fun q => y1 (kk.mpr (q.1 t h1 (by omega))).1⟩⟩
      · rw [cd_593_80, cq_593_80]
        simp only [en, hlt, if_false, Bool.false_eq_true]
        exact ⟨⟨False.elim, fun _ => ⟨False.elim, fun _ => trivial⟩⟩, Or.inr ⟨_, rfl, (fun w => by cases w), fun w => absurd w hng⟩⟩
    · rintro s ⟨h1, h⟩
      have en : (nI (c + 1)).toInt64 = lN (c + 1) := nI_l (by omega)
      have hlt : lN c < lN (c + 1) := (lN_lt64 (by omega) (by omega)).mpr (by omega)
      rcases h with ⟨rfl, hk, hl⟩ | ⟨rfl, hng⟩
      · rw [cd_593_80, cq_593_80]
        simp only [en, hlt, if_true]
        exact ⟨⟨fun _ => trivial, fun w => absurd trivial w⟩, _, rfl, fun _ => ⟨fun n a1 a2 => hk n a1 (by omega), hl (by omega)⟩, fun _ => rfl⟩
      · rw [cd_593_80, cq_593_80]
        simp only [en, hlt, if_true]
        exact ⟨⟨fun _ => trivial, fun w => absurd trivial w⟩, _, rfl, (fun w => by cases w), fun w => absurd w hng⟩
  rw [cp_593_0, cf_593_0, q1]
  simp only [e0, e1, e12, g0, g1, q4', (by8_0 _ b0).1, (by8_0 _ b1).1, hc]
  refine ⟨⟨p1, p2, fun _ => ⟨ib_n (by omega) (by omega), fun _ => ⟨ib_n (by omega) (by omega), fun _ => ⟨p3, fun _ => ⟨p4, fun _ => trivial, fun w => (hloop (Classical.not_not.mp w)).1⟩, fun _ => trivial⟩, fun _ => trivial⟩, fun _ => trivial⟩, fun _ => trivial⟩, ?_⟩
  unfold gda
  by_cases w1 : whl d a 0
  · rw [if_pos (q2.mpr ⟨w1, rfl⟩)]
    by_cases w2 : d a 0 = 0
    · rw [if_pos w2]
      by_cases w3 : d a 1 = 0
      · rw [if_pos w3]
        by_cases w4 : lsr d a 0
        · rw [if_pos (q3.mpr w4)]
          by_cases w5 : cnn d a < 200
          · rw [if_neg (fun q => q w5), (hloop w5).2]
            exact ⟨fun q => ⟨w1, w2, w3, w4, w5, q.1, q.2⟩, fun q => ⟨q.2.2.2.2.2.1, q.2.2.2.2.2.2⟩⟩
          · rw [if_pos w5]; exact ⟨(fun q => by cases q), fun q => absurd q.2.2.2.2.1 w5⟩
        · rw [if_neg (fun q => w4 (q3.mp q))]; exact ⟨(fun q => by cases q), fun q => absurd q.2.2.2.1 w4⟩
      · rw [if_neg w3]; exact ⟨(fun q => by cases q), fun q => absurd q.2.2.1 w3⟩
    · rw [if_neg w2]; exact ⟨(fun q => by cases q), fun q => absurd q.2.1 w2⟩
  · rw [if_neg (fun q => w1 (q2.mp q).1)]; exact ⟨(fun q => by cases q), fun q => absurd q.1 w1⟩
theorem r_take1 {K : mz_N} {r : Nat} (hd : r_dk d K) (hd2 : ∀ a j, d a j < 256) (ha : a < 2) (hr : r < 200) (hk : rky d a r < 135) : cp_598_0 (nI a) (nI r) K ∧ ∃ f, cf_598_0 (nI a) (nI r) K = mz_sI (mz_sI K 330 (upd (K.1 330) (rky d a r) 1)) 331 f ∧ ∀ j, f j = if 28 * rky d a r ≤ j ∧ j < 28 * rky d a r + 28 then by8 (d a (48 * r + 12 + (j - 28 * rky d a r))) else K.1 331 j := by
  obtain ⟨p1, q1⟩ := ky_r (n := r) hd hd2 ha hr
  rw [nO_lt hk] at q1
  have ew : mz_wI K 330 (nI (rky d a r)) (mz_b01 true) = mz_sI K 330 (upd (K.1 330) (rky d a r) 1) := by rw [wI_s, nI_clamp (by omega)]; rfl
  rw [cp_598_0, cf_598_0, q1, ew]
  generalize hky : rky d a r = k at *
  have key : cp_598_17 (nI a) (nI r) (nI k) 0 (mz_sI K 330 (upd (K.1 330) k 1)) ∧ ∃ f, cf_598_17 (nI a) (nI r) (nI k) 0 (mz_sI K 330 (upd (K.1 330) k 1)) = mz_sI (mz_sI K 330 (upd (K.1 330) k 1)) 331 f ∧ ∀ j, f j = if 28 * k ≤ j ∧ j < 28 * k + 28 then by8 (d a (48 * r + 12 + (j - 28 * k))) else K.1 331 j := by
    refine mz_lpn (f := cq_598_17 (nI a) (nI r) (nI k)) (P := cd_598_17 (nI a) (nI r) (nI k)) (Q := fun t => ∃ f, t = mz_sI (mz_sI K 330 (upd (K.1 330) k 1)) 331 f ∧ ∀ j, f j = if 28 * k ≤ j ∧ j < 28 * k + 28 then by8 (d a (48 * r + 12 + (j - 28 * k))) else K.1 331 j) 28 (fun t s => ∃ f, s = (nI t, mz_sI (mz_sI K 330 (upd (K.1 330) k 1)) 331 f) ∧ ∀ j, f j = if 28 * k ≤ j ∧ j < 28 * k + t then by8 (d a (48 * r + 12 + (j - 28 * k))) else K.1 331 j) ?_ ?_ (Nat.zero_le _) ⟨K.1 331, by rw [show K.1 331 = (mz_sI K 330 (upd (K.1 330) k 1)).1 331 from (sI_n (by decide)).symm, sI_same]; rfl, fun j => by rw [if_neg (by omega)]⟩
    · rintro t s ht ⟨f, rfl, hf⟩
      have e12 : 9600 * nI a + 48 * nI r + 12 + nI t = nI (9600 * a + (48 * r + 12 + t)) := by
        have : 9600 * nI a + 48 * nI r + 12 = nI (9600 * a + (48 * r + 12)) := at_r (p := 12)
        rw [this, nI_add, Nat.add_assoc]
      have g1 : mz_nb (mz_gI (mz_sI (mz_sI K 330 (upd (K.1 330) k 1)) 331 f) 329 (nI (9600 * a + (48 * r + 12 + t)))) = by8 (d a (48 * r + 12 + t)) := by
        rw [gI_a, sI_n (by decide), sI_n (by decide), nI_clamp (by omega), hd a ha _ (by omega), by8_nb]
      have e28 : 28 * nI k + nI t = nI (28 * k + t) := by rw [show (28 : Int32) = nI 28 from rfl, pk_mul, nI_add]
      have hlt : nI t < 28 := (nI_ltI (b := 28) (by omega) (by omega)).mpr ht
      rw [cd_598_17, cq_598_17]
      simp only [e12, e28, g1, hlt, if_true, cp_598_57, cf_598_57, nI_1]
      refine ⟨⟨fun _ => ⟨ib_n (by omega) (by omega), ib_n (by omega) (by omega), trivial⟩, fun w => absurd trivial w⟩, Or.inl ⟨_, rfl, upd f (28 * k + t) (by8 (d a (48 * r + 12 + t))), ?_, ?_⟩⟩
      · rw [wI_s, sI_e, sI_sI, nI_clamp (by omega)]
      · intro j
        rw [up_a, hf]
        by_cases y : j = 28 * k + t
        · rw [if_pos y, if_pos (by omega), y, Nat.add_sub_cancel_left]
        · rw [if_neg y]
          by_cases w : 28 * k ≤ j ∧ j < 28 * k + t
          · rw [if_pos w, if_pos (by omega)]
          · rw [if_neg w, if_neg (by omega)]
    · rintro s ⟨f, rfl, hf⟩
      have hlt : ¬ nI 28 < 28 := by decide
      rw [cd_598_17, cq_598_17]
      simp only [hlt, if_false]
      exact ⟨⟨False.elim, fun _ => trivial⟩, _, rfl, f, rfl, hf⟩
  exact ⟨⟨p1, ib_n hk (by omega), key.1⟩, key.2⟩
end Opr
