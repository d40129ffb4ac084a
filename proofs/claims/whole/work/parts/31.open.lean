/-! PURE (31): the class opens its store again. -/
section Opn
variable {N : mz_N} {d : Nat → Nat → Nat} {a n g : Nat}
theorem fk_c {p : Nat} : nI n * 48 + nI p = nI (48 * n + p) := by rw [show (48 : Int32) = nI 48 from rfl, pk_mul, nI_add, Nat.mul_comm]
theorem wh_c (hd : c_dk d N) (hd2 : ∀ a j, d a j < 256) (h3 : ∀ a n, a < 2 → n < 200 → d a (48 * n + 3) ≤ 1) (ha : a < 2) (hn : n < 200) : cp_94_0 (nI a) (nI n) N ∧ (cf_94_0 (nI a) (nI n) N = true ↔ whl d a n) := by
  have e0 : nI n * 48 = nI (48 * n) := by rw [show (48 : Int32) = nI 48 from rfl, pk_mul, Nat.mul_comm]
  have e3 : nI (48 * n) + 3 = nI (48 * n + 3) := by rw [show (3 : Int32) = nI 3 from rfl, nI_add]
  have e4 : nI (48 * n) + 4 = nI (48 * n + 4) := by rw [show (4 : Int32) = nI 4 from rfl, nI_add]
  have e44 : nI (48 * n) + 44 = nI (48 * n + 44) := by rw [show (44 : Int32) = nI 44 from rfl, nI_add]
  have ea : 221 + (nI a).toNatClampNeg = 221 + a := by rw [nI_clamp (by omega)]
  have g3 : mz_gI N (221 + a) (nI (48 * n + 3)) = nI (d a (48 * n + 3)) := by rw [gI_a, nI_clamp (by omega)]; exact hd a ha _ (by omega)
  obtain ⟨p1, q1⟩ := rd4_c (N := N) (a := 221 + a) (n := 9600) (p := 48 * n + 44) (d := d a) (fun i hi => ⟨hd a ha _ (by omega), hd2 _ _⟩) (by omega) (by omega)
  obtain ⟨p2, q2⟩ := rd4_c (N := N) (a := 221 + a) (n := 9600) (p := 48 * n + 4) (d := d a) (fun i hi => ⟨hd a ha _ (by omega), hd2 _ _⟩) (by omega) (by omega)
  obtain ⟨p3, q3⟩ := cr_c (N := N) (a := 221 + a) (n := 9600) (p := 48 * n) (k := 44) (d := d a) (fun i hi => ⟨hd a ha _ (by omega), hd2 _ _⟩) (by omega) (by omega)
  have p3' : cp_16_0 (221 + a) 9600 (nI (48 * n)) 44 N := p3
  have q3' : cf_16_0 (221 + a) 9600 (nI (48 * n)) 44 N = nI (cru (d a) (48 * n) 44) := q3.trans (crv_n _ _ _)
  have l1 : num (d a) (48 * n + 44) 4 < 2 ^ 32 := num_lt (n := 4) (fun _ _ => hd2 _ _)
  have l2 : num (d a) (48 * n + 4) 4 < 2 ^ 32 := num_lt (n := 4) (fun _ _ => hd2 _ _)
  have l3 : cru (d a) (48 * n) 44 < 2 ^ 32 := cru_lt (fun _ _ => hd2 _ _)
  have b3 := h3 a n ha hn
  have c1 : ((nI (num (d a) (48 * n + 44) 4)).toInt64.toInt32 = nI (cru (d a) (48 * n) 44)) ↔ num (d a) (48 * n + 44) 4 = cru (d a) (48 * n) 44 := by rw [toInt64_32]; exact nI_32 l1 l3
  have c2 : ((nI (num (d a) (48 * n + 4) 4)).toInt64 = (nI n).toInt64) ↔ num (d a) (48 * n + 4) 4 = n := by
    constructor
    · intro h
      have := congrArg Int64.toInt32 h
      rw [toInt64_32, toInt64_32] at this
      exact (nI_32 l2 (by omega)).mp this
    · intro h; rw [h]
  have c3 : (nI (d a (48 * n + 3)) = 1) ↔ ¬ d a (48 * n + 3) = 0 := by
    rw [show (1 : Int32) = nI 1 from rfl, nI_eq (by omega) (by omega)]; omega
  rw [cp_94_0, cf_94_0]
  simp only [e0, e3, e4, e44, ea, g3, q1, q2, q3', c1, c2, c3]
  constructor
  · refine ⟨ib_n ha (by omega), ib_n (by omega) (by omega), fun _ => trivial, fun _ => ⟨ib_n ha (by omega), p1, ib_n ha (by omega), p3', fun _ => ⟨ib_n ha (by omega), p2⟩, fun _ => trivial⟩⟩
  · unfold whl
    generalize num (d a) (48 * n + 44) 4 = x1 at *
    generalize num (d a) (48 * n + 4) 4 = x2 at *
    generalize cru (d a) (48 * n) 44 = x3 at *
    by_cases w0 : d a (48 * n + 3) = 0
    · rw [if_neg (fun w => w w0)]
      by_cases w1 : x1 = x3
      · rw [if_pos w1]
        by_cases w2 : x2 = n
        · rw [if_pos w2]; exact ⟨fun _ => ⟨w0, w1, w2⟩, fun _ => rfl⟩
        · rw [if_neg w2]; exact ⟨(fun w => by cases w), fun w => absurd w.2.2 w2⟩
      · rw [if_neg w1]; exact ⟨(fun w => by cases w), fun w => absurd w.2.1 w1⟩
    · rw [if_pos w0]; exact ⟨(fun w => by cases w), fun w => absurd w.1 w0⟩
theorem kr_c (hd : c_dk d N) (hd2 : ∀ a j, d a j < 256) (h3 : ∀ a n, a < 2 → n < 200 → d a (48 * n + 3) ≤ 1) (ha : a < 2) (hn : n < 200) (hg : g < 2 ^ 32) : cp_97_0 (nI a) (nI n) (nI g) N ∧ (cf_97_0 (nI a) (nI n) (nI g) N = true ↔ krw d a n g) := by
  obtain ⟨p1, q1⟩ := wh_c hd hd2 h3 ha hn
  obtain ⟨p2, q2⟩ := ag_c (a := a) (n := n) hd hd2 ha hn
  have e0 : nI n * 48 = nI (48 * n) := by rw [show (48 : Int32) = nI 48 from rfl, pk_mul, Nat.mul_comm]
  have e1 : nI (48 * n) + 1 = nI (48 * n + 1) := nI_1 _
  have ea : 221 + (nI a).toNatClampNeg = 221 + a := by rw [nI_clamp (by omega)]
  have g0 : mz_gI N (221 + a) (nI (48 * n)) = nI (d a (48 * n)) := by rw [gI_a, nI_clamp (by omega)]; exact hd a ha _ (by omega)
  have g1 : mz_gI N (221 + a) (nI (48 * n + 1)) = nI (d a (48 * n + 1)) := by rw [gI_a, nI_clamp (by omega)]; exact hd a ha _ (by omega)
  have b0 := hd2 a (48 * n)
  have b1 := hd2 a (48 * n + 1)
  obtain ⟨p3, q3⟩ := kyo_c (kd := d a (48 * n)) (ix := d a (48 * n + 1)) (by omega) (by omega)
  have l1 : ag d a n < 2 ^ 32 := ag_lt hd2
  rw [cp_97_0, cf_97_0]
  simp only [e0, e1, ea, g0, g1, q2, q3, nI_32 l1 hg, nO_m1 (show 135 < 2 ^ 31 by omega)]
  refine ⟨⟨p1, fun _ => ⟨p2, fun _ => ⟨ib_n ha (by omega), ib_n (by omega) (by omega), ib_n ha (by omega), ib_n (by omega) (by omega), p3⟩, fun _ => trivial⟩, fun _ => trivial⟩, ?_⟩
  unfold krw
  rw [← q1]
  by_cases w1 : cf_94_0 (nI a) (nI n) N = true
  · rw [if_pos w1]
    by_cases w2 : ag d a n = g
    · rw [if_pos w2]
      by_cases w3 : kyo (d a (48 * n)) (d a (48 * n + 1)) < 135
      · rw [if_neg (fun w => w w3)]; exact ⟨fun _ => ⟨w1, w2, w3⟩, fun _ => rfl⟩
      · rw [if_pos w3]; exact ⟨(fun w => by cases w), fun w => absurd w.2.2 w3⟩
    · rw [if_neg w2]; exact ⟨(fun w => by cases w), fun w => absurd w.2.1 w2⟩
  · rw [if_neg w1]; exact ⟨(fun w => by cases w), fun w => absurd w.1 w1⟩
theorem ls_c (hd : c_dk d N) (hd2 : ∀ a j, d a j < 256) (ha : a < 2) (hn : n < 200) : cp_95_0 (nI a) (nI n) N ∧ (cf_95_0 (nI a) (nI n) N = true ↔ lsr d a n) := by
  have e2 : nI n * 48 + 2 = nI (48 * n + 2) := by rw [show (48 : Int32) = nI 48 from rfl, show (2 : Int32) = nI 2 from rfl, pk_mul, nI_add, Nat.mul_comm]
  have ea : 221 + (nI a).toNatClampNeg = 221 + a := by rw [nI_clamp (by omega)]
  have g2 : mz_gI N (221 + a) (nI (48 * n + 2)) = nI (d a (48 * n + 2)) := by rw [gI_a, nI_clamp (by omega)]; exact hd a ha _ (by omega)
  have b := hd2 a (48 * n + 2)
  rw [cp_95_0, cf_95_0, e2, ea, g2, show (1 : Int32) = nI 1 from rfl]
  refine ⟨⟨ib_n ha (by omega), ib_n (by omega) (by omega)⟩, ?_⟩
  unfold lsr
  by_cases w : d a (48 * n + 2) = 1
  · rw [w, if_pos rfl]; exact ⟨fun _ => rfl, fun _ => rfl⟩
  · rw [if_neg (fun q => w ((nI_eq (by omega) (by omega)).mp q))]; exact ⟨(fun q => by cases q), fun q => absurd q w⟩
theorem sr_c (hd : c_dk d N) (hd2 : ∀ a j, d a j < 256) (h3 : ∀ a n, a < 2 → n < 200 → d a (48 * n + 3) ≤ 1) (ha : a < 2) : cp_93_0 (nI a) N ∧ (gda d a → cf_93_0 (nI a) N = nI (cnn d a)) ∧ (¬ gda d a → cf_93_0 (nI a) N = -1) := by
  obtain ⟨p1, q1⟩ := wh_c (n := 0) hd hd2 h3 ha (by omega)
  obtain ⟨p2, q2⟩ := ls_c (n := 0) hd hd2 ha (by omega)
  obtain ⟨p3, q3⟩ := ag_c (n := 0) hd hd2 ha (by omega)
  rw [nI_0] at p1 q1 p2 q2 p3 q3
  have ea : 221 + (nI a).toNatClampNeg = 221 + a := by rw [nI_clamp (by omega)]
  obtain ⟨p4, q4⟩ := rd4_c (N := N) (a := 221 + a) (n := 9600) (p := 12) (d := d a) (fun i hi => ⟨hd a ha _ (by omega), hd2 _ _⟩) (by omega) (by omega)
  have p4' : cp_61_0 (221 + a) 9600 12 4 N := p4
  have q4' : (cf_61_0 (221 + a) 9600 12 4 N).toInt32 = nI (cnn d a) := by
    have : cf_61_0 (221 + a) 9600 12 4 N = (nI (num (d a) 12 4)).toInt64 := q4
    rw [this, toInt64_32]; rfl
  have g0 : mz_gI N (221 + a) 0 = nI (d a 0) := by rw [gI_a]; exact hd a ha 0 (by omega)
  have g1 : mz_gI N (221 + a) 1 = nI (d a 1) := by rw [gI_a]; exact hd a ha 1 (by omega)
  have b0 := hd2 a 0
  have b1 := hd2 a 1
  have lc : cnn d a < 2 ^ 32 := num_lt (n := 4) (fun _ _ => hd2 _ _)
  have lag : ag d a 0 < 2 ^ 32 := ag_lt hd2
  have hneg : (nI (cnn d a) < 0 ∨ ¬ nI (cnn d a) < 200) ↔ ¬ cnn d a < 200 := by
    have hi : (nI (cnn d a)).toInt = if cnn d a < 2 ^ 31 then (cnn d a : Int) else (cnn d a : Int) - 2 ^ 32 := by
      show (BitVec.ofNat 32 (cnn d a)).toInt = _
      rw [BitVec.toInt_eq_toNat_cond, BitVec.toNat_ofNat, Nat.mod_eq_of_lt lc]
      split <;> split <;> omega
    rw [Int32.lt_iff_toInt_lt, Int32.lt_iff_toInt_lt, hi, show Int32.toInt 0 = 0 by decide, show Int32.toInt 200 = 200 by decide]
    generalize cnn d a = c at *
    split <;> omega
  -- the rows of the snapshot
  have hloop : cnn d a < 200 → cp_93_69 (nI a) (nI (cnn d a)) 1 N ∧ (((∀ n, 1 ≤ n → n ≤ cnn d a → krw d a n (ag d a 0)) ∧ (cnn d a = 0 ∨ lsr d a (cnn d a)) → cf_93_69 (nI a) (nI (cnn d a)) 1 N = nI (cnn d a)) ∧ (¬ ((∀ n, 1 ≤ n → n ≤ cnn d a → krw d a n (ag d a 0)) ∧ (cnn d a = 0 ∨ lsr d a (cnn d a))) → cf_93_69 (nI a) (nI (cnn d a)) 1 N = -1)) := by
    intro hc
    generalize hcc : cnn d a = c at *
    refine mz_lpn (f := cq_93_69 (nI a) (nI c) N) (P := cd_93_69 (nI a) (nI c) N) (Q := fun t => ((∀ n, 1 ≤ n → n ≤ c → krw d a n (ag d a 0)) ∧ (c = 0 ∨ lsr d a c) → t = nI c) ∧ (¬ ((∀ n, 1 ≤ n → n ≤ c → krw d a n (ag d a 0)) ∧ (c = 0 ∨ lsr d a c)) → t = -1)) (c + 1) (fun t s => s = nI t ∧ 1 ≤ t ∧ ∀ n, 1 ≤ n → n < t → krw d a n (ag d a 0)) ?_ ?_ (show 1 ≤ c + 1 by omega) ⟨rfl, Nat.le_refl _, fun n h1 h2 => by omega⟩
    · rintro t s ht ⟨rfl, h1, hk⟩
      obtain ⟨p5, q5⟩ := kr_c (n := t) (g := ag d a 0) hd hd2 h3 ha (by omega) lag
      have hlt : ¬ nI c < nI t := fun w => by have := (nI_ltI (by omega) (by omega)).mp w; omega
      rw [cd_93_69, cq_93_69, q3]
      simp only [hlt, if_false]
      refine ⟨⟨False.elim, fun _ => ⟨p3, p5⟩⟩, ?_⟩
      by_cases w : krw d a t (ag d a 0)
      · rw [if_pos (q5.mpr w), nI_1]
        refine Or.inl ⟨_, rfl, rfl, by omega, fun n h1 h2 => ?_⟩
        by_cases w2 : n = t
        · rw [w2]; exact w
        · exact hk n h1 (by omega)
      · rw [if_neg (fun q => w (q5.mp q))]
        exact Or.inr ⟨_, rfl, fun q => absurd (q.1 t h1 (by omega)) w, fun _ => rfl⟩
    · rintro s ⟨rfl, h1, hk⟩
      have hlt : nI c < nI (c + 1) := (nI_ltI (by omega) (by omega)).mpr (by omega)
      obtain ⟨p6, q6⟩ := ls_c (n := c) hd hd2 ha hc
      have hall : ∀ n, 1 ≤ n → n ≤ c → krw d a n (ag d a 0) := fun n h1 h2 => hk n h1 (by omega)
      rw [cd_93_69, cq_93_69, if_pos hlt]
      refine ⟨⟨fun _ => ⟨fun _ => trivial, fun _ => p6⟩, fun w => absurd hlt w⟩, ?_⟩
      by_cases w0 : c = 0
      · rw [if_pos (by rw [w0]; rfl)]
        exact ⟨_, rfl, fun _ => rfl, fun w => absurd ⟨hall, Or.inl w0⟩ w⟩
      · rw [if_neg (fun q => w0 ((nI_eq0 (by omega)).mp q))]
        by_cases w1 : lsr d a c
        · rw [if_pos (q6.mpr w1)]
          exact ⟨_, rfl, fun _ => rfl, fun w => absurd ⟨hall, Or.inr w1⟩ w⟩
        · rw [if_neg (fun q => w1 (q6.mp q))]
          exact ⟨_, rfl, fun w => by rcases w.2 with y | y; exact absurd y w0; exact absurd y w1, fun _ => rfl⟩
  rw [cp_93_0, cf_93_0]
  simp only [ea, q4', g0, g1]
  have i1 := ib_n ha (show 2 < 2 ^ 31 by omega)
  refine ⟨⟨i1, p4', p1, fun _ => ⟨i1, fun _ => ⟨i1, fun _ => ⟨p2, fun _ => ⟨fun _ => trivial, fun w1 => ⟨fun w2 => ?_, fun _ => trivial⟩⟩, fun _ => trivial⟩, fun _ => trivial⟩, fun _ => trivial⟩, fun _ => trivial⟩, ?_, ?_⟩
  · refine (hloop ?_).1
    rcases Nat.lt_or_ge (cnn d a) 200 with y | y
    · exact y
    · rcases hneg.mpr (by omega) with z | z
      · exact absurd z w1
      · exact absurd w2 z
  · rintro ⟨w1, w2, w3, w4, w5, w6, w7⟩
    have hn1 : ¬ nI (cnn d a) < 0 := fun z => (hneg.mp (Or.inl z)) w5
    have hn2 : nI (cnn d a) < 200 := Classical.byContradiction fun z => (hneg.mp (Or.inr z)) w5
    rw [if_pos (q1.mpr w1), if_pos (by rw [w2]; rfl), if_pos (by rw [w3]; rfl), if_pos (q2.mpr (by unfold lsr; exact w4)), if_neg hn1, if_pos hn2]
    exact (hloop w5).2.1 ⟨w6, w7⟩
  · intro hng
    by_cases w1 : whl d a 0
    · rw [if_pos (q1.mpr w1)]
      by_cases w2 : d a 0 = 0
      · rw [if_pos (by rw [w2]; rfl)]
        by_cases w3 : d a 1 = 0
        · rw [if_pos (by rw [w3]; rfl)]
          by_cases w4 : lsr d a 0
          · rw [if_pos (q2.mpr w4)]
            by_cases w5 : cnn d a < 200
            · have hn1 : ¬ nI (cnn d a) < 0 := fun z => (hneg.mp (Or.inl z)) w5
              have hn2 : nI (cnn d a) < 200 := Classical.byContradiction fun z => (hneg.mp (Or.inr z)) w5
              rw [if_neg hn1, if_pos hn2]
              exact (hloop w5).2.2 (fun w => hng ⟨w1, w2, w3, w4, w5, w.1, w.2⟩)
            · rcases hneg.mpr w5 with z | z
              · rw [if_pos z]
              · by_cases z2 : nI (cnn d a) < 0
                · rw [if_pos z2]
                · rw [if_neg z2, if_neg z]
          · rw [if_neg (fun q => w4 (q2.mp q))]
        · rw [if_neg (fun q => w3 ((nI_eq0 (by omega)).mp q))]
      · rw [if_neg (fun q => w2 ((nI_eq0 (by omega)).mp q))]
    · rw [if_neg (fun q => w1 (q1.mp q))]
end Opn
