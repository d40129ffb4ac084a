/-! PURE (50zzzzzzza): put: the class judges a key (388). -/
theorem ite_tf {P : Prop} [Decidable P] {c : Bool} : ((if P then c else false) = true) ↔ (P ∧ c = true) := by
  by_cases h : P
  · rw [if_pos h]; exact ⟨fun z => ⟨h, z⟩, fun z => z.2⟩
  · rw [if_neg h]; exact ⟨(fun z => by cases z), fun z => absurd z.1 h⟩
theorem ite_tt {P : Prop} [Decidable P] : ((if P then true else false) = true) ↔ P := by
  by_cases h : P
  · rw [if_pos h]; exact ⟨fun _ => h, fun _ => rfl⟩
  · rw [if_neg h]; exact ⟨(fun z => by cases z), fun z => absurd z h⟩
theorem ite_ft {P : Prop} [Decidable P] {c : Bool} : ((if P then false else c) = true) ↔ (¬ P ∧ c = true) := by
  by_cases h : P
  · rw [if_pos h]; exact ⟨(fun z => by cases z), fun z => absurd h z.1⟩
  · rw [if_neg h]; exact ⟨fun z => ⟨h, z⟩, fun z => z.2⟩
def lgA1 (g : Nat → Nat) : Prop := (∀ t, 0 ≤ t → t < 110 → (ge_sd t < 4 → 2 ≤ g (t / 4) >>> (2 * (t % 4)) % 2 ^ 2)) ∧ g 27 < 16
def lg2 (g : Nat → Nat) : Prop := (∀ t, 0 ≤ t → t < 48 → (g (t / 2) >>> (4 * (t % 2)) % 2 ^ 4 < 10 ∨ g (t / 2) >>> (4 * (t % 2)) % 2 ^ 4 = 15)) ∧ blk g 24
def lg3 (g : Nat → Nat) (B : Nat) : Prop := (∀ t, 0 ≤ t → t < 24 → g t ≤ B) ∧ blk g 24
def lg4 (g : Nat → Nat) : Prop := (∀ t, 0 ≤ t → t < 12 → cf_393_0 (qv2 g (2 * t)) (-400) 500 = true) ∧ blk g 24
def lg7 (ix : Nat) (g : Nat → Nat) : Prop := if ix = 0 then (∀ t, 0 ≤ t → t < 11 → cf_393_0 (qv2 g (2 * t)) 1 500 = true) ∧ blk g 22 else (∀ t, 0 ≤ t → t < 11 → g t ≤ 9) ∧ blk g 11
def mny (g : Nat → Nat) (p : Nat) : Prop := cf_393_0 (qv8 g p) (-1000000000000000) 1000000000000000 = true
def in4 (g : Nat → Nat) (p : Nat) (lo hi : Int64) : Prop := cf_393_0 (qv4 g p) lo hi = true
def lg8 (g : Nat → Nat) : Prop := mny g 0 ∧ mny g 8 ∧ in4 g 16 0 100000000 ∧ in4 g 20 0 100000000 ∧ in4 g 24 0 100000000
def lg9 (g : Nat → Nat) : Prop := in4 g 0 0 1000000 ∧ mny g 4 ∧ mny g 12 ∧ in4 g 20 0 100000000 ∧ in4 g 24 0 100000000
def lg10 (g : Nat → Nat) : Prop := (∀ t, 0 ≤ t → t < 4 → in4 g (8 + 4 * t) 0 (nI (if t = 0 then 20000 else 1000)).toInt64) ∧ in4 g 0 0 100000000 ∧ in4 g 4 0 100000000 ∧ blk g 24
def lg11 (g : Nat → Nat) : Prop := in4 g 0 1 100000 ∧ in4 g 4 0 100000000 ∧ in4 g 8 0 99 ∧ g 12 < 2 ∧ blk g 13
def lg12 (g : Nat → Nat) : Prop := if g 0 = 0 then blk g 0 else g 0 = 1 ∧ g 1 < 5 ∧ g 2 < 48 ∧ g 3 ≤ 3 ∧ in4 g 4 0 2000000 ∧ in4 g 8 0 1000000000 ∧ blk g 12
def lg13 (g : Nat → Nat) : Prop := g 0 = 1 ∧ g 1 < 5 ∧ g 2 < 110 ∧ (g 1 = 0 ∨ ¬ ge_sd (g 2) < 4) ∧ blk g 3
def lg14 (g : Nat → Nat) : Prop := g 0 = 1 ∧ g 1 < 24 ∧ g 2 < 24 ∧ g 3 < 2 ∧ in4 g 4 0 1048575 ∧ blk g 8
def lg15 (g : Nat → Nat) : Prop := g 0 = 1 ∧ cf_558_0 (nI (g 1)) (nI (g 2)) = true ∧ blk g 3
def lgk (kd ix : Nat) (g : Nat → Nat) : Prop := if kd = 1 then lgA1 g else if kd = 2 then lg2 g else if kd = 3 then lg3 g 20 else if kd = 4 then lg4 g else if kd = 5 then lg3 g 200 else if kd = 6 then True else if kd = 7 then lg7 ix g else if kd = 8 then lg8 g else if kd = 9 then lg9 g else if kd = 10 then lg10 g else if kd = 11 then lg11 g else if kd = 12 then lg12 g else if kd = 13 then lg13 g else if kd = 14 then lg14 g else lg15 g
section Lc
variable {N : mz_N} {g : Nat → Nat} {k ix : Nat}
theorem c_l1 (hc : ∀ j, j < 28 → N.1 230 (28 * k + j) = nI (g j)) (hg : ∀ j, g j < 256) (hk : k < 135) : cp_389_0 (nI (28 * k)) N ∧ (cf_389_0 (nI (28 * k)) N = true ↔ lgA1 g) := by
  rw [cp_389_0, cf_389_0, cp_389_2, cf_389_2]
  obtain ⟨a1, a2, a3⟩ := lp_allc (f := cq_389_2 (nI (28 * k)) N) (P := cd_389_2 (nI (28 * k)) N) (rT := decide (g 27 < 16)) (rF := false) 0 110 (fun t => ge_sd t < 4 → 2 ≤ g (t / 4) >>> (2 * (t % 4)) % 2 ^ 2) (by omega) (fun t h1 h2 => by
    have l : nI t < 110 := (nI_ltI (b := 110) (by omega) (by omega)).mpr h2
    have e4 : nI t / 4 = nI (t / 4) := by rw [show (4 : Int32) = nI 4 from rfl, pk_div (by omega) (by omega) (by omega)]
    have e5 : 2 * mz_irem (nI t) 4 = nI (2 * (t % 4)) := by rw [show (4 : Int32) = nI 4 from rfl, show (2 : Int32) = nI 2 from rfl, irem_n (by omega) (by omega) (by omega), pk_mul]
    obtain ⟨b1', b2⟩ := c_by (p := t / 4) hc hk (by omega)
    have e6 : nI (28 * k) + nI (t / 4) = nI (28 * k + t / 4) := nI_add _ _
    have e7 := ex_3 (g (t / 4)) (hg _) (2 * (t % 4)) (by omega)
    have sd : cf_21_0 (nI t) = nO 4 (ge_sd t) := (ge_e t h2).2.2.2.2.1
    have x4 : g (t / 4) >>> (2 * (t % 4)) % 2 ^ 2 < 4 := Nat.mod_lt _ (by omega)
    rw [cd_389_2, cq_389_2]
    simp only [l, if_true, e4, e5, e6, b2, e7, nI_1, cf_109_0, sd]
    refine ⟨⟨fun _ => b1', fun z => absurd trivial z⟩, fun w => ?_, fun w => ?_⟩
    · by_cases y : ge_sd t < 4
      · rw [nO_lt y, if_neg (nI_neg2 (by omega)).1]
        have w' := w y
        rcases (show g (t / 4) >>> (2 * (t % 4)) % 2 ^ 2 = 2 ∨ g (t / 4) >>> (2 * (t % 4)) % 2 ^ 2 = 3 by omega) with v | v <;> rw [v] <;> rfl
      · rw [nO_ge y]; rfl
    · have y : ge_sd t < 4 := by
        by_cases y : ge_sd t < 4
        · exact y
        · exact absurd (fun z => absurd z y) w
      have w' : ¬ 2 ≤ g (t / 4) >>> (2 * (t % 4)) % 2 ^ 2 := fun z => w (fun _ => z)
      rw [nO_lt y, if_neg (nI_neg2 (by omega)).1]
      rcases (show g (t / 4) >>> (2 * (t % 4)) % 2 ^ 2 = 0 ∨ g (t / 4) >>> (2 * (t % 4)) % 2 ^ 2 = 1 by omega) with v | v <;> rw [v] <;> rfl) (by
    have l : ¬ nI 110 < 110 := by decide
    obtain ⟨b1', b2⟩ := c_by (p := 27) hc hk (by omega)
    have e6 : nI (28 * k) + 27 = nI (28 * k + 27) := nI_add _ _
    have g27 := hg 27
    have q : (nI (g 27) < 16) = (g 27 < 16) := propext (nI_ltI (b := 16) (by omega) (by omega))
    rw [cd_389_2, cq_389_2]
    simp only [l, if_false, e6, b2, q]
    refine ⟨⟨False.elim, fun _ => b1'⟩, ?_⟩
    by_cases w : g 27 < 16
    · rw [if_pos w, decide_eq_true w]
    · rw [if_neg w, decide_eq_false w])
  refine ⟨a1, iff_b (fun h => ?_) (fun h => ?_)⟩
  · have := a2 h.1
    exact this.trans (decide_eq_true h.2)
  · by_cases w : ∀ t, 0 ≤ t → t < 110 → (ge_sd t < 4 → 2 ≤ g (t / 4) >>> (2 * (t % 4)) % 2 ^ 2)
    · exact (a2 w).trans (decide_eq_false (fun z => h ⟨w, z⟩))
    · exact a3 w
theorem c_l2 (hc : ∀ j, j < 28 → N.1 230 (28 * k + j) = nI (g j)) (hg : ∀ j, g j < 256) (hk : k < 135) : cp_390_0 (nI (28 * k)) N ∧ (cf_390_0 (nI (28 * k)) N = true ↔ lg2 g) := by
  obtain ⟨d1, d2⟩ := c_blk (p := 24) hc hg hk (by omega)
  have d1' : cp_75_0 230 (nI (28 * k)) 24 N := d1
  have d2' : cf_75_0 230 (nI (28 * k)) 24 N = true ↔ blk g 24 := d2
  rw [cp_390_0, cf_390_0, cp_390_2, cf_390_2]
  obtain ⟨a1, a2, a3⟩ := lp_allc (f := cq_390_2 (nI (28 * k)) N) (P := cd_390_2 (nI (28 * k)) N) (rT := cf_75_0 230 (nI (28 * k)) 24 N) (rF := false) 0 48 (fun t => g (t / 2) >>> (4 * (t % 2)) % 2 ^ 4 < 10 ∨ g (t / 2) >>> (4 * (t % 2)) % 2 ^ 4 = 15) (by omega) (fun t h1 h2 => by
    have l : nI t < 48 := (nI_ltI (b := 48) (by omega) (by omega)).mpr h2
    have e4 : nI t / 2 = nI (t / 2) := by rw [show (2 : Int32) = nI 2 from rfl, pk_div (by omega) (by omega) (by omega)]
    have e5 : 4 * mz_irem (nI t) 2 = nI (4 * (t % 2)) := by rw [show (4 : Int32) = nI 4 from rfl, show (2 : Int32) = nI 2 from rfl, irem_n (by omega) (by omega) (by omega), pk_mul]
    obtain ⟨b1', b2⟩ := c_by (p := t / 2) hc hk (by omega)
    have e6 : nI (28 * k) + nI (t / 2) = nI (28 * k + t / 2) := nI_add _ _
    have e7 := ex_15 (g (t / 2)) (hg _) (4 * (t % 2)) (by omega)
    have x4 : g (t / 2) >>> (4 * (t % 2)) % 2 ^ 4 < 16 := Nat.mod_lt _ (by omega)
    rw [cd_390_2, cq_390_2]
    simp only [l, if_true, e4, e5, e6, b2, e7, nI_1]
    generalize g (t / 2) >>> (4 * (t % 2)) % 2 ^ 4 = y at x4
    have F := (show ∀ y, y < 16 → (cf_170_0 (nI y) = true ↔ (y < 10 ∨ y = 15)) by decide) y x4
    refine ⟨⟨fun _ => ⟨b1', (flat_in _).1⟩, fun z => absurd trivial z⟩, fun w => by rw [if_pos (F.mpr w)], fun w => by rw [if_neg (fun z => w (F.mp z))]⟩) (by
    have l : ¬ nI 48 < 48 := by decide
    rw [cd_390_2, cq_390_2]
    simp only [l, if_false]
    exact ⟨⟨False.elim, fun _ => d1'⟩, trivial⟩)
  refine ⟨a1, iff_b (fun h => (a2 h.1).trans (d2'.mpr h.2)) (fun h => ?_)⟩
  by_cases w : ∀ t, 0 ≤ t → t < 48 → (g (t / 2) >>> (4 * (t % 2)) % 2 ^ 4 < 10 ∨ g (t / 2) >>> (4 * (t % 2)) % 2 ^ 4 = 15)
  · refine (a2 w).trans ?_
    cases e : cf_75_0 230 (nI (28 * k)) 24 N with
    | true => exact absurd ⟨w, d2'.mp e⟩ h
    | false => rfl
  · exact a3 w
theorem c_l3 {B : Nat} (hB : B < 256) (hc : ∀ j, j < 28 → N.1 230 (28 * k + j) = nI (g j)) (hg : ∀ j, g j < 256) (hk : k < 135) : cp_391_0 (nI (28 * k)) (nI B) N ∧ (cf_391_0 (nI (28 * k)) (nI B) N = true ↔ lg3 g B) := by
  obtain ⟨d1, d2⟩ := c_blk (p := 24) hc hg hk (by omega)
  have d1' : cp_75_0 230 (nI (28 * k)) 24 N := d1
  have d2' : cf_75_0 230 (nI (28 * k)) 24 N = true ↔ blk g 24 := d2
  rw [cp_391_0, cf_391_0, cp_391_2, cf_391_2]
  obtain ⟨a1, a2, a3⟩ := lp_allc (f := cq_391_2 (nI (28 * k)) (nI B) N) (P := cd_391_2 (nI (28 * k)) (nI B) N) (rT := cf_75_0 230 (nI (28 * k)) 24 N) (rF := false) 0 24 (fun t => g t ≤ B) (by omega) (fun t h1 h2 => by
    have l : nI t < 24 := (nI_ltI (b := 24) (by omega) (by omega)).mpr h2
    obtain ⟨b1', b2⟩ := c_by (p := t) hc hk (by omega)
    have e6 : nI (28 * k) + nI t = nI (28 * k + t) := nI_add _ _
    have gt := hg t
    have q : (nI B < nI (g t)) = (B < g t) := propext (nI_ltI (by omega) (by omega))
    rw [cd_391_2, cq_391_2]
    simp only [l, if_true, e6, b2, q, nI_1]
    exact ⟨⟨fun _ => b1', fun z => absurd trivial z⟩, fun w => by rw [if_neg (by omega)], fun w => by rw [if_pos (by omega)]⟩) (by
    have l : ¬ nI 24 < 24 := by decide
    rw [cd_391_2, cq_391_2]
    simp only [l, if_false]
    exact ⟨⟨False.elim, fun _ => d1'⟩, trivial⟩)
  refine ⟨a1, iff_b (fun h => (a2 h.1).trans (d2'.mpr h.2)) (fun h => ?_)⟩
  by_cases w : ∀ t, 0 ≤ t → t < 24 → g t ≤ B
  · refine (a2 w).trans ?_
    cases e : cf_75_0 230 (nI (28 * k)) 24 N with
    | true => exact absurd ⟨w, d2'.mp e⟩ h
    | false => rfl
  · exact a3 w
theorem c_l4 (hc : ∀ j, j < 28 → N.1 230 (28 * k + j) = nI (g j)) (hg : ∀ j, g j < 256) (hk : k < 135) : cp_392_0 (nI (28 * k)) N ∧ (cf_392_0 (nI (28 * k)) N = true ↔ lg4 g) := by
  obtain ⟨d1, d2⟩ := c_blk (p := 24) hc hg hk (by omega)
  have d1' : cp_75_0 230 (nI (28 * k)) 24 N := d1
  have d2' : cf_75_0 230 (nI (28 * k)) 24 N = true ↔ blk g 24 := d2
  rw [cp_392_0, cf_392_0, cp_392_2, cf_392_2]
  obtain ⟨a1, a2, a3⟩ := lp_allc (f := cq_392_2 (nI (28 * k)) N) (P := cd_392_2 (nI (28 * k)) N) (rT := cf_75_0 230 (nI (28 * k)) 24 N) (rF := false) 0 12 (fun t => cf_393_0 (qv2 g (2 * t)) (-400) 500 = true) (by omega) (fun t h1 h2 => by
    have l : nI t < 12 := (nI_ltI (b := 12) (by omega) (by omega)).mpr h2
    obtain ⟨b1', b2⟩ := c_r2 (p := 2 * t) hc hg hk (by omega)
    have e6 : nI (28 * k) + 2 * nI t = nI (28 * k + 2 * t) := by rw [show (2 : Int32) = nI 2 from rfl, pk_mul, nI_add]
    rw [cd_392_2, cq_392_2]
    simp only [l, if_true, e6, b2, nI_1]
    exact ⟨⟨fun _ => b1', fun z => absurd trivial z⟩, fun w => by rw [if_pos w], fun w => by rw [if_neg w]⟩) (by
    have l : ¬ nI 12 < 12 := by decide
    rw [cd_392_2, cq_392_2]
    simp only [l, if_false]
    exact ⟨⟨False.elim, fun _ => d1'⟩, trivial⟩)
  refine ⟨a1, iff_b (fun h => (a2 h.1).trans (d2'.mpr h.2)) (fun h => ?_)⟩
  by_cases w : ∀ t, 0 ≤ t → t < 12 → cf_393_0 (qv2 g (2 * t)) (-400) 500 = true
  · refine (a2 w).trans ?_
    cases e : cf_75_0 230 (nI (28 * k)) 24 N with
    | true => exact absurd ⟨w, d2'.mp e⟩ h
    | false => rfl
  · exact a3 w
theorem c_l7 (hx : ix < 40) (hc : ∀ j, j < 28 → N.1 230 (28 * k + j) = nI (g j)) (hg : ∀ j, g j < 256) (hk : k < 135) : cp_394_0 (nI ix) (nI (28 * k)) N ∧ (cf_394_0 (nI ix) (nI (28 * k)) N = true ↔ lg7 ix g) := by
  unfold lg7
  rw [cp_394_0, cf_394_0, cp_394_2, cf_394_2]
  by_cases w0 : ix = 0
  · obtain ⟨d1, d2⟩ := c_blk (p := 22) hc hg hk (by omega)
    have d1' : cp_75_0 230 (nI (28 * k)) 22 N := d1
    have d2' : cf_75_0 230 (nI (28 * k)) 22 N = true ↔ blk g 22 := d2
    have z0 : nI ix = 0 := by rw [w0]; rfl
    rw [if_pos w0, z0]
    obtain ⟨a1, a2, a3⟩ := lp_allc (f := cq_394_2 0 (nI (28 * k)) N) (P := cd_394_2 0 (nI (28 * k)) N) (rT := cf_75_0 230 (nI (28 * k)) 22 N) (rF := false) 0 11 (fun t => cf_393_0 (qv2 g (2 * t)) 1 500 = true) (by omega) (fun t h1 h2 => by
      have l : nI t < 11 := (nI_ltI (b := 11) (by omega) (by omega)).mpr h2
      obtain ⟨b1', b2⟩ := c_r2 (p := 2 * t) hc hg hk (by omega)
      have e6 : nI (28 * k) + 2 * nI t = nI (28 * k + 2 * t) := by rw [show (2 : Int32) = nI 2 from rfl, pk_mul, nI_add]
      rw [cd_394_2, cq_394_2]
      simp only [l, if_true, e6, b2, nI_1, cf_394_47]
      exact ⟨⟨fun _ => ⟨fun _ => ⟨b1', trivial⟩, fun z => absurd trivial z⟩, fun z => absurd trivial z⟩, fun w => by rw [if_pos w], fun w => by rw [if_neg w]⟩) (by
      have l : ¬ nI 11 < 11 := by decide
      rw [cd_394_2, cq_394_2]
      simp only [l, if_false, if_true, cf_394_75]
      exact ⟨⟨False.elim, fun _ => ⟨fun _ => d1', fun z => absurd trivial z⟩⟩, trivial⟩)
    refine ⟨a1, iff_b (fun h => (a2 h.1).trans (d2'.mpr h.2)) (fun h => ?_)⟩
    by_cases w : ∀ t, 0 ≤ t → t < 11 → cf_393_0 (qv2 g (2 * t)) 1 500 = true
    · refine (a2 w).trans ?_
      cases e : cf_75_0 230 (nI (28 * k)) 22 N with
      | true => exact absurd ⟨w, d2'.mp e⟩ h
      | false => rfl
    · exact a3 w
  · obtain ⟨d1, d2⟩ := c_blk (p := 11) hc hg hk (by omega)
    have d1' : cp_75_0 230 (nI (28 * k)) 11 N := d1
    have d2' : cf_75_0 230 (nI (28 * k)) 11 N = true ↔ blk g 11 := d2
    have z0 : ¬ nI ix = 0 := fun z => w0 ((nI_eq0 (by omega)).mp z)
    rw [if_neg w0]
    obtain ⟨a1, a2, a3⟩ := lp_allc (f := cq_394_2 (nI ix) (nI (28 * k)) N) (P := cd_394_2 (nI ix) (nI (28 * k)) N) (rT := cf_75_0 230 (nI (28 * k)) 11 N) (rF := false) 0 11 (fun t => g t ≤ 9) (by omega) (fun t h1 h2 => by
      have l : nI t < 11 := (nI_ltI (b := 11) (by omega) (by omega)).mpr h2
      obtain ⟨b1', b2⟩ := c_by (p := t) hc hk (by omega)
      have e6 : nI (28 * k) + nI t = nI (28 * k + t) := nI_add _ _
      have gt := hg t
      have q : (9 < nI (g t)) = (9 < g t) := propext (nI_ltI (a := 9) (by omega) (by omega))
      rw [cd_394_2, cq_394_2]
      simp only [l, if_true, z0, if_false, e6, b2, q, nI_1, cf_394_47]
      refine ⟨⟨fun _ => ⟨False.elim, fun _ => ⟨b1', fun _ => trivial, fun _ => trivial⟩⟩, fun z => absurd trivial z⟩, fun w => by rw [if_neg (by omega)], fun w => by rw [if_pos (by omega)]; rfl⟩) (by
      have l : ¬ nI 11 < 11 := by decide
      rw [cd_394_2, cq_394_2]
      simp only [l, if_false, z0, cf_394_75]
      exact ⟨⟨False.elim, fun _ => ⟨False.elim, fun _ => d1'⟩⟩, trivial⟩)
    refine ⟨a1, iff_b (fun h => (a2 h.1).trans (d2'.mpr h.2)) (fun h => ?_)⟩
    by_cases w : ∀ t, 0 ≤ t → t < 11 → g t ≤ 9
    · refine (a2 w).trans ?_
      cases e : cf_75_0 230 (nI (28 * k)) 11 N with
      | true => exact absurd ⟨w, d2'.mp e⟩ h
      | false => rfl
    · exact a3 w
theorem c_l8 (hc : ∀ j, j < 28 → N.1 230 (28 * k + j) = nI (g j)) (hg : ∀ j, g j < 256) (hk : k < 135) : cp_395_0 (nI (28 * k)) N ∧ (cf_395_0 (nI (28 * k)) N = true ↔ lg8 g) := by
  have e8 : nI (28 * k) + 8 = nI (28 * k + 8) := nI_add _ _
  have e16 : nI (28 * k) + 16 = nI (28 * k + 16) := nI_add _ _
  have e20 : nI (28 * k) + 20 = nI (28 * k + 20) := nI_add _ _
  have e24 : nI (28 * k) + 24 = nI (28 * k + 24) := nI_add _ _
  obtain ⟨a1, a2⟩ := c_r8 (p := 0) hc hg hk (by omega)
  rw [Nat.add_zero] at a1 a2
  obtain ⟨b1', b2⟩ := c_r8 (p := 8) hc hg hk (by omega)
  obtain ⟨c1, c2⟩ := c_r4 (p := 16) hc hg hk (by omega)
  obtain ⟨d1, d2⟩ := c_r4 (p := 20) hc hg hk (by omega)
  obtain ⟨f1, f2⟩ := c_r4 (p := 24) hc hg hk (by omega)
  refine ⟨by simp [cp_395_0, cp_396_0, cp_397_0, e8, e16, e20, e24, a1, b1', c1, d1, f1], ?_⟩
  simp only [cf_395_0, cf_396_0, cf_397_0, e8, e16, e20, e24, a2, b2, c2, d2, f2, ite_tf, ite_tt, and_true]
  exact Iff.rfl
theorem c_l9 (hc : ∀ j, j < 28 → N.1 230 (28 * k + j) = nI (g j)) (hg : ∀ j, g j < 256) (hk : k < 135) : cp_398_0 (nI (28 * k)) N ∧ (cf_398_0 (nI (28 * k)) N = true ↔ lg9 g) := by
  have e4 : nI (28 * k) + 4 = nI (28 * k + 4) := nI_add _ _
  have e12 : nI (28 * k) + 12 = nI (28 * k + 12) := nI_add _ _
  have e20 : nI (28 * k) + 20 = nI (28 * k + 20) := nI_add _ _
  have e24 : nI (28 * k) + 24 = nI (28 * k + 24) := nI_add _ _
  obtain ⟨a1, a2⟩ := c_r4 (p := 0) hc hg hk (by omega)
  rw [Nat.add_zero] at a1 a2
  obtain ⟨b1', b2⟩ := c_r8 (p := 4) hc hg hk (by omega)
  obtain ⟨c1, c2⟩ := c_r8 (p := 12) hc hg hk (by omega)
  obtain ⟨d1, d2⟩ := c_r4 (p := 20) hc hg hk (by omega)
  obtain ⟨f1, f2⟩ := c_r4 (p := 24) hc hg hk (by omega)
  refine ⟨by simp [cp_398_0, cp_396_0, cp_397_0, e4, e12, e20, e24, a1, b1', c1, d1, f1], ?_⟩
  simp only [cf_398_0, cf_396_0, cf_397_0, e4, e12, e20, e24, a2, b2, c2, d2, f2, ite_tf, ite_tt, and_true]
  exact Iff.rfl
theorem c_l10 (hc : ∀ j, j < 28 → N.1 230 (28 * k + j) = nI (g j)) (hg : ∀ j, g j < 256) (hk : k < 135) : cp_399_0 (nI (28 * k)) N ∧ (cf_399_0 (nI (28 * k)) N = true ↔ lg10 g) := by
  obtain ⟨d1, d2⟩ := c_blk (p := 24) hc hg hk (by omega)
  have d1' : cp_75_0 230 (nI (28 * k)) 24 N := d1
  have d2' : cf_75_0 230 (nI (28 * k)) 24 N = true ↔ blk g 24 := d2
  have e4 : nI (28 * k) + 4 = nI (28 * k + 4) := nI_add _ _
  obtain ⟨f1, f2⟩ := c_r4 (p := 0) hc hg hk (by omega)
  rw [Nat.add_zero] at f1 f2
  obtain ⟨g1, g2⟩ := c_r4 (p := 4) hc hg hk (by omega)
  rw [cp_399_0, cf_399_0, cp_399_2, cf_399_2]
  obtain ⟨a1, a2, a3⟩ := lp_allc (f := cq_399_2 (nI (28 * k)) N) (P := cd_399_2 (nI (28 * k)) N) (rT := if cf_393_0 (qv4 g 0) 0 100000000 = true then (if cf_393_0 (qv4 g 4) 0 100000000 = true then (if cf_75_0 230 (nI (28 * k)) 24 N = true then true else false) else false) else false) (rF := false) 0 4 (fun t => in4 g (8 + 4 * t) 0 (nI (if t = 0 then 20000 else 1000)).toInt64) (by omega) (fun t h1 h2 => by
    have l : nI t < 4 := (nI_ltI (b := 4) (by omega) (by omega)).mpr h2
    obtain ⟨b1', b2⟩ := c_r4 (p := 8 + 4 * t) hc hg hk (by omega)
    have e6 : nI (28 * k) + 8 + 4 * nI t = nI (28 * k + (8 + 4 * t)) := by rw [show (8 : Int32) = nI 8 from rfl, show (4 : Int32) = nI 4 from rfl, pk_mul, nI_add, nI_add]; congr 1; omega
    have e7 : cf_182_0 (nI t) = nI (if t = 0 then 20000 else 1000) := by
      rw [cf_182_0]
      by_cases w : t = 0
      · rw [if_pos (by rw [w]; rfl), if_pos w]; rfl
      · rw [if_neg (fun z => w ((nI_eq0 (by omega)).mp z)), if_neg w]; rfl
    rw [cd_399_2, cq_399_2]
    simp only [l, if_true, e6, b2, e7, nI_1]
    exact ⟨⟨fun _ => b1', fun z => absurd trivial z⟩, fun w => if_pos w, fun w => if_neg w⟩) (by
    have l : ¬ nI 4 < 4 := by decide
    rw [cd_399_2, cq_399_2]
    simp only [l, if_false, cf_397_0, cp_397_0, e4, f2, g2]
    refine ⟨⟨False.elim, fun _ => ⟨f1, fun _ => ⟨g1, fun _ => d1', fun _ => trivial⟩, fun _ => trivial⟩⟩, ?_⟩
    split
    · split
      · split <;> rfl
      · rfl
    · rfl)
  refine ⟨a1, ?_⟩
  unfold lg10
  by_cases w : ∀ t, 0 ≤ t → t < 4 → in4 g (8 + 4 * t) 0 (nI (if t = 0 then 20000 else 1000)).toInt64
  · have e := a2 w
    rw [show mz_run (cq_399_2 (nI (28 * k)) N) 0 = _ from e]
    simp only [ite_tf, ite_tt, d2', and_true]
    exact ⟨fun z => ⟨w, z⟩, fun z => z.2⟩
  · have e := a3 w
    rw [show mz_run (cq_399_2 (nI (28 * k)) N) 0 = _ from e]
    exact ⟨(fun z => by cases z), fun z => absurd z.1 w⟩
end Lc
section Lc2
variable {N : mz_N} {g : Nat → Nat} {k ix : Nat}
theorem c_l11 (hc : ∀ j, j < 28 → N.1 230 (28 * k + j) = nI (g j)) (hg : ∀ j, g j < 256) (hk : k < 135) : cp_400_0 (nI (28 * k)) N ∧ (cf_400_0 (nI (28 * k)) N = true ↔ lg11 g) := by
  have e4 : nI (28 * k) + 4 = nI (28 * k + 4) := nI_add _ _
  have e8 : nI (28 * k) + 8 = nI (28 * k + 8) := nI_add _ _
  have e12 : nI (28 * k) + 12 = nI (28 * k + 12) := nI_add _ _
  obtain ⟨a1, a2⟩ := c_r4 (p := 0) hc hg hk (by omega)
  rw [Nat.add_zero] at a1 a2
  obtain ⟨b1', b2⟩ := c_r4 (p := 4) hc hg hk (by omega)
  obtain ⟨c1, c2⟩ := c_r4 (p := 8) hc hg hk (by omega)
  obtain ⟨d1, d2⟩ := c_by (p := 12) hc hk (by omega)
  obtain ⟨f1, f2⟩ := c_blk (p := 13) hc hg hk (by omega)
  have f1' : cp_75_0 230 (nI (28 * k)) 13 N := f1
  have f2' : cf_75_0 230 (nI (28 * k)) 13 N = true ↔ blk g 13 := f2
  have g12 := hg 12
  have q : (nI (g 12) < 2) = (g 12 < 2) := propext (nI_ltI (b := 2) (by omega) (by omega))
  refine ⟨by simp [cp_400_0, e4, e8, e12, a1, b1', c1, d1, f1'], ?_⟩
  simp only [cf_400_0, e4, e8, e12, a2, b2, c2, d2, q, ite_tf, ite_tt, f2', and_true]
  exact Iff.rfl
theorem c_l12 (hc : ∀ j, j < 28 → N.1 230 (28 * k + j) = nI (g j)) (hg : ∀ j, g j < 256) (hk : k < 135) : cp_401_0 (nI (28 * k)) N ∧ (cf_401_0 (nI (28 * k)) N = true ↔ lg12 g) := by
  have e1 : nI (28 * k) + 1 = nI (28 * k + 1) := nI_1 _
  have e2 : nI (28 * k) + 2 = nI (28 * k + 2) := nI_add _ _
  have e3 : nI (28 * k) + 3 = nI (28 * k + 3) := nI_add _ _
  have e4 : nI (28 * k) + 4 = nI (28 * k + 4) := nI_add _ _
  have e8 : nI (28 * k) + 8 = nI (28 * k + 8) := nI_add _ _
  obtain ⟨z1, z2⟩ := c_by (p := 0) hc hk (by omega)
  rw [Nat.add_zero] at z1 z2
  obtain ⟨y1, y2⟩ := c_by (p := 1) hc hk (by omega)
  obtain ⟨x1, x2⟩ := c_by (p := 2) hc hk (by omega)
  obtain ⟨w1, w2⟩ := c_by (p := 3) hc hk (by omega)
  obtain ⟨b1', b2⟩ := c_r4 (p := 4) hc hg hk (by omega)
  obtain ⟨c1, c2⟩ := c_r4 (p := 8) hc hg hk (by omega)
  obtain ⟨f1, f2⟩ := c_blk (p := 12) hc hg hk (by omega)
  have f1' : cp_75_0 230 (nI (28 * k)) 12 N := f1
  have f2' : cf_75_0 230 (nI (28 * k)) 12 N = true ↔ blk g 12 := f2
  obtain ⟨h1, h2⟩ := c_blk (p := 0) hc hg hk (by omega)
  have h1' : cp_75_0 230 (nI (28 * k)) 0 N := h1
  have h2' : cf_75_0 230 (nI (28 * k)) 0 N = true ↔ blk g 0 := h2
  have g0 := hg 0
  have g1 := hg 1
  have g2 := hg 2
  have g3 := hg 3
  have q0 : (nI (g 0) = 0) = (g 0 = 0) := propext (nI_eq0 (by omega))
  have q1 : (nI (g 0) = 1) = (g 0 = 1) := propext (nI_eq (b := 1) (by omega) (by omega))
  have q2 : (nI (g 1) < 5) = (g 1 < 5) := propext (nI_ltI (b := 5) (by omega) (by omega))
  have q3 : (nI (g 2) < 48) = (g 2 < 48) := propext (nI_ltI (b := 48) (by omega) (by omega))
  have q4 : (3 < nI (g 3)) = (3 < g 3) := propext (nI_ltI (a := 3) (by omega) (by omega))
  refine ⟨by simp [cp_401_0, e1, e2, e3, e4, e8, z1, y1, x1, w1, b1', c1, f1', h1'], ?_⟩
  unfold lg12
  simp only [cf_401_0, e1, e2, e3, e4, e8, z2, y2, x2, w2, b2, c2, q0, q1, q2, q3, q4]
  by_cases w : g 0 = 0
  · rw [if_pos w, if_pos w]; exact h2'
  · rw [if_neg w, if_neg w]
    simp only [ite_tf, ite_tt, ite_ft, f2', Nat.not_lt, and_true]
    exact Iff.rfl
theorem c_l13 (hc : ∀ j, j < 28 → N.1 230 (28 * k + j) = nI (g j)) (hg : ∀ j, g j < 256) (hk : k < 135) : cp_402_0 (nI (28 * k)) N ∧ (cf_402_0 (nI (28 * k)) N = true ↔ lg13 g) := by
  have e1 : nI (28 * k) + 1 = nI (28 * k + 1) := nI_1 _
  have e2 : nI (28 * k) + 2 = nI (28 * k + 2) := nI_add _ _
  obtain ⟨z1, z2⟩ := c_by (p := 0) hc hk (by omega)
  rw [Nat.add_zero] at z1 z2
  obtain ⟨y1, y2⟩ := c_by (p := 1) hc hk (by omega)
  obtain ⟨x1, x2⟩ := c_by (p := 2) hc hk (by omega)
  obtain ⟨f1, f2⟩ := c_blk (p := 3) hc hg hk (by omega)
  have f1' : cp_75_0 230 (nI (28 * k)) 3 N := f1
  have f2' : cf_75_0 230 (nI (28 * k)) 3 N = true ↔ blk g 3 := f2
  have g0 := hg 0
  have g1 := hg 1
  have g2 := hg 2
  have q1 : (nI (g 0) = 1) = (g 0 = 1) := propext (nI_eq (b := 1) (by omega) (by omega))
  have q2 : (nI (g 1) < 5) = (g 1 < 5) := propext (nI_ltI (b := 5) (by omega) (by omega))
  have q3 : (nI (g 2) < 110) = (g 2 < 110) := propext (nI_ltI (b := 110) (by omega) (by omega))
  refine ⟨by simp [cp_402_0, e1, e2, z1, y1, x1, f1'], ?_⟩
  simp only [cf_402_0, e1, e2, z2, y2, x2, q1, q2, q3, ite_tf, ite_tt, f2', and_true]
  unfold lg13
  by_cases w1 : g 1 < 5
  · by_cases w2 : g 2 < 110
    · rw [(mayd (st := g 1) (ed := g 2) (by omega) (by omega)).1, decide_eq_true_iff]
    · exact ⟨fun z => absurd z.2.2.1 w2, fun z => absurd z.2.2.1 w2⟩
  · exact ⟨fun z => absurd z.2.1 w1, fun z => absurd z.2.1 w1⟩
theorem c_l14 (hc : ∀ j, j < 28 → N.1 230 (28 * k + j) = nI (g j)) (hg : ∀ j, g j < 256) (hk : k < 135) : cp_403_0 (nI (28 * k)) N ∧ (cf_403_0 (nI (28 * k)) N = true ↔ lg14 g) := by
  have e1 : nI (28 * k) + 1 = nI (28 * k + 1) := nI_1 _
  have e2 : nI (28 * k) + 2 = nI (28 * k + 2) := nI_add _ _
  have e3 : nI (28 * k) + 3 = nI (28 * k + 3) := nI_add _ _
  have e4 : nI (28 * k) + 4 = nI (28 * k + 4) := nI_add _ _
  obtain ⟨z1, z2⟩ := c_by (p := 0) hc hk (by omega)
  rw [Nat.add_zero] at z1 z2
  obtain ⟨y1, y2⟩ := c_by (p := 1) hc hk (by omega)
  obtain ⟨x1, x2⟩ := c_by (p := 2) hc hk (by omega)
  obtain ⟨w1, w2⟩ := c_by (p := 3) hc hk (by omega)
  obtain ⟨b1', b2⟩ := c_r4 (p := 4) hc hg hk (by omega)
  obtain ⟨f1, f2⟩ := c_blk (p := 8) hc hg hk (by omega)
  have f1' : cp_75_0 230 (nI (28 * k)) 8 N := f1
  have f2' : cf_75_0 230 (nI (28 * k)) 8 N = true ↔ blk g 8 := f2
  have g0 := hg 0
  have g1 := hg 1
  have g2 := hg 2
  have g3 := hg 3
  have q1 : (nI (g 0) = 1) = (g 0 = 1) := propext (nI_eq (b := 1) (by omega) (by omega))
  have q2 : (nI (g 1) < 24) = (g 1 < 24) := propext (nI_ltI (b := 24) (by omega) (by omega))
  have q3 : (nI (g 2) < 24) = (g 2 < 24) := propext (nI_ltI (b := 24) (by omega) (by omega))
  have q4 : (nI (g 3) < 2) = (g 3 < 2) := propext (nI_ltI (b := 2) (by omega) (by omega))
  refine ⟨by simp [cp_403_0, e1, e2, e3, e4, z1, y1, x1, w1, b1', f1'], ?_⟩
  simp only [cf_403_0, e1, e2, e3, e4, z2, y2, x2, w2, b2, q1, q2, q3, q4, ite_tf, ite_tt, f2', and_true]
  exact Iff.rfl
theorem c_lg (hx : ix < 40) {kd : Nat} (h1 : 1 ≤ kd) (h15 : kd ≤ 15) (hc : ∀ j, j < 28 → N.1 230 (28 * k + j) = nI (g j)) (hg : ∀ j, g j < 256) (hk : k < 135) : cp_388_0 (nI kd) (nI ix) (nI (28 * k)) N ∧ (cf_388_0 (nI kd) (nI ix) (nI (28 * k)) N = true ↔ lgk kd ix g) := by
  rcases (show kd = 1 ∨ kd = 2 ∨ kd = 3 ∨ kd = 4 ∨ kd = 5 ∨ kd = 6 ∨ kd = 7 ∨ kd = 8 ∨ kd = 9 ∨ kd = 10 ∨ kd = 11 ∨ kd = 12 ∨ kd = 13 ∨ kd = 14 ∨ kd = 15 by omega) with w | w | w | w | w | w | w | w | w | w | w | w | w | w | w <;> subst w
  · obtain ⟨a1, a2⟩ := c_l1 hc hg hk
    exact ⟨⟨fun _ => a1, fun z => absurd rfl z⟩, a2⟩
  · obtain ⟨a1, a2⟩ := c_l2 hc hg hk
    exact ⟨⟨fun z => absurd z (by decide), fun _ => ⟨fun _ => a1, fun z => absurd rfl z⟩⟩, a2⟩
  · obtain ⟨a1, a2⟩ := c_l3 (B := 20) (by omega) hc hg hk
    exact ⟨⟨fun z => absurd z (by decide), fun _ => ⟨fun z => absurd z (by decide), fun _ => ⟨fun _ => a1, fun z => absurd rfl z⟩⟩⟩, a2⟩
  · obtain ⟨a1, a2⟩ := c_l4 hc hg hk
    exact ⟨⟨fun z => absurd z (by decide), fun _ => ⟨fun z => absurd z (by decide), fun _ => ⟨fun z => absurd z (by decide), fun _ => ⟨fun _ => a1, fun z => absurd rfl z⟩⟩⟩⟩, a2⟩
  · obtain ⟨a1, a2⟩ := c_l3 (B := 200) (by omega) hc hg hk
    refine ⟨?_, a2⟩
    have a1' : cp_391_0 (nI (28 * k)) 200 N := a1
    simp [cp_388_0, show (nI 5 = 1) = False from eq_false (by decide), show (nI 5 = 2) = False from eq_false (by decide), show (nI 5 = 3) = False from eq_false (by decide), show (nI 5 = 4) = False from eq_false (by decide), show (nI 5 = 5) = True from eq_true (by decide), a1']
  · refine ⟨?_, ⟨fun _ => trivial, fun _ => rfl⟩⟩
    simp [cp_388_0, show (nI 6 = 1) = False from eq_false (by decide), show (nI 6 = 2) = False from eq_false (by decide), show (nI 6 = 3) = False from eq_false (by decide), show (nI 6 = 4) = False from eq_false (by decide), show (nI 6 = 5) = False from eq_false (by decide), show (nI 6 = 6) = True from eq_true (by decide)]
  · obtain ⟨a1, a2⟩ := c_l7 hx hc hg hk
    refine ⟨?_, a2⟩
    simp [cp_388_0, show (nI 7 = 1) = False from eq_false (by decide), show (nI 7 = 2) = False from eq_false (by decide), show (nI 7 = 3) = False from eq_false (by decide), show (nI 7 = 4) = False from eq_false (by decide), show (nI 7 = 5) = False from eq_false (by decide), show (nI 7 = 6) = False from eq_false (by decide), show (nI 7 = 7) = True from eq_true (by decide), a1]
  · obtain ⟨a1, a2⟩ := c_l8 hc hg hk
    refine ⟨?_, a2⟩
    simp [cp_388_0, show (nI 8 = 1) = False from eq_false (by decide), show (nI 8 = 2) = False from eq_false (by decide), show (nI 8 = 3) = False from eq_false (by decide), show (nI 8 = 4) = False from eq_false (by decide), show (nI 8 = 5) = False from eq_false (by decide), show (nI 8 = 6) = False from eq_false (by decide), show (nI 8 = 7) = False from eq_false (by decide), show (nI 8 = 8) = True from eq_true (by decide), a1]
  · obtain ⟨a1, a2⟩ := c_l9 hc hg hk
    refine ⟨?_, a2⟩
    simp [cp_388_0, show (nI 9 = 1) = False from eq_false (by decide), show (nI 9 = 2) = False from eq_false (by decide), show (nI 9 = 3) = False from eq_false (by decide), show (nI 9 = 4) = False from eq_false (by decide), show (nI 9 = 5) = False from eq_false (by decide), show (nI 9 = 6) = False from eq_false (by decide), show (nI 9 = 7) = False from eq_false (by decide), show (nI 9 = 8) = False from eq_false (by decide), show (nI 9 = 9) = True from eq_true (by decide), a1]
  · obtain ⟨a1, a2⟩ := c_l10 hc hg hk
    refine ⟨?_, a2⟩
    simp [cp_388_0, show (nI 10 = 1) = False from eq_false (by decide), show (nI 10 = 2) = False from eq_false (by decide), show (nI 10 = 3) = False from eq_false (by decide), show (nI 10 = 4) = False from eq_false (by decide), show (nI 10 = 5) = False from eq_false (by decide), show (nI 10 = 6) = False from eq_false (by decide), show (nI 10 = 7) = False from eq_false (by decide), show (nI 10 = 8) = False from eq_false (by decide), show (nI 10 = 9) = False from eq_false (by decide), show (nI 10 = 10) = True from eq_true (by decide), a1]
  · obtain ⟨a1, a2⟩ := c_l11 hc hg hk
    refine ⟨?_, a2⟩
    simp [cp_388_0, show (nI 11 = 1) = False from eq_false (by decide), show (nI 11 = 2) = False from eq_false (by decide), show (nI 11 = 3) = False from eq_false (by decide), show (nI 11 = 4) = False from eq_false (by decide), show (nI 11 = 5) = False from eq_false (by decide), show (nI 11 = 6) = False from eq_false (by decide), show (nI 11 = 7) = False from eq_false (by decide), show (nI 11 = 8) = False from eq_false (by decide), show (nI 11 = 9) = False from eq_false (by decide), show (nI 11 = 10) = False from eq_false (by decide), show (nI 11 = 11) = True from eq_true (by decide), a1]
  · obtain ⟨a1, a2⟩ := c_l12 hc hg hk
    refine ⟨?_, a2⟩
    simp [cp_388_0, show (nI 12 = 1) = False from eq_false (by decide), show (nI 12 = 2) = False from eq_false (by decide), show (nI 12 = 3) = False from eq_false (by decide), show (nI 12 = 4) = False from eq_false (by decide), show (nI 12 = 5) = False from eq_false (by decide), show (nI 12 = 6) = False from eq_false (by decide), show (nI 12 = 7) = False from eq_false (by decide), show (nI 12 = 8) = False from eq_false (by decide), show (nI 12 = 9) = False from eq_false (by decide), show (nI 12 = 10) = False from eq_false (by decide), show (nI 12 = 11) = False from eq_false (by decide), show (nI 12 = 12) = True from eq_true (by decide), a1]
  · obtain ⟨a1, a2⟩ := c_l13 hc hg hk
    refine ⟨?_, a2⟩
    simp [cp_388_0, show (nI 13 = 1) = False from eq_false (by decide), show (nI 13 = 2) = False from eq_false (by decide), show (nI 13 = 3) = False from eq_false (by decide), show (nI 13 = 4) = False from eq_false (by decide), show (nI 13 = 5) = False from eq_false (by decide), show (nI 13 = 6) = False from eq_false (by decide), show (nI 13 = 7) = False from eq_false (by decide), show (nI 13 = 8) = False from eq_false (by decide), show (nI 13 = 9) = False from eq_false (by decide), show (nI 13 = 10) = False from eq_false (by decide), show (nI 13 = 11) = False from eq_false (by decide), show (nI 13 = 12) = False from eq_false (by decide), show (nI 13 = 13) = True from eq_true (by decide), a1]
  · obtain ⟨a1, a2⟩ := c_l14 hc hg hk
    refine ⟨?_, a2⟩
    simp [cp_388_0, show (nI 14 = 1) = False from eq_false (by decide), show (nI 14 = 2) = False from eq_false (by decide), show (nI 14 = 3) = False from eq_false (by decide), show (nI 14 = 4) = False from eq_false (by decide), show (nI 14 = 5) = False from eq_false (by decide), show (nI 14 = 6) = False from eq_false (by decide), show (nI 14 = 7) = False from eq_false (by decide), show (nI 14 = 8) = False from eq_false (by decide), show (nI 14 = 9) = False from eq_false (by decide), show (nI 14 = 10) = False from eq_false (by decide), show (nI 14 = 11) = False from eq_false (by decide), show (nI 14 = 12) = False from eq_false (by decide), show (nI 14 = 13) = False from eq_false (by decide), show (nI 14 = 14) = True from eq_true (by decide), a1]
  · have e1 : nI (28 * k) + 1 = nI (28 * k + 1) := nI_1 _
    have e2 : nI (28 * k) + 2 = nI (28 * k + 2) := nI_add _ _
    obtain ⟨z1, z2⟩ := c_by (p := 0) hc hk (by omega)
    rw [Nat.add_zero] at z1 z2
    obtain ⟨y1, y2⟩ := c_by (p := 1) hc hk (by omega)
    obtain ⟨x1, x2⟩ := c_by (p := 2) hc hk (by omega)
    obtain ⟨f1, f2⟩ := c_blk (p := 3) hc hg hk (by omega)
    have f1' : cp_75_0 230 (nI (28 * k)) 3 N := f1
    have f2' : cf_75_0 230 (nI (28 * k)) 3 N = true ↔ blk g 3 := f2
    have g0 := hg 0
    have q1 : (nI (g 0) = 1) = (g 0 = 1) := propext (nI_eq (b := 1) (by omega) (by omega))
    have eP : cf_324_0 (nI (g 1)) (nI (g 2)) = cf_558_0 (nI (g 1)) (nI (g 2)) := pt_in.2.1
    have E : ∀ v, v < 15 → 1 ≤ v → ¬ nI 15 = nI v := by decide
    have eF : cf_388_0 (nI 15) (nI ix) (nI (28 * k)) N = (if (mz_gI N 230 (nI (28 * k))) = 1 then (if (cf_324_0 (mz_gI N 230 (nI (28 * k) + 1)) (mz_gI N 230 (nI (28 * k) + 2))) = true then (if (cf_75_0 230 (nI (28 * k)) 3 N) = true then true else false) else false) else false) := rfl
    refine ⟨?_, ?_⟩
    · simp [cp_388_0, show (nI 15 = 1) = False from eq_false (by decide), show (nI 15 = 2) = False from eq_false (by decide), show (nI 15 = 3) = False from eq_false (by decide), show (nI 15 = 4) = False from eq_false (by decide), show (nI 15 = 5) = False from eq_false (by decide), show (nI 15 = 6) = False from eq_false (by decide), show (nI 15 = 7) = False from eq_false (by decide), show (nI 15 = 8) = False from eq_false (by decide), show (nI 15 = 9) = False from eq_false (by decide), show (nI 15 = 10) = False from eq_false (by decide), show (nI 15 = 11) = False from eq_false (by decide), show (nI 15 = 12) = False from eq_false (by decide), show (nI 15 = 13) = False from eq_false (by decide), show (nI 15 = 14) = False from eq_false (by decide), e1, e2, z1, y1, x1, f1']
    · rw [eF]
      simp only [e1, e2, z2, y2, x2, q1, eP, ite_tf, ite_tt, f2', and_true]
      exact Iff.rfl
end Lc2
