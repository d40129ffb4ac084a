/-! PURE (50zzb): the names of a program in the class. -/
/-- warmth, stale air per cell, smoke of a space -/
noncomputable def wrm (e : Nat → Nat) (w : Nat → Int64) (k : Nat) : Int64 := cf_489_0 (ts e w k) (lN (100 * pl_sz e k))
noncomputable def stq (e : Nat → Nat) (w : Nat → Int64) (k : Nat) : Int64 := cf_489_0 (ts e w k) (lN (1 * pl_sz e k))
def dtc (e : Nat → Nat) (w : Nat → Int64) (k : Nat) : Bool := decide (20 * lN (pl_sz e k) < ts e w k)
def adt (e : Nat → Nat) (w : Nat → Int64) : Nat → Bool
  | 0 => false
  | k + 1 => adt e w k || dtc e w k
/-- without fire there is no smoke -/
def nfs (N : mz_N) : Prop := mz_z01 (N.1 65 8) ∧ (N.1 65 8 = 0 → ∀ c, c < 240 → N.2 71 c = 0)
section Nmc2
variable {N : mz_N} {e fl : Nat → Nat} {k : Nat}
theorem ts_0 {w : Nat → Int64} (h : ∀ c, c < 240 → w c = 0) : ts e w k = 0 := by
  unfold ts
  rw [sL_congr (g := fun _ => 0) (fun c hc => by show (if pl_in e k c = true then w c else 0) = 0; rw [h c hc]; split <;> rfl), sL_zero]
theorem ts_congr {w v : Nat → Int64} (h : ∀ c, c < 240 → w c = v c) : ts e w k = ts e v k := by
  unfold ts
  exact sL_congr (fun c hc => by show (if pl_in e k c = true then w c else 0) = (if pl_in e k c = true then v c else 0); rw [h c hc])
theorem sz_b (hk : k < pl_n e) : 0 < pl_sz e k ∧ pl_sz e k ≤ 240 := ⟨pl_some hk, by have := pl_sz_le hk; omega⟩
theorem g19 (hn : pl_n e ≤ 40) (hs : c_sm e N) (hk : k < pl_n e) : mz_gI N 19 (nI k) = nI (pl_sz e k) := by rw [gI_a, nI_clamp (by omega)]; exact (hs.1 k hk).1
theorem wrm_c (hn : pl_n e ≤ 40) (hs : c_sm e N) (hk : k < pl_n e) : cp_157_0 (nI k) N ∧ cf_157_0 (nI k) N = wrm e (N.2 68) k := by
  obtain ⟨a, b⟩ := sum_c (a2 := 68) hn hs hk
  obtain ⟨s1, s2⟩ := sz_b hk
  obtain ⟨c, d⟩ := pc_c (x := ts e (N.2 68) k) (u := 100) (s := pl_sz e k) (by omega) s1 (by omega)
  rw [cp_157_0, cf_157_0, b, g19 hn hs hk]
  exact ⟨⟨a, ib_n (by omega) (by omega), c⟩, d⟩
theorem stq_c (hn : pl_n e ≤ 40) (hs : c_sm e N) (hk : k < pl_n e) : cp_209_0 (nI k) N ∧ cf_209_0 (nI k) N = stq e (N.2 69) k := by
  obtain ⟨a, b⟩ := sum_c (a2 := 69) hn hs hk
  obtain ⟨s1, s2⟩ := sz_b hk
  obtain ⟨c, d⟩ := pc_c (x := ts e (N.2 69) k) (u := 1) (s := pl_sz e k) (by omega) s1 (by omega)
  rw [cp_209_0, cf_209_0, b, g19 hn hs hk]
  exact ⟨⟨a, ib_n (by omega) (by omega), c⟩, d⟩
theorem det_c (hn : pl_n e ≤ 40) (hs : c_sm e N) (hf : nfs N) (hk : k < pl_n e) : cp_210_0 (nI k) N ∧ cf_210_0 (nI k) N = dtc e (N.2 71) k := by
  obtain ⟨a, b⟩ := sum_c (a2 := 71) hn hs hk
  obtain ⟨s1, s2⟩ := sz_b hk
  rw [cp_210_0, cf_210_0, b, g19 hn hs hk, nI_L (by omega)]
  refine ⟨⟨hf.1, fun _ => ⟨a, ib_n (by omega) (by omega)⟩, fun _ => trivial⟩, ?_⟩
  unfold dtc mz_fZ
  by_cases w : N.1 65 8 = 1
  · rw [if_pos (by simpa using w)]
    by_cases v : 20 * lN (pl_sz e k) < ts e (N.2 71) k
    · rw [if_pos v, decide_eq_true v]
    · rw [if_neg v, decide_eq_false v]
  · have w0 : N.1 65 8 = 0 := by rcases hf.1 with z | z; exact z; exact absurd z w
    rw [if_neg (by simpa using w), ts_0 (hf.2 w0)]
    symm
    apply decide_eq_false
    rw [show (20 : Int64) = lN 20 from rfl, lN_mul, show (0 : Int64) = lN 0 from rfl, pk_lLT (by omega) (by omega)]
    omega
theorem adt_c (hn : pl_n e ≤ 40) (hs : c_sm e N) (h7 : N.1 2 7 = nI (pl_n e)) (hf : nfs N) : cp_211_0 N ∧ cf_211_0 N = adt e (N.2 71) (pl_n e) := by
  have h0 : N.1 65 8 = 0 → ∀ k, k ≤ pl_n e → adt e (N.2 71) k = false := fun z k => by
    induction k with
    | zero => intro _; rfl
    | succ k ih =>
      intro hk
      show (adt e (N.2 71) k || dtc e (N.2 71) k) = false
      obtain ⟨s1, s2⟩ := sz_b (e := e) (k := k) hk
      have : dtc e (N.2 71) k = false := by
        unfold dtc
        rw [ts_0 (hf.2 z)]
        apply decide_eq_false
        rw [show (20 : Int64) = lN 20 from rfl, lN_mul, show (0 : Int64) = lN 0 from rfl, pk_lLT (by omega) (by omega)]
        omega
      rw [ih (by omega), this]; rfl
  refine mz_lpn (f := cq_211_2 N) (P := cd_211_2 N) (Q := fun r => r = adt e (N.2 71) (pl_n e)) (pl_n e) (fun i s => s = nI i ∧ adt e (N.2 71) i = false) ?_ ?_ (Nat.zero_le _) ⟨rfl, rfl⟩
  · rintro i s hi ⟨rfl, ha⟩
    have l : nI i < nI (pl_n e) := (nI_ltI (by omega) (by omega)).mpr hi
    obtain ⟨d1, d2⟩ := det_c hn hs hf hi
    rw [cd_211_2, cq_211_2, h7, if_pos l]
    refine ⟨⟨fun _ => ⟨hf.1, fun _ => d1, fun _ => trivial⟩, fun _ => trivial⟩, ?_⟩
    by_cases w : mz_fZ N 65 8 = true
    · rw [if_pos w, d2]
      by_cases v : dtc e (N.2 71) i = true
      · rw [if_pos v]
        refine Or.inr ⟨_, rfl, ?_⟩
        have mono : ∀ m, i + 1 + m ≤ pl_n e → adt e (N.2 71) (i + 1 + m) = true := by
          intro m
          induction m with
          | zero => intro _; show (adt e (N.2 71) i || dtc e (N.2 71) i) = true; rw [v, Bool.or_true]
          | succ m ih =>
            intro hm
            show (adt e (N.2 71) (i + 1 + m) || dtc e (N.2 71) (i + 1 + m)) = true
            rw [ih (by omega), Bool.true_or]
        have := mono (pl_n e - (i + 1)) (by omega)
        rw [show i + 1 + (pl_n e - (i + 1)) = pl_n e by omega] at this
        exact this.symm
      · rw [if_neg v, nI_1]
        refine Or.inl ⟨_, rfl, rfl, ?_⟩
        show (adt e (N.2 71) i || dtc e (N.2 71) i) = false
        rw [ha, Bool.eq_false_iff.mpr v]; rfl
    · rw [if_neg w]
      have w0 : N.1 65 8 = 0 := by
        rcases hf.1 with z | z
        · exact z
        · exact absurd (by unfold mz_fZ; simpa using z) w
      exact Or.inr ⟨_, rfl, (h0 w0 _ (Nat.le_refl _)).symm⟩
  · rintro s ⟨rfl, ha⟩
    have l : ¬ nI (pl_n e) < nI (pl_n e) := fun q => by have := (nI_ltI (by omega) (by omega)).mp q; omega
    rw [cd_211_2, cq_211_2, h7, if_neg l]
    exact ⟨⟨fun q => absurd q l, fun _ => trivial⟩, _, rfl, ha.symm⟩
def sI11 (f : Nat → Int32) : Nat → Int32
  | 0 => 0
  | n + 1 => sI11 f n + f n
theorem lds_c : cp_212_0 N ∧ cf_212_0 N = sI11 (N.1 58) 11 := by
  refine mz_lps (f := cq_212_4 N) (P := cd_212_4 N) (t := sI11 (N.1 58) 11) 11 (fun i => (sI11 (N.1 58) i, nI i)) (fun i hi => ?_) ?_ (Nat.zero_le _)
  · have l : nI i < 11 := (nI_ltI (b := 11) (by omega) (by omega)).mpr hi
    rw [cd_212_4, cq_212_4]
    simp only [l, if_true, gI_a, nI_clamp (show i < 2 ^ 31 by omega), nI_1]
    exact ⟨⟨fun _ => ib_n (by omega) (by omega), fun _ => trivial⟩, rfl⟩
  · rw [cd_212_4, cq_212_4]
    exact ⟨⟨fun q => absurd q (show ¬ nI 11 < 11 by decide), fun _ => trivial⟩, by rw [if_neg (show ¬ (nI 11 : Int32) < 11 by decide)]⟩
theorem lds_r : cp_521_0 N ∧ cf_521_0 N = sI11 (N.1 272) 11 := by
  refine mz_lps (f := cq_521_4 N) (P := cd_521_4 N) (t := sI11 (N.1 272) 11) 11 (fun i => (sI11 (N.1 272) i, nI i)) (fun i hi => ?_) ?_ (Nat.zero_le _)
  · have l : nI i < 11 := (nI_ltI (b := 11) (by omega) (by omega)).mpr hi
    rw [cd_521_4, cq_521_4]
    simp only [l, if_true, gI_a, nI_clamp (show i < 2 ^ 31 by omega), nI_1]
    exact ⟨⟨fun _ => ib_n (by omega) (by omega), fun _ => trivial⟩, rfl⟩
  · rw [cd_521_4, cq_521_4]
    exact ⟨⟨fun q => absurd q (show ¬ nI 11 < 11 by decide), fun _ => trivial⟩, by rw [if_neg (show ¬ (nI 11 : Int32) < 11 by decide)]⟩
/-- what the names say: heat, stale air, smoke; hour, weather, time, tank, loads, mains -/
noncomputable def nmv (e fl : Nat → Nat) (wh ws wk : Nat → Int64) (hr : Nat) (we tm tk ld : Int) (mn : Bool) (T : Nat → Int) (j : Nat) : Int :=
  if j < 16 then T j
  else if j < 26 then (if pl_ht e fl (j - 16) < pl_n e then (wrm e wh (pl_ht e fl (j - 16))).toInt else 0)
  else if j < 36 then (if pl_ht e fl (j - 26) < pl_n e then (stq e ws (pl_ht e fl (j - 26))).toInt else 0)
  else if j < 46 then (if pl_ht e fl (j - 36) < pl_n e ∧ dtc e wk (pl_ht e fl (j - 36)) = true then 1 else 0)
  else if j = 46 then (if adt e wk (pl_n e) = true then 1 else 0)
  else if j = 47 then we else if j = 48 then (hr : Int) else if j = 49 then tm else if j = 50 then tk else if j = 51 then ld else (if mn = true then 1 else 0)
theorem i32_i (x : Int64) : x.toInt32 = iI x.toInt := rfl
theorem nms_c (hn : pl_n e ≤ 40) (hs : c_sm e N) (hf : nfs N) (h38 : ∀ j, j < 10 → N.1 38 j = nO (pl_n e) (pl_ht e fl j)) {v1 : Int32} {b : Bool} (Q : mz_N → Prop)
    (he : ∀ f, (∀ j, j < 16 → f j = N.1 53 j) → (∀ t, t < 10 → f (16 + t) = iI (if pl_ht e fl t < pl_n e then (wrm e (N.2 68) (pl_ht e fl t)).toInt else 0) ∧ f (26 + t) = iI (if pl_ht e fl t < pl_n e then (stq e (N.2 69) (pl_ht e fl t)).toInt else 0) ∧ f (36 + t) = iI (if pl_ht e fl t < pl_n e ∧ dtc e (N.2 71) (pl_ht e fl t) = true then 1 else 0)) → cd_208_16 v1 b (10, mz_sI N 53 f) ∧ ∃ r, cq_208_16 v1 b (10, mz_sI N 53 f) = .inr r ∧ Q r) : cp_208_16 v1 0 N b ∧ Q (cf_208_16 v1 0 N b) := by
  refine mz_lpn (f := cq_208_16 v1 b) (P := cd_208_16 v1 b) (Q := Q) 10 (fun i st => ∃ f, st = (nI i, mz_sI N 53 f) ∧ (∀ j, j < 16 → f j = N.1 53 j) ∧ ∀ t, t < i → f (16 + t) = iI (if pl_ht e fl t < pl_n e then (wrm e (N.2 68) (pl_ht e fl t)).toInt else 0) ∧ f (26 + t) = iI (if pl_ht e fl t < pl_n e then (stq e (N.2 69) (pl_ht e fl t)).toInt else 0) ∧ f (36 + t) = iI (if pl_ht e fl t < pl_n e ∧ dtc e (N.2 71) (pl_ht e fl t) = true then 1 else 0)) ?_ ?_ (Nat.zero_le _) ⟨N.1 53, by rw [sI_same]; rfl, fun _ _ => rfl, fun t ht => absurd ht (Nat.not_lt_zero _)⟩
  · rintro i st hi ⟨f, rfl, h1, h2⟩
    have l : nI i < 10 := (nI_ltI (b := 10) (by omega) (by omega)).mpr hi
    have ii : mz_ib (nI i) 10 := ib_n (by omega) (by omega)
    have i16 : mz_ib (16 + nI i) 53 := by rw [show (16 : Int32) = nI 16 from rfl, nI_add]; exact ib_n (by omega) (by omega)
    have i26 : mz_ib (26 + nI i) 53 := by rw [show (26 : Int32) = nI 26 from rfl, nI_add]; exact ib_n (by omega) (by omega)
    have i36 : mz_ib (36 + nI i) 53 := by rw [show (36 : Int32) = nI 36 from rfl, nI_add]; exact ib_n (by omega) (by omega)
    have c16 : (16 + nI i : Int32).toNatClampNeg = 16 + i := by rw [show (16 : Int32) = nI 16 from rfl, nI_add, nI_clamp (by omega)]
    have c26 : (26 + nI i : Int32).toNatClampNeg = 26 + i := by rw [show (26 : Int32) = nI 26 from rfl, nI_add, nI_clamp (by omega)]
    have c36 : (36 + nI i : Int32).toNatClampNeg = 36 + i := by rw [show (36 : Int32) = nI 36 from rfl, nI_add, nI_clamp (by omega)]
    have w53 : ∀ g : Nat → Int32, ∀ a x : Int32, mz_wI (mz_sI N 53 g) 53 a x = mz_sI N 53 (upd g a.toNatClampNeg x) := fun g a x => by rw [wI_s, sI_e, sI_sI]
    have hsg : ∀ g : Nat → Int32, c_sm e (mz_sI N 53 g) := fun g => ⟨fun k hk => by rw [sI_n (by decide), sI_n (by decide)]; exact hs.1 k hk, fun c hc => by rw [sI_n (by decide)]; exact hs.2 c hc⟩
    have hfg : ∀ g : Nat → Int32, nfs (mz_sI N 53 g) := fun g => ⟨by rw [sI_n (by decide)]; exact hf.1, fun z => by rw [sI_n (by decide)] at z; exact hf.2 z⟩
    have gh : mz_gI (mz_sI N 53 f) 38 (nI i) = nO (pl_n e) (pl_ht e fl i) := by rw [gI_a, sI_n (by decide), nI_clamp (by omega)]; exact h38 i hi
    rw [cd_208_16, cq_208_16]
    show ((nI i < 10 → mz_ib (nI i) 10 ∧ (mz_gI (mz_sI N 53 f) 38 (nI i) = -1 → cp_208_42 false v1 (nI i) (mz_gI (mz_sI N 53 f) 38 (nI i)) (mz_sI N 53 f) b) ∧ (¬ mz_gI (mz_sI N 53 f) 38 (nI i) = -1 → cp_208_42 true v1 (nI i) (mz_gI (mz_sI N 53 f) 38 (nI i)) (mz_sI N 53 f) b)) ∧ _) ∧ ((∃ s2, (if nI i < 10 then (if mz_gI (mz_sI N 53 f) 38 (nI i) = -1 then cf_208_42 false v1 (nI i) (mz_gI (mz_sI N 53 f) 38 (nI i)) (mz_sI N 53 f) b else cf_208_42 true v1 (nI i) (mz_gI (mz_sI N 53 f) 38 (nI i)) (mz_sI N 53 f) b) else _) = _ ∧ _) ∨ _)
    rw [gh, if_pos l]
    have fin : ∀ x y z : Int32, x = iI (if pl_ht e fl i < pl_n e then (wrm e (N.2 68) (pl_ht e fl i)).toInt else 0) → y = iI (if pl_ht e fl i < pl_n e then (stq e (N.2 69) (pl_ht e fl i)).toInt else 0) → z = iI (if pl_ht e fl i < pl_n e ∧ dtc e (N.2 71) (pl_ht e fl i) = true then 1 else 0) → ∃ g, (nI (i + 1), mz_sI N 53 (upd (upd (upd f (16 + i) x) (26 + i) y) (36 + i) z)) = (nI (i + 1), mz_sI N 53 g) ∧ (∀ j, j < 16 → g j = N.1 53 j) ∧ ∀ t, t < i + 1 → g (16 + t) = iI (if pl_ht e fl t < pl_n e then (wrm e (N.2 68) (pl_ht e fl t)).toInt else 0) ∧ g (26 + t) = iI (if pl_ht e fl t < pl_n e then (stq e (N.2 69) (pl_ht e fl t)).toInt else 0) ∧ g (36 + t) = iI (if pl_ht e fl t < pl_n e ∧ dtc e (N.2 71) (pl_ht e fl t) = true then 1 else 0) := fun x y z hx hy hz => by
      refine ⟨_, rfl, fun j hj => ?_, fun t ht => ?_⟩
      · rw [up_a, if_neg (by omega), up_a, if_neg (by omega), up_a, if_neg (by omega)]; exact h1 j hj
      · by_cases v : t = i
        · rw [v]
          refine ⟨?_, ?_, ?_⟩
          · rw [up_a, if_neg (by omega), up_a, if_neg (by omega), up_a, if_pos rfl]; exact hx
          · rw [up_a, if_neg (by omega), up_a, if_pos rfl]; exact hy
          · rw [up_a, if_pos rfl]; exact hz
        · obtain ⟨q1, q2, q3⟩ := h2 t (by omega)
          refine ⟨?_, ?_, ?_⟩
          · rw [up_a, if_neg (by omega), up_a, if_neg (by omega), up_a, if_neg (by omega)]; exact q1
          · rw [up_a, if_neg (by omega), up_a, if_neg (by omega), up_a, if_neg (by omega)]; exact q2
          · rw [up_a, if_neg (by omega), up_a, if_neg (by omega), up_a, if_neg (by omega)]; exact q3
    by_cases w : pl_ht e fl i < pl_n e
    · have nm : ¬ nO (pl_n e) (pl_ht e fl i) = -1 := by rw [nO_m1 (by omega)]; exact fun q => q w
      obtain ⟨a1, a2⟩ := wrm_c (N := mz_sI N 53 f) hn (hsg f) w
      obtain ⟨b1', b2'⟩ := stq_c (N := mz_sI N 53 (upd f (16 + i) (wrm e (N.2 68) (pl_ht e fl i)).toInt32)) hn (hsg _) w
      obtain ⟨d1, d2⟩ := det_c (N := mz_sI N 53 (upd (upd f (16 + i) (wrm e (N.2 68) (pl_ht e fl i)).toInt32) (26 + i) (stq e (N.2 69) (pl_ht e fl i)).toInt32)) hn (hsg _) (hfg _) w
      rw [sI_2] at a2 b2' d2
      refine ⟨⟨fun _ => ⟨ii, fun q => absurd q nm, fun _ => ?_⟩, fun q => absurd l q⟩, Or.inl ?_⟩
      · rw [nO_lt w, cp_208_42]
        refine ⟨fun _ => ⟨a1, ?_⟩, fun q => absurd rfl q⟩
        rw [a2, cp_208_74, w53, c16]
        refine ⟨i16, fun _ => ⟨b1', ?_⟩, fun q => absurd rfl q⟩
        rw [b2', cp_208_105, w53, c26]
        exact ⟨i26, fun _ => ⟨d1, fun _ => i36, fun _ => i36⟩, fun q => absurd rfl q⟩
      · rw [if_neg nm, nO_lt w, cf_208_42, if_pos rfl, a2, cf_208_74, w53, c16, if_pos rfl, b2', cf_208_105, w53, c26, if_pos rfl, d2]
        by_cases v : dtc e (N.2 71) (pl_ht e fl i) = true
        · rw [if_pos v, cf_208_139, w53, c36, nI_1]
          exact ⟨_, rfl, fin _ _ _ (by rw [if_pos w]; exact i32_i _) (by rw [if_pos w]; exact i32_i _) (by rw [if_pos ⟨w, v⟩]; rfl)⟩
        · rw [if_neg v, cf_208_138, cf_208_139, w53, c36, nI_1]
          exact ⟨_, rfl, fin _ _ _ (by rw [if_pos w]; exact i32_i _) (by rw [if_pos w]; exact i32_i _) (by rw [if_neg (fun q => v q.2)]; rfl)⟩
    · have nm : nO (pl_n e) (pl_ht e fl i) = -1 := by rw [nO_m1 (by omega)]; exact w
      rw [if_pos nm, cf_208_42, if_neg Bool.false_ne_true, cf_208_74, w53, c16, if_neg Bool.false_ne_true, cf_208_105, w53, c26, if_neg Bool.false_ne_true, cf_208_138, cf_208_139, w53, c36, nI_1]
      refine ⟨⟨fun _ => ⟨ii, fun _ => ⟨fun q => absurd q Bool.false_ne_true, fun _ => ?_⟩, fun q => absurd nm q⟩, fun q => absurd l q⟩, Or.inl ⟨_, rfl, fin _ _ _ (by rw [if_neg w]; rfl) (by rw [if_neg w]; rfl) (by rw [if_neg (fun q => w q.1)]; rfl)⟩⟩
      rw [cp_208_74]
      refine ⟨i16, fun q => absurd q Bool.false_ne_true, fun _ => ?_⟩
      rw [cp_208_105]
      exact ⟨i26, fun q => absurd q Bool.false_ne_true, fun _ => i36⟩
  · rintro st ⟨f, rfl, h1, h2⟩
    exact he f h1 h2
end Nmc2
