/-! PURE (50zzzzzzy): image. -/
/-- the tape's rows of the keys below k -/
def tpR (kt : Nat → Bool) (kb : Nat → Nat → Nat) : Nat → Nat → Nat
  | 0 => fun _ => 0
  | k + 1 => if kt k = true then fun i => if i = 2 + 30 * cnt kt k then kdk k else if i = 2 + 30 * cnt kt k + 1 then ixk k else if 2 + 30 * cnt kt k + 2 ≤ i ∧ i < 2 + 30 * cnt kt k + 30 then kb k (i - (2 + 30 * cnt kt k + 2)) else tpR kt kb k i else tpR kt kb k
def tpD (kt : Nat → Bool) (kb : Nat → Nat → Nat) (i : Nat) : Nat := if i < 2 then lb (lN (cnt kt 135)) i else tpR kt kb 135 i
def tpE (kt : Nat → Bool) : Nat := 2 + 30 * cnt kt 135
/-- the tape -/
def tpA (kt : Nat → Bool) (kb : Nat → Nat → Nat) (i : Nat) : Nat := if i < tpE kt then tpD kt kb i else lb (crv (tpD kt kb) 0 (tpE kt)).toInt64 (i - tpE kt)
section Im
variable {N N1 N2 M : mz_N} {kt : Nat → Bool} {kb : Nat → Nat → Nat} {b : Bool} {B q : Nat}
theorem cnt_sT {p : Nat → Bool} {k : Nat} (h : p k = true) : cnt p (k + 1) = cnt p k + 1 := cnt_s h
theorem cnt_sF {p : Nat → Bool} {k : Nat} (h : ¬ p k = true) : cnt p (k + 1) = cnt p k := cnt_sn (by cases e : p k with | true => exact absurd e h | false => rfl)
theorem tpR_b (hb : ∀ k i, kb k i < 256) : ∀ k, k ≤ 135 → ∀ i, tpR kt kb k i < 256 := by
  intro k
  induction k with
  | zero => intro _ i; show 0 < 256; omega
  | succ k ih =>
    intro hk i
    have h1 := kdk_ok k (by omega)
    show (if kt k = true then fun i => _ else tpR kt kb k) i < 256
    by_cases w : kt k = true
    · rw [if_pos w]
      show (if i = _ then _ else _) < 256
      split
      · omega
      · split
        · omega
        · split
          · exact hb _ _
          · exact ih (by omega) i
    · rw [if_neg w]; exact ih (by omega) i
theorem tpD_b (hb : ∀ k i, kb k i < 256) (i : Nat) : tpD kt kb i < 256 := by
  unfold tpD
  split
  · exact lb_lt _ _
  · exact tpR_b hb 135 (Nat.le_refl _) i
theorem tpA_b (hb : ∀ k i, kb k i < 256) (i : Nat) : tpA kt kb i < 256 := by
  unfold tpA
  split
  · exact tpD_b hb i
  · exact lb_lt _ _
theorem tpE_b : tpE kt + 4 ≤ 4056 := by
  have := cnt_le kt 135
  unfold tpE
  omega
theorem c_tape (h3 : ∀ k, k < 135 → ∀ j, j < 28 → N.1 223 (28 * k + j) = nI (kb k j)) (h4 : ∀ k, k < 135 → N.1 224 k = nI (b1 (kt k))) (hb : ∀ k i, kb k i < 256) : cp_371_0 N ∧ ∃ f, cf_371_0 N = mz_pI (mz_sI N 228 f) 1 10 (nI (tpE kt + 4)) ∧ ∀ i, i < tpE kt + 4 → f i = nI (tpA kt kb i) := by
  obtain ⟨a1, a2⟩ := cnt_c h4
  have c135 := cnt_le kt 135
  rw [cp_371_0, cf_371_0, a2, nI_L (by omega)]
  obtain ⟨b1', f0, b2, b3⟩ := wr_c (a := 228) (n := 4056) (p := 0) (k := 2) (v := lN (cnt kt 135)) (N := N) (by omega) (by omega) (by omega)
  have b1'' : cp_14_0 228 4056 0 2 (lN (cnt kt 135)) N := b1'
  have b2' : cf_14_0 228 4056 0 2 (lN (cnt kt 135)) N = mz_sI N 228 f0 := b2
  rw [b2']
  suffices h : cp_371_24 2 0 (mz_sI N 228 f0) ∧ ∃ f, cf_371_24 2 0 (mz_sI N 228 f0) = mz_pI (mz_sI N 228 f) 1 10 (nI (tpE kt + 4)) ∧ ∀ i, i < tpE kt + 4 → f i = nI (tpA kt kb i) by
    exact ⟨⟨a1, b1'', h.1⟩, h.2⟩
  rw [cp_371_24, cf_371_24]
  refine mz_lpn (f := cq_371_24) (P := cd_371_24) (Q := fun t => ∃ f, t = mz_pI (mz_sI N 228 f) 1 10 (nI (tpE kt + 4)) ∧ ∀ i, i < tpE kt + 4 → f i = nI (tpA kt kb i)) 135 (fun t s => ∃ f, s = (nI (2 + 30 * cnt kt t), nI t, mz_sI N 228 f) ∧ (∀ i, i < 2 → f i = nI (lb (lN (cnt kt 135)) i)) ∧ ∀ i, 2 ≤ i → i < 2 + 30 * cnt kt t → f i = nI (tpR kt kb t i)) ?_ ?_ (Nat.zero_le _) ⟨f0, rfl, fun i hi => ?_, fun i h1 h2 => ?_⟩
  · rintro t s ht ⟨f, rfl, f1, f2⟩
    have ct := cnt_le kt t
    have l : nI t < 135 := (nI_ltI (b := 135) (by omega) (by omega)).mpr ht
    have ib : mz_ib (nI t) 135 := ib_n ht (by omega)
    have g224 : mz_gI (mz_sI N 228 f) 224 (nI t) = nI (b1 (kt t)) := by rw [gI_a, sI_n (by decide), nI_clamp (by omega)]; exact h4 t ht
    rw [cd_371_24, cq_371_24]
    simp only [l, if_true, g224]
    by_cases w : kt t = true
    · have e1 : nI (b1 (kt t)) = 1 := by rw [w]; rfl
      obtain ⟨k1, k2⟩ := kd_c ht
      obtain ⟨k3, k4⟩ := ix_c ht
      have o1 : nI (2 + 30 * cnt kt t) + 1 = nI (2 + 30 * cnt kt t + 1) := nI_1 _
      have o2 : nI (2 + 30 * cnt kt t) + 2 = nI (2 + 30 * cnt kt t + 2) := nI_add _ _
      have o3 : nI (2 + 30 * cnt kt t) + 30 = nI (2 + 30 * cnt kt (t + 1)) := by rw [cnt_sT w]; exact nI_add _ _
      have m28 : nI t * 28 = nI (t * 28) := pk_mul _ _
      have ib1 : mz_ib (nI (2 + 30 * cnt kt t)) 4056 := ib_n (by omega) (by omega)
      have ib2 : mz_ib (nI (2 + 30 * cnt kt t + 1)) 4056 := ib_n (by omega) (by omega)
      have cp : mz_cpk (nI (t * 28)) (nI (2 + 30 * cnt kt t + 2)) 28 3780 4056 := cpk_n (c := 28) (by omega) (by omega) (by omega) (by omega)
      rw [if_pos e1, k2, k4, o1, o2, m28, cf_371_89, cf_371_92, o3, nI_1]
      refine ⟨⟨fun _ => ⟨ib, fun _ => ⟨k1, ib1, k3, ib2, cp, trivial⟩, fun z => absurd e1 z⟩, fun z => absurd trivial z⟩, Or.inl ⟨_, rfl, va_cpy (N.1 223) (upd (upd f (2 + 30 * cnt kt t) (nI (kdk t))) (2 + 30 * cnt kt t + 1) (nI (ixk t))) (t * 28) (2 + 30 * cnt kt t + 2) 28, ?_, fun i hi => ?_, fun i i1 i2 => ?_⟩⟩
      · rw [yI_s, wI_s, wI_s, sI_sI, sI_e, sI_sI, sI_e, sI_e, sI_n (by decide), sI_sI, nI_clamp (by omega), nI_clamp (by omega), nI_clamp (by omega), nI_clamp (by omega)]; rfl
      · rw [cpy_a, if_neg (by omega), up_a, if_neg (by omega), up_a, if_neg (by omega)]; exact f1 i hi
      · rw [cnt_sT w] at i2
        rw [cpy_a, up_a, up_a]
        show _ = nI ((if kt t = true then fun i => _ else tpR kt kb t) i)
        rw [if_pos w]
        show _ = nI (if i = _ then _ else _)
        by_cases y1 : i = 2 + 30 * cnt kt t
        · rw [if_neg (by omega), if_neg (by omega), if_pos y1, if_pos y1]
        · by_cases y2 : i = 2 + 30 * cnt kt t + 1
          · rw [if_neg (by omega), if_pos y2, if_neg y1, if_pos y2]
          · by_cases y3 : 2 + 30 * cnt kt t + 2 ≤ i ∧ i < 2 + 30 * cnt kt t + 30
            · rw [if_pos (by omega), if_neg y1, if_neg y2, if_pos y3]
              have := h3 t ht (i - (2 + 30 * cnt kt t + 2)) (by omega)
              rw [show t * 28 = 28 * t by omega]; exact this
            · rw [if_neg (by omega), if_neg y2, if_neg y1, if_neg y1, if_neg y2, if_neg y3]
              exact f2 i i1 (by omega)
    · have e1 : ¬ nI (b1 (kt t)) = 1 := by
        cases e : kt t with
        | true => exact absurd e w
        | false => decide
      rw [if_neg e1, cf_371_92, nI_1]
      refine ⟨⟨fun _ => ⟨ib, fun z => absurd z e1, fun _ => trivial⟩, fun z => absurd trivial z⟩, Or.inl ⟨_, rfl, f, by rw [cnt_sF w, nI_1 t], f1, fun i i1 i2 => ?_⟩⟩
      rw [cnt_sF w] at i2
      show _ = nI ((if kt t = true then fun i => _ else tpR kt kb t) i)
      rw [if_neg w]
      exact f2 i i1 i2
  · rintro s ⟨f, rfl, f1, f2⟩
    have l : ¬ nI 135 < 135 := by decide
    have eE : 2 + 30 * cnt kt 135 = tpE kt := rfl
    rw [eE] at f2 ⊢
    have hE := tpE_b (kt := kt)
    have E2 : 2 ≤ tpE kt := by unfold tpE; omega
    have fD : ∀ i, i < tpE kt → f i = nI (tpD kt kb i) := fun i hi => by
      unfold tpD
      by_cases y : i < 2
      · rw [if_pos y]; exact f1 i y
      · rw [if_neg y]; exact f2 i (by omega) hi
    obtain ⟨c1, c2⟩ := cr_c (a := 228) (n := 4056) (p := 0) (k := tpE kt) (d := tpD kt kb) (N := mz_sI N 228 f) (fun i hi => by rw [sI_e, Nat.zero_add]; exact ⟨fD i hi, tpD_b hb i⟩) (by omega) (by omega)
    have c1' : cp_16_0 228 4056 0 (nI (tpE kt)) (mz_sI N 228 f) := c1
    have c2' : cf_16_0 228 4056 0 (nI (tpE kt)) (mz_sI N 228 f) = crv (tpD kt kb) 0 (tpE kt) := c2
    obtain ⟨d1, g, d2, d3⟩ := wr_c (a := 228) (n := 4056) (p := tpE kt) (k := 4) (v := (crv (tpD kt kb) 0 (tpE kt)).toInt64) (N := mz_sI N 228 f) (by omega) (by omega) (by omega)
    have d1' : cp_14_0 228 4056 (nI (tpE kt)) 4 (crv (tpD kt kb) 0 (tpE kt)).toInt64 (mz_sI N 228 f) := d1
    have d2' : cf_14_0 228 4056 (nI (tpE kt)) 4 (crv (tpD kt kb) 0 (tpE kt)).toInt64 (mz_sI N 228 f) = mz_sI (mz_sI N 228 f) 228 g := d2
    rw [cd_371_24, cq_371_24]
    simp only [l, if_false, c2', d2', cf_371_124]
    refine ⟨⟨False.elim, fun _ => ⟨c1', d1', trivial⟩⟩, _, rfl, g, by rw [sI_sI, show nI (tpE kt) + 4 = nI (tpE kt + 4) from nI_add _ _], fun i hi => ?_⟩
    rw [d3, sI_e]
    unfold tpA
    by_cases y : i < tpE kt
    · rw [if_neg (by omega), if_pos y]; exact fD i y
    · rw [if_pos (by omega), if_neg y]
  · rw [b3, if_pos (by omega), Nat.sub_zero]
  · have : cnt kt 0 = 0 := rfl
    rw [this] at h2; omega
theorem sI_p {x y : Int32} {g : Nat → Int32} : mz_pI (mz_sI (mz_pI N 232 141 x) 334 g) 232 141 y = mz_sI (mz_pI N 232 141 y) 334 g := by
  refine Prod.ext (funext fun c => ?_) rfl
  rw [pI_s]
  by_cases w : c = 232
  · rw [w, sI_e, sI_n (by decide), pI_s, sI_e, sI_n (by decide), pI_s, sI_e]
    funext j
    rw [up_a, up_a, up_a]
    split <;> rfl
  · rw [sI_n w]
    by_cases y' : c = 334
    · rw [y', sI_e, sI_e]
    · rw [sI_n y', sI_n y', pI_s, sI_n w, pI_s, sI_n w]
theorem sI_q {x : Int32} {g : Nat → Int32} : mz_sI (mz_pI N 232 141 x) 334 g = mz_pI (mz_sI N 334 g) 232 141 x := by
  refine Prod.ext (funext fun c => ?_) rfl
  by_cases w : c = 232
  · rw [w, sI_n (by decide), pI_s, sI_e, pI_s, sI_e, sI_n (by decide)]
  · by_cases y' : c = 334
    · rw [y', sI_e, pI_s, sI_n (by decide), sI_e]
    · rw [sI_n y', pI_s, sI_n w, pI_s, sI_n w, sI_n y']
theorem r_tape (h3 : ∀ k, k < 135 → kt k = true → ∀ j, j < 28 → N.1 331 (28 * k + j) = by8 (kb k j)) (h4 : ∀ k, k < 135 → N.1 330 k = nI (b1 (kt k))) (hb : ∀ k i, kb k i < 256) : cp_601_18 0 0 (mz_pI N 232 141 2) ∧ ∃ f, cf_601_18 0 0 (mz_pI N 232 141 2) = (nI (tpE kt + 4), mz_sI (mz_pI N 232 141 (nI (tpE kt + 4))) 334 f) ∧ ∀ i, i < tpE kt + 4 → f i = by8 (tpA kt kb i) := by
  rw [cp_601_18, cf_601_18]
  refine mz_lpn (f := cq_601_18) (P := cd_601_18) (Q := fun t => ∃ f, t = (nI (tpE kt + 4), mz_sI (mz_pI N 232 141 (nI (tpE kt + 4))) 334 f) ∧ ∀ i, i < tpE kt + 4 → f i = by8 (tpA kt kb i)) 135 (fun t s => ∃ f, s = (nI (cnt kt t), nI t, mz_sI (mz_pI N 232 141 (nI (2 + 30 * cnt kt t))) 334 f) ∧ ∀ i, 2 ≤ i → i < 2 + 30 * cnt kt t → f i = by8 (tpR kt kb t i)) ?_ ?_ (Nat.zero_le _) ⟨(mz_pI N 232 141 2).1 334, ?_, fun i h1 h2 => ?_⟩
  · rintro t s ht ⟨f, rfl, f2⟩
    have ct := cnt_le kt t
    have l : nI t < 135 := (nI_ltI (b := 135) (by omega) (by omega)).mpr ht
    have ib : mz_ib (nI t) 135 := ib_n ht (by omega)
    have e330 : (mz_sI (mz_pI N 232 141 (nI (2 + 30 * cnt kt t))) 334 f).1 330 t = nI (b1 (kt t)) := by
      rw [sI_n (by decide), pI_s, sI_n (by decide)]; exact h4 t ht
    have g330 : mz_gI (mz_sI (mz_pI N 232 141 (nI (2 + 30 * cnt kt t))) 334 f) 330 (nI t) = nI (b1 (kt t)) := by rw [gI_a, nI_clamp (by omega)]; exact e330
    have z01 : mz_z01 (nI (b1 (kt t))) := by cases kt t; exact Or.inl rfl; exact Or.inr rfl
    have gz : mz_gZ (mz_sI (mz_pI N 232 141 (nI (2 + 30 * cnt kt t))) 334 f) 330 (nI t) = kt t := by
      rw [gZ_a, nI_clamp (by omega), e330]; cases kt t <;> rfl
    rw [cd_601_18, cq_601_18]
    simp only [l, if_true, g330, gz]
    by_cases w : kt t = true
    · obtain ⟨k1, k2⟩ := kd_r ht
      have k4 := ix_r ht
      obtain ⟨n1, n2, _, _, n5, _⟩ := kdk_ok t ht
      have v1 : mz_nb (mz_i2b (nI (kdk t))) = by8 (kdk t) := nb_i2b _
      have v2 : mz_nb (mz_i2b (nI (ixk t))) = by8 (ixk t) := nb_i2b _
      have e141 : ∀ h, (mz_sI (mz_pI N 232 141 (nI (2 + 30 * cnt kt t))) 334 h).1 232 141 = nI (2 + 30 * cnt kt t) := fun h => by rw [sI_n (by decide), pI_s, sI_e, up_a, if_pos rfl]
      have ew : mz_wI (mz_sI (mz_pI N 232 141 (nI (2 + 30 * cnt kt t))) 334 f) 334 (nI (2 + 30 * cnt kt t)) (by8 (kdk t)) = mz_sI (mz_pI N 232 141 (nI (2 + 30 * cnt kt t))) 334 (upd f (2 + 30 * cnt kt t) (by8 (kdk t))) := by
        rw [wI_s, sI_e, sI_sI, nI_clamp (by omega)]
      have o1 : nI (2 + 30 * cnt kt t) + 1 = nI (2 + 30 * cnt kt t + 1) := nI_1 _
      have ew2 : mz_wI (mz_sI (mz_pI N 232 141 (nI (2 + 30 * cnt kt t))) 334 (upd f (2 + 30 * cnt kt t) (by8 (kdk t)))) 334 (nI (2 + 30 * cnt kt t + 1)) (by8 (ixk t)) = mz_sI (mz_pI N 232 141 (nI (2 + 30 * cnt kt t))) 334 (upd (upd f (2 + 30 * cnt kt t) (by8 (kdk t))) (2 + 30 * cnt kt t + 1) (by8 (ixk t))) := by
        rw [wI_s, sI_e, sI_sI, nI_clamp (by omega)]
      have ib1 : mz_ib (nI (2 + 30 * cnt kt t)) 4100 := ib_n (by omega) (by omega)
      have ib2 : mz_ib (nI (2 + 30 * cnt kt t + 1)) 4100 := ib_n (by omega) (by omega)
      rw [if_pos w, k2, k4, v1, v2, e141, ew, e141, o1, ew2, cf_601_72, cp_601_72, nI_1, cp_601_74, cf_601_74]
      generalize hF : upd (upd f (2 + 30 * cnt kt t) (by8 (kdk t))) (2 + 30 * cnt kt t + 1) (by8 (ixk t)) = F
      obtain ⟨i1, g, i2, i3⟩ := lp_fill (f := cq_601_74 (nI (cnt kt t + 1)) (nI t)) (P := cd_601_74 (nI (cnt kt t + 1)) (nI t)) (N := mz_sI (mz_pI N 232 141 (nI (2 + 30 * cnt kt t))) 334 F) 334 (2 + 30 * cnt kt t + 2) 28 (fun j => by8 (kb t j)) (fun M => cf_601_121 (nI (cnt kt t + 1)) (nI t) (mz_pI M 232 141 (M.1 232 141 + 30))) (by omega) (fun j hj g => by
        rw [sI_sI]
        have lj : nI j < 28 := (nI_ltI (b := 28) (by omega) (by omega)).mpr hj
        have p1 : (28 : Int32) * nI t + nI j = nI (28 * t + j) := by rw [show (28 : Int32) = nI 28 from rfl, pk_mul, nI_add]
        have p2 : nI (2 + 30 * cnt kt t) + 2 + nI j = nI (2 + 30 * cnt kt t + 2 + j) := by rw [show (2 : Int32) = nI 2 from rfl, nI_add, nI_add]
        have g331 : mz_gI (mz_sI (mz_pI N 232 141 (nI (2 + 30 * cnt kt t))) 334 g) 331 (nI (28 * t + j)) = by8 (kb t j) := by
          rw [gI_a, sI_n (by decide), pI_s, sI_n (by decide), nI_clamp (by omega)]; exact h3 t ht w j hj
        have ibj : mz_ib (nI (28 * t + j)) 3780 := ib_n (by omega) (by omega)
        have ibk : mz_ib (nI (2 + 30 * cnt kt t + 2 + j)) 4100 := ib_n (by omega) (by omega)
        rw [cd_601_74, cq_601_74]
        simp only [lj, if_true, p1, e141, p2, g331, by8_nb, cf_601_104, nI_1]
        exact ⟨⟨fun _ => ⟨ibj, ibk, trivial⟩, fun z => absurd trivial z⟩, trivial⟩) (fun g => by
        have lj : ¬ nI 28 < 28 := by decide
        rw [cd_601_74, cq_601_74]
        simp only [lj, if_false]
        exact ⟨⟨False.elim, fun _ => trivial⟩, trivial⟩)
      rw [i2, sI_sI, e141, sI_p, cf_601_121, nI_1]
      refine ⟨⟨fun _ => ⟨ib, z01, fun _ => ⟨k1, ib1, k1, ib2, i1⟩, fun z => absurd w z⟩, fun z => absurd trivial z⟩, Or.inl ⟨_, rfl, g, by rw [cnt_sT w, show nI (2 + 30 * cnt kt t) + 30 = nI (2 + 30 * (cnt kt t + 1)) from nI_add _ _], fun i y1 y2 => ?_⟩⟩
      rw [cnt_sT w] at y2
      rw [i3, sI_e, ← hF, up_a, up_a]
      show _ = by8 ((if kt t = true then fun i => _ else tpR kt kb t) i)
      rw [if_pos w]
      show _ = by8 (if i = _ then _ else _)
      by_cases x1 : i = 2 + 30 * cnt kt t
      · rw [if_neg (by omega), if_neg (by omega), if_pos x1, if_pos x1]
      · by_cases x2 : i = 2 + 30 * cnt kt t + 1
        · rw [if_neg (by omega), if_pos x2, if_neg x1, if_pos x2]
        · by_cases x3 : 2 + 30 * cnt kt t + 2 ≤ i ∧ i < 2 + 30 * cnt kt t + 30
          · rw [if_pos (by omega), if_neg x1, if_neg x2, if_pos x3]
          · rw [if_neg (by omega), if_neg x2, if_neg x1, if_neg x1, if_neg x2, if_neg x3]
            exact f2 i y1 (by omega)
    · rw [if_neg w, cf_601_121, nI_1]
      refine ⟨⟨fun _ => ⟨ib, z01, fun z => absurd z w, fun _ => trivial⟩, fun z => absurd trivial z⟩, Or.inl ⟨_, rfl, f, by rw [cnt_sF w, nI_1 t], fun i i1 i2 => ?_⟩⟩
      rw [cnt_sF w] at i2
      show _ = by8 ((if kt t = true then fun i => _ else tpR kt kb t) i)
      rw [if_neg w]
      exact f2 i i1 i2
  · rintro s ⟨f, rfl, f2⟩
    have l : ¬ nI 135 < 135 := by decide
    have eE : 2 + 30 * cnt kt 135 = tpE kt := rfl
    rw [eE] at f2 ⊢
    have hE := tpE_b (kt := kt)
    have E2 : 2 ≤ tpE kt := by unfold tpE; omega
    have c135 := cnt_le kt 135
    have e141 : ∀ h, (mz_sI (mz_pI N 232 141 (nI (tpE kt))) 334 h).1 232 141 = nI (tpE kt) := fun h => by rw [sI_n (by decide), pI_s, sI_e, up_a, if_pos rfl]
    obtain ⟨a1, f', a2, a3⟩ := wr_r (a := 334) (n := 4100) (p := 0) (k := 2) (v := lN (cnt kt 135)) (N := mz_sI (mz_pI N 232 141 (nI (tpE kt))) 334 f) (by omega) (by omega) (by omega)
    have a1' : cp_412_0 334 4100 0 2 (lN (cnt kt 135)) (mz_sI (mz_pI N 232 141 (nI (tpE kt))) 334 f) := a1
    have a2' : cf_412_0 334 4100 0 2 (lN (cnt kt 135)) (mz_sI (mz_pI N 232 141 (nI (tpE kt))) 334 f) = mz_sI (mz_pI N 232 141 (nI (tpE kt))) 334 f' := by
      have := a2; rw [sI_sI] at this; exact this
    have fD : ∀ i, i < tpE kt → f' i = by8 (tpD kt kb i) := fun i hi => by
      rw [a3, sI_e]
      unfold tpD
      by_cases y : i < 2
      · rw [if_pos (by omega), if_pos y, Nat.sub_zero]
      · rw [if_neg (by omega), if_neg y]; exact f2 i (by omega) hi
    obtain ⟨c1, c2⟩ := cr_r (a := 334) (n := 4100) (p := 0) (k := tpE kt) (d := tpD kt kb) (N := mz_sI (mz_pI N 232 141 (nI (tpE kt))) 334 f') (fun i hi => by rw [sI_e, Nat.zero_add]; exact ⟨fD i hi, tpD_b hb i⟩) (by omega) (by omega)
    have c1' : cp_413_0 334 4100 0 (nI (tpE kt)) (mz_sI (mz_pI N 232 141 (nI (tpE kt))) 334 f') := c1
    have c2' : cf_413_0 334 4100 0 (nI (tpE kt)) (mz_sI (mz_pI N 232 141 (nI (tpE kt))) 334 f') = crv (tpD kt kb) 0 (tpE kt) := c2
    obtain ⟨d1, g, d2, d3⟩ := wr_r (a := 334) (n := 4100) (p := tpE kt) (k := 4) (v := (crv (tpD kt kb) 0 (tpE kt)).toInt64) (N := mz_sI (mz_pI N 232 141 (nI (tpE kt))) 334 f') (by omega) (by omega) (by omega)
    have d1' : cp_412_0 334 4100 (nI (tpE kt)) 4 (crv (tpD kt kb) 0 (tpE kt)).toInt64 (mz_sI (mz_pI N 232 141 (nI (tpE kt))) 334 f') := d1
    have d2' : cf_412_0 334 4100 (nI (tpE kt)) 4 (crv (tpD kt kb) 0 (tpE kt)).toInt64 (mz_sI (mz_pI N 232 141 (nI (tpE kt))) 334 f') = mz_sI (mz_pI N 232 141 (nI (tpE kt))) 334 g := by
      have := d2; rw [sI_sI] at this; exact this
    have v7 : (mz_sI (mz_pI N 232 141 (nI (tpE kt + 4))) 334 g).1 232 141 = nI (tpE kt + 4) := by rw [sI_n (by decide), pI_s, sI_e, up_a, if_pos rfl]
    have lc : (nI (cnt kt 135)).toInt64 = lN (cnt kt 135) := nI_L (by omega)
    have e4 : nI (tpE kt) + 4 = nI (tpE kt + 4) := nI_add _ _
    rw [cd_601_18, cq_601_18]
    simp only [l, if_false, lc, a2', e141, c2', d2', cf_601_163, e4, sI_p, v7]
    refine ⟨⟨False.elim, fun _ => ⟨a1', c1', d1', trivial⟩⟩, _, rfl, g, rfl, fun i hi => ?_⟩
    rw [d3, sI_e]
    unfold tpA
    by_cases y : i < tpE kt
    · rw [if_neg (by omega), if_pos y]; exact fD i y
    · rw [if_pos (by omega), if_neg y]
  · show (0, 0, mz_pI N 232 141 2) = (nI 0, nI 0, mz_sI (mz_pI N 232 141 (nI 2)) 334 _)
    rw [show mz_pI N 232 141 (nI 2) = mz_pI N 232 141 2 from rfl, sI_same]; rfl
  · have : cnt kt 0 = 0 := rfl
    rw [this] at h2; omega
theorem image_al (h : Sm q B N1 b N2) : cp_370_0 N1 ∧ cp_601_0 N2 ∧ cal1 q B b N1 N2 (cf_370_0 N1) (cf_601_0 N2) := by
  rcases Sm_0 h with ⟨hu, u1, u2, F1, Ft, Ff, Fs, F3, F4⟩ | ⟨u1, u2, F1, Fd, F3, F4⟩
  · obtain ⟨p, C, s, D, H, x, L, R, h1, h2, h3, h4, h5, h6⟩ := id hu
    obtain ⟨⟨o1, o2⟩, o3⟩ := h3.cs.ks.ok
    have hb : ∀ k i, s.2.2.2.2.2.2 k i < 256 := o1.2.2.2.2.2.2
    obtain ⟨c1, c2, c3, c4, c5, c6, c7, c8⟩ := h3.cs.ks.c
    obtain ⟨r1, r2, r3, r4, r5, r6, r7, r8⟩ := h3.cs.ks.r
    obtain ⟨a1, f, a2, a3⟩ := c_tape c7 c8 hb
    obtain ⟨b1', g, b2, b3⟩ := r_tape (N := mz_pI N2 232 0 0) (kt := s.2.2.2.2.2.1) (kb := s.2.2.2.2.2.2) r7 r8 hb
    have hE := tpE_b (kt := s.2.2.2.2.2.1)
    have ab := tpA_b (kt := s.2.2.2.2.2.1) hb
    generalize tpE s.2.2.2.2.2.1 = E at a2 a3 b2 b3 hE
    generalize tpA s.2.2.2.2.2.1 s.2.2.2.2.2.2 = ta at a3 b3 ab
    have f1 : fq [1, 228] [] N1 (mz_pI (mz_sI N1 228 f) 1 10 (nI (E + 4))) := fq_pI (fq_sI (fq_refl _ _ _) rfl) rfl
    have x1 : (mz_pI (mz_sI N1 228 f) 1 10 (nI (E + 4))).1 1 = upd (N1.1 1) 10 (nI (E + 4)) := by rw [pI_s, sI_e, sI_n (by decide)]
    have x228 : (mz_pI (mz_sI N1 228 f) 1 10 (nI (E + 4))).1 228 = f := by rw [pI_s, sI_n (by decide), sI_e]
    have f2 : fq [232, 334] [] N2 (mz_sI (mz_pI (mz_pI N2 232 0 0) 232 141 (nI (E + 4))) 334 g) := fq_sI (fq_pI (fq_pI (fq_refl _ _ _) rfl) rfl) rfl
    have i2 : ∀ f', f' ≠ 0 → f' ≠ 141 → (mz_sI (mz_pI (mz_pI N2 232 0 0) 232 141 (nI (E + 4))) 334 g).1 232 f' = N2.1 232 f' := fun f' y1 y2 => by rw [sI_n (by decide), pI_s, sI_e, up_a, if_neg y2, pI_s, sI_e, up_a, if_neg y1]
    have y141 : (mz_sI (mz_pI (mz_pI N2 232 0 0) 232 141 (nI (E + 4))) 334 g).1 232 141 = nI (E + 4) := by rw [sI_n (by decide), pI_s, sI_e, up_a, if_pos rfl]
    have h0 : (mz_sI (mz_pI (mz_pI N2 232 0 0) 232 141 (nI (E + 4))) 334 g).1 232 0 = 0 := by rw [sI_n (by decide), pI_s, sI_e, up_a, if_neg (by decide)]; exact code_0
    have y334 : (mz_sI (mz_pI (mz_pI N2 232 0 0) 232 141 (nI (E + 4))) 334 g).1 334 = g := sI_e _ _ _
    have e1 : cf_370_0 N1 = (0, nI (E + 4), mz_pI (mz_sI N1 228 f) 1 10 (nI (E + 4))) := by
      rw [cf_370_0, u2, if_pos rfl, a2, x1, up_a, if_pos rfl]
    have e2 : cf_601_0 N2 = (nI (E + 4), mz_sI (mz_pI (mz_pI N2 232 0 0) 232 141 (nI (E + 4))) 334 g) := by
      rw [cf_601_0, F4, if_neg (fun z => by cases z)]; exact b2
    refine ⟨⟨u1, fun _ => a1, fun _ => trivial⟩, by rw [cp_601_0, F4]; exact ⟨F3, (fun z => by cases z), fun _ => b1'⟩, ?_⟩
    rw [e1, e2]
    generalize mz_pI (mz_sI N1 228 f) 1 10 (nI (E + 4)) = M1 at f1 x1 x228
    generalize mz_sI (mz_pI (mz_pI N2 232 0 0) 232 141 (nI (E + 4))) 334 g = M2 at f2 i2 y141 h0 y334
    have mr : MR p C s D H x L M1 b M2 := MR_q h3 f1 f2 rfl rfl rfl rfl (fun f hf => i2 f (fun z => by rw [z] at hf; cases hf) (fun z => by rw [z] at hf; cases hf)) (f2.2 232 rfl) (ckp_q h3.cs.ks.kc f1 rfl rfl) (rkp_q h3.cs.ks.kr f2 rfl rfl (i2 27 (by decide) (by decide)) (i2 21 (by decide) (by decide)) (fun f _ => by rw [f2.2 232 rfl]))
    have rs : RsR H L (R.dr, R.bs, R.ve, R.tl, R.tx, R.wr, R.wh, R.lg, E + 4, ta, R.rn, R.ra) M1 M2 := by
      obtain ⟨a1', a2, a3', a4, a5, a6, a7, a8, a9, a10, a11, a12, a13, a14, a15⟩ := h4
      refine ⟨fun d hd i hi => ?_, ?_, a3', ?_, ?_, ?_, ?_, ?_, a9, ?_, ?_, ?_, ?_, a14, a15⟩
      · have d1 : M1.1 (5 + d) = N1.1 (5 + d) ∧ M1.1 (9 + d) = N1.1 (9 + d) := by
          rcases (show d = 0 ∨ d = 1 ∨ d = 2 by omega) with w | w | w <;> subst w <;> exact ⟨f1.1 _ rfl, f1.1 _ rfl⟩
        rw [d1.1, d1.2]; exact a1' d hd i hi
      · rw [f2.1 233 rfl]; exact a2
      · rw [f1.1 2 rfl, i2 4 (by decide) (by decide)]; exact a4
      · rw [f1.1 41 rfl, i2 25 (by decide) (by decide)]; exact a5
      · rw [f1.1 42 rfl, f2.1 251 rfl]; exact a6
      · rw [f1.1 41 rfl, i2 36 (by decide) (by decide), i2 34 (by decide) (by decide), i2 35 (by decide) (by decide)]; exact a7
      · rw [f1.1 109 rfl, f2.1 316 rfl]; exact a8
      · rw [f1.1 100 rfl, i2 112 (by decide) (by decide)]; exact a10
      · rw [f1.1 111 rfl, f1.1 112 rfl, f1.1 113 rfl, f1.1 114 rfl, f2.2 317 rfl, f2.1 318 rfl, f2.1 319 rfl, f2.1 320 rfl]; exact a11
      · refine ⟨by rw [x1, up_a, if_pos rfl], y141, hE, fun i hi => ?_⟩
        rw [x228, y334]
        exact ⟨a3 i hi, b3 i hi, ab i⟩
      · rw [x1, f1.1 229 rfl, i2 143 (by decide) (by decide), f2.1 335 rfl, up_a, if_neg (by decide)]; exact a13
    exact cal1_u h0 rfl (oF_q f1 f2 rfl rfl rfl rfl) ⟨p, C, s, D, H, x, L, _, h1, h2, mr, rs, h5, h6⟩
  · have e1 : cf_370_0 N1 = (2, 0, N1) := by rw [cf_370_0, u2, if_neg (by decide)]
    have e2 : cf_601_0 N2 = (0, mz_pI N2 232 0 1) := by rw [cf_601_0, F4, if_pos rfl]
    refine ⟨by rw [cp_370_0, u2]; exact ⟨u1, (fun z => by cases z), fun _ => trivial⟩, by rw [cp_601_0, F4]; exact ⟨F3, fun _ => trivial, fun z => absurd rfl z⟩, ?_⟩
    rw [e1, e2]
    exact cal1_d (a := 0) (a' := 0) h rfl rfl
end Im
