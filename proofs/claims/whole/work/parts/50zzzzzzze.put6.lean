/-! PURE (50zzzzzzze): put: numbers apart, the text of a reel. -/
theorem nI_e32 {x y : Nat} (hx : x < 2 ^ 32) (hy : y < 2 ^ 32) : nI x = nI y ↔ x = y := by
  refine ⟨fun h => ?_, fun h => by rw [h]⟩
  have h1 : (nI x).toBitVec.toNat = (nI y).toBitVec.toNat := by rw [h]
  rw [nI_bv, nI_bv, BitVec.toNat_ofNat, BitVec.toNat_ofNat, Nat.mod_eq_of_lt hx, Nat.mod_eq_of_lt hy] at h1
  exact h1
theorem qv4_e {g h : Nat → Nat} {p q : Nat} (hg : ∀ j, g j < 256) (hh : ∀ j, h j < 256) : qv4 g p = qv4 h q ↔ num g p 4 = num h q 4 := by
  unfold qv4
  refine ⟨fun e => ?_, fun e => by rw [e]⟩
  have e1 : nI (num g p 4) = nI (num h q 4) := by rw [← toInt64_32 (nI (num g p 4)), e, toInt64_32]
  exact (nI_e32 (num_lt (n := 4) (fun i _ => hg _)) (num_lt (n := 4) (fun i _ => hh _))).mp e1
/-- two tickets with one number -/
def cls (kb : Nat → Nat → Nat) (v s : Nat) : Prop := kb (51 + v) 0 = 1 ∧ kb (51 + s) 0 = 1 ∧ num (kb (51 + v)) 8 4 = num (kb (51 + s)) 8 4
section Nu
variable {N : mz_N} {kt : Nat → Bool} {kb : Nat → Nat → Nat}
theorem c405 (hc : ∀ k, k < 135 → ∀ j, j < 28 → N.1 230 (28 * k + j) = nI (kb k j)) (hg : ∀ k j, kb k j < 256) : cp_405_0 N ∧ (cf_405_0 N = true ↔ ∀ v, 0 ≤ v → v < 16 → ∀ s, v + 1 ≤ s → s < 16 → ¬ cls kb v s) := by
  have AD : ∀ v, v < 16 → (51 + nI v) * 28 = nI (28 * (51 + v)) := fun v hv => by
    rw [show (51 : Int32) = nI 51 from rfl, show (28 : Int32) = nI 28 from rfl, nI_add, pk_mul, Nat.mul_comm]
  have A8 : ∀ v, v < 16 → nI (28 * (51 + v)) + 8 = nI (28 * (51 + v) + 8) := fun v hv => nI_add _ _
  have B0 : ∀ v, v < 16 → mz_ib (nI (28 * (51 + v))) 3780 ∧ mz_gI N 230 (nI (28 * (51 + v))) = nI (kb (51 + v) 0) := fun v hv => c_by (k := 51 + v) (p := 0) (hc (51 + v) (by omega)) (by omega) (by omega)
  have R4 : ∀ v, v < 16 → cp_61_0 230 3780 (nI (28 * (51 + v) + 8)) 4 N ∧ cf_61_0 230 3780 (nI (28 * (51 + v) + 8)) 4 N = qv4 (kb (51 + v)) 8 := fun v hv => c_r4 (k := 51 + v) (p := 8) (hc (51 + v) (by omega)) (hg _) (by omega) (by omega)
  have q1 : ∀ v, (nI (kb (51 + v) 0) = 1) = (kb (51 + v) 0 = 1) := fun v => propext (nI_eq (b := 1) (by have := hg (51 + v) 0; omega) (by omega))
  have IN : ∀ v, v < 16 → cp_405_12 (nI v) (nI (v + 1)) N ∧ ((∀ s, v + 1 ≤ s → s < 16 → ¬ cls kb v s) → cf_405_12 (nI v) (nI (v + 1)) N = .inl (nI (v + 1))) ∧ (¬ (∀ s, v + 1 ≤ s → s < 16 → ¬ cls kb v s) → cf_405_12 (nI v) (nI (v + 1)) N = .inr false) := fun v hv => by
    rw [cp_405_12, cf_405_12]
    refine lp_allc (f := cq_405_12 (nI v) N) (P := cd_405_12 (nI v) N) (rT := .inl (nI (v + 1))) (rF := .inr false) (v + 1) 16 (fun s => ¬ cls kb v s) (by omega) (fun s h1 h2 => ?_) ?_
    · have l : nI s < 16 := (nI_ltI (b := 16) (by omega) (by omega)).mpr h2
      obtain ⟨x1, x2⟩ := B0 v hv
      obtain ⟨y1, y2⟩ := B0 s h2
      obtain ⟨z1, z2⟩ := R4 v hv
      obtain ⟨w1, w2⟩ := R4 s h2
      have qe : (qv4 (kb (51 + v)) 8 = qv4 (kb (51 + s)) 8) = (num (kb (51 + v)) 8 4 = num (kb (51 + s)) 8 4) := propext (qv4_e (hg _) (hg _))
      rw [cd_405_12, cq_405_12]
      simp only [l, if_true, AD v hv, AD s h2, A8 v hv, A8 s h2, x2, y2, z2, w2, q1, qe, cf_405_87, nI_1]
      refine ⟨⟨fun _ => ⟨x1, fun _ => ⟨y1, fun _ => ⟨z1, w1, fun _ => trivial, fun _ => trivial⟩, fun _ => trivial⟩, fun _ => trivial⟩, fun z => absurd trivial z⟩, fun w => ?_, fun w => ?_⟩
      · by_cases a : kb (51 + v) 0 = 1
        · by_cases b : kb (51 + s) 0 = 1
          · rw [if_pos a, if_pos b, if_neg (fun c => w ⟨a, b, c⟩)]
          · rw [if_pos a, if_neg b]
        · rw [if_neg a]
      · have w' : cls kb v s := Classical.byContradiction w
        rw [if_pos w'.1, if_pos w'.2.1, if_pos w'.2.2]
    · have l : ¬ nI 16 < 16 := by decide
      rw [cd_405_12, cq_405_12]
      simp only [l, if_false, nI_1]
      exact ⟨⟨False.elim, fun _ => trivial⟩, trivial⟩
  rw [cp_405_0, cf_405_0, cp_405_2, cf_405_2]
  obtain ⟨a1, a2, a3⟩ := lp_allc (f := cq_405_2 N) (P := cd_405_2 N) (rT := true) (rF := false) 0 16 (fun v => ∀ s, v + 1 ≤ s → s < 16 → ¬ cls kb v s) (by omega) (fun v h1 h2 => by
    have l : nI v < 16 := (nI_ltI (b := 16) (by omega) (by omega)).mpr h2
    obtain ⟨x1, x2, x3⟩ := IN v h2
    rw [cd_405_2, cq_405_2]
    simp only [l, if_true, nI_1]
    exact ⟨⟨fun _ => x1, fun z => absurd trivial z⟩, x2, x3⟩) (by
    have l : ¬ nI 16 < 16 := by decide
    rw [cd_405_2, cq_405_2]
    simp only [l, if_false]
    exact ⟨⟨False.elim, fun _ => trivial⟩, trivial⟩)
  exact ⟨a1, iff_b a2 a3⟩
/-- the text of a reel -/
def rtx (kb : Nat → Nat → Nat) (j : Nat) : Nat := if j < 196 then kb (26 + j / 28) (j % 28) else 0
def tok (n : Nat) (tx : Nat → Nat) : Prop := ∀ t, 0 ≤ t → t < 196 → (if t < n then 32 ≤ tx t ∧ tx t ≤ 126 else tx t = 0)
theorem c_find (hc : ∀ k, k < 135 → ∀ j, j < 28 → N.1 230 (28 * k + j) = nI (kb k j)) (hg : ∀ k j, kb k j < 256) : cp_74_0 230 728 N ∧ (kb 33 0 < 197 ∧ blk (kb 33) 1 ∧ tok (kb 33 0) (rtx kb) → ∃ f, cf_74_0 230 728 N = (true, mz_pI (mz_sI N 55 f) 41 9 (nI (kb 33 0))) ∧ ∀ j, j < 196 → f j = nI (rtx kb j)) ∧ (¬ (kb 33 0 < 197 ∧ blk (kb 33) 1 ∧ tok (kb 33 0) (rtx kb)) → ∃ f, cf_74_0 230 728 N = (false, mz_sI N 55 f)) := by
  have g0 := hg 33 0
  have e924 : (728 : Int32) + 196 = nI (28 * 33) := rfl
  obtain ⟨z1, z2⟩ := c_by (k := 33) (p := 0) (hc 33 (by omega)) (by omega) (by omega)
  have z1' : mz_ib (nI (28 * 33)) 3780 := z1
  have z2' : mz_gI N 230 (nI (28 * 33)) = nI (kb 33 0) := z2
  obtain ⟨f1, f2⟩ := c_blk (k := 33) (p := 1) (hc 33 (by omega)) (hg 33) (by omega) (by omega)
  have f1' : cp_75_0 230 (nI (28 * 33)) 1 N := f1
  have f2' : cf_75_0 230 (nI (28 * 33)) 1 N = true ↔ blk (kb 33) 1 := f2
  have q : (196 < nI (kb 33 0)) = (¬ kb 33 0 < 197) := propext ((nI_ltI (a := 196) (by omega) (by omega)).trans ⟨fun z => by omega, fun z => by omega⟩)
  rw [cp_74_0, cf_74_0, e924, z2']
  simp only [q]
  by_cases w : kb 33 0 < 197
  · rw [if_neg (fun z => z w)]
    by_cases v : blk (kb 33) 1
    · rw [if_pos (f2'.mpr v)]
      suffices h : cp_74_33 230 728 (nI (kb 33 0)) 0 N ∧ (tok (kb 33 0) (rtx kb) → ∃ f, cf_74_33 230 728 (nI (kb 33 0)) 0 N = (true, mz_pI (mz_sI N 55 f) 41 9 (nI (kb 33 0))) ∧ ∀ j, j < 196 → f j = nI (rtx kb j)) ∧ (¬ tok (kb 33 0) (rtx kb) → ∃ f, cf_74_33 230 728 (nI (kb 33 0)) 0 N = (false, mz_sI N 55 f)) by
        exact ⟨⟨z1', fun z => absurd w z, fun _ => ⟨f1', fun _ => h.1, fun z => absurd (f2'.mpr v) z⟩⟩, fun z => h.2.1 z.2.2, fun z => h.2.2 (fun y => z ⟨w, v, y⟩)⟩
      generalize kb 33 0 = n at g0 w ⊢
      rw [cp_74_33, cf_74_33]
      refine mz_lpn (f := cq_74_33 230 728 (nI n)) (P := cd_74_33 230 728 (nI n)) (Q := fun r => (tok n (rtx kb) → ∃ f, r = (true, mz_pI (mz_sI N 55 f) 41 9 (nI n)) ∧ ∀ j, j < 196 → f j = nI (rtx kb j)) ∧ (¬ tok n (rtx kb) → ∃ f, r = (false, mz_sI N 55 f))) 196 (fun t s => ∃ f, s = (nI t, mz_sI N 55 f) ∧ (∀ j, j < t → f j = nI (rtx kb j)) ∧ ∀ j, j < t → (if j < n then 32 ≤ rtx kb j ∧ rtx kb j ≤ 126 else rtx kb j = 0)) ?_ ?_ (Nat.zero_le _) ⟨N.1 55, by rw [sI_same]; rfl, fun j hj => by omega, fun j hj => by omega⟩
      · rintro t s ht ⟨f, rfl, hf, hok⟩
        have l : nI t < 196 := (nI_ltI (b := 196) (by omega) (by omega)).mpr ht
        have ib : mz_ib (nI t) 196 := ib_n ht (by omega)
        have ea : (728 : Int32) + nI t = nI (28 * (26 + t / 28) + t % 28) := by
          rw [show (728 : Int32) = nI 728 from rfl, nI_add]; congr 1; omega
        obtain ⟨b1', b2⟩ := c_by (N := mz_sI N 55 f) (k := 26 + t / 28) (p := t % 28) (g := kb (26 + t / 28)) (fun j hj => by rw [sI_n (by decide)]; exact hc (26 + t / 28) (by omega) j hj) (by omega) (Nat.mod_lt _ (by omega))
        have er : kb (26 + t / 28) (t % 28) = rtx kb t := by unfold rtx; rw [if_pos ht]
        have gr : rtx kb t < 256 := by rw [← er]; exact hg _ _
        rw [er] at b2
        have qt : (nI t < nI n) = (t < n) := propext (nI_ltI (by omega) (by omega))
        have q1 : (nI (rtx kb t) < 32) = (rtx kb t < 32) := propext (nI_ltI (b := 32) (by omega) (by omega))
        have q2 : (126 < nI (rtx kb t)) = (126 < rtx kb t) := propext (nI_ltI (a := 126) (by omega) (by omega))
        have q3 : (nI (rtx kb t) = 0) = (rtx kb t = 0) := propext (nI_eq0 (by omega))
        have ew : mz_wI (mz_sI N 55 f) 55 (nI t) (nI (rtx kb t)) = mz_sI N 55 (upd f t (nI (rtx kb t))) := by rw [wI_s, sI_e, sI_sI, nI_clamp (by omega)]
        have NX : (if t < n then 32 ≤ rtx kb t ∧ rtx kb t ≤ 126 else rtx kb t = 0) → ∃ f', (nI (t + 1), mz_sI N 55 (upd f t (nI (rtx kb t)))) = (nI (t + 1), mz_sI N 55 f') ∧ (∀ j, j < t + 1 → f' j = nI (rtx kb j)) ∧ ∀ j, j < t + 1 → (if j < n then 32 ≤ rtx kb j ∧ rtx kb j ≤ 126 else rtx kb j = 0) := fun ok => ⟨_, rfl, fun j hj => by
          rw [up_a]
          by_cases y : j = t
          · rw [if_pos y, y]
          · rw [if_neg y]; exact hf j (by omega), fun j hj => by
          by_cases y : j = t
          · rw [y]; exact ok
          · exact hok j (by omega)⟩
        have FL : ¬ (if t < n then 32 ≤ rtx kb t ∧ rtx kb t ≤ 126 else rtx kb t = 0) → (tok n (rtx kb) → ∃ f_1, (false, mz_sI N 55 f) = (true, mz_pI (mz_sI N 55 f_1) 41 9 (nI n)) ∧ ∀ j, j < 196 → f_1 j = nI (rtx kb j)) ∧ (¬ tok n (rtx kb) → ∃ f_1, (false, mz_sI N 55 f) = (false, mz_sI N 55 f_1)) := fun bad => ⟨fun z => absurd (z t (Nat.zero_le _) ht) bad, fun _ => ⟨f, rfl⟩⟩
        rw [cd_74_33, cq_74_33]
        simp only [l, if_true, ea, b2, qt, q1, q2, q3, cf_74_79, cp_74_79, ew, nI_1]
        refine ⟨⟨fun _ => ⟨b1', fun _ => ⟨fun _ => trivial, fun _ => ⟨fun _ => trivial, fun _ => ib⟩⟩, fun _ => ⟨fun _ => ib, fun _ => trivial⟩⟩, fun z => absurd trivial z⟩, ?_⟩
        by_cases y : t < n
        · rw [if_pos y] at NX FL
          rw [if_pos y]
          by_cases y1 : rtx kb t < 32
          · rw [if_pos y1]; exact Or.inr ⟨_, rfl, FL (fun z => by omega)⟩
          · rw [if_neg y1]
            by_cases y2 : 126 < rtx kb t
            · rw [if_pos y2]; exact Or.inr ⟨_, rfl, FL (fun z => by omega)⟩
            · rw [if_neg y2]; exact Or.inl ⟨_, rfl, NX ⟨by omega, by omega⟩⟩
        · rw [if_neg y] at NX FL
          rw [if_neg y]
          by_cases y1 : rtx kb t = 0
          · rw [if_pos y1]; exact Or.inl ⟨_, rfl, NX y1⟩
          · rw [if_neg y1]; exact Or.inr ⟨_, rfl, FL y1⟩
      · rintro s ⟨f, rfl, hf, hok⟩
        have l : ¬ nI 196 < 196 := by decide
        rw [cd_74_33, cq_74_33]
        simp only [l, if_false]
        exact ⟨⟨False.elim, fun _ => trivial⟩, _, rfl, fun _ => ⟨f, rfl, hf⟩, fun z => absurd (fun t _ h2 => hok t h2) z⟩
    · rw [if_neg (fun z => v (f2'.mp z))]
      exact ⟨⟨z1', fun z => absurd w z, fun _ => ⟨f1', fun z => absurd (f2'.mp z) v, fun _ => trivial⟩⟩, fun z => absurd z.2.1 v, fun _ => ⟨N.1 55, by rw [sI_same]⟩⟩
  · rw [if_pos w]
    exact ⟨⟨z1', fun _ => trivial, fun z => absurd w z⟩, fun z => absurd z.1 w, fun _ => ⟨N.1 55, by rw [sI_same]⟩⟩
end Nu
