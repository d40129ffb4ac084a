/-! PURE (50zzzzzzz): put: reading a reel's keys. -/
section Lp
variable {N0 : mz_N}
/-- a loop that asks all places, in the class -/
theorem lp_allc {τ : Type} [Nonempty τ] {f : Int32 → Int32 ⊕ τ} {P : Int32 → Prop} {rT rF : τ} (p n : Nat) (Q : Nat → Prop) (hp : p ≤ n) (hs : ∀ t, p ≤ t → t < n → P (nI t) ∧ (Q t → f (nI t) = .inl (nI (t + 1))) ∧ (¬ Q t → f (nI t) = .inr rF)) (he : P (nI n) ∧ f (nI n) = .inr rT) : (∃ m, mz_ok f P m (nI p)) ∧ ((∀ t, p ≤ t → t < n → Q t) → mz_run f (nI p) = rT) ∧ (¬ (∀ t, p ≤ t → t < n → Q t) → mz_run f (nI p) = rF) := by
  refine mz_lpn (f := f) (P := P) (Q := fun r => ((∀ t, p ≤ t → t < n → Q t) → r = rT) ∧ (¬ (∀ t, p ≤ t → t < n → Q t) → r = rF)) n (fun t s => s = nI t ∧ p ≤ t ∧ ∀ j, p ≤ j → j < t → Q j) ?_ ?_ (k := p) hp ⟨rfl, Nat.le_refl _, fun j h1 h2 => by omega⟩
  · rintro t s ht ⟨rfl, h1, h2⟩
    obtain ⟨a1, a2, a3⟩ := hs t h1 ht
    refine ⟨a1, ?_⟩
    by_cases w : Q t
    · refine Or.inl ⟨_, a2 w, rfl, by omega, fun j y1 y2 => ?_⟩
      by_cases y : j = t
      · rw [y]; exact w
      · exact h2 j y1 (by omega)
    · exact Or.inr ⟨_, a3 w, fun z => absurd (z t h1 ht) w, fun _ => rfl⟩
  · rintro s ⟨rfl, h1, h2⟩
    exact ⟨he.1, _, he.2, fun _ => rfl, fun z => absurd h2 z⟩
/-- the same in the reference, which carries a flag -/
theorem lp_allr {τ : Type} [Nonempty τ] {f : Bool × Int32 → (Bool × Int32) ⊕ τ} {P : Bool × Int32 → Prop} {rT rF : τ} (p n : Nat) (Q : Nat → Prop) (hp : p ≤ n) (hs : ∀ t, p ≤ t → t < n → P (true, nI t) ∧ (Q t → f (true, nI t) = .inl (true, nI (t + 1))) ∧ (¬ Q t → f (true, nI t) = .inl (false, nI (t + 1)))) (hf : ∀ t, p ≤ t → t < n → P (false, nI t) ∧ (f (false, nI t) = .inl (false, nI (t + 1)) ∨ f (false, nI t) = .inr rF)) (he : P (true, nI n) ∧ f (true, nI n) = .inr rT) (hf2 : P (false, nI n) ∧ f (false, nI n) = .inr rF) : (∃ m, mz_ok f P m (true, nI p)) ∧ ((∀ t, p ≤ t → t < n → Q t) → mz_run f (true, nI p) = rT) ∧ (¬ (∀ t, p ≤ t → t < n → Q t) → mz_run f (true, nI p) = rF) := by
  refine mz_lpn (f := f) (P := P) (Q := fun r => ((∀ t, p ≤ t → t < n → Q t) → r = rT) ∧ (¬ (∀ t, p ≤ t → t < n → Q t) → r = rF)) n (fun t s => p ≤ t ∧ ((s = (true, nI t) ∧ ∀ j, p ≤ j → j < t → Q j) ∨ (s = (false, nI t) ∧ ∃ j, p ≤ j ∧ j < t ∧ ¬ Q j))) ?_ ?_ (k := p) hp ⟨Nat.le_refl _, Or.inl ⟨rfl, fun j h1 h2 => by omega⟩⟩
  · rintro t s ht ⟨h1, ⟨rfl, h2⟩ | ⟨rfl, j, j1, j2, j3⟩⟩
    · obtain ⟨a1, a2, a3⟩ := hs t h1 ht
      refine ⟨a1, Or.inl ?_⟩
      by_cases w : Q t
      · refine ⟨_, a2 w, by omega, Or.inl ⟨rfl, fun j y1 y2 => ?_⟩⟩
        by_cases y : j = t
        · rw [y]; exact w
        · exact h2 j y1 (by omega)
      · exact ⟨_, a3 w, by omega, Or.inr ⟨rfl, t, h1, by omega, w⟩⟩
    · obtain ⟨a1, a2⟩ := hf t h1 ht
      refine ⟨a1, ?_⟩
      rcases a2 with a2 | a2
      · exact Or.inl ⟨_, a2, by omega, Or.inr ⟨rfl, j, j1, by omega, j3⟩⟩
      · exact Or.inr ⟨_, a2, fun z => absurd (z j j1 (by omega)) j3, fun _ => rfl⟩
  · rintro s ⟨h1, ⟨rfl, h2⟩ | ⟨rfl, j, j1, j2, j3⟩⟩
    · exact ⟨he.1, _, he.2, fun _ => rfl, fun z => absurd h2 z⟩
    · exact ⟨hf2.1, _, hf2.2, fun z => absurd (z j j1 j2) j3, fun _ => rfl⟩
end Lp
theorem iff_b {p : Bool} {Q : Prop} (h1 : Q → p = true) (h2 : ¬ Q → p = false) : p = true ↔ Q := by
  refine ⟨fun z => ?_, h1⟩
  by_cases w : Q
  · exact w
  · rw [h2 w] at z; cases z
/-- the rest of a key is empty -/
def blk (g : Nat → Nat) (p : Nat) : Prop := ∀ j, p ≤ j → j < 28 → g j = 0
def qv2 (g : Nat → Nat) (p : Nat) : Int64 := (nI (num g p 2)).toInt16.toInt64
def qv4 (g : Nat → Nat) (p : Nat) : Int64 := (nI (num g p 4)).toInt64
def qv8 (g : Nat → Nat) (p : Nat) : Int64 := lN (num g p 8)
section Rc
variable {N : mz_N} {g : Nat → Nat} {k p n lo hi : Nat} {a b : Int64}
theorem c_by (hc : ∀ j, j < 28 → N.1 230 (28 * k + j) = nI (g j)) (hk : k < 135) (hp : p < 28) : mz_ib (nI (28 * k + p)) 3780 ∧ mz_gI N 230 (nI (28 * k + p)) = nI (g p) := ⟨ib_n (by omega) (by omega), by rw [gI_a, nI_clamp (by omega)]; exact hc p hp⟩
theorem c_blk (hc : ∀ j, j < 28 → N.1 230 (28 * k + j) = nI (g j)) (hg : ∀ j, g j < 256) (hk : k < 135) (hp : p ≤ 28) : cp_75_0 230 (nI (28 * k)) (nI p) N ∧ (cf_75_0 230 (nI (28 * k)) (nI p) N = true ↔ blk g p) := by
  rw [cp_75_0, cf_75_0, cp_75_2, cf_75_2]
  obtain ⟨a1, a2, a3⟩ := lp_allc (f := cq_75_2 230 (nI (28 * k)) N) (P := cd_75_2 230 (nI (28 * k)) N) (rT := true) (rF := false) p 28 (fun j => g j = 0) hp (fun t h1 h2 => by
    have l : nI t < 28 := (nI_ltI (b := 28) (by omega) (by omega)).mpr h2
    obtain ⟨b1', b2⟩ := c_by hc hk h2
    have gt := hg t
    have e : nI (28 * k) + nI t = nI (28 * k + t) := nI_add _ _
    have q : (nI (g t) = 0) = (g t = 0) := propext (nI_eq0 (by omega))
    rw [cd_75_2, cq_75_2]
    simp only [l, if_true, e, b2, q, nI_1]
    exact ⟨⟨fun _ => b1', fun z => absurd trivial z⟩, fun w => by rw [if_pos w], fun w => by rw [if_neg w]⟩) (by
    have l : ¬ nI 28 < 28 := by decide
    rw [cd_75_2, cq_75_2]
    simp only [l, if_false]
    exact ⟨⟨False.elim, fun _ => trivial⟩, trivial⟩)
  exact ⟨a1, iff_b a2 a3⟩
theorem c_num (hc : ∀ j, j < 28 → N.1 230 (28 * k + j) = nI (g j)) (hg : ∀ j, g j < 256) (hk : k < 135) (hp : p + n ≤ 28) (hn : n ≤ 8) : cp_61_0 230 3780 (nI (28 * k + p)) (nI n) N ∧ cf_61_0 230 3780 (nI (28 * k + p)) (nI n) N = mz_lshr (mz_lshl (lN (num g p n)) (64 - 8 * nI n)) (64 - 8 * nI n) := by
  obtain ⟨a1, a2⟩ := rd_c (a := 230) (n := 3780) (p := 28 * k + p) (k := n) (d := fun x => g (x - 28 * k)) (N := N) (fun i hi => ⟨by
    show _ = nI (g (28 * k + p + i - 28 * k))
    rw [show 28 * k + p + i - 28 * k = p + i by omega, show 28 * k + p + i = 28 * k + (p + i) by omega]
    exact hc (p + i) (by omega), hg _⟩) (by omega) (by omega) hn
  refine ⟨a1, ?_⟩
  rw [a2, num_congr (e := g) (q := p) (fun i hi => by show g (28 * k + p + i - 28 * k) = g (p + i); rw [show 28 * k + p + i - 28 * k = p + i by omega])]
theorem c_r2 (hc : ∀ j, j < 28 → N.1 230 (28 * k + j) = nI (g j)) (hg : ∀ j, g j < 256) (hk : k < 135) (hp : p + 2 ≤ 28) : cp_61_0 230 3780 (nI (28 * k + p)) 2 N ∧ cf_61_0 230 3780 (nI (28 * k + p)) 2 N = qv2 g p := by
  obtain ⟨a1, a2⟩ := c_num (n := 2) hc hg hk hp (by omega)
  exact ⟨a1, a2.trans (sg2 (num_lt (n := 2) (fun i _ => hg _)))⟩
theorem c_r4 (hc : ∀ j, j < 28 → N.1 230 (28 * k + j) = nI (g j)) (hg : ∀ j, g j < 256) (hk : k < 135) (hp : p + 4 ≤ 28) : cp_61_0 230 3780 (nI (28 * k + p)) 4 N ∧ cf_61_0 230 3780 (nI (28 * k + p)) 4 N = qv4 g p := by
  obtain ⟨a1, a2⟩ := c_num (n := 4) hc hg hk hp (by omega)
  exact ⟨a1, a2.trans (sg4 (num_lt (n := 4) (fun i _ => hg _)))⟩
theorem c_r8 (hc : ∀ j, j < 28 → N.1 230 (28 * k + j) = nI (g j)) (hg : ∀ j, g j < 256) (hk : k < 135) (hp : p + 8 ≤ 28) : cp_61_0 230 3780 (nI (28 * k + p)) 8 N ∧ cf_61_0 230 3780 (nI (28 * k + p)) 8 N = qv8 g p := by
  obtain ⟨a1, a2⟩ := c_num (n := 8) hc hg hk hp (by omega)
  exact ⟨a1, a2.trans (sg8 _)⟩
end Rc
section Rr
variable {N : mz_N} {g : Nat → Nat} {k p n lo hi : Nat} {a b : Int64}
theorem r_by (hc : ∀ j, j < 28 → N.1 337 (28 * k + j) = by8 (g j)) (hg : ∀ j, g j < 256) (hk : k < 135) (hp : p < 28) : cp_612_0 (nI (28 * k)) (nI p) N ∧ cf_612_0 (nI (28 * k)) (nI p) N = nI (g p) := by
  rw [cp_612_0, cf_612_0, nI_add, gI_a, nI_clamp (by omega), hc p hp]
  exact ⟨ib_n (by omega) (by omega), by8_and _ (hg p)⟩
theorem r_rng (hc : ∀ j, j < 28 → N.1 337 (28 * k + j) = by8 (g j)) (hg : ∀ j, g j < 256) (hk : k < 135) (hp : p ≤ n) (hn : n ≤ 28) (hl : lo < 256) (hh : hi < 256) : cp_615_0 (nI (28 * k)) (nI p) (nI n) (nI lo) (nI hi) N ∧ (cf_615_0 (nI (28 * k)) (nI p) (nI n) (nI lo) (nI hi) N = true ↔ ∀ j, p ≤ j → j < n → lo ≤ g j ∧ g j ≤ hi) := by
  rw [cp_615_0, cf_615_0, cp_615_6, cf_615_6]
  have nf : ¬ (false = true) := fun z => by cases z
  obtain ⟨a1, a2, a3⟩ := lp_allr (f := cq_615_6 (nI (28 * k)) (nI n) (nI lo) (nI hi) N) (P := cd_615_6 (nI (28 * k)) (nI n) (nI lo) (nI hi) N) (rT := true) (rF := false) p n (fun j => lo ≤ g j ∧ g j ≤ hi) hp (fun t h1 h2 => by
    have l : nI t < nI n := (nI_ltI (by omega) (by omega)).mpr h2
    obtain ⟨b1', b2⟩ := r_by (p := t) hc hg hk (by omega)
    have gt := hg t
    have q1 : (nI (g t) < nI lo) = (g t < lo) := propext (nI_ltI (by omega) (by omega))
    have q2 : (nI hi < nI (g t)) = (hi < g t) := propext (nI_ltI (by omega) (by omega))
    rw [cd_615_6, cq_615_6]
    simp only [l, if_true, b2, q1, q2, cf_615_45, cf_615_46, nI_1]
    refine ⟨⟨fun _ => ⟨fun _ => ⟨b1', fun _ => trivial, fun _ => ⟨b1', fun _ => trivial, fun _ => trivial⟩⟩, fun z => absurd trivial z⟩, fun z => absurd trivial z⟩, fun w => ?_, fun w => ?_⟩
    · rw [if_neg (by omega), if_neg (by omega)]
    · by_cases y : g t < lo
      · rw [if_pos y]
      · rw [if_neg y, if_pos (by omega)]) (fun t h1 h2 => by
    have l : nI t < nI n := (nI_ltI (by omega) (by omega)).mpr h2
    rw [cd_615_6, cq_615_6]
    simp only [l, if_true, cf_615_45, cf_615_46, nI_1]
    exact ⟨⟨fun _ => ⟨fun z => absurd z nf, fun _ => trivial⟩, fun z => absurd trivial z⟩, Or.inl (if_neg nf)⟩) (by
    have l : ¬ nI n < nI n := fun z => by have := (nI_ltI (by omega) (by omega)).mp z; omega
    rw [cd_615_6, cq_615_6]
    simp only [l, if_false]
    exact ⟨⟨False.elim, fun _ => trivial⟩, trivial⟩) (by
    have l : ¬ nI n < nI n := fun z => by have := (nI_ltI (by omega) (by omega)).mp z; omega
    rw [cd_615_6, cq_615_6]
    simp only [l, if_false]
    exact ⟨⟨False.elim, fun _ => trivial⟩, trivial⟩)
  exact ⟨a1, iff_b a2 a3⟩
theorem r_blk (hc : ∀ j, j < 28 → N.1 337 (28 * k + j) = by8 (g j)) (hg : ∀ j, g j < 256) (hk : k < 135) (hp : p ≤ 28) : cp_614_0 (nI (28 * k)) (nI p) N ∧ (cf_614_0 (nI (28 * k)) (nI p) N = true ↔ blk g p) := by
  obtain ⟨a1, a2⟩ := r_rng (p := p) (n := 28) (lo := 0) (hi := 0) hc hg hk hp (by omega) (by omega) (by omega)
  refine ⟨a1, a2.trans ⟨fun h j h1 h2 => ?_, fun h j h1 h2 => ?_⟩⟩
  · have := h j h1 h2; omega
  · have := h j h1 h2; omega
theorem r_num (hc : ∀ j, j < 28 → N.1 337 (28 * k + j) = by8 (g j)) (hg : ∀ j, g j < 256) (hk : k < 135) (hp : p + n ≤ 28) (hn : n ≤ 8) : cp_423_0 337 3780 (nI (28 * k) + nI p) (nI n) N ∧ cf_423_0 337 3780 (nI (28 * k) + nI p) (nI n) N = lN (num g p n) := by
  rw [nI_add]
  obtain ⟨a1, a2⟩ := rd_r (a := 337) (n := 3780) (p := 28 * k + p) (k := n) (d := fun i => g (p + i)) (N := N) (fun i hi => ⟨by
    rw [show 28 * k + p + i = 28 * k + (p + i) by omega]
    exact hc (p + i) (by omega), hg _⟩) (by omega) (by omega) hn
  refine ⟨a1, ?_⟩
  rw [a2, num_congr (e := g) (q := p) (fun i hi => by show g (p + (0 + i)) = g (p + i); rw [Nat.zero_add])]
theorem lN_t32 {m : Nat} : (lN m).toInt32 = nI m := Int32.toBitVec_inj.mp (by
  rw [Int64.toBitVec_toInt32, lN_bv2, nI_bv, BitVec.signExtend_eq_setWidth_of_le _ (by decide)]
  exact BitVec.setWidth_ofNat_of_le (by decide) m)
theorem i616 {v : Int64} : cf_616_40 v a b N = cf_393_0 v a b := rfl
theorem r_i4 (hc : ∀ j, j < 28 → N.1 337 (28 * k + j) = by8 (g j)) (hg : ∀ j, g j < 256) (hk : k < 135) (hp : p + 4 ≤ 28) : cp_616_0 (nI (28 * k)) (nI p) 4 a b N ∧ cf_616_0 (nI (28 * k)) (nI p) 4 a b N = cf_393_0 (qv4 g p) a b := by
  obtain ⟨a1, a2⟩ := r_num (n := 4) hc hg hk hp (by omega)
  have a1' : cp_423_0 337 3780 (nI (28 * k) + nI p) 4 N := a1
  have a2' : cf_423_0 337 3780 (nI (28 * k) + nI p) 4 N = lN (num g p 4) := a2
  rw [cp_616_0, cf_616_0, a2', if_pos rfl]
  refine ⟨⟨a1', fun _ => trivial, fun z => absurd rfl z⟩, ?_⟩
  rw [i616, lN_t32]; rfl
theorem r_i2 (hc : ∀ j, j < 28 → N.1 337 (28 * k + j) = by8 (g j)) (hg : ∀ j, g j < 256) (hk : k < 135) (hp : p + 2 ≤ 28) : cp_616_0 (nI (28 * k)) (nI p) 2 a b N ∧ cf_616_0 (nI (28 * k)) (nI p) 2 a b N = cf_393_0 (qv2 g p) a b := by
  obtain ⟨a1, a2⟩ := r_num (n := 2) hc hg hk hp (by omega)
  have a1' : cp_423_0 337 3780 (nI (28 * k) + nI p) 2 N := a1
  have a2' : cf_423_0 337 3780 (nI (28 * k) + nI p) 2 N = lN (num g p 2) := a2
  have n4 : ¬ (2 : Int32) = 4 := by decide
  rw [cp_616_0, cf_616_0, a2', if_neg n4, if_pos rfl]
  refine ⟨⟨a1', fun z => absurd z n4, fun _ => ⟨fun _ => trivial, fun z => absurd rfl z⟩⟩, ?_⟩
  rw [i616, lN_t32]
  show cf_393_0 ((nI (num g p 2)).toInt16.toInt32.toInt64) a b = _
  rw [Int16.toInt64_toInt32]; rfl
theorem r_i8 (hc : ∀ j, j < 28 → N.1 337 (28 * k + j) = by8 (g j)) (hg : ∀ j, g j < 256) (hk : k < 135) (hp : p + 8 ≤ 28) : cp_616_0 (nI (28 * k)) (nI p) 8 a b N ∧ cf_616_0 (nI (28 * k)) (nI p) 8 a b N = cf_393_0 (qv8 g p) a b := by
  obtain ⟨a1, a2⟩ := r_num (n := 8) hc hg hk hp (by omega)
  have a1' : cp_423_0 337 3780 (nI (28 * k) + nI p) 8 N := a1
  have a2' : cf_423_0 337 3780 (nI (28 * k) + nI p) 8 N = lN (num g p 8) := a2
  have n4 : ¬ (8 : Int32) = 4 := by decide
  have n2 : ¬ (8 : Int32) = 2 := by decide
  rw [cp_616_0, cf_616_0, a2', if_neg n4, if_neg n2]
  exact ⟨⟨a1', fun z => absurd z n4, fun _ => ⟨fun z => absurd z n2, fun _ => trivial⟩⟩, i616⟩
end Rr
