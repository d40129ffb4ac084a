/-! PURE (50zzzzzzw): load. -/
section Lo
variable {N N1 N2 M1 M2 M P K : mz_N} {b b' : Bool} {B q n : Nat} {s : st_S} {D H G : Kp} {x : CrS} {L : LvS} {R : RsS} {tx e fl : Nat → Nat} {l : List (Nat × Nat)}
/-- the reference takes the typed text to be read -/
theorem r_typ (h25 : N.1 232 25 = nI n) (hn : n ≤ 196) (h : ∀ j, j < n → N.1 251 j = nI (tx j)) {r : mz_N → Int32 × mz_N} (hr : ∀ K, r K = if 0 < (cf_439_0 K).1 then cf_503_60 true (cf_439_0 K).1 (cf_439_0 K).2 else cf_503_60 false (cf_439_0 K).1 (cf_439_0 K).2) (he : ∀ K, r_sc N K n tx → cp_439_0 K ∧ (0 < (cf_439_0 K).1 → cp_503_60 true (cf_439_0 K).1 (cf_439_0 K).2) ∧ (¬ 0 < (cf_439_0 K).1 → cp_503_60 false (cf_439_0 K).1 (cf_439_0 K).2)) : cp_503_19 0 (mz_pI N 232 147 (N.1 232 25)) ∧ ∃ K, cf_503_19 0 (mz_pI N 232 147 (N.1 232 25)) = r K ∧ r_sc N K n tx := by
  rw [cp_503_19, cf_503_19, h25]
  have e25 : ∀ g, (mz_sI (mz_pI N 232 147 (nI n)) 338 g).1 232 25 = nI n := fun g => by
    rw [sI_n (by decide), pI_s, sI_e, up_a, if_neg (by decide)]; exact h25
  refine mz_lpn (f := cq_503_19) (P := cd_503_19) (Q := fun t => ∃ K, t = r K ∧ r_sc N K n tx) n (fun t s => ∃ g, s = (nI t, mz_sI (mz_pI N 232 147 (nI n)) 338 g) ∧ ∀ j, j < t → g j = nI (tx j)) ?_ ?_ (Nat.zero_le _) ⟨(mz_pI N 232 147 (nI n)).1 338, by rw [sI_same]; rfl, fun j hj => by omega⟩
  · rintro t s ht ⟨g, rfl, hg⟩
    have hlt : nI t < nI n := (nI_ltI (by omega) (by omega)).mpr ht
    have i1 : mz_ib (nI t) 196 := ib_n (by omega) (by omega)
    have g1 : mz_gI (mz_sI (mz_pI N 232 147 (nI n)) 338 g) 251 (nI t) = nI (tx t) := by
      rw [gI_a, sI_n (by decide), pI_s, sI_n (by decide), nI_clamp (by omega)]; exact h t ht
    rw [cd_503_19, cq_503_19]
    simp only [e25, hlt, if_true, g1, nI_1]
    refine ⟨⟨fun _ => ⟨i1, i1⟩, fun w => absurd trivial w⟩, Or.inl ⟨_, rfl, upd g t (nI (tx t)), ?_, fun j hj => ?_⟩⟩
    · rw [wI_s, sI_e, sI_sI, nI_clamp (by omega)]
    · rw [up_a]
      by_cases y : j = t
      · rw [if_pos y, y]
      · rw [if_neg y]; exact hg j (by omega)
  · rintro s ⟨g, rfl, hg⟩
    have hlt : ¬ nI n < nI n := fun w => by have := (nI_ltI (by omega) (by omega)).mp w; omega
    have hK : r_sc N (mz_sI (mz_pI N 232 147 (nI n)) 338 g) n tx := ⟨fq_sI (fq_pI (fq_refl _ _ _) rfl) rfl, by rw [sI_n (by decide), pI_s, sI_e], fun j hj => by rw [sI_e]; exact hg j hj⟩
    rw [cd_503_19, cq_503_19]
    simp only [e25, hlt, if_false]
    have hq := he _ hK
    have hz := hr (mz_sI (mz_pI N 232 147 (nI n)) 338 g)
    generalize mz_sI (mz_pI N 232 147 (nI n)) 338 g = K at hK hq hz ⊢
    refine ⟨⟨False.elim, fun _ => hq⟩, r K, ?_, K, rfl, hK⟩
    rw [hz]
    split <;> rfl
/-- the reference keeps the typed text: cells of the text, then the keys -/
theorem r_keep {r : mz_N → Int32 × mz_N} (h25 : N.1 232 25 = nI n) (hn : n ≤ 196) (h : ∀ j, j < n → N.1 251 j = nI (tx j)) (h0 : ∀ j, n ≤ j → tx j = 0) (he : ∀ g, (∀ j, j < 196 → g j = nI (tx j)) → cp_437_0 (mz_sI N 252 g) ∧ cp_503_150 0 (cf_471_0 (cf_437_0 (mz_sI N 252 g))) ∧ cf_503_150 0 (cf_471_0 (cf_437_0 (mz_sI N 252 g))) = r (mz_sI N 252 g)) : cp_503_103 0 N ∧ ∃ g, cf_503_103 0 N = r (mz_sI N 252 g) ∧ ∀ j, j < 196 → g j = nI (tx j) := by
  rw [cp_503_103, cf_503_103]
  refine mz_lpn (f := cq_503_103) (P := cd_503_103) (Q := fun t => ∃ g, t = r (mz_sI N 252 g) ∧ ∀ j, j < 196 → g j = nI (tx j)) 196 (fun t s => ∃ g, s = (nI t, mz_sI N 252 g) ∧ ∀ j, j < t → g j = nI (tx j)) ?_ ?_ (Nat.zero_le _) ⟨N.1 252, by rw [sI_same]; rfl, fun j hj => by omega⟩
  · rintro t s ht ⟨g, rfl, hg⟩
    have hlt : nI t < 196 := (nI_ltI (b := 196) (by omega) (by omega)).mpr ht
    have i1 : mz_ib (nI t) 196 := ib_n (by omega) (by omega)
    have e25 : (mz_sI N 252 g).1 232 25 = nI n := by rw [sI_n (by decide)]; exact h25
    rw [cd_503_103, cq_503_103]
    simp only [e25, hlt, if_true]
    by_cases w : t < n
    · have w' : nI t < nI n := (nI_ltI (by omega) (by omega)).mpr w
      have g1 : mz_gI (mz_sI N 252 g) 251 (nI t) = nI (tx t) := by
        rw [gI_a, sI_n (by decide), nI_clamp (by omega)]; exact h t w
      rw [if_pos w', g1, cf_503_133, nI_1]
      refine ⟨⟨fun _ => ⟨fun _ => ⟨i1, i1⟩, fun z => absurd w' z⟩, fun z => absurd trivial z⟩, Or.inl ⟨_, rfl, upd g t (nI (tx t)), ?_, fun j hj => ?_⟩⟩
      · rw [wI_s, sI_e, sI_sI, nI_clamp (by omega)]
      · rw [up_a]
        by_cases y : j = t
        · rw [if_pos y, y]
        · rw [if_neg y]; exact hg j (by omega)
    · have w' : ¬ nI t < nI n := fun z => w ((nI_ltI (by omega) (by omega)).mp z)
      rw [if_neg w', cf_503_133, nI_1]
      refine ⟨⟨fun _ => ⟨fun z => absurd z w', fun _ => i1⟩, fun z => absurd trivial z⟩, Or.inl ⟨_, rfl, upd g t 0, ?_, fun j hj => ?_⟩⟩
      · rw [wI_s, sI_e, sI_sI, nI_clamp (by omega)]
      · rw [up_a]
        by_cases y : j = t
        · rw [if_pos y, y, h0 t (by omega)]; rfl
        · rw [if_neg y]; exact hg j (by omega)
  · rintro s ⟨g, rfl, hg⟩
    have hlt : ¬ nI 196 < 196 := by decide
    obtain ⟨a1, a2, a3⟩ := he g hg
    rw [cd_503_103, cq_503_103]
    simp only [hlt, if_false]
    exact ⟨⟨False.elim, fun _ => ⟨a1, a2⟩⟩, _, rfl, g, a3, hg⟩
/-- both join the text's keys and write -/
theorem k6_c {w : Bool} (hp : cp_121_0 (gjc N (kl6 8)) b) (he : cf_121_0 (gjc N (kl6 8)) b = (w, K)) : cp_191_27 0 (cf_117_0 N) b ∧ cf_191_27 0 (cf_117_0 N) b = (0, (if w = true then K.1 (mz_lv b) 5 else -1001), K, b) := by
  rw [cp_191_27, cf_191_27]
  refine mz_lpn (f := cq_191_27 b) (P := cd_191_27 b) (Q := fun t => t = (0, (if w = true then K.1 (mz_lv b) 5 else -1001), K, b)) 8 (fun t s => s = (nI t, gjc N (kl6 t))) ?_ ?_ (Nat.zero_le _) rfl
  · rintro t s ht rfl
    have hlt : nI t < 8 := (nI_ltI (b := 8) (by omega) (by omega)).mpr ht
    have p := gjc_p (N := N) (k := (6, t)) (l := kl6 t) (kl6_a (t := t + 1) (by omega)) (by rw [kl6_n]; omega)
    rw [cd_191_27, cq_191_27]
    simp only [hlt, if_true, nI_1]
    exact ⟨⟨fun _ => p, fun z => absurd trivial z⟩, Or.inl ⟨_, rfl, rfl⟩⟩
  · rintro s rfl
    have hlt : ¬ nI 8 < 8 := by decide
    rw [cd_191_27, cq_191_27]
    simp only [hlt, if_false, he]
    refine ⟨⟨False.elim, fun _ => hp⟩, _, ?_, rfl⟩
    cases w <;> rfl
theorem k6_r {w : Bool} (hp : cp_474_0 (gjr N (kl6 8))) (he : cf_474_0 (gjr N (kl6 8)) = (w, K)) : cp_503_150 0 (cf_471_0 N) ∧ cf_503_150 0 (cf_471_0 N) = ((if w = true then K.1 232 28 else -1001), K) := by
  rw [cp_503_150, cf_503_150]
  refine mz_lpn (f := cq_503_150) (P := cd_503_150) (Q := fun t => t = ((if w = true then K.1 232 28 else -1001), K)) 8 (fun t s => s = (nI t, gjr N (kl6 t))) ?_ ?_ (Nat.zero_le _) rfl
  · rintro t s ht rfl
    have hlt : nI t < 8 := (nI_ltI (b := 8) (by omega) (by omega)).mpr ht
    have p := gjr_p (N := N) (k := (6, t)) (l := kl6 t) (kl6_a (t := t + 1) (by omega)) (by rw [kl6_n]; omega)
    rw [cd_503_150, cq_503_150]
    simp only [hlt, if_true, nI_1]
    exact ⟨⟨fun _ => p, fun z => absurd trivial z⟩, Or.inl ⟨_, rfl, rfl⟩⟩
  · rintro s rfl
    have hlt : ¬ nI 8 < 8 := by decide
    rw [cd_503_150, cq_503_150]
    simp only [hlt, if_false, he]
    refine ⟨⟨False.elim, fun _ => hp⟩, _, ?_, rfl⟩
    cases w <;> rfl
end Lo
