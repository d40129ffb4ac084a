/-! PURE (50zzzzzzzf): put: the program of a reel, in the reference (621). -/
section P7
variable {N : mz_N} {kt : Nat → Bool} {kb : Nat → Nat → Nat} {n m : Nat} {tx : Nat → Nat}
/-- what a trial of the reel's program leaves -/
def rTr (N M : mz_N) (S : kyL) : Prop := (fq [232, 253, 254, 255, 256, 338, 339] [] N M) ∧ (∀ f, f ≠ 28 → f ≠ 31 → (f < 147 ∨ 154 < f) → f ≠ 156 → f ≠ 157 → M.1 232 f = N.1 232 f) ∧ (M.1 232 28 = nI (na S)) ∧ (rws (M.1 253) (M.1 254) (M.1 255) (M.1 256) S)
theorem rTr.f {N M : mz_N} {S : kyL} (h : rTr N M S) : fq [232, 253, 254, 255, 256, 338, 339] [] N M := h.1
theorem rTr.i {N M : mz_N} {S : kyL} (h : rTr N M S) : ∀ f, f ≠ 28 → f ≠ 31 → (f < 147 ∨ 154 < f) → f ≠ 156 → f ≠ 157 → M.1 232 f = N.1 232 f := h.2.1
theorem rTr.r8 {N M : mz_N} {S : kyL} (h : rTr N M S) : M.1 232 28 = nI (na S) := h.2.2.1
theorem rTr.rw {N M : mz_N} {S : kyL} (h : rTr N M S) : rws (M.1 253) (M.1 254) (M.1 255) (M.1 256) S := h.2.2.2
theorem tok_128 (h : tok n (rtx kb)) : ∀ j, rtx kb j < 128 := fun j => by
  by_cases w : j < 196
  · have := h j (Nat.zero_le _) w
    by_cases v : j < n
    · rw [if_pos v] at this; omega
    · rw [if_neg v] at this; omega
  · unfold rtx; rw [if_neg w]; omega
theorem r621 (hB : ∀ k, k < 135 → kt k = true → ∀ j, j < 28 → N.1 337 (28 * k + j) = by8 (kb k j)) (hT : ∀ k, k < 135 → N.1 336 k = nI (b1 (kt k))) (hg : ∀ k j, kb k j < 256) (ha : ∀ k, k < 135 → kt k = false → ∀ j, kb k j = 0) (hn : kb 33 0 < 197) (h27 : N.1 232 27 = nI m) (hm : m ≤ 196) (h252 : ∀ j, j < m → N.1 252 j = nI (tx j)) (htx : ∀ j, tx j < 128) (hp : (prs tx m).1 = 0) (h8 : N.1 232 28 = nI (na (prs tx m).2.2)) (hw : rws (N.1 253) (N.1 254) (N.1 255) (N.1 256) (prs tx m).2.2) : cp_621_0 N ∧ ∃ ok M, cf_621_0 N = (ok, M) ∧ (ok = true ↔ tok (kb 33 0) (rtx kb) ∧ (prs (rtx kb) (kb 33 0)).1 = 0) ∧ rTr N M (prs tx m).2.2 := by
  have nf : ¬ (false = true) := fun z => by cases z
  have GZ : ∀ f : Nat → Int32, ∀ k, k < 135 → mz_ib (nI k) 135 ∧ mz_gI (mz_sI N 338 f) 336 (nI k) = nI (b1 (kt k)) ∧ mz_gZ (mz_sI N 338 f) 336 (nI k) = kt k := fun f k hk => by
    have e : (mz_sI N 338 f).1 336 k = nI (b1 (kt k)) := by rw [sI_n (by decide)]; exact hT k hk
    refine ⟨ib_n hk (by omega), by rw [gI_a, nI_clamp (by omega)]; exact e, ?_⟩
    rw [gZ_a, nI_clamp (by omega), e]; cases kt k <;> rfl
  -- the length
  have e33 : cf_420_0 6 + 7 = nI 33 := rfl
  have m33 : (28 : Int32) * nI 33 = nI (28 * 33) := rfl
  suffices h : cp_621_37 (nI (kb 33 0)) true 0 N ∧ ∃ ok M, cf_621_37 (nI (kb 33 0)) true 0 N = (ok, M) ∧ (ok = true ↔ tok (kb 33 0) (rtx kb) ∧ (prs (rtx kb) (kb 33 0)).1 = 0) ∧ rTr N M (prs tx m).2.2 by
    obtain ⟨i1, i2, i3⟩ := GZ (N.1 338) 33 (by omega)
    rw [sI_same] at i2 i3
    rw [cp_621_0, cf_621_0, e33, m33, i2, i3, cp_621_31, cf_621_31, cp_621_31, cf_621_31]
    by_cases w : kt 33 = true
    · obtain ⟨b1', b2⟩ : cp_612_0 (nI (28 * 33)) 0 N ∧ cf_612_0 (nI (28 * 33)) 0 N = nI (kb 33 0) := r_by (k := 33) (p := 0) (hB 33 (by omega) w) (hg 33) (by omega) (by omega)
      rw [if_pos w, b2]
      exact ⟨⟨i1, z01_b _, fun _ => ⟨b1', h.1⟩, fun z => absurd w z⟩, h.2⟩
    · have e0 : kb 33 0 = 0 := ha 33 (by omega) (by cases e : kt 33 with | true => exact absurd e w | false => rfl) 0
      rw [e0] at h
      rw [if_neg w, e0]
      exact ⟨⟨i1, z01_b _, fun z => absurd z w, fun _ => h.1⟩, h.2⟩
  generalize kb 33 0 = n at hn ⊢
  rw [cp_621_37, cf_621_37]
  refine mz_lpn (f := cq_621_37 (nI n)) (P := cd_621_37 (nI n)) (Q := fun r => ∃ ok M, r = (ok, M) ∧ (ok = true ↔ tok n (rtx kb) ∧ (prs (rtx kb) n).1 = 0) ∧ rTr N M (prs tx m).2.2) 196 (fun t s => ∃ b f, s = (b, nI t, mz_sI N 338 f) ∧ (∀ j, j < t → f j = nI (rtx kb j)) ∧ (b = true ↔ ∀ j, j < t → (if j < n then 32 ≤ rtx kb j ∧ rtx kb j ≤ 126 else rtx kb j = 0))) ?_ ?_ (Nat.zero_le _) ⟨true, N.1 338, by rw [sI_same]; rfl, fun j hj => by omega, fun _ j hj => by omega, fun _ => rfl⟩
  · rintro t s ht ⟨b, f, rfl, hf, hb⟩
    have l : nI t < 196 := (nI_ltI (b := 196) (by omega) (by omega)).mpr ht
    have ib : mz_ib (nI t) 196 := ib_n ht (by omega)
    have e28 : nI t / 28 = nI (t / 28) := by rw [show (28 : Int32) = nI 28 from rfl, pk_div (by omega) (by omega) (by omega)]
    have m28 : mz_irem (nI t) 28 = nI (t % 28) := by rw [show (28 : Int32) = nI 28 from rfl, irem_n (by omega) (by omega) (by omega)]
    have e26 : cf_420_0 6 + nI (t / 28) = nI (26 + t / 28) := by rw [show cf_420_0 6 = nI 26 from rfl, nI_add]
    have p28 : (28 : Int32) * nI (26 + t / 28) = nI (28 * (26 + t / 28)) := by rw [show (28 : Int32) = nI 28 from rfl, pk_mul]
    obtain ⟨i1, i2, i3⟩ := GZ f (26 + t / 28) (by omega)
    have er : kb (26 + t / 28) (t % 28) = rtx kb t := by unfold rtx; rw [if_pos ht]
    have gr : rtx kb t < 256 := by rw [← er]; exact hg _ _
    have ew : mz_wI (mz_sI N 338 f) 338 (nI t) (nI (rtx kb t)) = mz_sI N 338 (upd f t (nI (rtx kb t))) := by rw [wI_s, sI_e, sI_sI, nI_clamp (by omega)]
    have qt : (nI t < nI n) = (t < n) := propext (nI_ltI (by omega) (by omega))
    have q1 : (31 < nI (rtx kb t)) = (31 < rtx kb t) := propext (nI_ltI (a := 31) (by omega) (by omega))
    have q2 : (nI (rtx kb t) < 127) = (rtx kb t < 127) := propext (nI_ltI (b := 127) (by omega) (by omega))
    have q3 : (nI (rtx kb t) = 0) = (rtx kb t = 0) := propext (nI_eq0 (by omega))
    -- one place
    have ST : cp_621_86 (nI (rtx kb t)) (nI n) b (nI t) (mz_sI N 338 f) ∧ ∃ b', cf_621_86 (nI (rtx kb t)) (nI n) b (nI t) (mz_sI N 338 f) = .inl (b', nI (t + 1), mz_sI N 338 (upd f t (nI (rtx kb t)))) ∧ (b' = true ↔ b = true ∧ (if t < n then 32 ≤ rtx kb t ∧ rtx kb t ≤ 126 else rtx kb t = 0)) := by
      rw [cp_621_86, cf_621_86]
      simp only [qt, q1, q2, q3, cf_621_120, cf_621_124, cf_621_125, cp_621_120, cp_621_124, cp_621_125, ew, nI_1]
      refine ⟨⟨fun _ => ⟨fun _ => ⟨fun _ => ⟨fun _ => ib, fun _ => ib⟩, fun _ => ib⟩, fun _ => ⟨fun _ => ib, fun _ => ib⟩⟩, fun _ => ib⟩, ?_⟩
      cases b with
      | false => exact ⟨false, if_neg nf, fun z => absurd z nf, fun z => absurd z.1 nf⟩
      | true =>
        rw [if_pos rfl]
        by_cases y : t < n
        · rw [if_pos y, if_pos y]
          by_cases y1 : 31 < rtx kb t
          · rw [if_pos y1]
            by_cases y2 : rtx kb t < 127
            · rw [if_pos y2]; exact ⟨true, rfl, fun _ => ⟨rfl, by omega, by omega⟩, fun _ => rfl⟩
            · rw [if_neg y2]; exact ⟨false, rfl, fun z => absurd z nf, fun z => by omega⟩
          · rw [if_neg y1]; exact ⟨false, rfl, fun z => absurd z nf, fun z => by omega⟩
        · rw [if_neg y, if_neg y]
          by_cases y1 : rtx kb t = 0
          · rw [if_pos y1]; exact ⟨true, rfl, fun _ => ⟨rfl, y1⟩, fun _ => rfl⟩
          · rw [if_neg y1]; exact ⟨false, rfl, fun z => absurd z nf, fun z => absurd z.2 y1⟩
    obtain ⟨s1, b', s2, s3⟩ := ST
    have J' : ∃ b_1 f_1, (b', nI (t + 1), mz_sI N 338 (upd f t (nI (rtx kb t)))) = (b_1, nI (t + 1), mz_sI N 338 f_1) ∧ (∀ j, j < t + 1 → f_1 j = nI (rtx kb j)) ∧ (b_1 = true ↔ ∀ j, j < t + 1 → (if j < n then 32 ≤ rtx kb j ∧ rtx kb j ≤ 126 else rtx kb j = 0)) := by
      refine ⟨b', _, rfl, fun j hj => ?_, ?_⟩
      · rw [up_a]
        by_cases y : j = t
        · rw [if_pos y, y]
        · rw [if_neg y]; exact hf j (by omega)
      · rw [s3, hb]
        constructor
        · rintro ⟨h1, h2⟩ j hj
          by_cases y : j = t
          · rw [y]; exact h2
          · exact h1 j (by omega)
        · exact fun h => ⟨fun j hj => h j (by omega), h t (by omega)⟩
    rw [cd_621_37, cq_621_37]
    simp only [l, if_true, e28, m28, e26, p28, i2, i3]
    by_cases w : kt (26 + t / 28) = true
    · obtain ⟨b1', b2⟩ := r_by (N := mz_sI N 338 f) (k := 26 + t / 28) (p := t % 28) (g := kb (26 + t / 28)) (fun j hj => by rw [sI_n (by decide)]; exact hB (26 + t / 28) (by omega) w j hj) (hg _) (by omega) (Nat.mod_lt _ (by omega))
      rw [er] at b2
      simp only [b2]
      rw [if_pos w, s2]
      exact ⟨⟨fun _ => ⟨i1, z01_b _, fun _ => ⟨b1', s1⟩, fun z => absurd w z⟩, fun z => absurd trivial z⟩, Or.inl ⟨_, rfl, J'⟩⟩
    · have z0 : rtx kb t = 0 := by rw [← er]; exact ha (26 + t / 28) (by omega) (by cases e : kt (26 + t / 28) with | true => exact absurd e w | false => rfl) _
      have s1' : cp_621_86 0 (nI n) b (nI t) (mz_sI N 338 f) := by rw [z0] at s1; exact s1
      have s2' : cf_621_86 0 (nI n) b (nI t) (mz_sI N 338 f) = .inl (b', nI (t + 1), mz_sI N 338 (upd f t (nI (rtx kb t)))) := by
        have := s2
        rw [show cf_621_86 (nI (rtx kb t)) (nI n) b (nI t) (mz_sI N 338 f) = cf_621_86 0 (nI n) b (nI t) (mz_sI N 338 f) by rw [z0]; rfl] at this
        exact this
      rw [if_neg w, s2']
      exact ⟨⟨fun _ => ⟨i1, z01_b _, fun z => absurd z w, fun _ => s1'⟩, fun z => absurd trivial z⟩, Or.inl ⟨_, rfl, J'⟩⟩
  · rintro s ⟨b, f, rfl, hf, hb⟩
    have l : ¬ nI 196 < 196 := by decide
    have f0 : fq [232, 253, 254, 255, 256, 338, 339] [] N (mz_sI N 338 f) := fq_sI (fq_refl _ _ _) rfl
    rw [cd_621_37, cq_621_37]
    simp only [l, if_false]
    cases b with
    | false =>
      refine ⟨⟨False.elim, fun _ => ⟨fun z => absurd z nf, fun _ => trivial⟩⟩, _, if_neg nf, false, _, rfl, ⟨fun z => absurd z nf, fun z => absurd (hb.mpr (fun j hj => z.1 j (Nat.zero_le _) hj)) nf⟩, f0, fun f _ _ _ _ _ => by rw [sI_n (by decide)], by rw [sI_n (by decide)]; exact h8, ?_⟩
      rw [sI_n (by decide), sI_n (by decide), sI_n (by decide), sI_n (by decide)]; exact hw
    | true =>
      have tk : tok n (rtx kb) := fun t _ h2 => hb.mp rfl t h2
      have hK : r_sc N (mz_pI (mz_sI N 338 f) 232 147 (nI n)) n (rtx kb) := ⟨fq_pI (fq_sI (fq_refl _ _ _) rfl) rfl, by rw [pI_s, sI_e, sI_n (by decide)], fun j hj => by rw [pI_s, sI_n (by decide), sI_e]; exact hf j (by omega)⟩
      obtain ⟨a1, a2, a3⟩ := rd439 (show n ≤ 196 by omega) (tok_128 tk) hK
      have e35 : (mz_sI N 338 f).1 232 35 = N.1 232 35 := by rw [sI_n (by decide)]
      generalize mz_pI (mz_sI N 338 f) 232 147 (nI n) = K at a1 a2 a3 ⊢
      rw [a2, e35]
      have pb := prs_b (tx := rtx kb) (n := n)
      have q0 : (nI (prs (rtx kb) n).1 = 0) = ((prs (rtx kb) n).1 = 0) := propext (nI_eq0 (by omega))
      generalize (cf_439_0 K).2 = X at a3 ⊢
      obtain ⟨d1, d2⟩ := rd438 (N := X) (n := m) (tx := tx) (by rw [a3.i 27 (by decide) (by decide) (by decide) (by decide) (by decide) (by decide)]; exact h27) hm (fun j hj => by rw [a3.f.1 252 rfl]; exact h252 j hj) htx hp
      have TR : rTr N (mz_pI (cf_438_0 X) 232 35 (N.1 232 35)) (prs tx m).2.2 := by
        refine ⟨fq_pI (fq_trans a3.f d2.f) rfl, fun f h1 h2 h3 h4 h5 => ?_, ?_, ?_⟩
        · rw [pI_s, sI_e, up_a]
          by_cases y : f = 35
          · rw [if_pos y, y]
          · rw [if_neg y, d2.i f h1 h2 h3 h4 h5, a3.i f h1 h2 y h3 h4 h5]
        · rw [pI_s, sI_e, up_a, if_neg (by decide)]; exact d2.r8
        · rw [pI_s, sI_n (by decide), sI_n (by decide), sI_n (by decide), sI_n (by decide)]; exact d2.rw
      simp only [q0, cf_621_170, cp_621_170]
      refine ⟨⟨False.elim, fun _ => ⟨fun _ => ⟨a1, fun _ => d1, fun _ => d1⟩, fun z => absurd trivial z⟩⟩, ?_⟩
      rw [if_pos trivial]
      by_cases y : (prs (rtx kb) n).1 = 0
      · rw [if_pos y]; exact ⟨_, rfl, true, _, rfl, ⟨fun _ => ⟨tk, y⟩, fun _ => rfl⟩, TR⟩
      · rw [if_neg y]; exact ⟨_, rfl, false, _, rfl, ⟨fun z => absurd z nf, fun z => absurd z.2 y⟩, TR⟩
end P7
