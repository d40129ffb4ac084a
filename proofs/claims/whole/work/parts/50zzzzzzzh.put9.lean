/-! PURE (50zzzzzzzh): put: a reel's keys are judged (387, 608_88). -/
/-- a reel's house is legal -/
def LG (kt : Nat → Bool) (kb : Nat → Nat → Nat) : Prop := (∀ k, 0 ≤ k → k < 135 → (kt k = true → lgk (kdk k) (ixk k) (kb k))) ∧ (pl_n (pe kt kb) ≤ 40) ∧ (∀ v, 0 ≤ v → v < 16 → ∀ s, v + 1 ≤ s → s < 16 → ¬ cls kb v s) ∧ (kb 33 0 < 197 ∧ blk (kb 33) 1 ∧ tok (kb 33 0) (rtx kb)) ∧ ((prs (rtx kb) (kb 33 0)).1 = 0)
theorem LG.k {kt : Nat → Bool} {kb : Nat → Nat → Nat} (h : LG kt kb) : ∀ k, 0 ≤ k → k < 135 → (kt k = true → lgk (kdk k) (ixk k) (kb k)) := h.1
theorem LG.n {kt : Nat → Bool} {kb : Nat → Nat → Nat} (h : LG kt kb) : pl_n (pe kt kb) ≤ 40 := h.2.1
theorem LG.a {kt : Nat → Bool} {kb : Nat → Nat → Nat} (h : LG kt kb) : ∀ v, 0 ≤ v → v < 16 → ∀ s, v + 1 ≤ s → s < 16 → ¬ cls kb v s := h.2.2.1
theorem LG.t {kt : Nat → Bool} {kb : Nat → Nat → Nat} (h : LG kt kb) : kb 33 0 < 197 ∧ blk (kb 33) 1 ∧ tok (kb 33 0) (rtx kb) := h.2.2.2.1
theorem LG.p {kt : Nat → Bool} {kb : Nat → Nat → Nat} (h : LG kt kb) : (prs (rtx kb) (kb 33 0)).1 = 0 := h.2.2.2.2
/-- what the class's judging leaves -/
def jcM (N M : mz_N) (b : Bool) : Prop := (fq (12 :: 13 :: 14 :: 41 :: 55 :: pgA) [] N M) ∧ (∀ f, f ≠ 9 → M.1 41 f = N.1 41 f) ∧ (∀ d, d < 5 → M.1 (mz_lv b + d) = N.1 (mz_lv b + d))
theorem jcM.f {N M : mz_N} {b : Bool} (h : jcM N M b) : fq (12 :: 13 :: 14 :: 41 :: 55 :: pgA) [] N M := h.1
theorem jcM.x {N M : mz_N} {b : Bool} (h : jcM N M b) : ∀ f, f ≠ 9 → M.1 41 f = N.1 41 f := h.2.1
theorem jcM.lv {N M : mz_N} {b : Bool} (h : jcM N M b) : ∀ d, d < 5 → M.1 (mz_lv b + d) = N.1 (mz_lv b + d) := h.2.2
section Jg
variable {N M K : mz_N} {kt : Nat → Bool} {kb : Nat → Nat → Nat} {b : Bool} {e fl tx : Nat → Nat} {m : Nat}
theorem jcM_q {A : List Nat} (h : fq A [] N M) (h1 : A.all (fun c => ([12, 13, 14, 55] : List Nat).contains c) = true) : jcM N M b := by
  have f2 : fq [12, 13, 14, 55] [] N M := fq_sub h h1 rfl
  refine ⟨fq_sub f2 rfl rfl, fun f _ => by rw [f2.1 41 rfl], fun d hd => f2.1 _ ?_⟩
  have k : mz_lv b + d ≠ 12 ∧ mz_lv b + d ≠ 13 ∧ mz_lv b + d ≠ 14 ∧ mz_lv b + d ≠ 55 := by rcases lv_o (b := b) with w | w <;> rw [w] <;> omega
  simp [k.1, k.2.1, k.2.2.1, k.2.2.2]
theorem c387 (hc : ∀ k, k < 135 → ∀ j, j < 28 → N.1 230 (28 * k + j) = nI (kb k j)) (ht : ∀ k, k < 135 → N.1 231 k = nI (b1 (kt k))) (hg : ∀ k j, kb k j < 256) : cp_387_0 N b ∧ ∃ ok M, cf_387_0 N b = (ok, M) ∧ (ok = true ↔ LG kt kb) ∧ jcM N M b := by
  have nf : ¬ (false = true) := fun z => by cases z
  obtain ⟨a1, A, a2, a3⟩ := c404 hc ht hg
  have hcA : ∀ k, k < 135 → ∀ j, j < 28 → A.1 230 (28 * k + j) = nI (kb k j) := by rw [a3.1 230 rfl]; exact hc
  obtain ⟨b1', b2⟩ := c405 hcA hg
  obtain ⟨f1, f2, f3⟩ := c_find hcA hg
  have l : ¬ nI 135 < 135 := by decide
  -- behind the keys
  have T : cd_387_2 N b (nI 135) ∧ ∃ ok M, cq_387_2 N b (nI 135) = .inr (ok, M) ∧ (ok = true ↔ pl_n (pe kt kb) ≤ 40 ∧ (∀ v, 0 ≤ v → v < 16 → ∀ s, v + 1 ≤ s → s < 16 → ¬ cls kb v s) ∧ (kb 33 0 < 197 ∧ blk (kb 33) 1 ∧ tok (kb 33 0) (rtx kb)) ∧ (prs (rtx kb) (kb 33 0)).1 = 0) ∧ jcM N M b := by
    rw [cd_387_2, cq_387_2, a2]
    simp only [l, if_false, cf_387_111, decide_eq_true_eq]
    by_cases w1 : pl_n (pe kt kb) ≤ 40
    · rw [if_pos w1]
      by_cases w2 : ∀ v, 0 ≤ v → v < 16 → ∀ s, v + 1 ≤ s → s < 16 → ¬ cls kb v s
      · rw [if_pos (b2.mpr w2)]
        by_cases w3 : kb 33 0 < 197 ∧ blk (kb 33) 1 ∧ tok (kb 33 0) (rtx kb)
        · obtain ⟨g, g1, g2⟩ := f2 w3
          rw [g1]
          have fP : fq [12, 13, 14, 41, 55] [] N (mz_pI (mz_sI A 55 g) 41 9 (nI (kb 33 0))) := fq_pI (fq_sI (fq_sub a3 rfl rfl) rfl) rfl
          have e9 : (mz_pI (mz_sI A 55 g) 41 9 (nI (kb 33 0))).1 41 9 = nI (kb 33 0) := rfl
          have xP : ∀ f, f ≠ 9 → (mz_pI (mz_sI A 55 g) 41 9 (nI (kb 33 0))).1 41 f = N.1 41 f := fun f hf => by rw [pI_s, sI_e, up_a, if_neg hf, sI_n (by decide), a3.1 41 rfl]
          have e55 : (mz_pI (mz_sI A 55 g) 41 9 (nI (kb 33 0))).1 55 = g := by rw [pI_s, sI_n (by decide), sI_e]
          simp only [e9]
          generalize mz_pI (mz_sI A 55 g) 41 9 (nI (kb 33 0)) = P at fP xP e55
          obtain ⟨p1, p2, p3⟩ := par_c (N := P) (b := b) (n := kb 33 0) (a1 := 55) (tx := rtx kb) (Or.inr rfl) (by omega) (fun j hj => by rw [e55]; exact g2 j (by omega)) (tok_128 w3.2.2)
          generalize cf_23_0 (mz_ot b) 55 (nI (kb 33 0)) P = R at p2 p3 ⊢
          obtain ⟨rk, R⟩ := R
          have p2 : rk = decide ((prs (rtx kb) (kb 33 0)).1 = 0) := p2
          have p3 : pcR P R b (kb 33 0) (rtx kb) := p3
          have JM : jcM N R b := by
            refine ⟨fq_trans (fq_sub fP rfl rfl) (fq_sub p3.f rfl rfl), fun f hf => by rw [p3.f.1 41 rfl]; exact xP f hf, fun d hd => ?_⟩
            rw [p3.lv d hd]
            refine fP.1 _ ?_
            have k : mz_lv b + d ≠ 12 ∧ mz_lv b + d ≠ 13 ∧ mz_lv b + d ≠ 14 ∧ mz_lv b + d ≠ 41 ∧ mz_lv b + d ≠ 55 := by rcases lv_o (b := b) with w | w <;> rw [w] <;> omega
            simp [k.1, k.2.1, k.2.2.1, k.2.2.2.1, k.2.2.2.2]
          refine ⟨⟨False.elim, fun _ => ⟨a1, fun _ => ⟨b1', fun _ => ⟨f1, fun _ => ⟨p1, fun _ => trivial, fun _ => trivial⟩, fun z => absurd trivial z⟩, fun z => absurd (b2.mpr w2) z⟩, fun z => absurd w1 z⟩⟩, ?_⟩
          by_cases w4 : (prs (rtx kb) (kb 33 0)).1 = 0
          · have e : rk = true := by rw [p2]; exact decide_eq_true w4
            rw [if_pos trivial, if_pos e]
            exact ⟨true, R, rfl, ⟨fun _ => ⟨w1, w2, w3, w4⟩, fun _ => rfl⟩, JM⟩
          · have e : ¬ rk = true := by rw [p2, decide_eq_false w4]; exact nf
            rw [if_pos trivial, if_neg e]
            exact ⟨false, R, rfl, ⟨fun z => absurd z nf, fun z => absurd z.2.2.2 w4⟩, JM⟩
        · obtain ⟨g, g1⟩ := f3 w3
          rw [g1]
          exact ⟨⟨False.elim, fun _ => ⟨a1, fun _ => ⟨b1', fun _ => ⟨f1, fun z => absurd z nf, fun _ => trivial⟩, fun z => absurd (b2.mpr w2) z⟩, fun z => absurd w1 z⟩⟩, false, mz_sI A 55 g, by rw [if_neg nf], ⟨fun z => absurd z nf, fun z => absurd z.2.2.1 w3⟩, jcM_q (A := [12, 13, 14, 55]) (fq_sI (fq_sub a3 rfl rfl) rfl) rfl⟩
      · rw [if_neg (fun z => w2 (b2.mp z))]
        exact ⟨⟨False.elim, fun _ => ⟨a1, fun _ => ⟨b1', fun z => absurd (b2.mp z) w2, fun _ => trivial⟩, fun z => absurd w1 z⟩⟩, false, A, rfl, ⟨fun z => absurd z nf, fun z => absurd z.2.1 w2⟩, jcM_q a3 rfl⟩
    · rw [if_neg w1]
      exact ⟨⟨False.elim, fun _ => ⟨a1, fun z => absurd z w1, fun _ => trivial⟩⟩, false, A, rfl, ⟨fun z => absurd z nf, fun z => absurd z.1 w1⟩, jcM_q a3 rfl⟩
  obtain ⟨t1, ok, M, t2, t3, t4⟩ := T
  rw [cp_387_0, cf_387_0, cp_387_2, cf_387_2]
  obtain ⟨d1, d2, d3⟩ := lp_allc (f := cq_387_2 N b) (P := cd_387_2 N b) (rT := (ok, M)) (rF := (false, N)) 0 135 (fun k => kt k = true → lgk (kdk k) (ixk k) (kb k)) (by omega) (fun k h1 h2 => by
    have l : nI k < 135 := (nI_ltI (b := 135) (by omega) (by omega)).mpr h2
    have ib : mz_ib (nI k) 135 := ib_n h2 (by omega)
    have g231 : mz_gI N 231 (nI k) = nI (b1 (kt k)) := by rw [gI_a, nI_clamp (by omega)]; exact ht k h2
    obtain ⟨k1, k2⟩ := kd_c h2
    obtain ⟨k3, k4⟩ := ix_c h2
    obtain ⟨n1, n2, _, _, n5, _⟩ := kdk_ok k h2
    have m28 : nI k * 28 = nI (28 * k) := by rw [show (28 : Int32) = nI 28 from rfl, pk_mul, Nat.mul_comm]
    obtain ⟨c1, c2⟩ := c_lg (N := N) (k := k) (ix := ixk k) n5 n1 n2 (hc k h2) (hg k) h2
    rw [cd_387_2, cq_387_2]
    simp only [l, if_true, g231, k2, k4, m28, cf_387_43, nI_1]
    by_cases w : kt k = true
    · have e1 : nI (b1 (kt k)) = 1 := by rw [w]; rfl
      rw [if_pos e1]
      refine ⟨⟨fun _ => ⟨ib, fun _ => ⟨k1, k3, c1, fun _ => trivial, fun _ => trivial⟩, fun z => absurd e1 z⟩, fun z => absurd trivial z⟩, fun y => by rw [if_pos (c2.mpr (y w))], fun y => ?_⟩
      rw [if_neg (fun z => y (fun _ => c2.mp z))]
    · have e1 : ¬ nI (b1 (kt k)) = 1 := fun z => w ((b1_1 _).mp z)
      rw [if_neg e1]
      exact ⟨⟨fun _ => ⟨ib, fun z => absurd z e1, fun _ => trivial⟩, fun z => absurd trivial z⟩, fun _ => rfl, fun y => absurd (fun z => absurd z w) y⟩) ⟨t1, t2⟩
  refine ⟨d1, ?_⟩
  by_cases w : ∀ k, 0 ≤ k → k < 135 → (kt k = true → lgk (kdk k) (ixk k) (kb k))
  · exact ⟨ok, M, d2 w, t3.trans ⟨fun z => ⟨w, z.1, z.2.1, z.2.2.1, z.2.2.2⟩, fun z => ⟨z.n, z.a, z.t, z.p⟩⟩, t4⟩
  · exact ⟨false, N, d3 w, ⟨fun z => absurd z nf, fun z => absurd z.k w⟩, jcM_q (A := []) (fq_refl _ _ _) rfl⟩
/-- what the reference's judging leaves -/
def jrM (N M : mz_N) (e fl : Nat → Nat) (S : kyL) : Prop := (fq [232, 233, 235, 236, 237, 238, 253, 254, 255, 256, 338, 339] [] N M) ∧ (∀ f, f ≠ 7 → f ≠ 28 → f ≠ 31 → (f < 147 ∨ 154 < f) → f ≠ 156 → f ≠ 157 → M.1 232 f = N.1 232 f) ∧ (∀ j, j < 3850 → M.1 233 j = N.1 233 j) ∧ (r_pl e fl M) ∧ (M.1 232 28 = nI (na S)) ∧ (rws (M.1 253) (M.1 254) (M.1 255) (M.1 256) S)
theorem jrM.f {N M : mz_N} {e fl : Nat → Nat} {S : kyL} (h : jrM N M e fl S) : fq [232, 233, 235, 236, 237, 238, 253, 254, 255, 256, 338, 339] [] N M := h.1
theorem jrM.i {N M : mz_N} {e fl : Nat → Nat} {S : kyL} (h : jrM N M e fl S) : ∀ f, f ≠ 7 → f ≠ 28 → f ≠ 31 → (f < 147 ∨ 154 < f) → f ≠ 156 → f ≠ 157 → M.1 232 f = N.1 232 f := h.2.1
theorem jrM.p {N M : mz_N} {e fl : Nat → Nat} {S : kyL} (h : jrM N M e fl S) : ∀ j, j < 3850 → M.1 233 j = N.1 233 j := h.2.2.1
theorem jrM.pl {N M : mz_N} {e fl : Nat → Nat} {S : kyL} (h : jrM N M e fl S) : r_pl e fl M := h.2.2.2.1
theorem jrM.r8 {N M : mz_N} {e fl : Nat → Nat} {S : kyL} (h : jrM N M e fl S) : M.1 232 28 = nI (na S) := h.2.2.2.2.1
theorem jrM.rw {N M : mz_N} {e fl : Nat → Nat} {S : kyL} (h : jrM N M e fl S) : rws (M.1 253) (M.1 254) (M.1 255) (M.1 256) S := h.2.2.2.2.2
theorem LG_x (hg : ∀ k j, kb k j < 256) (ha : ∀ k, k < 135 → kt k = false → ∀ j, kb k j = 0) : (∀ k, 0 ≤ k → k < 135 → (kt k = true → lgk (kdk k) (ixk k) (kb k) ∧ lgx kt kb (kdk k) (ixk k) k)) ↔ (∀ k, 0 ≤ k → k < 135 → (kt k = true → lgk (kdk k) (ixk k) (kb k))) ∧ (kb 33 0 < 197 ∧ blk (kb 33) 1) ∧ ∀ v, 0 ≤ v → v < 16 → ∀ s, v + 1 ≤ s → s < 16 → ¬ cls kb v s := by
  have K : ∀ v, v < 16 → 51 + v < 135 ∧ kdk (51 + v) = 12 ∧ ixk (51 + v) = v := by decide
  have K3 : kdk 33 = 6 ∧ ixk 33 = 7 := by decide
  constructor
  · intro h
    refine ⟨fun k h1 h2 h3 => (h k h1 h2 h3).1, ?_, fun v v1 v2 s s1 s2 hcl => ?_⟩
    · by_cases w : kt 33 = true
      · exact (h 33 (by omega) (by omega) w).2.1 K3.1 K3.2
      · have z := ha 33 (by omega) (by cases e : kt 33 with | true => exact absurd e w | false => rfl)
        exact ⟨by rw [z 0]; omega, fun j _ _ => z j⟩
    · obtain ⟨c1, c2, c3⟩ := hcl
      obtain ⟨a1, a2, a3⟩ := K v v2
      obtain ⟨b1', b2, b3⟩ := K s s2
      have kv : kt (51 + v) = true := by
        cases e : kt (51 + v) with
        | true => rfl
        | false => rw [ha _ a1 e 0] at c1; cases c1
      have ks : kt (51 + s) = true := by
        cases e : kt (51 + s) with
        | true => rfl
        | false => rw [ha _ b1' e 0] at c2; cases c2
      exact (h (51 + s) (Nat.zero_le _) b1' ks).2.2 b2 (by omega) v (Nat.zero_le _) (by rw [b3]; omega) kv (by omega) c3
  · rintro ⟨h1, h2, h3⟩ k k0 k1 kk
    refine ⟨h1 k k0 k1 kk, fun y1 y2 => ?_, fun y1 y2 j j0 j1 j2 j3 j4 => ?_⟩
    · have : k = 33 := (show ∀ k, k < 135 → kdk k = 6 → ixk k = 7 → k = 33 by decide +kernel) k k1 y1 y2
      rw [this]; exact h2
    · obtain ⟨i1, i2⟩ := ix12 k k1 y1
      have one : ∀ v, v < 16 → kt (51 + v) = true → kb (51 + v) 0 ≠ 0 → kb (51 + v) 0 = 1 := fun v hv hk hz => by
        obtain ⟨a1, a2, a3⟩ := K v hv
        have := h1 (51 + v) (Nat.zero_le _) a1 hk
        rw [a2, a3] at this
        have q : lg12 (kb (51 + v)) := this
        unfold lg12 at q
        rw [if_neg hz] at q
        exact q.1
      refine h3 j (Nat.zero_le _) (by omega) (ixk k) (by omega) i1 ⟨one j (by omega) j2 j3, ?_, ?_⟩
      · rw [← i2]
        have := one (ixk k) i1 (by rw [← i2]; exact kk) (by rw [← i2]; exact y2)
        rw [← i2] at this; exact this
      · rw [← i2]; exact j4
theorem r608 (hB : ∀ k, k < 135 → kt k = true → ∀ j, j < 28 → N.1 337 (28 * k + j) = by8 (kb k j)) (hT : ∀ k, k < 135 → N.1 336 k = nI (b1 (kt k))) (hg : ∀ k j, kb k j < 256) (ha : ∀ k, k < 135 → kt k = false → ∀ j, kb k j = 0) (hn : pl_n e ≤ 40) (hp : r_pl e fl N) (h3 : ∀ i, i < 550 → N.1 233 i = nI (e i) ∧ e i < 4) (h27 : N.1 232 27 = nI m) (hm : m ≤ 196) (h252 : ∀ j, j < m → N.1 252 j = nI (tx j)) (htx : ∀ j, tx j < 128) (hp2 : (prs tx m).1 = 0) (h8 : N.1 232 28 = nI (na (prs tx m).2.2)) (hw : rws (N.1 253) (N.1 254) (N.1 255) (N.1 256) (prs tx m).2.2) : cp_608_88 true 0 N ∧ ∃ ok M, cf_608_88 true 0 N = ((if ok = true then 0 else 4), M) ∧ (ok = true ↔ LG kt kb) ∧ jrM N M e fl (prs tx m).2.2 := by
  have nf : ¬ (false = true) := fun z => by cases z
  have jr0 : jrM N N e fl (prs tx m).2.2 := ⟨fq_refl _ _ _, fun _ _ _ _ _ _ _ => rfl, fun _ _ => rfl, hp, h8, hw⟩
  -- behind the keys
  have T : (kb 33 0 < 197) → (cp_608_128 true N ∧ ∃ ok M, cf_608_128 true N = ((if ok = true then 0 else 4), M) ∧ (ok = true ↔ pl_n (pe kt kb) ≤ 40 ∧ tok (kb 33 0) (rtx kb) ∧ (prs (rtx kb) (kb 33 0)).1 = 0) ∧ jrM N M e fl (prs tx m).2.2) := fun h33 => by
    obtain ⟨a1, A, a2, a3, a4, a5, a6⟩ := r620 hB hT hg hn hp h3
    obtain ⟨b1', ok, M, b2, b3, b4⟩ := r621 (N := A) (kt := kt) (kb := kb) (m := m) (tx := tx) (by rw [a3.1 337 rfl]; exact hB) (by rw [a3.1 336 rfl]; exact hT) hg ha h33 (by rw [a4 27 (by decide)]; exact h27) hm (fun j hj => by rw [a3.1 252 rfl]; exact h252 j hj) htx hp2 (by rw [a4 28 (by decide)]; exact h8) (by rw [a3.1 253 rfl, a3.1 254 rfl, a3.1 255 rfl, a3.1 256 rfl]; exact hw)
    have JA : jrM N A e fl (prs tx m).2.2 := ⟨fq_sub a3 rfl rfl, fun f h7 _ _ _ _ _ => a4 f h7, a5, a6, by rw [a4 28 (by decide)]; exact h8, by rw [a3.1 253 rfl, a3.1 254 rfl, a3.1 255 rfl, a3.1 256 rfl]; exact hw⟩
    have JM : jrM N M e fl (prs tx m).2.2 := by
      refine ⟨fq_trans (fq_sub a3 rfl rfl) (fq_sub b4.f rfl rfl), fun f k7 k1 k2 k3 k4 k5 => by rw [b4.i f k1 k2 k3 k4 k5, a4 f k7], fun j hj => by rw [b4.f.1 233 rfl]; exact a5 j hj, ?_, b4.r8, b4.rw⟩
      refine rpl_cg (b4.i 7 (by decide) (by decide) (by decide) (by decide) (by decide)) (fun c hc => ?_) a6
      have hc' : c ∈ plR := by simpa using hc
      exact b4.f.1 c ((show ∀ c, c ∈ plR → ([232, 253, 254, 255, 256, 338, 339] : List Nat).contains c = false by decide) c hc')
    rw [cp_608_128, cf_608_128, a2]
    by_cases w1 : pl_n (pe kt kb) ≤ 40
    · rw [decide_eq_true w1, if_pos rfl, if_pos rfl]
      show (_ ∧ _) ∧ _
      rw [b2]
      refine ⟨⟨fun _ => ⟨a1, fun _ => b1', fun z => absurd rfl z⟩, fun z => absurd rfl z⟩, ok, M, ?_, b3.trans ⟨fun z => ⟨w1, z⟩, fun z => z.2⟩, JM⟩
      cases ok <;> rfl
    · rw [decide_eq_false w1, if_pos rfl, if_neg nf]
      exact ⟨⟨fun _ => ⟨a1, fun z => absurd z nf, fun _ => trivial⟩, fun z => absurd rfl z⟩, false, A, rfl, ⟨fun z => absurd z nf, fun z => absurd z.1 w1⟩, JA⟩
  have KEY : ∀ k, 0 ≤ k → k < 135 → (cd_608_88 N (true, nI k) ∧ ((kt k = true → lgk (kdk k) (ixk k) (kb k) ∧ lgx kt kb (kdk k) (ixk k) k) → cq_608_88 N (true, nI k) = .inl (true, nI (k + 1))) ∧ (¬ (kt k = true → lgk (kdk k) (ixk k) (kb k) ∧ lgx kt kb (kdk k) (ixk k) k) → cq_608_88 N (true, nI k) = .inl (false, nI (k + 1)))) := fun k h1 h2 => by
    have l : nI k < 135 := (nI_ltI (b := 135) (by omega) (by omega)).mpr h2
    have ib : mz_ib (nI k) 135 := ib_n h2 (by omega)
    have g336 : mz_gI N 336 (nI k) = nI (b1 (kt k)) := by rw [gI_a, nI_clamp (by omega)]; exact hT k h2
    have gz : mz_gZ N 336 (nI k) = kt k := by rw [gZ_a, nI_clamp (by omega), hT k h2]; cases kt k <;> rfl
    rw [cd_608_88, cq_608_88]
    simp only [l, if_true, g336, gz, cf_608_116, cf_608_121, nI_1]
    by_cases w : kt k = true
    · obtain ⟨c1, c2⟩ := r_lg hT hB hg h2 w
      rw [if_pos w]
      refine ⟨⟨fun _ => ⟨fun _ => ⟨ib, z01_b _, fun _ => ⟨c1, fun _ => trivial, fun _ => trivial⟩, fun z => absurd w z⟩, fun z => absurd trivial z⟩, fun z => absurd trivial z⟩, fun y => by rw [if_pos (c2.mpr (y w))], fun y => ?_⟩
      rw [if_neg (fun z => y (fun _ => c2.mp z))]
    · rw [if_neg w]
      exact ⟨⟨fun _ => ⟨fun _ => ⟨ib, z01_b _, fun z => absurd z w, fun _ => trivial⟩, fun z => absurd trivial z⟩, fun z => absurd trivial z⟩, fun _ => rfl, fun y => absurd (fun z => absurd z w) y⟩
  have F128 : cp_608_128 false N ∧ cf_608_128 false N = (4, N) := ⟨⟨fun z => absurd z nf, fun _ => trivial⟩, if_neg nf⟩
  have FK' : ∀ k, 0 ≤ k → k < 135 → (cd_608_88 N (false, nI k) ∧ (cq_608_88 N (false, nI k) = .inl (false, nI (k + 1)) ∨ cq_608_88 N (false, nI k) = .inr (4, N))) := fun k h1 h2 => by
    have l : nI k < 135 := (nI_ltI (b := 135) (by omega) (by omega)).mpr h2
    rw [cd_608_88, cq_608_88]
    simp only [l, if_true]
    rw [if_neg nf, F128.2]
    exact ⟨⟨fun _ => ⟨fun z => absurd z nf, fun _ => F128.1⟩, fun z => absurd trivial z⟩, Or.inr rfl⟩
  have l : ¬ nI 135 < 135 := by decide
  have FE : cd_608_88 N (false, nI 135) ∧ cq_608_88 N (false, nI 135) = .inr (4, N) := by
    rw [cd_608_88, cq_608_88]
    simp only [l, if_false, F128.2]
    exact ⟨⟨False.elim, fun _ => F128.1⟩, trivial⟩
  rw [cp_608_88, cf_608_88]
  by_cases w : ∀ k, 0 ≤ k → k < 135 → (kt k = true → lgk (kdk k) (ixk k) (kb k) ∧ lgx kt kb (kdk k) (ixk k) k)
  · obtain ⟨x1, x2, x3⟩ := (LG_x hg ha).mp w
    obtain ⟨t1, ok, M, t2, t3, t4⟩ := T x2.1
    obtain ⟨d1, d2, _⟩ := lp_allr (f := cq_608_88 N) (P := cd_608_88 N) (rT := ((if ok = true then 0 else 4), M)) (rF := (4, N)) 0 135 (fun k => kt k = true → lgk (kdk k) (ixk k) (kb k) ∧ lgx kt kb (kdk k) (ixk k) k) (by omega) KEY FK' (by
      rw [cd_608_88, cq_608_88]
      simp only [l, if_false, t2]
      exact ⟨⟨False.elim, fun _ => t1⟩, trivial⟩) FE
    exact ⟨d1, ok, M, d2 w, t3.trans ⟨fun z => ⟨x1, z.1, x3, ⟨x2.1, x2.2, z.2.1⟩, z.2.2⟩, fun z => ⟨z.n, z.t.2.2, z.p⟩⟩, t4⟩
  · -- some key is bad: the flag falls before the end
    have hbad : ∃ k, k < 135 ∧ ¬ (kt k = true → lgk (kdk k) (ixk k) (kb k) ∧ lgx kt kb (kdk k) (ixk k) k) := Classical.byContradiction (fun h => w (fun k _ h2 => Classical.byContradiction (fun h3 => h ⟨k, h2, h3⟩)))
    obtain ⟨kk, k1, k2⟩ := hbad
    obtain ⟨d1, d2⟩ := mz_lpn (f := cq_608_88 N) (P := cd_608_88 N) (Q := fun r => r = (4, N)) 135 (fun t s => (s = (true, nI t) ∧ ∀ j, j < t → (kt j = true → lgk (kdk j) (ixk j) (kb j) ∧ lgx kt kb (kdk j) (ixk j) j)) ∨ s = (false, nI t)) (fun t s ht hs => by
      rcases hs with ⟨rfl, h⟩ | rfl
      · obtain ⟨y1, y2, y3⟩ := KEY t (Nat.zero_le _) ht
        refine ⟨y1, Or.inl ?_⟩
        by_cases v : kt t = true → lgk (kdk t) (ixk t) (kb t) ∧ lgx kt kb (kdk t) (ixk t) t
        · refine ⟨_, y2 v, Or.inl ⟨rfl, fun j hj => ?_⟩⟩
          by_cases u : j = t
          · rw [u]; exact v
          · exact h j (by omega)
        · exact ⟨_, y3 v, Or.inr rfl⟩
      · obtain ⟨y1, y2⟩ := FK' t (Nat.zero_le _) ht
        refine ⟨y1, ?_⟩
        rcases y2 with y | y
        · exact Or.inl ⟨_, y, Or.inr rfl⟩
        · exact Or.inr ⟨_, y, rfl⟩) (fun s hs => by
      rcases hs with ⟨rfl, h⟩ | rfl
      · exact absurd (h kk k1) k2
      · exact ⟨FE.1, _, FE.2, rfl⟩) (k := 0) (Nat.zero_le _) (Or.inl ⟨rfl, fun j hj => by omega⟩)
    refine ⟨d1, false, N, d2, ⟨fun z => absurd z nf, fun z => ?_⟩, jr0⟩
    exact absurd ((LG_x hg ha).mpr ⟨z.k, ⟨z.t.1, z.t.2.1⟩, z.a⟩) w
end Jg
