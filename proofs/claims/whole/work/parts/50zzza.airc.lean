/-! PURE (50zzza): the class airs. -/
section Airc2
variable {N : mz_N} {e fl : Nat → Nat} {P hw mo : Nat → Nat} {hr vv vn : Nat} {W : Nat → Int64} {lv : Bool}
/-- a step of a loop over hearts in the class -/
theorem sL_ov {a : Nat} {f g : Nat → Int64} {b : Nat} {h : Nat → Int64} (hab : a ≠ b) : mz_sL (mz_sL (mz_sL N a f) b h) a g = mz_sL (mz_sL N b h) a g := by
  refine mz_ext (fun c => rfl) (fun c => ?_)
  rw [sL_2, sL_2, sL_2, sL_2, sL_2]
  by_cases z : c = a
  · rw [if_pos z, if_pos z]
  · rw [if_neg z, if_neg z, if_neg z]
theorem dmp_c (hn : pl_n e ≤ 40) (hp : c_pl e fl N) (h40 : ∀ j, j < 240 → N.1 40 j = nI (P j)) (hP : ∀ j, P j ≤ 20) (h64 : ∀ j, j < 10 → N.1 64 j = nI (hw j)) (hhw : ∀ j, j < 10 → hw j ≤ 100) (hhr : hr < 24) (hv : vv ≤ 1000) (h75 : ∀ k, k < pl_n e → N.2 75 k = W k) (h72 : ∀ c, c < 240 → N.1 72 c = nI (mo c) ∧ mo c ≤ 1000) {f0 : Nat → Int64} :
    cp_244_111 (nI hr) (nI vv) 0 (mz_sL N 74 f0) ∧ ∃ K, cf_244_111 (nI hr) (nI vv) 0 (mz_sL N 74 f0) = K ∧ fq [72] [70, 74] N K ∧ (∀ c, c < 240 → K.2 70 c = spd e (vnt e vv (fun k => f0 k + lN (hrt e fl (fun j => 5 * pnt e fl P hr j + 2 * hw j) k))) c) ∧ ∀ c, c < 240 → K.1 72 c = nI (mou (pl_dm e c) (W (pl_lab e c)) (K.2 70 c) (mo c)) := by
  have h38 := fun j (hj : j < 10) => (hp.2.2.2.2.2 j hj).1
  rw [cp_244_111, cf_244_111]
  refine lp_hrt (e := e) (fl := fl) (A := fun j => 5 * pnt e fl P hr j + 2 * hw j) (Q := fun t => ∃ K, t = K ∧ fq [72] [70, 74] N K ∧ (∀ c, c < 240 → K.2 70 c = spd e (vnt e vv (fun k => f0 k + lN (hrt e fl (fun j => 5 * pnt e fl P hr j + 2 * hw j) k))) c) ∧ ∀ c, c < 240 → K.1 72 c = nI (mou (pl_dm e c) (W (pl_lab e c)) (K.2 70 c) (mo c))) (by omega) (fun i hi g => ?_) (fun g hg => ?_)
  · have l : nI i < 10 := (nI_ltI (b := 10) (by omega) (by omega)).mpr hi
    have i0 : mz_ib (nI i) 10 := ib_n hi (by omega)
    have g38 : mz_gI (mz_sL N 74 g) 38 (nI i) = nO (pl_n e) (pl_ht e fl i) := by rw [gI_a, sL_1, nI_clamp (by omega)]; exact h38 i hi
    rw [cd_244_111, cq_244_111]
    simp only [l, if_true, g38]
    by_cases w : pl_ht e fl i < pl_n e
    · have eO : nO (pl_n e) (pl_ht e fl i) = nI (pl_ht e fl i) := if_pos w
      have nm : ¬ nI (pl_ht e fl i) = -1 := fun z => (nI_m1 (by omega)).mp z
      obtain ⟨r1, r2⟩ := prs_c (N := mz_sL N 74 g) (e := e) (fl := fl) (P := P) hn h38 h40 hhr hi
      have rb : pnt e fl P hr i ≤ 20 := by rw [pnt, if_pos w]; exact hP _
      have r3 : mz_gI (mz_sL N 74 g) 64 (nI i) = nI (hw i) := by rw [gI_a, sL_1, nI_clamp (by omega)]; exact h64 i hi
      have lb := hhw i hi
      have i1 : mz_ib (nI (pl_ht e fl i)) 40 := ib_n (by omega) (by omega)
      have ev : ((5 : Int32) * nI (pnt e fl P hr i) + 2 * nI (hw i)).toInt64 = lN (5 * pnt e fl P hr i + 2 * hw i) := by
        rw [show (5 : Int32) = nI 5 from rfl, show (2 : Int32) = nI 2 from rfl, pk_mul, pk_mul, nI_add, nI_L (by omega)]
      have g74 : mz_gL (mz_sL N 74 g) 74 (nI (pl_ht e fl i)) = g (pl_ht e fl i) := by rw [gL_a, sL_e, nI_clamp (by omega)]
      simp only [eO, nm, if_false, r2, r3, ev, g74, if_pos w]
      exact ⟨⟨fun _ => ⟨i0, False.elim, fun _ => ⟨i0, i1, r1, i0, i1, trivial⟩⟩, fun z => absurd trivial z⟩, by rw [cf_244_165, nI_1]⟩
    · have eO : nO (pl_n e) (pl_ht e fl i) = -1 := if_neg w
      simp only [eO, if_true, if_neg w]
      exact ⟨⟨fun _ => ⟨i0, fun _ => trivial, fun z => absurd trivial z⟩, fun z => absurd trivial z⟩, by rw [cf_244_165, nI_1]⟩
  · obtain ⟨a1, f1, a2, a3⟩ := ven_c (N := mz_sL N 74 g) (e := e) (vv := vv) hn hp.1 (fun k hk => (hp.2.2.1 k hk).2.1) hv
    rw [sL_sL] at a2
    obtain ⟨b1', x, b2, b3⟩ := spr_c (N := mz_sL N 74 f1) (e := e) (a2 := 70) (by decide) hn hp.1 (sm_pl hp)
    obtain ⟨c1, y, c2, c3⟩ := mou_c (N := mz_sL (mz_sL N 74 f1) 70 x) (e := e) (W := W) (mo := mo) hn hp.2.1.1 hp.2.2.2.1 h75 h72
    rw [cd_244_111, cq_244_111]
    refine ⟨⟨fun z => absurd z (show ¬ nI 10 < 10 by decide), fun _ => ⟨a1, by rw [a2]; exact b1', by rw [a2, b2]; exact c1⟩⟩, _, if_neg (show ¬ (nI 10 : Int32) < 10 by decide), mz_sI (mz_sL (mz_sL N 74 f1) 70 x) 72 y, by rw [a2, b2, c2], fq_sI (fq_sL (fq_sL (fq_refl _ _ _) rfl) rfl) rfl, fun c hc => ?_, fun c hc => ?_⟩
    · show x c = _
      rw [b3 c hc, sL_e]
      refine spd_cg (fun k hk => ?_) hc
      rw [a3 k hk, sL_e]
      exact vnt_cg (hg k hk)
    · show y c = _
      rw [c3 c hc, sI_2]
theorem air_c (hn : pl_n e ≤ 40) (hp : c_pl e fl N) (h40 : ∀ j, j < 240 → N.1 40 j = nI (P j)) (hP : ∀ j, P j ≤ 20) (h64 : ∀ j, j < 10 → N.1 64 j = nI (hw j)) (hhw : ∀ j, j < 10 → hw j ≤ 100) (hhr : hr < 24) (hvn : N.1 53 13 = nI vn) (hvn2 : vn ≤ 100) (h6 : N.1 56 6 = mz_b01 lv) (hvv : vv = if lv = true then 10 * vn else 0) (h75 : ∀ k, k < pl_n e → N.2 75 k = W k) (h72 : ∀ c, c < 240 → N.1 72 c = nI (mo c) ∧ mo c ≤ 1000) :
    cp_244_0 (nI hr) N ∧ ∃ K, cf_244_0 (nI hr) N = K ∧ fq [72] [69, 70, 74] N K ∧ (∀ c, c < 240 → K.2 69 c = spd e (arT e fl (fun j => 20 * pnt e fl P hr j) vv (N.2 69)) c) ∧ (∀ c, c < 240 → K.2 70 c = spd e (arT e fl (fun j => 5 * pnt e fl P hr j + 2 * hw j) vv (N.2 70)) c) ∧ ∀ c, c < 240 → K.1 72 c = nI (mou (pl_dm e c) (W (pl_lab e c)) (K.2 70 c) (mo c)) := by
  have h38 := fun j (hj : j < 10) => (hp.2.2.2.2.2 j hj).1
  have hv : vv ≤ 1000 := by rw [hvv]; split <;> omega
  obtain ⟨q1, f0, q2, q3⟩ := gat_c (N := N) (e := e) (a2 := 69) (by decide) hn hp.1 (sm_pl hp)
  rw [cp_244_0, cf_244_0, q2, cp_244_12, cf_244_12]
  refine (fun (h : _ ∧ _) => ⟨⟨q1, h.1⟩, h.2⟩) (lp_hrt (f := cq_244_12 (nI hr)) (P := cd_244_12 (nI hr)) (N := N) (c := 74) (f0 := f0) (e := e) (fl := fl) (A := fun j => 20 * pnt e fl P hr j) (Q := fun t => ∃ K, t = K ∧ fq [72] [69, 70, 74] N K ∧ (∀ c, c < 240 → K.2 69 c = spd e (arT e fl (fun j => 20 * pnt e fl P hr j) vv (N.2 69)) c) ∧ (∀ c, c < 240 → K.2 70 c = spd e (arT e fl (fun j => 5 * pnt e fl P hr j + 2 * hw j) vv (N.2 70)) c) ∧ ∀ c, c < 240 → K.1 72 c = nI (mou (pl_dm e c) (W (pl_lab e c)) (K.2 70 c) (mo c))) (by omega) (fun i hi g => ?_) (fun g hg => ?_))
  · have l : nI i < 10 := (nI_ltI (b := 10) (by omega) (by omega)).mpr hi
    have i0 : mz_ib (nI i) 10 := ib_n hi (by omega)
    have g38 : mz_gI (mz_sL N 74 g) 38 (nI i) = nO (pl_n e) (pl_ht e fl i) := by rw [gI_a, sL_1, nI_clamp (by omega)]; exact h38 i hi
    rw [cd_244_12, cq_244_12]
    simp only [l, if_true, g38]
    by_cases w : pl_ht e fl i < pl_n e
    · have eO : nO (pl_n e) (pl_ht e fl i) = nI (pl_ht e fl i) := if_pos w
      have nm : ¬ nI (pl_ht e fl i) = -1 := fun z => (nI_m1 (by omega)).mp z
      obtain ⟨r1, r2⟩ := prs_c (N := mz_sL N 74 g) (e := e) (fl := fl) (P := P) hn h38 h40 hhr hi
      have rb : pnt e fl P hr i ≤ 20 := by rw [pnt, if_pos w]; exact hP _
      have i1 : mz_ib (nI (pl_ht e fl i)) 40 := ib_n (by omega) (by omega)
      have ev : ((20 : Int32) * nI (pnt e fl P hr i)).toInt64 = lN (20 * pnt e fl P hr i) := by
        rw [show (20 : Int32) = nI 20 from rfl, pk_mul, nI_L (by omega)]
      have g74 : mz_gL (mz_sL N 74 g) 74 (nI (pl_ht e fl i)) = g (pl_ht e fl i) := by rw [gL_a, sL_e, nI_clamp (by omega)]
      simp only [eO, nm, if_false, r2, ev, g74, if_pos w]
      exact ⟨⟨fun _ => ⟨i0, False.elim, fun _ => ⟨i0, i1, r1, i1, trivial⟩⟩, fun z => absurd trivial z⟩, by rw [cf_244_57, nI_1]⟩
    · have eO : nO (pl_n e) (pl_ht e fl i) = -1 := if_neg w
      simp only [eO, if_true, if_neg w]
      exact ⟨⟨fun _ => ⟨i0, fun _ => trivial, fun z => absurd trivial z⟩, fun z => absurd trivial z⟩, by rw [cf_244_57, nI_1]⟩
  · have z6 : mz_z01 ((mz_sL N 74 g).1 56 6) := by
      show mz_z01 (N.1 56 6)
      rw [h6]; cases lv
      · exact Or.inl rfl
      · exact Or.inr rfl
    have e6 : mz_fZ (mz_sL N 74 g) 56 6 = lv := by
      show decide (N.1 56 6 = 1) = lv
      rw [h6]; cases lv <;> rfl
    have e53 : (10 : Int32) * mz_gI (mz_sL N 74 g) 53 13 = nI (10 * vn) := by
      show (10 : Int32) * N.1 53 13 = _
      rw [hvn, show (10 : Int32) = nI 10 from rfl, pk_mul]
    have fin : cp_244_81 (nI vv) (nI hr) (mz_sL N 74 g) ∧ ∃ K, cf_244_81 (nI vv) (nI hr) (mz_sL N 74 g) = K ∧ fq [72] [69, 70, 74] N K ∧ (∀ c, c < 240 → K.2 69 c = spd e (arT e fl (fun j => 20 * pnt e fl P hr j) vv (N.2 69)) c) ∧ (∀ c, c < 240 → K.2 70 c = spd e (arT e fl (fun j => 5 * pnt e fl P hr j + 2 * hw j) vv (N.2 70)) c) ∧ ∀ c, c < 240 → K.1 72 c = nI (mou (pl_dm e c) (W (pl_lab e c)) (K.2 70 c) (mo c)) := by
      obtain ⟨a1, f1, a2, a3⟩ := ven_c (N := mz_sL N 74 g) (e := e) (vv := vv) hn hp.1 (fun k hk => (hp.2.2.1 k hk).2.1) hv
      rw [sL_sL] at a2
      obtain ⟨b1', x, b2, b3⟩ := spr_c (N := mz_sL N 74 f1) (e := e) (a2 := 69) (by decide) hn hp.1 (sm_pl hp)
      obtain ⟨c1, f2, c2, c3⟩ := gat_c (N := mz_sL (mz_sL N 74 f1) 69 x) (e := e) (a2 := 70) (by decide) hn hp.1 (sm_pl hp)
      rw [sL_ov (by decide)] at c2
      obtain ⟨d1, K, d2, d3, d4, d5⟩ := dmp_c (N := mz_sL N 69 x) (e := e) (fl := fl) (P := P) (hw := hw) (mo := mo) (W := W) (vv := vv) (hr := hr) (f0 := f2) hn hp h40 hP h64 hhw hhr hv h75 h72
      rw [cp_244_81, cf_244_81, a2, b2, c2]
      refine ⟨⟨a1, b1', c1, d1⟩, K, d2, ⟨fun c hc => d3.1 c hc, fun c hc => ?_⟩, fun c hc => ?_, fun c hc => ?_, d5⟩
      · have h1 : c ≠ 69 := fun z => by rw [z] at hc; cases hc
        have h2 : c ≠ 70 := fun z => by rw [z] at hc; cases hc
        have h3 : c ≠ 74 := fun z => by rw [z] at hc; cases hc
        rw [d3.2 c (by simp [h2, h3]), sL_n h1]
      · rw [d3.2 69 rfl, sL_e, b3 c hc, sL_e]
        refine spd_cg (fun k hk => ?_) hc
        rw [a3 k hk, sL_e]
        exact vnt_cg (by rw [hg k hk, q3 k hk])
      · rw [d4 c hc]
        refine spd_cg (fun k hk => ?_) hc
        refine vnt_cg ?_
        show f2 k + _ = _
        rw [c3 k hk]; rfl
    rw [cd_244_12, cq_244_12]
    simp only [e6, e53]
    cases hl : lv with
    | true =>
      rw [hl, if_pos rfl] at hvv
      rw [hvv] at fin
      refine ⟨⟨fun z => absurd z (show ¬ nI 10 < 10 by decide), fun _ => ⟨z6, fun _ => fin.1, fun z => absurd rfl z⟩⟩, _, (if_neg (show ¬ (nI 10 : Int32) < 10 by decide)).trans (if_pos rfl), by rw [hvv]; exact fin.2⟩
    | false =>
      rw [hl, if_neg (by decide)] at hvv
      rw [hvv] at fin
      refine ⟨⟨fun z => absurd z (show ¬ nI 10 < 10 by decide), fun _ => ⟨z6, (fun z => by cases z), fun _ => fin.1⟩⟩, _, (if_neg (show ¬ (nI 10 : Int32) < 10 by decide)).trans (if_neg (by decide)), by rw [hvv]; exact fin.2⟩
end Airc2
