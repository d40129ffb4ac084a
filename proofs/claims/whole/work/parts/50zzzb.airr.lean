/-! PURE (50zzzb): the reference airs. -/
theorem cnt_pex {p : Nat → Bool} {n : Nat} : 0 < cnt p n ↔ ∃ i, i < n ∧ p i = true := by
  constructor
  · intro h
    obtain ⟨c, a, b, _⟩ := cnt_ex h
    exact ⟨c, a, b⟩
  · rintro ⟨i, h1, h2⟩
    exact Nat.lt_of_le_of_lt (Nat.zero_le _) (cnt_lt h1 h2)
def dmq (e : Nat → Nat) (c d : Nat) : Bool := decide (ge_sd (ge_ed (c % 48) d) < 4 ∧ e (110 * (c / 48) + ge_ed (c % 48) d) = 2)
theorem ge_b1 : ∀ i, i < 110 → ge_sd i < 4 → (if ge_bf i < 48 then ge_bf i else ge_bh i) < 48 ∧ ∃ d, d < 4 ∧ ge_ed (if ge_bf i < 48 then ge_bf i else ge_bh i) d = i := by decide +kernel
theorem ge_b2 : ∀ c, c < 48 → ∀ d, d < 4 → ge_ed c d < 110 ∧ (ge_sd (ge_ed c d) < 4 → (if ge_bf (ge_ed c d) < 48 then ge_bf (ge_ed c d) else ge_bh (ge_ed c d)) = c) := by decide +kernel
theorem dm_eq {e : Nat → Nat} (hbd : ∀ i, i < 550 → ge_sd (i % 110) < 4 → e i = 2 ∨ e i = 3) {c : Nat} (hc : c < 240) : pl_dm e c = decide (0 < cnt (dmq e c) 4) := by
  unfold pl_dm
  refine decide_eq_decide.mpr ?_
  rw [cnt_pex, cnt_pex]
  constructor
  · rintro ⟨i, hi, h⟩
    unfold pl_dmp at h
    have h' := of_decide_eq_true h
    obtain ⟨x1, d, x2, x3⟩ := ge_b1 (i % 110) (by omega) h'.1
    have hcl : ge_cl i = c := h'.2.1
    unfold ge_cl at hcl
    have e1 : c / 48 = i / 110 := by omega
    have e2 : c % 48 = (if ge_bf (i % 110) < 48 then ge_bf (i % 110) else ge_bh (i % 110)) := by omega
    refine ⟨d, x2, ?_⟩
    unfold dmq
    rw [e1, e2, x3]
    refine decide_eq_true ⟨h'.1, ?_⟩
    rw [show 110 * (i / 110) + i % 110 = i by omega]
    rcases hbd i hi h'.1 with y | y
    · exact y
    · exact absurd y h'.2.2
  · rintro ⟨d, hd, h⟩
    unfold dmq at h
    have h' := of_decide_eq_true h
    obtain ⟨x1, x2⟩ := ge_b2 (c % 48) (by omega) d hd
    have x3 := x2 h'.1
    refine ⟨110 * (c / 48) + ge_ed (c % 48) d, by omega, ?_⟩
    unfold pl_dmp
    have e1 : (110 * (c / 48) + ge_ed (c % 48) d) % 110 = ge_ed (c % 48) d := by omega
    have e2 : (110 * (c / 48) + ge_ed (c % 48) d) / 110 = c / 48 := by omega
    refine decide_eq_true ⟨by rw [e1]; exact h'.1, ?_, by rw [h'.2]; decide⟩
    unfold ge_cl
    rw [e1, e2, x3]
    omega
section Airr
variable {N : mz_N} {e fl : Nat → Nat} {P hw mo A : Nat → Nat} {hr vv vn c3 c4 a1 : Nat} {lv : Bool}
theorem ven_r (hn : pl_n e ≤ 40) (hp : r_pl e fl N) (ha : 271 ≠ a1) (hlv : N.1 276 10 = mz_b01 lv) (hvn : N.1 257 13 = nI vn) (hvn2 : vn ≤ 100) (hvv : vv = if lv = true then 10 * vn else 0) :
    cp_532_76 a1 0 N ∧ ∃ f x q, cf_532_76 a1 0 N = spN (mz_sL N 271 f) a1 x q ∧ ∀ c, c < 240 → x c = spd e (vnt e vv (N.2 271)) c := by
  rw [cp_532_76, cf_532_76]
  refine mz_lpn (f := cq_532_76 a1) (P := cd_532_76 a1) (Q := fun t => ∃ f x q, t = spN (mz_sL N 271 f) a1 x q ∧ ∀ c, c < 240 → x c = spd e (vnt e vv (N.2 271)) c) (pl_n e) (fun x s => ∃ f, s = (nI x, mz_sL N 271 f) ∧ ∀ k, f k = if k < x then vnt e vv (N.2 271) k else N.2 271 k) ?_ ?_ (Nat.zero_le _) ⟨N.2 271, by rw [sL_same]; rfl, fun k => by rw [if_neg (Nat.not_lt_zero _)]⟩
  · rintro x s hx ⟨f, rfl, hf⟩
    have l : nI x < nI (pl_n e) := (nI_ltI (by omega) (by omega)).mpr hx
    have ix : mz_ib (nI x) 41 := ib_n (by omega) (by omega)
    have hg := pl_gl_le (e := e) (k := x)
    have g41 : mz_gI (mz_sL N 271 f) 241 (nI x) = nI (pl_gl e x) := by rw [gI_a, sL_1, nI_clamp (by omega)]; exact (hp.2.2.2.1 x hx).2
    have g71 : mz_gL (mz_sL N 271 f) 271 (nI x) = N.2 271 x := by rw [gL_a, sL_e, nI_clamp (by omega), hf x, if_neg (Nat.lt_irrefl _)]
    have z6 : mz_z01 (mz_gI (mz_sL N 271 f) 276 10) := by
      show mz_z01 (N.1 276 10)
      rw [hlv]; cases lv
      · exact Or.inl rfl
      · exact Or.inr rfl
    have e6 : mz_gZ (mz_sL N 271 f) 276 10 = lv := by
      show decide (N.1 276 10 = 1) = lv
      rw [hlv]; cases lv <;> rfl
    have e53 : (10 : Int32) * mz_gI (mz_sL N 271 f) 257 13 = nI (10 * vn) := by
      show (10 : Int32) * N.1 257 13 = _
      rw [hvn, show (10 : Int32) = nI 10 from rfl, pk_mul]
    have go : ∀ s1 : Int32, s1 = nI vv → cp_532_118 a1 (2 * nI (pl_gl e x)) s1 (nI x) (mz_sL N 271 f) ∧ ∃ s2, cf_532_118 a1 (2 * nI (pl_gl e x)) s1 (nI x) (mz_sL N 271 f) = .inl s2 ∧ ∃ f, s2 = (nI (x + 1), mz_sL N 271 f) ∧ ∀ k, f k = if k < x + 1 then vnt e vv (N.2 271) k else N.2 271 k := fun s1 h1 => by
      have hv : vv ≤ 1000 := by rw [hvv]; split <;> omega
      have ev : (2 * nI (pl_gl e x) + s1).toInt64 = lN (2 * pl_gl e x + vv) := by
        rw [h1, show (2 : Int32) = nI 2 from rfl, pk_mul, nI_add, nI_L (by omega)]
      rw [cp_532_118, cf_532_118, g71, ev]
      refine ⟨⟨ix, ix, ix, trivial⟩, _, rfl, vp_updL f x (vnt e vv (N.2 271) x), ?_, fun k => ?_⟩
      · rw [nI_1, wL_s, sL_e, sL_sL, nI_clamp (by omega)]; rfl
      · rw [upL_a]
        by_cases z : k = x
        · rw [if_pos z, if_pos (by omega), z]
        · rw [if_neg z, hf k]
          by_cases y : k < x
          · rw [if_pos y, if_pos (by omega)]
          · rw [if_neg y, if_neg (by omega)]
    rw [cd_532_76, cq_532_76]
    simp only [sL_1, hp.1, l, if_true, g41, e6, e53]
    cases hl : lv with
    | true =>
      obtain ⟨p1, p2⟩ := go (nI (10 * vn)) (by rw [hvv, hl, if_pos rfl])
      rw [if_pos rfl]
      exact ⟨⟨fun _ => ⟨ib_n (by omega) (by omega), z6, fun _ => p1, fun z => absurd rfl z⟩, fun z => absurd trivial z⟩, Or.inl p2⟩
    | false =>
      obtain ⟨p1, p2⟩ := go 0 (by rw [hvv, hl, if_neg (by decide)]; rfl)
      rw [if_neg (by decide)]
      exact ⟨⟨fun _ => ⟨ib_n (by omega) (by omega), z6, (fun z => by cases z), fun _ => p1⟩, fun z => absurd trivial z⟩, Or.inl p2⟩
  · rintro s ⟨f, rfl, hf⟩
    have l : ¬ nI (pl_n e) < nI (pl_n e) := fun q => by have := (nI_ltI (by omega) (by omega)).mp q; omega
    obtain ⟨s1, g, q, s2', s3⟩ := spr_r (N := mz_sL N 271 f) (e := e) (a1 := 271) (n1 := 41) (a2 := a1) ha (by omega) (by omega) hp.1 hp.2.1 (fun k hk => (hp.2.2.1 k hk).2)
    rw [cd_532_76, cq_532_76]
    simp only [sL_1, hp.1, l, if_false]
    refine ⟨⟨False.elim, fun _ => s1⟩, _, rfl, f, g, q, s2', fun c hc => ?_⟩
    rw [s3 c hc, sL_e]
    exact spd_cg (fun k hk => by rw [hf k, if_pos hk]) hc
theorem aof_r (hn : pl_n e ≤ 40) (hp : r_pl e fl N) (ha : 271 ≠ a1) (hlv : N.1 276 10 = mz_b01 lv) (hvn : N.1 257 13 = nI vn) (hvn2 : vn ≤ 100) (hvv : vv = if lv = true then 10 * vn else 0) (h44 : ∀ j, j < 240 → N.1 244 j = nI (P j)) (hP : ∀ j, P j ≤ 20) (h77 : ∀ j, j < 10 → N.1 277 j = nI (hw j)) (hhw : ∀ j, j < 10 → hw j ≤ 100) (hhr : hr < 24) (hc3 : c3 ≤ 20) (hc4 : c4 ≤ 2) (hA : ∀ j, A j = c3 * pnt e fl P hr j + c4 * hw j) :
    cp_532_0 a1 (nI hr) (nI c3) (nI c4) N ∧ ∃ K, cf_532_0 a1 (nI hr) (nI c3) (nI c4) N = K ∧ fq [238] [271, a1] N K ∧ ∀ c, c < 240 → K.2 a1 c = spd e (arT e fl A vv (N.2 a1)) c := by
  have h42 := fun j (hj : j < 10) => (hp.2.2.2.2.2 j hj).1
  obtain ⟨q1, f0, q2, q3⟩ := gat_r (N := N) (e := e) (a1 := a1) (a2 := 271) (n2 := 41) hp.1 hp.2.1 (by omega) (by omega) (fun z => ha z.symm)
  rw [cp_532_0, cf_532_0, q2, cp_532_12, cf_532_12]
  refine (fun (h : _ ∧ _) => ⟨⟨q1, h.1⟩, h.2⟩) (lp_hrt (f := cq_532_12 a1 (nI hr) (nI c3) (nI c4)) (P := cd_532_12 a1 (nI hr) (nI c3) (nI c4)) (N := N) (c := 271) (f0 := f0) (e := e) (fl := fl) (A := A) (Q := fun t => ∃ K, t = K ∧ fq [238] [271, a1] N K ∧ ∀ c, c < 240 → K.2 a1 c = spd e (arT e fl A vv (N.2 a1)) c) (by omega) (fun i hi g => ?_) (fun g hg => ?_))
  · have l : nI i < 10 := (nI_ltI (b := 10) (by omega) (by omega)).mpr hi
    have i0 : mz_ib (nI i) 10 := ib_n hi (by omega)
    have g42 : mz_gI (mz_sL N 271 g) 242 (nI i) = nO (pl_n e) (pl_ht e fl i) := by rw [gI_a, sL_1, nI_clamp (by omega)]; exact h42 i hi
    rw [cd_532_12, cq_532_12]
    simp only [l, if_true, g42]
    by_cases w : pl_ht e fl i < pl_n e
    · have eO : nO (pl_n e) (pl_ht e fl i) = nI (pl_ht e fl i) := if_pos w
      have nm : ¬ nI (pl_ht e fl i) < 0 := nI_pos (by omega)
      obtain ⟨r1, r2⟩ := prs_r (N := mz_sL N 271 g) (e := e) (fl := fl) (P := P) hn h42 h44 hhr hi
      have rb : pnt e fl P hr i ≤ 20 := by rw [pnt, if_pos w]; exact hP _
      have r3 : mz_gI (mz_sL N 271 g) 277 (nI i) = nI (hw i) := by rw [gI_a, sL_1, nI_clamp (by omega)]; exact h77 i hi
      have lb := hhw i hi
      have lb2 : c4 * hw i ≤ 2 * 100 := Nat.mul_le_mul hc4 lb
      have i1 : mz_ib (nI (pl_ht e fl i)) 41 := ib_n (by omega) (by omega)
      have ev : (nI c3).toInt64 * (nI (pnt e fl P hr i)).toInt64 + (nI c4 * nI (hw i)).toInt64 = lN (A i) := by
        rw [nI_L (by omega), nI_L (by omega), pk_mul, nI_L (by omega), lN_mul, lN_add, hA]
      have g74 : mz_gL (mz_sL N 271 g) 271 (nI (pl_ht e fl i)) = g (pl_ht e fl i) := by rw [gL_a, sL_e, nI_clamp (by omega)]
      simp only [eO, nm, if_false, r2, r3, ev, g74, if_pos w]
      exact ⟨⟨fun _ => ⟨i0, False.elim, fun _ => ⟨i0, i1, r1, i0, i1, trivial⟩⟩, fun z => absurd trivial z⟩, by rw [cf_532_67, nI_1]⟩
    · have eO : nO (pl_n e) (pl_ht e fl i) = -1 := if_neg w
      have lm : (-1 : Int32) < 0 := by decide
      simp only [eO, lm, if_true, if_neg w]
      exact ⟨⟨fun _ => ⟨i0, fun _ => trivial, fun z => absurd trivial z⟩, fun z => absurd trivial z⟩, by rw [cf_532_67, nI_1]⟩
  · obtain ⟨v1, f, x, q, v2, v3⟩ := ven_r (N := mz_sL N 271 g) (e := e) (fl := fl) (a1 := a1) (lv := lv) (vn := vn) (vv := vv) hn hp ha hlv hvn hvn2 hvv
    rw [cd_532_12, cq_532_12]
    refine ⟨⟨fun z => absurd z (show ¬ nI 10 < 10 by decide), fun _ => v1⟩, _, if_neg (show ¬ (nI 10 : Int32) < 10 by decide), _, v2, ⟨fun c hc => ?_, fun c hc => ?_⟩, fun c hc => ?_⟩
    · have h1 : c ≠ 238 := fun z => by rw [z] at hc; cases hc
      show (if c = 238 then q else N.1 c) = N.1 c
      rw [if_neg h1]
    · have h1 : c ≠ 271 ∧ c ≠ a1 := by simpa using hc
      show (if c = a1 then x else (mz_sL (mz_sL N 271 g) 271 f).2 c) = N.2 c
      rw [if_neg h1.2, sL_n h1.1, sL_n h1.1]
    · show (if a1 = a1 then x else _) c = _
      rw [if_pos rfl, v3 c hc, sL_e]
      refine spd_cg (fun k hk => ?_) hc
      exact vnt_cg (by rw [hg k hk, q3 k hk])
end Airr
