/-! PURE (50zzm): water. -/
/-- a lot -/
noncomputable def ltv (sd tm : Int64) (v : Int32) : Int32 := cf_523_0 v (fun _ _ => 0, fun _ j => if j = 1 then sd else tm)
theorem lot_r (N : mz_N) (v : Int32) : cf_523_0 v N = ltv (N.2 232 1) (N.2 232 2) v := rfl
theorem lot_c (N : mz_N) (t v : Int32) : cf_231_0 t v N = ltv (N.2 56 15) t.toInt64 v := rfl
theorem lush_n (x : Int64) : ∃ n, n < 2 ^ 31 ∧ mz_lushr x 33 = lN n := by
  refine ⟨x.toBitVec.toNat / 2 ^ 33, ?_, ?_⟩
  · have := x.toBitVec.isLt
    rw [Nat.div_lt_iff_lt_mul (by decide)]
    omega
  · apply Int64.toBitVec_inj.mp
    rw [show (33 : Int32) = nI 33 from rfl, lushr_bv x (by omega), lN_bv2]
    apply BitVec.eq_of_toNat_eq
    rw [BitVec.toNat_ushiftRight, Nat.shiftRight_eq_div_pow, BitVec.toNat_ofNat]
    have := x.toBitVec.isLt
    have h2 : x.toBitVec.toNat / 2 ^ 33 < 2 ^ 31 := by
      rw [Nat.div_lt_iff_lt_mul (by decide)]
      omega
    omega
theorem ltv_n (sd tm : Int64) (v : Int32) : ∃ n, n < 100 ∧ ltv sd tm v = nI n := by
  have key : ∀ z : Int64, ∃ n, n < 100 ∧ (mz_lrem (mz_lushr z 33) 100).toInt32 = nI n := fun z => by
    obtain ⟨n, h1, h2⟩ := lush_n z
    refine ⟨n % 100, by omega, ?_⟩
    rw [h2, show mz_lrem (lN n) 100 = lN (n % 100) from pk_lRem (b := 100) (by omega) (by omega) (by omega), lN_i]
  exact key _
/-- tank, stored, dry -/
abbrev WtS := Nat × Nat × Bool
def wt1 (tk : Bool) (s : WtS) : WtS := if tk = true then (s.1 - min 6 s.1 - min 4 (s.1 - min 6 s.1), s.2.1 - 40 * min 4 (s.1 - min 6 s.1), s.2.2 || decide (s.1 < 10)) else s
def hot1 (tk : Bool) (s : WtS) : Nat := if tk = true then min 4 (s.1 - min 6 s.1) else 0
def tok1 (tk : Bool) (s : WtS) : Nat := if tk = true then min 6 s.1 + min 4 (s.1 - min 6 s.1) else 0
def wtn (lt : Nat → Bool) : Nat → WtS → WtS
  | 0, s => s
  | f + 1, s => wt1 (lt f) (wtn lt f s)
/-- wanted, ran, tank; behind the draws -/
def pmp (wa rd : Bool) (tk : Nat) : Bool × Bool × Nat := if (wa || decide (tk < 500)) = true ∧ rd = true then (decide (min 2000 (tk + 60) < 2000), true, min 2000 (tk + 60)) else (wa || decide (tk < 500), false, tk)
/-- who draws -/
noncomputable def lts (sd tm : Int64) (pn : Nat → Nat) (f : Nat) : Bool := decide (ltv sd tm (nI f) < 4 * nI (pn f))
theorem wtn_le (lt : Nat → Bool) : ∀ f s, s.1 ≤ 2000 → s.2.1 ≤ 20000 → (wtn lt f s).1 ≤ 2000 ∧ (wtn lt f s).2.1 ≤ 20000 := by
  intro f
  induction f with
  | zero => intro s a b; exact ⟨a, b⟩
  | succ f ih =>
    intro s a b
    obtain ⟨c, d⟩ := ih s a b
    show (wt1 (lt f) (wtn lt f s)).1 ≤ 2000 ∧ (wt1 (lt f) (wtn lt f s)).2.1 ≤ 20000
    unfold wt1
    split
    · exact ⟨by show _ - _ - _ ≤ 2000; omega, by show _ - _ ≤ 20000; omega⟩
    · exact ⟨c, d⟩
/-- the class's cells of water -/
def wmc (N : mz_N) (h w F : Nat → Int32) : mz_N := (fun z => if z = 64 then h else if z = 212 then w else if z = 56 then F else N.1 z, N.2)
section Wmc
variable {N : mz_N} {h w F : Nat → Int32} {i v : Int32} {j : Nat}
theorem wm_h : mz_wI (wmc N h w F) 64 i v = wmc N (upd h i.toNatClampNeg v) w F := by
  rw [wI_s]; unfold mz_sI wmc
  refine Prod.ext (funext fun y => ?_) rfl
  simp only
  by_cases h1 : y = 64
  · subst h1; rfl
  · simp [h1]
theorem wm_w : mz_wI (wmc N h w F) 212 i v = wmc N h (upd w i.toNatClampNeg v) F := by
  rw [wI_s]; unfold mz_sI wmc
  refine Prod.ext (funext fun y => ?_) rfl
  simp only
  by_cases h1 : y = 212
  · subst h1; rfl
  · simp [h1]
theorem wm_F : mz_pI (wmc N h w F) 56 j v = wmc N h w (upd F j v) := by
  rw [pI_s]; unfold mz_sI wmc
  refine Prod.ext (funext fun y => ?_) rfl
  simp only
  by_cases h1 : y = 56
  · subst h1; rfl
  · simp [h1]
theorem wm_self : wmc N (N.1 64) (N.1 212) (N.1 56) = N := by
  unfold wmc
  refine Prod.ext (funext fun y => ?_) rfl
  simp only
  by_cases h1 : y = 64
  · subst h1; rfl
  · by_cases h2 : y = 212
    · subst h2; rfl
    · by_cases h3 : y = 56
      · subst h3; rfl
      · simp [h1, h2, h3]
end Wmc
section Wtc
variable {N : mz_N} {h w F : Nat → Int32}
theorem imaxsub {a b : Nat} (ha : a < 2 ^ 30) (hb : b < 2 ^ 30) : mz_imax 0 (nI a - nI b) = nI (a - b) := by
  unfold mz_imax
  by_cases v : b < a
  · rw [pk_sub (by omega), if_pos ((nI_gt0 (by omega)).mpr (by omega))]
  · rw [if_neg, show a - b = 0 by omega]
    · rfl
    · intro q
      have := pk_sub_toInt (a := a) (b := b) ha hb
      rw [Int32.lt_iff_toInt_lt, this] at q
      have z : (0 : Int32).toInt = 0 := rfl
      omega
theorem draw_c {i pn : Nat} {tm : Int32} {s : WtS} (hi : i < 10) (hpn : pn ≤ 20) (h7 : F 7 = nI s.1) (hs1 : s.1 ≤ 2000) (h11 : F 11 = nI s.2.1) (hs2 : s.2.1 ≤ 20000) (h10 : F 10 = mz_b01 s.2.2) :
    cp_230_0 (nI i) (nI pn) tm (wmc N h w F) ∧ ∃ F', cf_230_0 (nI i) (nI pn) tm (wmc N h w F) = (nI (tok1 (decide (ltv (N.2 56 15) tm.toInt64 (nI i) < 4 * nI pn)) s), wmc N (upd h i (nI (hot1 (decide (ltv (N.2 56 15) tm.toInt64 (nI i) < 4 * nI pn)) s))) w F') ∧ F' 7 = nI (wt1 (decide (ltv (N.2 56 15) tm.toInt64 (nI i) < 4 * nI pn)) s).1 ∧ F' 11 = nI (wt1 (decide (ltv (N.2 56 15) tm.toInt64 (nI i) < 4 * nI pn)) s).2.1 ∧ F' 10 = mz_b01 (wt1 (decide (ltv (N.2 56 15) tm.toInt64 (nI i) < 4 * nI pn)) s).2.2 ∧ ∀ j, j ≠ 7 → j ≠ 10 → j ≠ 11 → F' j = F j := by
  obtain ⟨tk, st, dr⟩ := s
  simp only at h7 hs1 h11 hs2 h10
  have i10 : mz_ib (nI i) 10 := ib_n hi (by omega)
  have el : cf_231_0 tm (nI i) (wmc N (upd h i 0) w F) = ltv (N.2 56 15) tm.toInt64 (nI i) := rfl
  obtain ⟨lv, l1, l2⟩ := ltv_n (N.2 56 15) tm.toInt64 (nI i)
  have m4 : 4 * nI pn = nI (4 * pn) := by rw [show (4 : Int32) = nI 4 from rfl, pk_mul]
  rw [cp_230_0, cf_230_0, wm_h, nI_clamp (by omega), el, l2, m4]
  have e7 : (wmc N (upd h i 0) w F).1 56 7 = nI tk := h7
  rw [e7, show (6 : Int32) = nI 6 from rfl, imin_n (by omega) (by omega), pk_sub (by omega), show mz_imin 4 (nI (tk - min 6 tk)) = nI (min 4 (tk - min 6 tk)) from imin_n (a := 4) (by omega) (by omega), wm_h, nI_clamp (by omega)]
  have lq : nI lv < nI (4 * pn) ↔ lv < 4 * pn := nI_ltI (by omega) (by omega)
  by_cases w1 : lv < 4 * pn
  · have n0 : ¬ nI pn = 0 := fun q => by have := (nI_eq0 (by omega)).mp q; omega
    have ed : decide (nI lv < nI (4 * pn)) = true := decide_eq_true (lq.mpr w1)
    rw [if_neg n0, if_pos (lq.mpr w1), ed]
    have uu : upd (upd h i 0) i (nI (min 4 (tk - min 6 tk))) = upd h i (nI (min 4 (tk - min 6 tk))) := by
      funext j
      rw [up_a, up_a, up_a]
      by_cases q : j = i
      · rw [if_pos q, if_pos q]
      · rw [if_neg q, if_neg q, if_neg q]
    rw [uu]
    have g64 : ∀ F : Nat → Int32, mz_gI (wmc N (upd h i (nI (min 4 (tk - min 6 tk)))) w F) 64 (nI i) = nI (min 4 (tk - min 6 tk)) := fun F => by
      rw [gI_a, nI_clamp (by omega)]
      show upd h i _ i = _
      rw [up_a, if_pos rfl]
    have m40 : 40 * nI (min 4 (tk - min 6 tk)) = nI (40 * min 4 (tk - min 6 tk)) := by rw [show (40 : Int32) = nI 40 from rfl, pk_mul]
    have t84 : ∀ y : Bool, cp_230_84 y (nI i) (nI (min 6 tk + min 4 (tk - min 6 tk))) (wmc N (upd h i (nI (min 4 (tk - min 6 tk)))) w F) ∧ cf_230_84 y (nI i) (nI (min 6 tk + min 4 (tk - min 6 tk))) (wmc N (upd h i (nI (min 4 (tk - min 6 tk)))) w F) = (nI (min 6 tk + min 4 (tk - min 6 tk)), wmc N (upd h i (nI (min 4 (tk - min 6 tk)))) w (upd (upd (upd F 10 (mz_b01 y)) 7 (nI (tk - min 6 tk - min 4 (tk - min 6 tk)))) 11 (nI (st - 40 * min 4 (tk - min 6 tk))))) := fun y => by
      rw [cp_230_84, cf_230_84, cf_230_120, wm_F]
      have e1 : (wmc N (upd h i (nI (min 4 (tk - min 6 tk)))) w (upd F 10 (mz_b01 y))).1 56 7 = nI tk := h7
      rw [e1, pk_sub (by omega), wm_F, g64, m40]
      have e2 : (wmc N (upd h i (nI (min 4 (tk - min 6 tk)))) w (upd (upd F 10 (mz_b01 y)) 7 (nI (tk - (min 6 tk + min 4 (tk - min 6 tk)))))).1 56 11 = nI st := h11
      rw [e2, imaxsub (by omega) (by omega), wm_F, Nat.sub_sub]
      exact ⟨⟨i10, trivial⟩, rfl⟩
    have z10 : mz_z01 ((wmc N (upd h i (nI (min 4 (tk - min 6 tk)))) w F).1 56 10) := by
      show mz_z01 (F 10)
      rw [h10]; cases dr; exact Or.inl rfl; exact Or.inr rfl
    have f10 : mz_fZ (wmc N (upd h i (nI (min 4 (tk - min 6 tk)))) w F) 56 10 = dr := by
      show decide (F 10 = 1) = dr
      rw [h10]; cases dr <;> rfl
    have fin : ∀ y : Bool, y = (dr || decide (tk < 10)) → ∃ F', (nI (min 6 tk + min 4 (tk - min 6 tk)), wmc N (upd h i (nI (min 4 (tk - min 6 tk)))) w (upd (upd (upd F 10 (mz_b01 y)) 7 (nI (tk - min 6 tk - min 4 (tk - min 6 tk)))) 11 (nI (st - 40 * min 4 (tk - min 6 tk))))) = (nI (tok1 true (tk, st, dr)), wmc N (upd h i (nI (hot1 true (tk, st, dr)))) w F') ∧ F' 7 = nI (wt1 true (tk, st, dr)).1 ∧ F' 11 = nI (wt1 true (tk, st, dr)).2.1 ∧ F' 10 = mz_b01 (wt1 true (tk, st, dr)).2.2 ∧ ∀ j, j ≠ 7 → j ≠ 10 → j ≠ 11 → F' j = F j := fun y hy => by
      refine ⟨_, rfl, rfl, rfl, ?_, fun j a b c => ?_⟩
      · show mz_b01 y = mz_b01 (dr || decide (tk < 10))
        rw [hy]
      · rw [up_a, if_neg c, up_a, if_neg a, up_a, if_neg b]
    have l9 : nI (min 6 tk + min 4 (tk - min 6 tk)) < 10 ↔ tk < 10 := by
      rw [show nI (min 6 tk + min 4 (tk - min 6 tk)) < 10 ↔ min 6 tk + min 4 (tk - min 6 tk) < 10 from nI_ltI (b := 10) (by omega) (by omega)]
      omega
    have t53 : cp_230_53 (nI i) (nI (min 6 tk)) (wmc N (upd h i (nI (min 4 (tk - min 6 tk)))) w F) ∧ ∃ F', cf_230_53 (nI i) (nI (min 6 tk)) (wmc N (upd h i (nI (min 4 (tk - min 6 tk)))) w F) = (nI (tok1 true (tk, st, dr)), wmc N (upd h i (nI (hot1 true (tk, st, dr)))) w F') ∧ F' 7 = nI (wt1 true (tk, st, dr)).1 ∧ F' 11 = nI (wt1 true (tk, st, dr)).2.1 ∧ F' 10 = mz_b01 (wt1 true (tk, st, dr)).2.2 ∧ ∀ j, j ≠ 7 → j ≠ 10 → j ≠ 11 → F' j = F j := by
      rw [cp_230_53, cf_230_53, g64, nI_add, f10]
      cases dr with
      | true =>
        rw [if_pos rfl, cf_230_79, (t84 true).2]
        exact ⟨⟨i10, z10, fun _ => (t84 true).1, fun q => absurd rfl q⟩, fin true rfl⟩
      | false =>
        rw [if_neg Bool.false_ne_true]
        by_cases v : tk < 10
        · rw [if_pos (l9.mpr v), cf_230_79, (t84 true).2]
          exact ⟨⟨i10, z10, fun q => absurd q Bool.false_ne_true, fun _ => ⟨fun _ => (t84 true).1, fun q => absurd (l9.mpr v) q⟩⟩, fin true (by rw [decide_eq_true v]; rfl)⟩
        · rw [if_neg (fun q => v (l9.mp q)), (t84 false).2]
          exact ⟨⟨i10, z10, fun q => absurd q Bool.false_ne_true, fun _ => ⟨fun q => absurd (l9.mp q) v, fun _ => (t84 false).1⟩⟩, fin false (by rw [decide_eq_false v]; rfl)⟩
    exact ⟨⟨i10, fun _ => trivial, fun _ => ⟨fun _ => ⟨i10, t53.1⟩, fun _ => trivial⟩⟩, t53.2⟩
  · have ed : decide (nI lv < nI (4 * pn)) = false := decide_eq_false (fun q => w1 (lq.mp q))
    rw [ed]
    have same : (if nI pn = 0 then ((0 : Int32), wmc N (upd h i 0) w F) else if nI lv < nI (4 * pn) then cf_230_53 (nI i) (nI (min 6 tk)) (wmc N (upd (upd h i 0) i (nI (min 4 (tk - min 6 tk)))) w F) else (0, wmc N (upd h i 0) w F)) = (0, wmc N (upd h i 0) w F) := by
      by_cases q : nI pn = 0
      · rw [if_pos q]
      · rw [if_neg q, if_neg (fun z => w1 (lq.mp z))]
    rw [same]
    exact ⟨⟨i10, fun _ => trivial, fun _ => ⟨fun q => absurd (lq.mp q) w1, fun _ => trivial⟩⟩, F, rfl, h7, h11, h10, fun _ _ _ _ => rfl⟩
end Wtc
