/-! PURE (50zzzn): points are noted. -/
noncomputable def ptv (e fl : Nat → Nat) (h st : Nat → Int64) (L : Nat → Nat) (tk ho ch fu k a : Nat) : Int64 := if k = 0 then (if pl_ht e fl a < pl_n e then wrm e h (pl_ht e fl a) else 0) else if k = 1 then (if pl_ht e fl a < pl_n e then ts e st (pl_ht e fl a) else 0) else if k = 2 then lN (L a) else if k = 3 then lN tk else if k = 4 then lN ho else if k = 5 then lN ch else lN fu
/-- a point: its kind, and what it looks at -/
def ptok (k a : Nat) : Prop := k ≤ 6 ∧ (k < 2 → a < 10) ∧ (k = 2 → a < 11)
abbrev ptR : Type := (Nat → Nat → Int64) × (Nat → Nat)
def pt1 (pr : Nat → Bool) (v : Nat → Int64) (j : Nat) (R : ptR) : ptR := if pr j = true then (fun i p => if i = j ∧ p = R.2 j % 48 then v j else R.1 i p, up R.2 j (R.2 j + 1)) else R
def ptA (pr : Nat → Bool) (v : Nat → Int64) (t : Nat) (R : ptR) : ptR := it (pt1 pr v) t R
theorem ptA_s {pr : Nat → Bool} {v : Nat → Int64} {t : Nat} {R : ptR} : ptA pr v (t + 1) R = pt1 pr v t (ptA pr v t R) := it_s _ t R
theorem pt1_n {pr : Nat → Bool} {v : Nat → Int64} {j i : Nat} {R : ptR} : (pt1 pr v j R).2 i ≤ R.2 i + 1 := by
  unfold pt1
  split
  · show up R.2 j (R.2 j + 1) i ≤ _
    unfold up
    split
    · rename_i h; rw [h]; exact Nat.le_refl _
    · omega
  · omega
theorem ptA_n {pr : Nat → Bool} {v : Nat → Int64} {R : ptR} {i : Nat} : ∀ t, (ptA pr v t R).2 i ≤ R.2 i + t := by
  intro t
  induction t with
  | zero => exact Nat.le_refl _
  | succ t ih => rw [ptA_s]; have := pt1_n (pr := pr) (v := v) (j := t) (i := i) (R := ptA pr v t R); omega
def ptc (N : mz_N) (R : ptR) : Prop := (∀ j, j < 8 → ∀ p, p < 48 → p < R.2 j → N.2 (91 + j) p = R.1 j p) ∧ ∀ j, j < 8 → N.1 99 j = nI (R.2 j)
def ptr (N : mz_N) (R : ptR) : Prop := (∀ j, j < 8 → ∀ p, p < 48 → p < R.2 j → N.2 286 (48 * j + p) = R.1 j p) ∧ ∀ j, j < 8 → N.1 285 j = nI (R.2 j)
section Pts
variable {N : mz_N} {e fl : Nat → Nat} {R : ptR} {pr : Nat → Bool} {v : Nat → Int64} {kd ar L : Nat → Nat} {tk ho ch fu : Nat}
def ptB : List Nat := [91, 92, 93, 94, 95, 96, 97, 98]
theorem mea_c {k a : Nat} (hn : pl_n e ≤ 40) (hp : c_pl e fl N) (hok : ptok k a) (h58 : ∀ j, j < 11 → N.1 58 j = nI (L j) ∧ L j < 2 ^ 31) (h7 : N.1 56 7 = nI tk) (htk : tk < 2 ^ 31) (h11 : N.1 56 11 = nI ho) (hho : ho < 2 ^ 31) (h1 : N.1 56 1 = nI ch) (hch : ch < 2 ^ 31) (h3 : N.1 208 3 = nI fu) (hfu : fu < 2 ^ 31) : cp_270_0 (nI k) (nI a) N ∧ cf_270_0 (nI k) (nI a) N = ptv e fl (N.2 68) (N.2 69) L tk ho ch fu k a := by
  obtain ⟨k6, k2, k3⟩ := hok
  have hh : a < 10 → cp_222_0 (nI a) N ∧ cf_222_0 (nI a) N = decide (pl_ht e fl a < pl_n e) := fun ha => by
    have l0 : ¬ nI a < 0 := nI_pos (by omega)
    have l1 : nI a < 10 := (nI_ltI (b := 10) (by omega) (by omega)).mpr ha
    have g38 : mz_gI N 38 (nI a) = nO (pl_n e) (pl_ht e fl a) := by rw [gI_a, nI_clamp (by omega)]; exact (hp.2.2.2.2.2 a ha).1
    rw [cp_222_0, cf_222_0, if_neg l0, if_pos l1, g38]
    refine ⟨⟨fun _ => trivial, fun _ => ⟨fun _ => ib_n ha (by omega), fun _ => trivial⟩⟩, ?_⟩
    by_cases y : pl_ht e fl a < pl_n e
    · rw [nO_lt y, if_neg (fun z => (nI_m1 (show pl_ht e fl a < 2 ^ 31 by omega)).mp z), decide_eq_true y]
    · rw [nO_ge y, if_pos rfl, decide_eq_false y]
  have g38 : a < 10 → pl_ht e fl a < pl_n e → mz_gI N 38 (nI a) = nI (pl_ht e fl a) := fun ha y => by rw [gI_a, nI_clamp (by omega), (hp.2.2.2.2.2 a ha).1, nO_lt y]
  have ek : ∀ c, c < 7 → ((nI k = nI c) ↔ k = c) := fun c hc => nI_eq (by omega) (by omega)
  have e0 : (nI k = 0) ↔ k = 0 := ek 0 (by omega)
  have e1 : (nI k = 1) ↔ k = 1 := ek 1 (by omega)
  have e2 : (nI k = 2) ↔ k = 2 := ek 2 (by omega)
  have e3 : (nI k = 3) ↔ k = 3 := ek 3 (by omega)
  have e4 : (nI k = 4) ↔ k = 4 := ek 4 (by omega)
  have e5 : (nI k = 5) ↔ k = 5 := ek 5 (by omega)
  rw [cp_270_0, cf_270_0, ptv]
  simp only [e0, e1, e2, e3, e4, e5, h7, h11, h1, h3, nI_L htk, nI_L hho, nI_L hch, nI_L hfu]
  by_cases w0 : k = 0
  · have ha := k2 (by omega)
    obtain ⟨a1, a2⟩ := hh ha
    simp only [w0, if_true, a2, true_implies, not_true, false_implies, and_true]
    by_cases y : pl_ht e fl a < pl_n e
    · obtain ⟨r1, r2⟩ := wrm_c (N := N) hn (sm_pl hp) y
      rw [if_pos (decide_eq_true y), if_pos y, g38 ha y, r2]
      exact ⟨⟨a1, fun _ => ⟨ib_n ha (by omega), r1⟩, fun _ => trivial⟩, rfl⟩
    · rw [if_neg (by simpa using y), if_neg y]
      exact ⟨⟨a1, fun z => absurd (of_decide_eq_true z) y, fun _ => trivial⟩, rfl⟩
  · rw [if_neg w0, if_neg w0]
    by_cases w1 : k = 1
    · have ha := k2 (by omega)
      obtain ⟨a1, a2⟩ := hh ha
      rw [if_pos w1, if_pos w1, a2]
      by_cases y : pl_ht e fl a < pl_n e
      · obtain ⟨r1, r2⟩ := sum_c (N := N) (e := e) (a2 := 69) hn (sm_pl hp) y
        rw [if_pos (decide_eq_true y), if_pos y, g38 ha y, r2]
        exact ⟨⟨fun z => absurd z w0, fun _ => ⟨fun _ => ⟨a1, fun _ => ⟨ib_n ha (by omega), r1⟩, fun _ => trivial⟩, fun z => absurd w1 z⟩⟩, rfl⟩
      · rw [if_neg (by simpa using y), if_neg y]
        exact ⟨⟨fun z => absurd z w0, fun _ => ⟨fun _ => ⟨a1, fun z => absurd (of_decide_eq_true z) y, fun _ => trivial⟩, fun z => absurd w1 z⟩⟩, rfl⟩
    · rw [if_neg w1, if_neg w1]
      by_cases w2 : k = 2
      · have ha := k3 w2
        have l0 : ¬ nI a < 0 := nI_pos (by omega)
        have l1 : nI a < 11 := (nI_ltI (b := 11) (by omega) (by omega)).mpr ha
        have g58 : (mz_gI N 58 (nI a)).toInt64 = lN (L a) := by rw [gI_a, nI_clamp (by omega), (h58 a ha).1, nI_L (h58 a ha).2]
        rw [if_pos w2, if_pos w2, cf_238_0, if_neg l0, if_pos l1, g58]
        exact ⟨⟨fun z => absurd z w0, fun _ => ⟨fun z => absurd z w1, fun _ => ⟨fun _ => ⟨fun z => absurd z l0, fun _ => ⟨fun _ => ib_n ha (by omega), fun _ => trivial⟩⟩, fun _ => trivial⟩⟩⟩, rfl⟩
      · rw [if_neg w2, if_neg w2]
        exact ⟨⟨fun z => absurd z w0, fun _ => ⟨fun z => absurd z w1, fun _ => ⟨fun z => absurd z w2, fun _ => trivial⟩⟩⟩, rfl⟩
theorem ptB_in : ∀ x, x < 8 → ptB.contains (91 + x) = true := by decide
theorem ptB_no {c : Nat} (h : ptB.contains c = false) : ∀ x, x < 8 → c ≠ 91 + x := fun x hx z => by rw [z, ptB_in x hx] at h; cases h
theorem point_c (hn : pl_n e ≤ 40) (hp : c_pl e fl N) (hR : ptc N R) (hRn : ∀ j, j < 8 → R.2 j < 2 ^ 30) (h87 : ∀ j, j < 8 → N.1 87 j = nI (b1 (pr j)) ∧ (pr j = true → N.1 88 j = nI (kd j) ∧ N.1 89 j = nI (ar j) ∧ ptok (kd j) (ar j))) (h58 : ∀ j, j < 11 → N.1 58 j = nI (L j) ∧ L j < 2 ^ 31) (h7 : N.1 56 7 = nI tk) (htk : tk < 2 ^ 31) (h11 : N.1 56 11 = nI ho) (hho : ho < 2 ^ 31) (h1 : N.1 56 1 = nI ch) (hch : ch < 2 ^ 31) (h3 : N.1 208 3 = nI fu) (hfu : fu < 2 ^ 31) (hv : ∀ j, v j = ptv e fl (N.2 68) (N.2 69) L tk ho ch fu (kd j) (ar j)) :
    cp_269_0 N ∧ ∃ K, cf_269_0 N = K ∧ fq [99] ptB N K ∧ ptc K (ptA pr v 8 R) := by
  rw [cp_269_0, cf_269_0, cp_269_2, cf_269_2]
  refine mz_lpn (f := cq_269_2) (P := cd_269_2) (Q := fun t => ∃ K, t = K ∧ fq [99] ptB N K ∧ ptc K (ptA pr v 8 R)) 8 (fun x t => ∃ K, t = (nI x, K) ∧ fq [99] ptB N K ∧ ptc K (ptA pr v x R)) ?_ ?_ (Nat.zero_le _) ⟨N, rfl, fq_refl _ _ _, hR⟩
  · rintro x t hx ⟨K, rfl, k1, k2⟩
    have hcn := ptA_n (pr := pr) (v := v) (R := R) (i := x) x
    have hrn := hRn x hx
    rw [ptA_s]
    generalize ptA pr v x R = S at k2 hcn
    have l : nI x < 8 := (nI_ltI (b := 8) (by omega) (by omega)).mpr hx
    have ix : mz_ib (nI x) 8 := ib_n hx (by omega)
    have cx : (nI x).toNatClampNeg = x := nI_clamp (by omega)
    obtain ⟨p1, p2⟩ := h87 x hx
    have g87 : mz_gI K 87 (nI x) = nI (b1 (pr x)) := by rw [gI_a, cx, k1.1 87 rfl]; exact p1
    rw [cd_269_2, cq_269_2]
    simp only [l, if_true, g87]
    cases hpr : pr x with
    | false =>
      have n1 : ¬ nI (b1 false) = 1 := by decide
      simp only [n1, if_false]
      refine ⟨⟨fun _ => ⟨ix, False.elim, fun _ => trivial⟩, fun z => absurd trivial z⟩, Or.inl ⟨_, rfl, K, by rw [nI_1], k1, ?_⟩⟩
      rw [pt1, hpr, if_neg (by decide)]
      exact k2
    | true =>
      have n1 : nI (b1 true) = 1 := rfl
      obtain ⟨q1, q2, q3⟩ := p2 hpr
      have g88 : mz_gI K 88 (nI x) = nI (kd x) := by rw [gI_a, cx, k1.1 88 rfl]; exact q1
      have g89 : mz_gI K 89 (nI x) = nI (ar x) := by rw [gI_a, cx, k1.1 89 rfl]; exact q2
      obtain ⟨m1, m2⟩ := mea_c (N := K) (e := e) (fl := fl) (L := L) (tk := tk) (ho := ho) (ch := ch) (fu := fu) hn (pl_fq k1 rfl hp) q3 (by rw [k1.1 58 rfl]; exact h58) (by rw [k1.1 56 rfl]; exact h7) htk (by rw [k1.1 56 rfl]; exact h11) hho (by rw [k1.1 56 rfl]; exact h1) hch (by rw [k1.1 208 rfl]; exact h3) hfu
      rw [k1.2 68 rfl, k1.2 69 rfl, ← hv x] at m2
      have g99 : mz_gI K 99 (nI x) = nI (S.2 x) := by rw [gI_a, cx]; exact k2.2 x hx
      have er : mz_irem (nI (S.2 x)) 48 = nI (S.2 x % 48) := by rw [show (48 : Int32) = nI 48 from rfl, irem_n (by omega) (by omega) (by omega)]
      have ir : mz_ib (nI (S.2 x % 48)) 48 := ib_n (by omega) (by omega)
      have g99' : ∀ a i y, mz_gI (mz_wL K a i y) 99 (nI x) = nI (S.2 x) := fun a i y => g99
      have p71 : cp_271_0 (nI x) (v x) K := by rw [cp_271_0, g99, er]; exact ⟨ix, ix, ir, ix, ix⟩
      simp only [n1, if_true, g88, g89, m2]
      refine ⟨⟨fun _ => ⟨ix, fun _ => ⟨ix, ix, m1, p71, trivial⟩, fun z => absurd trivial z⟩, fun z => absurd trivial z⟩, Or.inl ⟨_, rfl, _, by rw [nI_1], ?_, ?_⟩⟩
      · rw [cf_271_0]
        exact fq_wI (fq_wL k1 (by rw [cx]; exact ptB_in x hx)) rfl
      · rw [cf_271_0, g99, er, g99', nI_1, pt1, hpr, if_pos rfl, cx]
        refine ⟨fun j hj p hp' hp2 => ?_, fun j hj => ?_⟩
        · have hp3 : p < up S.2 x (S.2 x + 1) j := hp2
          rw [up_d] at hp3
          show (mz_wL K (91 + x) (nI (S.2 x % 48)) (v x)).2 (91 + j) p = if j = x ∧ p = S.2 x % 48 then v x else S.1 j p
          rw [wL_s, sL_2, nI_clamp (by omega)]
          by_cases z : j = x
          · rw [if_pos (by omega), upL_a, z]
            by_cases y : p = S.2 x % 48
            · rw [if_pos y, if_pos ⟨rfl, y⟩]
            · rw [if_neg y, if_neg (fun q => y q.2)]; rw [if_pos z] at hp3; exact k2.1 x hx p hp' (by omega)
          · rw [if_neg (by omega), if_neg (fun q => z q.1)]; rw [if_neg z] at hp3; exact k2.1 j hj p hp' hp3
        · rw [wI_s, sI_e, up_a, cx]
          show _ = nI (up S.2 x (S.2 x + 1) j)
          unfold up
          by_cases z : j = x
          · rw [if_pos z, if_pos z]
          · rw [if_neg z, if_neg z]; exact k2.2 j hj
  · rintro t ⟨K, rfl, k1, k2⟩
    rw [cd_269_2, cq_269_2]
    exact ⟨⟨fun z => absurd z (show ¬ nI 8 < 8 by decide), fun _ => trivial⟩, _, if_neg (show ¬ (nI 8 : Int32) < 8 by decide), K, rfl, k1, k2⟩
theorem mea_r {x k a : Nat} (hn : pl_n e ≤ 40) (hp : r_pl e fl N) (hx : x < 8) (hk : N.1 283 x = nI k) (ha' : N.1 284 x = nI a) (hok : ptok k a) (h72 : ∀ j, j < 11 → N.1 272 j = nI (L j) ∧ L j < 2 ^ 31) (h61 : N.1 232 61 = nI tk) (htk : tk < 2 ^ 31) (h62 : N.1 232 62 = nI ho) (hho : ho < 2 ^ 31) (h54 : N.1 232 54 = nI ch) (hch : ch < 2 ^ 31) (h124 : N.2 232 124 = lN fu) : cp_540_0 (nI x) N ∧ cf_540_0 (nI x) N = ptv e fl (N.2 260) (N.2 261) L tk ho ch fu k a := by
  obtain ⟨k6, k2, k3⟩ := hok
  have ix : mz_ib (nI x) 8 := ib_n hx (by omega)
  have g83 : mz_gI N 283 (nI x) = nI k := by rw [gI_a, nI_clamp (by omega)]; exact hk
  have g84 : mz_gI N 284 (nI x) = nI a := by rw [gI_a, nI_clamp (by omega)]; exact ha'
  have ek : ∀ c, c < 7 → ((nI k = nI c) ↔ k = c) := fun c hc => nI_eq (by omega) (by omega)
  have e0 : (nI k = 0) ↔ k = 0 := ek 0 (by omega)
  have e1 : (nI k = 1) ↔ k = 1 := ek 1 (by omega)
  have e2 : (nI k = 2) ↔ k = 2 := ek 2 (by omega)
  have e3 : (nI k = 3) ↔ k = 3 := ek 3 (by omega)
  have e4 : (nI k = 4) ↔ k = 4 := ek 4 (by omega)
  have e5 : (nI k = 5) ↔ k = 5 := ek 5 (by omega)
  have g42 : a < 10 → mz_gI N 242 (nI a) = nO (pl_n e) (pl_ht e fl a) := fun ha => by rw [gI_a, nI_clamp (by omega)]; exact (hp.2.2.2.2.2 a ha).1
  rw [cp_540_0, cf_540_0, g83, g84, ptv]
  simp only [e0, e1, e2, e3, e4, e5, h61, h62, h54, h124, nI_L htk, nI_L hho, nI_L hch]
  by_cases w0 : k = 0
  · have ha := k2 (by omega)
    rw [if_pos w0, if_pos w0, g42 ha]
    by_cases y : pl_ht e fl a < pl_n e
    · have nm : ¬ nI (pl_ht e fl a) < 0 := nI_pos (by omega)
      have hz := pl_sz_le y
      have hz1 := pl_some y
      obtain ⟨r1, r2⟩ := sum_r (N := N) (e := e) (k := pl_ht e fl a) (a1 := 260) hp.2.1 (by omega)
      have g37 : (100 : Int64) * (mz_gI N 237 (nI (pl_ht e fl a))).toInt64 = lN (100 * pl_sz e (pl_ht e fl a)) := by
        rw [gI_a, nI_clamp (by omega), (hp.2.2.1 _ y).2, nI_L (by omega), show (100 : Int64) = lN 100 from rfl, lN_mul]
      have p87 : cp_487_0 (nI (pl_ht e fl a)) N := by rw [cp_487_0, r2, g37]; exact ⟨r1, ib_n (by omega) (by omega), by_p (by omega) (by omega)⟩
      rw [nO_lt y, if_neg nm, if_pos y, cf_487_0, r2, g37]
      exact ⟨⟨ix, ix, fun _ => ⟨ib_n ha (by omega), fun z => (nm z).elim, fun _ => ⟨ib_n ha (by omega), p87⟩⟩, fun z => absurd w0 z⟩, rfl⟩
    · have lm : (-1 : Int32) < 0 := by decide
      rw [nO_ge y, if_pos lm, if_neg y]
      exact ⟨⟨ix, ix, fun _ => ⟨ib_n ha (by omega), fun _ => trivial, fun z => absurd lm z⟩, fun z => absurd w0 z⟩, rfl⟩
  · rw [if_neg w0, if_neg w0]
    by_cases w1 : k = 1
    · have ha := k2 (by omega)
      rw [if_pos w1, if_pos w1, g42 ha]
      by_cases y : pl_ht e fl a < pl_n e
      · have nm : ¬ nI (pl_ht e fl a) < 0 := nI_pos (by omega)
        obtain ⟨r1, r2⟩ := sum_r (N := N) (e := e) (k := pl_ht e fl a) (a1 := 261) hp.2.1 (by omega)
        rw [nO_lt y, if_neg nm, if_pos y, r2]
        exact ⟨⟨ix, ix, fun z => absurd z w0, fun _ => ⟨fun _ => ⟨ib_n ha (by omega), fun z => (nm z).elim, fun _ => ⟨ib_n ha (by omega), r1⟩⟩, fun z => absurd w1 z⟩⟩, rfl⟩
      · have lm : (-1 : Int32) < 0 := by decide
        rw [nO_ge y, if_pos lm, if_neg y]
        exact ⟨⟨ix, ix, fun z => absurd z w0, fun _ => ⟨fun _ => ⟨ib_n ha (by omega), fun _ => trivial, fun z => absurd lm z⟩, fun z => absurd w1 z⟩⟩, rfl⟩
    · rw [if_neg w1, if_neg w1]
      by_cases w2 : k = 2
      · have ha := k3 w2
        have g72 : (mz_gI N 272 (nI a)).toInt64 = lN (L a) := by rw [gI_a, nI_clamp (by omega), (h72 a ha).1, nI_L (h72 a ha).2]
        rw [if_pos w2, if_pos w2, g72]
        exact ⟨⟨ix, ix, fun z => absurd z w0, fun _ => ⟨fun z => absurd z w1, fun _ => ⟨fun _ => ib_n ha (by omega), fun _ => trivial⟩⟩⟩, rfl⟩
      · rw [if_neg w2, if_neg w2]
        exact ⟨⟨ix, ix, fun z => absurd z w0, fun _ => ⟨fun z => absurd z w1, fun _ => ⟨fun z => absurd z w2, fun _ => trivial⟩⟩⟩, rfl⟩
theorem point_r (hn : pl_n e ≤ 40) (hp : r_pl e fl N) (hR : ptr N R) (hRn : ∀ j, j < 8 → R.2 j < 2 ^ 30) (h82 : ∀ j, j < 8 → N.1 282 j = nI (b1 (pr j)) ∧ (pr j = true → N.1 283 j = nI (kd j) ∧ N.1 284 j = nI (ar j) ∧ ptok (kd j) (ar j))) (h72 : ∀ j, j < 11 → N.1 272 j = nI (L j) ∧ L j < 2 ^ 31) (h61 : N.1 232 61 = nI tk) (htk : tk < 2 ^ 31) (h62 : N.1 232 62 = nI ho) (hho : ho < 2 ^ 31) (h54 : N.1 232 54 = nI ch) (hch : ch < 2 ^ 31) (h124 : N.2 232 124 = lN fu) (hv : ∀ j, v j = ptv e fl (N.2 260) (N.2 261) L tk ho ch fu (kd j) (ar j)) :
    cp_539_0 N ∧ ∃ K, cf_539_0 N = K ∧ fq [285] [286] N K ∧ ptr K (ptA pr v 8 R) := by
  rw [cp_539_0, cf_539_0, cp_539_2, cf_539_2]
  refine mz_lpn (f := cq_539_2) (P := cd_539_2) (Q := fun t => ∃ K, t = K ∧ fq [285] [286] N K ∧ ptr K (ptA pr v 8 R)) 8 (fun x t => ∃ K, t = (nI x, K) ∧ fq [285] [286] N K ∧ ptr K (ptA pr v x R)) ?_ ?_ (Nat.zero_le _) ⟨N, rfl, fq_refl _ _ _, hR⟩
  · rintro x t hx ⟨K, rfl, k1, k2⟩
    have hcn := ptA_n (pr := pr) (v := v) (R := R) (i := x) x
    have hrn := hRn x hx
    rw [ptA_s]
    generalize ptA pr v x R = S at k2 hcn
    have l : nI x < 8 := (nI_ltI (b := 8) (by omega) (by omega)).mpr hx
    have ix : mz_ib (nI x) 8 := ib_n hx (by omega)
    have cx : (nI x).toNatClampNeg = x := nI_clamp (by omega)
    obtain ⟨p1, p2⟩ := h82 x hx
    have g82 : mz_gZ K 282 (nI x) = pr x := by rw [gZ_a, cx, k1.1 282 rfl, p1]; cases pr x <;> rfl
    have z82 : mz_z01 (mz_gI K 282 (nI x)) := by rw [gI_a, cx, k1.1 282 rfl, p1]; exact z01_b _
    rw [cd_539_2, cq_539_2]
    simp only [l, if_true, g82]
    cases hpr : pr x with
    | false =>
      rw [if_neg (by decide)]
      refine ⟨⟨fun _ => ⟨ix, z82, (fun z => by cases z), fun _ => trivial⟩, fun z => absurd trivial z⟩, Or.inl ⟨_, rfl, K, by rw [nI_1], k1, ?_⟩⟩
      rw [pt1, hpr, if_neg (by decide)]
      exact k2
    | true =>
      rw [if_pos rfl]
      obtain ⟨q1, q2, q3⟩ := p2 hpr
      have hpK : r_pl e fl K := rpl_cg (by rw [k1.1 232 rfl]) (fun c hc => k1.1 c (by
        have z1 : c ≠ 285 := fun z => by rw [z] at hc; cases hc
        simp [z1])) hp
      obtain ⟨m1, m2⟩ := mea_r (N := K) (e := e) (fl := fl) (L := L) (tk := tk) (ho := ho) (ch := ch) (fu := fu) (x := x) hn hpK hx (by rw [k1.1 283 rfl]; exact q1) (by rw [k1.1 284 rfl]; exact q2) q3 (by rw [k1.1 272 rfl]; exact h72) (by rw [k1.1 232 rfl]; exact h61) htk (by rw [k1.1 232 rfl]; exact h62) hho (by rw [k1.1 232 rfl]; exact h54) hch (by rw [k1.2 232 rfl]; exact h124)
      rw [k1.2 260 rfl, k1.2 261 rfl, ← hv x] at m2
      have g85 : mz_gI K 285 (nI x) = nI (S.2 x) := by rw [gI_a, cx]; exact k2.2 x hx
      have g85' : ∀ i y, mz_gI (mz_wL K 286 i y) 285 (nI x) = nI (S.2 x) := fun i y => g85
      have er : mz_irem (nI (S.2 x)) 48 = nI (S.2 x % 48) := by rw [show (48 : Int32) = nI 48 from rfl, irem_n (by omega) (by omega) (by omega)]
      have ei : (48 : Int32) * nI x + nI (S.2 x % 48) = nI (48 * x + S.2 x % 48) := by rw [show (48 : Int32) = nI 48 from rfl, pk_mul, nI_add]
      simp only [g85, er, ei, m2]
      refine ⟨⟨fun _ => ⟨ix, z82, fun _ => ⟨ix, m1, ib_n (by omega) (by omega), ix, ix, trivial⟩, fun z => absurd trivial z⟩, fun z => absurd trivial z⟩, Or.inl ⟨_, rfl, _, by rw [nI_1], fq_wI (fq_wL k1 rfl) rfl, ?_⟩⟩
      rw [g85', nI_1, pt1, hpr, if_pos rfl]
      refine ⟨fun j hj p hp' hp2 => ?_, fun j hj => ?_⟩
      · have hp3 : p < up S.2 x (S.2 x + 1) j := hp2
        rw [up_d] at hp3
        show (mz_wL K 286 (nI (48 * x + S.2 x % 48)) (v x)).2 286 (48 * j + p) = if j = x ∧ p = S.2 x % 48 then v x else S.1 j p
        rw [wL_s, sL_e, nI_clamp (by omega), upL_a]
        by_cases z : j = x ∧ p = S.2 x % 48
        · rw [if_pos z, if_pos (by omega)]
        · rw [if_neg z, if_neg (fun q => z ⟨by omega, by omega⟩)]
          refine k2.1 j hj p hp' ?_
          by_cases z1 : j = x
          · rw [if_pos z1] at hp3; rw [z1]; have z2 : p ≠ S.2 x % 48 := fun q => z ⟨z1, q⟩; omega
          · rw [if_neg z1] at hp3; exact hp3
      · rw [wI_s, sI_e, up_a, cx]
        show _ = nI (up S.2 x (S.2 x + 1) j)
        unfold up
        by_cases z : j = x
        · rw [if_pos z, if_pos z]
        · rw [if_neg z, if_neg z]; exact k2.2 j hj
  · rintro t ⟨K, rfl, k1, k2⟩
    rw [cd_539_2, cq_539_2]
    exact ⟨⟨fun z => absurd z (show ¬ nI 8 < 8 by decide), fun _ => trivial⟩, _, if_neg (show ¬ (nI 8 : Int32) < 8 by decide), K, rfl, k1, k2⟩
end Pts
