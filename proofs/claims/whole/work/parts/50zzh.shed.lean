/-! PURE (50zzh): the class sheds and heats its circuits. -/
section Shc
variable {N : mz_N} {b c F m : Nat → Int32} {L k : Nat → Nat} {Sh : Nat → Bool}
/-- loads and shed circuits as numbers -/
def lsh (a d : Nat → Int32) (x : (Nat → Nat) × (Nat → Bool)) : Prop := ∀ j, j < 11 → a j = nI (x.1 j) ∧ d j = nI (b1 (x.2 j))
theorem one_c {a d : Nat → Int32} {lm : Nat} (hk : ∀ j, j < 11 → N.1 63 j = nI (k j) ∧ k j ≤ 9) (hx : lsh a d (L, Sh)) (hL : ∀ j, j < 11 → L j ≤ 2000) (hlm : lm < sumN L 11) : cp_226_0 (pmc N a b c d F m) ∧ ∃ a' d', cf_226_0 (pmc N a b c d F m) = pmc N a' b c d' F m ∧ lsh a' d' (shd1 k (L, Sh)) := by
  obtain ⟨w1, w2⟩ := wst_lt (k := k) hlm
  refine mz_lpn (f := cq_226_4 (pmc N a b c d F m)) (P := cd_226_4 (pmc N a b c d F m)) (Q := fun r => ∃ a' d', r = pmc N a' b c d' F m ∧ lsh a' d' (shd1 k (L, Sh))) 11 (fun i st => st = (nO 11 (wst L k i), nI i)) ?_ ?_ (Nat.zero_le _) rfl
  · rintro i st hi rfl
    have l : nI i < 11 := (nI_ltI (b := 11) (by omega) (by omega)).mpr hi
    have i1 : mz_ib (nI i) 11 := ib_n hi (by omega)
    obtain ⟨q1, q2, q3⟩ := wst_ok (L := L) (k := k) i (by omega)
    have gl : mz_gI (pmc N a b c d F m) 58 (nI i) = nI (L i) := by rw [gI_a, nI_clamp (by omega)]; exact (hx i hi).1
    have hLi := hL i hi
    have gk : ∀ j, j < 11 → mz_gI (pmc N a b c d F m) 63 (nI j) = nI (k j) := fun j hj => by rw [gI_a, nI_clamp (by omega)]; exact (hk j hj).1
    have lL : 0 < nI (L i) ↔ 0 < L i := nI_gt0 (by omega)
    have ew : wst L k (i + 1) = if 0 < L i ∧ (wst L k i = 11 ∨ k (wst L k i) ≤ k i) then i else wst L k i := rfl
    rw [cd_226_4, cq_226_4]
    simp only [l, if_true, gl]
    have ibw : ¬ nO 11 (wst L k i) = -1 → mz_ib (nO 11 (wst L k i)) 11 := fun q => by
      have : wst L k i < 11 := by
        rcases Nat.lt_or_ge (wst L k i) 11 with z | z
        · exact z
        · exact absurd (nO_ge (by omega)) q
      rw [nO_lt this]; exact ib_n this (by omega)
    refine ⟨⟨fun _ => ⟨i1, fun _ => ⟨fun _ => trivial, fun q => ⟨i1, ibw q, fun _ => trivial, fun _ => trivial⟩⟩, fun _ => trivial⟩, fun q => absurd trivial q⟩, Or.inl ⟨_, ?_, rfl⟩⟩
    rw [ew]
    by_cases v1 : 0 < L i
    · rw [if_pos (lL.mpr v1)]
      by_cases v2 : wst L k i = 11
      · rw [if_pos (show nO 11 (wst L k i) = -1 from nO_ge (by omega)), if_pos ⟨v1, Or.inl v2⟩, cf_226_45, cf_226_47, nI_1, nO_lt hi]
      · have v2' : wst L k i < 11 := by omega
        rw [if_neg (show ¬ nO 11 (wst L k i) = -1 by rw [nO_lt v2', nI_m1 (by omega)]; exact id), nO_lt v2', gk i hi, gk _ v2']
        have hki := (hk i hi).2
        have hkw := (hk _ v2').2
        by_cases v3 : k (wst L k i) ≤ k i
        · rw [if_neg (show ¬ nI (k i) < nI (k (wst L k i)) from fun q => by have := (nI_ltI (by omega) (by omega)).mp q; omega), if_pos ⟨v1, Or.inr v3⟩, cf_226_45, cf_226_47, nI_1, nO_lt hi]
        · rw [if_pos (show nI (k i) < nI (k (wst L k i)) from (nI_ltI (by omega) (by omega)).mpr (by omega)), if_neg (fun q => by rcases q.2 with z | z; omega; exact v3 z), cf_226_47, nI_1, nO_lt v2']
    · rw [if_neg (fun q => v1 (lL.mp q)), if_neg (fun q => v1 q.1), cf_226_47, nI_1]
  · rintro st rfl
    have l : ¬ nI 11 < 11 := by decide
    have nm : ¬ nO 11 (wst L k 11) = -1 := by rw [nO_lt w1, nI_m1 (by omega)]; exact id
    have iw : mz_ib (nO 11 (wst L k 11)) 11 := by rw [nO_lt w1]; exact ib_n w1 (by omega)
    rw [cd_226_4, cq_226_4]
    refine ⟨⟨fun q => absurd q l, fun _ => ⟨fun q => absurd q nm, fun _ => ⟨iw, iw⟩⟩⟩, _, by rw [if_neg l, if_neg nm], upd a (wst L k 11) 0, upd d (wst L k 11) 1, ?_, fun j hj => ?_⟩
    · show mz_wI (mz_wI (pmc N a b c d F m) 58 (nO 11 (wst L k 11)) 0) 61 (nO 11 (wst L k 11)) 1 = _
      rw [pm_58, pm_61, nO_lt w1, nI_clamp (by omega)]
    · show upd a (wst L k 11) 0 j = nI (up L (wst L k 11) 0 j) ∧ upd d (wst L k 11) 1 j = nI (b1 (up Sh (wst L k 11) true j))
      rw [up_a, up_a]
      unfold up
      by_cases v : j = wst L k 11
      · rw [if_pos v, if_pos v, if_pos v, if_pos v]; exact ⟨rfl, rfl⟩
      · rw [if_neg v, if_neg v, if_neg v, if_neg v]; exact hx j hj
/-- shedding in the class -/
theorem shed_c {gv ch : Nat} (hk : ∀ j, j < 11 → N.1 63 j = nI (k j) ∧ k j ≤ 9) (hch : ch ≤ 3000) (hgv : gv ≤ 150) (hF : F 1 = nI ch) : ∀ n i (a d : Nat → Int32) (x : (Nat → Nat) × (Nat → Bool)), n + i = 11 → lsh a d x → (∀ j, j < 11 → x.1 j ≤ 2000) → (i = 0 ∨ True) → npo x.1 ≤ n →
    (∃ q, mz_ok (cq_225_72 (nI gv)) (cd_225_72 (nI gv)) q (nI i, pmc N a b c d F m)) ∧ ∃ a' d', mz_run (cq_225_72 (nI gv)) (nI i, pmc N a b c d F m) = pmc N a' b c d' (upd F 1 (nI (ch - (sumN (shd k (gv + ch) n x).1 11 - gv)))) m ∧ lsh a' d' (shd k (gv + ch) n x) := by
  intro n
  induction n with
  | zero =>
    intro i a d x hi hx hL _ hp
    have e : i = 11 := by omega
    subst e
    have hs : sumN x.1 11 = 0 := npo_0 (by omega)
    obtain ⟨s1, s2⟩ := lds_c (N := pmc N a b c d F m)
    have s2' : cf_212_0 (pmc N a b c d F m) = nI (sumN x.1 11) := by rw [s2]; exact sI11_n 11 (fun j hj => (hx j hj).1)
    have l : ¬ nI 11 < 11 := by decide
    refine lp_r (s := (nI 11, pmc N a b c d F m)) (f := cq_225_72 (nI gv)) (P := cd_225_72 (nI gv)) (Q := fun r => ∃ a' d', r = pmc N a' b c d' (upd F 1 (nI (ch - (sumN x.1 11 - gv)))) m ∧ lsh a' d' x) (t := cf_225_101 (nI gv) (pmc N a b c d F m)) ?_ ?_ ⟨a, d, ?_, hx⟩
    · rw [cd_225_72]; exact ⟨fun q => absurd q l, fun _ => s1⟩
    · rw [cq_225_72, if_neg l]
    · rw [cf_225_101, s2', pm_56]
      have e1 : (pmc N a b c d F m).1 56 1 = nI ch := hF
      rw [e1, hs, Nat.zero_sub, Nat.sub_zero]
      have e2 : mz_imax 0 (nI 0 - nI gv) = 0 := by
        unfold mz_imax
        rw [if_neg]
        intro q
        have := pk_sub_toInt (a := 0) (b := gv) (by omega) (by omega)
        rw [Int32.lt_iff_toInt_lt, this] at q
        have z : (0 : Int32).toInt = 0 := rfl
        omega
      rw [e2, Int32.sub_zero]
  | succ n ih =>
    intro i a d x hi hx hL _ hp
    have l : nI i < 11 := (nI_ltI (b := 11) (by omega) (by omega)).mpr (by omega)
    obtain ⟨s1, s2⟩ := lds_c (N := pmc N a b c d F m)
    have s2' : cf_212_0 (pmc N a b c d F m) = nI (sumN x.1 11) := by rw [s2]; exact sI11_n 11 (fun j hj => (hx j hj).1)
    have hsb := sumN_b (L := x.1) (B := 2000) 11 hL
    have e1 : (pmc N a b c d F m).1 56 1 = nI ch := hF
    have es : shd k (gv + ch) (n + 1) x = if gv + ch < sumN x.1 11 then shd k (gv + ch) n (shd1 k x) else x := rfl
    rw [es]
    by_cases w : gv + ch < sumN x.1 11
    · rw [if_pos w]
      have lw : nI gv + nI ch < nI (sumN x.1 11) := by rw [nI_add]; exact (nI_ltI (by omega) (by omega)).mpr w
      obtain ⟨o1, a', d', o2, o3⟩ := one_c (N := N) (b := b) (c := c) (F := F) (m := m) (k := k) (L := x.1) (Sh := x.2) hk hx hL w
      have hp' : npo (shd1 k x).1 ≤ n := by
        have := npo_s (k := k) w
        show npo (up x.1 (wst x.1 k 11) 0) ≤ n
        omega
      have hL' : ∀ j, j < 11 → (shd1 k x).1 j ≤ 2000 := fun j hj => by
        show up x.1 (wst x.1 k 11) 0 j ≤ 2000
        unfold up
        split
        · omega
        · exact hL j hj
      refine lp_l (s := (nI i, pmc N a b c d F m)) (f := cq_225_72 (nI gv)) (P := cd_225_72 (nI gv)) (Q := fun r => ∃ a' d', r = pmc N a' b c d' (upd F 1 (nI (ch - (sumN (shd k (gv + ch) n (shd1 k x)).1 11 - gv)))) m ∧ lsh a' d' (shd k (gv + ch) n (shd1 k x))) (s2 := (nI (i + 1), pmc N a' b c d' F m)) ?_ ?_ (ih (i + 1) a' d' (shd1 k x) (by omega) o3 hL' (Or.inr trivial) hp')
      · rw [cd_225_72]
        refine ⟨fun _ => ⟨s1, fun _ => o1, fun q => ?_⟩, fun q => absurd l q⟩
        refine absurd ?_ q
        show nI gv + (pmc N a b c d F m).1 56 1 < cf_212_0 (pmc N a b c d F m)
        rw [e1, s2']; exact lw
      · rw [cq_225_72]
        show (if nI i < 11 then (if nI gv + (pmc N a b c d F m).1 56 1 < cf_212_0 (pmc N a b c d F m) then Sum.inl (nI i + 1, cf_226_0 (pmc N a b c d F m)) else _) else _) = _
        rw [if_pos l, e1, s2', if_pos lw, o2, nI_1]
    · rw [if_neg w]
      have lw : ¬ nI gv + nI ch < nI (sumN x.1 11) := by rw [nI_add]; exact fun q => w ((nI_ltI (by omega) (by omega)).mp q)
      refine lp_r (s := (nI i, pmc N a b c d F m)) (f := cq_225_72 (nI gv)) (P := cd_225_72 (nI gv)) (Q := fun r => ∃ a' d', r = pmc N a' b c d' (upd F 1 (nI (ch - (sumN x.1 11 - gv)))) m ∧ lsh a' d' x) (t := cf_225_101 (nI gv) (pmc N a b c d F m)) ?_ ?_ ⟨a, d, ?_, hx⟩
      · rw [cd_225_72]
        refine ⟨fun _ => ⟨s1, fun q => ?_, fun _ => s1⟩, fun q => absurd l q⟩
        refine absurd ?_ lw
        have q' : nI gv + (pmc N a b c d F m).1 56 1 < cf_212_0 (pmc N a b c d F m) := q
        rw [e1, s2'] at q'; exact q'
      · rw [cq_225_72]
        show (if nI i < 11 then (if nI gv + (pmc N a b c d F m).1 56 1 < cf_212_0 (pmc N a b c d F m) then _ else Sum.inr (cf_225_101 (nI gv) (pmc N a b c d F m))) else _) = _
        rw [if_pos l, e1, s2', if_neg lw]
      · rw [cf_225_101, s2', pm_56, e1]
        have e2 : mz_imax 0 (nI (sumN x.1 11) - nI gv) = nI (sumN x.1 11 - gv) := by
          unfold mz_imax
          by_cases v : gv < sumN x.1 11
          · rw [pk_sub (by omega), if_pos ((nI_gt0 (by omega)).mpr (by omega))]
          · rw [if_neg, show sumN x.1 11 - gv = 0 by omega]
            · rfl
            · intro q
              have := pk_sub_toInt (a := sumN x.1 11) (b := gv) (by omega) (by omega)
              rw [Int32.lt_iff_toInt_lt, this] at q
              have z : (0 : Int32).toInt = 0 := rfl
              omega
        rw [e2, pk_sub (by omega)]
/-- a circuit heats -/
theorem heat_c {a d : Nat → Int32} {i : Nat} {r h : Nat → Nat} {tr : Nat → Bool} (hi : i < 11) (ha : a i = nI (L i)) (hL : L i ≤ 2000) (hr : N.1 62 i = nI (r i)) (hr1 : 1 ≤ r i ∧ r i ≤ 500) (hb : b i = nI (h i)) (hh : h i ≤ 30000) (hc : c i = nI (b1 (tr i))) : cp_228_0 (nI i) (pmc N a b c d F m) ∧ cf_228_0 (nI i) (pmc N a b c d F m) = pmc N a (upd b i (nI (htn (L i) (r i) (h i)))) (upd c i (nI (b1 (tr i || decide (50 ≤ htn (L i) (r i) (h i)))))) d F m := by
  have i1 : mz_ib (nI i) 11 := ib_n hi (by omega)
  have gL : mz_gI (pmc N a b c d F m) 58 (nI i) = nI (L i) := by rw [gI_a, nI_clamp (by omega)]; exact ha
  have gr : mz_gI (pmc N a b c d F m) 62 (nI i) = nI (r i) := by rw [gI_a, nI_clamp (by omega)]; exact hr
  have gb : mz_gI (pmc N a b c d F m) 59 (nI i) = nI (h i) := by rw [gI_a, nI_clamp (by omega)]; exact hb
  have g59 : ∀ v, mz_gI (pmc N a (upd b i v) c d F m) 59 (nI i) = v := fun v => by
    rw [gI_a, nI_clamp (by omega)]
    show upd b i v i = v
    rw [up_a, if_pos rfl]
  have hB : htn (L i) (r i) (h i) < 2 ^ 31 := by
    unfold htn
    split
    · have : 10 * (L i - r i) / r i ≤ 10 * (L i - r i) := Nat.div_le_self _ _
      omega
    · omega
  have fin : ∀ v : Int32, v = nI (htn (L i) (r i) (h i)) → cp_228_84 (nI i) (pmc N a (upd b i v) c d F m) ∧ cf_228_84 (nI i) (pmc N a (upd b i v) c d F m) = pmc N a (upd b i (nI (htn (L i) (r i) (h i)))) (upd c i (nI (b1 (tr i || decide (50 ≤ htn (L i) (r i) (h i)))))) d F m := fun v hv => by
    subst hv
    rw [cp_228_84, cf_228_84, g59]
    refine ⟨⟨i1, fun _ => trivial, fun _ => i1⟩, ?_⟩
    by_cases w : htn (L i) (r i) (h i) < 50
    · rw [if_pos (show nI (htn (L i) (r i) (h i)) < 50 from (nI_ltI (b := 50) hB (by omega)).mpr w), decide_eq_false (by omega), Bool.or_false, ← hc]
      rw [show upd c i (c i) = c from funext fun j => by rw [up_a]; by_cases q : j = i; rw [if_pos q, q]; rw [if_neg q]]
    · rw [if_neg (show ¬ nI (htn (L i) (r i) (h i)) < 50 from fun q => w ((nI_ltI (b := 50) hB (by omega)).mp q)), decide_eq_true (by omega), Bool.or_true, pm_60, nI_clamp (by omega)]
      rfl
  have low : htn (L i) (r i) (h i) = h i - 2 → cp_228_62 (nI i) (pmc N a b c d F m) ∧ cf_228_62 (nI i) (pmc N a b c d F m) = pmc N a (upd b i (nI (htn (L i) (r i) (h i)))) (upd c i (nI (b1 (tr i || decide (50 ≤ htn (L i) (r i) (h i)))))) d F m := fun q => by
    have e2 : mz_imax 0 (nI (h i) - 2) = nI (h i - 2) := by
      unfold mz_imax
      rw [show (2 : Int32) = nI 2 from rfl]
      by_cases v : 2 < h i
      · rw [pk_sub (by omega), if_pos ((nI_gt0 (by omega)).mpr (by omega))]
      · rw [if_neg, show h i - 2 = 0 by omega]
        · rfl
        · intro q
          have := pk_sub_toInt (a := h i) (b := 2) (by omega) (by omega)
          rw [Int32.lt_iff_toInt_lt, this] at q
          have z : (0 : Int32).toInt = 0 := rfl
          omega
    rw [cp_228_62, cf_228_62, gb, e2, pm_59, nI_clamp (by omega)]
    obtain ⟨k1, k2⟩ := fin (nI (h i - 2)) (by rw [q])
    exact ⟨⟨i1, i1, k1⟩, k2⟩
  rw [cp_228_0, cf_228_0, gL, gr, gb]
  have lr : (0 : Int32) < nI (r i) := (nI_gt0 (by omega)).mpr (by omega)
  by_cases w : r i < L i
  · have es : nI (L i) - nI (r i) = nI (L i - r i) := pk_sub (by omega)
    have l1 : (0 : Int32) < nI (L i - r i) := (nI_gt0 (by omega)).mpr (by omega)
    have hd : 10 * (L i - r i) / r i ≤ 10 * (L i - r i) := Nat.div_le_self _ _
    have ev : nI (h i) + (1 + 10 * nI (L i - r i) / nI (r i)) = nI (htn (L i) (r i) (h i)) := by
      rw [show (10 : Int32) = nI 10 from rfl, pk_mul, pk_div (by omega) (by omega) (by omega), show (1 : Int32) = nI 1 from rfl, nI_add, nI_add]
      unfold htn
      rw [if_pos w, Nat.add_assoc]
    have n0 : ¬ nI (r i) = 0 := fun q => by have := (nI_eq0 (by omega)).mp q; omega
    rw [es, if_pos l1, if_pos lr, ev, cf_228_59, pm_59, nI_clamp (by omega)]
    obtain ⟨k1, k2⟩ := fin (nI (htn (L i) (r i) (h i))) rfl
    exact ⟨⟨i1, i1, fun _ => ⟨i1, fun _ => ⟨i1, i1, n0, i1, k1⟩, fun q => absurd lr q⟩, fun q => absurd l1 q⟩, k2⟩
  · have l1 : ¬ (0 : Int32) < nI (L i) - nI (r i) := fun q => by
      have := pk_sub_toInt (a := L i) (b := r i) (by omega) (by omega)
      rw [Int32.lt_iff_toInt_lt, this] at q
      have z : (0 : Int32).toInt = 0 := rfl
      omega
    rw [if_neg l1]
    obtain ⟨k1, k2⟩ := low (by unfold htn; rw [if_neg w])
    exact ⟨⟨i1, i1, fun q => absurd q l1, fun _ => k1⟩, k2⟩
end Shc
