/-! PURE (50zzk): the reference sheds and heats its circuits. -/
section Shr
variable {N : mz_N} {b c F : Nat → Int32} {m : Nat → Int64} {L k : Nat → Nat} {Sh tr : Nat → Bool}
/-- which circuits are live -/
def lvr (l : Nat → Int32) (tr : Nat → Bool) (Sh : Nat → Bool) : Prop := ∀ j, j < 11 → l j = mz_b01 (!(tr j) && !(Sh j))
theorem one_r {a d li : Nat → Int32} {lm : Nat} {v1 : Int32} (hk : ∀ j, j < 11 → N.1 248 j = nI (k j) ∧ k j ≤ 9) (hx : lsh a d (L, Sh)) (hlv : lvr li tr Sh) (hL : ∀ j, j < 11 → L j ≤ 2000) (hlm : lm < sumN L 11) : cp_520_17 v1 (-1) 0 (prc N a d b c li F m) ∧ ∃ a' d' l', cf_520_17 v1 (-1) 0 (prc N a d b c li F m) = .inl (prc N a' d' b c l' F m) ∧ lsh a' d' (shd1 k (L, Sh)) ∧ lvr l' tr (shd1 k (L, Sh)).2 := by
  obtain ⟨w1, w2⟩ := wst_lt (k := k) hlm
  refine mz_lpn (f := cq_520_17 v1 (prc N a d b c li F m)) (P := cd_520_17 v1 (prc N a d b c li F m)) (Q := fun r => ∃ a' d' l', r = .inl (prc N a' d' b c l' F m) ∧ lsh a' d' (shd1 k (L, Sh)) ∧ lvr l' tr (shd1 k (L, Sh)).2) 11 (fun i st => st = (nO 11 (wst L k i), nI i)) ?_ ?_ (Nat.zero_le _) rfl
  · rintro i st hi rfl
    have l : nI i < 11 := (nI_ltI (b := 11) (by omega) (by omega)).mpr hi
    have i1 : mz_ib (nI i) 11 := ib_n hi (by omega)
    obtain ⟨q1, q2, q3⟩ := wst_ok (L := L) (k := k) i (by omega)
    have gl : mz_gI (prc N a d b c li F m) 272 (nI i) = nI (L i) := by rw [gI_a, nI_clamp (by omega)]; exact (hx i hi).1
    have hLi := hL i hi
    have gk : ∀ j, j < 11 → mz_gI (prc N a d b c li F m) 248 (nI j) = nI (k j) := fun j hj => by rw [gI_a, nI_clamp (by omega)]; exact (hk j hj).1
    have lL : 0 < nI (L i) ↔ 0 < L i := nI_gt0 (by omega)
    have ew : wst L k (i + 1) = if 0 < L i ∧ (wst L k i = 11 ∨ k (wst L k i) ≤ k i) then i else wst L k i := rfl
    have ibw : ¬ nO 11 (wst L k i) < 0 → mz_ib (nO 11 (wst L k i)) 11 := fun q => by
      have : wst L k i < 11 := by
        rcases Nat.lt_or_ge (wst L k i) 11 with z | z
        · exact z
        · exact absurd (show nO 11 (wst L k i) < 0 by rw [nO_ge (by omega)]; decide) q
      rw [nO_lt this]; exact ib_n this (by omega)
    rw [cd_520_17, cq_520_17]
    simp only [l, if_true, gl]
    refine ⟨⟨fun _ => ⟨i1, fun _ => ⟨fun _ => trivial, fun q => ⟨i1, ibw q, fun _ => trivial, fun _ => trivial⟩⟩, fun _ => trivial⟩, fun q => absurd trivial q⟩, Or.inl ⟨_, ?_, rfl⟩⟩
    rw [ew]
    by_cases v1 : 0 < L i
    · rw [if_pos (lL.mpr v1)]
      by_cases v2 : wst L k i = 11
      · rw [if_pos (show nO 11 (wst L k i) < 0 by rw [nO_ge (by omega)]; decide), if_pos ⟨v1, Or.inl v2⟩, cf_520_51, cf_520_56, nI_1, nO_lt hi]
      · have v2' : wst L k i < 11 := by omega
        rw [if_neg (show ¬ nO 11 (wst L k i) < 0 by rw [nO_lt v2']; exact nI_pos (by omega)), nO_lt v2', gk i hi, gk _ v2']
        have hki := (hk i hi).2
        have hkw := (hk _ v2').2
        by_cases v3 : k (wst L k i) ≤ k i
        · rw [if_neg (show ¬ nI (k i) < nI (k (wst L k i)) from fun q => by have := (nI_ltI (by omega) (by omega)).mp q; omega), if_pos ⟨v1, Or.inr v3⟩, cf_520_51, cf_520_56, nI_1, nO_lt hi]
        · rw [if_pos (show nI (k i) < nI (k (wst L k i)) from (nI_ltI (by omega) (by omega)).mpr (by omega)), if_neg (fun q => by rcases q.2 with z | z; omega; exact v3 z), cf_520_55, cf_520_56, nI_1, nO_lt v2']
    · rw [if_neg (fun q => v1 (lL.mp q)), if_neg (fun q => v1 q.1), cf_520_55, cf_520_56, nI_1]
  · rintro st rfl
    have l : ¬ nI 11 < 11 := by decide
    have iw : mz_ib (nO 11 (wst L k 11)) 11 := by rw [nO_lt w1]; exact ib_n w1 (by omega)
    rw [cd_520_17, cq_520_17]
    refine ⟨⟨fun q => absurd q l, fun _ => ⟨iw, iw, iw, trivial⟩⟩, _, by rw [if_neg l], upd a (wst L k 11) 0, upd d (wst L k 11) 1, upd li (wst L k 11) 0, ?_, fun j hj => ?_, fun j hj => ?_⟩
    · show Sum.inl (mz_wI (mz_wI (mz_wI (prc N a d b c li F m) 272 (nO 11 (wst L k 11)) 0) 273 (nO 11 (wst L k 11)) (mz_b01 true)) 276 (nO 11 (wst L k 11)) (mz_b01 false)) = _
      rw [rc_72, rc_73, rc_76, nO_lt w1, nI_clamp (by omega)]
      rfl
    · show upd a (wst L k 11) 0 j = nI (up L (wst L k 11) 0 j) ∧ upd d (wst L k 11) 1 j = nI (b1 (up Sh (wst L k 11) true j))
      rw [up_a, up_a]
      unfold up
      by_cases v : j = wst L k 11
      · rw [if_pos v, if_pos v, if_pos v, if_pos v]; exact ⟨rfl, rfl⟩
      · rw [if_neg v, if_neg v, if_neg v, if_neg v]; exact hx j hj
    · show upd li (wst L k 11) 0 j = mz_b01 (!(tr j) && !(up Sh (wst L k 11) true j))
      rw [up_a]
      unfold up
      by_cases v : j = wst L k 11
      · rw [if_pos v, if_pos v, Bool.not_true, Bool.and_false]; rfl
      · rw [if_neg v, if_neg v]; exact hlv j hj
theorem shed_r {gv ch : Nat} (hk : ∀ j, j < 11 → N.1 248 j = nI (k j) ∧ k j ≤ 9) (hch : ch ≤ 3000) (hgv : gv ≤ 150) (hF : F 54 = nI ch) : ∀ n (a d l : Nat → Int32) (x : (Nat → Nat) × (Nat → Bool)), lsh a d x → lvr l tr x.2 → (∀ j, j < 11 → x.1 j ≤ 2000) → npo x.1 ≤ n →
    (∃ q, mz_ok (cq_520_0 (nI gv)) (cd_520_0 (nI gv)) q (prc N a d b c l F m)) ∧ ∃ a' d' l', mz_run (cq_520_0 (nI gv)) (prc N a d b c l F m) = prc N a' d' b c l' (upd F 54 (nI (ch - (sumN (shd k (gv + ch) n x).1 11 - gv)))) m ∧ lsh a' d' (shd k (gv + ch) n x) ∧ lvr l' tr (shd k (gv + ch) n x).2 := by
  have stop : ∀ (a d l : Nat → Int32) (x : (Nat → Nat) × (Nat → Bool)), lsh a d x → lvr l tr x.2 → (∀ j, j < 11 → x.1 j ≤ 2000) → ¬ gv + ch < sumN x.1 11 → (∃ q, mz_ok (cq_520_0 (nI gv)) (cd_520_0 (nI gv)) q (prc N a d b c l F m)) ∧ ∃ a' d' l', mz_run (cq_520_0 (nI gv)) (prc N a d b c l F m) = prc N a' d' b c l' (upd F 54 (nI (ch - (sumN x.1 11 - gv)))) m ∧ lsh a' d' x ∧ lvr l' tr x.2 := fun a d l x hx hlv hL w => by
    obtain ⟨s1, s2⟩ := lds_r (N := prc N a d b c l F m)
    have s2' : cf_521_0 (prc N a d b c l F m) = nI (sumN x.1 11) := by rw [s2]; exact sI11_n 11 (fun j hj => (hx j hj).1)
    have hsb := sumN_b (L := x.1) (B := 2000) 11 hL
    have e1 : (prc N a d b c l F m).1 232 54 = nI ch := hF
    have lw : ¬ nI gv + nI ch < nI (sumN x.1 11) := by rw [nI_add]; exact fun q => w ((nI_ltI (by omega) (by omega)).mp q)
    refine lp_r (s := prc N a d b c l F m) (f := cq_520_0 (nI gv)) (P := cd_520_0 (nI gv)) (Q := fun r => ∃ a' d' l', r = prc N a' d' b c l' (upd F 54 (nI (ch - (sumN x.1 11 - gv)))) m ∧ lsh a' d' x ∧ lvr l' tr x.2) (t := prc N a d b c l (upd F 54 (nI (ch - (sumN x.1 11 - gv)))) m) ?_ ?_ ⟨a, d, l, rfl, hx, hlv⟩
    · rw [cd_520_0, e1, s2']
      exact ⟨s1, fun q => absurd q lw, fun _ => ⟨s1, fun _ => ⟨s1, trivial⟩, fun _ => trivial⟩⟩
    · rw [cq_520_0, e1, s2', if_neg lw]
      by_cases v : gv < sumN x.1 11
      · rw [if_pos (show nI gv < nI (sumN x.1 11) from (nI_ltI (by omega) (by omega)).mpr v), cf_520_110, rc_F, pk_sub (by omega), pk_sub (by omega)]
      · rw [if_neg (show ¬ nI gv < nI (sumN x.1 11) from fun q => v ((nI_ltI (by omega) (by omega)).mp q)), cf_520_110, rc_F, Int32.sub_zero, show ch - (sumN x.1 11 - gv) = ch by omega]
  intro n
  induction n with
  | zero =>
    intro a d l x hx hlv hL hp
    have hs : sumN x.1 11 = 0 := npo_0 (by omega)
    exact stop a d l x hx hlv hL (by omega)
  | succ n ih =>
    intro a d l x hx hlv hL hp
    have es : shd k (gv + ch) (n + 1) x = if gv + ch < sumN x.1 11 then shd k (gv + ch) n (shd1 k x) else x := rfl
    rw [es]
    by_cases w : gv + ch < sumN x.1 11
    · rw [if_pos w]
      obtain ⟨s1, s2⟩ := lds_r (N := prc N a d b c l F m)
      have s2' : cf_521_0 (prc N a d b c l F m) = nI (sumN x.1 11) := by rw [s2]; exact sI11_n 11 (fun j hj => (hx j hj).1)
      have hsb := sumN_b (L := x.1) (B := 2000) 11 hL
      have e1 : (prc N a d b c l F m).1 232 54 = nI ch := hF
      have lw : nI gv + nI ch < nI (sumN x.1 11) := by rw [nI_add]; exact (nI_ltI (by omega) (by omega)).mpr w
      obtain ⟨o1, a', d', l', o2, o3, o4⟩ := one_r (N := N) (b := b) (c := c) (F := F) (m := m) (k := k) (L := x.1) (Sh := x.2) (v1 := nI gv) hk hx hlv hL w
      have hp' : npo (shd1 k x).1 ≤ n := by
        have := npo_s (k := k) w
        show npo (up x.1 (wst x.1 k 11) 0) ≤ n
        omega
      have hL' : ∀ j, j < 11 → (shd1 k x).1 j ≤ 2000 := fun j hj => by
        show up x.1 (wst x.1 k 11) 0 j ≤ 2000
        unfold up
        split
        · omega
        · exact hL j hj
      refine lp_l (s := prc N a d b c l F m) (f := cq_520_0 (nI gv)) (P := cd_520_0 (nI gv)) (Q := fun r => ∃ a' d' l', r = prc N a' d' b c l' (upd F 54 (nI (ch - (sumN (shd k (gv + ch) n (shd1 k x)).1 11 - gv)))) m ∧ lsh a' d' (shd k (gv + ch) n (shd1 k x)) ∧ lvr l' tr (shd k (gv + ch) n (shd1 k x)).2) (s2 := prc N a' d' b c l' F m) ?_ ?_ (ih a' d' l' (shd1 k x) o3 o4 hL' hp')
      · rw [cd_520_0, e1, s2']
        exact ⟨s1, fun _ => o1, fun q => absurd lw q⟩
      · rw [cq_520_0, e1, s2', if_pos lw, o2]
    · rw [if_neg w]
      exact stop a d l x hx hlv hL w
/-- the circuits heat -/
theorem circ_r {a d l b0 c0 : Nat → Int32} {m0 : Nat → Int64} {x : (Nat → Nat) × (Nat → Bool)} {r h : Nat → Nat} (hx : lsh a d x) (hL : ∀ j, j < 11 → x.1 j ≤ 2000) (hr : ∀ j, j < 11 → N.1 247 j = nI (r j) ∧ 1 ≤ r j ∧ r j ≤ 500) (hb : ∀ j, j < 11 → b0 j = nI (h j) ∧ h j ≤ 30000) (hc : ∀ j, j < 11 → c0 j = nI (b1 (tr j))) :
    cp_518_321 (prc N a d b0 c0 l F m0) ∧ ∃ b' c' m', cf_518_321 (prc N a d b0 c0 l F m0) = prc N a d b' c' l F m' ∧ ∀ j, j < 11 → b' j = nI (htn (x.1 j) (r j) (h j)) ∧ c' j = nI (b1 (tr j || decide (50 ≤ htn (x.1 j) (r j) (h j)))) ∧ m' j = m0 j + lN (x.1 j) := by
  refine mz_lpn (f := cq_518_323) (P := cd_518_323) (Q := fun r' => ∃ b' c' m', r' = prc N a d b' c' l F m' ∧ ∀ j, j < 11 → b' j = nI (htn (x.1 j) (r j) (h j)) ∧ c' j = nI (b1 (tr j || decide (50 ≤ htn (x.1 j) (r j) (h j)))) ∧ m' j = m0 j + lN (x.1 j)) 11 (fun i st => ∃ b' c' m', st = (nI i, prc N a d b' c' l F m') ∧ (∀ j, j < i → b' j = nI (htn (x.1 j) (r j) (h j)) ∧ c' j = nI (b1 (tr j || decide (50 ≤ htn (x.1 j) (r j) (h j)))) ∧ m' j = m0 j + lN (x.1 j)) ∧ ∀ j, i ≤ j → j < 11 → b' j = b0 j ∧ c' j = c0 j ∧ m' j = m0 j) ?_ ?_ (Nat.zero_le _) ⟨b0, c0, m0, rfl, fun j hj => absurd hj (Nat.not_lt_zero _), fun j _ _ => ⟨rfl, rfl, rfl⟩⟩
  · rintro i st hi ⟨b', c', m', rfl, h1, h2⟩
    obtain ⟨q1, q2, q3⟩ := h2 i (Nat.le_refl _) hi
    have ll : nI i < 11 := (nI_ltI (b := 11) (by omega) (by omega)).mpr hi
    have i1 : mz_ib (nI i) 11 := ib_n hi (by omega)
    obtain ⟨hb1, hb2⟩ := hb i hi
    obtain ⟨hr0, hr1, hr2⟩ := hr i hi
    have hLi := hL i hi
    have gL : mz_gI (prc N a d b' c' l F m') 272 (nI i) = nI (x.1 i) := by rw [gI_a, nI_clamp (by omega)]; exact (hx i hi).1
    have gr : mz_gI (prc N a d b' c' l F m') 247 (nI i) = nI (r i) := by rw [gI_a, nI_clamp (by omega)]; exact hr0
    have gb : mz_gI (prc N a d b' c' l F m') 274 (nI i) = nI (h i) := by rw [gI_a, nI_clamp (by omega)]; show b' i = _; rw [q1]; exact hb1
    have hB : htn (x.1 i) (r i) (h i) < 2 ^ 31 := by
      unfold htn
      split
      · have : 10 * (x.1 i - r i) / r i ≤ 10 * (x.1 i - r i) := Nat.div_le_self _ _
        omega
      · omega
    have fin : ∀ v : Int32, v = nI (htn (x.1 i) (r i) (h i)) → cp_518_406 (nI i) v (nI i) (prc N a d b' c' l F m') ∧ cf_518_406 (nI i) v (nI i) (prc N a d b' c' l F m') = .inl (nI (i + 1), prc N a d (upd b' i (nI (htn (x.1 i) (r i) (h i)))) (upd c' i (nI (b1 (tr i || decide (50 ≤ htn (x.1 i) (r i) (h i)))))) l F (vp_updL m' i (m0 i + lN (x.1 i)))) := fun v hv => by
      subst hv
      have gz : mz_gI (prc N a d (upd b' i (nI (htn (x.1 i) (r i) (h i)))) c' l F m') 275 (nI i) = nI (b1 (tr i)) := by rw [gI_a, nI_clamp (by omega)]; show c' i = _; rw [q2]; exact hc i hi
      have gZ : mz_gZ (prc N a d (upd b' i (nI (htn (x.1 i) (r i) (h i)))) c' l F m') 275 (nI i) = tr i := by
        show decide (mz_gI (prc N a d (upd b' i (nI (htn (x.1 i) (r i) (h i)))) c' l F m') 275 (nI i) = 1) = tr i
        rw [gz]; cases tr i <;> rfl
      have g74 : mz_gI (prc N a d (upd b' i (nI (htn (x.1 i) (r i) (h i)))) c' l F m') 274 (nI i) = nI (htn (x.1 i) (r i) (h i)) := by
        rw [gI_a, nI_clamp (by omega)]
        show upd b' i _ i = _
        rw [up_a, if_pos rfl]
      have z01 : mz_z01 (mz_gI (prc N a d (upd b' i (nI (htn (x.1 i) (r i) (h i)))) c' l F m') 275 (nI i)) := by rw [gz]; cases tr i; exact Or.inl rfl; exact Or.inr rfl
      have last : ∀ y : Bool, cp_518_437 (nI i) y (nI i) (prc N a d (upd b' i (nI (htn (x.1 i) (r i) (h i)))) c' l F m') ∧ cf_518_437 (nI i) y (nI i) (prc N a d (upd b' i (nI (htn (x.1 i) (r i) (h i)))) c' l F m') = .inl (nI (i + 1), prc N a d (upd b' i (nI (htn (x.1 i) (r i) (h i)))) (upd c' i (mz_b01 y)) l F (vp_updL m' i (m0 i + lN (x.1 i)))) := fun y => by
        rw [cp_518_437, cf_518_437, rc_75, cf_518_454, rc_m, nI_1, nI_clamp (by omega)]
        refine ⟨⟨i1, i1, i1, i1, trivial⟩, ?_⟩
        have e1 : mz_gL (prc N a d (upd b' i (nI (htn (x.1 i) (r i) (h i)))) (upd c' i (mz_b01 y)) l F m') 322 (nI i) = m0 i := by rw [gL_a, nI_clamp (by omega)]; exact q3
        have e2 : (mz_gI (prc N a d (upd b' i (nI (htn (x.1 i) (r i) (h i)))) (upd c' i (mz_b01 y)) l F m') 272 (nI i)).toInt64 = lN (x.1 i) := by
          rw [gI_a, nI_clamp (by omega)]
          show (a i).toInt64 = _
          rw [(hx i hi).1, nI_L (by omega)]
        rw [e1, e2]
      rw [cp_518_406, cf_518_406, rc_74, nI_clamp (by omega), gZ, g74]
      by_cases v1 : tr i = true
      · rw [if_pos v1, cf_518_432, (last true).2, v1, Bool.true_or]
        exact ⟨⟨i1, i1, z01, fun _ => (last true).1, fun q => absurd rfl q⟩, rfl⟩
      · rw [if_neg v1, Bool.eq_false_iff.mpr v1, Bool.false_or]
        by_cases v2 : htn (x.1 i) (r i) (h i) < 50
        · have l2 : nI (htn (x.1 i) (r i) (h i)) < 50 := (nI_ltI (b := 50) hB (by omega)).mpr v2
          rw [if_pos l2, (last false).2, decide_eq_false (by omega)]
          exact ⟨⟨i1, i1, z01, fun q => absurd q Bool.false_ne_true, fun _ => ⟨i1, fun _ => (last false).1, fun q => absurd l2 q⟩⟩, rfl⟩
        · have l2 : ¬ nI (htn (x.1 i) (r i) (h i)) < 50 := fun q => v2 ((nI_ltI (b := 50) hB (by omega)).mp q)
          rw [if_neg l2, cf_518_432, (last true).2, decide_eq_true (by omega)]
          exact ⟨⟨i1, i1, z01, fun q => absurd q Bool.false_ne_true, fun _ => ⟨i1, fun q => absurd q l2, fun _ => (last true).1⟩⟩, rfl⟩
    have go : ∃ b2 c2 m2, (nI (i + 1), prc N a d (upd b' i (nI (htn (x.1 i) (r i) (h i)))) (upd c' i (nI (b1 (tr i || decide (50 ≤ htn (x.1 i) (r i) (h i)))))) l F (vp_updL m' i (m0 i + lN (x.1 i)))) = (nI (i + 1), prc N a d b2 c2 l F m2) ∧ (∀ j, j < i + 1 → b2 j = nI (htn (x.1 j) (r j) (h j)) ∧ c2 j = nI (b1 (tr j || decide (50 ≤ htn (x.1 j) (r j) (h j)))) ∧ m2 j = m0 j + lN (x.1 j)) ∧ ∀ j, i + 1 ≤ j → j < 11 → b2 j = b0 j ∧ c2 j = c0 j ∧ m2 j = m0 j := by
      refine ⟨_, _, _, rfl, fun j hj => ?_, fun j hj hj2 => ?_⟩
      · by_cases w : j = i
        · subst w
          exact ⟨by rw [up_a, if_pos rfl], by rw [up_a, if_pos rfl], by rw [upL_a, if_pos rfl]⟩
        · rw [up_a, if_neg w, up_a, if_neg w, upL_a, if_neg w]; exact h1 j (by omega)
      · rw [up_a, if_neg (by omega), up_a, if_neg (by omega), upL_a, if_neg (by omega)]; exact h2 j (by omega) hj2
    rw [cd_518_323, cq_518_323]
    simp only [ll, if_true, gL, gr, gb]
    by_cases w : r i < x.1 i
    · have l1 : nI (r i) < nI (x.1 i) := (nI_ltI (by omega) (by omega)).mpr w
      have es : nI (x.1 i) - nI (r i) = nI (x.1 i - r i) := pk_sub (by omega)
      have hd : 10 * (x.1 i - r i) / r i ≤ 10 * (x.1 i - r i) := Nat.div_le_self _ _
      have n0 : ¬ nI (r i) = 0 := fun q => by have := (nI_eq0 (by omega)).mp q; omega
      have ev : nI (h i) + 1 + 10 * (nI (x.1 i) - nI (r i)) / nI (r i) = nI (htn (x.1 i) (r i) (h i)) := by
        rw [es, show (10 : Int32) = nI 10 from rfl, pk_mul, pk_div (by omega) (by omega) (by omega), nI_1, nI_add]
        unfold htn
        rw [if_pos w]
      obtain ⟨k1, k2⟩ := fin _ ev
      rw [if_pos l1, k2]
      exact ⟨⟨fun _ => ⟨i1, i1, fun _ => ⟨i1, i1, i1, i1, n0, k1⟩, fun q => absurd l1 q⟩, fun q => absurd trivial q⟩, Or.inl ⟨_, rfl, go⟩⟩
    · have l1 : ¬ nI (r i) < nI (x.1 i) := fun q => w ((nI_ltI (by omega) (by omega)).mp q)
      rw [if_neg l1]
      have eh : htn (x.1 i) (r i) (h i) = h i - 2 := by unfold htn; rw [if_neg w]
      by_cases v : h i < 2
      · have l2 : nI (h i) < 2 := (nI_ltI (b := 2) (by omega) (by omega)).mpr v
        obtain ⟨k1, k2⟩ := fin 0 (by rw [eh, show h i - 2 = 0 by omega]; rfl)
        rw [if_pos l2, k2]
        exact ⟨⟨fun _ => ⟨i1, i1, fun q => absurd q l1, fun _ => ⟨i1, fun _ => k1, fun q => absurd l2 q⟩⟩, fun q => absurd trivial q⟩, Or.inl ⟨_, rfl, go⟩⟩
      · have l2 : ¬ nI (h i) < 2 := fun q => v ((nI_ltI (b := 2) (by omega) (by omega)).mp q)
        obtain ⟨k1, k2⟩ := fin (nI (h i) - 2) (by rw [eh, show (2 : Int32) = nI 2 from rfl, pk_sub (by omega)])
        rw [if_neg l2, k2]
        exact ⟨⟨fun _ => ⟨i1, i1, fun q => absurd q l1, fun _ => ⟨i1, fun q => absurd q l2, fun _ => ⟨i1, k1⟩⟩⟩, fun q => absurd trivial q⟩, Or.inl ⟨_, rfl, go⟩⟩
  · rintro st ⟨b', c', m', rfl, h1, h2⟩
    have ll : ¬ nI 11 < 11 := by decide
    rw [cd_518_323, cq_518_323]
    exact ⟨⟨fun q => absurd q ll, fun _ => trivial⟩, _, by rw [if_neg ll], b', c', m', rfl, h1⟩
end Shr
