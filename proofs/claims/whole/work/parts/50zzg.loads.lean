/-! PURE (50zzg): the class's loads. -/
def raw (pn ar : Nat → Nat) (dk lm bo ra : Bool) (vn : Nat) (c : Nat) : Nat := if c = 10 then 20 + 5 * vn + (if bo = true then 30 else 0) + (if ra = true then 40 else 0) else 15 * pn c + (if 0 < pn c ∧ dk = true ∧ lm = true then 6 * ar c else 0)
theorem ld0_raw {pn ar : Nat → Nat} {dk lm bo ra : Bool} {vn : Nat} {tr : Nat → Bool} {c : Nat} : ld0 pn ar dk lm bo ra vn tr c = if tr c = true then 0 else raw pn ar dk lm bo ra vn c := rfl
section Lds
variable {N : mz_N} {e fl P ar : Nat → Nat} {hr vn : Nat} {dk lm bo ra : Bool} {tr : Nat → Bool}
theorem cut_c {a b d F m : Nat → Int32} {R : Nat → Nat} (htr : ∀ c, c < 11 → N.1 60 c = nI (b1 (tr c))) (ha : ∀ c, c < 11 → a c = nI (R c)) : cp_220_152 0 (pmc N a b (N.1 60) d F m) ∧ ∃ a' d', cf_220_152 0 (pmc N a b (N.1 60) d F m) = pmc N a' b (N.1 60) d' F m ∧ ∀ c, c < 11 → a' c = nI (if tr c = true then 0 else R c) ∧ d' c = 0 := by
  refine mz_lpn (f := cq_220_152) (P := cd_220_152) (Q := fun r => ∃ a' d', r = pmc N a' b (N.1 60) d' F m ∧ ∀ c, c < 11 → a' c = nI (if tr c = true then 0 else R c) ∧ d' c = 0) 11 (fun i st => ∃ a' d', st = (nI i, pmc N a' b (N.1 60) d' F m) ∧ (∀ c, c < i → a' c = nI (if tr c = true then 0 else R c) ∧ d' c = 0) ∧ ∀ c, i ≤ c → c < 11 → a' c = nI (R c)) ?_ ?_ (Nat.zero_le _) ⟨a, d, rfl, fun c hc => absurd hc (Nat.not_lt_zero _), fun c _ hc => ha c hc⟩
  · rintro i st hi ⟨a', d', rfl, h1, h2⟩
    have l : nI i < 11 := (nI_ltI (b := 11) (by omega) (by omega)).mpr hi
    have i1 : mz_ib (nI i) 11 := ib_n hi (by omega)
    have g60 : ∀ a d, mz_gI (pmc N a b (N.1 60) d F m) 60 (nI i) = nI (b1 (tr i)) := fun a d => by rw [gI_a, nI_clamp (by omega)]; exact htr i hi
    rw [cd_220_152, cq_220_152]
    simp only [l, if_true, pm_61, g60, pm_58, cf_220_192, nI_1, nI_clamp (show i < 2 ^ 31 by omega)]
    have go : ∀ a2 : Nat → Int32, (∀ c, c ≠ i → a2 c = a' c) → a2 i = nI (if tr i = true then 0 else R i) → ∃ a3 d3, (nI (i + 1), pmc N a2 b (N.1 60) (upd d' i 0) F m) = (nI (i + 1), pmc N a3 b (N.1 60) d3 F m) ∧ (∀ c, c < i + 1 → a3 c = nI (if tr c = true then 0 else R c) ∧ d3 c = 0) ∧ ∀ c, i + 1 ≤ c → c < 11 → a3 c = nI (R c) := fun a2 q1 q2 => by
      refine ⟨a2, upd d' i 0, rfl, fun c hc => ?_, fun c hc hc2 => by rw [q1 c (by omega)]; exact h2 c (by omega) hc2⟩
      by_cases w : c = i
      · rw [w]; exact ⟨q2, by rw [up_a, if_pos rfl]⟩
      · rw [q1 c w, up_a, if_neg w]; exact h1 c (by omega)
    by_cases w : tr i = true
    · have e1 : nI (b1 (tr i)) = 1 := by rw [w]; rfl
      rw [if_pos e1]
      exact ⟨⟨fun _ => ⟨i1, i1, fun _ => ⟨i1, trivial⟩, fun _ => trivial⟩, fun q => absurd trivial q⟩, Or.inl ⟨_, rfl, go _ (fun c hc => by rw [up_a, if_neg hc]) (by rw [up_a, if_pos rfl, if_pos w]; rfl)⟩⟩
    · have e1 : ¬ nI (b1 (tr i)) = 1 := by rw [Bool.eq_false_iff.mpr w]; decide
      rw [if_neg e1]
      exact ⟨⟨fun _ => ⟨i1, i1, fun _ => ⟨i1, trivial⟩, fun _ => trivial⟩, fun q => absurd trivial q⟩, Or.inl ⟨_, rfl, go _ (fun c hc => rfl) (by rw [if_neg w]; exact h2 i (Nat.le_refl _) hi)⟩⟩
  · rintro st ⟨a', d', rfl, h1, h2⟩
    have l : ¬ nI 11 < 11 := by decide
    rw [cd_220_152, cq_220_152]
    exact ⟨⟨fun q => absurd q l, fun _ => trivial⟩, _, by rw [if_neg l], a', d', rfl, h1⟩
theorem lds0_c (hn : pl_n e ≤ 40) (h38 : ∀ j, j < 10 → N.1 38 j = nO (pl_n e) (pl_ht e fl j)) (h40 : ∀ j, j < 240 → N.1 40 j = nI (P j)) (hP : ∀ j, P j ≤ 20) (h39 : ∀ j, j < 10 → N.1 39 j = nI (ar j)) (hhr : hr < 24) (hdk : dk = decide (hr < 7 ∨ 18 ≤ hr)) (hlm : lm = decide (N.1 53 10 = 1)) (hvn : N.1 53 13 = nI vn) (hbo : bo = decide (0 < N.1 56 13)) (hra : N.1 56 9 = mz_b01 ra) (htr : ∀ c, c < 11 → N.1 60 c = nI (b1 (tr c))) :
    cp_220_0 (nI hr) N ∧ ∃ a d, cf_220_0 (nI hr) N = pmc N a (N.1 59) (N.1 60) d (N.1 56) (N.1 211) ∧ ∀ c, c < 11 → a c = nI (ld0 (pnt e fl P hr) ar dk lm bo ra vn tr c) ∧ d c = 0 := by
  have hpn : ∀ f, pnt e fl P hr f ≤ 20 := fun f => by unfold pnt; split; exact hP _; omega
  -- the house's own
  have hou : ∀ (a : Nat → Int32), (∀ f, f < 10 → a f = nI (raw (pnt e fl P hr) ar dk lm bo ra vn f)) → ∀ w : Int32, w = (if bo = true then 30 else 0) → cp_220_133 10 (20 + 5 * nI vn) w (pmc N a (N.1 59) (N.1 60) (N.1 61) (N.1 56) (N.1 211)) ∧ ∃ a' d', cf_220_133 10 (20 + 5 * nI vn) w (pmc N a (N.1 59) (N.1 60) (N.1 61) (N.1 56) (N.1 211)) = pmc N a' (N.1 59) (N.1 60) d' (N.1 56) (N.1 211) ∧ ∀ c, c < 11 → a' c = nI (ld0 (pnt e fl P hr) ar dk lm bo ra vn tr c) ∧ d' c = 0 := fun a ha w hw => by
    have i10 : mz_ib 10 11 := ib_n (k := 10) (by omega) (by omega)
    have z9 : mz_z01 ((pmc N a (N.1 59) (N.1 60) (N.1 61) (N.1 56) (N.1 211)).1 56 9) := by
      show mz_z01 (N.1 56 9)
      rw [hra]; cases ra; exact Or.inl rfl; exact Or.inr rfl
    have zf : mz_fZ (pmc N a (N.1 59) (N.1 60) (N.1 61) (N.1 56) (N.1 211)) 56 9 = ra := by
      show decide (N.1 56 9 = 1) = ra
      rw [hra]; cases ra <;> rfl
    have ev : ∀ x : Int32, x = (if ra = true then 40 else 0) → 20 + 5 * nI vn + w + x = nI (raw (pnt e fl P hr) ar dk lm bo ra vn 10) := fun x hx => by
      have er : raw (pnt e fl P hr) ar dk lm bo ra vn 10 = 20 + 5 * vn + (if bo = true then 30 else 0) + (if ra = true then 40 else 0) := rfl
      have e1 : (if bo = true then (30 : Int32) else 0) = nI (if bo = true then 30 else 0) := by cases bo <;> rfl
      have e2 : (if ra = true then (40 : Int32) else 0) = nI (if ra = true then 40 else 0) := by cases ra <;> rfl
      rw [er, hx, hw, e1, e2, show (20 : Int32) = nI 20 from rfl, show (5 : Int32) = nI 5 from rfl, pk_mul, nI_add, nI_add, nI_add]
    have key : ∀ x : Int32, x = (if ra = true then 40 else 0) → cp_220_147 10 (20 + 5 * nI vn + w) x (pmc N a (N.1 59) (N.1 60) (N.1 61) (N.1 56) (N.1 211)) ∧ ∃ a' d', cf_220_147 10 (20 + 5 * nI vn + w) x (pmc N a (N.1 59) (N.1 60) (N.1 61) (N.1 56) (N.1 211)) = pmc N a' (N.1 59) (N.1 60) d' (N.1 56) (N.1 211) ∧ ∀ c, c < 11 → a' c = nI (ld0 (pnt e fl P hr) ar dk lm bo ra vn tr c) ∧ d' c = 0 := fun x hx => by
      rw [cp_220_147, cf_220_147, ev x hx, pm_58, show Int32.toNatClampNeg 10 = 10 from rfl]
      obtain ⟨k1, k2⟩ := cut_c (N := N) (a := upd a 10 (nI (raw (pnt e fl P hr) ar dk lm bo ra vn 10))) (b := N.1 59) (d := N.1 61) (F := N.1 56) (m := N.1 211) (R := raw (pnt e fl P hr) ar dk lm bo ra vn) htr (fun c hc => by
        rw [up_a]
        by_cases q : c = 10
        · rw [if_pos q, q]
        · rw [if_neg q]; exact ha c (by omega))
      exact ⟨⟨i10, k1⟩, k2⟩
    rw [cp_220_133, cf_220_133, zf]
    cases ra with
    | true =>
      obtain ⟨k1, k2⟩ := key 40 rfl
      rw [if_pos rfl]
      exact ⟨⟨z9, fun _ => k1, fun q => absurd rfl q⟩, k2⟩
    | false =>
      obtain ⟨k1, k2⟩ := key 0 rfl
      rw [if_neg Bool.false_ne_true]
      exact ⟨⟨z9, fun q => absurd q Bool.false_ne_true, fun _ => k1⟩, k2⟩
  have lp : ∀ v4 : Bool, v4 = dk → cp_220_22 (nI hr) v4 0 N ∧ ∃ a d, cf_220_22 (nI hr) v4 0 N = pmc N a (N.1 59) (N.1 60) d (N.1 56) (N.1 211) ∧ ∀ c, c < 11 → a c = nI (ld0 (pnt e fl P hr) ar dk lm bo ra vn tr c) ∧ d c = 0 := fun v4 hv4 => by
    subst hv4
    refine mz_lpn (f := cq_220_22 (nI hr) v4) (P := cd_220_22 (nI hr) v4) (Q := fun r => ∃ a d, r = pmc N a (N.1 59) (N.1 60) d (N.1 56) (N.1 211) ∧ ∀ c, c < 11 → a c = nI (ld0 (pnt e fl P hr) ar v4 lm bo ra vn tr c) ∧ d c = 0) 10 (fun i st => ∃ a, st = (nI i, pmc N a (N.1 59) (N.1 60) (N.1 61) (N.1 56) (N.1 211)) ∧ ∀ f, f < i → a f = nI (raw (pnt e fl P hr) ar v4 lm bo ra vn f)) ?_ ?_ (Nat.zero_le _) ⟨N.1 58, by rw [pm_self]; rfl, fun f hf => absurd hf (Nat.not_lt_zero _)⟩
    · rintro i st hi ⟨a, rfl, h1⟩
      have l : nI i < 10 := (nI_ltI (b := 10) (by omega) (by omega)).mpr hi
      have i10 : mz_ib (nI i) 10 := ib_n hi (by omega)
      have i11 : mz_ib (nI i) 11 := ib_n (by omega) (by omega)
      obtain ⟨p1, p2⟩ := prs_c (N := pmc N a (N.1 59) (N.1 60) (N.1 61) (N.1 56) (N.1 211)) (e := e) (fl := fl) (P := P) (hr := hr) (f := i) hn h38 h40 hhr hi
      have g39 : mz_gI (pmc N a (N.1 59) (N.1 60) (N.1 61) (N.1 56) (N.1 211)) 39 (nI i) = nI (ar i) := by rw [gI_a, nI_clamp (by omega)]; exact h39 i hi
      have hb := hpn i
      have lp0 : 0 < nI (pnt e fl P hr i) ↔ 0 < pnt e fl P hr i := nI_gt0 (by omega)
      have glm : (mz_gI (pmc N a (N.1 59) (N.1 60) (N.1 61) (N.1 56) (N.1 211)) 53 10 = 1) ↔ lm = true := by
        show (N.1 53 10 = 1) ↔ lm = true
        rw [hlm, decide_eq_true_eq]
      have m15 : 15 * nI (pnt e fl P hr i) = nI (15 * pnt e fl P hr i) := by rw [show (15 : Int32) = nI 15 from rfl, pk_mul]
      have m6 : 6 * nI (ar i) = nI (6 * ar i) := by rw [show (6 : Int32) = nI 6 from rfl, pk_mul]
      have er : raw (pnt e fl P hr) ar v4 lm bo ra vn i = 15 * pnt e fl P hr i + (if 0 < pnt e fl P hr i ∧ v4 = true ∧ lm = true then 6 * ar i else 0) := by unfold raw; rw [if_neg (by omega)]
      have nolit : ¬ (0 < pnt e fl P hr i ∧ v4 = true ∧ lm = true) → cf_220_60 (nI hr) v4 (nI i) (nI (pnt e fl P hr i)) (pmc N a (N.1 59) (N.1 60) (N.1 61) (N.1 56) (N.1 211)) = .inl (nI (i + 1), pmc N (upd a i (nI (raw (pnt e fl P hr) ar v4 lm bo ra vn i))) (N.1 59) (N.1 60) (N.1 61) (N.1 56) (N.1 211)) := fun q => by
        rw [cf_220_60, cf_220_61, if_neg Bool.false_ne_true, cf_220_95, pm_58, m15, nI_clamp (by omega), nI_1, er, if_neg q, Int32.add_zero, Nat.add_zero (15 * pnt e fl P hr i)]
      have go : ∃ a', (nI (i + 1), pmc N (upd a i (nI (raw (pnt e fl P hr) ar v4 lm bo ra vn i))) (N.1 59) (N.1 60) (N.1 61) (N.1 56) (N.1 211)) = (nI (i + 1), pmc N a' (N.1 59) (N.1 60) (N.1 61) (N.1 56) (N.1 211)) ∧ ∀ f, f < i + 1 → a' f = nI (raw (pnt e fl P hr) ar v4 lm bo ra vn f) := by
        refine ⟨_, rfl, fun f hf => ?_⟩
        rw [up_a]
        by_cases q : f = i
        · rw [if_pos q, q]
        · rw [if_neg q]; exact h1 f (by omega)
      have nocp : cp_220_60 (nI hr) v4 (nI i) (nI (pnt e fl P hr i)) (pmc N a (N.1 59) (N.1 60) (N.1 61) (N.1 56) (N.1 211)) := ⟨fun q => absurd q Bool.false_ne_true, fun _ => i11⟩
      have yescp : cp_220_61 true (nI hr) v4 (nI i) (nI (pnt e fl P hr i)) (pmc N a (N.1 59) (N.1 60) (N.1 61) (N.1 56) (N.1 211)) := ⟨fun _ => ⟨i10, i11⟩, fun q => absurd rfl q⟩
      rw [cd_220_22, cq_220_22]
      simp only [l, if_true, p2]
      refine ⟨⟨fun _ => ⟨p1, fun _ => ⟨fun _ => ⟨fun _ => yescp, fun _ => nocp⟩, fun _ => nocp⟩, fun _ => nocp⟩, fun q => absurd trivial q⟩, Or.inl ⟨_, ?_, go⟩⟩
      by_cases w1 : 0 < pnt e fl P hr i
      · rw [if_pos (lp0.mpr w1)]
        by_cases w2 : v4 = true
        · rw [if_pos w2]
          by_cases w3 : lm = true
          · rw [if_pos (glm.mpr w3), cf_220_61, if_pos rfl, cf_220_95, pm_58, m15, g39, m6, nI_add, nI_clamp (by omega), nI_1, er, if_pos ⟨w1, w2, w3⟩]
          · rw [if_neg (fun q => w3 (glm.mp q))]; exact nolit (fun q => w3 q.2.2)
        · rw [if_neg w2]; exact nolit (fun q => w2 q.2.1)
      · rw [if_neg (fun q => w1 (lp0.mp q))]; exact nolit (fun q => w1 q.1)
    · rintro st ⟨a, rfl, h1⟩
      have l : ¬ nI 10 < 10 := by decide
      rw [cd_220_22, cq_220_22]
      show ((nI 10 < 10 → _) ∧ (¬ nI 10 < 10 → (0 < N.1 56 13 → cp_220_133 10 (20 + 5 * mz_gI (pmc N a (N.1 59) (N.1 60) (N.1 61) (N.1 56) (N.1 211)) 53 13) 30 (pmc N a (N.1 59) (N.1 60) (N.1 61) (N.1 56) (N.1 211))) ∧ (¬ 0 < N.1 56 13 → cp_220_133 10 (20 + 5 * mz_gI (pmc N a (N.1 59) (N.1 60) (N.1 61) (N.1 56) (N.1 211)) 53 13) 0 (pmc N a (N.1 59) (N.1 60) (N.1 61) (N.1 56) (N.1 211))))) ∧ ∃ t, (if nI 10 < 10 then _ else (if 0 < N.1 56 13 then Sum.inr (cf_220_133 10 (20 + 5 * mz_gI (pmc N a (N.1 59) (N.1 60) (N.1 61) (N.1 56) (N.1 211)) 53 13) 30 (pmc N a (N.1 59) (N.1 60) (N.1 61) (N.1 56) (N.1 211))) else Sum.inr (cf_220_133 10 (20 + 5 * mz_gI (pmc N a (N.1 59) (N.1 60) (N.1 61) (N.1 56) (N.1 211)) 53 13) 0 (pmc N a (N.1 59) (N.1 60) (N.1 61) (N.1 56) (N.1 211))))) = _ ∧ _
      have g13 : mz_gI (pmc N a (N.1 59) (N.1 60) (N.1 61) (N.1 56) (N.1 211)) 53 13 = nI vn := hvn
      rw [if_neg l, g13]
      by_cases w : 0 < N.1 56 13
      · obtain ⟨k1, k2⟩ := hou a h1 30 (by rw [hbo, decide_eq_true w]; rfl)
        rw [if_pos w]
        exact ⟨⟨fun q => absurd q l, fun _ => ⟨fun _ => k1, fun q => absurd w q⟩⟩, _, rfl, k2⟩
      · obtain ⟨k1, k2⟩ := hou a h1 0 (by rw [hbo, decide_eq_false w]; rfl)
        rw [if_neg w]
        exact ⟨⟨fun q => absurd q l, fun _ => ⟨fun q => absurd q w, fun _ => k1⟩⟩, _, rfl, k2⟩
  rw [cp_220_0, cf_220_0]
  by_cases w1 : hr < 7
  · have l1 : nI hr < 7 := (nI_ltI (b := 7) (by omega) (by omega)).mpr w1
    obtain ⟨k1, k2⟩ := lp true (by rw [hdk, decide_eq_true (Or.inl w1)])
    rw [if_pos l1, cf_220_12, cf_220_17]
    exact ⟨⟨fun _ => k1, fun q => absurd l1 q⟩, k2⟩
  · have l1 : ¬ nI hr < 7 := fun q => w1 ((nI_ltI (b := 7) (by omega) (by omega)).mp q)
    rw [if_neg l1]
    by_cases w2 : hr < 18
    · have l2 : nI hr < 18 := (nI_ltI (b := 18) (by omega) (by omega)).mpr w2
      obtain ⟨k1, k2⟩ := lp false (by rw [hdk, decide_eq_false (by omega)])
      rw [if_pos l2, cf_220_17]
      exact ⟨⟨fun q => absurd q l1, fun _ => ⟨fun _ => k1, fun q => absurd l2 q⟩⟩, k2⟩
    · have l2 : ¬ nI hr < 18 := fun q => w2 ((nI_ltI (b := 18) (by omega) (by omega)).mp q)
      obtain ⟨k1, k2⟩ := lp true (by rw [hdk, decide_eq_true (by omega)])
      rw [if_neg l2, cf_220_12, cf_220_17]
      exact ⟨⟨fun q => absurd q l1, fun _ => ⟨fun q => absurd q l2, fun _ => k1⟩⟩, k2⟩
end Lds
