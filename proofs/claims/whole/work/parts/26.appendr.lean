/-! PURE (26): the reference's groups. -/
section Apr
variable {N : mz_N} {kt : Nat → Bool} {kb x : Nat → Nat → Nat} {d : Nat → Nat → Nat} {gk : Nat → Nat} {gc : Nat}
theorem lN_lt64 {a b : Nat} (ha : a < 2 ^ 62) (hb : b < 2 ^ 62) : lN a < lN b ↔ a < b := pk_lLT (by omega) (by omega)
theorem r_snap {a1 a2 a gn B : Nat} {z : Int32} (ha : a < 2) (hB : B < 2 ^ 30) (hgn : gn ≤ B) (hag : ∀ a n, a < 2 → n < 200 → ag d a n ≤ B) (h7 : N.1 232 137 = 0) (h33 : N.1 232 133 = nI a) (h34 : N.2 232 134 = lN gn) (h1 : [232, 329, 332, 341].contains a1 = false) (h2 : [232, 329, 332, 341].contains a2 = false) (hkt : ∀ k, k < 135 → N.1 a1 k = nI (b1 (kt k))) (hkb : ∀ k, k < 135 → kt k = true → ∀ i, i < 28 → N.1 a2 (28 * k + i) = by8 (kb k i)) (hkb2 : ∀ k i, kb k i < 256) (hd : r_dk d N) (hd2 : ∀ a j, d a j < 256) (hz : N.1 232 136 = z) :
    cp_475_0 a1 a2 N ∧ ∃ K, cf_475_0 a1 a2 N = ((sn kt kb (1 - a) (lN (nxg d (1 - a) gn)) d z).2.2.2, K) ∧ fr [232, 329, 332, 341] N (K.1, N.2) ∧ (∀ c, c ≠ 232 → K.2 c = N.2 c) ∧ r_dk (sn kt kb (1 - a) (lN (nxg d (1 - a) gn)) d z).1 K ∧
      (K.1 232 = if (sn kt kb (1 - a) (lN (nxg d (1 - a) gn)) d z).2.2.2 = true then upd (upd (upd (N.1 232) 136 (sn kt kb (1 - a) (lN (nxg d (1 - a) gn)) d z).2.1) 133 (nI (1 - a))) 135 (nI (cnt kt 135 + 1)) else upd (upd (N.1 232) 136 0) 137 1) ∧
      (K.2 232 = if (sn kt kb (1 - a) (lN (nxg d (1 - a) gn)) d z).2.2.2 = true then vp_updL (N.2 232) 134 (lN (nxg d (1 - a) gn)) else N.2 232) := by
  have hto : 1 - a < 2 := by omega
  have e1 : (1 : Int32) - nI a = nI (1 - a) := by rw [show (1 : Int32) = nI 1 from rfl, pk_sub (by omega)]
  generalize hR : sn kt kb (1 - a) (lN (nxg d (1 - a) gn)) d z = R at *
  have h118 := r_snap1 (N := N) (kt := kt) (kb := kb) (d := d) (a1 := a1) (a2 := a2) (to := 1 - a) (g := lN (nxg d (1 - a) gn)) (z := z) hto h7 h1 h2 hkt hkb hkb2 hd hz
  rw [hR] at h118
  obtain ⟨p118, q118⟩ := h118
  have b0 := hag (1 - a) 0 hto (by omega)
  have b1' := hag (1 - a) 1 hto (by omega)
  have rdg : ∀ t, t < 2 → cp_423_0 329 19200 (nI (9600 * (1 - a) + 48 * t + 8)) 4 N ∧ ((cf_423_0 329 19200 (nI (9600 * (1 - a) + 48 * t + 8)) 4 N).toInt32).toInt64 = lN (ag d (1 - a) t) := by
    intro t ht
    obtain ⟨q1, q2⟩ := rd4_r (a := 1 - a) (p := 48 * t + 8) hd hd2 hto (by omega)
    rw [← Nat.add_assoc] at q1 q2
    have := hag (1 - a) t hto (by omega)
    refine ⟨q1, ?_⟩
    rw [q2, lN_i]
    exact nI_l (show ag d (1 - a) t < 2 ^ 31 by omega)
  have h50 : cp_475_50 a1 a2 (nO 135 (las kt 135)) (nI (1 - a)) (lN gn) 0 N ∧ cf_475_50 a1 a2 (nO 135 (las kt 135)) (nI (1 - a)) (lN gn) 0 N = cf_475_118 a1 a2 (nO 135 (las kt 135)) (nI (1 - a)) (lN (nxg d (1 - a) gn)) 0 0 N := by
    refine mz_lpn (f := cq_475_50 a1 a2 (nO 135 (las kt 135)) (nI (1 - a)) N) (P := cd_475_50 a1 a2 (nO 135 (las kt 135)) (nI (1 - a)) N) (Q := fun t => t = cf_475_118 a1 a2 (nO 135 (las kt 135)) (nI (1 - a)) (lN (nxg d (1 - a) gn)) 0 0 N) 2 (fun t s => ∃ y, s = (lN y, nI t) ∧ y ≤ B ∧ y = (if t = 0 then gn else if t = 1 then max gn (ag d (1 - a) 0) else max (max gn (ag d (1 - a) 0)) (ag d (1 - a) 1))) ?_ ?_ (Nat.zero_le _) ⟨gn, rfl, hgn, rfl⟩
    · rintro t s ht ⟨y, rfl, hy, hy2⟩
      obtain ⟨q1, q2⟩ := rdg t ht
      have hat := hag (1 - a) t hto (by omega)
      have hnext : (if t + 1 = 0 then gn else if t + 1 = 1 then max gn (ag d (1 - a) 0) else max (max gn (ag d (1 - a) 0)) (ag d (1 - a) 1)) = max y (ag d (1 - a) t) := by
        have : t = 0 ∨ t = 1 := by omega
        rcases this with rfl | rfl
        · simp at hy2 ⊢; rw [hy2]
        · simp only [Nat.reduceAdd, Nat.reduceEqDiff, if_false, if_true] at hy2 ⊢; rw [hy2]
      rw [hnext]
      by_cases hlt : y < ag d (1 - a) t
      · simp (disch := omega) only [cd_475_50, cq_475_50, cp_475_98, cf_475_98, nI_ltI, (show (2 : Int32) = nI 2 from rfl), (show (9600 : Int32) = nI 9600 from rfl), (show (48 : Int32) = nI 48 from rfl), (show (8 : Int32) = nI 8 from rfl), ht, pk_mul, nI_add, q1, q2, lN_lt64, hlt, nI_1, not_false_eq_true, not_true_eq_false, if_true, if_false, true_implies, false_implies, implies_true, and_true, true_and]
        exact Or.inl ⟨_, rfl, ag d (1 - a) t, rfl, by omega, by omega⟩
      · simp (disch := omega) only [cd_475_50, cq_475_50, cp_475_98, cf_475_98, nI_ltI, (show (2 : Int32) = nI 2 from rfl), (show (9600 : Int32) = nI 9600 from rfl), (show (48 : Int32) = nI 48 from rfl), (show (8 : Int32) = nI 8 from rfl), ht, pk_mul, nI_add, q1, q2, lN_lt64, hlt, nI_1, not_false_eq_true, not_true_eq_false, if_true, if_false, true_implies, false_implies, implies_true, and_true, true_and]
        exact Or.inl ⟨_, rfl, y, rfl, by omega, by omega⟩
    · rintro s ⟨y, rfl, hy, hy2⟩
      simp only [Nat.reduceEqDiff, if_false] at hy2
      have e : lN y + 1 = lN (nxg d (1 - a) gn) := by
        rw [lN_1]; refine congrArg lN ?_; unfold nxg; omega
      simp (disch := omega) only [cd_475_50, cq_475_50, nI_ltI, (show (2 : Int32) = nI 2 from rfl), Nat.lt_irrefl, e, p118, not_false_eq_true, not_true_eq_false, if_true, if_false, true_implies, false_implies, implies_true, and_true, true_and]
      exact ⟨_, rfl, rfl⟩
  refine (fun (h : _ ∧ _) => ⟨h.1, by rw [show cf_475_0 a1 a2 N = cf_475_118 a1 a2 (nO 135 (las kt 135)) (nI (1 - a)) (lN (nxg d (1 - a) gn)) 0 0 N from h.2]; exact q118⟩) (mz_lpn (f := cq_475_5 a1 a2 N) (P := cd_475_5 a1 a2 N) (Q := fun t => t = cf_475_118 a1 a2 (nO 135 (las kt 135)) (nI (1 - a)) (lN (nxg d (1 - a) gn)) 0 0 N) 135 (fun t s => s = (nO 135 (las kt t), nI t)) ?_ ?_ (Nat.zero_le _) rfl)
  · rintro k s hk rfl
    have g2 : mz_gI N a1 (nI k) = nI (b1 (kt k)) := by rw [gI_a, nI_clamp (by omega), hkt k hk]
    have gz : mz_gZ N a1 (nI k) = kt k := by
      rw [gZ_a]
      have : N.1 a1 (nI k).toNatClampNeg = nI (b1 (kt k)) := g2
      rw [this]
      cases kt k <;> decide
    have z1 : mz_z01 (mz_gI N a1 (nI k)) := by rw [g2]; exact z01_b _
    have hla : nO 135 (las kt (k + 1)) = if kt k = true then nI k else nO 135 (las kt k) := by
      rw [las]
      by_cases w : kt k = true
      · rw [if_pos w, if_pos w, nO_lt hk]
      · rw [if_neg w, if_neg w]
    rw [hla]
    cases hktk : kt k with
    | true =>
      simp (disch := omega) only [cd_475_5, cq_475_5, cp_475_26, cf_475_26, nI_ltI, (show (135 : Int32) = nI 135 from rfl), hk, gz, z1, hktk, nI_1, ib_i, not_false_eq_true, not_true_eq_false, if_true, if_false, true_implies, false_implies, implies_true, and_true, true_and]
      exact Or.inl ⟨_, rfl, rfl⟩
    | false =>
      simp (disch := omega) only [cd_475_5, cq_475_5, cp_475_26, cf_475_26, nI_ltI, (show (135 : Int32) = nI 135 from rfl), hk, gz, z1, hktk, nI_1, ib_i, Bool.false_eq_true, not_false_eq_true, not_true_eq_false, if_true, if_false, true_implies, false_implies, implies_true, and_true, true_and]
      exact Or.inl ⟨_, rfl, rfl⟩
  · rintro s rfl
    simp (disch := omega) only [cd_475_5, cq_475_5, nI_ltI, (show (135 : Int32) = nI 135 from rfl), Nat.lt_irrefl, h33, h34, e1, h50, not_false_eq_true, not_true_eq_false, if_true, if_false, true_implies, false_implies, implies_true, and_true, true_and]
    exact ⟨_, rfl, rfl⟩
/-- what a row's making reads stays as it is -/
def rdf (N M : mz_N) : Prop := (∀ c, [232, 329, 330, 331, 332, 341].contains c = false → M.1 c = N.1 c) ∧ (∀ f, f ≠ 133 → f ≠ 135 → f ≠ 136 → f ≠ 137 → M.1 232 f = N.1 232 f) ∧ (∀ c, c ≠ 232 → M.2 c = N.2 c) ∧ ∀ f, f ≠ 134 → M.2 232 f = N.2 232 f
theorem rdf_trans {N M K : mz_N} (h1 : rdf N M) (h2 : rdf M K) : rdf N K := ⟨fun c hc => (h2.1 c hc).trans (h1.1 c hc), fun f a b c d => (h2.2.1 f a b c d).trans (h1.2.1 f a b c d), fun c hc => (h2.2.2.1 c hc).trans (h1.2.2.1 c hc), fun f hf => (h2.2.2.2 f hf).trans (h1.2.2.2 f hf)⟩
theorem rdf_refl (N : mz_N) : rdf N N := ⟨fun _ _ => rfl, fun _ _ _ _ _ => rfl, fun _ _ => rfl, fun _ _ => rfl⟩
/-- the reference makes the bytes x of a key -/
def encR (N : mz_N) (x : Nat → Nat → Nat) (k : Nat) : Prop := ∀ M, rdf N M → cp_476_0 (nI k) M ∧ ∃ f, cf_476_0 (nI k) M = mz_sI M 332 f ∧ ∀ j, j < 28 → f j = by8 (x k j)
theorem r_copy {M : mz_N} {i k : Nat} {pay : Nat → Nat} (hk : k < 135) (hp : ∀ j, j < 28 → M.1 332 j = by8 (pay j)) : cp_474_114 (nI i) (nI k) 0 M ∧ ∃ f, cf_474_114 (nI i) (nI k) 0 M = .inl (nI (i + 1), mz_sI M 331 f) ∧ ∀ j, f j = if 28 * k ≤ j ∧ j < 28 * k + 28 then by8 (pay (j - 28 * k)) else M.1 331 j := by
  refine mz_lpn (f := cq_474_114 (nI i) (nI k)) (P := cd_474_114 (nI i) (nI k)) (Q := fun t => ∃ f, t = .inl (nI (i + 1), mz_sI M 331 f) ∧ ∀ j, f j = if 28 * k ≤ j ∧ j < 28 * k + 28 then by8 (pay (j - 28 * k)) else M.1 331 j) 28 (fun t s => ∃ f, s = (nI t, mz_sI M 331 f) ∧ ∀ j, f j = if 28 * k ≤ j ∧ j < 28 * k + t then by8 (pay (j - 28 * k)) else M.1 331 j) ?_ ?_ (Nat.zero_le _) ⟨M.1 331, by rw [sI_same]; rfl, fun j => by rw [if_neg (by omega)]⟩
  · rintro t s ht ⟨f, rfl, hf⟩
    have g1 : mz_nb (mz_gI (mz_sI M 331 f) 332 (nI t)) = by8 (pay t) := by rw [gI_a, sI_n (by decide), nI_clamp (by omega), hp t ht, by8_nb]
    simp (disch := omega) only [cd_474_114, cq_474_114, nI_ltI, (show (28 : Int32) = nI 28 from rfl), ht, pk_mul, nI_add, g1, nI_1, ib_i, not_false_eq_true, not_true_eq_false, if_true, if_false, true_implies, false_implies, implies_true, and_true, true_and]
    refine ⟨by omega, Or.inl ⟨_, rfl, upd f (28 * k + t) (by8 (pay t)), ?_, ?_⟩⟩
    · rw [wI_s, sI_e, sI_sI, nI_clamp (by omega)]
    · intro j
      rw [up_a, hf]
      by_cases y : j = 28 * k + t
      · rw [if_pos y, if_pos (by omega), y, Nat.add_sub_cancel_left]
      · rw [if_neg y]
        by_cases w : 28 * k ≤ j ∧ j < 28 * k + t
        · rw [if_pos w, if_pos (by omega)]
        · rw [if_neg w, if_neg (by omega)]
  · rintro s ⟨f, rfl, hf⟩
    simp (disch := omega) only [cd_474_114, cq_474_114, nI_ltI, (show (28 : Int32) = nI 28 from rfl), Nat.lt_irrefl, nI_1, not_false_eq_true, not_true_eq_false, if_true, if_false, true_implies, false_implies, implies_true, and_true, true_and]
    exact ⟨_, rfl, f, rfl, hf⟩
theorem r_app {a us gn : Nat} {z : Int32} (ha : a < 2) (hgc : gc ≤ 16) (hus : us + gc ≤ 200) (h7 : N.1 232 137 = 0) (h33 : N.1 232 133 = nI a) (h34 : N.2 232 134 = lN gn) (h35 : N.1 232 135 = nI us) (h36 : N.1 232 136 = z) (h39 : N.1 232 139 = nI gc) (hg : ∀ i, i < gc → N.1 333 i = nI (gk i) ∧ gk i < 135) (henc : ∀ i, i < gc → encR N x (gk i)) (hx : ∀ k j, x k j < 256) (hkb : ∀ k, k < 135 → kt k = true → ∀ j, j < 28 → N.1 331 (28 * k + j) = by8 (kb k j)) (hkt : ∀ k, k < 135 → N.1 330 k = nI (b1 (kt k))) (hd : r_dk d N) :
    cp_474_34 0 N ∧ ∃ K, cf_474_34 0 N = ((ap gk gc x a us (lN gn) d z gc).2.2, K) ∧ r_dk (ap gk gc x a us (lN gn) d z gc).1 K ∧ rdf N K ∧
      ((ap gk gc x a us (lN gn) d z gc).2.2 = true → K.1 232 = upd (upd (N.1 232) 136 (ap gk gc x a us (lN gn) d z gc).2.1) 135 (nI (us + gc)) ∧ K.2 = N.2 ∧ (∀ k, k < 135 → gkt gk kt gc k = true → ∀ j, j < 28 → K.1 331 (28 * k + j) = by8 (gkb gk x kb gc k j)) ∧ ∀ k, k < 135 → K.1 330 k = nI (b1 (gkt gk kt gc k))) ∧
      ((ap gk gc x a us (lN gn) d z gc).2.2 = false → K.1 232 137 = 1) := by
  refine mz_lpn (f := cq_474_34) (P := cd_474_34) (Q := fun t => ∃ K, t = ((ap gk gc x a us (lN gn) d z gc).2.2, K) ∧ r_dk (ap gk gc x a us (lN gn) d z gc).1 K ∧ rdf N K ∧ ((ap gk gc x a us (lN gn) d z gc).2.2 = true → K.1 232 = upd (upd (N.1 232) 136 (ap gk gc x a us (lN gn) d z gc).2.1) 135 (nI (us + gc)) ∧ K.2 = N.2 ∧ (∀ k, k < 135 → gkt gk kt gc k = true → ∀ j, j < 28 → K.1 331 (28 * k + j) = by8 (gkb gk x kb gc k j)) ∧ ∀ k, k < 135 → K.1 330 k = nI (b1 (gkt gk kt gc k))) ∧ ((ap gk gc x a us (lN gn) d z gc).2.2 = false → K.1 232 137 = 1)) gc
    (fun i s => ∃ M, s = (nI i, M) ∧ (ap gk gc x a us (lN gn) d z i).2.2 = true ∧ fr [232, 329, 330, 331, 332, 341] N M ∧ r_dk (ap gk gc x a us (lN gn) d z i).1 M ∧ M.1 232 = upd (N.1 232) 136 (ap gk gc x a us (lN gn) d z i).2.1 ∧ (∀ k, k < 135 → gkt gk kt i k = true → ∀ j, j < 28 → M.1 331 (28 * k + j) = by8 (gkb gk x kb i k j)) ∧ ∀ k, k < 135 → M.1 330 k = nI (b1 (gkt gk kt i k))) ?_ ?_ (Nat.zero_le _) ⟨N, rfl, rfl, fr_refl _ _, hd, ?_, hkb, hkt⟩
  · rintro i s hi ⟨M, rfl, hok, m1, m2, m3, m4, m5⟩
    obtain ⟨g1, g2⟩ := hg i hi
    have e := ap_s (gk := gk) (gc := gc) (x := x) (a := a) (us := us) (g := lN gn) (d := d) (z := z) (i := i)
    have st := ap_stay (gk := gk) (gc := gc) (x := x) (a := a) (us := us) (g := lN gn) (d := d) (z := z) (k := i + 1)
    generalize hS : ap gk gc x a us (lN gn) d z i = S at *
    have e1 : ap_1 gk gc x a us (lN gn) i S = (dkw S.1 a (us + i) (rw0 (kdk (gk i)) (ixk (gk i)) (decide (i + 1 = gc)) (us + i) (lN gn) (x (gk i))) (decide (S.2.1 ≠ 0)), fus1 S.2.1, decide (S.2.1 ≠ 0)) := by
      unfold ap_1; rw [if_pos hok]
    rw [e1] at e
    have hrdf : rdf N M := ⟨fun c hc => m1.1 c hc, fun f _ _ h3 _ => by rw [m3, up_a, if_neg h3], fun c _ => by rw [m1.2], fun f _ => by rw [m1.2]⟩
    obtain ⟨n1, f, n2, n3⟩ := henc i hi M hrdf
    have e33 : mz_gI M 333 (nI i) = nI (gk i) := by rw [gI_a, nI_clamp (by omega), m1.1 333 rfl]; exact g1
    have k39 : M.1 232 139 = nI gc := by rw [m3, up_a, if_neg (by decide)]; exact h39
    have k39b : (mz_sI M 332 f).1 232 139 = nI gc := by rw [sI_n (by decide)]; exact k39
    have k33 : (mz_sI M 332 f).1 232 133 = nI a := by rw [sI_n (by decide), m3, up_a, if_neg (by decide)]; exact h33
    have k35 : (mz_sI M 332 f).1 232 135 = nI us := by rw [sI_n (by decide), m3, up_a, if_neg (by decide)]; exact h35
    have k34 : (mz_sI M 332 f).2 232 134 = lN gn := by rw [sI_2, m1.2]; exact h34
    have k36 : M.1 232 136 = S.2.1 := by rw [m3, up_a, if_pos rfl]
    have k37 : M.1 232 137 = 0 := by rw [m3, up_a, if_neg (by decide)]; exact h7
    obtain ⟨kd1, kd2⟩ := kd_r g2
    have ix2 := ix_r g2
    obtain ⟨q1, q2, q3, q4, q5, -⟩ := kdk_ok (gk i) g2
    obtain ⟨r1, K, r2, r332, r3, r4⟩ := r_row (N := M) (d := S.1) (a := a) (n := us + i) (kd := kdk (gk i)) (ix := ixk (gk i)) (la := decide (i + 1 = gc)) (g := lN gn) (z := S.2.1) (pay := x (gk i)) (M := M) (f := f) ha (by omega) (by omega) (by omega) k37 ⟨fr_refl _ _, m2, by
        funext k; rw [up_a]; by_cases w : k = 136
        · rw [if_pos w, w, k36]
        · rw [if_neg w]⟩ n3 (hx _)
    have hlast : (nI i = nI gc - 1) ↔ (i + 1 = gc) := by
      rw [show (1 : Int32) = nI 1 from rfl, pk_sub (by omega), nI_eq (by omega) (by omega)]; omega
    obtain ⟨c1, f31, c2, c3⟩ := r_copy (M := mz_wI K 330 (nI (gk i)) (mz_b01 true)) (i := i) (k := gk i) (pay := x (gk i)) g2 (fun j hj => by rw [wI_s, sI_n (by decide), r332]; exact n3 j hj)
    have e93 : cp_474_93 (nI a) (nI (us + i)) (nI (kdk (gk i))) (nI (ixk (gk i))) (decide (i + 1 = gc)) (nI i) (nI (gk i)) (mz_sI M 332 f) ∧ cf_474_93 (nI a) (nI (us + i)) (nI (kdk (gk i))) (nI (ixk (gk i))) (decide (i + 1 = gc)) (nI i) (nI (gk i)) (mz_sI M 332 f) = (if S.2.1 = 0 then .inr (false, K) else .inl (nI (i + 1), mz_sI (mz_wI K 330 (nI (gk i)) (mz_b01 true)) 331 f31)) := by
      rw [cp_474_93, cf_474_93, k34, r2]
      by_cases h0 : S.2.1 = 0
      · simp only [h0, ne_eq, not_true_eq_false, decide_false, Bool.false_eq_true, not_false_eq_true, not_true_eq_false, if_true, if_false, true_implies, false_implies, implies_true, and_true, true_and]
        exact r1
      · simp only [h0, ne_eq, c1, c2, decide_true, not_false_eq_true, not_true_eq_false, if_true, if_false, true_implies, false_implies, implies_true, and_true, true_and]
        exact ⟨r1, ib_n g2 (by omega)⟩
    have hst2 : cd_474_34 (nI i, M) ∧ cq_474_34 (nI i, M) = (if S.2.1 = 0 then .inr (false, K) else .inl (nI (i + 1), mz_sI (mz_wI K 330 (nI (gk i)) (mz_b01 true)) 331 f31)) := by
      by_cases hl : i + 1 = gc
      · rw [decide_eq_true hl] at e93
        simp (disch := omega) only [cd_474_34, cq_474_34, nI_ltI, k39, hi, e33, n1, n2, k39b, k33, k35, nI_add, kd1, kd2, ix2, hlast, hl, e93, ib_i, not_false_eq_true, not_true_eq_false, if_true, if_false, true_implies, false_implies, implies_true, and_true, true_and]
        omega
      · rw [decide_eq_false hl] at e93
        simp (disch := omega) only [cd_474_34, cq_474_34, nI_ltI, k39, hi, e33, n1, n2, k39b, k33, k35, nI_add, kd1, kd2, ix2, hlast, hl, e93, ib_i, not_false_eq_true, not_true_eq_false, if_true, if_false, true_implies, false_implies, implies_true, and_true, true_and]
        omega
    refine ⟨hst2.1, ?_⟩
    by_cases h0 : S.2.1 = 0
    · rw [if_pos h0] at hst2
      rw [show decide (S.2.1 ≠ 0) = false from decide_eq_false (fun w => w h0)] at e
      obtain ⟨x1, x2, x3⟩ := r4 h0
      have hfin := st (by rw [e]) gc (by omega)
      refine Or.inr ⟨_, hst2.2, K, ?_, ?_, ?_, fun w => ?_, fun _ => ?_⟩
      · rw [hfin, e]
      · rw [hfin, e]; exact x2
      · refine rdf_trans hrdf ⟨fun c hc => (fr_sub (B := [232, 329, 330, 331, 332, 341]) x1 rfl).1 c hc, fun f _ _ h3 h4 => ?_, fun c _ => by rw [x1.2], fun f _ => by rw [x1.2]⟩
        rw [x3, up_a, if_neg h4, up_a, if_neg h3]
      · rw [hfin, e] at w; cases w
      · rw [x3, up_a, if_pos rfl]
    · rw [if_neg h0] at hst2
      rw [show decide (S.2.1 ≠ 0) = true from decide_eq_true h0] at e
      obtain ⟨x1, x2, x3⟩ := r3 h0
      refine Or.inl ⟨_, hst2.2, _, rfl, by rw [e], ?_, ?_, ?_, ?_, ?_⟩
      · exact fr_sI (fr_wI (fr_trans m1 (fr_sub x1 rfl)) rfl) rfl
      · rw [e]; intro a' ha' j hj; rw [sI_n (by decide), wI_s, sI_n (by decide)]; exact x2 a' ha' j hj
      · rw [sI_n (by decide), wI_s, sI_n (by decide), x3, m3, e]
        funext k
        simp only [up_a]
        by_cases w : k = 136
        · simp [w]
        · simp [w]
      · intro k hk hkt2 j hj
        rw [sI_e, c3, wI_s, sI_n (by decide), gkb, up_d]
        by_cases w : k = gk i
        · rw [if_pos (by omega), if_pos w, show 28 * k + j - 28 * gk i = j by omega]
        · rw [if_neg (by omega), if_neg w, x1.1 331 rfl]
          rw [gkt, up_d, if_neg w] at hkt2
          exact m4 k hk hkt2 j hj
      · intro k hk
        rw [sI_n (by decide), wI_s, sI_e, nI_clamp (by omega), up_a, gkt, up_d]
        by_cases w : k = gk i
        · rw [if_pos w, if_pos w]; rfl
        · rw [if_neg w, if_neg w, x1.1 330 rfl]; exact m5 k hk
  · rintro s ⟨M, rfl, hok, m1, m2, m3, m4, m5⟩
    have k39 : M.1 232 139 = nI gc := by rw [m3, up_a, if_neg (by decide)]; exact h39
    have k35 : M.1 232 135 = nI us := by rw [m3, up_a, if_neg (by decide)]; exact h35
    simp (disch := omega) only [cd_474_34, cq_474_34, nI_ltI, k39, k35, nI_add, Nat.lt_irrefl, not_false_eq_true, not_true_eq_false, if_true, if_false, true_implies, false_implies, implies_true, and_true, true_and]
    refine ⟨_, rfl, _, by rw [hok], ?_, ?_, fun _ => ⟨?_, ?_, ?_, ?_⟩, fun w => ?_⟩
    · intro a' ha' j hj; rw [pI_s, sI_n (by decide)]; exact m2 a' ha' j hj
    · refine ⟨fun c hc => ?_, fun f _ h2 h3 _ => ?_, fun c _ => by rw [pI_s, sI_2, m1.2], fun f _ => by rw [pI_s, sI_2, m1.2]⟩
      · rw [pI_s, sI_n (fun w => by rw [w] at hc; cases hc)]; exact m1.1 c hc
      · rw [pI_s, sI_e, up_a, if_neg h2, m3, up_a, if_neg h3]
    · rw [pI_s, sI_e, m3]
    · rw [pI_s, sI_2, m1.2]
    · intro k hk hkt2 j hj; rw [pI_s, sI_n (by decide)]; exact m4 k hk hkt2 j hj
    · intro k hk; rw [pI_s, sI_n (by decide)]; exact m5 k hk
    · rw [hok] at w; cases w
  · funext k
    rw [up_a]
    by_cases w : k = 136
    · rw [if_pos w, w]; exact h36
    · rw [if_neg w]
end Apr
