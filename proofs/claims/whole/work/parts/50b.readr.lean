/-! PURE (50b): the reference reads its keys. -/
/-- a loop that fills a range of a cell -/
theorem lp_fill {β : Type} [Nonempty β] {f : Int32 × mz_N → (Int32 × mz_N) ⊕ β} {P : Int32 × mz_N → Prop} {N : mz_N} (c base n : Nat) (val : Nat → Int32) (R : mz_N → β) (hb : base + n < 2 ^ 31)
    (hs : ∀ t, t < n → ∀ g, P (nI t, mz_sI N c g) ∧ f (nI t, mz_sI N c g) = .inl (nI (t + 1), mz_wI (mz_sI N c g) c (nI (base + t)) (val t)))
    (he : ∀ g, P (nI n, mz_sI N c g) ∧ f (nI n, mz_sI N c g) = .inr (R (mz_sI N c g))) :
    (∃ m, mz_ok f P m (0, N)) ∧ ∃ g, mz_run f (0, N) = R (mz_sI N c g) ∧ ∀ j, g j = if base ≤ j ∧ j < base + n then val (j - base) else N.1 c j := by
  refine mz_lpn (f := f) (P := P) (Q := fun t => ∃ g, t = R (mz_sI N c g) ∧ ∀ j, g j = if base ≤ j ∧ j < base + n then val (j - base) else N.1 c j) n (fun t s => ∃ g, s = (nI t, mz_sI N c g) ∧ ∀ j, g j = if base ≤ j ∧ j < base + t then val (j - base) else N.1 c j) ?_ ?_ (Nat.zero_le _) ⟨N.1 c, by rw [sI_same]; rfl, fun j => by rw [if_neg (by omega)]⟩
  · rintro t s ht ⟨g, rfl, hg⟩
    obtain ⟨h1, h2⟩ := hs t ht g
    refine ⟨h1, Or.inl ⟨_, h2, upd g (base + t) (val t), ?_, ?_⟩⟩
    · rw [wI_s, sI_e, sI_sI, nI_clamp (by omega)]
    · intro j
      rw [up_a, hg]
      by_cases y : j = base + t
      · rw [if_pos y, if_pos (by omega), y, Nat.add_sub_cancel_left]
      · rw [if_neg y]
        by_cases w : base ≤ j ∧ j < base + t
        · rw [if_pos w, if_pos (by omega)]
        · rw [if_neg w, if_neg (by omega)]
  · rintro s ⟨g, rfl, hg⟩
    obtain ⟨h1, h2⟩ := he g
    exact ⟨h1, _, h2, g, rfl, hg⟩
def rdA : List Nat := [233, 234, 244, 245, 246, 252, 232, 247, 248, 249, 250, 306, 307, 287, 288, 289, 290, 293, 308, 309, 310, 311, 312, 313, 314, 315, 282, 283, 284]
def rdB : List Nat := [321, 322, 323, 324, 325, 305, 291, 292, 232]
/-- nobody at a ticket -/
def r_ks (N : mz_N) (H : Kp) : Prop := ∀ j, j < 16 → H.1 8 j = 1 → N.1 293 j = -1
/-- what a reading gives -/
def r_dr (N M : mz_N) (H G : Kp) (kd ix : Nat) : Prop := fq rdA rdB N M ∧ r_kp M (dec H G kd ix) ∧ r_ks M (dec H G kd ix) ∧ (∀ f, f ≠ 27 → f ≠ 21 → M.1 232 f = N.1 232 f) ∧ ∀ f, [2, 122, 123, 124, 125].contains f = false → M.2 232 f = N.2 232 f
section Drc
variable {N : mz_N} {k ix : Nat} {H G : Kp}
theorem d1_r (hk : k < 135) (hix : ix < 5) (hb : kpb G) (h : by4 N k (kx G 1 ix)) (hn : r_kp N H) (hs : r_ks N H) : cp_421_47 (nI ix) (nI (28 * k)) 0 N ∧ r_dr N (cf_421_47 (nI ix) (nI (28 * k)) 0 N) H G 1 ix := by
  obtain ⟨k1, k2, k3, k4, k5, k6, k6b, k7, k8, k8b, k9, k10, k11, k12, k13, k14, k15⟩ := hn
  obtain ⟨p1, g, p2, p3⟩ := lp_fill (f := cq_421_47 (nI ix) (nI (28 * k))) (P := cd_421_47 (nI ix) (nI (28 * k))) (N := N) 233 (110 * ix) 110 (fun t => nI (G.1 0 (110 * ix + t))) id (by omega) (fun t ht g => by
    have e4 : nI t / 4 = nI (t / 4) := by rw [show (4 : Int32) = nI 4 from rfl, pk_div (by omega) (by omega) (by omega)]
    have e5 : 2 * mz_irem (nI t) 4 = nI (2 * (t % 4)) := by rw [show (4 : Int32) = nI 4 from rfl, show (2 : Int32) = nI 2 from rfl, irem_n (by omega) (by omega) (by omega), pk_mul]
    have e6 : 110 * nI ix + nI t = nI (110 * ix + t) := by rw [show (110 : Int32) = nI 110 from rfl, pk_mul, nI_add]
    have h2 : by4 (mz_sI N 233 g) k (kx G 1 ix) := h
    obtain ⟨q1, q2⟩ := ra1 (p := t / 4) h2 hk (by omega)
    have hx := ex_3 (kx G 1 ix (t / 4)) (h (t / 4) (by omega)).2 (2 * (t % 4)) (by omega)
    have ho : kx G 1 ix (t / 4) >>> (2 * (t % 4)) % 2 ^ 2 = G.1 0 (110 * ix + t) := orp_at (w := 4) (m := 2) (f := fun t => G.1 0 (110 * ix + t)) (n := 110) (Or.inl ⟨rfl, rfl⟩) (fun t => hb.1 _) ht
    have hlt : nI t < 110 := (nI_ltI (b := 110) (by omega) (by omega)).mpr ht
    rw [cd_421_47, cq_421_47]
    simp only [hlt, if_true, e4, e5, e6, q2, hx, ho, cf_421_84, cp_421_84, nI_1]
    exact ⟨⟨fun _ => ⟨q1, ib_n (by omega) (by omega), trivial⟩, fun w => absurd trivial w⟩, trivial⟩) (fun g => by
    have hlt : ¬ nI 110 < 110 := by decide
    rw [cd_421_47, cq_421_47]
    simp only [hlt, if_false]
    exact ⟨⟨False.elim, fun _ => trivial⟩, rfl⟩)
  refine ⟨p1, ?_⟩
  rw [show cf_421_47 (nI ix) (nI (28 * k)) 0 N = mz_sI N 233 g from p2]
  refine ⟨fq_sI (fq_refl _ _ _) rfl, ⟨fun j hj => ?_, k2, k3, k4, k5, k6, k6b, k7, k8, k8b, k9, k10, k11, k12, k13, k14, k15⟩, hs, fun _ _ _ => rfl, fun _ _ => rfl⟩
  show (mz_sI N 233 g).1 233 j = nI (rg (110 * ix) 110 (G.1 0) (H.1 0) j)
  rw [sI_e, p3]
  unfold rg
  by_cases w : 110 * ix ≤ j ∧ j < 110 * ix + 110
  · rw [if_pos w, if_pos w, Nat.add_sub_cancel' w.1]
  · rw [if_neg w, if_neg w]; exact k1 j hj
theorem d2_r (hk : k < 135) (hix : ix < 5) (hb : kpb G) (h : by4 N k (kx G 2 ix)) (hn : r_kp N H) (hs : r_ks N H) : cp_421_96 (nI ix) (nI (28 * k)) 0 N ∧ r_dr N (cf_421_96 (nI ix) (nI (28 * k)) 0 N) H G 2 ix := by
  obtain ⟨k1, k2, k3, k4, k5, k6, k6b, k7, k8, k8b, k9, k10, k11, k12, k13, k14, k15⟩ := hn
  obtain ⟨p1, g, p2, p3⟩ := lp_fill (f := cq_421_96 (nI ix) (nI (28 * k))) (P := cd_421_96 (nI ix) (nI (28 * k))) (N := N) 234 (48 * ix) 48 (fun t => nI (G.1 1 (48 * ix + t))) id (by omega) (fun t ht g => by
    have e4 : nI t / 2 = nI (t / 2) := by rw [show (2 : Int32) = nI 2 from rfl, pk_div (by omega) (by omega) (by omega)]
    have e5 : 4 * mz_irem (nI t) 2 = nI (4 * (t % 2)) := by rw [show (4 : Int32) = nI 4 from rfl, show (2 : Int32) = nI 2 from rfl, irem_n (by omega) (by omega) (by omega), pk_mul]
    have e6 : 48 * nI ix + nI t = nI (48 * ix + t) := by rw [show (48 : Int32) = nI 48 from rfl, pk_mul, nI_add]
    have h2 : by4 (mz_sI N 234 g) k (kx G 2 ix) := h
    obtain ⟨q1, q2⟩ := ra1 (p := t / 2) h2 hk (by omega)
    have hx := ex_15 (kx G 2 ix (t / 2)) (h (t / 2) (by omega)).2 (4 * (t % 2)) (by omega)
    have ho : kx G 2 ix (t / 2) >>> (4 * (t % 2)) % 2 ^ 4 = G.1 1 (48 * ix + t) := orp_at (w := 2) (m := 4) (f := fun t => G.1 1 (48 * ix + t)) (n := 48) (Or.inr ⟨rfl, rfl⟩) (fun t => hb.2.1 _) ht
    have hlt : nI t < 48 := (nI_ltI (b := 48) (by omega) (by omega)).mpr ht
    rw [cd_421_96, cq_421_96]
    simp only [hlt, if_true, e4, e5, e6, q2, hx, ho, cf_421_134, cp_421_134, nI_1]
    exact ⟨⟨fun _ => ⟨q1, ib_n (by omega) (by omega), trivial⟩, fun w => absurd trivial w⟩, trivial⟩) (fun g => by
    have hlt : ¬ nI 48 < 48 := by decide
    rw [cd_421_96, cq_421_96]
    simp only [hlt, if_false]
    exact ⟨⟨False.elim, fun _ => trivial⟩, rfl⟩)
  refine ⟨p1, ?_⟩
  rw [show cf_421_96 (nI ix) (nI (28 * k)) 0 N = mz_sI N 234 g from p2]
  refine ⟨fq_sI (fq_refl _ _ _) rfl, ⟨k1, fun j hj => ?_, k3, k4, k5, k6, k6b, k7, k8, k8b, k9, k10, k11, k12, k13, k14, k15⟩, hs, fun _ _ _ => rfl, fun _ _ => rfl⟩
  show (mz_sI N 234 g).1 234 j = nI (rg (48 * ix) 48 (G.1 1) (H.1 1) j)
  rw [sI_e, p3]
  unfold rg
  by_cases w : 48 * ix ≤ j ∧ j < 48 * ix + 48
  · rw [if_pos w, if_pos w, Nat.add_sub_cancel' w.1]
  · rw [if_neg w, if_neg w]; exact k2 j hj
theorem d3_r (hk : k < 135) (hix : ix < 10) (h : by4 N k (kx G 3 ix)) (hn : r_kp N H) (hs : r_ks N H) : cp_421_146 (nI ix) (nI (28 * k)) 0 N ∧ r_dr N (cf_421_146 (nI ix) (nI (28 * k)) 0 N) H G 3 ix := by
  obtain ⟨k1, k2, k3, k4, k5, k6, k6b, k7, k8, k8b, k9, k10, k11, k12, k13, k14, k15⟩ := hn
  obtain ⟨p1, g, p2, p3⟩ := lp_fill (f := cq_421_146 (nI ix) (nI (28 * k))) (P := cd_421_146 (nI ix) (nI (28 * k))) (N := N) 244 (24 * ix) 24 (fun t => nI (G.1 2 (24 * ix + t))) id (by omega) (fun t ht g => by
    have e6 : 24 * nI ix + nI t = nI (24 * ix + t) := by rw [show (24 : Int32) = nI 24 from rfl, pk_mul, nI_add]
    have h2 : by4 (mz_sI N 244 g) k (kx G 3 ix) := h
    obtain ⟨q1, q2⟩ := ra1 (p := t) h2 hk (by omega)
    have ho : kx G 3 ix t = G.1 2 (24 * ix + t) := if_pos ht
    have hlt : nI t < 24 := (nI_ltI (b := 24) (by omega) (by omega)).mpr ht
    rw [cd_421_146, cq_421_146]
    simp only [hlt, if_true, e6, q2, ho, nI_1]
    exact ⟨⟨fun _ => ⟨q1, ib_n (by omega) (by omega)⟩, fun w => absurd trivial w⟩, trivial⟩) (fun g => by
    have hlt : ¬ nI 24 < 24 := by decide
    rw [cd_421_146, cq_421_146]
    simp only [hlt, if_false]
    exact ⟨⟨False.elim, fun _ => trivial⟩, rfl⟩)
  refine ⟨p1, ?_⟩
  rw [show cf_421_146 (nI ix) (nI (28 * k)) 0 N = mz_sI N 244 g from p2]
  refine ⟨fq_sI (fq_refl _ _ _) rfl, ⟨k1, k2, fun j hj => ?_, k4, k5, k6, k6b, k7, k8, k8b, k9, k10, k11, k12, k13, k14, k15⟩, hs, fun _ _ _ => rfl, fun _ _ => rfl⟩
  show (mz_sI N 244 g).1 244 j = nI (rg (24 * ix) 24 (G.1 2) (H.1 2) j)
  rw [sI_e, p3]
  unfold rg
  by_cases w : 24 * ix ≤ j ∧ j < 24 * ix + 24
  · rw [if_pos w, if_pos w, Nat.add_sub_cancel' w.1]
  · rw [if_neg w, if_neg w]; exact k3 j hj
theorem d5_r (hk : k < 135) (hix : ix < 4) (h : by4 N k (kx G 5 ix)) (hn : r_kp N H) (hs : r_ks N H) : cp_421_231 (nI ix) (nI (28 * k)) 0 N ∧ r_dr N (cf_421_231 (nI ix) (nI (28 * k)) 0 N) H G 5 ix := by
  obtain ⟨k1, k2, k3, k4, k5, k6, k6b, k7, k8, k8b, k9, k10, k11, k12, k13, k14, k15⟩ := hn
  obtain ⟨p1, g, p2, p3⟩ := lp_fill (f := cq_421_231 (nI ix) (nI (28 * k))) (P := cd_421_231 (nI ix) (nI (28 * k))) (N := N) 246 (24 * ix) 24 (fun t => nI (G.1 3 (24 * ix + t))) id (by omega) (fun t ht g => by
    have e6 : 24 * nI ix + nI t = nI (24 * ix + t) := by rw [show (24 : Int32) = nI 24 from rfl, pk_mul, nI_add]
    have h2 : by4 (mz_sI N 246 g) k (kx G 5 ix) := h
    obtain ⟨q1, q2⟩ := ra1 (p := t) h2 hk (by omega)
    have ho : kx G 5 ix t = G.1 3 (24 * ix + t) := if_pos ht
    have hlt : nI t < 24 := (nI_ltI (b := 24) (by omega) (by omega)).mpr ht
    rw [cd_421_231, cq_421_231]
    simp only [hlt, if_true, e6, q2, ho, nI_1]
    exact ⟨⟨fun _ => ⟨q1, ib_n (by omega) (by omega)⟩, fun w => absurd trivial w⟩, trivial⟩) (fun g => by
    have hlt : ¬ nI 24 < 24 := by decide
    rw [cd_421_231, cq_421_231]
    simp only [hlt, if_false]
    exact ⟨⟨False.elim, fun _ => trivial⟩, rfl⟩)
  refine ⟨p1, ?_⟩
  rw [show cf_421_231 (nI ix) (nI (28 * k)) 0 N = mz_sI N 246 g from p2]
  refine ⟨fq_sI (fq_refl _ _ _) rfl, ⟨k1, k2, k3, k4, fun j hj => ?_, k6, k6b, k7, k8, k8b, k9, k10, k11, k12, k13, k14, k15⟩, hs, fun _ _ _ => rfl, fun _ _ => rfl⟩
  show (mz_sI N 246 g).1 246 j = nI (rg (24 * ix) 24 (G.1 3) (H.1 3) j)
  rw [sI_e, p3]
  unfold rg
  by_cases w : 24 * ix ≤ j ∧ j < 24 * ix + 24
  · rw [if_pos w, if_pos w, Nat.add_sub_cancel' w.1]
  · rw [if_neg w, if_neg w]; exact k5 j hj
theorem d4_r (hk : k < 135) (hix : ix < 2) (hl : kpl G 4 ix) (h : by4 N k (kx G 4 ix)) (hn : r_kp N H) (hs : r_ks N H) : cp_421_184 (nI ix) (nI (28 * k)) 0 N ∧ r_dr N (cf_421_184 (nI ix) (nI (28 * k)) 0 N) H G 4 ix := by
  obtain ⟨k1, k2, k3, k4, k5, k6, k6b, k7, k8, k8b, k9, k10, k11, k12, k13, k14, k15⟩ := hn
  obtain ⟨p1, g, p2, p3⟩ := lp_fill (f := cq_421_184 (nI ix) (nI (28 * k))) (P := cd_421_184 (nI ix) (nI (28 * k))) (N := N) 245 (12 * ix) 12 (fun t => G.2.1 0 (12 * ix + t)) id (by omega) (fun t ht g => by
    have e6 : 12 * nI ix + nI t = nI (12 * ix + t) := by rw [show (12 : Int32) = nI 12 from rfl, pk_mul, nI_add]
    have e1 : nI (28 * k) + 2 * nI t = nI (28 * k + 2 * t) := by rw [show (2 : Int32) = nI 2 from rfl, pk_mul, nI_add]
    have h2 : by4 (mz_sI N 245 g) k (kx G 4 ix) := h
    obtain ⟨q1, q2⟩ := ra8 (p := 2 * t) (n := 2) (v := (G.2.1 0 (12 * ix + t)).toInt64) h2 hk (by omega) (by omega) (fun i hi => by rw [show kx G 4 ix = wrd (fun t => (G.2.1 0 (12 * ix + t)).toInt64) 12 from rfl, wrd_at ht i hi])
    have q1' : cp_423_0 331 3780 (nI (28 * k + 2 * t)) 2 (mz_sI N 245 g) := q1
    have q2' : mz_i2s ((cf_423_0 331 3780 (nI (28 * k + 2 * t)) 2 (mz_sI N 245 g)).toInt32) = G.2.1 0 (12 * ix + t) := by
      rw [show cf_423_0 331 3780 (nI (28 * k + 2 * t)) 2 (mz_sI N 245 g) = lN (uv (G.2.1 0 (12 * ix + t)).toInt64 % 2 ^ 16) from q2, lN_i]
      unfold mz_i2s
      rw [rv2]
      exact hl.1 rfl t ht
    have hlt : nI t < 12 := (nI_ltI (b := 12) (by omega) (by omega)).mpr ht
    rw [cd_421_184, cq_421_184]
    simp only [hlt, if_true, e1, e6, q2', cf_421_219, cp_421_219, nI_1]
    exact ⟨⟨fun _ => ⟨q1', ib_n (by omega) (by omega), trivial⟩, fun w => absurd trivial w⟩, trivial⟩) (fun g => by
    have hlt : ¬ nI 12 < 12 := by decide
    rw [cd_421_184, cq_421_184]
    simp only [hlt, if_false]
    exact ⟨⟨False.elim, fun _ => trivial⟩, rfl⟩)
  refine ⟨p1, ?_⟩
  rw [show cf_421_184 (nI ix) (nI (28 * k)) 0 N = mz_sI N 245 g from p2]
  refine ⟨fq_sI (fq_refl _ _ _) rfl, ⟨k1, k2, k3, fun j hj => ?_, k5, k6, k6b, k7, k8, k8b, k9, k10, k11, k12, k13, k14, k15⟩, hs, fun _ _ _ => rfl, fun _ _ => rfl⟩
  show (mz_sI N 245 g).1 245 j = rg (12 * ix) 12 (G.2.1 0) (H.2.1 0) j
  rw [sI_e, p3]
  unfold rg
  by_cases w : 12 * ix ≤ j ∧ j < 12 * ix + 12
  · rw [if_pos w, if_pos w, Nat.add_sub_cancel' w.1]
  · rw [if_neg w, if_neg w]; exact k4 j hj
theorem d6_r (hk : k < 135) (hix : ix < 8) (h : by4 N k (kx G 6 ix)) (hn : r_kp N H) (hs : r_ks N H) : cp_421_269 (nI ix) (nI (28 * k)) 0 N ∧ r_dr N (cf_421_269 (nI ix) (nI (28 * k)) 0 N) H G 6 ix := by
  obtain ⟨k1, k2, k3, k4, k5, k6, k6b, k7, k8, k8b, k9, k10, k11, k12, k13, k14, k15⟩ := hn
  have e : dec H G 6 ix = if ix = 7 then (up H.1 5 (up (H.1 5) 0 (G.1 5 0)), H.2) else (up H.1 4 (rg (28 * ix) 28 (G.1 4) (H.1 4)), H.2) := rfl
  unfold r_dr
  rw [e]
  by_cases w7 : ix = 7
  · rw [if_pos w7]
    subst w7
    obtain ⟨q1, q2⟩ := ra1 (p := 0) h hk (by omega)
    have q1' : cp_422_0 (nI (28 * k)) 0 N := q1
    have q2' : cf_422_0 (nI (28 * k)) 0 N = nI (G.1 5 0) := q2
    have key : cp_421_269 (nI 7) (nI (28 * k)) 0 N ∧ cf_421_269 (nI 7) (nI (28 * k)) 0 N = mz_pI N 232 27 (nI (G.1 5 0)) := by
      refine mz_lpn (f := cq_421_269 (nI 7) (nI (28 * k))) (P := cd_421_269 (nI 7) (nI (28 * k))) (Q := fun t => t = mz_pI N 232 27 (nI (G.1 5 0))) 0 (fun t s => s = (nI t, N)) ?_ ?_ (Nat.zero_le _) rfl
      · intro t s ht; omega
      · rintro s rfl
        have hlt : nI 0 < 28 := by decide
        have h7 : ¬ nI 7 < 7 := by decide
        have e7 : nI 7 = 7 := rfl
        rw [cd_421_269, cq_421_269]
        simp only [hlt, h7, if_true, if_false]
        rw [cf_421_307, if_pos e7, cf_421_327, q2']
        exact ⟨⟨fun _ => ⟨False.elim, fun _ => ⟨fun _ => ⟨q1', trivial⟩, fun q => absurd e7 q⟩⟩, fun q => absurd trivial q⟩, _, rfl, rfl⟩
    refine ⟨key.1, ?_⟩
    rw [key.2]
    exact ⟨fq_pI (fq_refl _ _ _) rfl, ⟨k1, k2, k3, k4, k5, rfl, k6b, k7, k8, k8b, k9, k10, k11, k12, k13, k14, k15⟩, hs, fun f f1 f2 => by rw [pI_s, sI_e, up_a, if_neg f1], fun _ _ => rfl⟩
  · rw [if_neg w7]
    have n7 : ¬ nI ix = 7 := fun q => w7 ((nI_eq (b := 7) (by omega) (by omega)).mp q)
    have l7 : nI ix < 7 := (nI_ltI (b := 7) (by omega) (by omega)).mpr (by omega)
    have ek : kx G 6 ix = cut 28 (fun t => G.1 4 (28 * ix + t)) := by
      show (if ix = 7 then up (fun _ => 0) 0 (G.1 5 0) else cut 28 (fun t => G.1 4 (28 * ix + t))) = _
      rw [if_neg w7]
    have e307 : ∀ M, cf_421_307 (nI ix) (nI (28 * k)) M = M := fun M => by
      rw [cf_421_307, if_neg n7, cf_421_327, pI_s]
      rw [show upd (M.1 232) 27 (M.1 232 27) = M.1 232 from funext fun j => by rw [up_a]; split <;> simp_all, sI_same]
    obtain ⟨p1, g, p2, p3⟩ := lp_fill (f := cq_421_269 (nI ix) (nI (28 * k))) (P := cd_421_269 (nI ix) (nI (28 * k))) (N := N) 252 (28 * ix) 28 (fun t => nI (G.1 4 (28 * ix + t))) id (by omega) (fun t ht g => by
      have e6 : 28 * nI ix + nI t = nI (28 * ix + t) := by rw [show (28 : Int32) = nI 28 from rfl, pk_mul, nI_add]
      have h2 : by4 (mz_sI N 252 g) k (kx G 6 ix) := h
      obtain ⟨q1, q2⟩ := ra1 (p := t) h2 hk (by omega)
      have ho : kx G 6 ix t = G.1 4 (28 * ix + t) := by rw [ek]; exact if_pos ht
      have hlt : nI t < 28 := (nI_ltI (b := 28) (by omega) (by omega)).mpr ht
      rw [cd_421_269, cq_421_269]
      simp only [hlt, l7, if_true, e6, q2, ho, nI_1]
      exact ⟨⟨fun _ => ⟨fun _ => ⟨q1, ib_n (by omega) (by omega)⟩, fun w => absurd trivial w⟩, fun w => absurd trivial w⟩, trivial⟩) (fun g => by
      have hlt : ¬ nI 28 < 28 := by decide
      rw [cd_421_269, cq_421_269]
      simp only [hlt, if_false, e307]
      exact ⟨⟨False.elim, fun _ => ⟨fun q => absurd q n7, fun _ => trivial⟩⟩, rfl⟩)
    refine ⟨p1, ?_⟩
    rw [show cf_421_269 (nI ix) (nI (28 * k)) 0 N = mz_sI N 252 g from p2]
    refine ⟨fq_sI (fq_refl _ _ _) rfl, ⟨k1, k2, k3, k4, k5, k6, fun j hj => ?_, k7, k8, k8b, k9, k10, k11, k12, k13, k14, k15⟩, hs, fun _ _ _ => rfl, fun _ _ => rfl⟩
    show (mz_sI N 252 g).1 252 j = nI (rg (28 * ix) 28 (G.1 4) (H.1 4) j)
    rw [sI_e, p3]
    unfold rg
    by_cases w : 28 * ix ≤ j ∧ j < 28 * ix + 28
    · rw [if_pos w, if_pos w, Nat.add_sub_cancel' w.1]
    · rw [if_neg w, if_neg w]; exact k6b j hj
end Drc
