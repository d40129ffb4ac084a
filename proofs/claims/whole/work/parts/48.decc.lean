/-! PURE (48): the class reads its keys. -/
section Dcc
variable {N : mz_N} {k ix : Nat} {H G : Kp} {nn : Nat}
theorem rde_c {a1 a3 q : Nat} {g : Nat → Nat} (ha : a1 ≠ a3) (hix : ix < 5) (hq : q + 28 ≤ 3780) (hs : ∀ j, j < 28 → N.1 a1 (q + j) = nI (g j) ∧ g j < 256) : cp_58_0 a1 a3 (nI ix) (nI q) N ∧ ∃ f, cf_58_0 a1 a3 (nI ix) (nI q) N = mz_sI N a3 f ∧ ∀ j, f j = if 110 * ix ≤ j ∧ j < 110 * ix + 110 then nI (g ((j - 110 * ix) / 4) >>> (2 * ((j - 110 * ix) % 4)) % 2 ^ 2) else N.1 a3 j := by
  show cp_58_3 a1 a3 (nI ix) (nI q) 0 N ∧ ∃ f, cf_58_3 a1 a3 (nI ix) (nI q) 0 N = mz_sI N a3 f ∧ _
  refine mz_lpn (f := cq_58_3 a1 a3 (nI ix) (nI q)) (P := cd_58_3 a1 a3 (nI ix) (nI q)) (Q := fun t => ∃ f, t = mz_sI N a3 f ∧ ∀ j, f j = if 110 * ix ≤ j ∧ j < 110 * ix + 110 then nI (g ((j - 110 * ix) / 4) >>> (2 * ((j - 110 * ix) % 4)) % 2 ^ 2) else N.1 a3 j) 110 (fun t s => ∃ f, s = (nI t, mz_sI N a3 f) ∧ ∀ j, f j = if 110 * ix ≤ j ∧ j < 110 * ix + t then nI (g ((j - 110 * ix) / 4) >>> (2 * ((j - 110 * ix) % 4)) % 2 ^ 2) else N.1 a3 j) ?_ ?_ (Nat.zero_le _) ⟨N.1 a3, by rw [sI_same]; rfl, fun j => by rw [if_neg (by omega)]⟩
  · rintro t s ht ⟨f, rfl, hf⟩
    have e4 : nI t / 4 = nI (t / 4) := by rw [show (4 : Int32) = nI 4 from rfl, pk_div (by omega) (by omega) (by omega)]
    have e5 : 2 * mz_irem (nI t) 4 = nI (2 * (t % 4)) := by rw [show (4 : Int32) = nI 4 from rfl, show (2 : Int32) = nI 2 from rfl, irem_n (by omega) (by omega) (by omega), pk_mul]
    have e6 : nI ix * 110 + nI t = nI (110 * ix + t) := by rw [show (110 : Int32) = nI 110 from rfl, pk_mul, nI_add, Nat.mul_comm]
    have g3 : mz_gI (mz_sI N a3 f) a1 (nI (q + t / 4)) = nI (g (t / 4)) := by rw [gI_a, sI_n ha, nI_clamp (by omega)]; exact (hs _ (by omega)).1
    have hx := ex_3 (g (t / 4)) (hs (t / 4) (by omega)).2 (2 * (t % 4)) (by omega)
    have hlt : nI t < 110 := (nI_ltI (b := 110) (by omega) (by omega)).mpr ht
    rw [cd_58_3, cq_58_3]
    simp only [hlt, if_true, e4, e5, e6, nI_add, g3, hx, cf_58_36, cp_58_36, nI_1]
    refine ⟨⟨fun _ => ⟨ib_n (by omega) (by omega), ib_n (by omega) (by omega), trivial⟩, fun w => absurd trivial w⟩, Or.inl ⟨_, rfl, upd f (110 * ix + t) (nI (g (t / 4) >>> (2 * (t % 4)) % 2 ^ 2)), ?_, ?_⟩⟩
    · rw [wI_s, sI_e, sI_sI, nI_clamp (by omega)]
    · intro j
      rw [up_a, hf]
      by_cases y : j = 110 * ix + t
      · rw [if_pos y, if_pos (by omega), y, Nat.add_sub_cancel_left]
      · rw [if_neg y]
        by_cases w : 110 * ix ≤ j ∧ j < 110 * ix + t
        · rw [if_pos w, if_pos (by omega)]
        · rw [if_neg w, if_neg (by omega)]
  · rintro s ⟨f, rfl, hf⟩
    have hlt : ¬ nI 110 < 110 := by decide
    rw [cd_58_3, cq_58_3]
    simp only [hlt, if_false]
    exact ⟨⟨False.elim, fun _ => trivial⟩, _, rfl, f, rfl, hf⟩
theorem rdf_c {q : Nat} {g : Nat → Nat} (hix : ix < 5) (hq : q + 28 ≤ 3780) (hs : ∀ j, j < 28 → N.1 223 (q + j) = nI (g j) ∧ g j < 256) : cp_59_0 (nI ix) (nI q) N ∧ ∃ f, cf_59_0 (nI ix) (nI q) N = mz_sI N 37 f ∧ ∀ j, f j = if 48 * ix ≤ j ∧ j < 48 * ix + 48 then nI (g ((j - 48 * ix) / 2) >>> (4 * ((j - 48 * ix) % 2)) % 2 ^ 4) else N.1 37 j := by
  show cp_59_3 (nI ix) (nI q) 0 N ∧ ∃ f, cf_59_3 (nI ix) (nI q) 0 N = mz_sI N 37 f ∧ _
  refine mz_lpn (f := cq_59_3 (nI ix) (nI q)) (P := cd_59_3 (nI ix) (nI q)) (Q := fun t => ∃ f, t = mz_sI N 37 f ∧ ∀ j, f j = if 48 * ix ≤ j ∧ j < 48 * ix + 48 then nI (g ((j - 48 * ix) / 2) >>> (4 * ((j - 48 * ix) % 2)) % 2 ^ 4) else N.1 37 j) 48 (fun t s => ∃ f, s = (nI t, mz_sI N 37 f) ∧ ∀ j, f j = if 48 * ix ≤ j ∧ j < 48 * ix + t then nI (g ((j - 48 * ix) / 2) >>> (4 * ((j - 48 * ix) % 2)) % 2 ^ 4) else N.1 37 j) ?_ ?_ (Nat.zero_le _) ⟨N.1 37, by rw [sI_same]; rfl, fun j => by rw [if_neg (by omega)]⟩
  · rintro t s ht ⟨f, rfl, hf⟩
    have e4 : nI t / 2 = nI (t / 2) := by rw [show (2 : Int32) = nI 2 from rfl, pk_div (by omega) (by omega) (by omega)]
    have e5 : 4 * mz_irem (nI t) 2 = nI (4 * (t % 2)) := by rw [show (4 : Int32) = nI 4 from rfl, show (2 : Int32) = nI 2 from rfl, irem_n (by omega) (by omega) (by omega), pk_mul]
    have e6 : nI ix * 48 + nI t = nI (48 * ix + t) := by rw [show (48 : Int32) = nI 48 from rfl, pk_mul, nI_add, Nat.mul_comm]
    have g3 : mz_gI (mz_sI N 37 f) 223 (nI (q + t / 2)) = nI (g (t / 2)) := by rw [gI_a, sI_n (by decide), nI_clamp (by omega)]; exact (hs _ (by omega)).1
    have hx := ex_15 (g (t / 2)) (hs (t / 2) (by omega)).2 (4 * (t % 2)) (by omega)
    have hlt : nI t < 48 := (nI_ltI (b := 48) (by omega) (by omega)).mpr ht
    rw [cd_59_3, cq_59_3]
    simp only [hlt, if_true, e4, e5, e6, nI_add, g3, hx, cf_59_40, cp_59_40, nI_1]
    refine ⟨⟨fun _ => ⟨ib_n (by omega) (by omega), ib_n (by omega) (by omega), trivial⟩, fun w => absurd trivial w⟩, Or.inl ⟨_, rfl, upd f (48 * ix + t) (nI (g (t / 2) >>> (4 * (t % 2)) % 2 ^ 4)), ?_, ?_⟩⟩
    · rw [wI_s, sI_e, sI_sI, nI_clamp (by omega)]
    · intro j
      rw [up_a, hf]
      by_cases y : j = 48 * ix + t
      · rw [if_pos y, if_pos (by omega), y, Nat.add_sub_cancel_left]
      · rw [if_neg y]
        by_cases w : 48 * ix ≤ j ∧ j < 48 * ix + t
        · rw [if_pos w, if_pos (by omega)]
        · rw [if_neg w, if_neg (by omega)]
  · rintro s ⟨f, rfl, hf⟩
    have hlt : ¬ nI 48 < 48 := by decide
    rw [cd_59_3, cq_59_3]
    simp only [hlt, if_false]
    exact ⟨⟨False.elim, fun _ => trivial⟩, _, rfl, f, rfl, hf⟩
/-- what a reading gives -/
def c_dr (N M : mz_N) (H G : Kp) (kd ix nn : Nat) : Prop := fq cdA cdB N M ∧ c_kn M (dec H G kd ix) ∧ c_ks M (dec H G kd ix) (nxn G kd ix nn) ∧ ∀ f, f ≠ 2 → M.1 115 f = N.1 115 f
theorem d1_c (hk : k < 135) (hix : ix < 5) (hb : kpb G) (h : by3 N k (kx G 1 ix)) (hn : c_kn N H) (hs : c_ks N H nn) : cp_58_0 223 3 (nI ix) (nI (28 * k)) N ∧ c_dr N (cf_58_0 223 3 (nI ix) (nI (28 * k)) N) H G 1 ix nn := by
  obtain ⟨p1, f, p2, p3⟩ := rde_c (N := N) (a1 := 223) (a3 := 3) (q := 28 * k) (ix := ix) (by decide) hix (by omega) h
  obtain ⟨k1, k2, k3, k4, k5, k7, k8, k8b, k9, k10, k11, k12, k13, k14, k15⟩ := hn
  rw [p2]
  refine ⟨p1, fq_sI (fq_refl _ _ _) rfl, ⟨fun j hj => ?_, k2, k3, k4, k5, k7, k8, k8b, k9, k10, k11, k12, k13, k14, k15⟩, hs, fun _ _ => rfl⟩
  show (mz_sI N 3 f).1 3 j = nI (rg (110 * ix) 110 (G.1 0) (H.1 0) j)
  rw [sI_e, p3]
  unfold rg
  by_cases w : 110 * ix ≤ j ∧ j < 110 * ix + 110
  · rw [if_pos w, if_pos w, show kx G 1 ix = orp 4 2 (fun t => G.1 0 (110 * ix + t)) 110 from rfl, orp_at (Or.inl ⟨rfl, rfl⟩) (fun t => hb.1 _) (by omega), Nat.add_sub_cancel' w.1]
  · rw [if_neg w, if_neg w]; exact k1 j hj
theorem d2_c (hk : k < 135) (hix : ix < 5) (hb : kpb G) (h : by3 N k (kx G 2 ix)) (hn : c_kn N H) (hs : c_ks N H nn) : cp_59_0 (nI ix) (nI (28 * k)) N ∧ c_dr N (cf_59_0 (nI ix) (nI (28 * k)) N) H G 2 ix nn := by
  obtain ⟨p1, f, p2, p3⟩ := rdf_c (N := N) (q := 28 * k) (ix := ix) hix (by omega) h
  obtain ⟨k1, k2, k3, k4, k5, k7, k8, k8b, k9, k10, k11, k12, k13, k14, k15⟩ := hn
  rw [p2]
  refine ⟨p1, fq_sI (fq_refl _ _ _) rfl, ⟨k1, fun j hj => ?_, k3, k4, k5, k7, k8, k8b, k9, k10, k11, k12, k13, k14, k15⟩, hs, fun _ _ => rfl⟩
  show (mz_sI N 37 f).1 37 j = nI (rg (48 * ix) 48 (G.1 1) (H.1 1) j)
  rw [sI_e, p3]
  unfold rg
  by_cases w : 48 * ix ≤ j ∧ j < 48 * ix + 48
  · rw [if_pos w, if_pos w, show kx G 2 ix = orp 2 4 (fun t => G.1 1 (48 * ix + t)) 48 from rfl, orp_at (Or.inr ⟨rfl, rfl⟩) (fun t => hb.2.1 _) (by omega), Nat.add_sub_cancel' w.1]
  · rw [if_neg w, if_neg w]; exact k2 j hj
theorem d3_c (hk : k < 135) (hix : ix < 10) (h : by3 N k (kx G 3 ix)) (hn : c_kn N H) (hs : c_ks N H nn) : mz_cpk (nI (28 * k)) (nI ix * 24) 24 3780 240 ∧ c_dr N (mz_yI N 223 (nI (28 * k)) 40 (nI ix * 24) 24) H G 3 ix nn := by
  obtain ⟨k1, k2, k3, k4, k5, k7, k8, k8b, k9, k10, k11, k12, k13, k14, k15⟩ := hn
  have e : nI ix * 24 = nI (24 * ix) := by rw [show (24 : Int32) = nI 24 from rfl, pk_mul, Nat.mul_comm]
  rw [e]
  refine ⟨cpk_n (c := 24) (by omega) (by omega) (by omega) (by omega), ?_⟩
  rw [yI_s, show (24 : Int32) = nI 24 from rfl, nI_clamp (by omega), nI_clamp (by omega), nI_clamp (by omega)]
  refine ⟨fq_sI (fq_refl _ _ _) rfl, ⟨k1, k2, fun j hj => ?_, k4, k5, k7, k8, k8b, k9, k10, k11, k12, k13, k14, k15⟩, hs, fun _ _ => rfl⟩
  show (mz_sI N 40 _).1 40 j = nI (rg (24 * ix) 24 (G.1 2) (H.1 2) j)
  rw [sI_e, cpy_a]
  unfold rg
  by_cases w : 24 * ix ≤ j ∧ j < 24 * ix + 24
  · rw [if_pos w, if_pos w, (h (j - 24 * ix) (by omega)).1, show kx G 3 ix = cut 24 (fun t => G.1 2 (24 * ix + t)) from rfl]
    unfold cut
    rw [if_pos (by omega)]
    show nI (G.1 2 (24 * ix + (j - 24 * ix))) = _
    rw [Nat.add_sub_cancel' w.1]
  · rw [if_neg w, if_neg w]; exact k3 j hj
theorem d5_c (hk : k < 135) (hix : ix < 4) (h : by3 N k (kx G 5 ix)) (hn : c_kn N H) (hs : c_ks N H nn) : mz_cpk (nI (28 * k)) (nI ix * 24) 24 3780 96 ∧ c_dr N (mz_yI N 223 (nI (28 * k)) 67 (nI ix * 24) 24) H G 5 ix nn := by
  obtain ⟨k1, k2, k3, k4, k5, k7, k8, k8b, k9, k10, k11, k12, k13, k14, k15⟩ := hn
  have e : nI ix * 24 = nI (24 * ix) := by rw [show (24 : Int32) = nI 24 from rfl, pk_mul, Nat.mul_comm]
  rw [e]
  refine ⟨cpk_n (c := 24) (by omega) (by omega) (by omega) (by omega), ?_⟩
  rw [yI_s, show (24 : Int32) = nI 24 from rfl, nI_clamp (by omega), nI_clamp (by omega), nI_clamp (by omega)]
  refine ⟨fq_sI (fq_refl _ _ _) rfl, ⟨k1, k2, k3, k4, fun j hj => ?_, k7, k8, k8b, k9, k10, k11, k12, k13, k14, k15⟩, hs, fun _ _ => rfl⟩
  show (mz_sI N 67 _).1 67 j = nI (rg (24 * ix) 24 (G.1 3) (H.1 3) j)
  rw [sI_e, cpy_a]
  unfold rg
  by_cases w : 24 * ix ≤ j ∧ j < 24 * ix + 24
  · rw [if_pos w, if_pos w, (h (j - 24 * ix) (by omega)).1, show kx G 5 ix = cut 24 (fun t => G.1 3 (24 * ix + t)) from rfl]
    unfold cut
    rw [if_pos (by omega)]
    show nI (G.1 3 (24 * ix + (j - 24 * ix))) = _
    rw [Nat.add_sub_cancel' w.1]
  · rw [if_neg w, if_neg w]; exact k5 j hj
theorem d4_c (hk : k < 135) (hix : ix < 2) (hl : kpl G 4 ix) (h : by3 N k (kx G 4 ix)) (hn : c_kn N H) (hs : c_ks N H nn) : cp_60_0 (nI ix) (nI (28 * k)) N ∧ c_dr N (cf_60_0 (nI ix) (nI (28 * k)) N) H G 4 ix nn := by
  have key : cp_60_3 (nI ix) (nI (28 * k)) 0 N ∧ ∃ f, cf_60_3 (nI ix) (nI (28 * k)) 0 N = mz_sI N 66 f ∧ ∀ j, f j = if 12 * ix ≤ j ∧ j < 12 * ix + 12 then G.2.1 0 j else N.1 66 j := by
    refine mz_lpn (f := cq_60_3 (nI ix) (nI (28 * k))) (P := cd_60_3 (nI ix) (nI (28 * k))) (Q := fun t => ∃ f, t = mz_sI N 66 f ∧ ∀ j, f j = if 12 * ix ≤ j ∧ j < 12 * ix + 12 then G.2.1 0 j else N.1 66 j) 12 (fun t s => ∃ f, s = (nI t, mz_sI N 66 f) ∧ ∀ j, f j = if 12 * ix ≤ j ∧ j < 12 * ix + t then G.2.1 0 j else N.1 66 j) ?_ ?_ (Nat.zero_le _) ⟨N.1 66, by rw [sI_same]; rfl, fun j => by rw [if_neg (by omega)]⟩
    · rintro t s ht ⟨f, rfl, hf⟩
      have h2 : by3 (mz_sI N 66 f) k (kx G 4 ix) := h
      obtain ⟨q1, q2⟩ := rb2 (p := 2 * t) (v := G.2.1 0 (12 * ix + t)) h2 hk (by omega) (fun i hi => by rw [show kx G 4 ix = wrd (fun t => (G.2.1 0 (12 * ix + t)).toInt64) 12 from rfl, wrd_at ht i hi]) (hl.1 rfl t ht)
      have e1 : nI (28 * k) + 2 * nI t = nI (28 * k + 2 * t) := by rw [show (2 : Int32) = nI 2 from rfl, pk_mul, nI_add]
      have e2 : 12 * nI ix + nI t = nI (12 * ix + t) := by rw [show (12 : Int32) = nI 12 from rfl, pk_mul, nI_add]
      have hlt : nI t < 12 := (nI_ltI (b := 12) (by omega) (by omega)).mpr ht
      rw [cd_60_3, cq_60_3]
      simp only [hlt, if_true, e1, e2, q2, cf_60_34, cp_60_34, nI_1]
      refine ⟨⟨fun _ => ⟨q1, ib_n (by omega) (by omega), trivial⟩, fun w => absurd trivial w⟩, Or.inl ⟨_, rfl, upd f (12 * ix + t) (G.2.1 0 (12 * ix + t)), ?_, ?_⟩⟩
      · rw [wI_s, sI_e, sI_sI, nI_clamp (by omega)]
      · intro j
        rw [up_a, hf]
        by_cases y : j = 12 * ix + t
        · rw [if_pos y, if_pos (by omega), y]
        · rw [if_neg y]
          by_cases w : 12 * ix ≤ j ∧ j < 12 * ix + t
          · rw [if_pos w, if_pos (by omega)]
          · rw [if_neg w, if_neg (by omega)]
    · rintro s ⟨f, rfl, hf⟩
      have hlt : ¬ nI 12 < 12 := by decide
      rw [cd_60_3, cq_60_3]
      simp only [hlt, if_false]
      exact ⟨⟨False.elim, fun _ => trivial⟩, _, rfl, f, rfl, hf⟩
  obtain ⟨p1, f, p2, p3⟩ := key
  obtain ⟨k1, k2, k3, k4, k5, k7, k8, k8b, k9, k10, k11, k12, k13, k14, k15⟩ := hn
  refine ⟨p1, ?_⟩
  rw [show cf_60_0 (nI ix) (nI (28 * k)) N = _ from p2]
  refine ⟨fq_sI (fq_refl _ _ _) rfl, ⟨k1, k2, k3, fun j hj => ?_, k5, k7, k8, k8b, k9, k10, k11, k12, k13, k14, k15⟩, hs, fun _ _ => rfl⟩
  show (mz_sI N 66 f).1 66 j = rg (12 * ix) 12 (G.2.1 0) (H.2.1 0) j
  rw [sI_e, p3]
  unfold rg
  by_cases w : 12 * ix ≤ j ∧ j < 12 * ix + 12
  · rw [if_pos w, if_pos w]
  · rw [if_neg w, if_neg w]; exact k4 j hj
end Dcc
