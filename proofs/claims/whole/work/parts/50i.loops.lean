/-! PURE (50i): both read all keys. -/
section Lps
variable {N : mz_N} {kt : Nat → Bool} {kb : Nat → Nat → Nat} {D : Kp} {b : Bool}
/-- the class when all keys are read -/
def c_ra (N M : mz_N) (kt : Nat → Bool) (D : Kp) : Prop := fq cdA cdB N M ∧ c_kn M D ∧ c_ks M D (NN kt D 135) ∧ ∀ f, f ≠ 2 → M.1 115 f = N.1 115 f
theorem c_keys (hD : st_D kt kb D) (hk : ∀ k, k < 135 → ∀ j, j < 28 → N.1 223 (28 * k + j) = nI (kb k j)) (ht : ∀ k, k < 135 → N.1 224 k = nI (b1 (kt k))) (hn : c_kn N H0) (hs : c_ks N H0 0)
    (he : ∀ M, c_ra N M kt D → cp_73_0 728 M b ∧ cp_77_0 ((cf_73_0 728 M b).1) ∧ cp_17_151 0 (cf_77_0 ((cf_73_0 728 M b).1)) ((cf_73_0 728 M b).2)) :
    cp_17_76 0 N b ∧ ∃ M, cf_17_76 0 N b = cf_17_151 0 (cf_77_0 ((cf_73_0 728 M b).1)) ((cf_73_0 728 M b).2) ∧ c_ra N M kt D := by
  have hb := hD.1
  refine mz_lpn (f := cq_17_76 b) (P := cd_17_76 b) (Q := fun t => ∃ M, t = cf_17_151 0 (cf_77_0 ((cf_73_0 728 M b).1)) ((cf_73_0 728 M b).2) ∧ c_ra N M kt D) 135 (fun t s => ∃ M, s = (nI t, M) ∧ fq cdA cdB N M ∧ c_kn M (RS kt D t) ∧ c_ks M (RS kt D t) (NN kt D t) ∧ ∀ f, f ≠ 2 → M.1 115 f = N.1 115 f) ?_ ?_ (Nat.zero_le _) ⟨N, rfl, fq_refl _ _ _, hn, hs, fun _ _ => rfl⟩
  · rintro t s ht2 ⟨M, rfl, m1, m2, m3, m4⟩
    have hlt : nI t < 135 := (nI_ltI (b := 135) (by omega) (by omega)).mpr ht2
    have e24 : mz_gI M 224 (nI t) = nI (b1 (kt t)) := by rw [gI_a, nI_clamp (by omega), m1.1 224 rfl]; exact ht t ht2
    obtain ⟨kd1, kd2⟩ := kd_c ht2
    obtain ⟨ix1, ix2⟩ := ix_c ht2
    have e28 : nI t * 28 = nI (28 * t) := by rw [show (28 : Int32) = nI 28 from rfl, pk_mul, Nat.mul_comm]
    have i1 : mz_ib (nI t) 135 := ib_n ht2 (by omega)
    rw [cd_17_76, cq_17_76]
    simp only [hlt, if_true, e24, kd2, ix2, e28, cp_17_119, cf_17_119, nI_1]
    cases w : kt t with
    | true =>
      obtain ⟨a1, a2, -⟩ := kdk_ok t ht2
      obtain ⟨d1, d2, d3⟩ := (hD.2.2 t ht2).1 w
      have hby : by3 M t (kx D (kdk t) (ixk t)) := fun j hj => by
        have : xk D t j < 256 := kx_lt hb _ _ _
        refine ⟨?_, this⟩
        rw [m1.1 223 rfl, hk t ht2 j hj, d3 j hj]
        rfl
      obtain ⟨p1, p2, p3, p4, p5⟩ := dec_c (H := RS kt D t) (nn := NN kt D t) ht2 a1 a2 (ixk_lt t ht2) hb d2 hby m2 (fun q => by
        have := (RS_kag hD t (by omega) t ht2).2 (Nat.le_refl _)
        rw [q] at this
        exact this.1) m3 (NN_le hD t (by omega))
      have e1 : nI (b1 true) = 1 := rfl
      rw [if_pos e1]
      refine ⟨⟨fun _ => ⟨i1, fun _ => ⟨kd1, ix1, p1, trivial⟩, fun q => absurd e1 q⟩, fun q => absurd trivial q⟩, Or.inl ⟨_, rfl, _, rfl, fq_trans m1 p2, ?_, ?_, fun f hf => (p5 f hf).trans (m4 f hf)⟩⟩
      · rw [RS_s, if_pos w]; exact p3
      · rw [RS_s, if_pos w, NN_s, if_pos w]; exact p4
    | false =>
      have e1 : ¬ nI (b1 false) = 1 := by decide
      rw [if_neg e1]
      have nf : ¬ kt t = true := by rw [w]; decide
      refine ⟨⟨fun _ => ⟨i1, fun q => absurd q e1, fun _ => trivial⟩, fun q => absurd trivial q⟩, Or.inl ⟨_, rfl, M, rfl, m1, ?_, ?_, m4⟩⟩
      · rw [RS_s, if_neg nf]; exact m2
      · rw [RS_s, if_neg nf, NN_s, if_neg nf]; exact m3
  · rintro s ⟨M, rfl, m1, m2, m3, m4⟩
    have hlt : ¬ nI 135 < 135 := by decide
    have hal := RS_kal hD
    have hM : c_ra N M kt D := by
      refine ⟨m1, kal_c hal (by rw [RS_4 135 (Nat.le_refl _), hD.2.1]) m2, ⟨fun j hj q => ?_, m3.2.1, m3.2.2⟩, m4⟩
      obtain ⟨-, -, -, -, -, -, -, -, -, -, -, -, -, x12, -⟩ := kal_x hal
      exact m3.1 j hj ((x12 j hj).1.trans q)
    rw [cd_17_76, cq_17_76]
    simp only [hlt, if_false]
    exact ⟨⟨False.elim, fun _ => he M hM⟩, _, rfl, M, rfl, hM⟩
/-- the reference when all keys are read -/
def r_ra (N M : mz_N) (D : Kp) : Prop := fq rdA rdB N M ∧ r_kp M D ∧ r_ks M D ∧ (∀ f, f ≠ 27 → f ≠ 21 → M.1 232 f = N.1 232 f) ∧ ∀ f, [2, 122, 123, 124, 125].contains f = false → M.2 232 f = N.2 232 f
theorem r_keys (hD : st_D kt kb D) (hk : ∀ k, k < 135 → kt k = true → ∀ j, j < 28 → N.1 331 (28 * k + j) = by8 (kb k j)) (ht : ∀ k, k < 135 → N.1 330 k = nI (b1 (kt k))) (hn : r_kp N H0) (hs : r_ks N H0)
    (he : ∀ M, r_ra N M D → cp_414_61 1 M) :
    cp_414_16 0 N ∧ ∃ M, cf_414_16 0 N = cf_414_61 1 M ∧ r_ra N M D := by
  have hb := hD.1
  refine mz_lpn (f := cq_414_16) (P := cd_414_16) (Q := fun t => ∃ M, t = cf_414_61 1 M ∧ r_ra N M D) 135 (fun t s => ∃ M, s = (nI t, M) ∧ r_ra N M (RS kt D t)) ?_ ?_ (Nat.zero_le _) ⟨N, rfl, fq_refl _ _ _, hn, hs, fun _ _ _ => rfl, fun _ _ => rfl⟩
  · rintro t s ht2 ⟨M, rfl, m1, m2, m3, m4, m5⟩
    have hlt : nI t < 135 := (nI_ltI (b := 135) (by omega) (by omega)).mpr ht2
    have e30 : mz_gI M 330 (nI t) = nI (b1 (kt t)) := by rw [gI_a, nI_clamp (by omega), m1.1 330 rfl]; exact ht t ht2
    have z30 : mz_gZ M 330 (nI t) = kt t := by
      unfold mz_gZ
      rw [nI_clamp (by omega), m1.1 330 rfl, ht t ht2]
      cases kt t <;> rfl
    obtain ⟨kd1, kd2⟩ := kd_r ht2
    have ix2 := ix_r ht2
    have e28 : 28 * nI t = nI (28 * t) := by rw [show (28 : Int32) = nI 28 from rfl, pk_mul]
    have i1 : mz_ib (nI t) 135 := ib_n ht2 (by omega)
    have zz := z01_b (kt t)
    rw [cd_414_16, cq_414_16]
    simp only [hlt, if_true, e30, z30, kd2, ix2, e28, cp_414_53, cf_414_53, nI_1]
    cases w : kt t with
    | true =>
      rw [w] at zz
      obtain ⟨a1, a2, -⟩ := kdk_ok t ht2
      obtain ⟨d1, d2, d3⟩ := (hD.2.2 t ht2).1 w
      have hby : by4 M t (kx D (kdk t) (ixk t)) := fun j hj => by
        have : xk D t j < 256 := kx_lt hb _ _ _
        refine ⟨?_, this⟩
        rw [m1.1 331 rfl, hk t ht2 w j hj, d3 j hj]
        rfl
      obtain ⟨p1, p2, p3, p4, p5, p6⟩ := dec_r (H := RS kt D t) ht2 a1 a2 (ixk_lt t ht2) hb d2 hby m2 m3
      rw [if_pos rfl]
      refine ⟨⟨fun _ => ⟨i1, zz, fun _ => ⟨kd1, kd1, p1, trivial⟩, fun q => absurd rfl q⟩, fun q => absurd trivial q⟩, Or.inl ⟨_, rfl, _, rfl, ?_⟩⟩
      rw [RS_s, if_pos w]
      exact ⟨fq_trans m1 p2, p3, p4, fun f f1 f2 => (p5 f f1 f2).trans (m4 f f1 f2), fun f hf => (p6 f hf).trans (m5 f hf)⟩
    | false =>
      rw [w] at zz
      have nf : ¬ kt t = true := by rw [w]; decide
      rw [if_neg Bool.false_ne_true]
      refine ⟨⟨fun _ => ⟨i1, zz, fun q => absurd q Bool.false_ne_true, fun _ => trivial⟩, fun q => absurd trivial q⟩, Or.inl ⟨_, rfl, M, rfl, ?_⟩⟩
      rw [RS_s, if_neg nf]
      exact ⟨m1, m2, m3, m4, m5⟩
  · rintro s ⟨M, rfl, m1, m2, m3, m4, m5⟩
    have hlt : ¬ nI 135 < 135 := by decide
    have hal := RS_kal hD
    have hM : r_ra N M D := by
      refine ⟨m1, kal_r hal (by rw [RS_4 135 (Nat.le_refl _), hD.2.1]) m2, fun j hj q => ?_, m4, m5⟩
      obtain ⟨-, -, -, -, -, -, -, -, -, -, -, -, -, x12, -⟩ := kal_x hal
      exact m3 j hj ((x12 j hj).1.trans q)
    rw [cd_414_16, cq_414_16]
    simp only [hlt, if_false]
    exact ⟨⟨False.elim, fun _ => he M hM⟩, _, rfl, M, rfl, hM⟩
end Lps
