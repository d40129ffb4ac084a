/-! PURE (32): the class opens its store again: what it finds. -/
section Op2
variable {N : mz_N} {d : Nat → Nat → Nat} {a gn us : Nat} {kt : Nat → Bool} {kb : Nat → Nat → Nat}
theorem lc_c (hI : DI d a gn us kt kb) (hd : c_dk d N) (hd2 : ∀ a j, d a j < 256) (hgn : gn < 2 ^ 31) (h5 : N.1 219 5 = nI gn) : cp_99_0 (nI a) (nI (cnn d a)) N ∧ cf_99_0 (nI a) (nI (cnn d a)) N = nI (us - 1) := by
  obtain ⟨ha, i2, i3, ⟨-, -, -, -, g5, -, -⟩, i5, i6, i7, i8, i9, i10, i11, i12, i13, i14, i15⟩ := hI
  generalize cnn d a = c at *
  rw [cp_99_0, cf_99_0, nI_1]
  refine mz_lpn (f := cq_99_7 (nI a) N) (P := cd_99_7 (nI a) N) (Q := fun t => t = nI (us - 1)) 200 (fun r s => ∃ t, s = (nI t, nI r) ∧ t ≤ us - 1 ∧ c + 1 ≤ r ∧ (us ≤ r → t = us - 1)) ?_ ?_ (show c + 1 ≤ 200 by omega) ⟨c, rfl, by omega, by omega, fun w => by omega⟩
  · rintro r s hr ⟨t, rfl, ht, h1, h2⟩
    obtain ⟨p1, q1⟩ := kr_c (n := r) (g := gn) hd hd2 i15 ha hr (by omega)
    obtain ⟨p2, q2⟩ := ls_c (n := r) hd hd2 ha hr
    have hlt : nI r < 200 := (nI_ltI (b := 200) (by omega) (by omega)).mpr hr
    rw [cd_99_7, cq_99_7, h5]
    simp only [hlt, if_true, cp_99_42, cf_99_42, nI_1]
    refine ⟨⟨fun _ => ⟨p1, fun _ => ⟨p2, fun _ => trivial, fun _ => trivial⟩, fun _ => trivial⟩, fun w => absurd trivial w⟩, ?_⟩
    by_cases wk : krw d a r gn
    · rw [if_pos (q1.mpr wk)]
      by_cases wl : lsr d a r
      · rw [if_pos (q2.mpr wl)]
        have hru : r < us := by
          rcases Nat.lt_or_ge r us with y | y
          · exact y
          · exact absurd wl (i9 r y hr wk)
        exact Or.inl ⟨_, rfl, r, rfl, by omega, by omega, fun w => by omega⟩
      · rw [if_neg (fun q => wl (q2.mp q))]
        refine Or.inl ⟨_, rfl, t, rfl, ht, by omega, fun w => ?_⟩
        rcases Nat.lt_or_ge r us with y | y
        · -- the last row that counts is marked
          have : r = us - 1 := by omega
          rcases i8 with z | z
          · omega
          · rw [this] at wl; exact absurd z wl
        · exact h2 y
    · rw [if_neg (fun q => wk (q1.mp q))]
      refine Or.inr ⟨_, rfl, ?_⟩
      rcases Nat.lt_or_ge r us with y | y
      · exact absurd (i7 r (by omega) y) wk
      · rw [h2 y]
  · rintro s ⟨t, rfl, ht, h1, h2⟩
    have hlt : ¬ nI 200 < 200 := by decide
    rw [cd_99_7, cq_99_7]
    simp only [hlt, if_false]
    exact ⟨⟨False.elim, fun _ => trivial⟩, _, rfl, by rw [h2 i3]⟩
theorem c_take {K : mz_N} (hI : DI d a gn us kt kb) (hd : c_dk d K) (hd2 : ∀ a j, d a j < 256) (h4 : K.1 219 4 = nI a) (hk0 : ∀ j, j < 3780 → K.1 223 j = 0) (ht0 : ∀ k, k < 135 → K.1 224 k = 0) :
    cp_92_111 (nI (us - 1)) 1 K ∧ ∃ f h, cf_92_111 (nI (us - 1)) 1 K = (nI (us - 1), mz_sI (mz_sI (mz_sI K 223 f) 224 h) 219 (upd (upd (K.1 219) 6 (nI us)) 7 0)) ∧ (∀ k, k < 135 → ∀ j, j < 28 → f (28 * k + j) = nI (kb k j)) ∧ ∀ k, k < 135 → h k = nI (b1 (kt k)) := by
  obtain ⟨ha, i2, i3, -, i5, i6, i7, i8, i9, i10, i11, i12, i13, i14, i15⟩ := hI
  refine mz_lpn (f := cq_92_111 (nI (us - 1))) (P := cd_92_111 (nI (us - 1))) (Q := fun t => ∃ f h, t = (nI (us - 1), mz_sI (mz_sI (mz_sI K 223 f) 224 h) 219 (upd (upd (K.1 219) 6 (nI us)) 7 0)) ∧ (∀ k, k < 135 → ∀ j, j < 28 → f (28 * k + j) = nI (kb k j)) ∧ ∀ k, k < 135 → h k = nI (b1 (kt k))) us (fun r s => 1 ≤ r ∧ ∃ f h, s = (nI r, mz_sI (mz_sI K 223 f) 224 h) ∧ (∀ k, k < 135 → ∀ j, j < 28 → f (28 * k + j) = nI (fkb d a (r - 1) k j)) ∧ ∀ k, k < 135 → h k = nI (b1 (fkt d a (r - 1) k))) ?_ ?_ (show 1 ≤ us from i2) ⟨Nat.le_refl _, K.1 223, K.1 224, by rw [sI_same, sI_same]; rfl, fun k hk j hj => by rw [hk0 _ (by omega)]; rfl, fun k hk => by rw [ht0 k hk]; rfl⟩
  · rintro r s hr ⟨h1, f, h, rfl, hf, hh⟩
    have hkr := i7 r h1 hr
    have e4 : (mz_sI (mz_sI K 223 f) 224 h).1 219 4 = nI a := by rw [sI_n (by decide), sI_n (by decide)]; exact h4
    have e0 : nI r * 48 = nI (48 * r) := by rw [show (48 : Int32) = nI 48 from rfl, pk_mul, Nat.mul_comm]
    have e1 : nI (48 * r) + 1 = nI (48 * r + 1) := nI_1 _
    have e12 : nI (48 * r) + 12 = nI (48 * r + 12) := by rw [show (12 : Int32) = nI 12 from rfl, nI_add]
    have ea : 221 + (nI a).toNatClampNeg = 221 + a := by rw [nI_clamp (by omega)]
    have g0 : mz_gI (mz_sI (mz_sI K 223 f) 224 h) (221 + a) (nI (48 * r)) = nI (d a (48 * r)) := by rw [gI_a, sI_n (by omega), sI_n (by omega), nI_clamp (by omega)]; exact hd a ha _ (by omega)
    have g1 : mz_gI (mz_sI (mz_sI K 223 f) 224 h) (221 + a) (nI (48 * r + 1)) = nI (d a (48 * r + 1)) := by rw [gI_a, sI_n (by omega), sI_n (by omega), nI_clamp (by omega)]; exact hd a ha _ (by omega)
    have b0 := hd2 a (48 * r)
    have b1' := hd2 a (48 * r + 1)
    obtain ⟨p3, q3⟩ := kyo_c (kd := d a (48 * r)) (ix := d a (48 * r + 1)) (by omega) (by omega)
    have hky : rky d a r < 135 := hkr.2.2
    have q3' : cf_98_0 (nI (d a (48 * r))) (nI (d a (48 * r + 1))) = nI (rky d a r) := q3.trans (nO_lt hky)
    have hlt : ¬ nI (us - 1) < nI r := fun w => by have := (nI_ltI (by omega) (by omega)).mp w; omega
    have e28 : nI (rky d a r) * 28 = nI (28 * rky d a r) := by rw [show (28 : Int32) = nI 28 from rfl, pk_mul, Nat.mul_comm]
    have ey : mz_yI (mz_sI (mz_sI K 223 f) 224 h) (221 + a) (nI (48 * r + 12)) 223 (nI (28 * rky d a r)) 28 = mz_sI (mz_sI K 223 (va_cpy (K.1 (221 + a)) f (48 * r + 12) (28 * rky d a r) 28)) 224 h := by
      rw [yI_s, show (28 : Int32) = nI 28 from rfl, nI_clamp (by omega), nI_clamp (by omega), nI_clamp (by omega), sI_n (by omega), sI_n (by omega), sI_n (by decide), sI_e, sI_comm (a := 224) (b := 223) (by decide), sI_sI]
    have hcpk : mz_cpk (nI (48 * r + 12)) (nI (28 * rky d a r)) 28 9600 3780 := cpk_n (c := 28) (by omega) (by omega) (by omega) (by omega)
    have i1 := ib_n ha (show 2 < 2 ^ 31 by omega)
    have hst : cd_92_111 (nI (us - 1)) (nI r, mz_sI (mz_sI K 223 f) 224 h) ∧ cq_92_111 (nI (us - 1)) (nI r, mz_sI (mz_sI K 223 f) 224 h) = .inl (nI (r + 1), mz_wI (mz_sI (mz_sI K 223 (va_cpy (K.1 (221 + a)) f (48 * r + 12) (28 * rky d a r) 28)) 224 h) 224 (nI (rky d a r)) 1) := by
      simp (disch := omega) only [cd_92_111, cq_92_111, cp_92_190, cf_92_190, cp_92_198, cf_92_198, hlt, e4, e0, e1, e12, ea, g0, g1, q3', p3, nI_m1, e28, ey, hcpk, i1, nI_1, ib_i, not_false_eq_true, not_true_eq_false, if_true, if_false, true_implies, false_implies, implies_true, and_true, true_and]
      omega
    have hfkb : fkb d a r = up (fkb d a (r - 1)) (rky d a r) (fun i => d a (48 * r + 12 + i)) := by
      have e : fkb d a (r - 1 + 1) = up (fkb d a (r - 1)) (rky d a (r - 1 + 1)) (fun i => d a (48 * (r - 1 + 1) + 12 + i)) := rfl
      rw [show r - 1 + 1 = r by omega] at e; exact e
    have hfkt : fkt d a r = up (fkt d a (r - 1)) (rky d a r) true := by
      have e : fkt d a (r - 1 + 1) = up (fkt d a (r - 1)) (rky d a (r - 1 + 1)) true := rfl
      rw [show r - 1 + 1 = r by omega] at e; exact e
    refine ⟨hst.1, Or.inl ⟨_, hst.2, by omega, va_cpy (K.1 (221 + a)) f (48 * r + 12) (28 * rky d a r) 28, upd h (rky d a r) 1, ?_, ?_, ?_⟩⟩
    · rw [wI_s, sI_e, sI_sI, nI_clamp (by omega)]
    · intro k hk j hj
      rw [cpy_a, Nat.add_sub_cancel, hfkb, up_d]
      by_cases w : k = rky d a r
      · rw [if_pos (by omega), if_pos w, show 48 * r + 12 + (28 * k + j - 28 * rky d a r) = 48 * r + 12 + j by omega]
        exact hd a ha _ (by omega)
      · rw [if_neg (by omega), if_neg w]; exact hf k hk j hj
    · intro k hk
      rw [up_a, Nat.add_sub_cancel, hfkt, up_d]
      by_cases w : k = rky d a r
      · rw [if_pos w, if_pos w]; rfl
      · rw [if_neg w, if_neg w]; exact hh k hk
  · rintro s ⟨h1, f, h, rfl, hf, hh⟩
    have hlt : nI (us - 1) < nI us := (nI_ltI (by omega) (by omega)).mpr (by omega)
    have e6 : nI (us - 1) + 1 = nI us := by rw [nI_1]; congr 1; omega
    rw [cd_92_111, cq_92_111, if_pos hlt, e6]
    refine ⟨⟨fun _ => trivial, fun w => absurd hlt w⟩, _, rfl, f, h, ?_, fun k hk j hj => by rw [hf k hk j hj, ← i11 k hk j hj], fun k hk => by rw [hh k hk, ← i10 k hk]⟩
    rw [Prod.mk.injEq]
    refine ⟨rfl, ?_⟩
    rw [pI_s, pI_s, sI_sI, sI_e, sI_n (by decide), sI_n (by decide)]
    rfl
theorem c_open (hI : DI d a gn us kt kb) (hd : c_dk d N) (hd2 : ∀ a j, d a j < 256) (hgn : gn < 2 ^ 31) (hag : ∀ a n, a < 2 → n < 200 → ag d a n < 2 ^ 31) :
    cp_92_0 N ∧ ∃ K, cf_92_0 N = (nI (us - 1), K) ∧ fr [219, 223, 224] N K ∧ K.1 219 = upd (upd (upd (upd (N.1 219) 4 (nI a)) 5 (nI gn)) 6 (nI us)) 7 0 ∧ (∀ k, k < 135 → ∀ j, j < 28 → K.1 223 (28 * k + j) = nI (kb k j)) ∧ ∀ k, k < 135 → K.1 224 k = nI (b1 (kt k)) := by
  have hI2 := hI
  obtain ⟨ha, i2, i3, hgd, i5, i6, i7, i8, i9, i10, i11, i12, i13, i14, i15⟩ := hI
  obtain ⟨p0, q0, q0n⟩ := sr_c (a := 0) hd hd2 i15 (by omega)
  obtain ⟨p1, q1, q1n⟩ := sr_c (a := 1) hd hd2 i15 (by omega)
  obtain ⟨s0, t0⟩ := ag_c (a := 0) (n := 0) hd hd2 (by omega) (by omega)
  obtain ⟨s1, t1⟩ := ag_c (a := 1) (n := 0) hd hd2 (by omega) (by omega)
  have p1' : cp_93_0 1 N := p1
  have p0' : cp_93_0 0 N := p0
  have s0' : cp_96_0 0 0 N := s0
  have t0' : cf_96_0 0 0 N = nI (ag d 0 0) := t0
  have s1' : cp_96_0 1 0 N := s1
  have t1' : cf_96_0 1 0 N = nI (ag d 1 0) := t1
  have b0 := hag 0 0 (by omega) (by omega)
  have bb1 := hag 1 0 (by omega) (by omega)
  -- behind the choice
  have e53 : ∀ v1 v2 : Int32, (if a = 1 then v2 else v1) = nI (cnn d a) → cp_92_53 (decide (a = 1)) v1 v2 (decide (a = 1)) N ∧ ∃ K, cf_92_53 (decide (a = 1)) v1 v2 (decide (a = 1)) N = (nI (us - 1), K) ∧ fr [219, 223, 224] N K ∧ K.1 219 = upd (upd (upd (upd (N.1 219) 4 (nI a)) 5 (nI gn)) 6 (nI us)) 7 0 ∧ (∀ k, k < 135 → ∀ j, j < 28 → K.1 223 (28 * k + j) = nI (kb k j)) ∧ ∀ k, k < 135 → K.1 224 k = nI (b1 (kt k)) := by
    intro v1 v2 hv
    have eb : mz_b01 (decide (a = 1)) = nI a := by
      have : a = 0 ∨ a = 1 := by omega
      rcases this with w | w <;> rw [w] <;> rfl
    have e4 : (mz_pI N 219 4 (nI a)).1 219 4 = nI a := by rw [pI_s, sI_e, up_a, if_pos rfl]
    have hd1 : c_dk d (mz_pI N 219 4 (nI a)) := by intro a' ha' j hj; rw [pI_s, sI_n (by omega)]; exact hd a' ha' j hj
    obtain ⟨u1, u2⟩ := ag_c (a := a) (n := 0) hd1 hd2 ha (by omega)
    rw [i5] at u2
    rw [nI_0] at u1 u2
    have e4b : (mz_pI (mz_pI N 219 4 (nI a)) 219 5 (nI gn)).1 219 4 = nI a := by rw [pI_s, sI_e, up_a, if_neg (by decide)]; exact e4
    have e5b : (mz_pI (mz_pI N 219 4 (nI a)) 219 5 (nI gn)).1 219 5 = nI gn := by rw [pI_s, sI_e, up_a, if_pos rfl]
    have hd3 : c_dk d (mz_pI (mz_pI N 219 4 (nI a)) 219 5 (nI gn)) := by intro a' ha' j hj; rw [pI_s, sI_n (by omega)]; exact hd1 a' ha' j hj
    obtain ⟨l1, l2⟩ := lc_c hI2 hd3 hd2 hgn e5b
    have hc200 := hgd.2.2.2.2.1
    have emax : mz_imax 0 (nI (cnn d a)) = nI (cnn d a) := by rw [← nI_0, imax_n (by omega) (by omega), Nat.max_eq_right (Nat.zero_le _)]
    have e84 : cp_92_84 (nI a) 0 (nI (cnn d a)) (mz_pI (mz_pI N 219 4 (nI a)) 219 5 (nI gn)) ∧ ∃ K, cf_92_84 (nI a) 0 (nI (cnn d a)) (mz_pI (mz_pI N 219 4 (nI a)) 219 5 (nI gn)) = (nI (us - 1), K) ∧ fr [219, 223, 224] N K ∧ K.1 219 = upd (upd (upd (upd (N.1 219) 4 (nI a)) 5 (nI gn)) 6 (nI us)) 7 0 ∧ (∀ k, k < 135 → ∀ j, j < 28 → K.1 223 (28 * k + j) = nI (kb k j)) ∧ ∀ k, k < 135 → K.1 224 k = nI (b1 (kt k)) := by
      obtain ⟨f1, f2⟩ := fill_ok (a := 223) (n := 3780) (v := 0) (N := mz_pI (mz_pI N 219 4 (nI a)) 219 5 (nI gn)) (by omega)
      obtain ⟨f3, f4⟩ := fill_ok (a := 224) (n := 135) (v := 0) (N := cf_13_0 223 3780 0 (mz_pI (mz_pI N 219 4 (nI a)) 219 5 (nI gn))) (by omega)
      rw [cp_92_84, cf_92_84, emax, l2]
      have hfrL : fr [219, 223, 224] N (cf_13_0 224 135 0 (cf_13_0 223 3780 0 (mz_pI (mz_pI N 219 4 (nI a)) 219 5 (nI gn)))) := by
        rw [f4, f2]; exact fr_sI (fr_sI (fr_pI (fr_pI (fr_refl _ _) rfl) rfl) rfl) rfl
      have h219 : (cf_13_0 224 135 0 (cf_13_0 223 3780 0 (mz_pI (mz_pI N 219 4 (nI a)) 219 5 (nI gn)))).1 219 = upd (upd (N.1 219) 4 (nI a)) 5 (nI gn) := by
        rw [f4, f2, sI_n (by decide), sI_n (by decide), pI_s, pI_s, sI_e, sI_e]
      have hk0 : ∀ j, j < 3780 → (cf_13_0 224 135 0 (cf_13_0 223 3780 0 (mz_pI (mz_pI N 219 4 (nI a)) 219 5 (nI gn)))).1 223 j = 0 := fun j hj => by rw [f4, sI_n (by decide), f2, sI_e, if_pos hj]
      have ht0 : ∀ k, k < 135 → (cf_13_0 224 135 0 (cf_13_0 223 3780 0 (mz_pI (mz_pI N 219 4 (nI a)) 219 5 (nI gn)))).1 224 k = 0 := fun k hk => by rw [f4, sI_e, if_pos hk]
      generalize cf_13_0 224 135 0 (cf_13_0 223 3780 0 (mz_pI (mz_pI N 219 4 (nI a)) 219 5 (nI gn))) = L at *
      obtain ⟨c1, f, h, c2, c3, c4⟩ := c_take (K := L) hI2 (fun a' ha' j hj => by
        have : [219, 223, 224].contains (221 + a') = false := by
          have : a' = 0 ∨ a' = 1 := by omega
          rcases this with w | w <;> rw [w] <;> rfl
        rw [hfrL.1 _ this]; exact hd a' ha' j hj) hd2 (by rw [h219, up_a, if_neg (by decide), up_a, if_pos rfl]) hk0 ht0
      refine ⟨⟨l1, f1, f3, c1⟩, _, c2, fr_sI (fr_sI (fr_sI hfrL rfl) rfl) rfl, ?_, ?_, ?_⟩
      · rw [sI_e, h219]
      · intro k hk j hj; rw [sI_n (by decide), sI_n (by decide), sI_e]; exact c3 k hk j hj
      · intro k hk; rw [sI_n (by decide), sI_e]; exact c4 k hk
    rw [cp_92_53, cf_92_53, eb, e4, u2, e4b]
    by_cases w : a = 1
    · rw [if_pos w] at hv
      have hw : decide (a = 1) = true := decide_eq_true w
      simp only [hw, if_true]
      rw [hv]
      exact ⟨⟨u1, fun _ => e84.1, fun y => absurd trivial y⟩, e84.2⟩
    · rw [if_neg w] at hv
      have hw : decide (a = 1) = false := decide_eq_false w
      simp only [hw, Bool.false_eq_true, if_false]
      rw [hv]
      exact ⟨⟨u1, False.elim, fun _ => e84.1⟩, e84.2⟩
  have hcase : a = 0 ∨ a = 1 := by omega
  rcases hcase with rfl | rfl
  · have h53 := e53 (cf_93_0 0 N) (cf_93_0 1 N) (by rw [if_neg (by decide)]; exact q0 hgd)
    have d0 : decide (0 = 1) = false := rfl
    rw [d0] at h53
    have e41 : cp_92_41 (cf_93_0 0 N) (cf_93_0 1 N) N ∧ cf_92_41 (cf_93_0 0 N) (cf_93_0 1 N) N = cf_92_53 false (cf_93_0 0 N) (cf_93_0 1 N) false N := by
      rw [cp_92_41, cf_92_41, cp_92_42, cf_92_42, if_neg (by decide)]
      exact ⟨⟨(fun w => by cases w), fun _ => h53.1⟩, rfl⟩
    have hcn : cf_93_0 0 N = nI (cnn d 0) := q0 hgd
    have hc200 := hgd.2.2.2.2.1
    have hcond : ¬ (cf_93_0 1 N = -1) → ¬ cf_96_0 0 0 N < cf_96_0 1 0 N := by
      intro hw hlt
      rw [t0', t1', nI_ltI b0 bb1] at hlt
      have hg1 : gda d 1 := Classical.byContradiction fun w => hw (q1n w)
      have := i12 hg1.1
      rw [show 1 - 0 = 1 from rfl] at this
      omega
    have hne : ¬ cf_93_0 0 N = -1 := by rw [hcn, nI_m1 (by omega)]; exact fun w => w
    refine ⟨⟨p0', p1', fun _ => e41.1, fun w => ⟨fun w2 => absurd w2 hne, fun _ => ⟨s1', s0', fun w3 => absurd w3 (hcond w), fun _ => e41.1⟩⟩⟩, ?_⟩
    rw [cf_92_0]
    by_cases w : cf_93_0 1 N = -1
    · rw [if_pos w, e41.2]; exact h53.2
    · rw [if_neg w, if_neg hne, if_neg (hcond w), e41.2]; exact h53.2
  · have h53 := e53 (cf_93_0 0 N) (cf_93_0 1 N) (by rw [if_pos rfl]; exact q1 hgd)
    have d1 : decide (1 = 1) = true := rfl
    rw [d1] at h53
    have e37 : cp_92_37 (cf_93_0 0 N) (cf_93_0 1 N) N ∧ cf_92_37 (cf_93_0 0 N) (cf_93_0 1 N) N = cf_92_53 true (cf_93_0 0 N) (cf_93_0 1 N) true N := by
      rw [cp_92_37, cf_92_37, cp_92_42, cf_92_42, if_pos rfl]
      exact ⟨⟨fun _ => h53.1, fun w => absurd rfl w⟩, rfl⟩
    have hcn : cf_93_0 1 N = nI (cnn d 1) := q1 hgd
    have hc200 := hgd.2.2.2.2.1
    have hne : ¬ cf_93_0 1 N = -1 := by rw [hcn, nI_m1 (by omega)]; exact fun w => w
    have hcond : ¬ (cf_93_0 0 N = -1) → cf_96_0 0 0 N < cf_96_0 1 0 N := by
      intro hw
      rw [t0', t1', nI_ltI b0 bb1]
      have hg0 : gda d 0 := Classical.byContradiction fun w => hw (q0n w)
      have := i12 hg0.1
      rw [show 1 - 1 = 0 from rfl] at this
      omega
    refine ⟨⟨p0', p1', fun w => absurd w hne, fun _ => ⟨fun _ => e37.1, fun w => ⟨s1', s0', fun _ => e37.1, fun w3 => absurd (hcond w) w3⟩⟩⟩, ?_⟩
    rw [cf_92_0, if_neg hne]
    by_cases w : cf_93_0 0 N = -1
    · rw [if_pos w, e37.2]; exact h53.2
    · rw [if_neg w, if_pos (hcond w), e37.2]; exact h53.2
end Op2
