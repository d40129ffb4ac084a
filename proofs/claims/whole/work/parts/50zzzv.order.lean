/-! PURE (50zzzv): what was ordered comes. -/
def orH (H : Kp) (x : CrS) : Kp := kI (kI H 9 (x.op 0) (mz_imin 99 (H.2.1 9 (x.op 0) + nI (x.om 0)))) 5 2 (H.2.1 5 2 + nI (3000 * x.om 0))
def orX (x : CrS) : CrS := (x.wk, x.nn, x.oc - 1, fun i => x.op (i + 1), fun i => x.om (i + 1), fun i => x.od (i + 1), x.vs, x.vd, x.tp, x.tt, x.bk)
section Or
variable {N : mz_N} {b : Bool} {H : Kp} {x : CrS} {cr : Nat}
theorem kI2 {f g i j : Nat} {y z : Int32} : ∀ k, k ≠ f → k ≠ g → (kI (kI H f i y) g j z).2.1 k = H.2.1 k := fun k h1 h2 => by rw [kI_1 k h2, kI_1 k h1]
theorem shf_c {n : Nat} {v : Int32} (hn : N.1 115 5 = nI n) (hn8 : n < 8) : cp_203_65 v N ∧ ∃ M, cf_203_65 v N = (v, M) ∧ fr [130, 131, 132] N M ∧ ∀ k, k < 3 → ∀ j, j < n → M.1 (130 + k) j = N.1 (130 + k) (j + 1) := by
  rw [cp_203_65, cf_203_65, cp_203_68, cf_203_68]
  refine mz_lpn (f := cq_203_68 v) (P := cd_203_68 v) (Q := fun t => ∃ M, t = (v, M) ∧ fr [130, 131, 132] N M ∧ ∀ k, k < 3 → ∀ j, j < n → M.1 (130 + k) j = N.1 (130 + k) (j + 1)) 3 (fun t s => ∃ M, s = (nI t, M) ∧ fr [130, 131, 132] N M ∧ (∀ k, k < t → ∀ j, j < n → M.1 (130 + k) j = N.1 (130 + k) (j + 1)) ∧ ∀ k, t ≤ k → k < 3 → M.1 (130 + k) = N.1 (130 + k)) ?_ ?_ (Nat.zero_le _) ⟨N, rfl, fr_refl _ _, fun k hk => absurd hk (Nat.not_lt_zero _), fun _ _ _ => rfl⟩
  · rintro t s ht ⟨M, rfl, h1, h2, h3⟩
    have l : nI t < 3 := (nI_ltI (b := 3) (by omega) (by omega)).mpr ht
    have cl : (nI t).toNatClampNeg = t := nI_clamp (by omega)
    have e5 : M.1 115 5 = nI n := by rw [h1.1 115 rfl]; exact hn
    have ib : mz_ib (nI t) 3 := ib_n ht (by omega)
    rw [cd_203_68, cq_203_68]
    simp only [l, if_true, cl, e5, cf_203_97, nI_1]
    refine ⟨⟨fun _ => ⟨ib, ib, cpk_n (a := 1) (b := 0) (c := n) (by omega) (by omega) (by omega) (by omega), trivial⟩, fun z => absurd trivial z⟩, Or.inl ⟨_, rfl, _, rfl, ?_, fun k hk j hj => ?_, fun k h4 h5 => ?_⟩⟩
    · rw [yI_s]
      exact fr_sI h1 (by rcases (show t = 0 ∨ t = 1 ∨ t = 2 by omega) with w | w | w <;> rw [w] <;> rfl)
    · rw [yI_s]
      by_cases w : k = t
      · rw [w, sI_e, nI_clamp (show n < 2 ^ 31 by omega)]
        show va_cpy _ _ 1 0 n j = _
        rw [cpy_a, if_pos (by omega), h3 t (Nat.le_refl _) ht, Nat.sub_zero, Nat.add_comm 1 j]
      · rw [sI_n (by omega)]; exact h2 k (by omega) j hj
    · rw [yI_s, sI_n (by omega)]; exact h3 k (by omega) h5
  · rintro s ⟨M, rfl, h1, h2, h3⟩
    have l : ¬ nI 3 < 3 := by decide
    rw [cd_203_68, cq_203_68]
    simp only [l, if_false]
    exact ⟨⟨False.elim, fun _ => trivial⟩, _, rfl, M, rfl, h1, h2⟩
theorem rec_c (hk : c_kp N b H) (hc : crC N H x) (h0 : 0 < x.oc) (h8 : x.oc ≤ 8) (hp : x.op 0 < 3) : cp_203_0 N ∧ ∃ M, cf_203_0 N = (nI (x.op 0), M) ∧ c_kp M b (orH H x) ∧ crC M (orH H x) (orX x) ∧ fr [115, 127, 130, 131, 132, 208] N M ∧ ∀ f, f ≠ 4 → M.1 208 f = N.1 208 f := by
  obtain ⟨d1, d2, d3⟩ := hc.od 0 h0
  have g130 : mz_gI N 130 0 = nI (x.op 0) := d1
  have g131 : mz_gI N 131 0 = nI (x.om 0) := d2
  have cl : (nI (x.op 0)).toNatClampNeg = x.op 0 := nI_clamp (by omega)
  have ib : mz_ib (nI (x.op 0)) 3 := ib_n hp (by omega)
  have k11 := hk.2.2.2.2.2.2.2.2.2.2.2.2.1
  have k9 := hk.2.2.2.2.2.2.2.2.2.2.1
  have g127 : mz_gI N 127 (nI (x.op 0)) = H.2.1 9 (x.op 0) := by rw [gI_a, cl]; exact (k11 _ hp).2.2.1
  rw [cp_203_0, cf_203_0, g130, g131, g127, cp_203_41, cf_203_41]
  have e3 : (3000 : Int32) * nI (x.om 0) = nI (3000 * x.om 0) := by rw [show (3000 : Int32) = nI 3000 from rfl, pk_mul]
  rw [e3]
  generalize hK : mz_pI (mz_pI (mz_wI N 127 (nI (x.op 0)) (mz_imin 99 (H.2.1 9 (x.op 0) + nI (x.om 0)))) 208 4 ((mz_wI N 127 (nI (x.op 0)) (mz_imin 99 (H.2.1 9 (x.op 0) + nI (x.om 0)))).1 208 4 + nI (3000 * x.om 0))) 115 5 _ = K
  have a127 : K.1 127 = upd (N.1 127) (x.op 0) (mz_imin 99 (H.2.1 9 (x.op 0) + nI (x.om 0))) := by rw [show K.1 127 = upd (N.1 127) (nI (x.op 0)).toNatClampNeg (mz_imin 99 (H.2.1 9 (x.op 0) + nI (x.om 0))) by rw [← hK]; rfl, cl]
  have a208 : K.1 208 = upd (N.1 208) 4 (N.1 208 4 + nI (3000 * x.om 0)) := by rw [← hK]; rfl
  have a115 : K.1 115 = upd (N.1 115) 5 (nI (x.oc - 1)) := by
    rw [show K.1 115 = upd (N.1 115) 5 (N.1 115 5 - 1) by rw [← hK]; rfl, hc.oc, show (1 : Int32) = nI 1 from rfl, pk_sub h0]
  have fK : fq [115, 127, 208] [] N K := by rw [← hK]; exact fq_pI (fq_pI (fq_wI (fq_refl _ _ _) rfl) rfl) rfl
  clear hK
  obtain ⟨s1, M, s2, s3, s4⟩ := shf_c (N := K) (n := x.oc - 1) (v := nI (x.op 0)) (by rw [a115, up_a, if_pos rfl]) (by omega)
  have f3 : fq [130, 131, 132] [] K M := fq_fr s3
  have ff : fq [115, 127, 130, 131, 132, 208] [] N M := fq_trans (fq_sub fK rfl rfl) (fq_sub f3 rfl rfl)
  have m208 : ∀ f, f ≠ 4 → M.1 208 f = N.1 208 f := fun f hf => by rw [f3.1 208 rfl, a208, up_a, if_neg hf]
  refine ⟨⟨ib, ib, s1⟩, M, s2, ?_, ?_, ⟨ff.1, funext fun c => ff.2 c rfl⟩, m208⟩
  · have A1 : c_kp K b (orH H x) := by
      have A0 : c_kp (mz_sI N 127 (K.1 127)) b (kI H 9 (x.op 0) (mz_imin 99 (H.2.1 9 (x.op 0) + nI (x.om 0)))) := by
        have ft : fq [127] [] N (mz_sI N 127 (K.1 127)) := fq_sI (fq_refl _ _ _) rfl
        refine ckp_11 hk ft rfl rfl (fun _ _ => rfl) (fun f _ _ n9 => kI_1 f n9) (fun _ => rfl) (fun j hj => ?_)
        obtain ⟨a1, a2, a3, a4⟩ := k11 j hj
        rw [ft.1 125 rfl, ft.1 126 rfl, ft.1 128 rfl, sI_e, a127]
        refine ⟨a1, a2, ?_, a4⟩
        show upd _ _ _ j = up (H.2.1 9) (x.op 0) _ j
        rw [up_a, up_d]
        by_cases w : j = x.op 0
        · rw [if_pos w, if_pos w]
        · rw [if_neg w, if_neg w]; exact a3
      have ft : fq [115, 208] [] (mz_sI N 127 (K.1 127)) K := by
        refine ⟨fun c hc => ?_, fun c _ => fK.2 c rfl⟩
        by_cases w : c = 127
        · rw [w, sI_e]
        · rw [sI_n w]
          refine fK.1 c ?_
          have n1 : c ≠ 115 := fun z => by rw [z] at hc; cases hc
          have n2 : c ≠ 208 := fun z => by rw [z] at hc; cases hc
          simp [n1, n2, w]
      refine ckp_9 A0 ft rfl rfl (fun _ => rfl) kI_1 (fun _ _ => rfl) ?_
      rw [a208, fK.2 208 rfl]
      refine ⟨?_, k9.2.1, k9.2.2.1, ?_, ?_⟩
      · rw [up_a, if_neg (by decide)]; exact k9.1
      · rw [up_a, if_neg (by decide)]; exact k9.2.2.2.1
      · rw [up_a, if_pos rfl, k9.2.2.2.2]
        rfl
    exact ckp_q A1 f3 rfl rfl
  · obtain ⟨c1, c2, c3, c4, c5, c6, c7⟩ := hc
    refine ⟨?_, ?_, ?_, fun i hi => ?_, ?_, fun u hu => ?_, ?_⟩
    · rw [ff.1 122 rfl]; exact c1
    · rw [f3.1 115 rfl, a115, up_a, if_neg (by decide)]; exact c2
    · rw [f3.1 115 rfl, a115, up_a, if_pos rfl]; rfl
    · have hi2 : i < x.oc - 1 := hi
      obtain ⟨y1, y2, y3⟩ := c4 (i + 1) (by omega)
      have z1 := s4 0 (by omega) i hi2
      have z2 := s4 1 (by omega) i hi2
      have z3 := s4 2 (by omega) i hi2
      rw [show 130 + 0 = 130 from rfl, fK.1 130 rfl] at z1
      rw [show 130 + 1 = 131 from rfl, fK.1 131 rfl] at z2
      rw [show 130 + 2 = 132 from rfl, fK.1 132 rfl] at z3
      exact ⟨z1.trans y1, z2.trans y2, z3.trans y3⟩
    · rw [ff.1 133 rfl, ff.1 134 rfl]; exact c5
    · have e1 : M.1 (136 + u) = N.1 (136 + u) := by rcases (show u = 0 ∨ u = 1 by omega) with w | w <;> rw [w] <;> exact ff.1 _ rfl
      have e2 : M.1 (139 + u) = N.1 (139 + u) := by rcases (show u = 0 ∨ u = 1 by omega) with w | w <;> rw [w] <;> exact ff.1 _ rfl
      rw [e1, e2]; exact c6 u hu
    · rw [ff.1 141 rfl]; exact c7
theorem imin_99 (S : Int32) : (if 99 < S then (99 : Int32) else S) = mz_imin 99 S := by
  unfold mz_imin
  by_cases w : 99 < S
  · rw [if_pos w, if_neg (fun z => by rw [Int32.lt_iff_toInt_lt] at w z; omega)]
  · rw [if_neg w]
    by_cases z : S < 99
    · rw [if_pos z]
    · rw [if_neg z]
      apply Int32.toInt_inj.mp
      rw [Int32.lt_iff_toInt_lt] at w z
      omega
def shf {α : Type} (f : Nat → α) (k j : Nat) : α := if j + 1 < k then f (j + 1) else f j
def sX (N : mz_N) (k : Nat) : mz_N := mz_sL (mz_sI (mz_sI N 302 (shf (N.1 302) k)) 303 (shf (N.1 303) k)) 304 (shf (N.2 304) k)
theorem shf_u {f : Nat → Int32} {k : Nat} (hk : 0 < k) : upd (shf f k) (k - 1) (f k) = shf f (k + 1) := by
  funext j
  rw [up_a]
  unfold shf
  by_cases w : j = k - 1
  · rw [if_pos w, if_pos (by omega), show j + 1 = k by omega]
  · rw [if_neg w]
    by_cases v : j + 1 < k
    · rw [if_pos v, if_pos (by omega)]
    · rw [if_neg v, if_neg (by omega)]
theorem shf_v {f : Nat → Int64} {k : Nat} (hk : 0 < k) : vp_updL (shf f k) (k - 1) (f k) = shf f (k + 1) := by
  funext j
  rw [upL_a]
  unfold shf
  by_cases w : j = k - 1
  · rw [if_pos w, if_pos (by omega), show j + 1 = k by omega]
  · rw [if_neg w]
    by_cases v : j + 1 < k
    · rw [if_pos v, if_pos (by omega)]
    · rw [if_neg v, if_neg (by omega)]
theorem shf_1 {α : Type} {f : Nat → α} : shf f 1 = f := by
  funext j
  unfold shf
  rw [if_neg (by omega)]
theorem shf_k {α : Type} {f : Nat → α} {k : Nat} : shf f k k = f k := by
  unfold shf
  rw [if_neg (by omega)]
theorem sX_s {k : Nat} (h0 : 0 < k) (h8 : k < 8) : mz_wL (mz_wI (mz_wI (sX N k) 302 (nI k - 1) (mz_gI (sX N k) 302 (nI k))) 303 (nI k - 1) (mz_gI (mz_wI (sX N k) 302 (nI k - 1) (mz_gI (sX N k) 302 (nI k))) 303 (nI k))) 304 (nI k - 1) (mz_gL (mz_wI (mz_wI (sX N k) 302 (nI k - 1) (mz_gI (sX N k) 302 (nI k))) 303 (nI k - 1) (mz_gI (mz_wI (sX N k) 302 (nI k - 1) (mz_gI (sX N k) 302 (nI k))) 303 (nI k))) 304 (nI k)) = sX N (k + 1) := by
  have e1 : nI k - 1 = nI (k - 1) := by rw [show (1 : Int32) = nI 1 from rfl, pk_sub h0]
  have c1 : (nI (k - 1)).toNatClampNeg = k - 1 := nI_clamp (by omega)
  have c2 : (nI k).toNatClampNeg = k := nI_clamp (by omega)
  have g1 : mz_gI (sX N k) 302 (nI k) = N.1 302 k := by rw [gI_a, c2]; show shf (N.1 302) k k = _; exact shf_k
  have g2 : mz_gI (mz_wI (sX N k) 302 (nI (k - 1)) (N.1 302 k)) 303 (nI k) = N.1 303 k := by rw [gI_a, c2]; show shf (N.1 303) k k = _; exact shf_k
  have g3 : mz_gL (mz_wI (mz_wI (sX N k) 302 (nI (k - 1)) (N.1 302 k)) 303 (nI (k - 1)) (N.1 303 k)) 304 (nI k) = N.2 304 k := by rw [gL_a, c2]; show shf (N.2 304) k k = _; exact shf_k
  rw [e1, g1, g2, g3]
  refine mz_ext (fun c => ?_) (fun c => ?_)
  · show (if c = 303 then upd (shf (N.1 303) k) (nI (k - 1)).toNatClampNeg (N.1 303 k) else if c = 302 then upd (shf (N.1 302) k) (nI (k - 1)).toNatClampNeg (N.1 302 k) else if c = 303 then shf (N.1 303) k else if c = 302 then shf (N.1 302) k else N.1 c) = if c = 303 then shf (N.1 303) (k + 1) else if c = 302 then shf (N.1 302) (k + 1) else N.1 c
    rw [c1, shf_u h0, shf_u h0]
    by_cases w : c = 303
    · rw [if_pos w, if_pos w]
    · rw [if_neg w, if_neg w, if_neg w]
      by_cases v : c = 302
      · rw [if_pos v, if_pos v]
      · rw [if_neg v, if_neg v, if_neg v]
  · show (if c = 304 then vp_updL (shf (N.2 304) k) (nI (k - 1)).toNatClampNeg (N.2 304 k) else if c = 304 then shf (N.2 304) k else N.2 c) = if c = 304 then shf (N.2 304) (k + 1) else N.2 c
    rw [c1, shf_v h0]
    by_cases w : c = 304
    · rw [if_pos w, if_pos w]
    · rw [if_neg w, if_neg w, if_neg w]
theorem rec_r (hk : r_kp N H) (hc : crR N H x) (h0 : 0 < x.oc) (h8 : x.oc ≤ 8) (hp : x.op 0 < 3) (hm : x.om 0 < 100000) (hcr : H.2.1 5 2 = nI cr) (hcr2 : cr < 2 ^ 30) : ∃ M, cf_509_37 (nI (x.op 0)) (nI (x.om 0)) 1 N = cf_509_154 (nI (x.op 0)) (cf_471_0 M) ∧ (cp_509_154 (nI (x.op 0)) (cf_471_0 M) → cp_509_37 (nI (x.op 0)) (nI (x.om 0)) 1 N) ∧ r_kp M (orH H x) ∧ crR M (orH H x) (orX x) ∧ fq [232, 302, 303, 306] [232, 304] N M ∧ (∀ f, f ≠ 96 → M.1 232 f = N.1 232 f) ∧ ∀ f, f ≠ 125 → M.2 232 f = N.2 232 f := by
  have cl : (nI (x.op 0)).toNatClampNeg = x.op 0 := nI_clamp (by omega)
  have ib : mz_ib (nI (x.op 0)) 3 := ib_n hp (by omega)
  have k11 := hk.2.2.2.2.2.2.2.2.2.2.2.2.1
  have k9 := hk.2.2.2.2.2.2.2.2.2.2.1
  have L : ∃ M0, fq [302, 303] [304] N M0 ∧ (∀ j, j + 1 < x.oc → M0.1 302 j = N.1 302 (j + 1) ∧ M0.1 303 j = N.1 303 (j + 1) ∧ M0.2 304 j = N.2 304 (j + 1)) ∧ (((cd_509_37 (nI (x.op 0)) (nI (x.om 0)) (nI x.oc, M0)) → cp_509_37 (nI (x.op 0)) (nI (x.om 0)) 1 N) ∧ ∀ r, cq_509_37 (nI (x.op 0)) (nI (x.om 0)) (nI x.oc, M0) = .inr r → cf_509_37 (nI (x.op 0)) (nI (x.om 0)) 1 N = r) := by
    have fX : ∀ k, fq [302, 303] [304] N (sX N k) := fun k => fq_sL (fq_sI (fq_sI (fq_refl _ _ _) rfl) rfl) rfl
    have X1 : sX N 1 = N := by unfold sX; rw [shf_1, shf_1, shf_1, sI_same, sI_same, sL_same]
    refine ⟨sX N x.oc, fX _, fun j hj => ⟨?_, ?_, ?_⟩, ?_⟩
    · show shf (N.1 302) x.oc j = _; unfold shf; rw [if_pos hj]
    · show shf (N.1 303) x.oc j = _; unfold shf; rw [if_pos hj]
    · show shf (N.2 304) x.oc j = _; unfold shf; rw [if_pos hj]
    · have st : ∀ k, k < x.oc - 1 → cd_509_37 (nI (x.op 0)) (nI (x.om 0)) (nI (k + 1), sX N (k + 1)) ∧ cq_509_37 (nI (x.op 0)) (nI (x.om 0)) (nI (k + 1), sX N (k + 1)) = .inl (nI (k + 1 + 1), sX N (k + 1 + 1)) := fun k hk => by
        have e96 : (sX N (k + 1)).1 232 96 = nI x.oc := hc.oc
        have l : nI (k + 1) < nI x.oc := (nI_ltI (by omega) (by omega)).mpr (by omega)
        have ib1 : mz_ib (nI (k + 1)) 8 := ib_n (by omega) (by omega)
        have ib2 : mz_ib (nI (k + 1) - 1) 8 := by rw [show (1 : Int32) = nI 1 from rfl, pk_sub (by omega)]; exact ib_n (by omega) (by omega)
        rw [cd_509_37, cq_509_37]
        simp only [e96, l, if_true, cf_509_87, cp_509_87]
        rw [sX_s (by omega) (by omega), nI_1]
        exact ⟨⟨fun _ => ⟨ib1, ib2, ib1, ib2, ib1, ib2, trivial⟩, fun z => absurd trivial z⟩, rfl⟩
      have e0 : ((1 : Int32), N) = (nI (0 + 1), sX N (0 + 1)) := by rw [show 0 + 1 = 1 from rfl, X1]; rfl
      have en : x.oc - 1 + 1 = x.oc := by omega
      refine ⟨fun hcd => ?_, fun r hr => ?_⟩
      · rw [cp_509_37, e0]
        cases hq : cq_509_37 (nI (x.op 0)) (nI (x.om 0)) (nI x.oc, sX N x.oc) with
        | inr t => exact (mz_lps (f := cq_509_37 (nI (x.op 0)) (nI (x.om 0))) (P := cd_509_37 (nI (x.op 0)) (nI (x.om 0))) (t := t) (x.oc - 1) (fun k => (nI (k + 1), sX N (k + 1))) st (by rw [en]; exact ⟨hcd, hq⟩) (k := 0) (Nat.zero_le _)).1
        | inl s =>
          exfalso
          have e96 : (sX N x.oc).1 232 96 = nI x.oc := hc.oc
          have l : ¬ nI x.oc < nI x.oc := fun q => by have := (nI_ltI (by omega) (by omega)).mp q; omega
          rw [cq_509_37] at hq
          simp only [e96, l, if_false] at hq
          split at hq <;> cases hq
      · rw [cf_509_37, e0]
        exact (mz_lps (f := cq_509_37 (nI (x.op 0)) (nI (x.om 0))) (P := fun _ => True) (t := r) (x.oc - 1) (fun k => (nI (k + 1), sX N (k + 1))) (fun k hk => ⟨trivial, (st k hk).2⟩) (by rw [en]; exact ⟨trivial, hr⟩) (k := 0) (Nat.zero_le _)).2
  obtain ⟨M0, f0, s0, L1, L2⟩ := L
  have e96 : M0.1 232 96 = nI x.oc := by rw [f0.1 232 rfl]; exact hc.oc
  have l : ¬ nI x.oc < nI x.oc := fun q => by have := (nI_ltI (by omega) (by omega)).mp q; omega
  have g306 : mz_gI (mz_pI M0 232 96 (nI (x.oc - 1))) 306 (nI (x.op 0)) = H.2.1 9 (x.op 0) := by
    rw [gI_a, cl, pI_s, sI_n (by decide), f0.1 306 rfl]; exact (k11 _ hp).2.2.1
  have e1 : nI x.oc - 1 = nI (x.oc - 1) := by rw [show (1 : Int32) = nI 1 from rfl, pk_sub h0]
  have e3 : (3000 : Int64) * (nI (x.om 0)).toInt64 = lN (3000 * x.om 0) := by rw [nI_L (by omega), show (3000 : Int64) = lN 3000 from rfl, lN_mul]
  have im := imin_99 (H.2.1 9 (x.op 0) + nI (x.om 0))
  have Q : cq_509_37 (nI (x.op 0)) (nI (x.om 0)) (nI x.oc, M0) = .inr (cf_509_134 (nI (x.op 0)) (mz_imin 99 (H.2.1 9 (x.op 0) + nI (x.om 0))) (nI (x.op 0)) (nI (x.om 0)) (mz_pI M0 232 96 (nI (x.oc - 1)))) := by
    rw [cq_509_37]
    simp only [e96, l, if_false, e1, g306]
    rw [← im]
    by_cases w : 99 < H.2.1 9 (x.op 0) + nI (x.om 0)
    · rw [if_pos w, if_pos w]
    · rw [if_neg w, if_neg w]
  have P : cp_509_134 (nI (x.op 0)) (mz_imin 99 (H.2.1 9 (x.op 0) + nI (x.om 0))) (nI (x.op 0)) (nI (x.om 0)) (mz_pI M0 232 96 (nI (x.oc - 1))) → cd_509_37 (nI (x.op 0)) (nI (x.om 0)) (nI x.oc, M0) := fun hP => by
    rw [cd_509_37]
    simp only [e96, e1, g306]
    refine ⟨fun z => absurd z l, fun _ => ⟨ib, fun w => ?_, fun w => ⟨ib, ?_⟩⟩⟩
    · rw [← im, if_pos w] at hP; exact hP
    · rw [← im, if_neg w] at hP; exact hP
  rw [cf_509_134] at Q
  rw [cp_509_134] at P
  have e125 : (mz_wI (mz_pI M0 232 96 (nI (x.oc - 1))) 306 (nI (x.op 0)) (mz_imin 99 (H.2.1 9 (x.op 0) + nI (x.om 0)))).2 232 125 = lN cr := by
    show M0.2 232 125 = _
    rw [f0.2 232 rfl, k9.2.2.2.2, hcr, nI_L (by omega)]
  rw [e125, e3, lN_add] at Q P
  generalize hM : mz_pL (mz_wI (mz_pI M0 232 96 (nI (x.oc - 1))) 306 (nI (x.op 0)) (mz_imin 99 (H.2.1 9 (x.op 0) + nI (x.om 0)))) 232 125 (lN (cr + 3000 * x.om 0)) = M at Q P
  have fM : fq [232, 306] [232] M0 M := by rw [← hM]; exact fq_pL (fq_wI (fq_pI (fq_refl _ _ _) rfl) rfl) rfl
  have a306 : M.1 306 = upd (N.1 306) (x.op 0) (mz_imin 99 (H.2.1 9 (x.op 0) + nI (x.om 0))) := by
    rw [show M.1 306 = upd (M0.1 306) (nI (x.op 0)).toNatClampNeg (mz_imin 99 (H.2.1 9 (x.op 0) + nI (x.om 0))) by rw [← hM]; rfl, cl, f0.1 306 rfl]
  have a232 : M.1 232 = upd (N.1 232) 96 (nI (x.oc - 1)) := by rw [show M.1 232 = upd (M0.1 232) 96 (nI (x.oc - 1)) by rw [← hM]; rfl, f0.1 232 rfl]
  have b232 : M.2 232 = vp_updL (N.2 232) 125 (lN (cr + 3000 * x.om 0)) := by rw [show M.2 232 = vp_updL (M0.2 232) 125 (lN (cr + 3000 * x.om 0)) by rw [← hM]; rfl, f0.2 232 rfl]
  clear hM
  have ff : fq [232, 302, 303, 306] [232, 304] N M := fq_trans (fq_sub f0 rfl rfl) (fq_sub fM rfl rfl)
  have m1 : ∀ f, f ≠ 96 → M.1 232 f = N.1 232 f := fun f hf => by rw [a232, up_a, if_neg hf]
  have m2 : ∀ f, f ≠ 125 → M.2 232 f = N.2 232 f := fun f hf => by rw [b232, upL_a, if_neg hf]
  refine ⟨M, L2 _ Q, fun hp => L1 (P ⟨ib, hp⟩), ?_, ?_, ff, m1, m2⟩
  · have A0 : r_kp (mz_sI N 306 (M.1 306)) (kI H 9 (x.op 0) (mz_imin 99 (H.2.1 9 (x.op 0) + nI (x.om 0)))) := by
      have ft : fq [306] [] N (mz_sI N 306 (M.1 306)) := fq_sI (fq_refl _ _ _) rfl
      refine rkp_11 hk ft rfl rfl (by rw [ft.1 232 rfl]) (by rw [ft.1 232 rfl]) (fun f _ => by rw [ft.2 232 rfl]) (fun _ _ => rfl) (fun f _ _ n9 => kI_1 f n9) (fun _ => rfl) (fun j hj => ?_)
      obtain ⟨a1, a2, a3, a4⟩ := k11 j hj
      rw [ft.1 250 rfl, ft.2 305 rfl, ft.1 307 rfl, sI_e, a306]
      refine ⟨a1, a2, ?_, a4⟩
      show upd _ _ _ j = up (H.2.1 9) (x.op 0) _ j
      rw [up_a, up_d]
      by_cases w : j = x.op 0
      · rw [if_pos w, if_pos w]
      · rw [if_neg w, if_neg w]; exact a3
    have ft : fq [232, 302, 303] [232, 304] (mz_sI N 306 (M.1 306)) M := by
      refine ⟨fun c hc => ?_, fun c hc => ff.2 c hc⟩
      by_cases w : c = 306
      · rw [w, sI_e]
      · rw [sI_n w]
        refine ff.1 c ?_
        have n1 : c ≠ 232 := fun z => by rw [z] at hc; cases hc
        have n2 : c ≠ 302 := fun z => by rw [z] at hc; cases hc
        have n3 : c ≠ 303 := fun z => by rw [z] at hc; cases hc
        simp [n1, n2, n3, w]
    refine rkp_9 A0 ft rfl rfl (m1 27 (by decide)) (m1 21 (by decide)) (fun _ => rfl) kI_1 (fun _ _ => rfl) ?_
    refine ⟨?_, ?_, ?_, ?_, ?_⟩
    · rw [m2 2 (by decide)]; exact k9.1
    · rw [m2 122 (by decide)]; exact k9.2.1
    · rw [m2 123 (by decide)]; exact k9.2.2.1
    · rw [m2 124 (by decide)]; exact k9.2.2.2.1
    · show _ = (H.2.1 5 2 + nI (3000 * x.om 0)).toInt64
      rw [b232, upL_a, if_pos rfl, hcr, nI_add, nI_L (by omega)]
  · obtain ⟨c1, c2, c3, c4, c5, c6, c7⟩ := hc
    refine ⟨?_, ?_, ?_, fun i hi => ?_, ?_, ?_, ?_⟩
    · rw [ff.1 293 rfl]; exact c1
    · rw [m2 87 (by decide)]; exact c2
    · rw [a232, up_a, if_pos rfl]; rfl
    · have hi2 : i < x.oc - 1 := hi
      obtain ⟨y1, y2, y3⟩ := c4 (i + 1) (by omega)
      obtain ⟨z1, z2, z3⟩ := s0 i (by omega)
      rw [fM.1 302 rfl, fM.1 303 rfl, fM.2 304 rfl]
      exact ⟨z1.trans y1, z2.trans y2, z3.trans y3⟩
    · rw [ff.2 298 rfl]; exact c5
    · rw [ff.1 296 rfl, ff.1 297 rfl, ff.2 298 rfl]; exact c6
    · rw [ff.1 294 rfl, ff.2 295 rfl]; exact c7
end Or
