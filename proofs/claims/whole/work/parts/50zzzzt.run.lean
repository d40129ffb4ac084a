/-! PURE (50zzzzt): minutes on end; memories that agree. -/
section Rn
variable {N1 N2 : mz_N} {b : Bool} {B q tm n : Nat} {s : st_S} {D H : Kp} {x : CrS} {L : LvS}
theorem run_l (hq : q + n < 2 ^ 15) (hB : B + 14 * n < 2 ^ 30) (h : MR q B s D H x L N1 b N2) (ht : H.2.1 5 0 = nI tm) (ht2 : tm + n ≤ 2000000) :
    cp_198_35 (nI n) 0 N1 b ∧ cp_506_39 (nI n) 0 N2 ∧ ∃ w K1 K2, cf_198_35 (nI n) 0 N1 b = (0, (if w = true then nI (tm + n) else -1001), K1) ∧ cf_506_39 (nI n) 0 N2 = ((if w = true then nI (tm + n) else -1001), K2) ∧ mnF N1 N2 K1 K2 ∧ (w = true → ∃ B' s' D' H' x' L', B' ≤ B + 14 * n ∧ MR (q + n) B' s' D' H' x' L' K1 b K2 ∧ H'.2.1 5 0 = nI (tm + n) ∧ (∀ f, f < 7 ∨ 12 ≤ f → H'.1 f = H.1 f) ∧ L'.S = L.S ∧ LsF H L L') ∧ (w = false → ∃ D', Dwn (B + 14 * n) D' K1 K2 ∧ Jd (q + n) D') := by
  have nf : ¬ (false = true) := fun z => by cases z
  rw [cp_198_35, cf_198_35, cp_506_39, cf_506_39]
  refine mz_lp2n (f := cq_198_35 (nI n) b) (P := cd_198_35 (nI n) b) (g := cq_506_39 (nI n)) (P2 := cd_506_39 (nI n)) (Q := fun r1 r2 => ∃ w K1 K2, r1 = (0, (if w = true then nI (tm + n) else -1001), K1) ∧ r2 = ((if w = true then nI (tm + n) else -1001), K2) ∧ mnF N1 N2 K1 K2 ∧ (w = true → ∃ B' s' D' H' x' L', B' ≤ B + 14 * n ∧ MR (q + n) B' s' D' H' x' L' K1 b K2 ∧ H'.2.1 5 0 = nI (tm + n) ∧ (∀ f, f < 7 ∨ 12 ≤ f → H'.1 f = H.1 f) ∧ L'.S = L.S ∧ LsF H L L') ∧ (w = false → ∃ D', Dwn (B + 14 * n) D' K1 K2 ∧ Jd (q + n) D')) n (fun k s1 s2 => ∃ M1 M2, s1 = (nI k, M1) ∧ s2 = (nI k, M2) ∧ mnF N1 N2 M1 M2 ∧ ∃ B' s' D' H' x' L', B' ≤ B + 14 * k ∧ MR (q + k) B' s' D' H' x' L' M1 b M2 ∧ H'.2.1 5 0 = nI (tm + k) ∧ (∀ f, f < 7 ∨ 12 ≤ f → H'.1 f = H.1 f) ∧ L'.S = L.S ∧ LsF H L L') ?_ ?_ (Nat.zero_le _) ⟨N1, N2, rfl, rfl, mnF_r _ _, B, s, D, H, x, L, Nat.le_refl _, h, ht, fun _ _ => rfl, rfl, rfl, fun _ _ => rfl⟩
  · rintro k s1 s2 hk ⟨M1, M2, rfl, rfl, F, B', s', D', H', x', L', j1, j2, j3, j4, j5, j6⟩
    have l : nI k < nI n := (nI_ltI (by omega) (by omega)).mpr hk
    obtain ⟨p1, p2, w, K1, K2, o1, o2, o3, o4, o5⟩ := minute_ok (tm := tm + k) (show q + k + 1 < 2 ^ 15 by omega) (show B' + 14 < 2 ^ 30 by omega) j2 j3 (by omega)
    rw [cd_198_35, cq_198_35, cd_506_39, cq_506_39]
    simp only [l, if_true, o1, o2]
    refine ⟨⟨fun _ => p1, fun z => absurd trivial z⟩, ⟨fun _ => p2, fun z => absurd trivial z⟩, ?_⟩
    cases w with
    | true =>
      obtain ⟨B2, s2, D2, H2, x2, L2, i1, i2, i3, i4, i5, i6⟩ := o4 rfl
      rw [if_pos rfl, if_pos rfl]
      exact Or.inl ⟨_, _, rfl, rfl, K1, K2, by rw [nI_1], by rw [nI_1], mnF_t F o3, B2, s2, D2, H2, x2, L2, by omega, i2, i3, fun f hf => (i4 f hf).trans (j4 f hf), i5.trans j5, i6.1.trans j6.1, fun j hj => (i6.2 j (by rw [j4 19 (by omega)]; exact hj)).trans (j6.2 j hj)⟩
    | false =>
      obtain ⟨D2, i1, i2⟩ := o5 rfl
      rw [if_neg nf, if_neg nf]
      exact Or.inr ⟨_, _, rfl, rfl, false, K1, K2, rfl, rfl, mnF_t F o3, fun z => absurd z nf, fun _ => ⟨D2, Dwn_m (by omega) i1, Jd_m (by omega) i2⟩⟩
  · rintro s1 s2 ⟨M1, M2, rfl, rfl, F, B', s', D', H', x', L', j1, j2, j3, j4, j5, j6⟩
    have l : ¬ nI n < nI n := fun z => by have := (nI_ltI (by omega) (by omega)).mp z; omega
    have k9 := j2.cs.ks.kc.2.2.2.2.2.2.2.2.2.2.1
    have r9 := j2.cs.ks.kr.2.2.2.2.2.2.2.2.2.2.1
    have e1 : M1.1 208 0 = nI (tm + n) := k9.1.trans j3
    have e2 : (M2.2 232 2).toInt32 = nI (tm + n) := by rw [r9.1, j3, nI_L (by omega), lN_32 (by omega)]
    rw [cd_198_35, cq_198_35, cd_506_39, cq_506_39]
    simp only [l, if_false, e1, e2]
    exact ⟨⟨False.elim, fun _ => trivial⟩, ⟨False.elim, fun _ => trivial⟩, _, _, rfl, rfl, true, M1, M2, rfl, rfl, F, fun _ => ⟨B', s', D', H', x', L', j1, j2, j3, j4, j5, j6⟩, fun z => by cases z⟩
end Rn
/-- alike in the cells of the first house, of the second -/
def lo (N M : mz_N) : Prop := ∀ c, c < 232 → M.1 c = N.1 c ∧ M.2 c = N.2 c
def up2 (N M : mz_N) : Prop := ∀ c, 232 ≤ c → c < 342 → M.1 c = N.1 c ∧ M.2 c = N.2 c
section Ag
variable {N M N1 N2 M1 M2 : mz_N} {b : Bool} {B q : Nat} {s : st_S} {D H : Kp} {x : CrS} {L : LvS} {e fl : Nat → Nat}
theorem c_kp_e (h : lo N M) (hk : c_kp N b H) : c_kp M b H := by
  have e1 : ∀ c, c < 232 → M.1 c = N.1 c := fun c hc => (h c hc).1
  have e2 : ∀ c, c < 232 → M.2 c = N.2 c := fun c hc => (h c hc).2
  have lb := lv_b b
  unfold c_kp at hk ⊢
  rw [e2 213 (by omega), e2 214 (by omega), e2 208 (by omega), e1 3 (by omega), e1 37 (by omega), e1 40 (by omega), e1 66 (by omega), e1 67 (by omega), e1 (mz_lv b) (by omega), e1 (mz_lv b + 1) (by omega), e1 62 (by omega), e1 63 (by omega), e1 210 (by omega), e1 211 (by omega), e1 212 (by omega), e1 208 (by omega), e1 215 (by omega), e1 125 (by omega), e1 126 (by omega), e1 127 (by omega), e1 128 (by omega), e1 123 (by omega), e1 118 (by omega), e1 119 (by omega), e1 120 (by omega), e1 121 (by omega), e1 117 (by omega), e1 101 (by omega), e1 102 (by omega), e1 103 (by omega), e1 104 (by omega), e1 105 (by omega), e1 106 (by omega), e1 107 (by omega), e1 108 (by omega), e1 87 (by omega), e1 88 (by omega), e1 89 (by omega)]
  exact hk
theorem r_kp_e (h : up2 N M) (hk : r_kp N H) : r_kp M H := by
  have e1 : ∀ c, 232 ≤ c → c < 342 → M.1 c = N.1 c := fun c a d => (h c a d).1
  have e2 : ∀ c, 232 ≤ c → c < 342 → M.2 c = N.2 c := fun c a d => (h c a d).2
  unfold r_kp at hk ⊢
  rw [e1 232 (by omega) (by omega), e2 232 (by omega) (by omega), e1 233 (by omega) (by omega), e1 234 (by omega) (by omega), e1 244 (by omega) (by omega), e1 245 (by omega) (by omega), e1 246 (by omega) (by omega), e1 252 (by omega) (by omega), e1 247 (by omega) (by omega), e1 248 (by omega) (by omega), e2 321 (by omega) (by omega), e2 322 (by omega) (by omega), e2 323 (by omega) (by omega), e2 324 (by omega) (by omega), e2 325 (by omega) (by omega), e1 249 (by omega) (by omega), e1 250 (by omega) (by omega), e2 305 (by omega) (by omega), e1 306 (by omega) (by omega), e1 307 (by omega) (by omega), e1 287 (by omega) (by omega), e1 288 (by omega) (by omega), e1 289 (by omega) (by omega), e1 290 (by omega) (by omega), e2 291 (by omega) (by omega), e2 292 (by omega) (by omega), e1 308 (by omega) (by omega), e1 309 (by omega) (by omega), e1 310 (by omega) (by omega), e1 311 (by omega) (by omega), e1 312 (by omega) (by omega), e1 313 (by omega) (by omega), e1 314 (by omega) (by omega), e1 315 (by omega) (by omega), e1 282 (by omega) (by omega), e1 283 (by omega) (by omega), e1 284 (by omega) (by omega)]
  exact hk
theorem crC_e (h : lo N M) (hc : crC N H x) : crC M H x := by
  have e1 : ∀ c, c < 232 → M.1 c = N.1 c := fun c hc => (h c hc).1
  obtain ⟨c1, c2, c3, c4, c5, c6, c7⟩ := hc
  refine ⟨by rw [e1 122 (by omega)]; exact c1, by rw [e1 115 (by omega)]; exact c2, by rw [e1 115 (by omega)]; exact c3, by rw [e1 130 (by omega), e1 131 (by omega), e1 132 (by omega)]; exact c4, by rw [e1 133 (by omega), e1 134 (by omega)]; exact c5, fun u hu => ?_, by rw [e1 141 (by omega)]; exact c7⟩
  rw [e1 (136 + u) (by omega), e1 (139 + u) (by omega)]; exact c6 u hu
theorem crR_e (h : up2 N M) (hc : crR N H x) : crR M H x := by
  have e1 : ∀ c, 232 ≤ c → c < 342 → M.1 c = N.1 c := fun c a d => (h c a d).1
  have e2 : ∀ c, 232 ≤ c → c < 342 → M.2 c = N.2 c := fun c a d => (h c a d).2
  obtain ⟨c1, c2, c3, c4, c5, c6, c7⟩ := hc
  exact ⟨by rw [e1 293 (by omega) (by omega)]; exact c1, by rw [e2 232 (by omega) (by omega)]; exact c2, by rw [e1 232 (by omega) (by omega)]; exact c3, by rw [e1 302 (by omega) (by omega), e1 303 (by omega) (by omega), e2 304 (by omega) (by omega)]; exact c4, by rw [e2 298 (by omega) (by omega)]; exact c5, by rw [e1 296 (by omega) (by omega), e1 297 (by omega) (by omega), e2 298 (by omega) (by omega)]; exact c6, by rw [e1 294 (by omega) (by omega), e2 295 (by omega) (by omega)]; exact c7⟩
theorem MR_e (h1 : lo N1 M1) (h2 : up2 N2 M2) (h : MR q B s D H x L N1 b N2) : MR q B s D H x L M1 b M2 := by
  have e1 : ∀ c, c < 232 → M1.1 c = N1.1 c := fun c hc => (h1 c hc).1
  have f1 : ∀ c, c < 232 → M1.2 c = N1.2 c := fun c hc => (h1 c hc).2
  have e2 : ∀ c, 232 ≤ c → c < 342 → M2.1 c = N2.1 c := fun c a d => (h2 c a d).1
  have f2 : ∀ c, 232 ≤ c → c < 342 → M2.2 c = N2.2 c := fun c a d => (h2 c a d).2
  refine ⟨⟨⟨h.cs.ks.ok, st_cF h.cs.ks.c (e1 221 (by omega)) (e1 222 (by omega)) (e1 223 (by omega)) (e1 224 (by omega)) (fun f _ _ => by rw [e1 219 (by omega)]), st_rF h.cs.ks.r (e2 329 (by omega) (by omega)) (e2 330 (by omega) (by omega)) (e2 331 (by omega) (by omega)) (fun f _ => by rw [e2 232 (by omega) (by omega)]) (by rw [f2 232 (by omega) (by omega)]), c_kp_e h1 h.cs.ks.kc, r_kp_e h2 h.cs.ks.kr, h.cs.ks.hb, zv_f h.cs.ks.zv (e1 134 (by omega))⟩, crC_e h1 h.cs.cc, crR_e h2 h.cs.cr⟩, LR_x h.lr (fun z hz => e1 z (by omega)) (fun z hz => f1 z (by omega)) (fun z a c => e2 z (by omega) (by omega)) (fun z a c => f2 z (by omega) (by omega)) (fun f _ => by rw [e2 232 (by omega) (by omega)]) (fun f _ => by rw [f2 232 (by omega) (by omega)]), h.iv⟩
end Ag
