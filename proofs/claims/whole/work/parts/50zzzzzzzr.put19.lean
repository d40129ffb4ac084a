/-! PURE (50zzzzzzzr): put: a reel is taken. -/
section Tk
variable {N1 N2 M1 M2 : mz_N} {b : Bool} {B C q : Nat} {s : st_S} {D H : Kp} {kt : Nat → Bool} {kb : Nat → Nat → Nat}
theorem take_ok (hq : q < 2 ^ 15) (hC : C + 1 < 2 ^ 30) (hk : KS C s D H M1 b M2) (hj : Jd q D) (t : rKt M1 M2 kt kb) (hs : M1.2 56 15 = M2.2 232 1) :
    cp_406_0 M1 ∧ cp_475_0 336 337 M2 ∧ ∃ K1 K2 ok, cf_475_0 336 337 M2 = (ok, K2) ∧ cf_406_0 M1 = (ok, K1) ∧ oF M1 M2 K1 K2 ∧ K2.1 232 0 = M2.1 232 0 ∧ (ok = false → Dn q (C + 1) K1 K2) ∧
      (ok = true → cp_17_0 K1 b ∧ cp_607_41 0 K2 ∧ ∃ P1 P2, cf_17_0 K1 b = (P1, !b) ∧ cf_607_41 0 K2 = (0, P2) ∧ oF K1 K2 P1 P2 ∧ P2.1 232 0 = K2.1 232 0 ∧ Up (q + 1) (C + 1) P1 (!b) P2) := by
  obtain ⟨d, z, a, gn, us, k0, b0⟩ := s
  obtain ⟨⟨⟨o1, o2, o3, o4, o5, o6, o7⟩, hD⟩, hst⟩ := hk.ok
  obtain ⟨n1, n2, n3, n4, n5, n6, n7, n8⟩ := hk.c
  obtain ⟨r1, r2, r3, r4, r5, r6, r7, r8⟩ := hk.r
  simp only at o1 o2 o3 o4 o5 o6 o7 hD hst n1 n2 n3 n4 n5 n6 n7 n8 r1 r2 r3 r4 r5 r6 r7 r8
  have hdz := dz_k hk.kr hk.hb
  have hzv := hk.zv
  obtain ⟨s1, K1, s2, s3, s4, s5⟩ := c_snap (N := M1) (kt := kt) (kb := kb) (d := d) (a1 := 230) (a2 := 231) (a := a) (gn := gn) (B := C) (z := z) o3 (by omega) o4 o5 rfl rfl n2 n3 t.t (fun k hk _ i hi => t.c k hk i hi) t.g n1 o1 n6
  obtain ⟨v1, K2, v2, v3, v4, v5, v6, v7⟩ := r_snap (N := M2) (kt := kt) (kb := kb) (d := d) (a1 := 336) (a2 := 337) (a := a) (gn := gn) (B := C) (z := z) o3 (by omega) o4 o5 r5 r2 r3 rfl rfl t.s t.r t.g r1 o1 r6
  have hnx : nxg d (1 - a) gn ≤ C + 1 := by
    have q1 := o5 (1 - a) 0 (by omega) (by omega)
    have q2 := o5 (1 - a) 1 (by omega) (by omega)
    have q3 : max (ag d (1 - a) 0) (ag d (1 - a) 1) ≤ C := Nat.max_le.mpr ⟨q1, q2⟩
    have q4 : max gn (max (ag d (1 - a) 0) (ag d (1 - a) 1)) ≤ C := Nat.max_le.mpr ⟨o4, q3⟩
    unfold nxg
    omega
  have y1 := sn_DI2 (kt := kt) (kb := kb) (z := z) hD (fun k hk w i _ => t.a k hk w i) (by omega) t.g
  have y2 := sn_lth (kt := kt) (kb := kb) (z := z) (to := 1 - a) (g := lN (nxg d (1 - a) gn)) o1 t.g
  have y4 := sn_agh (kt := kt) (kb := kb) (z := z) (to := 1 - a) (show nxg d (1 - a) gn < 2 ^ 32 by omega) hnx t.g (fun a n h1 h2 => Nat.le_succ_of_le (o5 a n h1 h2))
  have c135 := cpk135 kt
  generalize nxg d (1 - a) gn = gg at *
  generalize sn kt kb (1 - a) (lN gg) d z = S at *
  generalize cnt kt 135 = cc at *
  have e2 : ∀ c, c ≠ 232 → c ≠ 329 → c ≠ 332 → c ≠ 341 → K2.1 c = M2.1 c := fun c w1 w2 w3 w4 => v3.1 c (by simp [w1, w2, w3, w4])
  have hl : K2.2 232 1 = M2.2 232 1 := by
    rw [v7]
    by_cases w : S.2.2.2 = true
    · rw [if_pos w]; rfl
    · rw [if_neg w]
  have h00 : K2.1 232 0 = M2.1 232 0 := by
    rw [v6]
    by_cases w : S.2.2.2 = true
    · rw [if_pos w]; rfl
    · rw [if_neg w]; rfl
  have oK : oF M1 M2 K1 K2 := by
    refine ⟨fun c hc => ⟨s3.1 c ?_, by rw [s3.2]⟩, fun c hc => ⟨e2 c (by omega) (by omega) (by omega) (by omega), v4 c (by omega)⟩⟩
    have w1 : c ≠ 219 := by omega
    have w2 : c ≠ 221 := by omega
    have w3 : c ≠ 222 := by omega
    have w4 : c ≠ 225 := by omega
    simp [w1, w2, w3, w4]
  cases ho : S.2.2.2 with
  | false =>
    rw [ho] at s2 v2
    rw [if_neg (by rw [ho]; exact Bool.false_ne_true)] at s5 v6
    refine ⟨s1, v1, K1, K2, false, v2, ?_, oK, h00, fun _ => ⟨D, ⟨S.1, k0, b0, s4, v5, by rw [s5]; rfl, by rw [v6]; rfl, ⟨y2, y4, o7, a, gn, us, by omega, y1.2 ho⟩, hst, ?_, zv_f hzv (s3.1 134 rfl)⟩, hj, ?_⟩, (fun w => by cases w)⟩
    · rw [cf_406_0, s2, if_neg Bool.false_ne_true]
    · unfold dz; rw [e2 308 (by decide) (by decide) (by decide) (by decide), e2 311 (by decide) (by decide) (by decide) (by decide), e2 282 (by decide) (by decide) (by decide) (by decide), e2 287 (by decide) (by decide) (by decide) (by decide)]; exact hdz
    · rw [s3.2, hl]; exact hs
  | true =>
    rw [ho] at s2 v2
    rw [if_pos ho] at s5 v6 v7
    obtain ⟨f, g, w1, w2, w3⟩ := c407 K1
    have AN : ∀ f' g', rCy kt kb f' g' → cp_17_0 (cf_407_0 K1) b ∧ cp_414_0 (mz_sI (mz_sI K2 330 f') 331 g') ∧ ∃ P1, cf_17_0 (cf_407_0 K1) b = (P1, !b) ∧ oF (cf_407_0 K1) (mz_sI (mz_sI K2 330 f') 331 g') P1 (cf_414_0 (mz_sI (mz_sI K2 330 f') 331 g')) ∧ (cf_414_0 (mz_sI (mz_sI K2 330 f') 331 g')).1 232 0 = (mz_sI (mz_sI K2 330 f') 331 g').1 232 0 ∧ Up (q + 1) (C + 1) P1 (!b) (cf_414_0 (mz_sI (mz_sI K2 330 f') 331 g')) := fun f' g' hfg => by
      rw [w1]
      refine anew_ok (s := (S.1, -1, 1 - a, gg, cc + 1, kt, kb)) (D := rD kt kb) hq ⟨⟨⟨y2, Or.inl rfl, by simp only; omega, hnx, y4, by simp only; omega, t.g⟩, y1.1 ho⟩, rD_st t.l t.g t.a⟩ rfl ?_ ?_ ?_ ?_ ?_ ?_ ?_ ?_ ?_ ?_ ?_ ?_ ?_ (rD_Jd t.l t.g t.a) ?_ ?_
      · intro a' ha' j hj
        rw [sI_n (by omega), sI_n (by omega)]; exact s4 a' ha' j hj
      · rw [sI_n (by decide), sI_n (by decide), s5]; rfl
      · rw [sI_n (by decide), sI_n (by decide), s5]; rfl
      · rw [sI_n (by decide), sI_n (by decide), s5]; rfl
      · rw [sI_n (by decide), sI_n (by decide), s5]; exact n5
      · intro k hk j hj
        rw [sI_n (by decide), sI_e, w2 _ (by omega), s3.1 230 rfl]; exact t.c k hk j hj
      · intro k hk
        rw [sI_e, w3 k hk, s3.1 231 rfl]; exact t.t k hk
      · intro a' ha' j hj
        rw [sI_n (by decide), sI_n (by decide)]; exact v5 a' ha' j hj
      · rw [sI_n (by decide), sI_n (by decide), v6]; rfl
      · rw [sI_2, sI_2, v7]; rfl
      · rw [sI_n (by decide), sI_n (by decide), v6]; rfl
      · intro k hk hkt j hj
        rw [sI_e]; exact hfg.2 k hk hkt j hj
      · intro k hk
        rw [sI_n (by decide), sI_e]; exact hfg.1 k hk
      · exact zv_f hzv (by rw [sI_n (by decide), sI_n (by decide)]; exact s3.1 134 rfl)
      · rw [sI_2, sI_2, sI_2, sI_2, s3.2, hl]; exact hs
    obtain ⟨u1, f', g', u2, u3⟩ := r_cp2 (K := K2) (kt := kt) (kb := kb) (by rw [e2 336 (by decide) (by decide) (by decide) (by decide)]; exact t.s) (by rw [e2 337 (by decide) (by decide) (by decide) (by decide)]; exact t.r) (fun f' g' hfg => (AN f' g' hfg).2.1)
    obtain ⟨x1, x2, P1, x3, x4, x5, x6⟩ := AN f' g' u3
    have o4' : oF M1 M2 (cf_407_0 K1) K2 := by
      refine ⟨fun c hc => ?_, oK.2⟩
      rw [w1, sI_n (by omega), sI_n (by omega), sI_2, sI_2]; exact oK.1 c hc
    refine ⟨s1, v1, cf_407_0 K1, K2, true, v2, ?_, o4', h00, (fun w => by cases w), fun _ => ⟨x1, u1, P1, _, x3, u2, ?_, x5, x6⟩⟩
    · rw [cf_406_0, s2, if_pos rfl]
    · refine ⟨x4.1, fun c hc => ?_⟩
      have := x4.2 c hc
      rw [sI_n (by omega), sI_n (by omega), sI_2, sI_2] at this
      exact this
theorem put_al (hq : q < 2 ^ 15) (hB : B + 1 < 2 ^ 30) (h : Sm q B N1 b N2) : cp_384_0 N1 b ∧ cp_607_0 N2 ∧ cab1 (q + 1) (B + 1) N1 N2 (cf_384_0 N1 b) (cf_607_0 N2) := by
  rcases Sm_0 h with ⟨hu, u1, u2, F1, Ft, Ff, Fs, F3, F4⟩ | ⟨u1, u2, F1, Fd, F3, F4⟩
  · obtain ⟨p, C, s, D, H, x, L, R, h1, h2, h3, h4, h5, h6⟩ := Up_code (c := 0) hu
    have e0 : (mz_pI N2 232 0 0).1 232 0 = 0 := code_0
    have oY : oF N1 N2 N1 (mz_pI N2 232 0 0) := oF_code
    rw [cp_384_0, cf_384_0, cp_607_0, cf_607_0, u2, F4]
    generalize mz_pI N2 232 0 0 = Y at h3 h4 e0 oY ⊢
    have hk := h3.cs.ks
    have hbH := hk.hb
    obtain ⟨k1, k2, k3, k4, k5, k6, k6b, k7⟩ := id hk.kr
    obtain ⟨re1, re2, re3, re4⟩ := h4.re
    obtain ⟨n, en⟩ : ∃ n, n = R.rn := ⟨_, rfl⟩
    rw [← en] at re1 re2 re3 re4
    obtain ⟨ra, era⟩ : ∃ ra : Nat → Nat, ra = fun j => if j < n then R.ra j else 0 := ⟨_, rfl⟩
    have rlt : ∀ j, j < n → ra j = R.ra j := fun j hj => by rw [era]; exact if_pos hj
    have r8 : ∀ j, ra j < 256 := fun j => by
      by_cases w : j < n
      · rw [rlt j w]; exact (re4 j w).2.2
      · rw [era]; show (if j < n then R.ra j else 0) < 256; rw [if_neg w]; omega
    obtain ⟨q1, q2, q3, q4, q5⟩ := id h3.lr.pr
    rw [h4.sp] at q4 q5
    obtain ⟨p1, p2, J, M1, M2, j1, j2, j3, j4, j5, j6⟩ := judge (N1 := N1) (N2 := Y) (b := b) (e := H.1 0) (fl := H.1 1) (tx := H.1 4) (m := H.1 5 0) (ra := ra) (rn := n) r8 re3 re1 (fun i hi => by rw [rlt i hi]; exact (re4 i hi).1) re2 (fun i hi => by rw [rlt i hi]; exact (re4 i hi).2.1) h3.iv.pl.n h3.lr.pl.2 (fun i hi => ⟨k1 i hi, h3.iv.pl.e4 i hi⟩) k6 hbH.2.2.2.2.1 (fun j hj => by have := hbH.2.2.2.2.1; exact k6b j (by omega)) hbH.2.2.2.2.2.1 h3.iv.pr q4 q5
    rw [← h4.sp] at j5
    obtain ⟨m1, m2⟩ := jw_MR h3 h4 j4 j5
    have o1 : oF N1 N2 M1 M2 := oF_t oY (oF_q j4.f j5.f rfl rfl rfl rfl)
    have z0 : M2.1 232 0 = 0 := by rw [j5.i 0 (by decide) (by decide) (by decide) (by decide) (by decide) (by decide)]; exact e0
    have nf : ¬ (false = true) := fun z => by cases z
    rw [if_pos rfl, if_neg nf, j2, j3]
    by_cases w : J = 0
    · obtain ⟨kt, kb, t⟩ := j6 w
      have wc : nI J = 0 := by rw [w]; rfl
      have wr : ¬ 0 < nI J := by rw [w]; decide
      dsimp only
      rw [if_pos wc, if_neg wr]
      obtain ⟨t1, t2, K1, K2, ok, t3, t4, t5, t6, t7, t8⟩ := take_ok hq (by omega) m1.cs.ks (Jd_m h1 h3.iv.jd) t (by rw [m1.lr.sd.1, m1.lr.sd.2])
      rw [t3, t4]
      dsimp only
      cases ok with
      | false =>
        rw [if_neg nf, if_neg nf]
        refine ⟨⟨u1, fun _ => ⟨p1, fun _ => ⟨t1, fun z => absurd z nf, fun _ => trivial⟩, fun _ => trivial⟩, fun _ => trivial⟩, ⟨F3, fun _ => trivial, fun _ => ⟨p2, fun _ => trivial, fun _ => ⟨t2, fun z => absurd z nf, fun _ => trivial⟩⟩⟩, ?_⟩
        show cal1 (q + 1) (B + 1) b N1 N2 (0, -1001, K1) (-1001, K2)
        exact ⟨Or.inl rfl, (by show K2.1 232 0 = nI (0 / 2); rw [show (0 : Nat) / 2 = 0 from rfl, t6, z0]; rfl), fun _ => rfl, oF_t o1 t5, Or.inr (Dn_m (by omega) (by omega) (t7 rfl))⟩
      | true =>
        obtain ⟨x1, x2, P1, P2, x3, x4, x5, x6, x7⟩ := t8 rfl
        rw [if_pos rfl, if_pos rfl, x3, x4]
        refine ⟨⟨u1, fun _ => ⟨p1, fun _ => ⟨t1, fun _ => x1, fun _ => trivial⟩, fun _ => trivial⟩, fun _ => trivial⟩, ⟨F3, fun _ => trivial, fun _ => ⟨p2, fun _ => trivial, fun _ => ⟨t2, fun _ => x2, fun _ => trivial⟩⟩⟩, ?_⟩
        show cal1 (q + 1) (B + 1) (!b) N1 N2 (0, 0, P1) (0, P2)
        exact cal1_u (by rw [x6, t6, z0]) rfl (oF_t (oF_t o1 t5) x5) (Up_m (by omega) (by omega) x7)
    · have wc : ¬ nI J = 0 := fun z => w ((nI_eq (b := 0) (by omega) (by omega)).mp z)
      have wr : 0 < nI J := by
        show nI 0 < _
        exact (nI_ltI (by omega) (by omega)).mpr (by omega)
      dsimp only
      rw [if_neg wc, if_pos wr]
      refine ⟨⟨u1, fun _ => ⟨p1, fun z => absurd z wc, fun _ => trivial⟩, fun _ => trivial⟩, ⟨F3, fun _ => trivial, fun _ => ⟨p2, fun _ => trivial, fun z => absurd wr z⟩⟩, ?_⟩
      show cal1 (q + 1) (B + 1) b N1 N2 (0, nI J, M1) (nI J, M2)
      exact cal1_u z0 rfl o1 ⟨p, C, s, D, H, x, L, R, by omega, by omega, m1, m2, by omega, h6⟩
  · refine ⟨?_, ?_, ?_⟩
    · rw [cp_384_0, u2]
      exact ⟨u1, (fun z => by cases z), fun _ => trivial⟩
    · rw [cp_607_0, F4]
      exact ⟨F3, fun _ => trivial, fun z => absurd rfl z⟩
    · have e1 : cf_384_0 N1 b = (2, 0, N1, b) := by rw [cf_384_0, u2, if_neg (by decide)]
      have e2 : cf_607_0 N2 = (0, mz_pI N2 232 0 1) := by rw [cf_607_0, F4, if_pos rfl]
      rw [e1, e2]
      show cal1 (q + 1) (B + 1) b N1 N2 (2, 0, N1) (0, mz_pI N2 232 0 1)
      exact cal1_d (a := 0) (a' := 0) (Sm_m (by omega) (Nat.le_succ _) h) rfl rfl
end Tk
