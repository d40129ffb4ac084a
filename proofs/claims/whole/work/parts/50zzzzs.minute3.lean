/-! PURE (50zzzzs): a minute, both sides together. -/
def MR (q B : Nat) (s : st_S) (D H : Kp) (x : CrS) (L : LvS) (N1 : mz_N) (b : Bool) (N2 : mz_N) : Prop := (CS B s D H x N1 b N2) ∧ (LR q (H.1 0) (H.1 1) L N1 b N2) ∧ (IvS q false (fun _ => 0) D H x)
theorem MR.cs {q B : Nat} {s : st_S} {D H : Kp} {x : CrS} {L : LvS} {N1 : mz_N} {b : Bool} {N2 : mz_N} (h : MR q B s D H x L N1 b N2) : CS B s D H x N1 b N2 := h.1
theorem MR.lr {q B : Nat} {s : st_S} {D H : Kp} {x : CrS} {L : LvS} {N1 : mz_N} {b : Bool} {N2 : mz_N} (h : MR q B s D H x L N1 b N2) : LR q (H.1 0) (H.1 1) L N1 b N2 := h.2.1
theorem MR.iv {q B : Nat} {s : st_S} {D H : Kp} {x : CrS} {L : LvS} {N1 : mz_N} {b : Bool} {N2 : mz_N} (h : MR q B s D H x L N1 b N2) : IvS q false (fun _ => 0) D H x := h.2.2
section Mi
variable {N1 N2 : mz_N} {b : Bool} {B q tm : Nat} {s : st_S} {D H : Kp} {x : CrS} {L : LvS}
theorem hour_c (h : N1.1 208 0 = nI tm) (ht : tm < 2 ^ 31) : cf_200_0 N1 = nI (tm / 10 % 24) := by
  rw [cf_200_0, h, show (10 : Int32) = nI 10 from rfl, pk_div ht (by omega) (by omega), show (24 : Int32) = nI 24 from rfl, irem_n (by omega) (by omega) (by omega)]
theorem hour_r (h : N2.2 232 2 = lN tm) (ht : tm < 2 ^ 31) : cf_508_0 N2 = nI (tm / 10 % 24) := by
  rw [cf_508_0, h, show (10 : Int64) = lN 10 from rfl, pk_lDiv (by omega) (by omega) (by omega), show (24 : Int64) = lN 24 from rfl, lrem_n (by omega) (by omega) (by omega), lN_32 (by omega)]
theorem minute_ok (hq : q + 1 < 2 ^ 15) (hB : B + 14 < 2 ^ 30) (h : MR q B s D H x L N1 b N2) (ht : H.2.1 5 0 = nI tm) (ht2 : tm < 2000000) :
    cp_199_0 N1 b ∧ cp_507_0 N2 ∧ ∃ w K1 K2, cf_199_0 N1 b = (w, K1) ∧ cf_507_0 N2 = (w, K2) ∧ mnF N1 N2 K1 K2 ∧ (w = true → ∃ B' s' D' H' x' L', B' ≤ B + 14 ∧ MR (q + 1) B' s' D' H' x' L' K1 b K2 ∧ H'.2.1 5 0 = nI (tm + 1) ∧ (∀ f, f < 7 ∨ 12 ≤ f → H'.1 f = H.1 f) ∧ L'.S = L.S ∧ LsF H L L') ∧ (w = false → ∃ D', Dwn (B + 14) D' K1 K2 ∧ Jd (q + 1) D') := by
  have nf : ¬ (false = true) := fun z => by cases z
  have k9 := h.cs.ks.kc.2.2.2.2.2.2.2.2.2.2.1
  have r9 := h.cs.ks.kr.2.2.2.2.2.2.2.2.2.2.1
  have hr1 := hour_c (N1 := N1) (tm := tm) (k9.1.trans ht) (by omega)
  have hr2 := hour_r (N2 := N2) (tm := tm) (by rw [r9.1, ht, nI_L (by omega)]) (by omega)
  obtain ⟨p1, p2, w, M1, M2, o1, o2, o3, o4, o5, o6⟩ := care_ok (Iv := IvX H q false) (Iw := IvX H q true) (Jv := Jd q) (show B + 10 < 2 ^ 30 by omega) (fun D H x hi h0 ht => orX_cl hi h0 ht) (fun D H x hi hn => swX_cl hi hn) (fun D H x u hu hi hv => viX_cl hi hu hv) (fun D H x u hu hi _ => bkX_cl hi hu) (fun D H x hi => hi.1.jd) (fun D H x hi => hi.1.jd) (fun D H x hi => CI_ok (by omega) hi.1) (fun D H x hi => CI_ok (by omega) hi.1) h.cs ⟨h.iv, fun _ _ => rfl, rfl⟩
  rw [cp_199_0, cf_199_0, cp_507_0, cf_507_0, hr1, hr2, o1, o2]
  have hhr : tm / 10 % 24 < 24 := Nat.mod_lt _ (by omega)
  generalize tm / 10 % 24 = hr at hhr ⊢
  cases w with
  | false =>
    rw [if_neg nf, if_neg nf]
    obtain ⟨D', i1, i2⟩ := o6 rfl
    exact ⟨⟨p1, fun z => absurd z nf, fun _ => trivial⟩, ⟨p2, fun z => absurd z nf, fun _ => trivial⟩, false, M1, M2, rfl, rfl, mnF_cr o3 o4, fun z => absurd z nf, fun _ => ⟨D', Dwn_m (by omega) i1, Jd_m (by omega) i2⟩⟩
  | true =>
    rw [if_pos rfl, if_pos rfl]
    obtain ⟨B1, s1, D1, H1, x1, i1, i2, i3, i4, i5⟩ := o5 rfl
    have hL1 : LR q (H1.1 0) (H1.1 1) L M1 b M2 := by rw [i4 0 (by omega), i4 1 (by omega)]; exact LR_cr h.lr o3 o4
    have ht1 : H1.2.1 5 0 = nI tm := i5.trans ht
    have P20 := i3.kb.pp
    have sn : ∀ d, H1.1 3 (24 * d + hr) / 10 ≤ 30 := fun d => by have := i2.ks.hb.2.2.2.1 (24 * d + hr); omega
    obtain ⟨P1, P2, Q1, Q2, W1, W2, E1, E2, A1, A2, K1, K2, ⟨a1, a2, a3, a4, a5, a6, a7, a8, a9, a10, a11, a12, a13⟩, ⟨b1', b2, b3, b4, b5, b6, b7, b8, b9, b10, b11, b12⟩, md, L', g2, g3, g4, gs, dry, c1, c2, c3, c4, c5, c6, c7, c8, c9, c10⟩ := mid_ok (tm := tm) (hr := hr) (show q < 2 ^ 15 by omega) i2 hL1 i3.kb i3.pl ht1 (by omega) hhr (fun j hj => by
      have := wrm_bn (e := H1.1 0) (show q < 2 ^ 15 by omega) hj hL1.kb.h
      exact ⟨by omega, by omega⟩) (fun j hj => by
      have := stq_bn (e := H1.1 0) (C := 5000 * q) (by omega) hj hL1.kb.sa
      exact ⟨by omega, by omega⟩) (fun Ld ou G on st cap hl o1 o2 _ _ z hz => heat_b (show q < 2 ^ 15 by omega) hL1.kb.h sn (fun j hj => by
      have h1 : pnt (H1.1 0) (H1.1 1) (H1.1 2) hr j ≤ 20 := by unfold pnt; split; exact P20 _; omega
      have h2 := hl j (by omega)
      omega) ⟨o1, o2⟩ hz) (fun vv hv => sal_b (show q < 2 ^ 15 by omega) P20 hv hL1.kb.sa)
    have hI2 : IvS (q + 1) true slW D1 (mtH H1 g2 g3 g4 gs) x1 := by
      refine IvS_b (H := H1) (sl := fun _ => 0) (show q ≤ q + 1 by omega) (fun f _ => rfl) (fun f hf => mtH_2 f (by omega) (by omega) (by omega) (by omega)) rfl (Or.inl rfl) c3 ?_ i3
      have h1 := i3.nn
      have h2 : slW (mtH H1 g2 g3 g4 gs) ≤ 4 := Nat.sub_le _ _
      have h3 : x1.nn ≤ 1000000000 + 4 * q := h1
      omega
    obtain ⟨l1, ⟨l2, l3⟩, w', F1, F2, l4, l5, l6, l7, l8⟩ := late_ok (p := q) (tm := tm) (dry := dry) (q := q + 1) hq (show B1 + 4 < 2 ^ 30 by omega) c2 c1 hI2 (Nat.le_refl _) (by rw [c6, c7]; exact hL1.wab) (by rw [c8]; exact hL1.pob) (fun v hv => by
      obtain ⟨w, y1, y2⟩ := i3.kb.wr v hv
      exact ⟨w, by omega, y2⟩) ht1 ht2 c4 c5
    rw [a2, a4, a6, a8, b2, b4, b6, b8, cp_199_37, cf_199_37, cp_507_34, cf_507_34, a10, b10, b12]
    have E : (if mz_fZ A1 65 8 = true then cf_199_86 (cf_247_0 A1) b else cf_199_86 A1 b) = cf_199_86 K1 b ∧ (mz_fZ A1 65 8 = true → cp_247_0 A1 ∧ cp_199_86 (cf_247_0 A1) b) ∧ (¬ mz_fZ A1 65 8 = true → cp_199_86 A1 b) := by
      by_cases z : mz_fZ A1 65 8 = true
      · rw [if_pos z] at a13
        rw [if_pos z, a13]
        exact ⟨rfl, fun _ => ⟨a12 z, l1⟩, fun y => absurd z y⟩
      · rw [if_neg z] at a13
        rw [if_neg z]
        exact ⟨by rw [a13], fun y => absurd y z, fun _ => by rw [a13]; exact l1⟩
    rw [E.1]
    refine ⟨⟨p1, fun _ => ⟨a1, a3, a5, a7, a9, a11, E.2.1, E.2.2⟩, fun z => absurd rfl z⟩, ⟨p2, fun _ => ⟨b1', b3, b5, b7, b9, b11, l2, l3, fun _ => trivial⟩, fun z => absurd rfl z⟩, w', F1, F2, l4, l5, mnF_t (mnF_cr o3 o4) (mnF_t (mnF_md md) l6), fun hw => ?_, fun hw => ?_⟩
    · obtain ⟨B', s', D', H', x', L2, j1, j2, j3, j4, j5, j6, j7, j8⟩ := l7 hw
      have k0 : H'.1 0 = H1.1 0 := j6 0 (by omega)
      have k1 : H'.1 1 = H1.1 1 := j6 1 (by omega)
      exact ⟨B', s', D', H', x', L2, by omega, ⟨j2, by rw [k0, k1]; exact j3, j4⟩, j5, fun f hf => (j6 f hf).trans (i4 f hf), j7.trans c9, j8.1.trans c10, fun j hj => (j8.2 j (show H1.1 19 j ≠ 1 by rw [i4 19 (by omega)]; exact hj)).trans (by rw [c8])⟩
    · obtain ⟨D', j1, j2⟩ := l8 hw
      exact ⟨D', Dwn_m (by omega) j1, j2⟩
end Mi
