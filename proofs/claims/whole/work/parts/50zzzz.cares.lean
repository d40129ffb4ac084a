/-! PURE (50zzzz): care of a minute, on both sides. -/
section Lk
variable {σ τ : Type}
theorem ok_l {f : σ → σ ⊕ τ} {P : σ → Prop} {s s2 : σ} (h : P s) (e : f s = .inl s2) (h2 : ∃ n, mz_ok f P n s2) : ∃ n, mz_ok f P n s := by
  obtain ⟨n, hn⟩ := h2
  exact ⟨n + 1, h, fun s3 e3 => by rw [e] at e3; cases e3; exact hn⟩
theorem ok_r {f : σ → σ ⊕ τ} {P : σ → Prop} {s : σ} {t : τ} (h : P s) (e : f s = .inr t) : ∃ n, mz_ok f P n s := ⟨1, h, fun s3 e3 => by rw [e] at e3; cases e3⟩
end Lk
section Ca
variable {Iv : Kp → Kp → CrS → Prop} {Jv : Kp → Prop} {N1 N2 : mz_N} {b : Bool} {B : Nat} {s : st_S} {D H : Kp} {x : CrS}
theorem ws_ok (hB : B + 2 < 2 ^ 30) (hvi : ∀ D H x u, u < 2 → Iv D H x → vis H x u → Iv (DG (gkl (viK H (x.tp u (x.vd u)))) D (viH H (x.tp u (x.vd u))) (viK H (x.tp u (x.vd u))).length) (viH H (x.tp u (x.vd u))) (viX x u)) (hfr : ∀ D H x u, u < 2 → Iv D H x → bac H x u → Iv D H (bkX x u)) (hJ : ∀ D H x, Iv D H x → Jv D) (hCk : ∀ D H x, Iv D H x → Cok H x) (h : CS B s D H x N1 b N2) (hI : Iv D H x) :
    cp_201_82 N1 b ∧ cp_509_180 N2 ∧ Out Iv Jv (B + 2) b N1 N2 (cf_201_82 N1 b) (cf_509_180 N2) := by
  have nf : ¬ (false = true) := fun z => by cases z
  obtain ⟨a1, a2, w, K1, K2, a3, a4, a5, a6, a7, a8⟩ := work_ok (u := 0) (show B + 1 < 2 ^ 30 by omega) hvi hfr hJ hCk h hI (by omega)
  rw [show nI 0 = 0 from rfl] at a1 a2 a3 a4
  rw [cp_201_82, cf_201_82, cp_201_84, cf_201_84, cp_509_180, cf_509_180, a3]
  cases w with
  | false =>
    rw [if_neg nf] at a4
    rw [if_neg nf, mz_run_r a4]
    obtain ⟨D', d1, d2⟩ := a8 rfl
    exact ⟨ok_r a1 a4, ⟨a2, fun z => absurd z nf, fun _ => trivial⟩, false, K1, K2, rfl, rfl, a5, a6, fun z => absurd z nf, fun _ => ⟨D', Dwn_m (by omega) d1, d2⟩⟩
  | true =>
    rw [if_pos rfl] at a4
    obtain ⟨B', s', D', H', x', i1, i2, i3⟩ := a7 rfl
    obtain ⟨b1', b2, w, L1, L2, b3, b4, b5, b6, b7, b8⟩ := work_ok (u := 1) (show B' + 1 < 2 ^ 30 by omega) hvi hfr hJ hCk i2 i3 (by omega)
    rw [show nI 1 = 1 from rfl] at b2 b3
    rw [if_pos rfl, b3, mz_run_l a4]
    cases w with
    | false =>
      rw [if_neg nf] at b4
      rw [if_neg nf, mz_run_r b4]
      obtain ⟨D', d1, d2⟩ := b8 rfl
      exact ⟨ok_l a1 a4 (ok_r b1' b4), ⟨a2, fun _ => b2, fun z => absurd rfl z⟩, false, L1, L2, rfl, rfl, crF_t a5 b5, crG_t a6 b6, fun z => absurd z nf, fun _ => ⟨D', Dwn_m (by omega) d1, d2⟩⟩
    | true =>
      rw [if_pos rfl] at b4
      have c0 : cq_201_84 b (nI (1 + 1), L1) = .inr (true, L1) := by rw [cq_201_84]; exact if_neg (show ¬ nI (1 + 1) < 2 by decide)
      have c1 : cd_201_84 b (nI (1 + 1), L1) := ⟨fun z => absurd z (show ¬ nI (1 + 1) < 2 by decide), fun _ => trivial⟩
      rw [if_pos rfl, mz_run_l b4, mz_run_r c0]
      obtain ⟨B2, s2, D2, H2, x2, j1, j2, j3⟩ := b7 rfl
      exact ⟨ok_l a1 a4 (ok_l b1' b4 (ok_r c1 c0)), ⟨a2, fun _ => b2, fun z => absurd rfl z⟩, true, L1, L2, rfl, rfl, crF_t a5 b5, crG_t a6 b6, fun _ => ⟨B2, s2, D2, H2, x2, by omega, j2, j3⟩, fun z => by cases z⟩
theorem Out_t {n : Nat} {M1 M2 : mz_N} {r1 r2 : Bool × mz_N} {m : Nat} (hm : n ≤ m) (F : crF N1 M1) (G : crG N2 M2) (h : Out Iv Jv n b M1 M2 r1 r2) : Out Iv Jv m b N1 N2 r1 r2 := by
  obtain ⟨w, K1, K2, h1, h2, h3, h4, h5, h6⟩ := h
  refine ⟨w, K1, K2, h1, h2, crF_t F h3, crG_t G h4, fun hw => ?_, fun hw => ?_⟩
  · obtain ⟨B', s', D', H', x', i1, i2⟩ := h5 hw
    exact ⟨B', s', D', H', x', by omega, i2⟩
  · obtain ⟨D', d1, d2⟩ := h6 hw
    exact ⟨D', Dwn_m hm d1, d2⟩
theorem care_ok {Iw : Kp → Kp → CrS → Prop} (hB : B + 10 < 2 ^ 30) (hor : ∀ D H x, Iv D H x → 0 < x.oc → H.2.1 5 0 = nI (x.od 0) → Iv (DG (gkl [(11, x.op 0), (9, 0)]) D (orH H x) 2) (orH H x) (orX x)) (hsw : ∀ D H x, Iv D H x → ¬ (0 < x.oc ∧ H.2.1 5 0 = nI (x.od 0)) → Iw D H x) (hvi : ∀ D H x u, u < 2 → Iw D H x → vis H x u → Iw (DG (gkl (viK H (x.tp u (x.vd u)))) D (viH H (x.tp u (x.vd u))) (viK H (x.tp u (x.vd u))).length) (viH H (x.tp u (x.vd u))) (viX x u)) (hfr : ∀ D H x u, u < 2 → Iw D H x → bac H x u → Iw D H (bkX x u)) (hJv : ∀ D H x, Iv D H x → Jv D) (hJ : ∀ D H x, Iw D H x → Jv D) (hCv : ∀ D H x, Iv D H x → Cok H x) (hCk : ∀ D H x, Iw D H x → Cok H x) (h : CS B s D H x N1 b N2) (hI : Iv D H x) :
    cp_201_0 N1 b ∧ cp_509_0 N2 ∧ Out Iw Jv (B + 10) b N1 N2 (cf_201_0 N1 b) (cf_509_0 N2) := by
  have nf : ¬ (false = true) := fun z => by cases z
  rw [cp_201_0, cf_201_0, cp_201_2, cf_201_2, cp_509_0, cf_509_0]
  refine mz_lp2 (f := cq_201_2 b) (P := cd_201_2 b) (g := cq_509_0) (P2 := cd_509_0) (Q := fun r1 r2 => Out Iw Jv (B + 10) b N1 N2 r1 r2) (fun k s1 s2 => ∃ i M1 M2, s1 = (nI i, M1) ∧ s2 = M2 ∧ i + k ≤ 8 ∧ crF N1 M1 ∧ crG N2 M2 ∧ ∃ B' s' D' H' x', B' ≤ B + i ∧ CS B' s' D' H' x' M1 b M2 ∧ Iv D' H' x' ∧ x'.oc = k) ?_ x.oc (0, N1) N2 ⟨0, N1, N2, rfl, rfl, by have := (hCv _ _ _ hI).oc; omega, crF_r _, crG_r _, B, s, D, H, x, Nat.le_refl _, h, hI, rfl⟩
  rintro k s1 s2 ⟨i, M1, M2, rfl, rfl, hik, F1, G1, B', s', D', H', x', hB', h', hI', hk⟩
  have hC := hCv _ _ _ hI'
  obtain ⟨tm, t1, t2, t3⟩ := hC.tm
  obtain ⟨cr, cr1, cr2⟩ := hC.cr
  have k9 := h'.ks.kc.2.2.2.2.2.2.2.2.2.2.1
  have r9 := h'.ks.kr.2.2.2.2.2.2.2.2.2.2.1
  have e1 : M1.1 208 0 = nI tm := by rw [k9.1, t2]
  have e2 : s2.2 232 2 = lN tm := by rw [r9.1, t2, nI_L (by omega)]
  have e5 : M1.1 115 5 = nI x'.oc := h'.cc.oc
  have e96 : s2.1 232 96 = nI x'.oc := h'.cr.oc
  have oc8 := hC.oc
  have WS : ¬ (0 < x'.oc ∧ H'.2.1 5 0 = nI (x'.od 0)) → cp_201_82 M1 b ∧ cp_509_180 s2 ∧ Out Iw Jv (B + 10) b N1 N2 (cf_201_82 M1 b) (cf_509_180 s2) := fun hn => by
    obtain ⟨w1, w2, w3⟩ := ws_ok (show B' + 2 < 2 ^ 30 by omega) hvi hfr hJ hCk h' (hsw _ _ _ hI' hn)
    exact ⟨w1, w2, Out_t (N1 := N1) (N2 := N2) (show B' + 2 ≤ B + 10 by omega) F1 G1 w3⟩
  rw [cd_201_2, cq_201_2, cd_509_0, cq_509_0]
  dsimp only
  by_cases h0 : 0 < x'.oc
  · have l8 : nI i < 8 := (nI_ltI (b := 8) (by omega) (by omega)).mpr (by omega)
    have h0' : 0 < nI x'.oc := (nI_gt0 (by omega)).mpr h0
    obtain ⟨d1, d2, d3⟩ := hC.od 0 h0
    obtain ⟨c1, c2, c3⟩ := h'.cc.od 0 h0
    obtain ⟨q1, q2, q3⟩ := h'.cr.od 0 h0
    have g132 : mz_gI M1 132 0 = nI (x'.od 0) := c3
    have g304 : mz_gL s2 304 0 = lN (x'.od 0) := q3
    have g302 : mz_gI s2 302 0 = nI (x'.op 0) := q1
    have g303 : mz_gI s2 303 0 = nI (x'.om 0) := q2
    have t4 := t3 0 h0
    rw [e96, if_pos h0', e2, g304, if_pos l8]
    by_cases due : x'.od 0 = tm
    · have nd : cf_202_0 (M1.1 208 0) M1 = true := by rw [cf_202_0, e5, if_pos h0', g132, e1, due, if_pos rfl]
      have nl : ¬ lN tm < lN (x'.od 0) := fun z => by
        rw [lN_lt64 (by omega) (by omega)] at z
        omega
      rw [nd, if_pos rfl, if_neg nl, g302, g303]
      have hIo := hor D' H' x' hI' h0 (by rw [t2, due])
      obtain ⟨a1, P1, a2, a3, a4, a5, a6⟩ := rec_c h'.ks.kc h'.cc h0 oc8 d1
      obtain ⟨P2, r1, r2, r3, r4, r5, r6, r7⟩ := rec_r (cr := cr) h'.ks.kr h'.cr h0 oc8 d1 d2 cr2 cr1
      rw [a2, r1]
      dsimp only
      have ks1 : KS B' s' D' (orH H' x') P1 b P2 := ⟨h'.ks.ok, st_cF h'.ks.c (a5.1 221 rfl) (a5.1 222 rfl) (a5.1 223 rfl) (a5.1 224 rfl) (fun f _ _ => by rw [a5.1 219 rfl]), st_rF h'.ks.r (r5.1 329 rfl) (r5.1 330 rfl) (r5.1 331 rfl) (fun f hf => r6 f (by omega)) (r7 134 (by decide)), a3, r3, h'.ks.hb, zv_f h'.ks.zv (a5.1 134 rfl)⟩
      have F2 : crF M1 P1 := ⟨fun c hc => a5.1 c (ct_sub rfl hc), a6, a5.2⟩
      have G2 : crG s2 P2 := ⟨fun c hc => r5.1 c (ct_sub rfl hc), fun f k1 _ _ _ _ _ => r6 f k1, fun c hc => r5.2 c (ct_sub rfl hc), fun f _ k1 _ => r7 f k1⟩
      have ha : gka [(11, x'.op 0), (9, 0)] := gka_c (by omega) (by omega) (kyo_11 _ d1) (gka_c (by omega) (by omega) kyo_9 gka_n)
      obtain ⟨o1, o2, ww, K1, K2, o3, o4, o5, o6, o7, o8⟩ := wr_ok (l := [(11, x'.op 0), (9, 0)]) (show B' + 1 < 2 ^ 30 by omega) ks1 ha (show 2 ≤ 16 by omega) (al_c (kxt_n (show 11 ≤ 12 by omega)) (al_c (kxt_n (show 9 ≤ 12 by omega)) al_n)) (al_c (kpl_n (show (11 : Nat) ≠ 4 by omega) (show (11 : Nat) ≠ 7 by omega) (show (11 : Nat) ≠ 12 by omega)) (al_c (kpl_n (show (9 : Nat) ≠ 4 by omega) (show (9 : Nat) ≠ 7 by omega) (show (9 : Nat) ≠ 12 by omega)) al_n)) (gtx_n ha (al_c (show (11 : Nat) ≠ 6 by omega) (al_c (show (9 : Nat) ≠ 6 by omega) al_n)))
      have c1' : cp_119_0 9 0 (cf_117_0 P1) := gjc_p (N := P1) (k := (9, 0)) (l := []) (gka_c (by omega) (by omega) kyo_9 gka_n) (by decide)
      have c2' : cp_119_0 11 (nI (x'.op 0)) (cf_119_0 9 0 (cf_117_0 P1)) := gjc_p (N := P1) (k := (11, x'.op 0)) (l := [(9, 0)]) ha (show 1 < 16 by omega)
      have c3' : cp_472_0 9 0 (cf_471_0 P2) := gjr_p (N := P2) (k := (9, 0)) (l := []) (gka_c (by omega) (by omega) kyo_9 gka_n) (by decide)
      have c4' : cp_472_0 11 (nI (x'.op 0)) (cf_472_0 9 0 (cf_471_0 P2)) := gjr_p (N := P2) (k := (11, x'.op 0)) (l := [(9, 0)]) ha (show 1 < 16 by omega)
      have o1' : cp_121_0 (cf_119_0 11 (nI (x'.op 0)) (cf_119_0 9 0 (cf_117_0 P1))) b := o1
      have o2' : cp_474_0 (cf_472_0 11 (nI (x'.op 0)) (cf_472_0 9 0 (cf_471_0 P2))) := o2
      have o3' : cf_121_0 (cf_119_0 11 (nI (x'.op 0)) (cf_119_0 9 0 (cf_117_0 P1))) b = (ww, K1) := o3
      have o4' : cf_474_0 (cf_472_0 11 (nI (x'.op 0)) (cf_472_0 9 0 (cf_471_0 P2))) = (ww, K2) := o4
      rw [cf_201_64, o3', cf_509_154, o4']
      have PP := r2 ⟨c3', c4', o2'⟩
      have F3 : crF N1 K1 := crF_t F1 (crF_t F2 (crF_y o5))
      have G3 : crG N2 K2 := crG_t G1 (crG_t G2 (crG_y o6))
      refine ⟨⟨fun _ => ⟨fun _ => ⟨a1, c1', c2', o1'⟩, fun z => absurd rfl z⟩, fun z => absurd l8 z⟩, ⟨fun _ => ⟨fun z => absurd z nl, fun _ => PP⟩, fun z => absurd h0' z⟩, ?_⟩
      cases ww with
      | true =>
        obtain ⟨s2', k1⟩ := o7 rfl
        rw [if_pos rfl, if_pos rfl]
        exact Or.inl ⟨_, _, rfl, rfl, k - 1, by omega, i + 1, K1, K2, by rw [nI_1], rfl, by omega, F3, G3, B' + 1, s2', _, _, _, by omega, ⟨k1, crc_y o5 a4, crr_y o6 r4⟩, hIo, by rw [← hk]; rfl⟩
      | false =>
        rw [if_neg nf, if_neg nf]
        exact Or.inr ⟨_, _, rfl, rfl, false, K1, K2, rfl, rfl, F3, G3, fun z => absurd z nf, fun _ => ⟨D', Dwn_m (by omega) (o8 rfl), hJv _ _ _ hI'⟩⟩
    · have nd : cf_202_0 (M1.1 208 0) M1 = false := by
        rw [cf_202_0, e5, if_pos h0', g132, e1, if_neg (fun z => due ((nI_eq (by omega) (by omega)).mp z))]
      have nl : lN tm < lN (x'.od 0) := by
        rw [lN_lt64 (by omega) (by omega)]
        omega
      obtain ⟨w1, w2, w4⟩ := WS (fun z => due (by rw [t2] at z; exact ((nI_eq (by omega) (by omega)).mp z.2).symm))
      rw [nd, if_neg nf, if_pos nl]
      exact ⟨⟨fun _ => ⟨fun z => absurd z nf, fun _ => w1⟩, fun z => absurd l8 z⟩, ⟨fun _ => ⟨fun _ => w2, fun z => absurd nl z⟩, fun z => absurd h0' z⟩, Or.inr ⟨_, _, rfl, rfl, w4⟩⟩
  · have h0' : ¬ 0 < nI x'.oc := fun z => h0 ((nI_gt0 (by omega)).mp z)
    have nd : cf_202_0 (M1.1 208 0) M1 = false := by rw [cf_202_0, e5, if_neg h0']
    obtain ⟨w1, w2, w4⟩ := WS (fun z => h0 z.1)
    rw [nd, if_neg nf, e96, if_neg h0', ite_self]
    exact ⟨⟨fun _ => ⟨fun z => absurd z nf, fun _ => w1⟩, fun _ => w1⟩, ⟨fun z => absurd z h0', fun _ => w2⟩, Or.inr ⟨_, _, rfl, rfl, w4⟩⟩
end Ca
