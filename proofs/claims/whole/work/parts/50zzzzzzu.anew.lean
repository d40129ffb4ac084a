/-! PURE (50zzzzzzu): both begin anew. -/
theorem fk_0 {d : Nat → Nat → Nat} {a : Nat} : ∀ n k i, fkt d a n k = false → fkb d a n k i = 0 := by
  intro n
  induction n with
  | zero => intro k i _; rfl
  | succ n ih =>
    intro k i h
    have h' : up (fkt d a n) (rky d a (n + 1)) true k = false := h
    show up (fkb d a n) (rky d a (n + 1)) (fun i => d a (48 * (n + 1) + 12 + i)) k i = 0
    rw [up_d] at h' ⊢
    by_cases w : k = rky d a (n + 1)
    · rw [if_pos w] at h'; cases h'
    · rw [if_neg w] at h' ⊢; exact ih k i h'
theorem MX_lt {D : Kp} : ∀ m j, j < m → D.1 8 j = 1 → (D.2.1 11 j).toNatClampNeg + 1 ≤ MX D m := by
  intro m
  induction m with
  | zero => intro j hj; exact absurd hj (Nat.not_lt_zero _)
  | succ m ih =>
    intro j hj h1
    rw [MX_s]
    by_cases w : j = m
    · rw [← w, if_pos h1]; exact Nat.le_max_right _ _
    · have := ih j (by omega) h1
      split
      · exact Nat.le_trans this (Nat.le_max_left _ _)
      · exact this
theorem MX_lb {D : Kp} {K : Nat} : ∀ m, (∀ j, j < m → D.1 8 j = 1 → (D.2.1 11 j).toNatClampNeg + 1 ≤ K) → MX D m ≤ K := by
  intro m
  induction m with
  | zero => intro _; exact Nat.zero_le _
  | succ m ih =>
    intro h
    have a := ih (fun j hj => h j (by omega))
    rw [MX_s]
    split
    · rename_i w; exact Nat.max_le.mpr ⟨a, h m (by omega) w⟩
    · exact a
/-- care, what lives and the rest at first -/
def x0 (D : Kp) (vd : Nat → Nat) : CrS := (fun _ => -1, MX D 16, 0, fun _ => 0, fun _ => 0, fun _ => 0, fun _ => 0, vd, fun _ _ => 0, fun _ _ => 0, fun _ => 0)
def L0 (D : Kp) (sd : Int64) : LvS := (fun j => (tg0 j : Int), (fun _ => 0, fun _ => 0, fun _ => false, fun _ => false), (1500, 100, 0, 2000, 20000, 0, 0, true, false, false, false), (fun _ => 18000, fun _ => 0, fun _ => 0, fun _ => 0, fun _ => 0, fun _ => 0), (fun _ => false, fun _ => 0, fun _ => 0, 0), fun _ => 0, (fun _ _ => 0, fun _ => 0), (prs (D.1 4) (D.1 5 0)).2.2, sd)
def R0 (D : Kp) : RsS := (fun _ => D.1 0, fun _ => D.1 0, 0, 0, fun _ => 0, false, fun _ => 240, 0, 0, fun _ => 0, 0, fun _ => 0)
section Anb
variable {N1 N2 K1 K2 : mz_N} {b : Bool} {B q : Nat} {s : st_S} {D : Kp}
theorem x0_ci {vd : Nat → Nat} (hJ : Jd q D) (hq : q < 2 ^ 15) (hv : ∀ u, u < 2 → vd u ≤ 6) : CI (q + 1) false D (x0 D vd) := by
  obtain ⟨tm, t1, t2⟩ := hJ.kb.tm
  obtain ⟨cr, r1, r2⟩ := hJ.kb.cr
  refine ⟨⟨tm, t1, t2, fun i hi => absurd hi (Nat.not_lt_zero _)⟩, fun i j _ hj => absurd hj (Nat.not_lt_zero _), ⟨cr, r2, ?_⟩, Nat.zero_le _, fun i hi => absurd hi (Nat.not_lt_zero _), fun u hu => ⟨Nat.zero_le _, hv u hu, Or.inl rfl⟩, fun u _ i _ hi => absurd hi (Nat.not_lt_zero _), fun u _ i hi => absurd hi (Nat.not_lt_zero _), fun u _ => by show 0 < 2 ^ 30; omega, fun u i v j _ _ _ hi => absurd hi (Nat.not_lt_zero _), fun j hj h8 => ?_, fun j _ _ => Or.inl rfl, fun u _ i _ hi => absurd hi (Nat.not_lt_zero _)⟩
  · show cr + 3000 * sumN (fun _ => 0) 0 + 500 * ((0 - vd 0) + (0 - vd 1)) ≤ _
    rw [Nat.zero_sub, Nat.zero_sub, show sumN (fun _ => 0) 0 = 0 from rfl]
    omega
  · obtain ⟨n, n1, n2⟩ := hJ.kb.tn j hj h8
    have := MX_lt 16 j hj h8
    rw [n2, nI_clamp (by omega)] at this
    exact ⟨n, by show n < MX D 16; omega, n2⟩
theorem MX_b (hJ : Jd q D) (hq : q < 2 ^ 15) : MX D 16 ≤ 1000000000 + 4 * q + 1 := MX_lb 16 (fun j hj h8 => by
  obtain ⟨n, n1, n2⟩ := hJ.kb.tn j hj h8
  rw [n2, nI_clamp (by omega)]
  omega)
theorem tg0_J : ∀ j, j < 16 → tgJ j (tg0 j : Int) := by
  intro j hj
  have : j = 0 ∨ j = 1 ∨ j = 2 ∨ j = 3 ∨ j = 4 ∨ j = 5 ∨ j = 6 ∨ j = 7 ∨ j = 8 ∨ j = 9 ∨ j = 10 ∨ j = 11 ∨ j = 12 ∨ j = 13 ∨ j = 14 ∨ j = 15 := by omega
  unfold tgJ tg0
  rcases this with w | w | w | w | w | w | w | w | w | w | w | w | w | w | w | w <;> subst w <;> decide
theorem L0_lr {nn : Nat} {sd : Int64} (hJ : Jd q D) (hb : kpb D) (hc : cAn N1 K1 b D nn) (hr : rAn N2 K2 D) (s1 : K1.2 56 15 = sd) (s2 : K2.2 232 1 = sd) : LR (q + 1) (D.1 0) (D.1 1) (L0 D sd) K1 b K2 := by
  obtain ⟨c1, c2, c3, c4, c5, c6, c7, c8, c9, c10, c11, c12⟩ := hc.nf
  obtain ⟨r1, r2, r3, r4, r5, r6, r7, r8⟩ := hr.nf
  obtain ⟨v1, v2, v3, v4⟩ := prs_v hJ.pr
  have n6 : D.1 5 0 ≤ 196 := hb.2.2.2.2.1
  have t18 : (18000 : Int64).toInt = 18000 := by decide
  have t0 : (0 : Int64).toInt = 0 := by decide
  refine ⟨⟨hc.pl, hr.pl⟩, ⟨hc.c4, hc.c5, hc.cw, hr.r8, hr.rw⟩, ⟨v1, v2, Nat.le_trans v4 n6, v3⟩, fun j hj => ?_, fun j hj => tg0_J j hj, fun j hj => ?_, fun j hj => ?_, ?_, ?_, ?_, ?_, ?_, ?_, ⟨?_, ?_, fun j hj => ?_⟩, ⟨Nat.zero_le _, fun j hj => Nat.zero_le _⟩, ⟨?_, ?_⟩, fun j hj => Nat.zero_le _, s1, s2⟩
  · show K1.1 53 j = iI (tg0 j : Int) ∧ K2.1 257 j = iI (tg0 j : Int)
    rw [← iI_n]
    exact ⟨hc.g j hj, hr.g j hj⟩
  · obtain ⟨a1, a2, a3, a4⟩ := c1 j hj
    obtain ⟨d1, d2, d3, d4⟩ := r1 j hj
    exact ⟨⟨a1, d1⟩, ⟨a2, d3⟩, ⟨a3, d4⟩, a4, d2⟩
  · exact ⟨Nat.zero_le _, Nat.zero_le _, fun _ => by show 0 < 50; omega⟩
  · obtain ⟨a1, a2, a3, a4, a5, a6, a7, a8, a9, a10, a11, a12, a13, a14⟩ := c3
    exact ⟨a1, a2, a3, a7, a11, a12, a13, a4, a5, a8, a9⟩
  · obtain ⟨a1, a2, a3, a4, a5, a6, a7, a8, a9, a10, a11, a12⟩ := r8
    exact ⟨a5, a4, a6, a7, a8, a2, a1, a3, a11, a9, a10⟩
  · exact ⟨by show 1500 ≤ 3000; omega, by show 100 ≤ 1000; omega, Nat.zero_le _, by show 2000 ≤ 2000; omega, by show 20000 ≤ 20000; omega, Nat.zero_le _, Nat.zero_le _⟩
  · exact ⟨fun c hc => (c4 c hc).1, fun c hc => (c4 c hc).2.1, fun c hc => (c4 c hc).2.2.1, fun c hc => (c4 c hc).2.2.2.1, fun c hc => (c4 c hc).2.2.2.2.1, fun c hc => (c4 c hc).2.2.2.2.2, false, c5, fun _ c _ => ⟨rfl, rfl⟩⟩
  · exact ⟨fun c hc => (r2 c hc).1, fun c hc => (r2 c hc).2.1, fun c hc => (r2 c hc).2.2.1, fun c hc => (r2 c hc).2.2.2.2.2, fun c hc => (r2 c hc).2.2.2.1, fun c hc => (r2 c hc).2.2.2.2.1⟩
  · refine ⟨fun c hc => ?_, fun c hc => ?_, fun c hc => ?_, fun c hc => Nat.zero_le _, fun c hc => Nat.zero_le _⟩
    · show -(100000 + 100000 * ((q + 1 : Nat) : Int)) ≤ (18000 : Int64).toInt ∧ (18000 : Int64).toInt ≤ 100000 + 100000 * ((q + 1 : Nat) : Int)
      rw [t18]; omega
    · show 0 ≤ (0 : Int64).toInt ∧ (0 : Int64).toInt ≤ ((5000 * (q + 1) : Nat) : Int)
      rw [t0]; omega
    · show 0 ≤ (0 : Int64).toInt ∧ (0 : Int64).toInt ≤ ((200 * (q + 1) : Nat) : Int)
      rw [t0]; omega
  · exact ⟨fun a ha => c7 a ha, fun i _ hi => absurd hi (Nat.not_lt_zero _), c8⟩
  · exact ⟨fun a ha => r4 a ha, fun i _ hi => absurd hi (Nat.not_lt_zero _), r8.2.2.2.2.2.2.2.2.2.2.2.2.1⟩
  · exact ⟨c6 j hj, r3 j hj⟩
  · exact ⟨fun j _ p _ hp => absurd hp (Nat.not_lt_zero _), fun j hj => hc.ks.2.1 j hj⟩
  · exact ⟨fun j _ p _ hp => absurd hp (Nat.not_lt_zero _), fun j hj => r5 j hj⟩
theorem R0_rs {nn : Nat} {sd : Int64} (hJ : Jd q D) (hc : cAn N1 K1 b D nn) (hr : rAn N2 K2 D) : RsR D (L0 D sd) (R0 D) K1 K2 := by
  obtain ⟨c1, c2, c3, c4, c5, c6, c7, c8, c9, c10, c11, c12⟩ := hc.nf
  obtain ⟨r1, r2, r3, r4, r5, r6, r7, r8⟩ := hr.nf
  obtain ⟨a1, a2, a3, a4, a5, a6, a7, a8, a9, a10, a11, a12, a13, a14, a15, a16, a17, a18, a19, a20⟩ := r8
  refine ⟨fun d hd i hi => hc.dk d hd i hi, fun d hd i hi => ⟨hr.dk (1 + d) (by omega) i hi, hr.dk (4 + d) (by omega) i hi⟩, fun d hd i hi => ⟨hJ.pl.e4 i hi, hJ.pl.e4 i hi, hJ.pl.bd i hi⟩, ⟨hc.ve, a20⟩, ⟨hc.x.1, a18, Nat.zero_le _⟩, fun i hi => absurd hi (Nat.not_lt_zero _), ⟨a19, (fun z => by cases z), fun _ => hc.x.2⟩, fun j hj => ⟨c9 j hj, r6 j hj⟩, fun j _ _ => Nat.le_refl 240, ⟨c10, a14⟩, fun i _ hi => absurd hi (Nat.not_lt_zero _), ⟨hc.tp.1, a16, Nat.zero_le _, fun i hi => absurd hi (Nat.not_lt_zero _)⟩, ⟨hc.tp.2, a17, Nat.zero_le _, fun i hi => absurd hi (Nat.not_lt_zero _)⟩, rfl, fun _ _ => rfl⟩
/-- both begin anew, from one store -/
theorem anew_ok (hq : q < 2 ^ 15) (hS : S_ok B s D) (hf : s.2.1 = -1) (c1 : c_dk s.1 N1) (c4 : N1.1 219 4 = nI s.2.2.1) (c5 : N1.1 219 5 = nI s.2.2.2.1) (c6 : N1.1 219 6 = nI s.2.2.2.2.1) (c7 : N1.1 219 7 = 0) (c8 : ∀ k, k < 135 → ∀ j, j < 28 → N1.1 223 (28 * k + j) = nI (s.2.2.2.2.2.2 k j)) (c9 : ∀ k, k < 135 → N1.1 224 k = nI (b1 (s.2.2.2.2.2.1 k)))
    (r1 : r_dk s.1 N2) (r3 : N2.1 232 133 = nI s.2.2.1) (r4 : N2.2 232 134 = lN s.2.2.2.1) (r5 : N2.1 232 135 = nI s.2.2.2.2.1) (r8 : ∀ k, k < 135 → s.2.2.2.2.2.1 k = true → ∀ j, j < 28 → N2.1 331 (28 * k + j) = by8 (s.2.2.2.2.2.2 k j)) (r9 : ∀ k, k < 135 → N2.1 330 k = nI (b1 (s.2.2.2.2.2.1 k)))
    (hJ : Jd q D) (hz : zv N1) (hs : N1.2 56 15 = N2.2 232 1) :
    cp_17_0 N1 b ∧ cp_414_0 N2 ∧ ∃ K1, cf_17_0 N1 b = (K1, !b) ∧ oF N1 N2 K1 (cf_414_0 N2) ∧ (cf_414_0 N2).1 232 0 = N2.1 232 0 ∧ Up (q + 1) B K1 (!b) (cf_414_0 N2) := by
  obtain ⟨⟨o1, o2⟩, o3⟩ := hS
  have hb := o3.1
  have h0 : ∀ k, k < 135 → s.2.2.2.2.2.1 k = false → ∀ j, j < 28 → s.2.2.2.2.2.2 k j = 0 := fun k hk z j hj => by
    obtain ⟨i1, i2, i3, i4, i5, i6, i7, i8, i9, i10, i11, i12⟩ := o2
    rw [i11 k hk j hj]
    exact fk_0 _ _ _ (by rw [← i10 k hk]; exact z)
  obtain ⟨p1, K1, p2, hc⟩ := c_anew (N := N1) (b := b) o3 h0 c8 c9 hJ
  obtain ⟨p3, hr⟩ := r_anew (N := N2) hq o3 r8 r9 hJ
  generalize cf_414_0 N2 = K2 at hr ⊢
  have eN : NN s.2.2.2.2.2.1 D 135 = MX D 16 := NN_MX o3 135 (Nat.le_refl _)
  rw [eN] at hc
  have hv : ∀ u, u < 2 → (N1.1 134 u).toNatClampNeg ≤ 6 ∧ N1.1 134 u = nI (N1.1 134 u).toNatClampNeg := fun u hu => by
    obtain ⟨k, k1, k2⟩ := hz u hu
    rw [k2, nI_clamp (by omega)]
    exact ⟨k1, rfl⟩
  have s1 : K1.2 56 15 = N1.2 56 15 := by rw [hc.f.2 56 rfl]
  have s2 : K2.2 232 1 = N1.2 56 15 := by rw [hr.l 1 (by omega)]; exact hs.symm
  obtain ⟨n1, n2, n3, n4, n5, n6, n7, n8, n9, n10, n11, n12⟩ := id hc.nf
  obtain ⟨m1, m2, m3, m4, m5, m6, m7, m8⟩ := id hr.nf
  have mx := MX_b hJ hq
  refine ⟨p1, p3, K1, p2, oF_q hc.f hr.f rfl rfl rfl rfl, hr.i 0 (by omega), ?_⟩
  refine ⟨q + 1, B, s, D, D, x0 D (fun u => (N1.1 134 u).toNatClampNeg), L0 D (N1.2 56 15), R0 D, Nat.le_refl _, Nat.le_refl _, ⟨⟨⟨⟨⟨o1, o2⟩, o3⟩, ?_, ?_, hc.kp, hr.kp, hb, zv_f hz (hc.f.1 134 rfl)⟩, ?_, ?_⟩, L0_lr hJ hb hc hr s1 s2, ⟨Jd_m (by omega) hJ, KB_m (by omega) hJ.kb, hJ.pl, hJ.pr, hJ.ds, fun k hk _ => kag_refl (kdk_ok k hk).1 (kdk_ok k hk).2.1, x0_ci hJ hq (fun u hu => (hv u hu).1), ?_⟩⟩, R0_rs hJ hc hr, Nat.zero_le _, by omega⟩
  · refine ⟨fun a ha j hj => ?_, ?_, ?_, ?_, ?_, ?_, ?_, ?_⟩
    · have := c1 a ha j hj
      rcases (show a = 0 ∨ a = 1 by omega) with w | w
      · rw [w] at this ⊢; rw [hc.f.1 221 rfl]; exact this
      · rw [w] at this ⊢; rw [hc.f.1 222 rfl]; exact this
    · rw [hc.s 4 (by decide)]; exact c4
    · rw [hc.s 5 (by decide)]; exact c5
    · rw [hc.s 6 (by decide)]; exact c6
    · rw [hc.s 7 (by decide)]; exact c7
    · rw [hc.s8, hf]
    · rw [hc.f.1 223 rfl]; exact c8
    · rw [hc.f.1 224 rfl]; exact c9
  · refine ⟨?_, ?_, ?_, ?_, hr.s7, ?_, ?_, ?_⟩
    · unfold r_dk; rw [hr.f.1 329 rfl]; exact r1
    · rw [hr.i 133 (by omega)]; exact r3
    · rw [hr.l 134 (by omega)]; exact r4
    · rw [hr.i 135 (by omega)]; exact r5
    · rw [hr.s6, hf]
    · rw [hr.f.1 331 rfl]; exact r8
    · rw [hr.f.1 330 rfl]; exact r9
  · refine ⟨fun j hj z => hc.ks.1 j hj z, hc.ks.2.2, n12, fun i hi => absurd hi (Nat.not_lt_zero _), fun u hu => ⟨n11 u hu, ?_⟩, fun u _ i hi => absurd hi (Nat.not_lt_zero _), fun u _ hv => absurd hv (Nat.not_lt_zero _)⟩
    rw [hc.f.1 134 rfl]; exact (hv u hu).2
  · exact ⟨fun j hj z => hr.ks j hj z, hr.nn, m8.2.2.2.2.2.2.2.2.2.2.2.2.2.2.1, fun i hi => absurd hi (Nat.not_lt_zero _), fun u hu _ => (m7 u hu).1, fun u _ hv => absurd hv (Nat.not_lt_zero _), fun u _ i hi => absurd hi (Nat.not_lt_zero _)⟩
  · show MX D 16 + 0 ≤ 1000000000 + 4 * (q + 1)
    omega
/-- what a reopening finds -/
theorem Sm_disk (h : Sm q B N1 b N2) : ∃ D d kt kb, c_dk d N1 ∧ r_dk d N2 ∧ dk_I B d kt kb ∧ st_D kt kb D ∧ Jd q D ∧ zv N1 ∧ N1.2 56 15 = N2.2 232 1 := by
  rcases h with ⟨p, C, s, D, H, x, L, R, h1, h2, h3, h4, h5, h6⟩ | ⟨D, ⟨d, kt, kb, h1, h2, h3, h4, h5, h6, h7, h8⟩, i2, i3⟩
  · obtain ⟨⟨o1, o2⟩, o3⟩ := h3.cs.ks.ok
    obtain ⟨e1, e2, e3, e4, e5, e6, e7⟩ := o1
    exact ⟨D, s.1, s.2.2.2.2.2.1, s.2.2.2.2.2.2, h3.cs.ks.c.1, h3.cs.ks.r.1, ⟨e1, fun a n ha hn => Nat.le_trans (e5 a n ha hn) h2, e7, _, _, _, Nat.le_trans e4 h2, o2⟩, o3, Jd_m h1 h3.iv.jd, h3.cs.ks.zv, by rw [h3.lr.sd.1, h3.lr.sd.2]⟩
  · exact ⟨D, d, kt, kb, h1, h2, h5, h6, i2, h8, i3⟩
theorem reopen_al (hq : q < 2 ^ 15) (hB : B < 2 ^ 30) (h : Sm q B N1 b N2) : cp_91_0 N1 b ∧ cp_592_0 N2 ∧ ∃ r K1 b' K2, cf_91_0 N1 b = (r, K1, b') ∧ cf_592_0 N2 = (r, K2) ∧ K2.1 232 0 = 0 ∧ oF N1 N2 K1 K2 ∧ Sm (q + 1) B K1 b' K2 := by
  obtain ⟨D, d, kt, kb, h1, h2, ⟨i1, i2, i3, a, gn, us, i4, i5⟩, h4, h5, h6, h7⟩ := Sm_disk h
  obtain ⟨a1, K, a2, a3, a4, a5, a6⟩ := c_open (N := N1) i5 h1 i1 (by omega) (fun a n ha hn => by have := i2 a n ha hn; omega)
  have i5' := i5
  obtain ⟨j1, j2, j3, _⟩ := i5
  have AN : ∀ h f, r_kf kt kb h f → cp_17_0 K b ∧ cp_414_0 (r_mo (r_ma N2 a gn) h f us) ∧ ∃ K1, cf_17_0 K b = (K1, !b) ∧ oF K (r_mo (r_ma N2 a gn) h f us) K1 (cf_414_0 (r_mo (r_ma N2 a gn) h f us)) ∧ (cf_414_0 (r_mo (r_ma N2 a gn) h f us)).1 232 0 = (r_mo (r_ma N2 a gn) h f us).1 232 0 ∧ Up (q + 1) B K1 (!b) (cf_414_0 (r_mo (r_ma N2 a gn) h f us)) := fun h f hf => by
    refine anew_ok (s := (d, -1, a, gn, us, kt, kb)) (D := D) hq ⟨⟨⟨i1, Or.inl rfl, j1, i4, i2, j3, i3⟩, i5'⟩, h4⟩ rfl ?_ ?_ ?_ ?_ ?_ a5 a6 ?_ ?_ ?_ ?_ ?_ ?_ h5 (zv_f h6 (a3.1 134 rfl)) ?_
    · intro a' ha' j hj
      have := h1 a' ha' j hj
      rcases (show a' = 0 ∨ a' = 1 by omega) with w | w
      · rw [w] at this ⊢; rw [a3.1 221 rfl]; exact this
      · rw [w] at this ⊢; rw [a3.1 222 rfl]; exact this
    · rw [a4]; rfl
    · rw [a4]; rfl
    · rw [a4]; rfl
    · rw [a4]; rfl
    · intro a' ha' j hj
      have e : (r_mo (r_ma N2 a gn) h f us).1 329 = N2.1 329 := rfl
      rw [e]; exact h2 a' ha' j hj
    · rfl
    · rfl
    · rfl
    · exact hf.1
    · exact hf.2
    · rw [a3.2]; exact h7
  obtain ⟨b1', h, f, b2, b3⟩ := r_open (N := N2) i5' h2 i1 (by omega) (fun a n ha hn => by have := i2 a n ha hn; omega) (fun h f hf => (AN h f hf).2.1)
  obtain ⟨c1, c2, K1, c3, c4, c5, c6⟩ := AN h f b3
  refine ⟨⟨a1, by rw [a2]; exact c1⟩, b1', nI (us - 1), K1, !b, _, by rw [cf_91_0, a2, c3], b2, ?_, ?_, Or.inl c6⟩
  · rw [c5]; rfl
  · obtain ⟨o1, o2⟩ := c4
    refine ⟨fun c hc => ?_, fun c hc => ?_⟩
    · obtain ⟨y1, y2⟩ := o1 c hc
      have e : K.1 c = N1.1 c := a3.1 c (by
        have k1 : c ≠ 219 := by omega
        have k2 : c ≠ 223 := by omega
        have k3 : c ≠ 224 := by omega
        simp [k1, k2, k3])
      exact ⟨y1.trans e, y2.trans (by rw [a3.2])⟩
    · obtain ⟨y1, y2⟩ := o2 c hc
      have e : (r_mo (r_ma N2 a gn) h f us).1 c = N2.1 c ∧ (r_mo (r_ma N2 a gn) h f us).2 c = N2.2 c := by
        have k1 : c ≠ 232 := by omega
        have k2 : c ≠ 330 := by omega
        have k3 : c ≠ 331 := by omega
        unfold r_mo r_ma
        refine ⟨?_, ?_⟩
        · rw [pI_s, sI_n k1, sI_n k3, sI_n k2, pL_s, sL_1, pI_s, sI_n k1, pI_s, sI_n k1]
        · rw [pI_s, sI_2, sI_2, sI_2, pL_s, sL_n k1, pI_s, sI_2, pI_s, sI_2]
      exact ⟨y1.trans e.1, y2.trans e.2⟩
end Anb
