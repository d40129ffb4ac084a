/-! PURE (50zzzzzzzu): the law's steps (made by wip/gen/genld.py). -/
section Ld
variable {N K : mz_N} {b : Bool} {B q t L : Nat} {xs : Nat → Int32} {v4 : Int32} {b' : Bool}
theorem ladI {p A Q : Prop} (h : p) (z : A ∧ Q) : (p ∧ A) ∧ Q := ⟨⟨h, z.1⟩, z.2⟩
theorem lc_54 (v1 : Int32) (hq : q + 130 < 2 ^ 15) (hB : B + 1700 < 2 ^ 30) (ht : t < 1000) (h : Sm q B N b N) : cp_363_0 v1 N t ∧ cp_590_0 v1 (cf_363_0 v1 N t).2.1 ∧ (cf_363_0 v1 N t).2.2 ≤ t + 1 ∧ cf_459_0 (cf_590_0 v1 (cf_363_0 v1 N t).2.1) = (cf_363_0 v1 N t).1 ∧ Sm (q + 130) (B + 1700) (cf_590_0 v1 (cf_363_0 v1 N t).2.1) b (cf_590_0 v1 (cf_363_0 v1 N t).2.1) := by
  obtain ⟨p1, _, a1⟩ := crash_al (v1 := v1) h
  have u : up2 N (cf_364_0 v1 N).2 := fun c x _ => a1.2.2.2.1.1 c x
  have c2 : (cf_364_0 v1 N).1 ≤ 2 := a1.1
  obtain ⟨_, p2, _, i2, _, i4, i5⟩ := crash_al (v1 := v1) (Sm_e (fun _ _ => ⟨rfl, rfl⟩) u h)
  have i2' : (cf_590_0 v1 (cf_364_0 v1 N).2).1 232 0 = nI (cf_364_0 v1 N).1 := i2
  have sm : Sm (q + 130) (B + 1700) (cf_590_0 v1 (cf_364_0 v1 N).2) b (cf_590_0 v1 (cf_364_0 v1 N).2) := Sm_m (by omega) (by omega) (Sm_one i5 (fun c hc => i4.2 c (by omega)))
  have cp : cp_363_0 v1 N t := cw3 p1 ht c2 trivial
  refine ⟨cp, ?_⟩
  rw [cf_363_0]
  by_cases w0 : (cf_364_0 v1 N).1 = 0
  · rw [if_pos w0]
    refine ⟨p2, Nat.le_succ _, ?_, sm⟩
    show (cf_590_0 v1 (cf_364_0 v1 N).2).1 232 0 = 0
    rw [i2', w0]; rfl
  · rw [if_neg w0]
    by_cases w1 : (cf_364_0 v1 N).1 = 1
    · rw [if_pos w1]
      refine ⟨p2, Nat.le_refl _, ?_, sm⟩
      show (cf_590_0 v1 (cf_364_0 v1 N).2).1 232 0 = 1
      rw [i2', w1]; rfl
    · rw [if_neg w1]
      refine ⟨p2, Nat.le_refl _, ?_, sm⟩
      show (cf_590_0 v1 (cf_364_0 v1 N).2).1 232 0 = 2
      rw [i2', show (cf_364_0 v1 N).1 = 2 by omega]; rfl
theorem lc_55 (hq : q + 130 < 2 ^ 15) (hB : B + 1700 < 2 ^ 30) (h : Sm q B N b N) : cp_91_0 N b ∧ cp_592_0 (cf_91_0 N b).2.1 ∧ (cf_91_0 N b).1 = (cf_592_0 (cf_91_0 N b).2.1).1 ∧ Sm (q + 130) (B + 1700) (cf_592_0 (cf_91_0 N b).2.1).2 (cf_91_0 N b).2.2 (cf_592_0 (cf_91_0 N b).2.1).2 := by
  obtain ⟨p1, _, r, K1, b1', K2, e1, _, _, o1, _⟩ := reopen_al (by omega) (by omega) h
  have u : up2 N K1 := fun c x _ => o1.1 c x
  obtain ⟨_, p2, r', K1', b2, K2', e1', e2', _, o2, sm⟩ := reopen_al (by omega) (by omega) (Sm_e (fun _ _ => ⟨rfl, rfl⟩) u h)
  rw [e1] at e1'
  obtain ⟨rfl, e3⟩ := Prod.mk.inj e1'
  obtain ⟨rfl, rfl⟩ := Prod.mk.inj e3
  rw [e1]
  refine ⟨p1, p2, ?_, ?_⟩
  · show r = (cf_592_0 K1).1
    rw [e2']
  · show Sm _ _ (cf_592_0 K1).2 b1' (cf_592_0 K1).2
    rw [e2']
    exact Sm_m (by omega) (by omega) (Sm_one sm (fun c hc => o2.2 c (by omega)))
theorem law_step (hq : q + 130 < 2 ^ 15) (hB : B + 1700 < 2 ^ 30) (ht : t < 1000) (h : Sm q B N b N) (hn : ¬ Int32.ofNat L - 7 < v4) (I0 : mz_ib v4 L) (I1 : mz_ib (v4 + 1) L) (I2 : mz_ib (v4 + 2) L) (I3 : mz_ib (v4 + 3) L) (I4 : mz_ib (v4 + 4) L) (I5 : mz_ib (v4 + 5) L) (I6 : mz_ib (v4 + 6) L) : cd_622_35 L xs (v4, N, b, t) ∧ stp (q + 130) (B + 1700) v4 t (cq_622_35 L xs (v4, N, b, t)) := by
  rw [cd_622_35, cq_622_35]
  dsimp only
  refine ladp (fun z => absurd z hn) (fun _ => ?_)
  refine ladI I0 ?_
  refine ladp (fun _ => ?_) (fun _ => ?_)
  · obtain ⟨p1, p2, p3, p4⟩ := lc_0 (xs (v4 + 1).toNatClampNeg) hq hB ht h
    exact ⟨⟨I1, p1, I1, p2, lwP trivial⟩, ⟨_, _, _, (lwX p4).trans rfl, p3, p4.2.2⟩⟩
  refine ladp (fun _ => ?_) (fun _ => ?_)
  · obtain ⟨p1, p2, p3, p4⟩ := lc_1 (xs (v4 + 1).toNatClampNeg) (xs (v4 + 2).toNatClampNeg) (xs (v4 + 3).toNatClampNeg) (xs (v4 + 4).toNatClampNeg) (xs (v4 + 5).toNatClampNeg) (xs (v4 + 6).toNatClampNeg) hq hB ht h
    exact ⟨⟨I1, I2, I3, I4, I5, I6, p1, I1, I2, I3, I4, I5, I6, p2, lwP trivial⟩, ⟨_, _, _, (lwX p4).trans rfl, p3, p4.2.2⟩⟩
  refine ladp (fun _ => ?_) (fun _ => ?_)
  · obtain ⟨p1, p2, p3, p4⟩ := lc_2 (xs (v4 + 1).toNatClampNeg) hq hB ht h
    exact ⟨⟨I1, p1, I1, p2, lwP trivial⟩, ⟨_, _, _, (lwX p4).trans rfl, p3, p4.2.2⟩⟩
  refine ladp (fun _ => ?_) (fun _ => ?_)
  · obtain ⟨p1, p2, p3, p4⟩ := lc_3 (xs (v4 + 1).toNatClampNeg) (xs (v4 + 2).toNatClampNeg) hq hB ht h
    exact ⟨⟨I1, I2, p1, I1, I2, p2, lwP trivial⟩, ⟨_, _, _, (lwX p4).trans rfl, p3, p4.2.2⟩⟩
  refine ladp (fun _ => ?_) (fun _ => ?_)
  · refine ladI I1 (ladI I2 (ladI I3 (ladp (fun z => ?_) (fun z => ?_))))
    · obtain ⟨p1, p2, p3, p4⟩ := lc_4 (xs (v4 + 1).toNatClampNeg) (xs (v4 + 2).toNatClampNeg) false hq hB ht h
      rw [cp_622_657, cf_622_657]
      refine ladI p1 (ladI I1 (ladI I2 (ladI I3 (ladp (fun z2 => ?_) (fun z2 => absurd z z2)))))
      exact ⟨⟨p2, lwP trivial⟩, ⟨_, _, _, (lwX p4).trans rfl, p3, p4.2.2⟩⟩
    · obtain ⟨p1, p2, p3, p4⟩ := lc_4 (xs (v4 + 1).toNatClampNeg) (xs (v4 + 2).toNatClampNeg) true hq hB ht h
      rw [cp_622_657, cf_622_657]
      refine ladI p1 (ladI I1 (ladI I2 (ladI I3 (ladp (fun z2 => absurd z2 z) (fun z2 => ?_)))))
      exact ⟨⟨p2, lwP trivial⟩, ⟨_, _, _, (lwX p4).trans rfl, p3, p4.2.2⟩⟩
  refine ladp (fun _ => ?_) (fun _ => ?_)
  · obtain ⟨p1, p2, p3, p4⟩ := lc_5 (xs (v4 + 1).toNatClampNeg) (xs (v4 + 2).toNatClampNeg) hq hB ht h
    exact ⟨⟨I1, I2, p1, I1, I2, p2, lwP trivial⟩, ⟨_, _, _, (lwX p4).trans rfl, p3, p4.2.2⟩⟩
  refine ladp (fun _ => ?_) (fun _ => ?_)
  · obtain ⟨p1, p2, p3, p4⟩ := lc_6 (xs (v4 + 1).toNatClampNeg) (xs (v4 + 2).toNatClampNeg) (xs (v4 + 3).toNatClampNeg) hq hB ht h
    exact ⟨⟨I1, I2, I3, p1, I1, I2, I3, p2, lwP trivial⟩, ⟨_, _, _, (lwX p4).trans rfl, p3, p4.2.2⟩⟩
  refine ladp (fun _ => ?_) (fun _ => ?_)
  · obtain ⟨p1, p2, p3, p4⟩ := lc_7 hq hB ht h
    exact ⟨⟨p1, p2, lwP trivial⟩, ⟨_, _, _, (lwX p4).trans rfl, p3, p4.2.2⟩⟩
  refine ladp (fun _ => ?_) (fun _ => ?_)
  · obtain ⟨p1, p2, p3, p4⟩ := lc_8 hq hB ht h
    exact ⟨⟨p1, p2, lwP trivial⟩, ⟨_, _, _, (lwX p4).trans rfl, p3, p4.2.2⟩⟩
  refine ladp (fun _ => ?_) (fun _ => ?_)
  · obtain ⟨p1, p2, p3, p4⟩ := lc_9 (xs (v4 + 1).toNatClampNeg) (xs (v4 + 2).toNatClampNeg) hq hB ht h
    exact ⟨⟨I1, I2, p1, I1, I2, p2, lwP trivial⟩, ⟨_, _, _, (lwX p4).trans rfl, p3, p4.2.2⟩⟩
  refine ladp (fun _ => ?_) (fun _ => ?_)
  · obtain ⟨p1, p2, p3, p4⟩ := lc_10 (xs (v4 + 1).toNatClampNeg) (xs (v4 + 2).toNatClampNeg) hq hB ht h
    exact ⟨⟨I1, I2, p1, I1, I2, p2, lwP trivial⟩, ⟨_, _, _, (lwX p4).trans rfl, p3, p4.2.2⟩⟩
  refine ladp (fun _ => ?_) (fun _ => ?_)
  · obtain ⟨p1, p2, p3, p4⟩ := lc_11 (xs (v4 + 1).toNatClampNeg) (xs (v4 + 2).toNatClampNeg) (xs (v4 + 3).toNatClampNeg) hq hB ht h
    exact ⟨⟨I1, I2, I3, p1, I1, I2, I3, p2, lwP trivial⟩, ⟨_, _, _, (lwX p4).trans rfl, p3, p4.2.2⟩⟩
  refine ladp (fun _ => ?_) (fun _ => ?_)
  · obtain ⟨p1, p2, p3, p4⟩ := lc_12 (xs (v4 + 1).toNatClampNeg) (xs (v4 + 2).toNatClampNeg) (xs (v4 + 3).toNatClampNeg) hq hB ht h
    exact ⟨⟨I1, I2, I3, p1, I1, I2, I3, p2, lwP trivial⟩, ⟨_, _, _, (lwX p4).trans rfl, p3, p4.2.2⟩⟩
  refine ladp (fun _ => ?_) (fun _ => ?_)
  · obtain ⟨p1, p2, p3, p4⟩ := lc_13 (xs (v4 + 1).toNatClampNeg) (xs (v4 + 2).toNatClampNeg) (xs (v4 + 3).toNatClampNeg) hq hB ht h
    exact ⟨⟨I1, I2, I3, p1, I1, I2, I3, p2, lwP trivial⟩, ⟨_, _, _, (lwX p4).trans rfl, p3, p4.2.2⟩⟩
  refine ladp (fun _ => ?_) (fun _ => ?_)
  · obtain ⟨p1, p2, p3, p4⟩ := lc_14 (xs (v4 + 1).toNatClampNeg) (xs (v4 + 2).toNatClampNeg) hq hB ht h
    exact ⟨⟨I1, I2, p1, I1, I2, p2, lwP trivial⟩, ⟨_, _, _, (lwX p4).trans rfl, p3, p4.2.2⟩⟩
  refine ladp (fun _ => ?_) (fun _ => ?_)
  · obtain ⟨p1, p2, p3, p4⟩ := lc_15 (xs (v4 + 1).toNatClampNeg) (xs (v4 + 2).toNatClampNeg) (xs (v4 + 3).toNatClampNeg) hq hB ht h
    exact ⟨⟨I1, I2, I3, p1, I1, I2, I3, p2, lwP trivial⟩, ⟨_, _, _, (lwX p4).trans rfl, p3, p4.2.2⟩⟩
  refine ladp (fun _ => ?_) (fun _ => ?_)
  · obtain ⟨p1, p2, p3, p4⟩ := lc_16 (xs (v4 + 1).toNatClampNeg) (xs (v4 + 2).toNatClampNeg) (xs (v4 + 3).toNatClampNeg) hq hB ht h
    exact ⟨⟨I1, I2, I3, p1, I1, I2, I3, p2, lwP trivial⟩, ⟨_, _, _, (lwX p4).trans rfl, p3, p4.2.2⟩⟩
  refine ladp (fun _ => ?_) (fun _ => ?_)
  · obtain ⟨p1, p2, p3, p4⟩ := lc_17 (xs (v4 + 1).toNatClampNeg) (xs (v4 + 2).toNatClampNeg) hq hB ht h
    exact ⟨⟨I1, I2, p1, I1, I2, p2, lwP trivial⟩, ⟨_, _, _, (lwX p4).trans rfl, p3, p4.2.2⟩⟩
  refine ladp (fun _ => ?_) (fun _ => ?_)
  · obtain ⟨p1, p2, p3, p4⟩ := lc_18 (xs (v4 + 1).toNatClampNeg) (xs (v4 + 2).toNatClampNeg) hq hB ht h
    exact ⟨⟨I1, I2, p1, I1, I2, p2, lwP trivial⟩, ⟨_, _, _, (lwX p4).trans rfl, p3, p4.2.2⟩⟩
  refine ladp (fun _ => ?_) (fun _ => ?_)
  · obtain ⟨p1, p2, p3, p4⟩ := lc_19 (xs (v4 + 1).toNatClampNeg) hq hB ht h
    exact ⟨⟨I1, p1, I1, p2, lwP trivial⟩, ⟨_, _, _, (lwX p4).trans rfl, p3, p4.2.2⟩⟩
  refine ladp (fun _ => ?_) (fun _ => ?_)
  · obtain ⟨p1, p2, p3, p4⟩ := lc_20 hq hB ht h
    exact ⟨⟨p1, p2, lwP trivial⟩, ⟨_, _, _, (lwX p4).trans rfl, p3, p4.2.2⟩⟩
  refine ladp (fun _ => ?_) (fun _ => ?_)
  · obtain ⟨p1, p2, p3, p4⟩ := lc_21 hq hB ht h
    exact ⟨⟨p1, p2, lwP trivial⟩, ⟨_, _, _, (lwX p4).trans rfl, p3, p4.2.2⟩⟩
  refine ladp (fun _ => ?_) (fun _ => ?_)
  · obtain ⟨p1, p2, p3, p4⟩ := lc_22 (xs (v4 + 1).toNatClampNeg) hq hB ht h
    exact ⟨⟨I1, p1, I1, p2, lwP trivial⟩, ⟨_, _, _, (lwX p4).trans rfl, p3, p4.2.2⟩⟩
  refine ladp (fun _ => ?_) (fun _ => ?_)
  · obtain ⟨p1, p2, p3, p4⟩ := lc_23 (xs (v4 + 1).toNatClampNeg) hq hB ht h
    exact ⟨⟨I1, p1, I1, p2, lwP trivial⟩, ⟨_, _, _, (lwX p4).trans rfl, p3, p4.2.2⟩⟩
  refine ladp (fun _ => ?_) (fun _ => ?_)
  · obtain ⟨p1, p2, p3, p4⟩ := lc_24 (xs (v4 + 1).toNatClampNeg) hq hB ht h
    exact ⟨⟨I1, p1, I1, p2, lwP trivial⟩, ⟨_, _, _, (lwX p4).trans rfl, p3, p4.2.2⟩⟩
  refine ladp (fun _ => ?_) (fun _ => ?_)
  · refine ladI I1 (ladp (fun z => ?_) (fun z => ?_))
    · obtain ⟨p1, p2, p3, p4⟩ := lc_25 false hq hB ht h
      rw [cp_622_2029, cf_622_2029]
      refine ladI p1 (ladI I1 (ladp (fun z2 => ?_) (fun z2 => absurd z z2)))
      exact ⟨⟨p2, lwPb trivial trivial trivial⟩, ⟨_, _, _, (lwXb p4).trans rfl, p3, p4.2.2⟩⟩
    · obtain ⟨p1, p2, p3, p4⟩ := lc_25 true hq hB ht h
      rw [cp_622_2029, cf_622_2029]
      refine ladI p1 (ladI I1 (ladp (fun z2 => absurd z2 z) (fun z2 => ?_)))
      exact ⟨⟨p2, lwPb trivial trivial trivial⟩, ⟨_, _, _, (lwXb p4).trans rfl, p3, p4.2.2⟩⟩
  refine ladp (fun _ => ?_) (fun _ => ?_)
  · obtain ⟨p1, p2, p3, p4⟩ := lc_26 (xs (v4 + 1).toNatClampNeg) hq hB ht h
    exact ⟨⟨I1, p1, I1, p2, lwP trivial⟩, ⟨_, _, _, (lwX p4).trans rfl, p3, p4.2.2⟩⟩
  refine ladp (fun _ => ?_) (fun _ => ?_)
  · obtain ⟨p1, p2, p3, p4⟩ := lc_27 (xs (v4 + 1).toNatClampNeg) hq hB ht h
    exact ⟨⟨I1, p1, I1, p2, lwPb trivial trivial trivial⟩, ⟨_, _, _, (lwXb p4).trans rfl, p3, p4.2.2⟩⟩
  refine ladp (fun _ => ?_) (fun _ => ?_)
  · obtain ⟨p1, p2, p3, p4⟩ := lc_28 (xs (v4 + 1).toNatClampNeg) (xs (v4 + 2).toNatClampNeg) hq hB ht h
    exact ⟨⟨I1, I2, p1, I1, I2, p2, lwP trivial⟩, ⟨_, _, _, (lwX p4).trans rfl, p3, p4.2.2⟩⟩
  refine ladp (fun _ => ?_) (fun _ => ?_)
  · obtain ⟨p1, p2, p3, p4⟩ := lc_29 (xs (v4 + 1).toNatClampNeg) hq hB ht h
    exact ⟨⟨I1, p1, I1, p2, lwP trivial⟩, ⟨_, _, _, (lwX p4).trans rfl, p3, p4.2.2⟩⟩
  refine ladp (fun _ => ?_) (fun _ => ?_)
  · obtain ⟨p1, p2, p3, p4⟩ := lc_30 (xs (v4 + 1).toNatClampNeg) (xs (v4 + 2).toNatClampNeg) (xs (v4 + 3).toNatClampNeg) hq hB ht h
    exact ⟨⟨I1, I2, I3, p1, I1, I2, I3, p2, lwP trivial⟩, ⟨_, _, _, (lwX p4).trans rfl, p3, p4.2.2⟩⟩
  refine ladp (fun _ => ?_) (fun _ => ?_)
  · obtain ⟨p1, p2, p3, p4⟩ := lc_31 (xs (v4 + 1).toNatClampNeg) (xs (v4 + 2).toNatClampNeg) hq hB ht h
    exact ⟨⟨I1, I2, p1, I1, I2, p2, lwPb trivial trivial trivial⟩, ⟨_, _, _, (lwXb p4).trans rfl, p3, p4.2.2⟩⟩
  refine ladp (fun _ => ?_) (fun _ => ?_)
  · obtain ⟨p1, p2, p3, p4⟩ := lc_32 (xs (v4 + 1).toNatClampNeg) hq hB ht h
    exact ⟨⟨I1, p1, I1, p2, lwPb trivial trivial trivial⟩, ⟨_, _, _, (lwXb p4).trans rfl, p3, p4.2.2⟩⟩
  refine ladp (fun _ => ?_) (fun _ => ?_)
  · obtain ⟨p1, p2, p3, p4⟩ := lc_33 hq hB ht h
    exact ⟨⟨p1, p2, lwP trivial⟩, ⟨_, _, _, (lwX p4).trans rfl, p3, p4.2.2⟩⟩
  refine ladp (fun _ => ?_) (fun _ => ?_)
  · obtain ⟨p1, p2, p3, p4⟩ := lc_34 (xs (v4 + 1).toNatClampNeg) (xs (v4 + 2).toNatClampNeg) hq hB ht h
    exact ⟨⟨I1, I2, p1, I1, I2, p2, lwP trivial⟩, ⟨_, _, _, (lwX p4).trans rfl, p3, p4.2.2⟩⟩
  refine ladp (fun _ => ?_) (fun _ => ?_)
  · obtain ⟨p1, p2, p3, p4⟩ := lc_35 (xs (v4 + 1).toNatClampNeg) (xs (v4 + 2).toNatClampNeg) hq hB ht h
    exact ⟨⟨I1, I2, p1, I1, I2, p2, lwP trivial⟩, ⟨_, _, _, (lwX p4).trans rfl, p3, p4.2.2⟩⟩
  refine ladp (fun _ => ?_) (fun _ => ?_)
  · refine ladI I1 (ladI I2 (ladI I3 (ladI I4 (ladI I5 (ladp (fun z => ?_) (fun z => ?_))))))
    · obtain ⟨p1, p2, p3, p4⟩ := lc_36 (xs (v4 + 1).toNatClampNeg) (xs (v4 + 2).toNatClampNeg) (xs (v4 + 3).toNatClampNeg) (xs (v4 + 4).toNatClampNeg) false hq hB ht h
      rw [cp_622_2772, cf_622_2772]
      refine ladI p1 (ladI I1 (ladI I2 (ladI I3 (ladI I4 (ladI I5 (ladp (fun z2 => ?_) (fun z2 => absurd z z2)))))))
      exact ⟨⟨p2, lwP trivial⟩, ⟨_, _, _, (lwX p4).trans rfl, p3, p4.2.2⟩⟩
    · obtain ⟨p1, p2, p3, p4⟩ := lc_36 (xs (v4 + 1).toNatClampNeg) (xs (v4 + 2).toNatClampNeg) (xs (v4 + 3).toNatClampNeg) (xs (v4 + 4).toNatClampNeg) true hq hB ht h
      rw [cp_622_2772, cf_622_2772]
      refine ladI p1 (ladI I1 (ladI I2 (ladI I3 (ladI I4 (ladI I5 (ladp (fun z2 => absurd z2 z) (fun z2 => ?_)))))))
      exact ⟨⟨p2, lwP trivial⟩, ⟨_, _, _, (lwX p4).trans rfl, p3, p4.2.2⟩⟩
  refine ladp (fun _ => ?_) (fun _ => ?_)
  · obtain ⟨p1, p2, p3, p4⟩ := lc_37 (xs (v4 + 1).toNatClampNeg) (xs (v4 + 2).toNatClampNeg) hq hB ht h
    exact ⟨⟨I1, I2, p1, I1, I2, p2, lwP trivial⟩, ⟨_, _, _, (lwX p4).trans rfl, p3, p4.2.2⟩⟩
  refine ladp (fun _ => ?_) (fun _ => ?_)
  · obtain ⟨p1, p2, p3, p4⟩ := lc_38 (xs (v4 + 1).toNatClampNeg) hq hB ht h
    exact ⟨⟨I1, p1, I1, p2, lwP trivial⟩, ⟨_, _, _, (lwX p4).trans rfl, p3, p4.2.2⟩⟩
  refine ladp (fun _ => ?_) (fun _ => ?_)
  · obtain ⟨p1, p2, p3, p4⟩ := lc_39 (xs (v4 + 1).toNatClampNeg) hq hB ht h
    exact ⟨⟨I1, p1, I1, p2, lwP trivial⟩, ⟨_, _, _, (lwX p4).trans rfl, p3, p4.2.2⟩⟩
  refine ladp (fun _ => ?_) (fun _ => ?_)
  · obtain ⟨p1, p2, p3, p4⟩ := lc_40 (xs (v4 + 1).toNatClampNeg) (xs (v4 + 2).toNatClampNeg) hq hB ht h
    exact ⟨⟨I1, I2, p1, I1, I2, p2, lwP trivial⟩, ⟨_, _, _, (lwX p4).trans rfl, p3, p4.2.2⟩⟩
  refine ladp (fun _ => ?_) (fun _ => ?_)
  · obtain ⟨p1, p2, p3, p4⟩ := lc_41 (xs (v4 + 1).toNatClampNeg) (xs (v4 + 2).toNatClampNeg) (xs (v4 + 3).toNatClampNeg) hq hB ht h
    exact ⟨⟨I1, I2, I3, p1, I1, I2, I3, p2, lwP trivial⟩, ⟨_, _, _, (lwX p4).trans rfl, p3, p4.2.2⟩⟩
  refine ladp (fun _ => ?_) (fun _ => ?_)
  · obtain ⟨p1, p2, p3, p4⟩ := lc_42 (xs (v4 + 1).toNatClampNeg) (xs (v4 + 2).toNatClampNeg) hq hB ht h
    exact ⟨⟨I1, I2, p1, I1, I2, p2, lwP trivial⟩, ⟨_, _, _, (lwX p4).trans rfl, p3, p4.2.2⟩⟩
  refine ladp (fun _ => ?_) (fun _ => ?_)
  · obtain ⟨p1, p2, p3, p4⟩ := lc_43 (xs (v4 + 1).toNatClampNeg) (xs (v4 + 2).toNatClampNeg) hq hB ht h
    exact ⟨⟨I1, I2, p1, I1, I2, p2, lwP trivial⟩, ⟨_, _, _, (lwX p4).trans rfl, p3, p4.2.2⟩⟩
  refine ladp (fun _ => ?_) (fun _ => ?_)
  · obtain ⟨p1, p2, p3, p4⟩ := lc_44 hq hB ht h
    exact ⟨⟨p1, p2, lwP trivial⟩, ⟨_, _, _, (lwX p4).trans rfl, p3, p4.2.2⟩⟩
  refine ladp (fun _ => ?_) (fun _ => ?_)
  · obtain ⟨p1, p2, p3, p4⟩ := lc_45 (xs (v4 + 1).toNatClampNeg) (xs (v4 + 2).toNatClampNeg) hq hB ht h
    exact ⟨⟨I1, I2, p1, I1, I2, p2, lwP trivial⟩, ⟨_, _, _, (lwX p4).trans rfl, p3, p4.2.2⟩⟩
  refine ladp (fun _ => ?_) (fun _ => ?_)
  · obtain ⟨p1, p2, p3, p4⟩ := lc_46 (xs (v4 + 1).toNatClampNeg) hq hB ht h
    exact ⟨⟨I1, p1, I1, p2, lwP trivial⟩, ⟨_, _, _, (lwX p4).trans rfl, p3, p4.2.2⟩⟩
  refine ladp (fun _ => ?_) (fun _ => ?_)
  · obtain ⟨p1, p2, p3, p4⟩ := lc_47 (xs (v4 + 1).toNatClampNeg) (xs (v4 + 2).toNatClampNeg) hq hB ht h
    exact ⟨⟨I1, I2, p1, I1, I2, p2, lwP trivial⟩, ⟨_, _, _, (lwX p4).trans rfl, p3, p4.2.2⟩⟩
  refine ladp (fun _ => ?_) (fun _ => ?_)
  · obtain ⟨p1, p2, p3, p4⟩ := lc_48 (xs (v4 + 1).toNatClampNeg) (xs (v4 + 2).toNatClampNeg) hq hB ht h
    exact ⟨⟨I1, I2, p1, I1, I2, p2, lwP trivial⟩, ⟨_, _, _, (lwX p4).trans rfl, p3, p4.2.2⟩⟩
  refine ladp (fun _ => ?_) (fun _ => ?_)
  · obtain ⟨p1, p2, p3, p4⟩ := lc_49 (xs (v4 + 1).toNatClampNeg) (xs (v4 + 2).toNatClampNeg) hq hB ht h
    exact ⟨⟨I1, I2, p1, I1, I2, p2, lwP trivial⟩, ⟨_, _, _, (lwX p4).trans rfl, p3, p4.2.2⟩⟩
  refine ladp (fun _ => ?_) (fun _ => ?_)
  · obtain ⟨p1, p2, p3, p4⟩ := lc_50 (xs (v4 + 1).toNatClampNeg) (xs (v4 + 2).toNatClampNeg) hq hB ht h
    exact ⟨⟨I1, I2, p1, I1, I2, p2, lwP trivial⟩, ⟨_, _, _, (lwX p4).trans rfl, p3, p4.2.2⟩⟩
  refine ladp (fun _ => ?_) (fun _ => ?_)
  · obtain ⟨p1, p2, p3, p4⟩ := lc_51 (xs (v4 + 1).toNatClampNeg) (xs (v4 + 2).toNatClampNeg) hq hB ht h
    exact ⟨⟨I1, I2, p1, I1, I2, p2, lwP trivial⟩, ⟨_, _, _, (lwX p4).trans rfl, p3, p4.2.2⟩⟩
  refine ladp (fun _ => ?_) (fun _ => ?_)
  · obtain ⟨p1, p2, p3, p4⟩ := lc_52 (xs (v4 + 1).toNatClampNeg) hq hB ht h
    exact ⟨⟨I1, p1, I1, p2, lwP trivial⟩, ⟨_, _, _, (lwX p4).trans rfl, p3, p4.2.2⟩⟩
  refine ladp (fun _ => ?_) (fun _ => ?_)
  · obtain ⟨p1, p2, p3, p4⟩ := lc_53 (xs (v4 + 1).toNatClampNeg) (xs (v4 + 2).toNatClampNeg) hq hB ht h
    exact ⟨⟨I1, I2, p1, I1, I2, p2, lwP trivial⟩, ⟨_, _, _, (lwX p4).trans rfl, p3, p4.2.2⟩⟩
  refine ladp (fun _ => ?_) (fun _ => ?_)
  · obtain ⟨p1, p2, p3, p4, p5⟩ := lc_54 (xs (v4 + 1).toNatClampNeg) hq hB ht h
    exact ⟨⟨I1, p1, I1, p2, fun _ => trivial, fun _ => trivial⟩, ⟨_, _, _, (if_pos p4).trans rfl, p3, p5⟩⟩
  refine ladp (fun _ => ?_) (fun _ => ?_)
  · obtain ⟨p1, p2, p3, p4⟩ := lc_55 hq hB h
    exact ⟨⟨p1, p2, fun _ => trivial, fun _ => trivial⟩, ⟨_, _, _, (if_pos p3).trans rfl, Nat.le_succ _, p4⟩⟩
  refine ladp (fun _ => ?_) (fun _ => ?_)
  · obtain ⟨p1, p2, p3, _, p5, p6⟩ := isDown_al h
    exact ⟨⟨p1, p2, fun _ => trivial, fun _ => trivial⟩, ⟨_, _, _, (if_pos (by rw [p3])).trans rfl, Nat.le_succ _, Sm_m (by omega) (by omega) (Sm_one p6 (fun c hc => p5.2 c (by omega)))⟩⟩
  refine ladp (fun _ => ?_) (fun _ => ?_)
  · obtain ⟨p1, p2, p3, p4⟩ := lc_57 (xs (v4 + 1).toNatClampNeg) hq hB ht h
    exact ⟨⟨I1, p1, I1, p2, lwP trivial⟩, ⟨_, _, _, (lwX p4).trans rfl, p3, p4.2.2⟩⟩
  refine ladp (fun _ => ?_) (fun _ => ?_)
  · obtain ⟨p1, p2, p3, p4⟩ := lc_58 (xs (v4 + 1).toNatClampNeg) (xs (v4 + 2).toNatClampNeg) (xs (v4 + 3).toNatClampNeg) hq hB ht h
    exact ⟨⟨I1, I2, I3, p1, I1, I2, I3, p2, lwP trivial⟩, ⟨_, _, _, (lwX p4).trans rfl, p3, p4.2.2⟩⟩
  refine ladp (fun _ => ?_) (fun _ => ?_)
  · obtain ⟨p1, p2, p3, p4⟩ := lc_59 hq hB ht h
    exact ⟨⟨p1, p2, lwP trivial⟩, ⟨_, _, _, (lwX p4).trans rfl, p3, p4.2.2⟩⟩
  refine ladp (fun _ => ?_) (fun _ => ?_)
  · obtain ⟨p1, p2, p3, p4⟩ := lc_60 (xs (v4 + 1).toNatClampNeg) hq hB ht h
    exact ⟨⟨I1, p1, I1, p2, lwP trivial⟩, ⟨_, _, _, (lwX p4).trans rfl, p3, p4.2.2⟩⟩
  refine ladp (fun _ => ?_) (fun _ => ?_)
  · obtain ⟨p1, p2, p3, p4⟩ := lc_61 (xs (v4 + 1).toNatClampNeg) hq hB ht h
    exact ⟨⟨I1, p1, I1, p2, lwP trivial⟩, ⟨_, _, _, (lwX p4).trans rfl, p3, p4.2.2⟩⟩
  refine ladp (fun _ => ?_) (fun _ => ?_)
  · obtain ⟨p1, p2, p3, p4⟩ := lc_62 hq hB ht h
    exact ⟨⟨p1, p2, lwP trivial⟩, ⟨_, _, _, (lwX p4).trans rfl, p3, p4.2.2⟩⟩
  refine ladp (fun _ => ?_) (fun _ => ?_)
  · obtain ⟨p1, p2, p3, p4⟩ := lc_63 (xs (v4 + 1).toNatClampNeg) (xs (v4 + 2).toNatClampNeg) hq hB ht h
    exact ⟨⟨I1, I2, p1, I1, I2, p2, lwP trivial⟩, ⟨_, _, _, (lwX p4).trans rfl, p3, p4.2.2⟩⟩
  refine ladp (fun _ => ?_) (fun _ => ?_)
  · obtain ⟨p1, p2, p3, p4⟩ := lc_64 hq hB ht h
    exact ⟨⟨p1, p2, lwP trivial⟩, ⟨_, _, _, (lwX p4).trans rfl, p3, p4.2.2⟩⟩
  refine ladp (fun _ => ?_) (fun _ => ?_)
  · obtain ⟨p1, p2, p3, p4⟩ := lc_65 hq hB ht h
    exact ⟨⟨p1, p2, lwP trivial⟩, ⟨_, _, _, (lwX p4).trans rfl, p3, p4.2.2⟩⟩
  exact ⟨trivial, ⟨_, _, _, rfl, Nat.le_succ _, Sm_m (by omega) (by omega) h⟩⟩
end Ld
