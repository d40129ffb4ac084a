/-! THE FUNCTIONS: written by program: each method comes to its function. -/
section Fn18
variable {L : Nat} {xs : Nat → Int32} {d : Nat} {S : mz_S} {R : Nat → Nat → Option Nat} {Q : mz_Q} {N : mz_N} {b : Bool} {t : Nat}
/-! 370 KeptHouse.image ()I -/
theorem ms_370_0 : mz_sf mk_370 0 = mk_370 := mz_sf_zero _
set_option maxRecDepth 100000 in
theorem mzq_370 : mz_PG0 370 = some (11, ⟨"KeptHouse", "image", "()I"⟩, prog_1_method_66_code, 1, some .int, [], mk_370, []) := rfl
theorem cg_370_0 (hd : 3 ≤ d) (hS : mz_extR S 232) (hR : mz_rok R 232)  (N : mz_N) {C0 : (Nat × Int32 × mz_N) → Prop} (hr : ∀ (w : Int32) (N2 : mz_N), C0 (0, w, N2) → Q (.inl (some (.int w))) (mz_k S R N2 b t)) (ht : ∀ (c : Nat) (w : Int32) (N2 : mz_N), ¬ c = 0 → C0 (c, w, N2) → Q (.inr (c - 1)) (mz_k S R N2 b (t + 1))) (h1000 : t < 1000) (hp : cp_370_0 N) (hC : C0 (cf_370_0 N)) : mz_G (d, mz_X0 L xs, some .int, [], mk_370, 1, Q) 0 mk_370 [(0, .ref 0)] [] true (mz_k S R N b t) := by
  unfold cf_370_0 at hC
  unfold cp_370_0 at hp
  refine g_aload_n rfl ?_
  obtain ⟨h1, hp⟩ := hp
  refine g_v1nt (Nat.le_of_ble_eq_true rfl) (mz_at hS (Nat.le_of_ble_eq_true rfl) mzcS_0) rfl (fun _ hz0 hz1 => cs_104 (Nat.le_trans (Nat.le_of_ble_eq_true rfl) hd) (hS.le (Nat.le_of_ble_eq_true rfl)) (hR.le (Nat.le_of_ble_eq_true rfl))  N h1 h1000 hz0 hz1) hC (fun h3 hC => ?_) (fun h3 hC => ?_)
  · have hp := hp.1 h3
    refine g_aload_n rfl (g_getR (mz_at hS (Nat.le_of_ble_eq_true rfl) mzcS_0) mzcf_11_0 (mz_rb hR (Nat.le_of_ble_eq_true rfl) rfl mzcR_0_0) ?_)
    have h2 := hp
    refine g_v1n (Nat.le_of_ble_eq_true rfl) (mz_at hS (Nat.le_of_ble_eq_true rfl) mzcS_1) (fun _ hq => cs_371 (Nat.le_trans (Nat.le_of_ble_eq_true rfl) hd) (hS.le (Nat.le_of_ble_eq_true rfl)) (hR.le (Nat.le_of_ble_eq_true rfl))  N h2 hq) (g_aload_n rfl (g_getR (mz_at hS (Nat.le_of_ble_eq_true rfl) mzcS_0) mzcf_11_0 (mz_rb hR (Nat.le_of_ble_eq_true rfl) rfl mzcR_0_0) (g_getI (mz_at hS (Nat.le_of_ble_eq_true rfl) mzcS_1) mzcf_4_10 ?_)))
    exact g_iret rfl (hr _ _ hC)
  · have hp := hp.2 h3
    exact ht _ _ _ h3 hC
theorem cs_370 (hd : 4 ≤ d) (hS : mz_extR S 232) (hR : mz_rok R 232)  (N : mz_N) (hp : cp_370_0 N) (h1000 : t < 1000) (h0 : (cf_370_0 N).1 = 0 → Q (.inl (some (.int ((cf_370_0 N).2.1)))) (mz_k S R ((cf_370_0 N).2.2) b t)) (h1 : ¬ (cf_370_0 N).1 = 0 → Q (.inr (((cf_370_0 N).1) - 1)) (mz_k S R ((cf_370_0 N).2.2) b (t + 1))) : mz_Ed (mz_X0 L xs) d 370 [.ref 0] (mz_k S R N b t) Q :=
  by
  refine g_in mzq_370 (Nat.le_of_ble_eq_true rfl) (Nat.le_of_ble_eq_true rfl) (Nat.le_trans (Nat.le_of_ble_eq_true rfl) hd) ?_
  refine g_weak ?_ (cg_370_0 (d := d - 1) (by omega) hS hR N (C0 := fun z => (z.1 = 0 → Q (.inl (some (.int z.2.1))) (mz_k S R z.2.2 b t)) ∧ (¬ z.1 = 0 → Q (.inr (z.1 - 1)) (mz_k S R z.2.2 b (t + 1)))) (fun _ _ h => h.1 rfl) (fun c _ _ hc h => h.2 hc) h1000 hp ⟨h0, h1⟩)
  exact ⟨rfl, trivial⟩
/-! 369 KeptHouseLaw.image (LKeptHouse;[J)I -/
theorem ms_369_0 : mz_sf mk_369 0 = mk_369 := mz_sf_zero _
theorem ms_369_12 : mz_sf mk_369 12 = mt_369_12 := mz_sf_add ms_369_0 (t := 12) rfl rfl
theorem ms_369_14 : mz_sf mk_369 14 = mt_369_14 := mz_sf_add ms_369_12 (t := 2) rfl rfl
set_option maxRecDepth 100000 in
theorem mzq_369 : mz_PG0 369 = some (13, ⟨"KeptHouseLaw", "image", "(LKeptHouse;[J)I"⟩, method_60_code, 3, some .int, [(0, 8, 11, 15)], mk_369, [(1, 11, 12)]) := rfl
theorem cg_369_0 (hd : 4 ≤ d) (hS : mz_extR S 343) (hR : mz_rok R 343)  (N : mz_N) (t : Nat) {C0 : (Int32 × mz_N × Nat) → Prop} (hr : ∀ (w : Int32) (N2 : mz_N) (t2 : Nat), C0 (w, N2, t2) → Q (.inl (some (.int w))) (mz_k S R N2 b t2)) (hp : cp_369_0 N t) (hC : C0 (cf_369_0 N t)) : mz_G (d, mz_X0 L xs, some .int, [(1, 11, 12)], mk_369, 3, Q) 0 mk_369 [(0, .ref 0), (1, .ref 342)] [] true (mz_k S R N b t) := by
  unfold cf_369_0 at hC
  unfold cp_369_0 at hp
  refine g_aload_n rfl (g_iconst mzi_0 (g_aload_n rfl ?_))
  obtain ⟨h1, hp⟩ := hp
  obtain ⟨h1000, hp⟩ := hp
  refine g_v1vh (Nat.le_of_ble_eq_true rfl) (mz_at hS (Nat.le_of_ble_eq_true rfl) mzcS_0) (fun _ hz0 hz1 => cs_370 (Nat.le_trans (Nat.le_of_ble_eq_true rfl) hd) (hS.le (Nat.le_of_ble_eq_true rfl)) (hR.le (Nat.le_of_ble_eq_true rfl))  N h1 h1000 hz0 hz1) hC (fun h2 hC => ?_) (fun h2 hC => ?_)
  · have hp := hp.1 h2
    refine g_i2l (g_last (mz_at hS (Nat.le_of_ble_eq_true rfl) mzcS_342) (mz_ibd (by decide)) (g_goto (tg := 14) rfl ms_369_14 (g_iconst mzi_0 ?_)))
    exact g_iret rfl (hr _ _ _ hC)
  · have hp := hp.2 h2
    have h4 := hp
    refine ⟨(1, 11, 12), (by rw [h4]; rfl), ?_⟩
    show mz_G (d, mz_X0 L xs, some .int, [(1, 11, 12)], mk_369, 3, Q) 12 (mz_sf mk_369 12) [] [] false (mz_k S R ((cf_370_0 N).2.2) b (t + 1))
    rw [ms_369_12]
    refine g_iconst mzi_1 ?_
    exact g_iret rfl (hr _ _ _ hC)
theorem cs_369 (hd : 5 ≤ d) (hS : mz_extR S 343) (hR : mz_rok R 343)  (N : mz_N) (t : Nat) (hp : cp_369_0 N t) (hq : Q (.inl (some (.int ((cf_369_0 N t).1)))) (mz_k S R ((cf_369_0 N t).2.1) b ((cf_369_0 N t).2.2))) : mz_Ed (mz_X0 L xs) d 369 [.ref 0, .ref 342] (mz_k S R N b t) Q :=
  by
  refine g_in mzq_369 (Nat.le_of_ble_eq_true rfl) (Nat.le_of_ble_eq_true rfl) (Nat.le_trans (Nat.le_of_ble_eq_true rfl) hd) ?_
  refine g_weak ?_ (cg_369_0 (d := d - 1) (by omega) hS hR N t (C0 := fun z => Q (.inl (some (.int z.1))) (mz_k S R z.2.1 b z.2.2)) (fun _ _ _ h => h) hp hq)
  exact ⟨rfl, rfl, trivial⟩
/-! 373 KeptHouse.tape (I)I -/
theorem ms_373_0 : mz_sf mk_373 0 = mk_373 := mz_sf_zero _
set_option maxRecDepth 100000 in
theorem mzq_373 : mz_PG0 373 = some (11, ⟨"KeptHouse", "tape", "(I)I"⟩, prog_1_method_67_code, 2, some .int, [], mk_373, []) := rfl
theorem cg_373_0 (hd : 1 ≤ d) (hS : mz_extR S 232) (hR : mz_rok R 232)  (v1 : Int32) (N : mz_N) {C0 : (Nat × Int32) → Prop} (hr : ∀ (w : Int32), C0 (0, w) → Q (.inl (some (.int w))) (mz_k S R N b t)) (ht : ∀ (c : Nat) (w : Int32), ¬ c = 0 → C0 (c, w) → Q (.inr (c - 1)) (mz_k S R N b (t + 1))) (h1000 : t < 1000) (hp : cp_373_0 v1 N) (hC : C0 (cf_373_0 v1 N)) : mz_G (d, mz_X0 L xs, some .int, [], mk_373, 2, Q) 0 mk_373 [(0, .ref 0), (1, .int v1)] [] true (mz_k S R N b t) := by
  unfold cf_373_0 at hC
  unfold cp_373_0 at hp
  refine g_aload_n rfl ?_
  obtain ⟨h1, hp⟩ := hp
  refine g_v1nt (Nat.le_of_ble_eq_true rfl) (mz_at hS (Nat.le_of_ble_eq_true rfl) mzcS_0) rfl (fun _ hz0 hz1 => cs_104 (Nat.le_trans (Nat.le_of_ble_eq_true rfl) hd) (hS.le (Nat.le_of_ble_eq_true rfl)) (hR.le (Nat.le_of_ble_eq_true rfl))  N h1 h1000 hz0 hz1) hC (fun h5 hC => ?_) (fun h5 hC => ?_)
  · have hp := hp.1 h5
    refine g_iload_n rfl (g_iconst mzi_0 (g_aload_n rfl (g_getR (mz_at hS (Nat.le_of_ble_eq_true rfl) mzcS_0) mzcf_11_0 (mz_rb hR (Nat.le_of_ble_eq_true rfl) rfl mzcR_0_0) (g_getI (mz_at hS (Nat.le_of_ble_eq_true rfl) mzcS_1) mzcf_4_10 (g_iconst mzi_1 (g_isub ?_))))))
    obtain ⟨h2, hp⟩ := hp
    refine g_s3nt (Nat.le_of_ble_eq_true rfl) rfl (fun _ hz0 hz1 => cs_105 (Nat.le_trans (Nat.le_of_ble_eq_true rfl) hd) (hS.le (Nat.le_of_ble_eq_true rfl)) (hR.le (Nat.le_of_ble_eq_true rfl))  v1 0 ((N.1 1 10) - 1) h2 h1000 hz0 hz1) hC (fun h4 hC => ?_) (fun h4 hC => ?_)
    · have hp := hp.1 h4
      refine g_aload_n rfl (g_getR (mz_at hS (Nat.le_of_ble_eq_true rfl) mzcS_0) mzcf_11_0 (mz_rb hR (Nat.le_of_ble_eq_true rfl) rfl mzcR_0_0) (g_getR (mz_at hS (Nat.le_of_ble_eq_true rfl) mzcS_1) mzcf_4_9 (mz_rb hR (Nat.le_of_ble_eq_true rfl) rfl mzcR_1_9) (g_iload_n rfl ?_)))
      have h3 := hp
      refine g_iald hS.1 (mz_at hS (Nat.le_of_ble_eq_true rfl) mzcS_228) h3 ?_
      exact g_iret rfl (hr _ hC)
    · have hp := hp.2 h4
      exact ht _ _ h4 hC
  · have hp := hp.2 h5
    exact ht _ _ h5 hC
theorem cs_373 (hd : 2 ≤ d) (hS : mz_extR S 232) (hR : mz_rok R 232)  (v1 : Int32) (N : mz_N) (hp : cp_373_0 v1 N) (h1000 : t < 1000) (h0 : (cf_373_0 v1 N).1 = 0 → Q (.inl (some (.int ((cf_373_0 v1 N).2)))) (mz_k S R N b t)) (h1 : ¬ (cf_373_0 v1 N).1 = 0 → Q (.inr (((cf_373_0 v1 N).1) - 1)) (mz_k S R N b (t + 1))) : mz_Ed (mz_X0 L xs) d 373 [.ref 0, .int v1] (mz_k S R N b t) Q :=
  by
  refine g_in mzq_373 (Nat.le_of_ble_eq_true rfl) (Nat.le_of_ble_eq_true rfl) (Nat.le_trans (Nat.le_of_ble_eq_true rfl) hd) ?_
  refine g_weak ?_ (cg_373_0 (d := d - 1) (by omega) hS hR v1 N (C0 := fun z => (z.1 = 0 → Q (.inl (some (.int z.2))) (mz_k S R N b t)) ∧ (¬ z.1 = 0 → Q (.inr (z.1 - 1)) (mz_k S R N b (t + 1)))) (fun _ h => h.1 rfl) (fun c _ hc h => h.2 hc) h1000 hp ⟨h0, h1⟩)
  exact ⟨rfl, rfl, trivial⟩
/-! 372 KeptHouseLaw.tape (LKeptHouse;I[J)I -/
theorem ms_372_0 : mz_sf mk_372 0 = mk_372 := mz_sf_zero _
theorem ms_372_13 : mz_sf mk_372 13 = mt_372_13 := mz_sf_add ms_372_0 (t := 13) rfl rfl
theorem ms_372_16 : mz_sf mk_372 16 = mt_372_16 := mz_sf_add ms_372_13 (t := 3) rfl rfl
theorem ms_372_18 : mz_sf mk_372 18 = mt_372_18 := mz_sf_add ms_372_16 (t := 2) rfl rfl
set_option maxRecDepth 100000 in
theorem mzq_372 : mz_PG0 372 = some (13, ⟨"KeptHouseLaw", "tape", "(LKeptHouse;I[J)I"⟩, method_61_code, 4, some .int, [(0, 9, 12, 13), (0, 9, 15, 15)], mk_372, [(0, 12, 13), (1, 15, 16)]) := rfl
theorem cg_372_0 (hd : 2 ≤ d) (hS : mz_extR S 343) (hR : mz_rok R 343)  (v1 : Int32) (N : mz_N) (t : Nat) {C0 : (Int32 × mz_N × Nat) → Prop} (hr : ∀ (w : Int32) (N2 : mz_N) (t2 : Nat), C0 (w, N2, t2) → Q (.inl (some (.int w))) (mz_k S R N2 b t2)) (hp : cp_372_0 v1 N t) (hC : C0 (cf_372_0 v1 N t)) : mz_G (d, mz_X0 L xs, some .int, [(0, 12, 13), (1, 15, 16)], mk_372, 4, Q) 0 mk_372 [(0, .ref 0), (1, .int v1), (2, .ref 342)] [] true (mz_k S R N b t) := by
  unfold cf_372_0 at hC
  unfold cp_372_0 at hp
  refine g_aload_n rfl (g_iconst mzi_0 (g_aload_n rfl (g_iload_n rfl ?_)))
  obtain ⟨h1, hp⟩ := hp
  obtain ⟨h1000, hp⟩ := hp
  refine g_v2vh (Nat.le_of_ble_eq_true rfl) (mz_at hS (Nat.le_of_ble_eq_true rfl) mzcS_0) (fun _ hz0 hz1 => cs_373 (Nat.le_trans (Nat.le_of_ble_eq_true rfl) hd) (hS.le (Nat.le_of_ble_eq_true rfl)) (hR.le (Nat.le_of_ble_eq_true rfl))  v1 N h1 h1000 hz0 hz1) hC (fun h2 hC => ?_) (fun h2 hC => ?_)
  · have hp := hp.1 h2
    refine g_i2l (g_last (mz_at hS (Nat.le_of_ble_eq_true rfl) mzcS_342) (mz_ibd (by decide)) (g_goto (tg := 18) rfl ms_372_18 (g_iconst mzi_0 ?_)))
    exact g_iret rfl (hr _ _ _ hC)
  · have hp := hp.2 h2
    refine mz_cs hC (fun h6 hC => ?_) (fun h6 hC => ?_)
    · have hp := hp.1 h6
      refine ⟨(0, 12, 13), (by rw [h6]; rfl), ?_⟩
      show mz_G (d, mz_X0 L xs, some .int, [(0, 12, 13), (1, 15, 16)], mk_372, 4, Q) 13 (mz_sf mk_372 13) [] [] false (mz_k S R N b (t + 1))
      rw [ms_372_13]
      refine g_iconst mzi_1 ?_
      exact g_iret rfl (hr _ _ _ hC)
    · have hp := hp.2 h6
      have h4 := hp
      refine ⟨(1, 15, 16), (by rw [h4]; rfl), ?_⟩
      show mz_G (d, mz_X0 L xs, some .int, [(0, 12, 13), (1, 15, 16)], mk_372, 4, Q) 16 (mz_sf mk_372 16) [] [] false (mz_k S R N b (t + 1))
      rw [ms_372_16]
      refine g_iconst mzi_2 ?_
      exact g_iret rfl (hr _ _ _ hC)
theorem cs_372 (hd : 3 ≤ d) (hS : mz_extR S 343) (hR : mz_rok R 343)  (v1 : Int32) (N : mz_N) (t : Nat) (hp : cp_372_0 v1 N t) (hq : Q (.inl (some (.int ((cf_372_0 v1 N t).1)))) (mz_k S R ((cf_372_0 v1 N t).2.1) b ((cf_372_0 v1 N t).2.2))) : mz_Ed (mz_X0 L xs) d 372 [.ref 0, .int v1, .ref 342] (mz_k S R N b t) Q :=
  by
  refine g_in mzq_372 (Nat.le_of_ble_eq_true rfl) (Nat.le_of_ble_eq_true rfl) (Nat.le_trans (Nat.le_of_ble_eq_true rfl) hd) ?_
  refine g_weak ?_ (cg_372_0 (d := d - 1) (by omega) hS hR v1 N t (C0 := fun z => Q (.inl (some (.int z.1))) (mz_k S R z.2.1 b z.2.2)) (fun _ _ _ h => h) hp hq)
  exact ⟨rfl, rfl, rfl, trivial⟩
/-! 375 KeptHouse.feed (I)I -/
theorem ms_375_0 : mz_sf mk_375 0 = mk_375 := mz_sf_zero _
theorem ms_375_29 : mz_sf mk_375 29 = mt_375_29 := mz_sf_add ms_375_0 (t := 29) rfl rfl
theorem ms_375_30 : mz_sf mk_375 30 = mt_375_30 := mz_sf_add ms_375_29 (t := 1) rfl rfl
theorem ms_375_62 : mz_sf mk_375 62 = mt_375_62 := mz_sf_add ms_375_30 (t := 32) rfl rfl
set_option maxRecDepth 100000 in
theorem mzq_375 : mz_PG0 375 = some (11, ⟨"KeptHouse", "feed", "(I)I"⟩, prog_1_method_68_code, 2, some .int, [], mk_375, []) := rfl
theorem cg_375_62 (hd : 1 ≤ d) (hS : mz_extR S 232) (hR : mz_rok R 232)  (N : mz_N) {C0 : (Nat × Int32 × mz_N) → Prop} (hr : ∀ (w : Int32) (N2 : mz_N), C0 (0, w, N2) → Q (.inl (some (.int w))) (mz_k S R N2 b t)) (ht : ∀ (c : Nat) (w : Int32) (N2 : mz_N), ¬ c = 0 → C0 (c, w, N2) → Q (.inr (c - 1)) (mz_k S R N2 b (t + 1))) (h1000 : t < 1000) (hp : cp_375_62 N) (hC : C0 (cf_375_62 N)) : mz_G (d, mz_X0 L xs, some .int, [], mk_375, 2, Q) 62 mt_375_62 [(0, .ref 0)] [] false (mz_k S R N b t) := by
  unfold cf_375_62 at hC
  unfold cp_375_62 at hp
  refine g_aload_n rfl (g_getR (mz_at hS (Nat.le_of_ble_eq_true rfl) mzcS_0) mzcf_11_0 (mz_rb hR (Nat.le_of_ble_eq_true rfl) rfl mzcR_0_0) (g_getI (mz_at hS (Nat.le_of_ble_eq_true rfl) mzcS_1) mzcf_4_12 ?_))
  exact g_iret rfl (hr _ _ hC)
theorem cg_375_30 (hd : 1 ≤ d) (hS : mz_extR S 232) (hR : mz_rok R 232)  (s0 : Bool) (v1 : Int32) (N : mz_N) {C0 : (Nat × Int32 × mz_N) → Prop} (hr : ∀ (w : Int32) (N2 : mz_N), C0 (0, w, N2) → Q (.inl (some (.int w))) (mz_k S R N2 b t)) (ht : ∀ (c : Nat) (w : Int32) (N2 : mz_N), ¬ c = 0 → C0 (c, w, N2) → Q (.inr (c - 1)) (mz_k S R N2 b (t + 1))) (h1000 : t < 1000) (hp : cp_375_30 s0 v1 N) (hC : C0 (cf_375_30 s0 v1 N)) : mz_G (d, mz_X0 L xs, some .int, [], mk_375, 2, Q) 30 mt_375_30 [(0, .ref 0), (1, .int v1)] [.int (mz_b01 s0)] false (mz_k S R N b t) := by
  unfold cf_375_30 at hC
  unfold cp_375_30 at hp
  refine g_s1nt (Nat.le_of_ble_eq_true rfl) rfl (fun _ hz0 hz1 => cs_187 (Nat.le_trans (Nat.le_of_ble_eq_true rfl) hd) (hS.le (Nat.le_of_ble_eq_true rfl)) (hR.le (Nat.le_of_ble_eq_true rfl))  s0 trivial h1000 hz0 hz1) hC (fun h3 hC => ?_) (fun h3 hC => ?_)
  · have hp := hp.1 h3
    refine g_aload_n rfl (g_getR (mz_at hS (Nat.le_of_ble_eq_true rfl) mzcS_0) mzcf_11_0 (mz_rb hR (Nat.le_of_ble_eq_true rfl) rfl mzcR_0_0) (g_getR (mz_at hS (Nat.le_of_ble_eq_true rfl) mzcS_1) mzcf_4_11 (mz_rb hR (Nat.le_of_ble_eq_true rfl) rfl mzcR_1_11) (g_aload_n rfl (g_getR (mz_at hS (Nat.le_of_ble_eq_true rfl) mzcS_0) mzcf_11_0 (mz_rb hR (Nat.le_of_ble_eq_true rfl) rfl mzcR_0_0) (g_getI (mz_at hS (Nat.le_of_ble_eq_true rfl) mzcS_1) mzcf_4_12 (g_iload_n rfl ?_))))))
    obtain ⟨h2, hp⟩ := hp
    refine g_iast (mz_at hS (Nat.le_of_ble_eq_true rfl) mzcS_229) h2 (g_aload_n rfl (g_getR (mz_at hS (Nat.le_of_ble_eq_true rfl) mzcS_0) mzcf_11_0 (mz_rb hR (Nat.le_of_ble_eq_true rfl) rfl mzcR_0_0) (g_dup rfl (g_getI (mz_at hS (Nat.le_of_ble_eq_true rfl) mzcS_1) mzcf_4_12 (g_iconst mzi_1 (g_iadd (g_putI (mz_at hS (Nat.le_of_ble_eq_true rfl) mzcS_1) mzcf_4_12 ?_)))))))
    refine g_weak ?_ (g_cl (cg_375_62 hd hS hR (mz_pI (mz_wI N 229 (N.1 1 12) v1) 1 12 (((mz_wI N 229 (N.1 1 12) v1).1 1 12) + 1)) hr ht h1000 hp hC))
    exact ⟨rfl, trivial⟩
  · have hp := hp.2 h3
    exact ht _ _ _ h3 hC
theorem cg_375_0 (hd : 1 ≤ d) (hS : mz_extR S 232) (hR : mz_rok R 232)  (v1 : Int32) (N : mz_N) {C0 : (Nat × Int32 × mz_N) → Prop} (hr : ∀ (w : Int32) (N2 : mz_N), C0 (0, w, N2) → Q (.inl (some (.int w))) (mz_k S R N2 b t)) (ht : ∀ (c : Nat) (w : Int32) (N2 : mz_N), ¬ c = 0 → C0 (c, w, N2) → Q (.inr (c - 1)) (mz_k S R N2 b (t + 1))) (h1000 : t < 1000) (hp : cp_375_0 v1 N) (hC : C0 (cf_375_0 v1 N)) : mz_G (d, mz_X0 L xs, some .int, [], mk_375, 2, Q) 0 mk_375 [(0, .ref 0), (1, .int v1)] [] true (mz_k S R N b t) := by
  unfold cf_375_0 at hC
  unfold cp_375_0 at hp
  refine g_aload_n rfl ?_
  obtain ⟨h1, hp⟩ := hp
  refine g_v1nt (Nat.le_of_ble_eq_true rfl) (mz_at hS (Nat.le_of_ble_eq_true rfl) mzcS_0) rfl (fun _ hz0 hz1 => cs_104 (Nat.le_trans (Nat.le_of_ble_eq_true rfl) hd) (hS.le (Nat.le_of_ble_eq_true rfl)) (hR.le (Nat.le_of_ble_eq_true rfl))  N h1 h1000 hz0 hz1) hC (fun h5 hC => ?_) (fun h5 hC => ?_)
  · have hp := hp.1 h5
    refine g_iload_n rfl (g_iconst mzi_0 (g_sipush mzs_255 ?_))
    obtain ⟨h2, hp⟩ := hp
    refine g_s3nt (Nat.le_of_ble_eq_true rfl) rfl (fun _ hz0 hz1 => cs_105 (Nat.le_trans (Nat.le_of_ble_eq_true rfl) hd) (hS.le (Nat.le_of_ble_eq_true rfl)) (hR.le (Nat.le_of_ble_eq_true rfl))  v1 0 255 h2 h1000 hz0 hz1) hC (fun h4 hC => ?_) (fun h4 hC => ?_)
    · have hp := hp.1 h4
      refine g_aload_n rfl (g_getR (mz_at hS (Nat.le_of_ble_eq_true rfl) mzcS_0) mzcf_11_0 (mz_rb hR (Nat.le_of_ble_eq_true rfl) rfl mzcR_0_0) (g_getI (mz_at hS (Nat.le_of_ble_eq_true rfl) mzcS_1) mzcf_4_12 (g_sipush mzs_4100 ?_)))
      refine g_icge (tg := 29) rfl ms_375_29 hC (fun h3 hC => ?_) (fun h3 hC => ?_)
      · have hp := hp.1 h3
        refine g_iconst mzi_1 (g_goto (tg := 30) rfl ms_375_30 ?_)
        refine g_weak ?_ (g_cl (cg_375_30 hd hS hR true v1 N hr ht h1000 hp hC))
        exact ⟨rfl, rfl, trivial⟩
      · have hp := hp.2 h3
        refine g_iconst mzi_0 ?_
        refine g_weak ?_ (g_cl (cg_375_30 hd hS hR false v1 N hr ht h1000 hp hC))
        exact ⟨rfl, rfl, trivial⟩
    · have hp := hp.2 h4
      exact ht _ _ _ h4 hC
  · have hp := hp.2 h5
    exact ht _ _ _ h5 hC
theorem cs_375 (hd : 2 ≤ d) (hS : mz_extR S 232) (hR : mz_rok R 232)  (v1 : Int32) (N : mz_N) (hp : cp_375_0 v1 N) (h1000 : t < 1000) (h0 : (cf_375_0 v1 N).1 = 0 → Q (.inl (some (.int ((cf_375_0 v1 N).2.1)))) (mz_k S R ((cf_375_0 v1 N).2.2) b t)) (h1 : ¬ (cf_375_0 v1 N).1 = 0 → Q (.inr (((cf_375_0 v1 N).1) - 1)) (mz_k S R ((cf_375_0 v1 N).2.2) b (t + 1))) : mz_Ed (mz_X0 L xs) d 375 [.ref 0, .int v1] (mz_k S R N b t) Q :=
  by
  refine g_in mzq_375 (Nat.le_of_ble_eq_true rfl) (Nat.le_of_ble_eq_true rfl) (Nat.le_trans (Nat.le_of_ble_eq_true rfl) hd) ?_
  refine g_weak ?_ (cg_375_0 (d := d - 1) (by omega) hS hR v1 N (C0 := fun z => (z.1 = 0 → Q (.inl (some (.int z.2.1))) (mz_k S R z.2.2 b t)) ∧ (¬ z.1 = 0 → Q (.inr (z.1 - 1)) (mz_k S R z.2.2 b (t + 1)))) (fun _ _ h => h.1 rfl) (fun c _ _ hc h => h.2 hc) h1000 hp ⟨h0, h1⟩)
  exact ⟨rfl, rfl, trivial⟩
/-! 374 KeptHouseLaw.feed (LKeptHouse;I[J)I -/
theorem ms_374_0 : mz_sf mk_374 0 = mk_374 := mz_sf_zero _
theorem ms_374_13 : mz_sf mk_374 13 = mt_374_13 := mz_sf_add ms_374_0 (t := 13) rfl rfl
theorem ms_374_16 : mz_sf mk_374 16 = mt_374_16 := mz_sf_add ms_374_13 (t := 3) rfl rfl
theorem ms_374_18 : mz_sf mk_374 18 = mt_374_18 := mz_sf_add ms_374_16 (t := 2) rfl rfl
set_option maxRecDepth 100000 in
theorem mzq_374 : mz_PG0 374 = some (13, ⟨"KeptHouseLaw", "feed", "(LKeptHouse;I[J)I"⟩, method_62_code, 4, some .int, [(0, 9, 12, 13), (0, 9, 15, 15)], mk_374, [(0, 12, 13), (1, 15, 16)]) := rfl
theorem cg_374_0 (hd : 2 ≤ d) (hS : mz_extR S 343) (hR : mz_rok R 343)  (v1 : Int32) (N : mz_N) (t : Nat) {C0 : (Int32 × mz_N × Nat) → Prop} (hr : ∀ (w : Int32) (N2 : mz_N) (t2 : Nat), C0 (w, N2, t2) → Q (.inl (some (.int w))) (mz_k S R N2 b t2)) (hp : cp_374_0 v1 N t) (hC : C0 (cf_374_0 v1 N t)) : mz_G (d, mz_X0 L xs, some .int, [(0, 12, 13), (1, 15, 16)], mk_374, 4, Q) 0 mk_374 [(0, .ref 0), (1, .int v1), (2, .ref 342)] [] true (mz_k S R N b t) := by
  unfold cf_374_0 at hC
  unfold cp_374_0 at hp
  refine g_aload_n rfl (g_iconst mzi_0 (g_aload_n rfl (g_iload_n rfl ?_)))
  obtain ⟨h1, hp⟩ := hp
  obtain ⟨h1000, hp⟩ := hp
  refine g_v2vh (Nat.le_of_ble_eq_true rfl) (mz_at hS (Nat.le_of_ble_eq_true rfl) mzcS_0) (fun _ hz0 hz1 => cs_375 (Nat.le_trans (Nat.le_of_ble_eq_true rfl) hd) (hS.le (Nat.le_of_ble_eq_true rfl)) (hR.le (Nat.le_of_ble_eq_true rfl))  v1 N h1 h1000 hz0 hz1) hC (fun h2 hC => ?_) (fun h2 hC => ?_)
  · have hp := hp.1 h2
    refine g_i2l (g_last (mz_at hS (Nat.le_of_ble_eq_true rfl) mzcS_342) (mz_ibd (by decide)) (g_goto (tg := 18) rfl ms_374_18 (g_iconst mzi_0 ?_)))
    exact g_iret rfl (hr _ _ _ hC)
  · have hp := hp.2 h2
    refine mz_cs hC (fun h6 hC => ?_) (fun h6 hC => ?_)
    · have hp := hp.1 h6
      refine ⟨(0, 12, 13), (by rw [h6]; rfl), ?_⟩
      show mz_G (d, mz_X0 L xs, some .int, [(0, 12, 13), (1, 15, 16)], mk_374, 4, Q) 13 (mz_sf mk_374 13) [] [] false (mz_k S R ((cf_375_0 v1 N).2.2) b (t + 1))
      rw [ms_374_13]
      refine g_iconst mzi_1 ?_
      exact g_iret rfl (hr _ _ _ hC)
    · have hp := hp.2 h6
      have h4 := hp
      refine ⟨(1, 15, 16), (by rw [h4]; rfl), ?_⟩
      show mz_G (d, mz_X0 L xs, some .int, [(0, 12, 13), (1, 15, 16)], mk_374, 4, Q) 16 (mz_sf mk_374 16) [] [] false (mz_k S R ((cf_375_0 v1 N).2.2) b (t + 1))
      rw [ms_374_16]
      refine g_iconst mzi_2 ?_
      exact g_iret rfl (hr _ _ _ hC)
theorem cs_374 (hd : 3 ≤ d) (hS : mz_extR S 343) (hR : mz_rok R 343)  (v1 : Int32) (N : mz_N) (t : Nat) (hp : cp_374_0 v1 N t) (hq : Q (.inl (some (.int ((cf_374_0 v1 N t).1)))) (mz_k S R ((cf_374_0 v1 N t).2.1) b ((cf_374_0 v1 N t).2.2))) : mz_Ed (mz_X0 L xs) d 374 [.ref 0, .int v1, .ref 342] (mz_k S R N b t) Q :=
  by
  refine g_in mzq_374 (Nat.le_of_ble_eq_true rfl) (Nat.le_of_ble_eq_true rfl) (Nat.le_trans (Nat.le_of_ble_eq_true rfl) hd) ?_
  refine g_weak ?_ (cg_374_0 (d := d - 1) (by omega) hS hR v1 N t (C0 := fun z => Q (.inl (some (.int z.1))) (mz_k S R z.2.1 b z.2.2)) (fun _ _ _ h => h) hp hq)
  exact ⟨rfl, rfl, rfl, trivial⟩
/-! 378 KeptHouse$Keeper.copyTape ()V -/
theorem ms_378_0 : mz_sf mk_378 0 = mk_378 := mz_sf_zero _
theorem ms_378_33 : mz_sf mk_378 33 = mt_378_33 := mz_sf_add ms_378_0 (t := 33) rfl rfl
set_option maxRecDepth 100000 in
theorem mzq_378 : mz_PG0 378 = some (4, ⟨"KeptHouse$Keeper", "copyTape", "()V"⟩, prog_6_method_11_code, 2, none, [], mk_378, []) := rfl
theorem cg_378_0 (hd : 0 ≤ d) (hS : mz_extR S 232) (hR : mz_rok R 232)  (N : mz_N) {C0 : (mz_N) → Prop} (hr : ∀ (N2 : mz_N), C0 N2 → Q (.inl none) (mz_k S R N2 b t)) (hp : cp_378_0 N) (hC : C0 (cf_378_0 N)) : mz_G (d, mz_X0 L xs, none, [], mk_378, 2, Q) 0 mk_378 [(0, .ref 1)] [] true (mz_k S R N b t) := by
  unfold cf_378_0 at hC
  unfold cp_378_0 at hp
  refine g_aload_n rfl (g_getI (mz_at hS (Nat.le_of_ble_eq_true rfl) mzcS_1) mzcf_4_10 (g_sipush mzs_4100 (g_aload_n rfl (g_getI (mz_at hS (Nat.le_of_ble_eq_true rfl) mzcS_1) mzcf_4_12 (g_isub (g_imin (Nat.le_of_ble_eq_true rfl) (g_istore_n (Nat.le_of_ble_eq_true rfl) rfl ?_)))))))
  refine g_aload_n rfl (g_getR (mz_at hS (Nat.le_of_ble_eq_true rfl) mzcS_1) mzcf_4_9 (mz_rb hR (Nat.le_of_ble_eq_true rfl) rfl mzcR_1_9) (g_iconst mzi_0 (g_aload_n rfl (g_getR (mz_at hS (Nat.le_of_ble_eq_true rfl) mzcS_1) mzcf_4_11 (mz_rb hR (Nat.le_of_ble_eq_true rfl) rfl mzcR_1_11) (g_aload_n rfl (g_getI (mz_at hS (Nat.le_of_ble_eq_true rfl) mzcS_1) mzcf_4_12 (g_iload_n rfl ?_)))))))
  have h1 := hp
  refine g_cpI (Nat.le_of_ble_eq_true rfl) (mz_at hS (Nat.le_of_ble_eq_true rfl) mzcS_228) (mz_at hS (Nat.le_of_ble_eq_true rfl) mzcS_229) h1 (g_aload_n rfl (g_dup rfl (g_getI (mz_at hS (Nat.le_of_ble_eq_true rfl) mzcS_1) mzcf_4_12 (g_iload_n rfl (g_iadd (g_putI (mz_at hS (Nat.le_of_ble_eq_true rfl) mzcS_1) mzcf_4_12 ?_))))))
  exact g_vret rfl (hr _ hC)
theorem cs_378 (hd : 1 ≤ d) (hS : mz_extR S 232) (hR : mz_rok R 232)  (N : mz_N) (hp : cp_378_0 N) (hq : Q (.inl none) (mz_k S R (cf_378_0 N) b t)) : mz_Ed (mz_X0 L xs) d 378 [.ref 1] (mz_k S R N b t) Q :=
  by
  refine g_in mzq_378 (Nat.le_of_ble_eq_true rfl) (Nat.le_of_ble_eq_true rfl) (Nat.le_trans (Nat.le_of_ble_eq_true rfl) hd) ?_
  refine g_weak ?_ (cg_378_0 (d := d - 1) (by omega) hS hR N (C0 := fun z => Q (.inl none) (mz_k S R z b t)) (fun _ h => h) hp hq)
  exact ⟨rfl, trivial⟩
/-! 377 KeptHouse.copy ()I -/
theorem ms_377_0 : mz_sf mk_377 0 = mk_377 := mz_sf_zero _
set_option maxRecDepth 100000 in
theorem mzq_377 : mz_PG0 377 = some (11, ⟨"KeptHouse", "copy", "()I"⟩, prog_1_method_69_code, 1, some .int, [], mk_377, []) := rfl
theorem cg_377_0 (hd : 1 ≤ d) (hS : mz_extR S 232) (hR : mz_rok R 232)  (N : mz_N) {C0 : (Nat × Int32 × mz_N) → Prop} (hr : ∀ (w : Int32) (N2 : mz_N), C0 (0, w, N2) → Q (.inl (some (.int w))) (mz_k S R N2 b t)) (ht : ∀ (c : Nat) (w : Int32) (N2 : mz_N), ¬ c = 0 → C0 (c, w, N2) → Q (.inr (c - 1)) (mz_k S R N2 b (t + 1))) (h1000 : t < 1000) (hp : cp_377_0 N) (hC : C0 (cf_377_0 N)) : mz_G (d, mz_X0 L xs, some .int, [], mk_377, 1, Q) 0 mk_377 [(0, .ref 0)] [] true (mz_k S R N b t) := by
  unfold cf_377_0 at hC
  unfold cp_377_0 at hp
  refine g_aload_n rfl ?_
  obtain ⟨h1, hp⟩ := hp
  refine g_v1nt (Nat.le_of_ble_eq_true rfl) (mz_at hS (Nat.le_of_ble_eq_true rfl) mzcS_0) rfl (fun _ hz0 hz1 => cs_104 (Nat.le_trans (Nat.le_of_ble_eq_true rfl) hd) (hS.le (Nat.le_of_ble_eq_true rfl)) (hR.le (Nat.le_of_ble_eq_true rfl))  N h1 h1000 hz0 hz1) hC (fun h3 hC => ?_) (fun h3 hC => ?_)
  · have hp := hp.1 h3
    refine g_aload_n rfl (g_getR (mz_at hS (Nat.le_of_ble_eq_true rfl) mzcS_0) mzcf_11_0 (mz_rb hR (Nat.le_of_ble_eq_true rfl) rfl mzcR_0_0) ?_)
    have h2 := hp
    refine g_v1n (Nat.le_of_ble_eq_true rfl) (mz_at hS (Nat.le_of_ble_eq_true rfl) mzcS_1) (fun _ hq => cs_378 (Nat.le_trans (Nat.le_of_ble_eq_true rfl) hd) (hS.le (Nat.le_of_ble_eq_true rfl)) (hR.le (Nat.le_of_ble_eq_true rfl))  N h2 hq) (g_aload_n rfl (g_getR (mz_at hS (Nat.le_of_ble_eq_true rfl) mzcS_0) mzcf_11_0 (mz_rb hR (Nat.le_of_ble_eq_true rfl) rfl mzcR_0_0) (g_getI (mz_at hS (Nat.le_of_ble_eq_true rfl) mzcS_1) mzcf_4_12 ?_)))
    exact g_iret rfl (hr _ _ hC)
  · have hp := hp.2 h3
    exact ht _ _ _ h3 hC
theorem cs_377 (hd : 2 ≤ d) (hS : mz_extR S 232) (hR : mz_rok R 232)  (N : mz_N) (hp : cp_377_0 N) (h1000 : t < 1000) (h0 : (cf_377_0 N).1 = 0 → Q (.inl (some (.int ((cf_377_0 N).2.1)))) (mz_k S R ((cf_377_0 N).2.2) b t)) (h1 : ¬ (cf_377_0 N).1 = 0 → Q (.inr (((cf_377_0 N).1) - 1)) (mz_k S R ((cf_377_0 N).2.2) b (t + 1))) : mz_Ed (mz_X0 L xs) d 377 [.ref 0] (mz_k S R N b t) Q :=
  by
  refine g_in mzq_377 (Nat.le_of_ble_eq_true rfl) (Nat.le_of_ble_eq_true rfl) (Nat.le_trans (Nat.le_of_ble_eq_true rfl) hd) ?_
  refine g_weak ?_ (cg_377_0 (d := d - 1) (by omega) hS hR N (C0 := fun z => (z.1 = 0 → Q (.inl (some (.int z.2.1))) (mz_k S R z.2.2 b t)) ∧ (¬ z.1 = 0 → Q (.inr (z.1 - 1)) (mz_k S R z.2.2 b (t + 1)))) (fun _ _ h => h.1 rfl) (fun c _ _ hc h => h.2 hc) h1000 hp ⟨h0, h1⟩)
  exact ⟨rfl, trivial⟩
/-! 376 KeptHouseLaw.copy (LKeptHouse;[J)I -/
theorem ms_376_0 : mz_sf mk_376 0 = mk_376 := mz_sf_zero _
theorem ms_376_12 : mz_sf mk_376 12 = mt_376_12 := mz_sf_add ms_376_0 (t := 12) rfl rfl
theorem ms_376_14 : mz_sf mk_376 14 = mt_376_14 := mz_sf_add ms_376_12 (t := 2) rfl rfl
set_option maxRecDepth 100000 in
theorem mzq_376 : mz_PG0 376 = some (13, ⟨"KeptHouseLaw", "copy", "(LKeptHouse;[J)I"⟩, method_63_code, 3, some .int, [(0, 8, 11, 15)], mk_376, [(1, 11, 12)]) := rfl
theorem cg_376_0 (hd : 2 ≤ d) (hS : mz_extR S 343) (hR : mz_rok R 343)  (N : mz_N) (t : Nat) {C0 : (Int32 × mz_N × Nat) → Prop} (hr : ∀ (w : Int32) (N2 : mz_N) (t2 : Nat), C0 (w, N2, t2) → Q (.inl (some (.int w))) (mz_k S R N2 b t2)) (hp : cp_376_0 N t) (hC : C0 (cf_376_0 N t)) : mz_G (d, mz_X0 L xs, some .int, [(1, 11, 12)], mk_376, 3, Q) 0 mk_376 [(0, .ref 0), (1, .ref 342)] [] true (mz_k S R N b t) := by
  unfold cf_376_0 at hC
  unfold cp_376_0 at hp
  refine g_aload_n rfl (g_iconst mzi_0 (g_aload_n rfl ?_))
  obtain ⟨h1, hp⟩ := hp
  obtain ⟨h1000, hp⟩ := hp
  refine g_v1vh (Nat.le_of_ble_eq_true rfl) (mz_at hS (Nat.le_of_ble_eq_true rfl) mzcS_0) (fun _ hz0 hz1 => cs_377 (Nat.le_trans (Nat.le_of_ble_eq_true rfl) hd) (hS.le (Nat.le_of_ble_eq_true rfl)) (hR.le (Nat.le_of_ble_eq_true rfl))  N h1 h1000 hz0 hz1) hC (fun h2 hC => ?_) (fun h2 hC => ?_)
  · have hp := hp.1 h2
    refine g_i2l (g_last (mz_at hS (Nat.le_of_ble_eq_true rfl) mzcS_342) (mz_ibd (by decide)) (g_goto (tg := 14) rfl ms_376_14 (g_iconst mzi_0 ?_)))
    exact g_iret rfl (hr _ _ _ hC)
  · have hp := hp.2 h2
    have h4 := hp
    refine ⟨(1, 11, 12), (by rw [h4]; rfl), ?_⟩
    show mz_G (d, mz_X0 L xs, some .int, [(1, 11, 12)], mk_376, 3, Q) 12 (mz_sf mk_376 12) [] [] false (mz_k S R ((cf_377_0 N).2.2) b (t + 1))
    rw [ms_376_12]
    refine g_iconst mzi_1 ?_
    exact g_iret rfl (hr _ _ _ hC)
theorem cs_376 (hd : 3 ≤ d) (hS : mz_extR S 343) (hR : mz_rok R 343)  (N : mz_N) (t : Nat) (hp : cp_376_0 N t) (hq : Q (.inl (some (.int ((cf_376_0 N t).1)))) (mz_k S R ((cf_376_0 N t).2.1) b ((cf_376_0 N t).2.2))) : mz_Ed (mz_X0 L xs) d 376 [.ref 0, .ref 342] (mz_k S R N b t) Q :=
  by
  refine g_in mzq_376 (Nat.le_of_ble_eq_true rfl) (Nat.le_of_ble_eq_true rfl) (Nat.le_trans (Nat.le_of_ble_eq_true rfl) hd) ?_
  refine g_weak ?_ (cg_376_0 (d := d - 1) (by omega) hS hR N t (C0 := fun z => Q (.inl (some (.int z.1))) (mz_k S R z.2.1 b z.2.2)) (fun _ _ _ h => h) hp hq)
  exact ⟨rfl, rfl, trivial⟩
/-! 380 KeptHouse.poke (II)I -/
theorem ms_380_0 : mz_sf mk_380 0 = mk_380 := mz_sf_zero _
theorem ms_380_26 : mz_sf mk_380 26 = mt_380_26 := mz_sf_add ms_380_0 (t := 26) rfl rfl
theorem ms_380_46 : mz_sf mk_380 46 = mt_380_46 := mz_sf_add ms_380_26 (t := 20) rfl rfl
set_option maxRecDepth 100000 in
theorem mzq_380 : mz_PG0 380 = some (11, ⟨"KeptHouse", "poke", "(II)I"⟩, prog_1_method_70_code, 4, some .int, [], mk_380, []) := rfl
theorem cg_380_0 (hd : 1 ≤ d) (hS : mz_extR S 232) (hR : mz_rok R 232)  (v1 : Int32) (v2 : Int32) (N : mz_N) {C0 : (Nat × Int32 × mz_N) → Prop} (hr : ∀ (w : Int32) (N2 : mz_N), C0 (0, w, N2) → Q (.inl (some (.int w))) (mz_k S R N2 b t)) (ht : ∀ (c : Nat) (w : Int32) (N2 : mz_N), ¬ c = 0 → C0 (c, w, N2) → Q (.inr (c - 1)) (mz_k S R N2 b (t + 1))) (h1000 : t < 1000) (hp : cp_380_0 v1 v2 N) (hC : C0 (cf_380_0 v1 v2 N)) : mz_G (d, mz_X0 L xs, some .int, [], mk_380, 4, Q) 0 mk_380 [(0, .ref 0), (1, .int v1), (2, .int v2)] [] true (mz_k S R N b t) := by
  unfold cf_380_0 at hC
  unfold cp_380_0 at hp
  refine g_aload_n rfl ?_
  obtain ⟨h1, hp⟩ := hp
  refine g_v1nt (Nat.le_of_ble_eq_true rfl) (mz_at hS (Nat.le_of_ble_eq_true rfl) mzcS_0) rfl (fun _ hz0 hz1 => cs_104 (Nat.le_trans (Nat.le_of_ble_eq_true rfl) hd) (hS.le (Nat.le_of_ble_eq_true rfl)) (hR.le (Nat.le_of_ble_eq_true rfl))  N h1 h1000 hz0 hz1) hC (fun h8 hC => ?_) (fun h8 hC => ?_)
  · have hp := hp.1 h8
    refine g_iload_n rfl (g_iconst mzi_0 (g_aload_n rfl (g_getR (mz_at hS (Nat.le_of_ble_eq_true rfl) mzcS_0) mzcf_11_0 (mz_rb hR (Nat.le_of_ble_eq_true rfl) rfl mzcR_0_0) (g_getI (mz_at hS (Nat.le_of_ble_eq_true rfl) mzcS_1) mzcf_4_12 (g_iconst mzi_1 (g_isub ?_))))))
    obtain ⟨h2, hp⟩ := hp
    refine g_s3nt (Nat.le_of_ble_eq_true rfl) rfl (fun _ hz0 hz1 => cs_105 (Nat.le_trans (Nat.le_of_ble_eq_true rfl) hd) (hS.le (Nat.le_of_ble_eq_true rfl)) (hR.le (Nat.le_of_ble_eq_true rfl))  v1 0 ((N.1 1 12) - 1) h2 h1000 hz0 hz1) hC (fun h7 hC => ?_) (fun h7 hC => ?_)
    · have hp := hp.1 h7
      refine g_iload_n rfl (g_iconst mzi_0 (g_sipush mzs_255 ?_))
      obtain ⟨h3, hp⟩ := hp
      refine g_s3nt (Nat.le_of_ble_eq_true rfl) rfl (fun _ hz0 hz1 => cs_105 (Nat.le_trans (Nat.le_of_ble_eq_true rfl) hd) (hS.le (Nat.le_of_ble_eq_true rfl)) (hR.le (Nat.le_of_ble_eq_true rfl))  v2 0 255 h3 h1000 hz0 hz1) hC (fun h6 hC => ?_) (fun h6 hC => ?_)
      · have hp := hp.1 h6
        refine g_aload_n rfl (g_getR (mz_at hS (Nat.le_of_ble_eq_true rfl) mzcS_0) mzcf_11_0 (mz_rb hR (Nat.le_of_ble_eq_true rfl) rfl mzcR_0_0) (g_getR (mz_at hS (Nat.le_of_ble_eq_true rfl) mzcS_1) mzcf_4_11 (mz_rb hR (Nat.le_of_ble_eq_true rfl) rfl mzcR_1_11) (g_iload_n rfl ?_)))
        obtain ⟨h4, hp⟩ := hp
        refine g_iald hS.1 (mz_at hS (Nat.le_of_ble_eq_true rfl) mzcS_229) h4 (g_istore_n (Nat.le_of_ble_eq_true rfl) rfl (g_aload_n rfl (g_getR (mz_at hS (Nat.le_of_ble_eq_true rfl) mzcS_0) mzcf_11_0 (mz_rb hR (Nat.le_of_ble_eq_true rfl) rfl mzcR_0_0) (g_getR (mz_at hS (Nat.le_of_ble_eq_true rfl) mzcS_1) mzcf_4_11 (mz_rb hR (Nat.le_of_ble_eq_true rfl) rfl mzcR_1_11) (g_iload_n rfl (g_iload_n rfl ?_))))))
        have h5 := hp
        refine g_iast (mz_at hS (Nat.le_of_ble_eq_true rfl) mzcS_229) h5 (g_iload_n rfl ?_)
        exact g_iret rfl (hr _ _ hC)
      · have hp := hp.2 h6
        exact ht _ _ _ h6 hC
    · have hp := hp.2 h7
      exact ht _ _ _ h7 hC
  · have hp := hp.2 h8
    exact ht _ _ _ h8 hC
theorem cs_380 (hd : 2 ≤ d) (hS : mz_extR S 232) (hR : mz_rok R 232)  (v1 : Int32) (v2 : Int32) (N : mz_N) (hp : cp_380_0 v1 v2 N) (h1000 : t < 1000) (h0 : (cf_380_0 v1 v2 N).1 = 0 → Q (.inl (some (.int ((cf_380_0 v1 v2 N).2.1)))) (mz_k S R ((cf_380_0 v1 v2 N).2.2) b t)) (h1 : ¬ (cf_380_0 v1 v2 N).1 = 0 → Q (.inr (((cf_380_0 v1 v2 N).1) - 1)) (mz_k S R ((cf_380_0 v1 v2 N).2.2) b (t + 1))) : mz_Ed (mz_X0 L xs) d 380 [.ref 0, .int v1, .int v2] (mz_k S R N b t) Q :=
  by
  refine g_in mzq_380 (Nat.le_of_ble_eq_true rfl) (Nat.le_of_ble_eq_true rfl) (Nat.le_trans (Nat.le_of_ble_eq_true rfl) hd) ?_
  refine g_weak ?_ (cg_380_0 (d := d - 1) (by omega) hS hR v1 v2 N (C0 := fun z => (z.1 = 0 → Q (.inl (some (.int z.2.1))) (mz_k S R z.2.2 b t)) ∧ (¬ z.1 = 0 → Q (.inr (z.1 - 1)) (mz_k S R z.2.2 b (t + 1)))) (fun _ _ h => h.1 rfl) (fun c _ _ hc h => h.2 hc) h1000 hp ⟨h0, h1⟩)
  exact ⟨rfl, rfl, rfl, trivial⟩
/-! 379 KeptHouseLaw.poke (LKeptHouse;II[J)I -/
theorem ms_379_0 : mz_sf mk_379 0 = mk_379 := mz_sf_zero _
theorem ms_379_15 : mz_sf mk_379 15 = mt_379_15 := mz_sf_add ms_379_0 (t := 15) rfl rfl
theorem ms_379_19 : mz_sf mk_379 19 = mt_379_19 := mz_sf_add ms_379_15 (t := 4) rfl rfl
theorem ms_379_21 : mz_sf mk_379 21 = mt_379_21 := mz_sf_add ms_379_19 (t := 2) rfl rfl
set_option maxRecDepth 100000 in
theorem mzq_379 : mz_PG0 379 = some (13, ⟨"KeptHouseLaw", "poke", "(LKeptHouse;II[J)I"⟩, method_64_code, 5, some .int, [(0, 10, 13, 13), (0, 10, 17, 15)], mk_379, [(0, 13, 15), (1, 17, 19)]) := rfl
theorem cg_379_21 (hd : 2 ≤ d) (hS : mz_extR S 343) (hR : mz_rok R 343)  (N : mz_N) (t : Nat) {C0 : (Int32 × mz_N × Nat) → Prop} (hr : ∀ (w : Int32) (N2 : mz_N) (t2 : Nat), C0 (w, N2, t2) → Q (.inl (some (.int w))) (mz_k S R N2 b t2)) (hp : cp_379_21 N t) (hC : C0 (cf_379_21 N t)) : mz_G (d, mz_X0 L xs, some .int, [(0, 13, 15), (1, 17, 19)], mk_379, 5, Q) 21 mt_379_21 [] [] false (mz_k S R N b t) := by
  unfold cf_379_21 at hC
  unfold cp_379_21 at hp
  refine g_iconst mzi_0 ?_
  exact g_iret rfl (hr _ _ _ hC)
theorem cg_379_0 (hd : 2 ≤ d) (hS : mz_extR S 343) (hR : mz_rok R 343)  (v1 : Int32) (v2 : Int32) (N : mz_N) (t : Nat) {C0 : (Int32 × mz_N × Nat) → Prop} (hr : ∀ (w : Int32) (N2 : mz_N) (t2 : Nat), C0 (w, N2, t2) → Q (.inl (some (.int w))) (mz_k S R N2 b t2)) (hp : cp_379_0 v1 v2 N t) (hC : C0 (cf_379_0 v1 v2 N t)) : mz_G (d, mz_X0 L xs, some .int, [(0, 13, 15), (1, 17, 19)], mk_379, 5, Q) 0 mk_379 [(0, .ref 0), (1, .int v1), (2, .int v2), (3, .ref 342)] [] true (mz_k S R N b t) := by
  unfold cf_379_0 at hC
  unfold cp_379_0 at hp
  refine g_aload_n rfl (g_iconst mzi_0 (g_aload_n rfl (g_iload_n rfl (g_iload_n rfl ?_))))
  obtain ⟨h1, hp⟩ := hp
  obtain ⟨h1000, hp⟩ := hp
  refine g_v3vh (Nat.le_of_ble_eq_true rfl) (mz_at hS (Nat.le_of_ble_eq_true rfl) mzcS_0) (fun _ hz0 hz1 => cs_380 (Nat.le_trans (Nat.le_of_ble_eq_true rfl) hd) (hS.le (Nat.le_of_ble_eq_true rfl)) (hR.le (Nat.le_of_ble_eq_true rfl))  v1 v2 N h1 h1000 hz0 hz1) hC (fun h2 hC => ?_) (fun h2 hC => ?_)
  · have hp := hp.1 h2
    refine g_i2l (g_last (mz_at hS (Nat.le_of_ble_eq_true rfl) mzcS_342) (mz_ibd (by decide)) (g_goto (tg := 21) rfl ms_379_21 ?_))
    refine g_weak ?_ (g_cl (cg_379_21 hd hS hR (mz_wL ((cf_380_0 v1 v2 N).2.2) 342 0 (((cf_380_0 v1 v2 N).2.1).toInt64)) t hr hp hC))
    exact trivial
  · have hp := hp.2 h2
    refine mz_cs hC (fun h6 hC => ?_) (fun h6 hC => ?_)
    · have hp := hp.1 h6
      refine ⟨(0, 13, 15), (by rw [h6]; rfl), ?_⟩
      show mz_G (d, mz_X0 L xs, some .int, [(0, 13, 15), (1, 17, 19)], mk_379, 5, Q) 15 (mz_sf mk_379 15) [] [] false (mz_k S R ((cf_380_0 v1 v2 N).2.2) b (t + 1))
      rw [ms_379_15]
      refine g_iconst mzi_1 ?_
      exact g_iret rfl (hr _ _ _ hC)
    · have hp := hp.2 h6
      have h4 := hp
      refine ⟨(1, 17, 19), (by rw [h4]; rfl), ?_⟩
      show mz_G (d, mz_X0 L xs, some .int, [(0, 13, 15), (1, 17, 19)], mk_379, 5, Q) 19 (mz_sf mk_379 19) [] [] false (mz_k S R ((cf_380_0 v1 v2 N).2.2) b (t + 1))
      rw [ms_379_19]
      refine g_iconst mzi_2 ?_
      exact g_iret rfl (hr _ _ _ hC)
theorem cs_379 (hd : 3 ≤ d) (hS : mz_extR S 343) (hR : mz_rok R 343)  (v1 : Int32) (v2 : Int32) (N : mz_N) (t : Nat) (hp : cp_379_0 v1 v2 N t) (hq : Q (.inl (some (.int ((cf_379_0 v1 v2 N t).1)))) (mz_k S R ((cf_379_0 v1 v2 N t).2.1) b ((cf_379_0 v1 v2 N t).2.2))) : mz_Ed (mz_X0 L xs) d 379 [.ref 0, .int v1, .int v2, .ref 342] (mz_k S R N b t) Q :=
  by
  refine g_in mzq_379 (Nat.le_of_ble_eq_true rfl) (Nat.le_of_ble_eq_true rfl) (Nat.le_trans (Nat.le_of_ble_eq_true rfl) hd) ?_
  refine g_weak ?_ (cg_379_0 (d := d - 1) (by omega) hS hR v1 v2 N t (C0 := fun z => Q (.inl (some (.int z.1))) (mz_k S R z.2.1 b z.2.2)) (fun _ _ _ h => h) hp hq)
  exact ⟨rfl, rfl, rfl, rfl, trivial⟩
/-! 382 KeptHouse.empty ()I -/
theorem ms_382_0 : mz_sf mk_382 0 = mk_382 := mz_sf_zero _
set_option maxRecDepth 100000 in
theorem mzq_382 : mz_PG0 382 = some (11, ⟨"KeptHouse", "empty", "()I"⟩, prog_1_method_71_code, 2, some .int, [], mk_382, []) := rfl
theorem cg_382_0 (hd : 1 ≤ d) (hS : mz_extR S 232) (hR : mz_rok R 232)  (N : mz_N) {C0 : (Nat × Int32 × mz_N) → Prop} (hr : ∀ (w : Int32) (N2 : mz_N), C0 (0, w, N2) → Q (.inl (some (.int w))) (mz_k S R N2 b t)) (ht : ∀ (c : Nat) (w : Int32) (N2 : mz_N), ¬ c = 0 → C0 (c, w, N2) → Q (.inr (c - 1)) (mz_k S R N2 b (t + 1))) (h1000 : t < 1000) (hp : cp_382_0 N) (hC : C0 (cf_382_0 N)) : mz_G (d, mz_X0 L xs, some .int, [], mk_382, 2, Q) 0 mk_382 [(0, .ref 0)] [] true (mz_k S R N b t) := by
  unfold cf_382_0 at hC
  unfold cp_382_0 at hp
  refine g_aload_n rfl ?_
  have h1 := hp
  refine g_v1nt (Nat.le_of_ble_eq_true rfl) (mz_at hS (Nat.le_of_ble_eq_true rfl) mzcS_0) rfl (fun _ hz0 hz1 => cs_104 (Nat.le_trans (Nat.le_of_ble_eq_true rfl) hd) (hS.le (Nat.le_of_ble_eq_true rfl)) (hR.le (Nat.le_of_ble_eq_true rfl))  N h1 h1000 hz0 hz1) hC (fun h2 hC => ?_) (fun h2 hC => ?_)
  · refine g_aload_n rfl (g_getR (mz_at hS (Nat.le_of_ble_eq_true rfl) mzcS_0) mzcf_11_0 (mz_rb hR (Nat.le_of_ble_eq_true rfl) rfl mzcR_0_0) (g_getI (mz_at hS (Nat.le_of_ble_eq_true rfl) mzcS_1) mzcf_4_12 (g_istore_n (Nat.le_of_ble_eq_true rfl) rfl (g_aload_n rfl (g_getR (mz_at hS (Nat.le_of_ble_eq_true rfl) mzcS_0) mzcf_11_0 (mz_rb hR (Nat.le_of_ble_eq_true rfl) rfl mzcR_0_0) (g_iconst mzi_0 (g_putI (mz_at hS (Nat.le_of_ble_eq_true rfl) mzcS_1) mzcf_4_12 ?_)))))))
    refine g_iload_n rfl ?_
    exact g_iret rfl (hr _ _ hC)
  · exact ht _ _ _ h2 hC
theorem cs_382 (hd : 2 ≤ d) (hS : mz_extR S 232) (hR : mz_rok R 232)  (N : mz_N) (hp : cp_382_0 N) (h1000 : t < 1000) (h0 : (cf_382_0 N).1 = 0 → Q (.inl (some (.int ((cf_382_0 N).2.1)))) (mz_k S R ((cf_382_0 N).2.2) b t)) (h1 : ¬ (cf_382_0 N).1 = 0 → Q (.inr (((cf_382_0 N).1) - 1)) (mz_k S R ((cf_382_0 N).2.2) b (t + 1))) : mz_Ed (mz_X0 L xs) d 382 [.ref 0] (mz_k S R N b t) Q :=
  by
  refine g_in mzq_382 (Nat.le_of_ble_eq_true rfl) (Nat.le_of_ble_eq_true rfl) (Nat.le_trans (Nat.le_of_ble_eq_true rfl) hd) ?_
  refine g_weak ?_ (cg_382_0 (d := d - 1) (by omega) hS hR N (C0 := fun z => (z.1 = 0 → Q (.inl (some (.int z.2.1))) (mz_k S R z.2.2 b t)) ∧ (¬ z.1 = 0 → Q (.inr (z.1 - 1)) (mz_k S R z.2.2 b (t + 1)))) (fun _ _ h => h.1 rfl) (fun c _ _ hc h => h.2 hc) h1000 hp ⟨h0, h1⟩)
  exact ⟨rfl, trivial⟩
/-! 381 KeptHouseLaw.empty (LKeptHouse;[J)I -/
theorem ms_381_0 : mz_sf mk_381 0 = mk_381 := mz_sf_zero _
theorem ms_381_12 : mz_sf mk_381 12 = mt_381_12 := mz_sf_add ms_381_0 (t := 12) rfl rfl
theorem ms_381_14 : mz_sf mk_381 14 = mt_381_14 := mz_sf_add ms_381_12 (t := 2) rfl rfl
set_option maxRecDepth 100000 in
theorem mzq_381 : mz_PG0 381 = some (13, ⟨"KeptHouseLaw", "empty", "(LKeptHouse;[J)I"⟩, method_65_code, 3, some .int, [(0, 8, 11, 15)], mk_381, [(1, 11, 12)]) := rfl
theorem cg_381_0 (hd : 2 ≤ d) (hS : mz_extR S 343) (hR : mz_rok R 343)  (N : mz_N) (t : Nat) {C0 : (Int32 × mz_N × Nat) → Prop} (hr : ∀ (w : Int32) (N2 : mz_N) (t2 : Nat), C0 (w, N2, t2) → Q (.inl (some (.int w))) (mz_k S R N2 b t2)) (hp : cp_381_0 N t) (hC : C0 (cf_381_0 N t)) : mz_G (d, mz_X0 L xs, some .int, [(1, 11, 12)], mk_381, 3, Q) 0 mk_381 [(0, .ref 0), (1, .ref 342)] [] true (mz_k S R N b t) := by
  unfold cf_381_0 at hC
  unfold cp_381_0 at hp
  refine g_aload_n rfl (g_iconst mzi_0 (g_aload_n rfl ?_))
  obtain ⟨h1, hp⟩ := hp
  obtain ⟨h1000, hp⟩ := hp
  refine g_v1vh (Nat.le_of_ble_eq_true rfl) (mz_at hS (Nat.le_of_ble_eq_true rfl) mzcS_0) (fun _ hz0 hz1 => cs_382 (Nat.le_trans (Nat.le_of_ble_eq_true rfl) hd) (hS.le (Nat.le_of_ble_eq_true rfl)) (hR.le (Nat.le_of_ble_eq_true rfl))  N h1 h1000 hz0 hz1) hC (fun h2 hC => ?_) (fun h2 hC => ?_)
  · have hp := hp.1 h2
    refine g_i2l (g_last (mz_at hS (Nat.le_of_ble_eq_true rfl) mzcS_342) (mz_ibd (by decide)) (g_goto (tg := 14) rfl ms_381_14 (g_iconst mzi_0 ?_)))
    exact g_iret rfl (hr _ _ _ hC)
  · have hp := hp.2 h2
    have h4 := hp
    refine ⟨(1, 11, 12), (by rw [h4]; rfl), ?_⟩
    show mz_G (d, mz_X0 L xs, some .int, [(1, 11, 12)], mk_381, 3, Q) 12 (mz_sf mk_381 12) [] [] false (mz_k S R ((cf_382_0 N).2.2) b (t + 1))
    rw [ms_381_12]
    refine g_iconst mzi_1 ?_
    exact g_iret rfl (hr _ _ _ hC)
theorem cs_381 (hd : 3 ≤ d) (hS : mz_extR S 343) (hR : mz_rok R 343)  (N : mz_N) (t : Nat) (hp : cp_381_0 N t) (hq : Q (.inl (some (.int ((cf_381_0 N t).1)))) (mz_k S R ((cf_381_0 N t).2.1) b ((cf_381_0 N t).2.2))) : mz_Ed (mz_X0 L xs) d 381 [.ref 0, .ref 342] (mz_k S R N b t) Q :=
  by
  refine g_in mzq_381 (Nat.le_of_ble_eq_true rfl) (Nat.le_of_ble_eq_true rfl) (Nat.le_trans (Nat.le_of_ble_eq_true rfl) hd) ?_
  refine g_weak ?_ (cg_381_0 (d := d - 1) (by omega) hS hR N t (C0 := fun z => Q (.inl (some (.int z.1))) (mz_k S R z.2.1 b z.2.2)) (fun _ _ _ h => h) hp hq)
  exact ⟨rfl, rfl, trivial⟩
/-! 386 KeptHouse$Keeper.layOut (I)Z -/
theorem ms_386_0 : mz_sf mk_386 0 = mk_386 := mz_sf_zero _
theorem ms_386_20 : mz_sf mk_386 20 = mt_386_20 := mz_sf_add ms_386_0 (t := 20) rfl rfl
theorem ms_386_54 : mz_sf mk_386 54 = mt_386_54 := mz_sf_add ms_386_20 (t := 34) rfl rfl
theorem ms_386_62 : mz_sf mk_386 62 = mt_386_62 := mz_sf_add ms_386_54 (t := 8) rfl rfl
theorem ms_386_84 : mz_sf mk_386 84 = mt_386_84 := mz_sf_add ms_386_62 (t := 22) rfl rfl
theorem ms_386_101 : mz_sf mk_386 101 = mt_386_101 := mz_sf_add ms_386_84 (t := 17) rfl rfl
set_option maxRecDepth 100000 in
theorem mzq_386 : mz_PG0 386 = some (4, ⟨"KeptHouse$Keeper", "layOut", "(I)Z"⟩, prog_6_method_13_code, 6, some .boolean, [], mk_386, []) := rfl
theorem cg_386_84 (hd : 1 ≤ d) (hS : mz_extR S 232) (hR : mz_rok R 232)  (v1 : Int32) (v3 : Int32) (v5 : Int32) (N : mz_N) {C0 : (Bool × mz_N) → Prop} (hr : ∀ (w : Bool) (N2 : mz_N), C0 (w, N2) → Q (.inl (some (.int (mz_b01 w)))) (mz_k S R N2 b t)) {C1 : ((Int32 × Int32 × mz_N) ⊕ (Bool × mz_N)) → Prop} (hc1 : ∀ s2, C1 (.inl s2) → mz_G (d, mz_X0 L xs, some .boolean, [], mk_386, 6, Q) 20 mt_386_20 [(0, .ref 1), (1, .int v1), (2, .int s2.1), (3, .int s2.2.1)] [] false (mz_k S R s2.2.2 b t)) (hx1 : ∀ z, C1 (.inr z) → C0 z) (hp : cp_386_84 v1 v3 v5 N) (hC : C1 (cf_386_84 v1 v3 v5 N)) : mz_G (d, mz_X0 L xs, some .boolean, [], mk_386, 6, Q) 84 mt_386_84 [(0, .ref 1), (1, .int v1), (3, .int v3), (5, .int v5)] [] false (mz_k S R N b t) := by
  unfold cf_386_84 at hC
  unfold cp_386_84 at hp
  refine g_aload_n rfl (g_getR (mz_at hS (Nat.le_of_ble_eq_true rfl) mzcS_1) mzcf_4_14 (mz_rb hR (Nat.le_of_ble_eq_true rfl) rfl mzcR_1_14) (g_iload rfl (g_iconst mzi_1 ?_)))
  have h1 := hp
  refine g_iast (mz_at hS (Nat.le_of_ble_eq_true rfl) mzcS_231) h1 (g_iload rfl (g_istore_n (Nat.le_of_ble_eq_true rfl) rfl (g_iinc rfl mzi_1 (Nat.le_of_ble_eq_true rfl) rfl (g_goto (tg := 20) rfl ms_386_20 ?_))))
  refine g_weak ?_ (g_cl (hc1 (v5, (v3 + 1), mz_wI N 231 v5 1) hC))
  exact ⟨rfl, rfl, rfl, rfl, trivial⟩
theorem cb_386_20 (hd : 1 ≤ d) (hS : mz_extR S 232) (hR : mz_rok R 232)  (v1 : Int32) (s : Int32 × Int32 × mz_N) {C0 : (Bool × mz_N) → Prop} (hr : ∀ (w : Bool) (N2 : mz_N), C0 (w, N2) → Q (.inl (some (.int (mz_b01 w)))) (mz_k S R N2 b t)) {C1 : ((Int32 × Int32 × mz_N) ⊕ (Bool × mz_N)) → Prop} (hc1 : ∀ s2, C1 (.inl s2) → mz_G (d, mz_X0 L xs, some .boolean, [], mk_386, 6, Q) 20 mt_386_20 [(0, .ref 1), (1, .int v1), (2, .int s2.1), (3, .int s2.2.1)] [] false (mz_k S R s2.2.2 b t)) (hx1 : ∀ z, C1 (.inr z) → C0 z) (hp : cd_386_20 v1 s) (hC : C1 (cq_386_20 v1 s)) : mz_G (d, mz_X0 L xs, some .boolean, [], mk_386, 6, Q) 20 mt_386_20 [(0, .ref 1), (1, .int v1), (2, .int s.1), (3, .int s.2.1)] [] false (mz_k S R s.2.2 b t) := by
  unfold cq_386_20 at hC
  unfold cd_386_20 at hp
  refine g_iload_n rfl (g_iload_n rfl ?_)
  refine g_icge (tg := 101) rfl ms_386_101 hC (fun h1 hC => ?_) (fun h1 hC => ?_)
  · have hp := hp.1 h1
    refine g_iconst mzi_2 (g_iload_n rfl (g_bipush mzb_30 (g_imul (g_iadd (g_istore (Nat.le_of_ble_eq_true rfl) rfl (g_aload_n rfl (g_getR (mz_at hS (Nat.le_of_ble_eq_true rfl) mzcS_1) mzcf_4_11 (mz_rb hR (Nat.le_of_ble_eq_true rfl) rfl mzcR_1_11) ?_)))))))
    refine g_iload rfl ?_
    obtain ⟨h2, hp⟩ := hp
    refine g_iald hS.1 (mz_at hS (Nat.le_of_ble_eq_true rfl) mzcS_229) h2 (g_aload_n rfl (g_getR (mz_at hS (Nat.le_of_ble_eq_true rfl) mzcS_1) mzcf_4_11 (mz_rb hR (Nat.le_of_ble_eq_true rfl) rfl mzcR_1_11) (g_iload rfl (g_iconst mzi_1 (g_iadd ?_)))))
    obtain ⟨h3, hp⟩ := hp
    refine g_iald hS.1 (mz_at hS (Nat.le_of_ble_eq_true rfl) mzcS_229) h3 ?_
    obtain ⟨h4, hp⟩ := hp
    refine g_s2v (Nat.le_of_ble_eq_true rfl) (fun _ hq => cs_98 (Nat.le_trans (Nat.le_of_ble_eq_true rfl) hd) (hS.le (Nat.le_of_ble_eq_true rfl)) (hR.le (Nat.le_of_ble_eq_true rfl))  (mz_gI s.2.2 229 (2 + (s.2.1 * 30))) (mz_gI s.2.2 229 ((2 + (s.2.1 * 30)) + 1)) h4 hq) (g_istore (Nat.le_of_ble_eq_true rfl) rfl (g_iload rfl (g_iload_n rfl ?_)))
    refine g_icgt (tg := 62) rfl ms_386_62 hC (fun h5 hC => ?_) (fun h5 hC => ?_)
    · have hp := hp.1 h5
      refine g_aload_n rfl (g_getR (mz_at hS (Nat.le_of_ble_eq_true rfl) mzcS_1) mzcf_4_11 (mz_rb hR (Nat.le_of_ble_eq_true rfl) rfl mzcR_1_11) (g_iload rfl (g_iconst mzi_2 (g_iadd (g_aload_n rfl (g_getR (mz_at hS (Nat.le_of_ble_eq_true rfl) mzcS_1) mzcf_4_13 (mz_rb hR (Nat.le_of_ble_eq_true rfl) rfl mzcR_1_13) (g_iload rfl ?_)))))))
      refine g_bipush mzb_28 (g_imul (g_bipush mzb_28 ?_))
      obtain ⟨h6, hp⟩ := hp
      refine g_cpI (Nat.le_of_ble_eq_true rfl) (mz_at hS (Nat.le_of_ble_eq_true rfl) mzcS_229) (mz_at hS (Nat.le_of_ble_eq_true rfl) mzcS_230) h6 ?_
      refine g_weak ?_ (g_cl (cg_386_84 hd hS hR v1 s.2.1 (cf_98_0 (mz_gI s.2.2 229 (2 + (s.2.1 * 30))) (mz_gI s.2.2 229 ((2 + (s.2.1 * 30)) + 1))) (mz_yI s.2.2 229 ((2 + (s.2.1 * 30)) + 2) 230 ((cf_98_0 (mz_gI s.2.2 229 (2 + (s.2.1 * 30))) (mz_gI s.2.2 229 ((2 + (s.2.1 * 30)) + 1))) * 28) 28) hr hc1 hx1 hp hC))
      exact ⟨rfl, rfl, rfl, rfl, trivial⟩
    · have hp := hp.2 h5
      refine g_iconst mzi_0 ?_
      exact g_zret (z := false) rfl (hr _ _ (hx1 _ hC))
  · have hp := hp.2 h1
    refine g_iconst mzi_1 ?_
    exact g_zret (z := true) rfl (hr _ _ (hx1 _ hC))
theorem cg_386_20 (hd : 1 ≤ d) (hS : mz_extR S 232) (hR : mz_rok R 232)  (v1 : Int32) (v2 : Int32) (v3 : Int32) (N : mz_N) {C0 : (Bool × mz_N) → Prop} (hr : ∀ (w : Bool) (N2 : mz_N), C0 (w, N2) → Q (.inl (some (.int (mz_b01 w)))) (mz_k S R N2 b t)) (hp : cp_386_20 v1 v2 v3 N) (hC : C0 (cf_386_20 v1 v2 v3 N)) : mz_G (d, mz_X0 L xs, some .boolean, [], mk_386, 6, Q) 20 mt_386_20 [(0, .ref 1), (1, .int v1), (2, .int v2), (3, .int v3)] [] false (mz_k S R N b t) := by
  obtain ⟨n, hn⟩ := hp
  exact g_loop (G := fun s => mz_G (d, mz_X0 L xs, some .boolean, [], mk_386, 6, Q) 20 mt_386_20 [(0, .ref 1), (1, .int v1), (2, .int s.1), (3, .int s.2.1)] [] false (mz_k S R s.2.2 b t)) (C := C0) (fun C2 hc hx s hP hC => cb_386_20 hd hS hR v1 s hr hc hx hP hC) n (v2, v3, N) hn hC
theorem cg_386_0 (hd : 1 ≤ d) (hS : mz_extR S 232) (hR : mz_rok R 232)  (v1 : Int32) (N : mz_N) {C0 : (Bool × mz_N) → Prop} (hr : ∀ (w : Bool) (N2 : mz_N), C0 (w, N2) → Q (.inl (some (.int (mz_b01 w)))) (mz_k S R N2 b t)) (hp : cp_386_0 v1 N) (hC : C0 (cf_386_0 v1 N)) : mz_G (d, mz_X0 L xs, some .boolean, [], mk_386, 6, Q) 0 mk_386 [(0, .ref 1), (1, .int v1)] [] true (mz_k S R N b t) := by
  unfold cf_386_0 at hC
  unfold cp_386_0 at hp
  refine g_aload_n rfl (g_getR (mz_at hS (Nat.le_of_ble_eq_true rfl) mzcS_1) mzcf_4_13 (mz_rb hR (Nat.le_of_ble_eq_true rfl) rfl mzcR_1_13) (g_iconst mzi_0 ?_))
  obtain ⟨h1, hp⟩ := hp
  refine g_s2n (Nat.le_of_ble_eq_true rfl) (fun _ hq => cs_13 (Nat.le_trans (Nat.le_of_ble_eq_true rfl) hd) (hS.le (Nat.le_of_ble_eq_true rfl)) (hR.le (Nat.le_of_ble_eq_true rfl)) 230 3780 (mz_at hS (Nat.le_of_ble_eq_true rfl) mzcS_230) 0 N h1 hq) (g_aload_n rfl (g_getR (mz_at hS (Nat.le_of_ble_eq_true rfl) mzcS_1) mzcf_4_14 (mz_rb hR (Nat.le_of_ble_eq_true rfl) rfl mzcR_1_14) (g_iconst mzi_0 ?_)))
  obtain ⟨h2, hp⟩ := hp
  refine g_s2n (Nat.le_of_ble_eq_true rfl) (fun _ hq => cs_13 (Nat.le_trans (Nat.le_of_ble_eq_true rfl) hd) (hS.le (Nat.le_of_ble_eq_true rfl)) (hR.le (Nat.le_of_ble_eq_true rfl)) 231 135 (mz_at hS (Nat.le_of_ble_eq_true rfl) mzcS_231) 0 (cf_13_0 230 3780 0 N) h2 hq) (g_iconst mzi_m1 (g_istore_n (Nat.le_of_ble_eq_true rfl) rfl (g_iconst mzi_0 (g_istore_n (Nat.le_of_ble_eq_true rfl) rfl ?_))))
  refine g_weak ?_ (g_cl (cg_386_20 hd hS hR v1 (-1) 0 (cf_13_0 231 135 0 (cf_13_0 230 3780 0 N)) hr hp hC))
  exact ⟨rfl, rfl, rfl, rfl, trivial⟩
theorem cs_386 (hd : 2 ≤ d) (hS : mz_extR S 232) (hR : mz_rok R 232)  (v1 : Int32) (N : mz_N) (hp : cp_386_0 v1 N) (hq : Q (.inl (some (.int (mz_b01 ((cf_386_0 v1 N).1))))) (mz_k S R ((cf_386_0 v1 N).2) b t)) : mz_Ed (mz_X0 L xs) d 386 [.ref 1, .int v1] (mz_k S R N b t) Q :=
  by
  refine g_in mzq_386 (Nat.le_of_ble_eq_true rfl) (Nat.le_of_ble_eq_true rfl) (Nat.le_trans (Nat.le_of_ble_eq_true rfl) hd) ?_
  refine g_weak ?_ (cg_386_0 (d := d - 1) (by omega) hS hR v1 N (C0 := fun z => Q (.inl (some (.int (mz_b01 z.1)))) (mz_k S R z.2 b t)) (fun _ _ h => h) hp hq)
  exact ⟨rfl, rfl, trivial⟩
/-! 389 KeptHouse$Plan.areEdges ([II)Z -/
theorem ms_389_0 : mz_sf mk_389 0 = mk_389 := mz_sf_zero _
theorem ms_389_2 : mz_sf mk_389 2 = mt_389_2 := mz_sf_add ms_389_0 (t := 2) rfl rfl
theorem ms_389_30 : mz_sf mk_389 30 = mt_389_30 := mz_sf_add ms_389_2 (t := 28) rfl rfl
theorem ms_389_32 : mz_sf mk_389 32 = mt_389_32 := mz_sf_add ms_389_30 (t := 2) rfl rfl
theorem ms_389_38 : mz_sf mk_389 38 = mt_389_38 := mz_sf_add ms_389_32 (t := 6) rfl rfl
theorem ms_389_53 : mz_sf mk_389 53 = mt_389_53 := mz_sf_add ms_389_38 (t := 15) rfl rfl
theorem ms_389_54 : mz_sf mk_389 54 = mt_389_54 := mz_sf_add ms_389_53 (t := 1) rfl rfl
set_option maxRecDepth 100000 in
theorem mzq_389 : mz_PG0 389 = some (5, ⟨"KeptHouse$Plan", "areEdges", "([II)Z"⟩, prog_7_method_39_code, 3, some .boolean, [], mk_389, []) := rfl
theorem cb_389_2 (hd : 2 ≤ d) (hS : mz_extR S 232) (hR : mz_rok R 232)  (v1 : Int32) (N : mz_N) (s : Int32) {C0 : (Bool) → Prop} (hr : ∀ (w : Bool), C0 w → Q (.inl (some (.int (mz_b01 w)))) (mz_k S R N b t)) {C1 : ((Int32) ⊕ (Bool)) → Prop} (hc1 : ∀ s2, C1 (.inl s2) → mz_G (d, mz_X0 L xs, some .boolean, [], mk_389, 3, Q) 2 mt_389_2 [(0, .ref 230), (1, .int v1), (2, .int s2)] [] false (mz_k S R N b t)) (hx1 : ∀ z, C1 (.inr z) → C0 z) (hp : cd_389_2 v1 N s) (hC : C1 (cq_389_2 v1 N s)) : mz_G (d, mz_X0 L xs, some .boolean, [], mk_389, 3, Q) 2 mt_389_2 [(0, .ref 230), (1, .int v1), (2, .int s)] [] false (mz_k S R N b t) := by
  unfold cq_389_2 at hC
  unfold cd_389_2 at hp
  refine g_iload_n rfl (g_bipush mzb_110 ?_)
  refine g_icge (tg := 38) rfl ms_389_38 hC (fun h1 hC => ?_) (fun h1 hC => ?_)
  · have hp := hp.1 h1
    refine g_iload_n rfl (g_aload_n rfl (g_iload_n rfl (g_iload_n rfl (g_iconst mzi_4 (g_idiv (by decide) (g_iadd ?_))))))
    have h2 := hp
    refine g_iald hS.1 (mz_at hS (Nat.le_of_ble_eq_true rfl) mzcS_230) h2 (g_iconst mzi_2 (g_iload_n rfl (g_iconst mzi_4 (g_irem (by decide) (g_imul (g_ishr (g_iconst mzi_3 ?_)))))))
    refine g_iand ?_
    refine g_s2v (Nat.le_of_ble_eq_true rfl) (fun _ hq => cs_109 (Nat.le_trans (Nat.le_of_ble_eq_true rfl) hd) (hS.le (Nat.le_of_ble_eq_true rfl)) (hR.le (Nat.le_of_ble_eq_true rfl))  s ((mz_ishr (mz_gI N 230 (v1 + (s / 4))) (2 * (mz_irem s 4))) &&& 3) trivial hq) ?_
    refine g_zne (tg := 32) rfl ms_389_32 hC (fun h4 hC => ?_) (fun h4 hC => ?_)
    · refine g_iinc rfl mzi_1 (Nat.le_of_ble_eq_true rfl) rfl (g_goto (tg := 2) rfl ms_389_2 ?_)
      refine g_weak ?_ (g_cl (hc1 ((s + 1)) hC))
      exact ⟨rfl, rfl, rfl, trivial⟩
    · refine g_iconst mzi_0 ?_
      exact g_zret (z := false) rfl (hr _ (hx1 _ hC))
  · have hp := hp.2 h1
    refine g_aload_n rfl (g_iload_n rfl (g_bipush mzb_27 (g_iadd ?_)))
    have h5 := hp
    refine g_iald hS.1 (mz_at hS (Nat.le_of_ble_eq_true rfl) mzcS_230) h5 (g_bipush mzb_16 ?_)
    refine g_icge (tg := 53) rfl ms_389_53 hC (fun h6 hC => ?_) (fun h6 hC => ?_)
    · refine g_iconst mzi_1 (g_goto (tg := 54) rfl ms_389_54 ?_)
      exact g_zret (z := true) rfl (hr _ (hx1 _ hC))
    · refine g_iconst mzi_0 ?_
      exact g_zret (z := false) rfl (hr _ (hx1 _ hC))
theorem cg_389_2 (hd : 2 ≤ d) (hS : mz_extR S 232) (hR : mz_rok R 232)  (v1 : Int32) (v2 : Int32) (N : mz_N) {C0 : (Bool) → Prop} (hr : ∀ (w : Bool), C0 w → Q (.inl (some (.int (mz_b01 w)))) (mz_k S R N b t)) (hp : cp_389_2 v1 v2 N) (hC : C0 (cf_389_2 v1 v2 N)) : mz_G (d, mz_X0 L xs, some .boolean, [], mk_389, 3, Q) 2 mt_389_2 [(0, .ref 230), (1, .int v1), (2, .int v2)] [] false (mz_k S R N b t) := by
  obtain ⟨n, hn⟩ := hp
  exact g_loop (G := fun s => mz_G (d, mz_X0 L xs, some .boolean, [], mk_389, 3, Q) 2 mt_389_2 [(0, .ref 230), (1, .int v1), (2, .int s)] [] false (mz_k S R N b t)) (C := C0) (fun C2 hc hx s hP hC => cb_389_2 hd hS hR v1 N s hr hc hx hP hC) n (v2) hn hC
theorem cg_389_0 (hd : 2 ≤ d) (hS : mz_extR S 232) (hR : mz_rok R 232)  (v1 : Int32) (N : mz_N) {C0 : (Bool) → Prop} (hr : ∀ (w : Bool), C0 w → Q (.inl (some (.int (mz_b01 w)))) (mz_k S R N b t)) (hp : cp_389_0 v1 N) (hC : C0 (cf_389_0 v1 N)) : mz_G (d, mz_X0 L xs, some .boolean, [], mk_389, 3, Q) 0 mk_389 [(0, .ref 230), (1, .int v1)] [] true (mz_k S R N b t) := by
  unfold cf_389_0 at hC
  unfold cp_389_0 at hp
  refine g_iconst mzi_0 (g_istore_n (Nat.le_of_ble_eq_true rfl) rfl ?_)
  refine g_weak ?_ (g_cl (cg_389_2 hd hS hR v1 0 N hr hp hC))
  exact ⟨rfl, rfl, rfl, trivial⟩
theorem cs_389 (hd : 3 ≤ d) (hS : mz_extR S 232) (hR : mz_rok R 232)  (v1 : Int32) (N : mz_N) (hp : cp_389_0 v1 N) (hq : Q (.inl (some (.int (mz_b01 (cf_389_0 v1 N))))) (mz_k S R N b t)) : mz_Ed (mz_X0 L xs) d 389 [.ref 230, .int v1] (mz_k S R N b t) Q :=
  by
  refine g_in mzq_389 (Nat.le_of_ble_eq_true rfl) (Nat.le_of_ble_eq_true rfl) (Nat.le_trans (Nat.le_of_ble_eq_true rfl) hd) ?_
  refine g_weak ?_ (cg_389_0 (d := d - 1) (by omega) hS hR v1 N (C0 := fun z => Q (.inl (some (.int (mz_b01 z)))) (mz_k S R N b t)) (fun _ h => h) hp hq)
  exact ⟨rfl, rfl, trivial⟩
/-! 390 KeptHouse$Plan.areFlats ([II)Z -/
theorem ms_390_0 : mz_sf mk_390 0 = mk_390 := mz_sf_zero _
theorem ms_390_2 : mz_sf mk_390 2 = mt_390_2 := mz_sf_add ms_390_0 (t := 2) rfl rfl
theorem ms_390_30 : mz_sf mk_390 30 = mt_390_30 := mz_sf_add ms_390_2 (t := 28) rfl rfl
theorem ms_390_32 : mz_sf mk_390 32 = mt_390_32 := mz_sf_add ms_390_30 (t := 2) rfl rfl
theorem ms_390_38 : mz_sf mk_390 38 = mt_390_38 := mz_sf_add ms_390_32 (t := 6) rfl rfl
set_option maxRecDepth 100000 in
theorem mzq_390 : mz_PG0 390 = some (5, ⟨"KeptHouse$Plan", "areFlats", "([II)Z"⟩, prog_7_method_42_code, 3, some .boolean, [], mk_390, []) := rfl
theorem cb_390_2 (hd : 1 ≤ d) (hS : mz_extR S 232) (hR : mz_rok R 232)  (v1 : Int32) (N : mz_N) (s : Int32) {C0 : (Bool) → Prop} (hr : ∀ (w : Bool), C0 w → Q (.inl (some (.int (mz_b01 w)))) (mz_k S R N b t)) {C1 : ((Int32) ⊕ (Bool)) → Prop} (hc1 : ∀ s2, C1 (.inl s2) → mz_G (d, mz_X0 L xs, some .boolean, [], mk_390, 3, Q) 2 mt_390_2 [(0, .ref 230), (1, .int v1), (2, .int s2)] [] false (mz_k S R N b t)) (hx1 : ∀ z, C1 (.inr z) → C0 z) (hp : cd_390_2 v1 N s) (hC : C1 (cq_390_2 v1 N s)) : mz_G (d, mz_X0 L xs, some .boolean, [], mk_390, 3, Q) 2 mt_390_2 [(0, .ref 230), (1, .int v1), (2, .int s)] [] false (mz_k S R N b t) := by
  unfold cq_390_2 at hC
  unfold cd_390_2 at hp
  refine g_iload_n rfl (g_bipush mzb_48 ?_)
  refine g_icge (tg := 38) rfl ms_390_38 hC (fun h1 hC => ?_) (fun h1 hC => ?_)
  · have hp := hp.1 h1
    refine g_aload_n rfl (g_iload_n rfl (g_iload_n rfl (g_iconst mzi_2 (g_idiv (by decide) (g_iadd ?_)))))
    obtain ⟨h2, hp⟩ := hp
    refine g_iald hS.1 (mz_at hS (Nat.le_of_ble_eq_true rfl) mzcS_230) h2 (g_iconst mzi_4 (g_iload_n rfl (g_iconst mzi_2 (g_irem (by decide) (g_imul (g_ishr (g_bipush mzb_15 ?_)))))))
    refine g_iand ?_
    have h3 := hp
    refine g_s1v (Nat.le_of_ble_eq_true rfl) (fun _ hq => cs_170 (Nat.le_trans (Nat.le_of_ble_eq_true rfl) hd) (hS.le (Nat.le_of_ble_eq_true rfl)) (hR.le (Nat.le_of_ble_eq_true rfl))  ((mz_ishr (mz_gI N 230 (v1 + (s / 2))) (4 * (mz_irem s 2))) &&& 15) h3 hq) ?_
    refine g_zne (tg := 32) rfl ms_390_32 hC (fun h4 hC => ?_) (fun h4 hC => ?_)
    · refine g_iinc rfl mzi_1 (Nat.le_of_ble_eq_true rfl) rfl (g_goto (tg := 2) rfl ms_390_2 ?_)
      refine g_weak ?_ (g_cl (hc1 ((s + 1)) hC))
      exact ⟨rfl, rfl, rfl, trivial⟩
    · refine g_iconst mzi_0 ?_
      exact g_zret (z := false) rfl (hr _ (hx1 _ hC))
  · have hp := hp.2 h1
    refine g_aload_n rfl (g_iload_n rfl (g_bipush mzb_24 ?_))
    have h5 := hp
    refine g_s3v (Nat.le_of_ble_eq_true rfl) (fun _ hq => cs_75 (Nat.le_trans (Nat.le_of_ble_eq_true rfl) hd) (hS.le (Nat.le_of_ble_eq_true rfl)) (hR.le (Nat.le_of_ble_eq_true rfl)) 230 (mz_at hS (Nat.le_of_ble_eq_true rfl) mzcS_230) v1 24 N h5 hq) ?_
    exact g_zret (z := (cf_75_0 230 v1 24 N)) rfl (hr _ (hx1 _ hC))
theorem cg_390_2 (hd : 1 ≤ d) (hS : mz_extR S 232) (hR : mz_rok R 232)  (v1 : Int32) (v2 : Int32) (N : mz_N) {C0 : (Bool) → Prop} (hr : ∀ (w : Bool), C0 w → Q (.inl (some (.int (mz_b01 w)))) (mz_k S R N b t)) (hp : cp_390_2 v1 v2 N) (hC : C0 (cf_390_2 v1 v2 N)) : mz_G (d, mz_X0 L xs, some .boolean, [], mk_390, 3, Q) 2 mt_390_2 [(0, .ref 230), (1, .int v1), (2, .int v2)] [] false (mz_k S R N b t) := by
  obtain ⟨n, hn⟩ := hp
  exact g_loop (G := fun s => mz_G (d, mz_X0 L xs, some .boolean, [], mk_390, 3, Q) 2 mt_390_2 [(0, .ref 230), (1, .int v1), (2, .int s)] [] false (mz_k S R N b t)) (C := C0) (fun C2 hc hx s hP hC => cb_390_2 hd hS hR v1 N s hr hc hx hP hC) n (v2) hn hC
theorem cg_390_0 (hd : 1 ≤ d) (hS : mz_extR S 232) (hR : mz_rok R 232)  (v1 : Int32) (N : mz_N) {C0 : (Bool) → Prop} (hr : ∀ (w : Bool), C0 w → Q (.inl (some (.int (mz_b01 w)))) (mz_k S R N b t)) (hp : cp_390_0 v1 N) (hC : C0 (cf_390_0 v1 N)) : mz_G (d, mz_X0 L xs, some .boolean, [], mk_390, 3, Q) 0 mk_390 [(0, .ref 230), (1, .int v1)] [] true (mz_k S R N b t) := by
  unfold cf_390_0 at hC
  unfold cp_390_0 at hp
  refine g_iconst mzi_0 (g_istore_n (Nat.le_of_ble_eq_true rfl) rfl ?_)
  refine g_weak ?_ (g_cl (cg_390_2 hd hS hR v1 0 N hr hp hC))
  exact ⟨rfl, rfl, rfl, trivial⟩
theorem cs_390 (hd : 2 ≤ d) (hS : mz_extR S 232) (hR : mz_rok R 232)  (v1 : Int32) (N : mz_N) (hp : cp_390_0 v1 N) (hq : Q (.inl (some (.int (mz_b01 (cf_390_0 v1 N))))) (mz_k S R N b t)) : mz_Ed (mz_X0 L xs) d 390 [.ref 230, .int v1] (mz_k S R N b t) Q :=
  by
  refine g_in mzq_390 (Nat.le_of_ble_eq_true rfl) (Nat.le_of_ble_eq_true rfl) (Nat.le_trans (Nat.le_of_ble_eq_true rfl) hd) ?_
  refine g_weak ?_ (cg_390_0 (d := d - 1) (by omega) hS hR v1 N (C0 := fun z => Q (.inl (some (.int (mz_b01 z)))) (mz_k S R N b t)) (fun _ h => h) hp hq)
  exact ⟨rfl, rfl, trivial⟩
/-! 391 KeptHouse$Keeper.areBelow ([III)Z -/
theorem ms_391_0 : mz_sf mk_391 0 = mk_391 := mz_sf_zero _
theorem ms_391_2 : mz_sf mk_391 2 = mt_391_2 := mz_sf_add ms_391_0 (t := 2) rfl rfl
theorem ms_391_19 : mz_sf mk_391 19 = mt_391_19 := mz_sf_add ms_391_2 (t := 17) rfl rfl
theorem ms_391_25 : mz_sf mk_391 25 = mt_391_25 := mz_sf_add ms_391_19 (t := 6) rfl rfl
set_option maxRecDepth 100000 in
theorem mzq_391 : mz_PG0 391 = some (4, ⟨"KeptHouse$Keeper", "areBelow", "([III)Z"⟩, prog_6_method_9_code, 4, some .boolean, [], mk_391, []) := rfl
theorem cb_391_2 (hd : 1 ≤ d) (hS : mz_extR S 232) (hR : mz_rok R 232)  (v1 : Int32) (v2 : Int32) (N : mz_N) (s : Int32) {C0 : (Bool) → Prop} (hr : ∀ (w : Bool), C0 w → Q (.inl (some (.int (mz_b01 w)))) (mz_k S R N b t)) {C1 : ((Int32) ⊕ (Bool)) → Prop} (hc1 : ∀ s2, C1 (.inl s2) → mz_G (d, mz_X0 L xs, some .boolean, [], mk_391, 4, Q) 2 mt_391_2 [(0, .ref 230), (1, .int v1), (2, .int v2), (3, .int s2)] [] false (mz_k S R N b t)) (hx1 : ∀ z, C1 (.inr z) → C0 z) (hp : cd_391_2 v1 v2 N s) (hC : C1 (cq_391_2 v1 v2 N s)) : mz_G (d, mz_X0 L xs, some .boolean, [], mk_391, 4, Q) 2 mt_391_2 [(0, .ref 230), (1, .int v1), (2, .int v2), (3, .int s)] [] false (mz_k S R N b t) := by
  unfold cq_391_2 at hC
  unfold cd_391_2 at hp
  refine g_iload_n rfl (g_bipush mzb_24 ?_)
  refine g_icge (tg := 25) rfl ms_391_25 hC (fun h1 hC => ?_) (fun h1 hC => ?_)
  · have hp := hp.1 h1
    refine g_aload_n rfl (g_iload_n rfl (g_iload_n rfl (g_iadd ?_)))
    have h2 := hp
    refine g_iald hS.1 (mz_at hS (Nat.le_of_ble_eq_true rfl) mzcS_230) h2 (g_iload_n rfl ?_)
    refine g_icle (tg := 19) rfl ms_391_19 hC (fun h3 hC => ?_) (fun h3 hC => ?_)
    · refine g_iconst mzi_0 ?_
      exact g_zret (z := false) rfl (hr _ (hx1 _ hC))
    · refine g_iinc rfl mzi_1 (Nat.le_of_ble_eq_true rfl) rfl (g_goto (tg := 2) rfl ms_391_2 ?_)
      refine g_weak ?_ (g_cl (hc1 ((s + 1)) hC))
      exact ⟨rfl, rfl, rfl, rfl, trivial⟩
  · have hp := hp.2 h1
    refine g_aload_n rfl (g_iload_n rfl (g_bipush mzb_24 ?_))
    have h4 := hp
    refine g_s3v (Nat.le_of_ble_eq_true rfl) (fun _ hq => cs_75 (Nat.le_trans (Nat.le_of_ble_eq_true rfl) hd) (hS.le (Nat.le_of_ble_eq_true rfl)) (hR.le (Nat.le_of_ble_eq_true rfl)) 230 (mz_at hS (Nat.le_of_ble_eq_true rfl) mzcS_230) v1 24 N h4 hq) ?_
    exact g_zret (z := (cf_75_0 230 v1 24 N)) rfl (hr _ (hx1 _ hC))
theorem cg_391_2 (hd : 1 ≤ d) (hS : mz_extR S 232) (hR : mz_rok R 232)  (v1 : Int32) (v2 : Int32) (v3 : Int32) (N : mz_N) {C0 : (Bool) → Prop} (hr : ∀ (w : Bool), C0 w → Q (.inl (some (.int (mz_b01 w)))) (mz_k S R N b t)) (hp : cp_391_2 v1 v2 v3 N) (hC : C0 (cf_391_2 v1 v2 v3 N)) : mz_G (d, mz_X0 L xs, some .boolean, [], mk_391, 4, Q) 2 mt_391_2 [(0, .ref 230), (1, .int v1), (2, .int v2), (3, .int v3)] [] false (mz_k S R N b t) := by
  obtain ⟨n, hn⟩ := hp
  exact g_loop (G := fun s => mz_G (d, mz_X0 L xs, some .boolean, [], mk_391, 4, Q) 2 mt_391_2 [(0, .ref 230), (1, .int v1), (2, .int v2), (3, .int s)] [] false (mz_k S R N b t)) (C := C0) (fun C2 hc hx s hP hC => cb_391_2 hd hS hR v1 v2 N s hr hc hx hP hC) n (v3) hn hC
theorem cg_391_0 (hd : 1 ≤ d) (hS : mz_extR S 232) (hR : mz_rok R 232)  (v1 : Int32) (v2 : Int32) (N : mz_N) {C0 : (Bool) → Prop} (hr : ∀ (w : Bool), C0 w → Q (.inl (some (.int (mz_b01 w)))) (mz_k S R N b t)) (hp : cp_391_0 v1 v2 N) (hC : C0 (cf_391_0 v1 v2 N)) : mz_G (d, mz_X0 L xs, some .boolean, [], mk_391, 4, Q) 0 mk_391 [(0, .ref 230), (1, .int v1), (2, .int v2)] [] true (mz_k S R N b t) := by
  unfold cf_391_0 at hC
  unfold cp_391_0 at hp
  refine g_iconst mzi_0 (g_istore_n (Nat.le_of_ble_eq_true rfl) rfl ?_)
  refine g_weak ?_ (g_cl (cg_391_2 hd hS hR v1 v2 0 N hr hp hC))
  exact ⟨rfl, rfl, rfl, rfl, trivial⟩
theorem cs_391 (hd : 2 ≤ d) (hS : mz_extR S 232) (hR : mz_rok R 232)  (v1 : Int32) (v2 : Int32) (N : mz_N) (hp : cp_391_0 v1 v2 N) (hq : Q (.inl (some (.int (mz_b01 (cf_391_0 v1 v2 N))))) (mz_k S R N b t)) : mz_Ed (mz_X0 L xs) d 391 [.ref 230, .int v1, .int v2] (mz_k S R N b t) Q :=
  by
  refine g_in mzq_391 (Nat.le_of_ble_eq_true rfl) (Nat.le_of_ble_eq_true rfl) (Nat.le_trans (Nat.le_of_ble_eq_true rfl) hd) ?_
  refine g_weak ?_ (cg_391_0 (d := d - 1) (by omega) hS hR v1 v2 N (C0 := fun z => Q (.inl (some (.int (mz_b01 z)))) (mz_k S R N b t)) (fun _ h => h) hp hq)
  exact ⟨rfl, rfl, rfl, trivial⟩
/-! 393 KeptHouse$Store.isIn (JJJ)Z -/
theorem ms_393_0 : mz_sf mk_393 0 = mk_393 := mz_sf_zero _
theorem ms_393_17 : mz_sf mk_393 17 = mt_393_17 := mz_sf_add ms_393_0 (t := 17) rfl rfl
theorem ms_393_18 : mz_sf mk_393 18 = mt_393_18 := mz_sf_add ms_393_17 (t := 1) rfl rfl
set_option maxRecDepth 100000 in
theorem mzq_393 : mz_PG0 393 = some (8, ⟨"KeptHouse$Store", "isIn", "(JJJ)Z"⟩, prog_10_method_4_code, 6, some .boolean, [], mk_393, []) := rfl
theorem cg_393_0 (hd : 0 ≤ d) (hS : mz_extR S 232) (hR : mz_rok R 232)  (v0 : Int64) (v2 : Int64) (v4 : Int64) {C0 : (Bool) → Prop} (hr : ∀ (w : Bool), C0 w → Q (.inl (some (.int (mz_b01 w)))) (mz_k S R N b t)) (hp : cp_393_0 v0 v2 v4) (hC : C0 (cf_393_0 v0 v2 v4)) : mz_G (d, mz_X0 L xs, some .boolean, [], mk_393, 6, Q) 0 mk_393 [(0, .long v0), (2, .long v2), (4, .long v4)] [] true (mz_k S R N b t) := by
  unfold cf_393_0 at hC
  unfold cp_393_0 at hp
  refine g_lload_n rfl (g_lload_n rfl (g_lcmp ?_))
  refine g_llt (tg := 17) rfl ms_393_17 hC (fun h1 hC => ?_) (fun h1 hC => ?_)
  · refine g_iconst mzi_0 ?_
    exact g_zret (z := false) rfl (hr _ hC)
  · refine g_lload_n rfl (g_lload rfl (g_lcmp ?_))
    refine g_lgt (tg := 17) rfl ms_393_17 hC (fun h2 hC => ?_) (fun h2 hC => ?_)
    · refine g_iconst mzi_0 ?_
      exact g_zret (z := false) rfl (hr _ hC)
    · refine g_iconst mzi_1 (g_goto (tg := 18) rfl ms_393_18 ?_)
      exact g_zret (z := true) rfl (hr _ hC)
theorem cs_393 (hd : 1 ≤ d) (hS : mz_extR S 232) (hR : mz_rok R 232)  (v0 : Int64) (v2 : Int64) (v4 : Int64) (hp : cp_393_0 v0 v2 v4) (hq : Q (.inl (some (.int (mz_b01 (cf_393_0 v0 v2 v4))))) (mz_k S R N b t)) : mz_Ed (mz_X0 L xs) d 393 [.long v0, .long v2, .long v4] (mz_k S R N b t) Q :=
  by
  refine g_in mzq_393 (Nat.le_of_ble_eq_true rfl) (Nat.le_of_ble_eq_true rfl) (Nat.le_trans (Nat.le_of_ble_eq_true rfl) hd) ?_
  refine g_weak ?_ (cg_393_0 (d := d - 1) (by omega) hS hR v0 v2 v4 (C0 := fun z => Q (.inl (some (.int (mz_b01 z)))) (mz_k S R N b t)) (fun _ h => h) hp hq)
  exact ⟨rfl, rfl, rfl, trivial⟩
/-! 392 KeptHouse$Climate.isWeather ([II)Z -/
theorem ms_392_0 : mz_sf mk_392 0 = mk_392 := mz_sf_zero _
theorem ms_392_2 : mz_sf mk_392 2 = mt_392_2 := mz_sf_add ms_392_0 (t := 2) rfl rfl
theorem ms_392_30 : mz_sf mk_392 30 = mt_392_30 := mz_sf_add ms_392_2 (t := 28) rfl rfl
theorem ms_392_32 : mz_sf mk_392 32 = mt_392_32 := mz_sf_add ms_392_30 (t := 2) rfl rfl
theorem ms_392_38 : mz_sf mk_392 38 = mt_392_38 := mz_sf_add ms_392_32 (t := 6) rfl rfl
set_option maxRecDepth 100000 in
theorem mzq_392 : mz_PG0 392 = some (3, ⟨"KeptHouse$Climate", "isWeather", "([II)Z"⟩, prog_5_method_31_code, 3, some .boolean, [], mk_392, []) := rfl
theorem cb_392_2 (hd : 1 ≤ d) (hS : mz_extR S 232) (hR : mz_rok R 232)  (v1 : Int32) (N : mz_N) (s : Int32) {C0 : (Bool) → Prop} (hr : ∀ (w : Bool), C0 w → Q (.inl (some (.int (mz_b01 w)))) (mz_k S R N b t)) {C1 : ((Int32) ⊕ (Bool)) → Prop} (hc1 : ∀ s2, C1 (.inl s2) → mz_G (d, mz_X0 L xs, some .boolean, [], mk_392, 3, Q) 2 mt_392_2 [(0, .ref 230), (1, .int v1), (2, .int s2)] [] false (mz_k S R N b t)) (hx1 : ∀ z, C1 (.inr z) → C0 z) (hp : cd_392_2 v1 N s) (hC : C1 (cq_392_2 v1 N s)) : mz_G (d, mz_X0 L xs, some .boolean, [], mk_392, 3, Q) 2 mt_392_2 [(0, .ref 230), (1, .int v1), (2, .int s)] [] false (mz_k S R N b t) := by
  unfold cq_392_2 at hC
  unfold cd_392_2 at hp
  refine g_iload_n rfl (g_bipush mzb_12 ?_)
  refine g_icge (tg := 38) rfl ms_392_38 hC (fun h1 hC => ?_) (fun h1 hC => ?_)
  · have hp := hp.1 h1
    refine g_aload_n rfl (g_iload_n rfl (g_iconst mzi_2 (g_iload_n rfl (g_imul (g_iadd (g_iconst mzi_2 ?_))))))
    have h2 := hp
    refine g_s3v (Nat.le_of_ble_eq_true rfl) (fun _ hq => cs_61 (Nat.le_trans (Nat.le_of_ble_eq_true rfl) hd) (hS.le (Nat.le_of_ble_eq_true rfl)) (hR.le (Nat.le_of_ble_eq_true rfl)) 230 3780 (mz_at hS (Nat.le_of_ble_eq_true rfl) mzcS_230) (v1 + (2 * s)) 2 N h2 hq) (g_con3 (g_con3 ?_))
    refine g_s3v (Nat.le_of_ble_eq_true rfl) (fun _ hq => cs_393 (Nat.le_trans (Nat.le_of_ble_eq_true rfl) hd) (hS.le (Nat.le_of_ble_eq_true rfl)) (hR.le (Nat.le_of_ble_eq_true rfl))  (cf_61_0 230 3780 (v1 + (2 * s)) 2 N) (-400) 500 trivial hq) ?_
    refine g_zne (tg := 32) rfl ms_392_32 hC (fun h4 hC => ?_) (fun h4 hC => ?_)
    · refine g_iinc rfl mzi_1 (Nat.le_of_ble_eq_true rfl) rfl (g_goto (tg := 2) rfl ms_392_2 ?_)
      refine g_weak ?_ (g_cl (hc1 ((s + 1)) hC))
      exact ⟨rfl, rfl, rfl, trivial⟩
    · refine g_iconst mzi_0 ?_
      exact g_zret (z := false) rfl (hr _ (hx1 _ hC))
  · have hp := hp.2 h1
    refine g_aload_n rfl (g_iload_n rfl (g_bipush mzb_24 ?_))
    have h5 := hp
    refine g_s3v (Nat.le_of_ble_eq_true rfl) (fun _ hq => cs_75 (Nat.le_trans (Nat.le_of_ble_eq_true rfl) hd) (hS.le (Nat.le_of_ble_eq_true rfl)) (hR.le (Nat.le_of_ble_eq_true rfl)) 230 (mz_at hS (Nat.le_of_ble_eq_true rfl) mzcS_230) v1 24 N h5 hq) ?_
    exact g_zret (z := (cf_75_0 230 v1 24 N)) rfl (hr _ (hx1 _ hC))
theorem cg_392_2 (hd : 1 ≤ d) (hS : mz_extR S 232) (hR : mz_rok R 232)  (v1 : Int32) (v2 : Int32) (N : mz_N) {C0 : (Bool) → Prop} (hr : ∀ (w : Bool), C0 w → Q (.inl (some (.int (mz_b01 w)))) (mz_k S R N b t)) (hp : cp_392_2 v1 v2 N) (hC : C0 (cf_392_2 v1 v2 N)) : mz_G (d, mz_X0 L xs, some .boolean, [], mk_392, 3, Q) 2 mt_392_2 [(0, .ref 230), (1, .int v1), (2, .int v2)] [] false (mz_k S R N b t) := by
  obtain ⟨n, hn⟩ := hp
  exact g_loop (G := fun s => mz_G (d, mz_X0 L xs, some .boolean, [], mk_392, 3, Q) 2 mt_392_2 [(0, .ref 230), (1, .int v1), (2, .int s)] [] false (mz_k S R N b t)) (C := C0) (fun C2 hc hx s hP hC => cb_392_2 hd hS hR v1 N s hr hc hx hP hC) n (v2) hn hC
theorem cg_392_0 (hd : 1 ≤ d) (hS : mz_extR S 232) (hR : mz_rok R 232)  (v1 : Int32) (N : mz_N) {C0 : (Bool) → Prop} (hr : ∀ (w : Bool), C0 w → Q (.inl (some (.int (mz_b01 w)))) (mz_k S R N b t)) (hp : cp_392_0 v1 N) (hC : C0 (cf_392_0 v1 N)) : mz_G (d, mz_X0 L xs, some .boolean, [], mk_392, 3, Q) 0 mk_392 [(0, .ref 230), (1, .int v1)] [] true (mz_k S R N b t) := by
  unfold cf_392_0 at hC
  unfold cp_392_0 at hp
  refine g_iconst mzi_0 (g_istore_n (Nat.le_of_ble_eq_true rfl) rfl ?_)
  refine g_weak ?_ (g_cl (cg_392_2 hd hS hR v1 0 N hr hp hC))
  exact ⟨rfl, rfl, rfl, trivial⟩
theorem cs_392 (hd : 2 ≤ d) (hS : mz_extR S 232) (hR : mz_rok R 232)  (v1 : Int32) (N : mz_N) (hp : cp_392_0 v1 N) (hq : Q (.inl (some (.int (mz_b01 (cf_392_0 v1 N))))) (mz_k S R N b t)) : mz_Ed (mz_X0 L xs) d 392 [.ref 230, .int v1] (mz_k S R N b t) Q :=
  by
  refine g_in mzq_392 (Nat.le_of_ble_eq_true rfl) (Nat.le_of_ble_eq_true rfl) (Nat.le_trans (Nat.le_of_ble_eq_true rfl) hd) ?_
  refine g_weak ?_ (cg_392_0 (d := d - 1) (by omega) hS hR v1 N (C0 := fun z => Q (.inl (some (.int (mz_b01 z)))) (mz_k S R N b t)) (fun _ h => h) hp hq)
  exact ⟨rfl, rfl, trivial⟩
/-! 394 KeptHouse$Supply.areRatings (I[II)Z -/
theorem ms_394_0 : mz_sf mk_394 0 = mk_394 := mz_sf_zero _
theorem ms_394_2 : mz_sf mk_394 2 = mt_394_2 := mz_sf_add ms_394_0 (t := 2) rfl rfl
theorem ms_394_32 : mz_sf mk_394 32 = mt_394_32 := mz_sf_add ms_394_2 (t := 30) rfl rfl
theorem ms_394_46 : mz_sf mk_394 46 = mt_394_46 := mz_sf_add ms_394_32 (t := 14) rfl rfl
theorem ms_394_47 : mz_sf mk_394 47 = mt_394_47 := mz_sf_add ms_394_46 (t := 1) rfl rfl
theorem ms_394_56 : mz_sf mk_394 56 = mt_394_56 := mz_sf_add ms_394_47 (t := 9) rfl rfl
theorem ms_394_62 : mz_sf mk_394 62 = mt_394_62 := mz_sf_add ms_394_56 (t := 6) rfl rfl
theorem ms_394_73 : mz_sf mk_394 73 = mt_394_73 := mz_sf_add ms_394_62 (t := 11) rfl rfl
theorem ms_394_75 : mz_sf mk_394 75 = mt_394_75 := mz_sf_add ms_394_73 (t := 2) rfl rfl
set_option maxRecDepth 100000 in
theorem mzq_394 : mz_PG0 394 = some (9, ⟨"KeptHouse$Supply", "areRatings", "(I[II)Z"⟩, prog_11_method_17_code, 5, some .boolean, [], mk_394, []) := rfl
theorem cg_394_75 (hd : 1 ≤ d) (hS : mz_extR S 232) (hR : mz_rok R 232)  (s1 : Int32) (s2 : Int32) (N : mz_N) {C0 : (Bool) → Prop} (hr : ∀ (w : Bool), C0 w → Q (.inl (some (.int (mz_b01 w)))) (mz_k S R N b t)) (hp : cp_394_75 s1 s2 N) (hC : C0 (cf_394_75 s1 s2 N)) : mz_G (d, mz_X0 L xs, some .boolean, [], mk_394, 5, Q) 75 mt_394_75 [] [.int s2, .int s1, .ref 230] false (mz_k S R N b t) := by
  unfold cf_394_75 at hC
  unfold cp_394_75 at hp
  have h1 := hp
  refine g_s3v (Nat.le_of_ble_eq_true rfl) (fun _ hq => cs_75 (Nat.le_trans (Nat.le_of_ble_eq_true rfl) hd) (hS.le (Nat.le_of_ble_eq_true rfl)) (hR.le (Nat.le_of_ble_eq_true rfl)) 230 (mz_at hS (Nat.le_of_ble_eq_true rfl) mzcS_230) s1 s2 N h1 hq) ?_
  exact g_zret (z := (cf_75_0 230 s1 s2 N)) rfl (hr _ hC)
theorem cg_394_47 (hd : 1 ≤ d) (hS : mz_extR S 232) (hR : mz_rok R 232)  (s0 : Bool) (v0 : Int32) (v2 : Int32) (v3 : Int32) (N : mz_N) {C0 : (Bool) → Prop} (hr : ∀ (w : Bool), C0 w → Q (.inl (some (.int (mz_b01 w)))) (mz_k S R N b t)) {C1 : ((Int32) ⊕ (Bool)) → Prop} (hc1 : ∀ s2, C1 (.inl s2) → mz_G (d, mz_X0 L xs, some .boolean, [], mk_394, 5, Q) 2 mt_394_2 [(0, .int v0), (1, .ref 230), (2, .int v2), (3, .int s2)] [] false (mz_k S R N b t)) (hx1 : ∀ z, C1 (.inr z) → C0 z) (hp : cp_394_47 s0 v0 v2 v3 N) (hC : C1 (cf_394_47 s0 v0 v2 v3 N)) : mz_G (d, mz_X0 L xs, some .boolean, [], mk_394, 5, Q) 47 mt_394_47 [(0, .int v0), (1, .ref 230), (2, .int v2), (3, .int v3)] [.int (mz_b01 s0)] false (mz_k S R N b t) := by
  unfold cf_394_47 at hC
  unfold cp_394_47 at hp
  refine g_istore (Nat.le_of_ble_eq_true rfl) rfl (g_iload rfl ?_)
  refine g_zne (tg := 56) rfl ms_394_56 hC (fun h1 hC => ?_) (fun h1 hC => ?_)
  · refine g_iinc rfl mzi_1 (Nat.le_of_ble_eq_true rfl) rfl (g_goto (tg := 2) rfl ms_394_2 ?_)
    refine g_weak ?_ (g_cl (hc1 ((v3 + 1)) hC))
    exact ⟨rfl, rfl, rfl, rfl, trivial⟩
  · refine g_iconst mzi_0 ?_
    exact g_zret (z := false) rfl (hr _ (hx1 _ hC))
theorem cb_394_2 (hd : 1 ≤ d) (hS : mz_extR S 232) (hR : mz_rok R 232)  (v0 : Int32) (v2 : Int32) (N : mz_N) (s : Int32) {C0 : (Bool) → Prop} (hr : ∀ (w : Bool), C0 w → Q (.inl (some (.int (mz_b01 w)))) (mz_k S R N b t)) {C1 : ((Int32) ⊕ (Bool)) → Prop} (hc1 : ∀ s2, C1 (.inl s2) → mz_G (d, mz_X0 L xs, some .boolean, [], mk_394, 5, Q) 2 mt_394_2 [(0, .int v0), (1, .ref 230), (2, .int v2), (3, .int s2)] [] false (mz_k S R N b t)) (hx1 : ∀ z, C1 (.inr z) → C0 z) (hp : cd_394_2 v0 v2 N s) (hC : C1 (cq_394_2 v0 v2 N s)) : mz_G (d, mz_X0 L xs, some .boolean, [], mk_394, 5, Q) 2 mt_394_2 [(0, .int v0), (1, .ref 230), (2, .int v2), (3, .int s)] [] false (mz_k S R N b t) := by
  unfold cq_394_2 at hC
  unfold cd_394_2 at hp
  refine g_iload_n rfl (g_bipush mzb_11 ?_)
  refine g_icge (tg := 62) rfl ms_394_62 hC (fun h1 hC => ?_) (fun h1 hC => ?_)
  · have hp := hp.1 h1
    refine g_iload_n rfl ?_
    refine g_ifne (tg := 32) rfl ms_394_32 hC (fun h2 hC => ?_) (fun h2 hC => ?_)
    · have hp := hp.1 h2
      refine g_aload_n rfl (g_iload_n rfl (g_iconst mzi_2 (g_iload_n rfl (g_imul (g_iadd (g_iconst mzi_2 ?_))))))
      obtain ⟨h3, hp⟩ := hp
      refine g_s3v (Nat.le_of_ble_eq_true rfl) (fun _ hq => cs_61 (Nat.le_trans (Nat.le_of_ble_eq_true rfl) hd) (hS.le (Nat.le_of_ble_eq_true rfl)) (hR.le (Nat.le_of_ble_eq_true rfl)) 230 3780 (mz_at hS (Nat.le_of_ble_eq_true rfl) mzcS_230) (v2 + (2 * s)) 2 N h3 hq) (g_lconst mzl_1 (g_con3 ?_))
      refine g_s3v (Nat.le_of_ble_eq_true rfl) (fun _ hq => cs_393 (Nat.le_trans (Nat.le_of_ble_eq_true rfl) hd) (hS.le (Nat.le_of_ble_eq_true rfl)) (hR.le (Nat.le_of_ble_eq_true rfl))  (cf_61_0 230 3780 (v2 + (2 * s)) 2 N) 1 500 trivial hq) (g_goto (tg := 47) rfl ms_394_47 ?_)
      refine g_weak ?_ (g_cl (cg_394_47 hd hS hR (cf_393_0 (cf_61_0 230 3780 (v2 + (2 * s)) 2 N) 1 500) v0 v2 s N hr hc1 hx1 hp hC))
      exact ⟨rfl, rfl, rfl, rfl, trivial⟩
    · have hp := hp.2 h2
      refine g_aload_n rfl (g_iload_n rfl (g_iload_n rfl (g_iadd ?_)))
      obtain ⟨h5, hp⟩ := hp
      refine g_iald hS.1 (mz_at hS (Nat.le_of_ble_eq_true rfl) mzcS_230) h5 (g_bipush mzb_9 ?_)
      refine g_icgt (tg := 46) rfl ms_394_46 hC (fun h6 hC => ?_) (fun h6 hC => ?_)
      · have hp := hp.1 h6
        refine g_iconst mzi_0 ?_
        refine g_weak ?_ (g_cl (cg_394_47 hd hS hR false v0 v2 s N hr hc1 hx1 hp hC))
        exact ⟨rfl, rfl, rfl, rfl, trivial⟩
      · have hp := hp.2 h6
        refine g_iconst mzi_1 (g_goto (tg := 47) rfl ms_394_47 ?_)
        refine g_weak ?_ (g_cl (cg_394_47 hd hS hR true v0 v2 s N hr hc1 hx1 hp hC))
        exact ⟨rfl, rfl, rfl, rfl, trivial⟩
  · have hp := hp.2 h1
    refine g_aload_n rfl (g_iload_n rfl (g_iload_n rfl ?_))
    refine g_ifne (tg := 73) rfl ms_394_73 hC (fun h7 hC => ?_) (fun h7 hC => ?_)
    · have hp := hp.1 h7
      refine g_bipush mzb_22 (g_goto (tg := 75) rfl ms_394_75 ?_)
      refine g_weak ?_ (g_cl (cg_394_75 hd hS hR v2 22 N hr hp (hx1 _ hC)))
      exact trivial
    · have hp := hp.2 h7
      refine g_bipush mzb_11 ?_
      refine g_weak ?_ (g_cl (cg_394_75 hd hS hR v2 11 N hr hp (hx1 _ hC)))
      exact trivial
theorem cg_394_2 (hd : 1 ≤ d) (hS : mz_extR S 232) (hR : mz_rok R 232)  (v0 : Int32) (v2 : Int32) (v3 : Int32) (N : mz_N) {C0 : (Bool) → Prop} (hr : ∀ (w : Bool), C0 w → Q (.inl (some (.int (mz_b01 w)))) (mz_k S R N b t)) (hp : cp_394_2 v0 v2 v3 N) (hC : C0 (cf_394_2 v0 v2 v3 N)) : mz_G (d, mz_X0 L xs, some .boolean, [], mk_394, 5, Q) 2 mt_394_2 [(0, .int v0), (1, .ref 230), (2, .int v2), (3, .int v3)] [] false (mz_k S R N b t) := by
  obtain ⟨n, hn⟩ := hp
  exact g_loop (G := fun s => mz_G (d, mz_X0 L xs, some .boolean, [], mk_394, 5, Q) 2 mt_394_2 [(0, .int v0), (1, .ref 230), (2, .int v2), (3, .int s)] [] false (mz_k S R N b t)) (C := C0) (fun C2 hc hx s hP hC => cb_394_2 hd hS hR v0 v2 N s hr hc hx hP hC) n (v3) hn hC
theorem cg_394_0 (hd : 1 ≤ d) (hS : mz_extR S 232) (hR : mz_rok R 232)  (v0 : Int32) (v2 : Int32) (N : mz_N) {C0 : (Bool) → Prop} (hr : ∀ (w : Bool), C0 w → Q (.inl (some (.int (mz_b01 w)))) (mz_k S R N b t)) (hp : cp_394_0 v0 v2 N) (hC : C0 (cf_394_0 v0 v2 N)) : mz_G (d, mz_X0 L xs, some .boolean, [], mk_394, 5, Q) 0 mk_394 [(0, .int v0), (1, .ref 230), (2, .int v2)] [] true (mz_k S R N b t) := by
  unfold cf_394_0 at hC
  unfold cp_394_0 at hp
  refine g_iconst mzi_0 (g_istore_n (Nat.le_of_ble_eq_true rfl) rfl ?_)
  refine g_weak ?_ (g_cl (cg_394_2 hd hS hR v0 v2 0 N hr hp hC))
  exact ⟨rfl, rfl, rfl, rfl, trivial⟩
theorem cs_394 (hd : 2 ≤ d) (hS : mz_extR S 232) (hR : mz_rok R 232)  (v0 : Int32) (v2 : Int32) (N : mz_N) (hp : cp_394_0 v0 v2 N) (hq : Q (.inl (some (.int (mz_b01 (cf_394_0 v0 v2 N))))) (mz_k S R N b t)) : mz_Ed (mz_X0 L xs) d 394 [.int v0, .ref 230, .int v2] (mz_k S R N b t) Q :=
  by
  refine g_in mzq_394 (Nat.le_of_ble_eq_true rfl) (Nat.le_of_ble_eq_true rfl) (Nat.le_trans (Nat.le_of_ble_eq_true rfl) hd) ?_
  refine g_weak ?_ (cg_394_0 (d := d - 1) (by omega) hS hR v0 v2 N (C0 := fun z => Q (.inl (some (.int (mz_b01 z)))) (mz_k S R N b t)) (fun _ h => h) hp hq)
  exact ⟨rfl, rfl, rfl, trivial⟩
/-! 396 KeptHouse$Books.isSum ([II)Z -/
theorem ms_396_0 : mz_sf mk_396 0 = mk_396 := mz_sf_zero _
set_option maxRecDepth 100000 in
theorem mzq_396 : mz_PG0 396 = some (1, ⟨"KeptHouse$Books", "isSum", "([II)Z"⟩, prog_3_method_16_code, 2, some .boolean, [], mk_396, []) := rfl
theorem cg_396_0 (hd : 1 ≤ d) (hS : mz_extR S 232) (hR : mz_rok R 232)  (v1 : Int32) (N : mz_N) {C0 : (Bool) → Prop} (hr : ∀ (w : Bool), C0 w → Q (.inl (some (.int (mz_b01 w)))) (mz_k S R N b t)) (hp : cp_396_0 v1 N) (hC : C0 (cf_396_0 v1 N)) : mz_G (d, mz_X0 L xs, some .boolean, [], mk_396, 2, Q) 0 mk_396 [(0, .ref 230), (1, .int v1)] [] true (mz_k S R N b t) := by
  unfold cf_396_0 at hC
  unfold cp_396_0 at hp
  refine g_aload_n rfl (g_iload_n rfl (g_bipush mzb_8 ?_))
  have h1 := hp
  refine g_s3v (Nat.le_of_ble_eq_true rfl) (fun _ hq => cs_61 (Nat.le_trans (Nat.le_of_ble_eq_true rfl) hd) (hS.le (Nat.le_of_ble_eq_true rfl)) (hR.le (Nat.le_of_ble_eq_true rfl)) 230 3780 (mz_at hS (Nat.le_of_ble_eq_true rfl) mzcS_230) v1 8 N h1 hq) (g_con3 (g_con3 ?_))
  refine g_s3v (Nat.le_of_ble_eq_true rfl) (fun _ hq => cs_393 (Nat.le_trans (Nat.le_of_ble_eq_true rfl) hd) (hS.le (Nat.le_of_ble_eq_true rfl)) (hR.le (Nat.le_of_ble_eq_true rfl))  (cf_61_0 230 3780 v1 8 N) (-1000000000000000) 1000000000000000 trivial hq) ?_
  exact g_zret (z := (cf_393_0 (cf_61_0 230 3780 v1 8 N) (-1000000000000000) 1000000000000000)) rfl (hr _ hC)
theorem cs_396 (hd : 2 ≤ d) (hS : mz_extR S 232) (hR : mz_rok R 232)  (v1 : Int32) (N : mz_N) (hp : cp_396_0 v1 N) (hq : Q (.inl (some (.int (mz_b01 (cf_396_0 v1 N))))) (mz_k S R N b t)) : mz_Ed (mz_X0 L xs) d 396 [.ref 230, .int v1] (mz_k S R N b t) Q :=
  by
  refine g_in mzq_396 (Nat.le_of_ble_eq_true rfl) (Nat.le_of_ble_eq_true rfl) (Nat.le_trans (Nat.le_of_ble_eq_true rfl) hd) ?_
  refine g_weak ?_ (cg_396_0 (d := d - 1) (by omega) hS hR v1 N (C0 := fun z => Q (.inl (some (.int (mz_b01 z)))) (mz_k S R N b t)) (fun _ h => h) hp hq)
  exact ⟨rfl, rfl, trivial⟩
/-! 397 KeptHouse$Books.isAmount ([II)Z -/
theorem ms_397_0 : mz_sf mk_397 0 = mk_397 := mz_sf_zero _
set_option maxRecDepth 100000 in
theorem mzq_397 : mz_PG0 397 = some (1, ⟨"KeptHouse$Books", "isAmount", "([II)Z"⟩, prog_3_method_17_code, 2, some .boolean, [], mk_397, []) := rfl
theorem cg_397_0 (hd : 1 ≤ d) (hS : mz_extR S 232) (hR : mz_rok R 232)  (v1 : Int32) (N : mz_N) {C0 : (Bool) → Prop} (hr : ∀ (w : Bool), C0 w → Q (.inl (some (.int (mz_b01 w)))) (mz_k S R N b t)) (hp : cp_397_0 v1 N) (hC : C0 (cf_397_0 v1 N)) : mz_G (d, mz_X0 L xs, some .boolean, [], mk_397, 2, Q) 0 mk_397 [(0, .ref 230), (1, .int v1)] [] true (mz_k S R N b t) := by
  unfold cf_397_0 at hC
  unfold cp_397_0 at hp
  refine g_aload_n rfl (g_iload_n rfl (g_iconst mzi_4 ?_))
  have h1 := hp
  refine g_s3v (Nat.le_of_ble_eq_true rfl) (fun _ hq => cs_61 (Nat.le_trans (Nat.le_of_ble_eq_true rfl) hd) (hS.le (Nat.le_of_ble_eq_true rfl)) (hR.le (Nat.le_of_ble_eq_true rfl)) 230 3780 (mz_at hS (Nat.le_of_ble_eq_true rfl) mzcS_230) v1 4 N h1 hq) (g_lconst mzl_0 (g_con3 ?_))
  refine g_s3v (Nat.le_of_ble_eq_true rfl) (fun _ hq => cs_393 (Nat.le_trans (Nat.le_of_ble_eq_true rfl) hd) (hS.le (Nat.le_of_ble_eq_true rfl)) (hR.le (Nat.le_of_ble_eq_true rfl))  (cf_61_0 230 3780 v1 4 N) 0 100000000 trivial hq) ?_
  exact g_zret (z := (cf_393_0 (cf_61_0 230 3780 v1 4 N) 0 100000000)) rfl (hr _ hC)
theorem cs_397 (hd : 2 ≤ d) (hS : mz_extR S 232) (hR : mz_rok R 232)  (v1 : Int32) (N : mz_N) (hp : cp_397_0 v1 N) (hq : Q (.inl (some (.int (mz_b01 (cf_397_0 v1 N))))) (mz_k S R N b t)) : mz_Ed (mz_X0 L xs) d 397 [.ref 230, .int v1] (mz_k S R N b t) Q :=
  by
  refine g_in mzq_397 (Nat.le_of_ble_eq_true rfl) (Nat.le_of_ble_eq_true rfl) (Nat.le_trans (Nat.le_of_ble_eq_true rfl) hd) ?_
  refine g_weak ?_ (cg_397_0 (d := d - 1) (by omega) hS hR v1 N (C0 := fun z => Q (.inl (some (.int (mz_b01 z)))) (mz_k S R N b t)) (fun _ h => h) hp hq)
  exact ⟨rfl, rfl, trivial⟩
/-! 395 KeptHouse$Books.isFlatRow ([II)Z -/
theorem ms_395_0 : mz_sf mk_395 0 = mk_395 := mz_sf_zero _
theorem ms_395_30 : mz_sf mk_395 30 = mt_395_30 := mz_sf_add ms_395_0 (t := 30) rfl rfl
theorem ms_395_52 : mz_sf mk_395 52 = mt_395_52 := mz_sf_add ms_395_30 (t := 22) rfl rfl
theorem ms_395_56 : mz_sf mk_395 56 = mt_395_56 := mz_sf_add ms_395_52 (t := 4) rfl rfl
theorem ms_395_57 : mz_sf mk_395 57 = mt_395_57 := mz_sf_add ms_395_56 (t := 1) rfl rfl
set_option maxRecDepth 100000 in
theorem mzq_395 : mz_PG0 395 = some (1, ⟨"KeptHouse$Books", "isFlatRow", "([II)Z"⟩, prog_3_method_15_code, 2, some .boolean, [], mk_395, []) := rfl
theorem cg_395_0 (hd : 2 ≤ d) (hS : mz_extR S 232) (hR : mz_rok R 232)  (v1 : Int32) (N : mz_N) {C0 : (Bool) → Prop} (hr : ∀ (w : Bool), C0 w → Q (.inl (some (.int (mz_b01 w)))) (mz_k S R N b t)) (hp : cp_395_0 v1 N) (hC : C0 (cf_395_0 v1 N)) : mz_G (d, mz_X0 L xs, some .boolean, [], mk_395, 2, Q) 0 mk_395 [(0, .ref 230), (1, .int v1)] [] true (mz_k S R N b t) := by
  unfold cf_395_0 at hC
  unfold cp_395_0 at hp
  refine g_aload_n rfl (g_iload_n rfl ?_)
  obtain ⟨h1, hp⟩ := hp
  refine g_s2v (Nat.le_of_ble_eq_true rfl) (fun _ hq => cs_396 (Nat.le_trans (Nat.le_of_ble_eq_true rfl) hd) (hS.le (Nat.le_of_ble_eq_true rfl)) (hR.le (Nat.le_of_ble_eq_true rfl))  v1 N h1 hq) ?_
  refine g_zeq (tg := 56) rfl ms_395_56 hC (fun h2 hC => ?_) (fun h2 hC => ?_)
  · have hp := hp.1 h2
    refine g_aload_n rfl (g_iload_n rfl (g_bipush mzb_8 (g_iadd ?_)))
    obtain ⟨h3, hp⟩ := hp
    refine g_s2v (Nat.le_of_ble_eq_true rfl) (fun _ hq => cs_396 (Nat.le_trans (Nat.le_of_ble_eq_true rfl) hd) (hS.le (Nat.le_of_ble_eq_true rfl)) (hR.le (Nat.le_of_ble_eq_true rfl))  (v1 + 8) N h3 hq) ?_
    refine g_zeq (tg := 56) rfl ms_395_56 hC (fun h4 hC => ?_) (fun h4 hC => ?_)
    · have hp := hp.1 h4
      refine g_aload_n rfl (g_iload_n rfl (g_bipush mzb_16 (g_iadd ?_)))
      obtain ⟨h5, hp⟩ := hp
      refine g_s2v (Nat.le_of_ble_eq_true rfl) (fun _ hq => cs_397 (Nat.le_trans (Nat.le_of_ble_eq_true rfl) hd) (hS.le (Nat.le_of_ble_eq_true rfl)) (hR.le (Nat.le_of_ble_eq_true rfl))  (v1 + 16) N h5 hq) ?_
      refine g_zeq (tg := 56) rfl ms_395_56 hC (fun h6 hC => ?_) (fun h6 hC => ?_)
      · have hp := hp.1 h6
        refine g_aload_n rfl (g_iload_n rfl (g_bipush mzb_20 (g_iadd ?_)))
        obtain ⟨h7, hp⟩ := hp
        refine g_s2v (Nat.le_of_ble_eq_true rfl) (fun _ hq => cs_397 (Nat.le_trans (Nat.le_of_ble_eq_true rfl) hd) (hS.le (Nat.le_of_ble_eq_true rfl)) (hR.le (Nat.le_of_ble_eq_true rfl))  (v1 + 20) N h7 hq) ?_
        refine g_zeq (tg := 56) rfl ms_395_56 hC (fun h8 hC => ?_) (fun h8 hC => ?_)
        · have hp := hp.1 h8
          refine g_aload_n rfl (g_iload_n rfl (g_bipush mzb_24 (g_iadd ?_)))
          have h9 := hp
          refine g_s2v (Nat.le_of_ble_eq_true rfl) (fun _ hq => cs_397 (Nat.le_trans (Nat.le_of_ble_eq_true rfl) hd) (hS.le (Nat.le_of_ble_eq_true rfl)) (hR.le (Nat.le_of_ble_eq_true rfl))  (v1 + 24) N h9 hq) ?_
          refine g_zeq (tg := 56) rfl ms_395_56 hC (fun h10 hC => ?_) (fun h10 hC => ?_)
          · refine g_iconst mzi_1 (g_goto (tg := 57) rfl ms_395_57 ?_)
            exact g_zret (z := true) rfl (hr _ hC)
          · refine g_iconst mzi_0 ?_
            exact g_zret (z := false) rfl (hr _ hC)
        · have hp := hp.2 h8
          refine g_iconst mzi_0 ?_
          exact g_zret (z := false) rfl (hr _ hC)
      · have hp := hp.2 h6
        refine g_iconst mzi_0 ?_
        exact g_zret (z := false) rfl (hr _ hC)
    · have hp := hp.2 h4
      refine g_iconst mzi_0 ?_
      exact g_zret (z := false) rfl (hr _ hC)
  · have hp := hp.2 h2
    refine g_iconst mzi_0 ?_
    exact g_zret (z := false) rfl (hr _ hC)
theorem cs_395 (hd : 3 ≤ d) (hS : mz_extR S 232) (hR : mz_rok R 232)  (v1 : Int32) (N : mz_N) (hp : cp_395_0 v1 N) (hq : Q (.inl (some (.int (mz_b01 (cf_395_0 v1 N))))) (mz_k S R N b t)) : mz_Ed (mz_X0 L xs) d 395 [.ref 230, .int v1] (mz_k S R N b t) Q :=
  by
  refine g_in mzq_395 (Nat.le_of_ble_eq_true rfl) (Nat.le_of_ble_eq_true rfl) (Nat.le_trans (Nat.le_of_ble_eq_true rfl) hd) ?_
  refine g_weak ?_ (cg_395_0 (d := d - 1) (by omega) hS hR v1 N (C0 := fun z => Q (.inl (some (.int (mz_b01 z)))) (mz_k S R N b t)) (fun _ h => h) hp hq)
  exact ⟨rfl, rfl, trivial⟩
/-! 398 KeptHouse$Books.isCashRow ([II)Z -/
theorem ms_398_0 : mz_sf mk_398 0 = mk_398 := mz_sf_zero _
theorem ms_398_26 : mz_sf mk_398 26 = mt_398_26 := mz_sf_add ms_398_0 (t := 26) rfl rfl
theorem ms_398_48 : mz_sf mk_398 48 = mt_398_48 := mz_sf_add ms_398_26 (t := 22) rfl rfl
theorem ms_398_63 : mz_sf mk_398 63 = mt_398_63 := mz_sf_add ms_398_48 (t := 15) rfl rfl
theorem ms_398_64 : mz_sf mk_398 64 = mt_398_64 := mz_sf_add ms_398_63 (t := 1) rfl rfl
set_option maxRecDepth 100000 in
theorem mzq_398 : mz_PG0 398 = some (1, ⟨"KeptHouse$Books", "isCashRow", "([II)Z"⟩, prog_3_method_20_code, 2, some .boolean, [], mk_398, []) := rfl
theorem cg_398_0 (hd : 2 ≤ d) (hS : mz_extR S 232) (hR : mz_rok R 232)  (v1 : Int32) (N : mz_N) {C0 : (Bool) → Prop} (hr : ∀ (w : Bool), C0 w → Q (.inl (some (.int (mz_b01 w)))) (mz_k S R N b t)) (hp : cp_398_0 v1 N) (hC : C0 (cf_398_0 v1 N)) : mz_G (d, mz_X0 L xs, some .boolean, [], mk_398, 2, Q) 0 mk_398 [(0, .ref 230), (1, .int v1)] [] true (mz_k S R N b t) := by
  unfold cf_398_0 at hC
  unfold cp_398_0 at hp
  refine g_aload_n rfl (g_iload_n rfl (g_iconst mzi_4 ?_))
  obtain ⟨h1, hp⟩ := hp
  refine g_s3v (Nat.le_of_ble_eq_true rfl) (fun _ hq => cs_61 (Nat.le_trans (Nat.le_of_ble_eq_true rfl) hd) (hS.le (Nat.le_of_ble_eq_true rfl)) (hR.le (Nat.le_of_ble_eq_true rfl)) 230 3780 (mz_at hS (Nat.le_of_ble_eq_true rfl) mzcS_230) v1 4 N h1 hq) (g_lconst mzl_0 (g_con3 ?_))
  refine g_s3v (Nat.le_of_ble_eq_true rfl) (fun _ hq => cs_393 (Nat.le_trans (Nat.le_of_ble_eq_true rfl) hd) (hS.le (Nat.le_of_ble_eq_true rfl)) (hR.le (Nat.le_of_ble_eq_true rfl))  (cf_61_0 230 3780 v1 4 N) 0 1000000 trivial hq) ?_
  refine g_zeq (tg := 63) rfl ms_398_63 hC (fun h3 hC => ?_) (fun h3 hC => ?_)
  · have hp := hp.1 h3
    refine g_aload_n rfl (g_iload_n rfl (g_iconst mzi_4 (g_iadd ?_)))
    obtain ⟨h4, hp⟩ := hp
    refine g_s2v (Nat.le_of_ble_eq_true rfl) (fun _ hq => cs_396 (Nat.le_trans (Nat.le_of_ble_eq_true rfl) hd) (hS.le (Nat.le_of_ble_eq_true rfl)) (hR.le (Nat.le_of_ble_eq_true rfl))  (v1 + 4) N h4 hq) ?_
    refine g_zeq (tg := 63) rfl ms_398_63 hC (fun h5 hC => ?_) (fun h5 hC => ?_)
    · have hp := hp.1 h5
      refine g_aload_n rfl (g_iload_n rfl (g_bipush mzb_12 (g_iadd ?_)))
      obtain ⟨h6, hp⟩ := hp
      refine g_s2v (Nat.le_of_ble_eq_true rfl) (fun _ hq => cs_396 (Nat.le_trans (Nat.le_of_ble_eq_true rfl) hd) (hS.le (Nat.le_of_ble_eq_true rfl)) (hR.le (Nat.le_of_ble_eq_true rfl))  (v1 + 12) N h6 hq) ?_
      refine g_zeq (tg := 63) rfl ms_398_63 hC (fun h7 hC => ?_) (fun h7 hC => ?_)
      · have hp := hp.1 h7
        refine g_aload_n rfl (g_iload_n rfl (g_bipush mzb_20 (g_iadd ?_)))
        obtain ⟨h8, hp⟩ := hp
        refine g_s2v (Nat.le_of_ble_eq_true rfl) (fun _ hq => cs_397 (Nat.le_trans (Nat.le_of_ble_eq_true rfl) hd) (hS.le (Nat.le_of_ble_eq_true rfl)) (hR.le (Nat.le_of_ble_eq_true rfl))  (v1 + 20) N h8 hq) ?_
        refine g_zeq (tg := 63) rfl ms_398_63 hC (fun h9 hC => ?_) (fun h9 hC => ?_)
        · have hp := hp.1 h9
          refine g_aload_n rfl (g_iload_n rfl (g_bipush mzb_24 (g_iadd ?_)))
          have h10 := hp
          refine g_s2v (Nat.le_of_ble_eq_true rfl) (fun _ hq => cs_397 (Nat.le_trans (Nat.le_of_ble_eq_true rfl) hd) (hS.le (Nat.le_of_ble_eq_true rfl)) (hR.le (Nat.le_of_ble_eq_true rfl))  (v1 + 24) N h10 hq) ?_
          refine g_zeq (tg := 63) rfl ms_398_63 hC (fun h11 hC => ?_) (fun h11 hC => ?_)
          · refine g_iconst mzi_1 (g_goto (tg := 64) rfl ms_398_64 ?_)
            exact g_zret (z := true) rfl (hr _ hC)
          · refine g_iconst mzi_0 ?_
            exact g_zret (z := false) rfl (hr _ hC)
        · have hp := hp.2 h9
          refine g_iconst mzi_0 ?_
          exact g_zret (z := false) rfl (hr _ hC)
      · have hp := hp.2 h7
        refine g_iconst mzi_0 ?_
        exact g_zret (z := false) rfl (hr _ hC)
    · have hp := hp.2 h5
      refine g_iconst mzi_0 ?_
      exact g_zret (z := false) rfl (hr _ hC)
  · have hp := hp.2 h3
    refine g_iconst mzi_0 ?_
    exact g_zret (z := false) rfl (hr _ hC)
theorem cs_398 (hd : 3 ≤ d) (hS : mz_extR S 232) (hR : mz_rok R 232)  (v1 : Int32) (N : mz_N) (hp : cp_398_0 v1 N) (hq : Q (.inl (some (.int (mz_b01 (cf_398_0 v1 N))))) (mz_k S R N b t)) : mz_Ed (mz_X0 L xs) d 398 [.ref 230, .int v1] (mz_k S R N b t) Q :=
  by
  refine g_in mzq_398 (Nat.le_of_ble_eq_true rfl) (Nat.le_of_ble_eq_true rfl) (Nat.le_trans (Nat.le_of_ble_eq_true rfl) hd) ?_
  refine g_weak ?_ (cg_398_0 (d := d - 1) (by omega) hS hR v1 N (C0 := fun z => Q (.inl (some (.int (mz_b01 z)))) (mz_k S R N b t)) (fun _ h => h) hp hq)
  exact ⟨rfl, rfl, trivial⟩
/-! 399 KeptHouse$Books.isPriceRow ([II)Z -/
theorem ms_399_0 : mz_sf mk_399 0 = mk_399 := mz_sf_zero _
theorem ms_399_2 : mz_sf mk_399 2 = mt_399_2 := mz_sf_add ms_399_0 (t := 2) rfl rfl
theorem ms_399_32 : mz_sf mk_399 32 = mt_399_32 := mz_sf_add ms_399_2 (t := 30) rfl rfl
theorem ms_399_34 : mz_sf mk_399 34 = mt_399_34 := mz_sf_add ms_399_32 (t := 2) rfl rfl
theorem ms_399_40 : mz_sf mk_399 40 = mt_399_40 := mz_sf_add ms_399_34 (t := 6) rfl rfl
theorem ms_399_68 : mz_sf mk_399 68 = mt_399_68 := mz_sf_add ms_399_40 (t := 28) rfl rfl
theorem ms_399_72 : mz_sf mk_399 72 = mt_399_72 := mz_sf_add ms_399_68 (t := 4) rfl rfl
theorem ms_399_73 : mz_sf mk_399 73 = mt_399_73 := mz_sf_add ms_399_72 (t := 1) rfl rfl
set_option maxRecDepth 100000 in
theorem mzq_399 : mz_PG0 399 = some (1, ⟨"KeptHouse$Books", "isPriceRow", "([II)Z"⟩, prog_3_method_23_code, 3, some .boolean, [], mk_399, []) := rfl
theorem cb_399_2 (hd : 2 ≤ d) (hS : mz_extR S 232) (hR : mz_rok R 232)  (v1 : Int32) (N : mz_N) (s : Int32) {C0 : (Bool) → Prop} (hr : ∀ (w : Bool), C0 w → Q (.inl (some (.int (mz_b01 w)))) (mz_k S R N b t)) {C1 : ((Int32) ⊕ (Bool)) → Prop} (hc1 : ∀ s2, C1 (.inl s2) → mz_G (d, mz_X0 L xs, some .boolean, [], mk_399, 3, Q) 2 mt_399_2 [(0, .ref 230), (1, .int v1), (2, .int s2)] [] false (mz_k S R N b t)) (hx1 : ∀ z, C1 (.inr z) → C0 z) (hp : cd_399_2 v1 N s) (hC : C1 (cq_399_2 v1 N s)) : mz_G (d, mz_X0 L xs, some .boolean, [], mk_399, 3, Q) 2 mt_399_2 [(0, .ref 230), (1, .int v1), (2, .int s)] [] false (mz_k S R N b t) := by
  unfold cq_399_2 at hC
  unfold cd_399_2 at hp
  refine g_iload_n rfl (g_iconst mzi_4 ?_)
  refine g_icge (tg := 40) rfl ms_399_40 hC (fun h1 hC => ?_) (fun h1 hC => ?_)
  · have hp := hp.1 h1
    refine g_aload_n rfl (g_iload_n rfl (g_bipush mzb_8 (g_iadd (g_iconst mzi_4 (g_iload_n rfl (g_imul (g_iadd ?_)))))))
    refine g_iconst mzi_4 ?_
    have h2 := hp
    refine g_s3v (Nat.le_of_ble_eq_true rfl) (fun _ hq => cs_61 (Nat.le_trans (Nat.le_of_ble_eq_true rfl) hd) (hS.le (Nat.le_of_ble_eq_true rfl)) (hR.le (Nat.le_of_ble_eq_true rfl)) 230 3780 (mz_at hS (Nat.le_of_ble_eq_true rfl) mzcS_230) ((v1 + 8) + (4 * s)) 4 N h2 hq) (g_lconst mzl_0 (g_iload_n rfl ?_))
    refine g_s1v (Nat.le_of_ble_eq_true rfl) (fun _ hq => cs_182 (Nat.le_trans (Nat.le_of_ble_eq_true rfl) hd) (hS.le (Nat.le_of_ble_eq_true rfl)) (hR.le (Nat.le_of_ble_eq_true rfl))  s trivial hq) (g_i2l ?_)
    refine g_s3v (Nat.le_of_ble_eq_true rfl) (fun _ hq => cs_393 (Nat.le_trans (Nat.le_of_ble_eq_true rfl) hd) (hS.le (Nat.le_of_ble_eq_true rfl)) (hR.le (Nat.le_of_ble_eq_true rfl))  (cf_61_0 230 3780 ((v1 + 8) + (4 * s)) 4 N) 0 ((cf_182_0 s).toInt64) trivial hq) ?_
    refine g_zne (tg := 34) rfl ms_399_34 hC (fun h5 hC => ?_) (fun h5 hC => ?_)
    · refine g_iinc rfl mzi_1 (Nat.le_of_ble_eq_true rfl) rfl (g_goto (tg := 2) rfl ms_399_2 ?_)
      refine g_weak ?_ (g_cl (hc1 ((s + 1)) hC))
      exact ⟨rfl, rfl, rfl, trivial⟩
    · refine g_iconst mzi_0 ?_
      exact g_zret (z := false) rfl (hr _ (hx1 _ hC))
  · have hp := hp.2 h1
    refine g_aload_n rfl (g_iload_n rfl ?_)
    obtain ⟨h6, hp⟩ := hp
    refine g_s2v (Nat.le_of_ble_eq_true rfl) (fun _ hq => cs_397 (Nat.le_trans (Nat.le_of_ble_eq_true rfl) hd) (hS.le (Nat.le_of_ble_eq_true rfl)) (hR.le (Nat.le_of_ble_eq_true rfl))  v1 N h6 hq) ?_
    refine g_zeq (tg := 72) rfl ms_399_72 hC (fun h7 hC => ?_) (fun h7 hC => ?_)
    · have hp := hp.1 h7
      refine g_aload_n rfl (g_iload_n rfl (g_iconst mzi_4 (g_iadd ?_)))
      obtain ⟨h8, hp⟩ := hp
      refine g_s2v (Nat.le_of_ble_eq_true rfl) (fun _ hq => cs_397 (Nat.le_trans (Nat.le_of_ble_eq_true rfl) hd) (hS.le (Nat.le_of_ble_eq_true rfl)) (hR.le (Nat.le_of_ble_eq_true rfl))  (v1 + 4) N h8 hq) ?_
      refine g_zeq (tg := 72) rfl ms_399_72 hC (fun h9 hC => ?_) (fun h9 hC => ?_)
      · have hp := hp.1 h9
        refine g_aload_n rfl (g_iload_n rfl (g_bipush mzb_24 ?_))
        have h10 := hp
        refine g_s3v (Nat.le_of_ble_eq_true rfl) (fun _ hq => cs_75 (Nat.le_trans (Nat.le_of_ble_eq_true rfl) hd) (hS.le (Nat.le_of_ble_eq_true rfl)) (hR.le (Nat.le_of_ble_eq_true rfl)) 230 (mz_at hS (Nat.le_of_ble_eq_true rfl) mzcS_230) v1 24 N h10 hq) ?_
        refine g_zeq (tg := 72) rfl ms_399_72 hC (fun h11 hC => ?_) (fun h11 hC => ?_)
        · refine g_iconst mzi_1 (g_goto (tg := 73) rfl ms_399_73 ?_)
          exact g_zret (z := true) rfl (hr _ (hx1 _ hC))
        · refine g_iconst mzi_0 ?_
          exact g_zret (z := false) rfl (hr _ (hx1 _ hC))
      · have hp := hp.2 h9
        refine g_iconst mzi_0 ?_
        exact g_zret (z := false) rfl (hr _ (hx1 _ hC))
    · have hp := hp.2 h7
      refine g_iconst mzi_0 ?_
      exact g_zret (z := false) rfl (hr _ (hx1 _ hC))
theorem cg_399_2 (hd : 2 ≤ d) (hS : mz_extR S 232) (hR : mz_rok R 232)  (v1 : Int32) (v2 : Int32) (N : mz_N) {C0 : (Bool) → Prop} (hr : ∀ (w : Bool), C0 w → Q (.inl (some (.int (mz_b01 w)))) (mz_k S R N b t)) (hp : cp_399_2 v1 v2 N) (hC : C0 (cf_399_2 v1 v2 N)) : mz_G (d, mz_X0 L xs, some .boolean, [], mk_399, 3, Q) 2 mt_399_2 [(0, .ref 230), (1, .int v1), (2, .int v2)] [] false (mz_k S R N b t) := by
  obtain ⟨n, hn⟩ := hp
  exact g_loop (G := fun s => mz_G (d, mz_X0 L xs, some .boolean, [], mk_399, 3, Q) 2 mt_399_2 [(0, .ref 230), (1, .int v1), (2, .int s)] [] false (mz_k S R N b t)) (C := C0) (fun C2 hc hx s hP hC => cb_399_2 hd hS hR v1 N s hr hc hx hP hC) n (v2) hn hC
theorem cg_399_0 (hd : 2 ≤ d) (hS : mz_extR S 232) (hR : mz_rok R 232)  (v1 : Int32) (N : mz_N) {C0 : (Bool) → Prop} (hr : ∀ (w : Bool), C0 w → Q (.inl (some (.int (mz_b01 w)))) (mz_k S R N b t)) (hp : cp_399_0 v1 N) (hC : C0 (cf_399_0 v1 N)) : mz_G (d, mz_X0 L xs, some .boolean, [], mk_399, 3, Q) 0 mk_399 [(0, .ref 230), (1, .int v1)] [] true (mz_k S R N b t) := by
  unfold cf_399_0 at hC
  unfold cp_399_0 at hp
  refine g_iconst mzi_0 (g_istore_n (Nat.le_of_ble_eq_true rfl) rfl ?_)
  refine g_weak ?_ (g_cl (cg_399_2 hd hS hR v1 0 N hr hp hC))
  exact ⟨rfl, rfl, rfl, trivial⟩
theorem cs_399 (hd : 3 ≤ d) (hS : mz_extR S 232) (hR : mz_rok R 232)  (v1 : Int32) (N : mz_N) (hp : cp_399_0 v1 N) (hq : Q (.inl (some (.int (mz_b01 (cf_399_0 v1 N))))) (mz_k S R N b t)) : mz_Ed (mz_X0 L xs) d 399 [.ref 230, .int v1] (mz_k S R N b t) Q :=
  by
  refine g_in mzq_399 (Nat.le_of_ble_eq_true rfl) (Nat.le_of_ble_eq_true rfl) (Nat.le_trans (Nat.le_of_ble_eq_true rfl) hd) ?_
  refine g_weak ?_ (cg_399_0 (d := d - 1) (by omega) hS hR v1 N (C0 := fun z => Q (.inl (some (.int (mz_b01 z)))) (mz_k S R N b t)) (fun _ h => h) hp hq)
  exact ⟨rfl, rfl, trivial⟩
/-! 400 KeptHouse$Care.isPartRow ([II)Z -/
theorem ms_400_0 : mz_sf mk_400 0 = mk_400 := mz_sf_zero _
theorem ms_400_34 : mz_sf mk_400 34 = mt_400_34 := mz_sf_add ms_400_0 (t := 34) rfl rfl
theorem ms_400_63 : mz_sf mk_400 63 = mt_400_63 := mz_sf_add ms_400_34 (t := 29) rfl rfl
theorem ms_400_77 : mz_sf mk_400 77 = mt_400_77 := mz_sf_add ms_400_63 (t := 14) rfl rfl
theorem ms_400_78 : mz_sf mk_400 78 = mt_400_78 := mz_sf_add ms_400_77 (t := 1) rfl rfl
set_option maxRecDepth 100000 in
theorem mzq_400 : mz_PG0 400 = some (2, ⟨"KeptHouse$Care", "isPartRow", "([II)Z"⟩, prog_4_method_31_code, 2, some .boolean, [], mk_400, []) := rfl
theorem cg_400_0 (hd : 1 ≤ d) (hS : mz_extR S 232) (hR : mz_rok R 232)  (v1 : Int32) (N : mz_N) {C0 : (Bool) → Prop} (hr : ∀ (w : Bool), C0 w → Q (.inl (some (.int (mz_b01 w)))) (mz_k S R N b t)) (hp : cp_400_0 v1 N) (hC : C0 (cf_400_0 v1 N)) : mz_G (d, mz_X0 L xs, some .boolean, [], mk_400, 2, Q) 0 mk_400 [(0, .ref 230), (1, .int v1)] [] true (mz_k S R N b t) := by
  unfold cf_400_0 at hC
  unfold cp_400_0 at hp
  refine g_aload_n rfl (g_iload_n rfl (g_iconst mzi_4 ?_))
  obtain ⟨h1, hp⟩ := hp
  refine g_s3v (Nat.le_of_ble_eq_true rfl) (fun _ hq => cs_61 (Nat.le_trans (Nat.le_of_ble_eq_true rfl) hd) (hS.le (Nat.le_of_ble_eq_true rfl)) (hR.le (Nat.le_of_ble_eq_true rfl)) 230 3780 (mz_at hS (Nat.le_of_ble_eq_true rfl) mzcS_230) v1 4 N h1 hq) (g_lconst mzl_1 (g_con3 ?_))
  refine g_s3v (Nat.le_of_ble_eq_true rfl) (fun _ hq => cs_393 (Nat.le_trans (Nat.le_of_ble_eq_true rfl) hd) (hS.le (Nat.le_of_ble_eq_true rfl)) (hR.le (Nat.le_of_ble_eq_true rfl))  (cf_61_0 230 3780 v1 4 N) 1 100000 trivial hq) ?_
  refine g_zeq (tg := 77) rfl ms_400_77 hC (fun h3 hC => ?_) (fun h3 hC => ?_)
  · have hp := hp.1 h3
    refine g_aload_n rfl (g_iload_n rfl (g_iconst mzi_4 (g_iadd (g_iconst mzi_4 ?_))))
    obtain ⟨h4, hp⟩ := hp
    refine g_s3v (Nat.le_of_ble_eq_true rfl) (fun _ hq => cs_61 (Nat.le_trans (Nat.le_of_ble_eq_true rfl) hd) (hS.le (Nat.le_of_ble_eq_true rfl)) (hR.le (Nat.le_of_ble_eq_true rfl)) 230 3780 (mz_at hS (Nat.le_of_ble_eq_true rfl) mzcS_230) (v1 + 4) 4 N h4 hq) (g_lconst mzl_0 (g_con3 ?_))
    refine g_s3v (Nat.le_of_ble_eq_true rfl) (fun _ hq => cs_393 (Nat.le_trans (Nat.le_of_ble_eq_true rfl) hd) (hS.le (Nat.le_of_ble_eq_true rfl)) (hR.le (Nat.le_of_ble_eq_true rfl))  (cf_61_0 230 3780 (v1 + 4) 4 N) 0 100000000 trivial hq) ?_
    refine g_zeq (tg := 77) rfl ms_400_77 hC (fun h6 hC => ?_) (fun h6 hC => ?_)
    · have hp := hp.1 h6
      refine g_aload_n rfl (g_iload_n rfl (g_bipush mzb_8 (g_iadd (g_iconst mzi_4 ?_))))
      obtain ⟨h7, hp⟩ := hp
      refine g_s3v (Nat.le_of_ble_eq_true rfl) (fun _ hq => cs_61 (Nat.le_trans (Nat.le_of_ble_eq_true rfl) hd) (hS.le (Nat.le_of_ble_eq_true rfl)) (hR.le (Nat.le_of_ble_eq_true rfl)) 230 3780 (mz_at hS (Nat.le_of_ble_eq_true rfl) mzcS_230) (v1 + 8) 4 N h7 hq) (g_lconst mzl_0 (g_con3 ?_))
      refine g_s3v (Nat.le_of_ble_eq_true rfl) (fun _ hq => cs_393 (Nat.le_trans (Nat.le_of_ble_eq_true rfl) hd) (hS.le (Nat.le_of_ble_eq_true rfl)) (hR.le (Nat.le_of_ble_eq_true rfl))  (cf_61_0 230 3780 (v1 + 8) 4 N) 0 99 trivial hq) ?_
      refine g_zeq (tg := 77) rfl ms_400_77 hC (fun h9 hC => ?_) (fun h9 hC => ?_)
      · have hp := hp.1 h9
        refine g_aload_n rfl (g_iload_n rfl (g_bipush mzb_12 (g_iadd ?_)))
        obtain ⟨h10, hp⟩ := hp
        refine g_iald hS.1 (mz_at hS (Nat.le_of_ble_eq_true rfl) mzcS_230) h10 (g_iconst mzi_2 ?_)
        refine g_icge (tg := 77) rfl ms_400_77 hC (fun h11 hC => ?_) (fun h11 hC => ?_)
        · have hp := hp.1 h11
          refine g_aload_n rfl (g_iload_n rfl (g_bipush mzb_13 ?_))
          have h12 := hp
          refine g_s3v (Nat.le_of_ble_eq_true rfl) (fun _ hq => cs_75 (Nat.le_trans (Nat.le_of_ble_eq_true rfl) hd) (hS.le (Nat.le_of_ble_eq_true rfl)) (hR.le (Nat.le_of_ble_eq_true rfl)) 230 (mz_at hS (Nat.le_of_ble_eq_true rfl) mzcS_230) v1 13 N h12 hq) ?_
          refine g_zeq (tg := 77) rfl ms_400_77 hC (fun h13 hC => ?_) (fun h13 hC => ?_)
          · refine g_iconst mzi_1 (g_goto (tg := 78) rfl ms_400_78 ?_)
            exact g_zret (z := true) rfl (hr _ hC)
          · refine g_iconst mzi_0 ?_
            exact g_zret (z := false) rfl (hr _ hC)
        · have hp := hp.2 h11
          refine g_iconst mzi_0 ?_
          exact g_zret (z := false) rfl (hr _ hC)
      · have hp := hp.2 h9
        refine g_iconst mzi_0 ?_
        exact g_zret (z := false) rfl (hr _ hC)
    · have hp := hp.2 h6
      refine g_iconst mzi_0 ?_
      exact g_zret (z := false) rfl (hr _ hC)
  · have hp := hp.2 h3
    refine g_iconst mzi_0 ?_
    exact g_zret (z := false) rfl (hr _ hC)
theorem cs_400 (hd : 2 ≤ d) (hS : mz_extR S 232) (hR : mz_rok R 232)  (v1 : Int32) (N : mz_N) (hp : cp_400_0 v1 N) (hq : Q (.inl (some (.int (mz_b01 (cf_400_0 v1 N))))) (mz_k S R N b t)) : mz_Ed (mz_X0 L xs) d 400 [.ref 230, .int v1] (mz_k S R N b t) Q :=
  by
  refine g_in mzq_400 (Nat.le_of_ble_eq_true rfl) (Nat.le_of_ble_eq_true rfl) (Nat.le_trans (Nat.le_of_ble_eq_true rfl) hd) ?_
  refine g_weak ?_ (cg_400_0 (d := d - 1) (by omega) hS hR v1 N (C0 := fun z => Q (.inl (some (.int (mz_b01 z)))) (mz_k S R N b t)) (fun _ h => h) hp hq)
  exact ⟨rfl, rfl, trivial⟩
end Fn18
