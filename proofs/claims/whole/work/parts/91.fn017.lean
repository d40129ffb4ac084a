/-! THE FUNCTIONS: written by program: each method comes to its function. -/
section Fn17
variable {L : Nat} {xs : Nat → Int32} {d : Nat} {S : mz_S} {R : Nat → Nat → Option Nat} {Q : mz_Q} {N : mz_N} {b : Bool} {t : Nat}
/-! 358 KeptHouse.account (II)J -/
theorem ms_358_0 : mz_sf mk_358 0 = mk_358 := mz_sf_zero _
theorem ms_358_21 : mz_sf mk_358 21 = mt_358_21 := mz_sf_add ms_358_0 (t := 21) rfl rfl
theorem ms_358_33 : mz_sf mk_358 33 = mt_358_33 := mz_sf_add ms_358_21 (t := 12) rfl rfl
theorem ms_358_42 : mz_sf mk_358 42 = mt_358_42 := mz_sf_add ms_358_33 (t := 9) rfl rfl
set_option maxRecDepth 100000 in
theorem mzq_358 : mz_PG0 358 = some (11, ⟨"KeptHouse", "account", "(II)J"⟩, prog_1_method_58_code, 3, some .long, [], mk_358, []) := rfl
theorem cg_358_0 (hd : 1 ≤ d) (hS : mz_ext S 232) (hR : mz_rok R 232)  (v1 : Int32) (v2 : Int32) (N : mz_N) {C0 : (Nat × Int64) → Prop} (hr : ∀ (w : Int64), C0 (0, w) → Q (.inl (some (.long w))) (mz_k S R N b t)) (ht : ∀ (c : Nat) (w : Int64), ¬ c = 0 → C0 (c, w) → Q (.inr (c - 1)) (mz_k S R N b (t + 1))) (h1000 : t < 1000) (hp : cp_358_0 v1 v2 N) (hC : C0 (cf_358_0 v1 v2 N)) : mz_G (d, mz_X0 L xs, some .long, [], mk_358, 3, Q) 0 mk_358 [(0, .ref 0), (1, .int v1), (2, .int v2)] [] true (mz_k S R N b t) := by
  unfold cf_358_0 at hC
  unfold cp_358_0 at hp
  refine g_aload_n rfl ?_
  obtain ⟨h1, hp⟩ := hp
  refine g_v1nt (Nat.le_of_ble_eq_true rfl) (mz_at hS (Nat.le_of_ble_eq_true rfl) mzcS_0) rfl (fun _ h0 h1 => cs_104 (Nat.le_trans (Nat.le_of_ble_eq_true rfl) hd) (hS.le (Nat.le_of_ble_eq_true rfl)) (hR.le (Nat.le_of_ble_eq_true rfl))  N h1 h1000 h0 h1) hC (fun h9 hC => ?_) (fun h9 hC => ?_)
  · have hp := hp.1 h9
    refine g_iload_n rfl (g_iconst mzi_0 (g_bipush mzb_9 ?_))
    obtain ⟨h2, hp⟩ := hp
    refine g_s3nt (Nat.le_of_ble_eq_true rfl) rfl (fun _ h0 h1 => cs_105 (Nat.le_trans (Nat.le_of_ble_eq_true rfl) hd) (hS.le (Nat.le_of_ble_eq_true rfl)) (hR.le (Nat.le_of_ble_eq_true rfl))  v1 0 9 h2 h1000 h0 h1) hC (fun h8 hC => ?_) (fun h8 hC => ?_)
    · have hp := hp.1 h8
      refine g_iload_n rfl (g_iconst mzi_0 (g_iconst mzi_1 ?_))
      obtain ⟨h3, hp⟩ := hp
      refine g_s3nt (Nat.le_of_ble_eq_true rfl) rfl (fun _ h0 h1 => cs_105 (Nat.le_trans (Nat.le_of_ble_eq_true rfl) hd) (hS.le (Nat.le_of_ble_eq_true rfl)) (hR.le (Nat.le_of_ble_eq_true rfl))  v2 0 1 h3 h1000 h0 h1) hC (fun h7 hC => ?_) (fun h7 hC => ?_)
      · have hp := hp.1 h7
        refine g_iload_n rfl ?_
        refine g_ifne (tg := 33) rfl ms_358_33 hC (fun h4 hC => ?_) (fun h4 hC => ?_)
        · have hp := hp.1 h4
          refine g_aload_n rfl (g_getR (mz_at hS (Nat.le_of_ble_eq_true rfl) mzcS_0) mzcf_11_8 (mz_rb hR (Nat.le_of_ble_eq_true rfl) rfl mzcR_0_8) (g_getR (mz_at hS (Nat.le_of_ble_eq_true rfl) mzcS_208) mzcf_1_6 (mz_rb hR (Nat.le_of_ble_eq_true rfl) rfl mzcR_208_6) (g_iload_n rfl ?_)))
          have h5 := hp
          refine g_lald (mz_at hS (Nat.le_of_ble_eq_true rfl) mzcS_213) h5 (g_goto (tg := 42) rfl ms_358_42 ?_)
          exact g_lret rfl (hr _ hC)
        · have hp := hp.2 h4
          refine g_aload_n rfl (g_getR (mz_at hS (Nat.le_of_ble_eq_true rfl) mzcS_0) mzcf_11_8 (mz_rb hR (Nat.le_of_ble_eq_true rfl) rfl mzcR_0_8) (g_getR (mz_at hS (Nat.le_of_ble_eq_true rfl) mzcS_208) mzcf_1_7 (mz_rb hR (Nat.le_of_ble_eq_true rfl) rfl mzcR_208_7) (g_iload_n rfl ?_)))
          have h6 := hp
          refine g_lald (mz_at hS (Nat.le_of_ble_eq_true rfl) mzcS_214) h6 ?_
          exact g_lret rfl (hr _ hC)
      · have hp := hp.2 h7
        exact ht _ _ h7 hC
    · have hp := hp.2 h8
      exact ht _ _ h8 hC
  · have hp := hp.2 h9
    exact ht _ _ h9 hC
theorem cs_358 (hd : 2 ≤ d) (hS : mz_ext S 232) (hR : mz_rok R 232)  (v1 : Int32) (v2 : Int32) (N : mz_N) (hp : cp_358_0 v1 v2 N) (h1000 : t < 1000) (h0 : (cf_358_0 v1 v2 N).1 = 0 → Q (.inl (some (.long ((cf_358_0 v1 v2 N).2)))) (mz_k S R N b t)) (h1 : ¬ (cf_358_0 v1 v2 N).1 = 0 → Q (.inr (((cf_358_0 v1 v2 N).1) - 1)) (mz_k S R N b (t + 1))) : mz_Ed (mz_X0 L xs) d 358 [.ref 0, .int v1, .int v2] (mz_k S R N b t) Q :=
  by
  refine g_in mzq_358 (Nat.le_of_ble_eq_true rfl) (Nat.le_of_ble_eq_true rfl) (Nat.le_trans (Nat.le_of_ble_eq_true rfl) hd) ?_
  refine g_weak ?_ (cg_358_0 (d := d - 1) (by omega) hS hR v1 v2 N (C0 := fun z => (z.1 = 0 → Q (.inl (some (.long z.2))) (mz_k S R N b t)) ∧ (¬ z.1 = 0 → Q (.inr (z.1 - 1)) (mz_k S R N b (t + 1)))) (fun _ h => h.1 rfl) (fun c _ hc h => h.2 hc) h1000 hp ⟨h0, h1⟩)
  exact ⟨rfl, rfl, rfl, trivial⟩
/-! 357 KeptHouseLaw.account (LKeptHouse;II[J)I -/
theorem ms_357_0 : mz_sf mk_357 0 = mk_357 := mz_sf_zero _
theorem ms_357_14 : mz_sf mk_357 14 = mt_357_14 := mz_sf_add ms_357_0 (t := 14) rfl rfl
theorem ms_357_18 : mz_sf mk_357 18 = mt_357_18 := mz_sf_add ms_357_14 (t := 4) rfl rfl
theorem ms_357_20 : mz_sf mk_357 20 = mt_357_20 := mz_sf_add ms_357_18 (t := 2) rfl rfl
set_option maxRecDepth 100000 in
theorem mzq_357 : mz_PG0 357 = some (13, ⟨"KeptHouseLaw", "account", "(LKeptHouse;II[J)I"⟩, method_54_code, 5, some .int, [(0, 9, 12, 13), (0, 9, 16, 15)], mk_357, [(0, 12, 14), (1, 16, 18)]) := rfl
theorem cg_357_0 (hd : 2 ≤ d) (hS : mz_ext S 343) (hR : mz_rok R 343)  (v1 : Int32) (v2 : Int32) (N : mz_N) (t : Nat) {C0 : (Int32 × mz_N × Nat) → Prop} (hr : ∀ (w : Int32) (N2 : mz_N) (t2 : Nat), C0 (w, N2, t2) → Q (.inl (some (.int w))) (mz_k S R N2 b t2)) (hp : cp_357_0 v1 v2 N t) (hC : C0 (cf_357_0 v1 v2 N t)) : mz_G (d, mz_X0 L xs, some .int, [(0, 12, 14), (1, 16, 18)], mk_357, 5, Q) 0 mk_357 [(0, .ref 0), (1, .int v1), (2, .int v2), (3, .ref 342)] [] true (mz_k S R N b t) := by
  unfold cf_357_0 at hC
  unfold cp_357_0 at hp
  refine g_aload_n rfl (g_iconst mzi_0 (g_aload_n rfl (g_iload_n rfl (g_iload_n rfl ?_))))
  obtain ⟨h1, hp⟩ := hp
  obtain ⟨h1000, hp⟩ := hp
  refine g_v3vh (Nat.le_of_ble_eq_true rfl) (mz_at hS (Nat.le_of_ble_eq_true rfl) mzcS_0) (fun _ h0 h1 => cs_358 (Nat.le_trans (Nat.le_of_ble_eq_true rfl) hd) (hS.le (Nat.le_of_ble_eq_true rfl)) (hR.le (Nat.le_of_ble_eq_true rfl))  v1 v2 N h1 h1000 h0 h1) hC (fun h2 hC => ?_) (fun h2 hC => ?_)
  · have hp := hp.1 h2
    refine g_last (mz_at hS (Nat.le_of_ble_eq_true rfl) mzcS_342) (mz_ibd (by decide)) (g_goto (tg := 20) rfl ms_357_20 (g_iconst mzi_0 ?_))
    exact g_iret rfl (hr _ _ _ hC)
  · have hp := hp.2 h2
    refine mz_cs hC (fun h6 hC => ?_) (fun h6 hC => ?_)
    · have hp := hp.1 h6
      refine ⟨(0, 12, 14), (by rw [h6]; rfl), ?_⟩
      show mz_G (d, mz_X0 L xs, some .int, [(0, 12, 14), (1, 16, 18)], mk_357, 5, Q) 14 (mz_sf mk_357 14) [] [] false (mz_k S R N b (t + 1))
      rw [ms_357_14]
      refine g_iconst mzi_1 ?_
      exact g_iret rfl (hr _ _ _ hC)
    · have hp := hp.2 h6
      have h4 := hp
      refine ⟨(1, 16, 18), (by rw [h4]; rfl), ?_⟩
      show mz_G (d, mz_X0 L xs, some .int, [(0, 12, 14), (1, 16, 18)], mk_357, 5, Q) 18 (mz_sf mk_357 18) [] [] false (mz_k S R N b (t + 1))
      rw [ms_357_18]
      refine g_iconst mzi_2 ?_
      exact g_iret rfl (hr _ _ _ hC)
theorem cs_357 (hd : 3 ≤ d) (hS : mz_ext S 343) (hR : mz_rok R 343)  (v1 : Int32) (v2 : Int32) (N : mz_N) (t : Nat) (hp : cp_357_0 v1 v2 N t) (hq : Q (.inl (some (.int ((cf_357_0 v1 v2 N t).1)))) (mz_k S R ((cf_357_0 v1 v2 N t).2.1) b ((cf_357_0 v1 v2 N t).2.2))) : mz_Ed (mz_X0 L xs) d 357 [.ref 0, .int v1, .int v2, .ref 342] (mz_k S R N b t) Q :=
  by
  refine g_in mzq_357 (Nat.le_of_ble_eq_true rfl) (Nat.le_of_ble_eq_true rfl) (Nat.le_trans (Nat.le_of_ble_eq_true rfl) hd) ?_
  refine g_weak ?_ (cg_357_0 (d := d - 1) (by omega) hS hR v1 v2 N t (C0 := fun z => Q (.inl (some (.int z.1))) (mz_k S R z.2.1 b z.2.2)) (fun _ _ _ h => h) hp hq)
  exact ⟨rfl, rfl, rfl, rfl, trivial⟩
/-! 360 KeptHouse.money (I)J -/
theorem ms_360_0 : mz_sf mk_360 0 = mk_360 := mz_sf_zero _
theorem ms_360_44 : mz_sf mk_360 44 = mt_360_44 := mz_sf_add ms_360_0 (t := 44) rfl rfl
theorem ms_360_52 : mz_sf mk_360 52 = mt_360_52 := mz_sf_add ms_360_44 (t := 8) rfl rfl
theorem ms_360_61 : mz_sf mk_360 61 = mt_360_61 := mz_sf_add ms_360_52 (t := 9) rfl rfl
set_option maxRecDepth 100000 in
theorem mzq_360 : mz_PG0 360 = some (11, ⟨"KeptHouse", "money", "(I)J"⟩, prog_1_method_59_code, 2, some .long, [], mk_360, []) := rfl
theorem cg_360_0 (hd : 1 ≤ d) (hS : mz_ext S 232) (hR : mz_rok R 232)  (v1 : Int32) (N : mz_N) {C0 : (Nat × Int64) → Prop} (hr : ∀ (w : Int64), C0 (0, w) → Q (.inl (some (.long w))) (mz_k S R N b t)) (ht : ∀ (c : Nat) (w : Int64), ¬ c = 0 → C0 (c, w) → Q (.inr (c - 1)) (mz_k S R N b (t + 1))) (h1000 : t < 1000) (hp : cp_360_0 v1 N) (hC : C0 (cf_360_0 v1 N)) : mz_G (d, mz_X0 L xs, some .long, [], mk_360, 2, Q) 0 mk_360 [(0, .ref 0), (1, .int v1)] [] true (mz_k S R N b t) := by
  unfold cf_360_0 at hC
  unfold cp_360_0 at hp
  refine g_aload_n rfl ?_
  obtain ⟨h1, hp⟩ := hp
  refine g_v1nt (Nat.le_of_ble_eq_true rfl) (mz_at hS (Nat.le_of_ble_eq_true rfl) mzcS_0) rfl (fun _ h0 h1 => cs_104 (Nat.le_trans (Nat.le_of_ble_eq_true rfl) hd) (hS.le (Nat.le_of_ble_eq_true rfl)) (hR.le (Nat.le_of_ble_eq_true rfl))  N h1 h1000 h0 h1) hC (fun h7 hC => ?_) (fun h7 hC => ?_)
  · have hp := hp.1 h7
    refine g_iload_n rfl (g_iconst mzi_0 (g_iconst mzi_3 ?_))
    have h2 := hp
    refine g_s3nt (Nat.le_of_ble_eq_true rfl) rfl (fun _ h0 h1 => cs_105 (Nat.le_trans (Nat.le_of_ble_eq_true rfl) hd) (hS.le (Nat.le_of_ble_eq_true rfl)) (hR.le (Nat.le_of_ble_eq_true rfl))  v1 0 3 h2 h1000 h0 h1) hC (fun h6 hC => ?_) (fun h6 hC => ?_)
    · refine g_iload_n rfl ?_
      refine mz_cs hC (fun h3 hC => ?_) (fun h3 hC => ?_)
      · refine g_brn (tg := 36) (by rw [h3]; rfl) (by decide) rfl ?_
        refine g_aload_n rfl (g_getR (mz_at hS (Nat.le_of_ble_eq_true rfl) mzcS_0) mzcf_11_8 (mz_rb hR (Nat.le_of_ble_eq_true rfl) rfl mzcR_0_8) (g_getL (mz_at hS (Nat.le_of_ble_eq_true rfl) mzcS_208) mzcf_1_1 ?_))
        exact g_lret rfl (hr _ hC)
      · refine mz_cs hC (fun h4 hC => ?_) (fun h4 hC => ?_)
        · refine g_br (tg := 44) (by rw [h4]; rfl) ms_360_44 ?_
          refine g_aload_n rfl (g_getR (mz_at hS (Nat.le_of_ble_eq_true rfl) mzcS_0) mzcf_11_8 (mz_rb hR (Nat.le_of_ble_eq_true rfl) rfl mzcR_0_8) (g_getL (mz_at hS (Nat.le_of_ble_eq_true rfl) mzcS_208) mzcf_1_2 ?_))
          exact g_lret rfl (hr _ hC)
        · refine mz_cs hC (fun h5 hC => ?_) (fun h5 hC => ?_)
          · refine g_br (tg := 52) (by rw [h5]; rfl) ms_360_52 ?_
            refine g_aload_n rfl (g_getR (mz_at hS (Nat.le_of_ble_eq_true rfl) mzcS_0) mzcf_11_8 (mz_rb hR (Nat.le_of_ble_eq_true rfl) rfl mzcR_0_8) (g_getI (mz_at hS (Nat.le_of_ble_eq_true rfl) mzcS_208) mzcf_1_3 (g_i2l ?_)))
            exact g_lret rfl (hr _ hC)
          · refine g_br (tg := 61) ((mz_tsw_d (l := [0, 1, 2]) (mz_rng 0 2) ⟨h3, h4, h5, trivial⟩).trans (mz_tg_t rfl)) ms_360_61 ?_
            refine g_aload_n rfl (g_getR (mz_at hS (Nat.le_of_ble_eq_true rfl) mzcS_0) mzcf_11_8 (mz_rb hR (Nat.le_of_ble_eq_true rfl) rfl mzcR_0_8) (g_getI (mz_at hS (Nat.le_of_ble_eq_true rfl) mzcS_208) mzcf_1_4 (g_i2l ?_)))
            exact g_lret rfl (hr _ hC)
    · exact ht _ _ h6 hC
  · have hp := hp.2 h7
    exact ht _ _ h7 hC
theorem cs_360 (hd : 2 ≤ d) (hS : mz_ext S 232) (hR : mz_rok R 232)  (v1 : Int32) (N : mz_N) (hp : cp_360_0 v1 N) (h1000 : t < 1000) (h0 : (cf_360_0 v1 N).1 = 0 → Q (.inl (some (.long ((cf_360_0 v1 N).2)))) (mz_k S R N b t)) (h1 : ¬ (cf_360_0 v1 N).1 = 0 → Q (.inr (((cf_360_0 v1 N).1) - 1)) (mz_k S R N b (t + 1))) : mz_Ed (mz_X0 L xs) d 360 [.ref 0, .int v1] (mz_k S R N b t) Q :=
  by
  refine g_in mzq_360 (Nat.le_of_ble_eq_true rfl) (Nat.le_of_ble_eq_true rfl) (Nat.le_trans (Nat.le_of_ble_eq_true rfl) hd) ?_
  refine g_weak ?_ (cg_360_0 (d := d - 1) (by omega) hS hR v1 N (C0 := fun z => (z.1 = 0 → Q (.inl (some (.long z.2))) (mz_k S R N b t)) ∧ (¬ z.1 = 0 → Q (.inr (z.1 - 1)) (mz_k S R N b (t + 1)))) (fun _ h => h.1 rfl) (fun c _ hc h => h.2 hc) h1000 hp ⟨h0, h1⟩)
  exact ⟨rfl, rfl, trivial⟩
/-! 359 KeptHouseLaw.money (LKeptHouse;I[J)I -/
theorem ms_359_0 : mz_sf mk_359 0 = mk_359 := mz_sf_zero _
theorem ms_359_12 : mz_sf mk_359 12 = mt_359_12 := mz_sf_add ms_359_0 (t := 12) rfl rfl
theorem ms_359_15 : mz_sf mk_359 15 = mt_359_15 := mz_sf_add ms_359_12 (t := 3) rfl rfl
theorem ms_359_17 : mz_sf mk_359 17 = mt_359_17 := mz_sf_add ms_359_15 (t := 2) rfl rfl
set_option maxRecDepth 100000 in
theorem mzq_359 : mz_PG0 359 = some (13, ⟨"KeptHouseLaw", "money", "(LKeptHouse;I[J)I"⟩, method_55_code, 4, some .int, [(0, 8, 11, 13), (0, 8, 14, 15)], mk_359, [(0, 11, 12), (1, 14, 15)]) := rfl
theorem cg_359_0 (hd : 2 ≤ d) (hS : mz_ext S 343) (hR : mz_rok R 343)  (v1 : Int32) (N : mz_N) (t : Nat) {C0 : (Int32 × mz_N × Nat) → Prop} (hr : ∀ (w : Int32) (N2 : mz_N) (t2 : Nat), C0 (w, N2, t2) → Q (.inl (some (.int w))) (mz_k S R N2 b t2)) (hp : cp_359_0 v1 N t) (hC : C0 (cf_359_0 v1 N t)) : mz_G (d, mz_X0 L xs, some .int, [(0, 11, 12), (1, 14, 15)], mk_359, 4, Q) 0 mk_359 [(0, .ref 0), (1, .int v1), (2, .ref 342)] [] true (mz_k S R N b t) := by
  unfold cf_359_0 at hC
  unfold cp_359_0 at hp
  refine g_aload_n rfl (g_iconst mzi_0 (g_aload_n rfl (g_iload_n rfl ?_)))
  obtain ⟨h1, hp⟩ := hp
  obtain ⟨h1000, hp⟩ := hp
  refine g_v2vh (Nat.le_of_ble_eq_true rfl) (mz_at hS (Nat.le_of_ble_eq_true rfl) mzcS_0) (fun _ h0 h1 => cs_360 (Nat.le_trans (Nat.le_of_ble_eq_true rfl) hd) (hS.le (Nat.le_of_ble_eq_true rfl)) (hR.le (Nat.le_of_ble_eq_true rfl))  v1 N h1 h1000 h0 h1) hC (fun h2 hC => ?_) (fun h2 hC => ?_)
  · have hp := hp.1 h2
    refine g_last (mz_at hS (Nat.le_of_ble_eq_true rfl) mzcS_342) (mz_ibd (by decide)) (g_goto (tg := 17) rfl ms_359_17 (g_iconst mzi_0 ?_))
    exact g_iret rfl (hr _ _ _ hC)
  · have hp := hp.2 h2
    refine mz_cs hC (fun h6 hC => ?_) (fun h6 hC => ?_)
    · have hp := hp.1 h6
      refine ⟨(0, 11, 12), (by rw [h6]; rfl), ?_⟩
      show mz_G (d, mz_X0 L xs, some .int, [(0, 11, 12), (1, 14, 15)], mk_359, 4, Q) 12 (mz_sf mk_359 12) [] [] false (mz_k S R N b (t + 1))
      rw [ms_359_12]
      refine g_iconst mzi_1 ?_
      exact g_iret rfl (hr _ _ _ hC)
    · have hp := hp.2 h6
      have h4 := hp
      refine ⟨(1, 14, 15), (by rw [h4]; rfl), ?_⟩
      show mz_G (d, mz_X0 L xs, some .int, [(0, 11, 12), (1, 14, 15)], mk_359, 4, Q) 15 (mz_sf mk_359 15) [] [] false (mz_k S R N b (t + 1))
      rw [ms_359_15]
      refine g_iconst mzi_2 ?_
      exact g_iret rfl (hr _ _ _ hC)
theorem cs_359 (hd : 3 ≤ d) (hS : mz_ext S 343) (hR : mz_rok R 343)  (v1 : Int32) (N : mz_N) (t : Nat) (hp : cp_359_0 v1 N t) (hq : Q (.inl (some (.int ((cf_359_0 v1 N t).1)))) (mz_k S R ((cf_359_0 v1 N t).2.1) b ((cf_359_0 v1 N t).2.2))) : mz_Ed (mz_X0 L xs) d 359 [.ref 0, .int v1, .ref 342] (mz_k S R N b t) Q :=
  by
  refine g_in mzq_359 (Nat.le_of_ble_eq_true rfl) (Nat.le_of_ble_eq_true rfl) (Nat.le_trans (Nat.le_of_ble_eq_true rfl) hd) ?_
  refine g_weak ?_ (cg_359_0 (d := d - 1) (by omega) hS hR v1 N t (C0 := fun z => Q (.inl (some (.int z.1))) (mz_k S R z.2.1 b z.2.2)) (fun _ _ _ h => h) hp hq)
  exact ⟨rfl, rfl, rfl, trivial⟩
/-! 362 KeptHouse.pay (II)I -/
theorem ms_362_0 : mz_sf mk_362 0 = mk_362 := mz_sf_zero _
theorem ms_362_33 : mz_sf mk_362 33 = mt_362_33 := mz_sf_add ms_362_0 (t := 33) rfl rfl
theorem ms_362_64 : mz_sf mk_362 64 = mt_362_64 := mz_sf_add ms_362_33 (t := 31) rfl rfl
theorem ms_362_88 : mz_sf mk_362 88 = mt_362_88 := mz_sf_add ms_362_64 (t := 24) rfl rfl
theorem ms_362_91 : mz_sf mk_362 91 = mt_362_91 := mz_sf_add ms_362_88 (t := 3) rfl rfl
set_option maxRecDepth 100000 in
theorem mzq_362 : mz_PG0 362 = some (11, ⟨"KeptHouse", "pay", "(II)I"⟩, prog_1_method_60_code, 3, some .int, [], mk_362, []) := rfl
theorem cg_362_64 (hd : 4 ≤ d) (hS : mz_ext S 232) (hR : mz_rok R 232)  (N : mz_N) (b : Bool) {C0 : (Nat × Int32 × mz_N) → Prop} (hr : ∀ (w : Int32) (N2 : mz_N), C0 (0, w, N2) → Q (.inl (some (.int w))) (mz_k S R N2 b t)) (ht : ∀ (c : Nat) (w : Int32) (N2 : mz_N), ¬ c = 0 → C0 (c, w, N2) → Q (.inr (c - 1)) (mz_k S R N2 b (t + 1))) (h1000 : t < 1000) (hp : cp_362_64 N b) (hC : C0 (cf_362_64 N b)) : mz_G (d, mz_X0 L xs, some .int, [], mk_362, 3, Q) 64 mt_362_64 [(0, .ref 0)] [] false (mz_k S R N b t) := by
  unfold cf_362_64 at hC
  unfold cp_362_64 at hp
  refine g_aload_n rfl (g_getR (mz_at hS (Nat.le_of_ble_eq_true rfl) mzcS_0) mzcf_11_0 (mz_rb hR (Nat.le_of_ble_eq_true rfl) rfl mzcR_0_0) (g_bipush mzb_9 (g_iconst mzi_0 ?_)))
  obtain ⟨h1, hp⟩ := hp
  refine g_v3n (Nat.le_of_ble_eq_true rfl) (mz_at hS (Nat.le_of_ble_eq_true rfl) mzcS_1) (fun _ hq => cs_119 (Nat.le_trans (Nat.le_of_ble_eq_true rfl) hd) (hS.le (Nat.le_of_ble_eq_true rfl)) (hR.le (Nat.le_of_ble_eq_true rfl))  9 0 N h1 hq) (g_aload_n rfl (g_getR (mz_at hS (Nat.le_of_ble_eq_true rfl) mzcS_0) mzcf_11_0 (mz_rb hR (Nat.le_of_ble_eq_true rfl) rfl mzcR_0_0) ?_))
  have h2 := hp
  refine g_v1v (Nat.le_of_ble_eq_true rfl) (mz_at hS (Nat.le_of_ble_eq_true rfl) mzcS_1) (fun _ hq => cs_121 (Nat.le_trans (Nat.le_of_ble_eq_true rfl) hd) (hS.le (Nat.le_of_ble_eq_true rfl)) (hR.le (Nat.le_of_ble_eq_true rfl))  (cf_119_0 9 0 N) b h2 hq) ?_
  refine g_zeq (tg := 88) rfl ms_362_88 hC (fun h3 hC => ?_) (fun h3 hC => ?_)
  · refine g_iconst mzi_0 (g_goto (tg := 91) rfl ms_362_91 ?_)
    exact g_iret rfl (hr _ _ hC)
  · refine g_sipush mzs_m1001 ?_
    exact g_iret rfl (hr _ _ hC)
theorem cg_362_0 (hd : 4 ≤ d) (hS : mz_ext S 232) (hR : mz_rok R 232)  (v1 : Int32) (v2 : Int32) (N : mz_N) (b : Bool) {C0 : (Nat × Int32 × mz_N) → Prop} (hr : ∀ (w : Int32) (N2 : mz_N), C0 (0, w, N2) → Q (.inl (some (.int w))) (mz_k S R N2 b t)) (ht : ∀ (c : Nat) (w : Int32) (N2 : mz_N), ¬ c = 0 → C0 (c, w, N2) → Q (.inr (c - 1)) (mz_k S R N2 b (t + 1))) (h1000 : t < 1000) (hp : cp_362_0 v1 v2 N b) (hC : C0 (cf_362_0 v1 v2 N b)) : mz_G (d, mz_X0 L xs, some .int, [], mk_362, 3, Q) 0 mk_362 [(0, .ref 0), (1, .int v1), (2, .int v2)] [] true (mz_k S R N b t) := by
  unfold cf_362_0 at hC
  unfold cp_362_0 at hp
  refine g_aload_n rfl ?_
  obtain ⟨h1, hp⟩ := hp
  refine g_v1nt (Nat.le_of_ble_eq_true rfl) (mz_at hS (Nat.le_of_ble_eq_true rfl) mzcS_0) rfl (fun _ h0 h1 => cs_104 (Nat.le_trans (Nat.le_of_ble_eq_true rfl) hd) (hS.le (Nat.le_of_ble_eq_true rfl)) (hR.le (Nat.le_of_ble_eq_true rfl))  N h1 h1000 h0 h1) hC (fun h10 hC => ?_) (fun h10 hC => ?_)
  · have hp := hp.1 h10
    refine g_iload_n rfl (g_iconst mzi_0 (g_bipush mzb_9 ?_))
    obtain ⟨h2, hp⟩ := hp
    refine g_s3nt (Nat.le_of_ble_eq_true rfl) rfl (fun _ h0 h1 => cs_105 (Nat.le_trans (Nat.le_of_ble_eq_true rfl) hd) (hS.le (Nat.le_of_ble_eq_true rfl)) (hR.le (Nat.le_of_ble_eq_true rfl))  v1 0 9 h2 h1000 h0 h1) hC (fun h9 hC => ?_) (fun h9 hC => ?_)
    · have hp := hp.1 h9
      refine g_iload_n rfl (g_iconst mzi_1 (g_con3 ?_))
      obtain ⟨h3, hp⟩ := hp
      refine g_s3nt (Nat.le_of_ble_eq_true rfl) rfl (fun _ h0 h1 => cs_105 (Nat.le_trans (Nat.le_of_ble_eq_true rfl) hd) (hS.le (Nat.le_of_ble_eq_true rfl)) (hR.le (Nat.le_of_ble_eq_true rfl))  v2 1 100000000 h3 h1000 h0 h1) hC (fun h8 hC => ?_) (fun h8 hC => ?_)
      · have hp := hp.1 h8
        refine g_aload_n rfl (g_getR (mz_at hS (Nat.le_of_ble_eq_true rfl) mzcS_0) mzcf_11_8 (mz_rb hR (Nat.le_of_ble_eq_true rfl) rfl mzcR_0_8) (g_getR (mz_at hS (Nat.le_of_ble_eq_true rfl) mzcS_208) mzcf_1_6 (mz_rb hR (Nat.le_of_ble_eq_true rfl) rfl mzcR_208_6) (g_iload_n rfl (g_dup2 rfl rfl ?_))))
        obtain ⟨h4, hp⟩ := hp
        refine g_lald (mz_at hS (Nat.le_of_ble_eq_true rfl) mzcS_213) h4 (g_iload_n rfl (g_i2l (g_ladd ?_)))
        obtain ⟨h5, hp⟩ := hp
        refine g_last (mz_at hS (Nat.le_of_ble_eq_true rfl) mzcS_213) h5 (g_aload_n rfl (g_getR (mz_at hS (Nat.le_of_ble_eq_true rfl) mzcS_0) mzcf_11_8 (mz_rb hR (Nat.le_of_ble_eq_true rfl) rfl mzcR_0_8) (g_dup rfl (g_getL (mz_at hS (Nat.le_of_ble_eq_true rfl) mzcS_208) mzcf_1_1 (g_iload_n rfl (g_i2l (g_ladd ?_)))))))
        refine g_putL (mz_at hS (Nat.le_of_ble_eq_true rfl) mzcS_208) mzcf_1_1 (g_aload_n rfl (g_getR (mz_at hS (Nat.le_of_ble_eq_true rfl) mzcS_0) mzcf_11_0 (mz_rb hR (Nat.le_of_ble_eq_true rfl) rfl mzcR_0_0) ?_))
        refine g_v1n (Nat.le_of_ble_eq_true rfl) (mz_at hS (Nat.le_of_ble_eq_true rfl) mzcS_1) (fun _ hq => cs_117 (Nat.le_trans (Nat.le_of_ble_eq_true rfl) hd) (hS.le (Nat.le_of_ble_eq_true rfl)) (hR.le (Nat.le_of_ble_eq_true rfl))  (mz_pL (mz_wL N 213 v1 ((mz_gL N 213 v1) + v2.toInt64)) 208 1 (((mz_wL N 213 v1 ((mz_gL N 213 v1) + v2.toInt64)).2 208 1) + v2.toInt64)) trivial hq) (g_aload_n rfl (g_getR (mz_at hS (Nat.le_of_ble_eq_true rfl) mzcS_0) mzcf_11_0 (mz_rb hR (Nat.le_of_ble_eq_true rfl) rfl mzcR_0_0) (g_bipush mzb_8 (g_iload_n rfl ?_))))
        obtain ⟨h7, hp⟩ := hp
        refine g_v3n (Nat.le_of_ble_eq_true rfl) (mz_at hS (Nat.le_of_ble_eq_true rfl) mzcS_1) (fun _ hq => cs_119 (Nat.le_trans (Nat.le_of_ble_eq_true rfl) hd) (hS.le (Nat.le_of_ble_eq_true rfl)) (hR.le (Nat.le_of_ble_eq_true rfl))  8 v1 (cf_117_0 (mz_pL (mz_wL N 213 v1 ((mz_gL N 213 v1) + v2.toInt64)) 208 1 (((mz_wL N 213 v1 ((mz_gL N 213 v1) + v2.toInt64)).2 208 1) + v2.toInt64))) h7 hq) ?_
        refine g_weak ?_ (g_cl (cg_362_64 hd hS hR (cf_119_0 8 v1 (cf_117_0 (mz_pL (mz_wL N 213 v1 ((mz_gL N 213 v1) + v2.toInt64)) 208 1 (((mz_wL N 213 v1 ((mz_gL N 213 v1) + v2.toInt64)).2 208 1) + v2.toInt64)))) b hr ht h1000 hp hC))
        exact ⟨rfl, trivial⟩
      · have hp := hp.2 h8
        exact ht _ _ _ h8 hC
    · have hp := hp.2 h9
      exact ht _ _ _ h9 hC
  · have hp := hp.2 h10
    exact ht _ _ _ h10 hC
theorem cs_362 (hd : 5 ≤ d) (hS : mz_ext S 232) (hR : mz_rok R 232)  (v1 : Int32) (v2 : Int32) (N : mz_N) (b : Bool) (hp : cp_362_0 v1 v2 N b) (h1000 : t < 1000) (h0 : (cf_362_0 v1 v2 N b).1 = 0 → Q (.inl (some (.int ((cf_362_0 v1 v2 N b).2.1)))) (mz_k S R ((cf_362_0 v1 v2 N b).2.2) b t)) (h1 : ¬ (cf_362_0 v1 v2 N b).1 = 0 → Q (.inr (((cf_362_0 v1 v2 N b).1) - 1)) (mz_k S R ((cf_362_0 v1 v2 N b).2.2) b (t + 1))) : mz_Ed (mz_X0 L xs) d 362 [.ref 0, .int v1, .int v2] (mz_k S R N b t) Q :=
  by
  refine g_in mzq_362 (Nat.le_of_ble_eq_true rfl) (Nat.le_of_ble_eq_true rfl) (Nat.le_trans (Nat.le_of_ble_eq_true rfl) hd) ?_
  refine g_weak ?_ (cg_362_0 (d := d - 1) (by omega) hS hR v1 v2 N b (C0 := fun z => (z.1 = 0 → Q (.inl (some (.int z.2.1))) (mz_k S R z.2.2 b t)) ∧ (¬ z.1 = 0 → Q (.inr (z.1 - 1)) (mz_k S R z.2.2 b (t + 1)))) (fun _ _ h => h.1 rfl) (fun c _ _ hc h => h.2 hc) h1000 hp ⟨h0, h1⟩)
  exact ⟨rfl, rfl, rfl, trivial⟩
/-! 361 KeptHouseLaw.pay (LKeptHouse;II[J)I -/
theorem ms_361_0 : mz_sf mk_361 0 = mk_361 := mz_sf_zero _
theorem ms_361_15 : mz_sf mk_361 15 = mt_361_15 := mz_sf_add ms_361_0 (t := 15) rfl rfl
theorem ms_361_19 : mz_sf mk_361 19 = mt_361_19 := mz_sf_add ms_361_15 (t := 4) rfl rfl
theorem ms_361_21 : mz_sf mk_361 21 = mt_361_21 := mz_sf_add ms_361_19 (t := 2) rfl rfl
set_option maxRecDepth 100000 in
theorem mzq_361 : mz_PG0 361 = some (13, ⟨"KeptHouseLaw", "pay", "(LKeptHouse;II[J)I"⟩, method_56_code, 5, some .int, [(0, 10, 13, 13), (0, 10, 17, 15)], mk_361, [(0, 13, 15), (1, 17, 19)]) := rfl
theorem cg_361_21 (hd : 5 ≤ d) (hS : mz_ext S 343) (hR : mz_rok R 343)  (N : mz_N) (b : Bool) (t : Nat) {C0 : (Int32 × mz_N × Nat) → Prop} (hr : ∀ (w : Int32) (N2 : mz_N) (t2 : Nat), C0 (w, N2, t2) → Q (.inl (some (.int w))) (mz_k S R N2 b t2)) (hp : cp_361_21 N b t) (hC : C0 (cf_361_21 N b t)) : mz_G (d, mz_X0 L xs, some .int, [(0, 13, 15), (1, 17, 19)], mk_361, 5, Q) 21 mt_361_21 [] [] false (mz_k S R N b t) := by
  unfold cf_361_21 at hC
  unfold cp_361_21 at hp
  refine g_iconst mzi_0 ?_
  exact g_iret rfl (hr _ _ _ hC)
theorem cg_361_0 (hd : 5 ≤ d) (hS : mz_ext S 343) (hR : mz_rok R 343)  (v1 : Int32) (v2 : Int32) (N : mz_N) (b : Bool) (t : Nat) {C0 : (Int32 × mz_N × Nat) → Prop} (hr : ∀ (w : Int32) (N2 : mz_N) (t2 : Nat), C0 (w, N2, t2) → Q (.inl (some (.int w))) (mz_k S R N2 b t2)) (hp : cp_361_0 v1 v2 N b t) (hC : C0 (cf_361_0 v1 v2 N b t)) : mz_G (d, mz_X0 L xs, some .int, [(0, 13, 15), (1, 17, 19)], mk_361, 5, Q) 0 mk_361 [(0, .ref 0), (1, .int v1), (2, .int v2), (3, .ref 342)] [] true (mz_k S R N b t) := by
  unfold cf_361_0 at hC
  unfold cp_361_0 at hp
  refine g_aload_n rfl (g_iconst mzi_0 (g_aload_n rfl (g_iload_n rfl (g_iload_n rfl ?_))))
  obtain ⟨h1, hp⟩ := hp
  obtain ⟨h1000, hp⟩ := hp
  refine g_v3vh (Nat.le_of_ble_eq_true rfl) (mz_at hS (Nat.le_of_ble_eq_true rfl) mzcS_0) (fun _ h0 h1 => cs_362 (Nat.le_trans (Nat.le_of_ble_eq_true rfl) hd) (hS.le (Nat.le_of_ble_eq_true rfl)) (hR.le (Nat.le_of_ble_eq_true rfl))  v1 v2 N b h1 h1000 h0 h1) hC (fun h2 hC => ?_) (fun h2 hC => ?_)
  · have hp := hp.1 h2
    refine g_i2l (g_last (mz_at hS (Nat.le_of_ble_eq_true rfl) mzcS_342) (mz_ibd (by decide)) (g_goto (tg := 21) rfl ms_361_21 ?_))
    refine g_weak ?_ (g_cl (cg_361_21 hd hS hR (mz_wL ((cf_362_0 v1 v2 N b).2.2) 342 0 (((cf_362_0 v1 v2 N b).2.1).toInt64)) b t hr hp hC))
    exact trivial
  · have hp := hp.2 h2
    refine mz_cs hC (fun h6 hC => ?_) (fun h6 hC => ?_)
    · have hp := hp.1 h6
      refine ⟨(0, 13, 15), (by rw [h6]; rfl), ?_⟩
      show mz_G (d, mz_X0 L xs, some .int, [(0, 13, 15), (1, 17, 19)], mk_361, 5, Q) 15 (mz_sf mk_361 15) [] [] false (mz_k S R ((cf_362_0 v1 v2 N b).2.2) b (t + 1))
      rw [ms_361_15]
      refine g_iconst mzi_1 ?_
      exact g_iret rfl (hr _ _ _ hC)
    · have hp := hp.2 h6
      have h4 := hp
      refine ⟨(1, 17, 19), (by rw [h4]; rfl), ?_⟩
      show mz_G (d, mz_X0 L xs, some .int, [(0, 13, 15), (1, 17, 19)], mk_361, 5, Q) 19 (mz_sf mk_361 19) [] [] false (mz_k S R ((cf_362_0 v1 v2 N b).2.2) b (t + 1))
      rw [ms_361_19]
      refine g_iconst mzi_2 ?_
      exact g_iret rfl (hr _ _ _ hC)
theorem cs_361 (hd : 6 ≤ d) (hS : mz_ext S 343) (hR : mz_rok R 343)  (v1 : Int32) (v2 : Int32) (N : mz_N) (b : Bool) (t : Nat) (hp : cp_361_0 v1 v2 N b t) (hq : Q (.inl (some (.int ((cf_361_0 v1 v2 N b t).1)))) (mz_k S R ((cf_361_0 v1 v2 N b t).2.1) b ((cf_361_0 v1 v2 N b t).2.2))) : mz_Ed (mz_X0 L xs) d 361 [.ref 0, .int v1, .int v2, .ref 342] (mz_k S R N b t) Q :=
  by
  refine g_in mzq_361 (Nat.le_of_ble_eq_true rfl) (Nat.le_of_ble_eq_true rfl) (Nat.le_trans (Nat.le_of_ble_eq_true rfl) hd) ?_
  refine g_weak ?_ (cg_361_0 (d := d - 1) (by omega) hS hR v1 v2 N b t (C0 := fun z => Q (.inl (some (.int z.1))) (mz_k S R z.2.1 b z.2.2)) (fun _ _ _ h => h) hp hq)
  exact ⟨rfl, rfl, rfl, rfl, trivial⟩
/-! 364 KeptHouse.crash (I)V -/
theorem ms_364_0 : mz_sf mk_364 0 = mk_364 := mz_sf_zero _
set_option maxRecDepth 100000 in
theorem mzq_364 : mz_PG0 364 = some (11, ⟨"KeptHouse", "crash", "(I)V"⟩, prog_1_method_61_code, 2, none, [], mk_364, []) := rfl
theorem cg_364_0 (hd : 1 ≤ d) (hS : mz_ext S 232) (hR : mz_rok R 232)  (v1 : Int32) (N : mz_N) {C0 : (Nat × mz_N) → Prop} (hr : ∀ (N2 : mz_N), C0 (0, N2) → Q (.inl none) (mz_k S R N2 b t)) (ht : ∀ (c : Nat) (N2 : mz_N), ¬ c = 0 → C0 (c, N2) → Q (.inr (c - 1)) (mz_k S R N2 b (t + 1))) (h1000 : t < 1000) (hp : cp_364_0 v1 N) (hC : C0 (cf_364_0 v1 N)) : mz_G (d, mz_X0 L xs, none, [], mk_364, 2, Q) 0 mk_364 [(0, .ref 0), (1, .int v1)] [] true (mz_k S R N b t) := by
  unfold cf_364_0 at hC
  unfold cp_364_0 at hp
  refine g_aload_n rfl ?_
  obtain ⟨h1, hp⟩ := hp
  refine g_v1nt (Nat.le_of_ble_eq_true rfl) (mz_at hS (Nat.le_of_ble_eq_true rfl) mzcS_0) rfl (fun _ h0 h1 => cs_104 (Nat.le_trans (Nat.le_of_ble_eq_true rfl) hd) (hS.le (Nat.le_of_ble_eq_true rfl)) (hR.le (Nat.le_of_ble_eq_true rfl))  N h1 h1000 h0 h1) hC (fun h4 hC => ?_) (fun h4 hC => ?_)
  · have hp := hp.1 h4
    refine g_iload_n rfl (g_iconst mzi_m1 (g_sipush mzs_1000 ?_))
    have h2 := hp
    refine g_s3nt (Nat.le_of_ble_eq_true rfl) rfl (fun _ h0 h1 => cs_105 (Nat.le_trans (Nat.le_of_ble_eq_true rfl) hd) (hS.le (Nat.le_of_ble_eq_true rfl)) (hR.le (Nat.le_of_ble_eq_true rfl))  v1 (-1) 1000 h2 h1000 h0 h1) hC (fun h3 hC => ?_) (fun h3 hC => ?_)
    · refine g_aload_n rfl (g_getR (mz_at hS (Nat.le_of_ble_eq_true rfl) mzcS_0) mzcf_11_9 (mz_rb hR (Nat.le_of_ble_eq_true rfl) rfl mzcR_0_9) (g_iload_n rfl (g_putI (mz_at hS (Nat.le_of_ble_eq_true rfl) mzcS_219) mzcf_8_8 ?_)))
      exact g_vret rfl (hr _ hC)
    · exact ht _ _ h3 hC
  · have hp := hp.2 h4
    exact ht _ _ h4 hC
theorem cs_364 (hd : 2 ≤ d) (hS : mz_ext S 232) (hR : mz_rok R 232)  (v1 : Int32) (N : mz_N) (hp : cp_364_0 v1 N) (h1000 : t < 1000) (h0 : (cf_364_0 v1 N).1 = 0 → Q (.inl none) (mz_k S R ((cf_364_0 v1 N).2) b t)) (h1 : ¬ (cf_364_0 v1 N).1 = 0 → Q (.inr (((cf_364_0 v1 N).1) - 1)) (mz_k S R ((cf_364_0 v1 N).2) b (t + 1))) : mz_Ed (mz_X0 L xs) d 364 [.ref 0, .int v1] (mz_k S R N b t) Q :=
  by
  refine g_in mzq_364 (Nat.le_of_ble_eq_true rfl) (Nat.le_of_ble_eq_true rfl) (Nat.le_trans (Nat.le_of_ble_eq_true rfl) hd) ?_
  refine g_weak ?_ (cg_364_0 (d := d - 1) (by omega) hS hR v1 N (C0 := fun z => (z.1 = 0 → Q (.inl none) (mz_k S R z.2 b t)) ∧ (¬ z.1 = 0 → Q (.inr (z.1 - 1)) (mz_k S R z.2 b (t + 1)))) (fun _ h => h.1 rfl) (fun c _ hc h => h.2 hc) h1000 hp ⟨h0, h1⟩)
  exact ⟨rfl, rfl, trivial⟩
/-! 363 KeptHouseLaw.crash (LKeptHouse;I)I -/
theorem ms_363_0 : mz_sf mk_363 0 = mk_363 := mz_sf_zero _
theorem ms_363_9 : mz_sf mk_363 9 = mt_363_9 := mz_sf_add ms_363_0 (t := 9) rfl rfl
theorem ms_363_12 : mz_sf mk_363 12 = mt_363_12 := mz_sf_add ms_363_9 (t := 3) rfl rfl
theorem ms_363_14 : mz_sf mk_363 14 = mt_363_14 := mz_sf_add ms_363_12 (t := 2) rfl rfl
set_option maxRecDepth 100000 in
theorem mzq_363 : mz_PG0 363 = some (13, ⟨"KeptHouseLaw", "crash", "(LKeptHouse;I)I"⟩, method_57_code, 3, some .int, [(0, 5, 8, 13), (0, 5, 11, 15)], mk_363, [(0, 8, 9), (1, 11, 12)]) := rfl
theorem cg_363_0 (hd : 2 ≤ d) (hS : mz_ext S 343) (hR : mz_rok R 343)  (v1 : Int32) (N : mz_N) (t : Nat) {C0 : (Int32 × mz_N × Nat) → Prop} (hr : ∀ (w : Int32) (N2 : mz_N) (t2 : Nat), C0 (w, N2, t2) → Q (.inl (some (.int w))) (mz_k S R N2 b t2)) (hp : cp_363_0 v1 N t) (hC : C0 (cf_363_0 v1 N t)) : mz_G (d, mz_X0 L xs, some .int, [(0, 8, 9), (1, 11, 12)], mk_363, 3, Q) 0 mk_363 [(0, .ref 0), (1, .int v1)] [] true (mz_k S R N b t) := by
  unfold cf_363_0 at hC
  unfold cp_363_0 at hp
  refine g_aload_n rfl (g_iload_n rfl ?_)
  obtain ⟨h1, hp⟩ := hp
  obtain ⟨h1000, hp⟩ := hp
  refine g_v2nh (Nat.le_of_ble_eq_true rfl) (mz_at hS (Nat.le_of_ble_eq_true rfl) mzcS_0) (fun _ h0 h1 => cs_364 (Nat.le_trans (Nat.le_of_ble_eq_true rfl) hd) (hS.le (Nat.le_of_ble_eq_true rfl)) (hR.le (Nat.le_of_ble_eq_true rfl))  v1 N h1 h1000 h0 h1) hC (fun h2 hC => ?_) (fun h2 hC => ?_)
  · have hp := hp.1 h2
    refine g_goto (tg := 14) rfl ms_363_14 (g_iconst mzi_0 ?_)
    exact g_iret rfl (hr _ _ _ hC)
  · have hp := hp.2 h2
    refine mz_cs hC (fun h6 hC => ?_) (fun h6 hC => ?_)
    · have hp := hp.1 h6
      refine ⟨(0, 8, 9), (by rw [h6]; rfl), ?_⟩
      show mz_G (d, mz_X0 L xs, some .int, [(0, 8, 9), (1, 11, 12)], mk_363, 3, Q) 9 (mz_sf mk_363 9) [] [] false (mz_k S R ((cf_364_0 v1 N).2) b (t + 1))
      rw [ms_363_9]
      refine g_iconst mzi_1 ?_
      exact g_iret rfl (hr _ _ _ hC)
    · have hp := hp.2 h6
      have h4 := hp
      refine ⟨(1, 11, 12), (by rw [h4]; rfl), ?_⟩
      show mz_G (d, mz_X0 L xs, some .int, [(0, 8, 9), (1, 11, 12)], mk_363, 3, Q) 12 (mz_sf mk_363 12) [] [] false (mz_k S R ((cf_364_0 v1 N).2) b (t + 1))
      rw [ms_363_12]
      refine g_iconst mzi_2 ?_
      exact g_iret rfl (hr _ _ _ hC)
theorem cs_363 (hd : 3 ≤ d) (hS : mz_ext S 343) (hR : mz_rok R 343)  (v1 : Int32) (N : mz_N) (t : Nat) (hp : cp_363_0 v1 N t) (hq : Q (.inl (some (.int ((cf_363_0 v1 N t).1)))) (mz_k S R ((cf_363_0 v1 N t).2.1) b ((cf_363_0 v1 N t).2.2))) : mz_Ed (mz_X0 L xs) d 363 [.ref 0, .int v1] (mz_k S R N b t) Q :=
  by
  refine g_in mzq_363 (Nat.le_of_ble_eq_true rfl) (Nat.le_of_ble_eq_true rfl) (Nat.le_trans (Nat.le_of_ble_eq_true rfl) hd) ?_
  refine g_weak ?_ (cg_363_0 (d := d - 1) (by omega) hS hR v1 N t (C0 := fun z => Q (.inl (some (.int z.1))) (mz_k S R z.2.1 b z.2.2)) (fun _ _ _ h => h) hp hq)
  exact ⟨rfl, rfl, trivial⟩
/-! 366 KeptHouse.rows (I)I -/
theorem ms_366_0 : mz_sf mk_366 0 = mk_366 := mz_sf_zero _
theorem ms_366_44 : mz_sf mk_366 44 = mt_366_44 := mz_sf_add ms_366_0 (t := 44) rfl rfl
theorem ms_366_52 : mz_sf mk_366 52 = mt_366_52 := mz_sf_add ms_366_44 (t := 8) rfl rfl
theorem ms_366_60 : mz_sf mk_366 60 = mt_366_60 := mz_sf_add ms_366_52 (t := 8) rfl rfl
set_option maxRecDepth 100000 in
theorem mzq_366 : mz_PG0 366 = some (11, ⟨"KeptHouse", "rows", "(I)I"⟩, prog_1_method_64_code, 2, some .int, [], mk_366, []) := rfl
theorem cg_366_0 (hd : 1 ≤ d) (hS : mz_ext S 232) (hR : mz_rok R 232)  (v1 : Int32) (N : mz_N) {C0 : (Nat × Int32) → Prop} (hr : ∀ (w : Int32), C0 (0, w) → Q (.inl (some (.int w))) (mz_k S R N b t)) (ht : ∀ (c : Nat) (w : Int32), ¬ c = 0 → C0 (c, w) → Q (.inr (c - 1)) (mz_k S R N b (t + 1))) (h1000 : t < 1000) (hp : cp_366_0 v1 N) (hC : C0 (cf_366_0 v1 N)) : mz_G (d, mz_X0 L xs, some .int, [], mk_366, 2, Q) 0 mk_366 [(0, .ref 0), (1, .int v1)] [] true (mz_k S R N b t) := by
  unfold cf_366_0 at hC
  unfold cp_366_0 at hp
  refine g_aload_n rfl ?_
  obtain ⟨h1, hp⟩ := hp
  refine g_v1nt (Nat.le_of_ble_eq_true rfl) (mz_at hS (Nat.le_of_ble_eq_true rfl) mzcS_0) rfl (fun _ h0 h1 => cs_104 (Nat.le_trans (Nat.le_of_ble_eq_true rfl) hd) (hS.le (Nat.le_of_ble_eq_true rfl)) (hR.le (Nat.le_of_ble_eq_true rfl))  N h1 h1000 h0 h1) hC (fun h8 hC => ?_) (fun h8 hC => ?_)
  · have hp := hp.1 h8
    refine g_iload_n rfl (g_iconst mzi_0 (g_iconst mzi_3 ?_))
    obtain ⟨h2, hp⟩ := hp
    refine g_s3nt (Nat.le_of_ble_eq_true rfl) rfl (fun _ h0 h1 => cs_105 (Nat.le_trans (Nat.le_of_ble_eq_true rfl) hd) (hS.le (Nat.le_of_ble_eq_true rfl)) (hR.le (Nat.le_of_ble_eq_true rfl))  v1 0 3 h2 h1000 h0 h1) hC (fun h7 hC => ?_) (fun h7 hC => ?_)
    · have hp := hp.1 h7
      refine g_iload_n rfl ?_
      refine mz_cs hC (fun h3 hC => ?_) (fun h3 hC => ?_)
      · have hp := hp.1 h3
        refine g_brn (tg := 36) (by rw [h3]; rfl) (by decide) rfl ?_
        refine g_aload_n rfl (g_getR (mz_at hS (Nat.le_of_ble_eq_true rfl) mzcS_0) mzcf_11_9 (mz_rb hR (Nat.le_of_ble_eq_true rfl) rfl mzcR_0_9) (g_getI (mz_at hS (Nat.le_of_ble_eq_true rfl) mzcS_219) mzcf_8_4 ?_))
        exact g_iret rfl (hr _ hC)
      · have hp := hp.2 h3
        refine mz_cs hC (fun h4 hC => ?_) (fun h4 hC => ?_)
        · have hp := hp.1 h4
          refine g_br (tg := 44) (by rw [h4]; rfl) ms_366_44 ?_
          refine g_aload_n rfl (g_getR (mz_at hS (Nat.le_of_ble_eq_true rfl) mzcS_0) mzcf_11_9 (mz_rb hR (Nat.le_of_ble_eq_true rfl) rfl mzcR_0_9) (g_getI (mz_at hS (Nat.le_of_ble_eq_true rfl) mzcS_219) mzcf_8_5 ?_))
          exact g_iret rfl (hr _ hC)
        · have hp := hp.2 h4
          refine mz_cs hC (fun h5 hC => ?_) (fun h5 hC => ?_)
          · have hp := hp.1 h5
            refine g_br (tg := 52) (by rw [h5]; rfl) ms_366_52 ?_
            refine g_aload_n rfl (g_getR (mz_at hS (Nat.le_of_ble_eq_true rfl) mzcS_0) mzcf_11_9 (mz_rb hR (Nat.le_of_ble_eq_true rfl) rfl mzcR_0_9) (g_getI (mz_at hS (Nat.le_of_ble_eq_true rfl) mzcS_219) mzcf_8_6 ?_))
            exact g_iret rfl (hr _ hC)
          · have hp := hp.2 h5
            refine g_br (tg := 60) ((mz_tsw_d (l := [0, 1, 2]) (mz_rng 0 2) ⟨h3, h4, h5, trivial⟩).trans (mz_tg_t rfl)) ms_366_60 ?_
            refine g_aload_n rfl (g_getR (mz_at hS (Nat.le_of_ble_eq_true rfl) mzcS_0) mzcf_11_9 (mz_rb hR (Nat.le_of_ble_eq_true rfl) rfl mzcR_0_9) (g_getR (mz_at hS (Nat.le_of_ble_eq_true rfl) mzcS_219) mzcf_8_2 (mz_rb hR (Nat.le_of_ble_eq_true rfl) rfl mzcR_219_2) ?_))
            have h6 := hp
            refine g_s1v (Nat.le_of_ble_eq_true rfl) (fun _ hq => cs_138 (Nat.le_trans (Nat.le_of_ble_eq_true rfl) hd) (hS.le (Nat.le_of_ble_eq_true rfl)) (hR.le (Nat.le_of_ble_eq_true rfl)) 224 (mz_at hS (Nat.le_of_ble_eq_true rfl) mzcS_224) N h6 hq) ?_
            exact g_iret rfl (hr _ hC)
    · have hp := hp.2 h7
      exact ht _ _ h7 hC
  · have hp := hp.2 h8
    exact ht _ _ h8 hC
theorem cs_366 (hd : 2 ≤ d) (hS : mz_ext S 232) (hR : mz_rok R 232)  (v1 : Int32) (N : mz_N) (hp : cp_366_0 v1 N) (h1000 : t < 1000) (h0 : (cf_366_0 v1 N).1 = 0 → Q (.inl (some (.int ((cf_366_0 v1 N).2)))) (mz_k S R N b t)) (h1 : ¬ (cf_366_0 v1 N).1 = 0 → Q (.inr (((cf_366_0 v1 N).1) - 1)) (mz_k S R N b (t + 1))) : mz_Ed (mz_X0 L xs) d 366 [.ref 0, .int v1] (mz_k S R N b t) Q :=
  by
  refine g_in mzq_366 (Nat.le_of_ble_eq_true rfl) (Nat.le_of_ble_eq_true rfl) (Nat.le_trans (Nat.le_of_ble_eq_true rfl) hd) ?_
  refine g_weak ?_ (cg_366_0 (d := d - 1) (by omega) hS hR v1 N (C0 := fun z => (z.1 = 0 → Q (.inl (some (.int z.2))) (mz_k S R N b t)) ∧ (¬ z.1 = 0 → Q (.inr (z.1 - 1)) (mz_k S R N b (t + 1)))) (fun _ h => h.1 rfl) (fun c _ hc h => h.2 hc) h1000 hp ⟨h0, h1⟩)
  exact ⟨rfl, rfl, trivial⟩
/-! 365 KeptHouseLaw.rows (LKeptHouse;I[J)I -/
theorem ms_365_0 : mz_sf mk_365 0 = mk_365 := mz_sf_zero _
theorem ms_365_13 : mz_sf mk_365 13 = mt_365_13 := mz_sf_add ms_365_0 (t := 13) rfl rfl
theorem ms_365_16 : mz_sf mk_365 16 = mt_365_16 := mz_sf_add ms_365_13 (t := 3) rfl rfl
theorem ms_365_18 : mz_sf mk_365 18 = mt_365_18 := mz_sf_add ms_365_16 (t := 2) rfl rfl
set_option maxRecDepth 100000 in
theorem mzq_365 : mz_PG0 365 = some (13, ⟨"KeptHouseLaw", "rows", "(LKeptHouse;I[J)I"⟩, method_58_code, 4, some .int, [(0, 9, 12, 13), (0, 9, 15, 15)], mk_365, [(0, 12, 13), (1, 15, 16)]) := rfl
theorem cg_365_0 (hd : 2 ≤ d) (hS : mz_ext S 343) (hR : mz_rok R 343)  (v1 : Int32) (N : mz_N) (t : Nat) {C0 : (Int32 × mz_N × Nat) → Prop} (hr : ∀ (w : Int32) (N2 : mz_N) (t2 : Nat), C0 (w, N2, t2) → Q (.inl (some (.int w))) (mz_k S R N2 b t2)) (hp : cp_365_0 v1 N t) (hC : C0 (cf_365_0 v1 N t)) : mz_G (d, mz_X0 L xs, some .int, [(0, 12, 13), (1, 15, 16)], mk_365, 4, Q) 0 mk_365 [(0, .ref 0), (1, .int v1), (2, .ref 342)] [] true (mz_k S R N b t) := by
  unfold cf_365_0 at hC
  unfold cp_365_0 at hp
  refine g_aload_n rfl (g_iconst mzi_0 (g_aload_n rfl (g_iload_n rfl ?_)))
  obtain ⟨h1, hp⟩ := hp
  obtain ⟨h1000, hp⟩ := hp
  refine g_v2vh (Nat.le_of_ble_eq_true rfl) (mz_at hS (Nat.le_of_ble_eq_true rfl) mzcS_0) (fun _ h0 h1 => cs_366 (Nat.le_trans (Nat.le_of_ble_eq_true rfl) hd) (hS.le (Nat.le_of_ble_eq_true rfl)) (hR.le (Nat.le_of_ble_eq_true rfl))  v1 N h1 h1000 h0 h1) hC (fun h2 hC => ?_) (fun h2 hC => ?_)
  · have hp := hp.1 h2
    refine g_i2l (g_last (mz_at hS (Nat.le_of_ble_eq_true rfl) mzcS_342) (mz_ibd (by decide)) (g_goto (tg := 18) rfl ms_365_18 (g_iconst mzi_0 ?_)))
    exact g_iret rfl (hr _ _ _ hC)
  · have hp := hp.2 h2
    refine mz_cs hC (fun h6 hC => ?_) (fun h6 hC => ?_)
    · have hp := hp.1 h6
      refine ⟨(0, 12, 13), (by rw [h6]; rfl), ?_⟩
      show mz_G (d, mz_X0 L xs, some .int, [(0, 12, 13), (1, 15, 16)], mk_365, 4, Q) 13 (mz_sf mk_365 13) [] [] false (mz_k S R N b (t + 1))
      rw [ms_365_13]
      refine g_iconst mzi_1 ?_
      exact g_iret rfl (hr _ _ _ hC)
    · have hp := hp.2 h6
      have h4 := hp
      refine ⟨(1, 15, 16), (by rw [h4]; rfl), ?_⟩
      show mz_G (d, mz_X0 L xs, some .int, [(0, 12, 13), (1, 15, 16)], mk_365, 4, Q) 16 (mz_sf mk_365 16) [] [] false (mz_k S R N b (t + 1))
      rw [ms_365_16]
      refine g_iconst mzi_2 ?_
      exact g_iret rfl (hr _ _ _ hC)
theorem cs_365 (hd : 3 ≤ d) (hS : mz_ext S 343) (hR : mz_rok R 343)  (v1 : Int32) (N : mz_N) (t : Nat) (hp : cp_365_0 v1 N t) (hq : Q (.inl (some (.int ((cf_365_0 v1 N t).1)))) (mz_k S R ((cf_365_0 v1 N t).2.1) b ((cf_365_0 v1 N t).2.2))) : mz_Ed (mz_X0 L xs) d 365 [.ref 0, .int v1, .ref 342] (mz_k S R N b t) Q :=
  by
  refine g_in mzq_365 (Nat.le_of_ble_eq_true rfl) (Nat.le_of_ble_eq_true rfl) (Nat.le_trans (Nat.le_of_ble_eq_true rfl) hd) ?_
  refine g_weak ?_ (cg_365_0 (d := d - 1) (by omega) hS hR v1 N t (C0 := fun z => Q (.inl (some (.int z.1))) (mz_k S R z.2.1 b z.2.2)) (fun _ _ _ h => h) hp hq)
  exact ⟨rfl, rfl, rfl, trivial⟩
/-! 368 KeptHouse.disk (III)I -/
theorem ms_368_0 : mz_sf mk_368 0 = mk_368 := mz_sf_zero _
theorem ms_368_25 : mz_sf mk_368 25 = mt_368_25 := mz_sf_add ms_368_0 (t := 25) rfl rfl
set_option maxRecDepth 100000 in
theorem mzq_368 : mz_PG0 368 = some (11, ⟨"KeptHouse", "disk", "(III)I"⟩, prog_1_method_65_code, 4, some .int, [], mk_368, []) := rfl
theorem cg_368_0 (hd : 1 ≤ d) (hS : mz_ext S 232) (hR : mz_rok R 232)  (v1 : Int32) (v2 : Int32) (v3 : Int32) (N : mz_N) {C0 : (Nat × Int32) → Prop} (hr : ∀ (w : Int32), C0 (0, w) → Q (.inl (some (.int w))) (mz_k S R N b t)) (ht : ∀ (c : Nat) (w : Int32), ¬ c = 0 → C0 (c, w) → Q (.inr (c - 1)) (mz_k S R N b (t + 1))) (h1000 : t < 1000) (hp : cp_368_0 v1 v2 v3 N) (hC : C0 (cf_368_0 v1 v2 v3 N)) : mz_G (d, mz_X0 L xs, some .int, [], mk_368, 4, Q) 0 mk_368 [(0, .ref 0), (1, .int v1), (2, .int v2), (3, .int v3)] [] true (mz_k S R N b t) := by
  unfold cf_368_0 at hC
  unfold cp_368_0 at hp
  refine g_aload_n rfl ?_
  obtain ⟨h1, hp⟩ := hp
  refine g_v1nt (Nat.le_of_ble_eq_true rfl) (mz_at hS (Nat.le_of_ble_eq_true rfl) mzcS_0) rfl (fun _ h0 h1 => cs_104 (Nat.le_trans (Nat.le_of_ble_eq_true rfl) hd) (hS.le (Nat.le_of_ble_eq_true rfl)) (hR.le (Nat.le_of_ble_eq_true rfl))  N h1 h1000 h0 h1) hC (fun h10 hC => ?_) (fun h10 hC => ?_)
  · have hp := hp.1 h10
    refine g_iload_n rfl (g_iconst mzi_0 (g_iconst mzi_1 ?_))
    obtain ⟨h2, hp⟩ := hp
    refine g_s3nt (Nat.le_of_ble_eq_true rfl) rfl (fun _ h0 h1 => cs_105 (Nat.le_trans (Nat.le_of_ble_eq_true rfl) hd) (hS.le (Nat.le_of_ble_eq_true rfl)) (hR.le (Nat.le_of_ble_eq_true rfl))  v1 0 1 h2 h1000 h0 h1) hC (fun h9 hC => ?_) (fun h9 hC => ?_)
    · have hp := hp.1 h9
      refine g_iload_n rfl (g_iconst mzi_0 (g_sipush mzs_199 ?_))
      obtain ⟨h3, hp⟩ := hp
      refine g_s3nt (Nat.le_of_ble_eq_true rfl) rfl (fun _ h0 h1 => cs_105 (Nat.le_trans (Nat.le_of_ble_eq_true rfl) hd) (hS.le (Nat.le_of_ble_eq_true rfl)) (hR.le (Nat.le_of_ble_eq_true rfl))  v2 0 199 h3 h1000 h0 h1) hC (fun h8 hC => ?_) (fun h8 hC => ?_)
      · have hp := hp.1 h8
        refine g_iload_n rfl (g_iconst mzi_0 (g_bipush mzb_47 ?_))
        obtain ⟨h4, hp⟩ := hp
        refine g_s3nt (Nat.le_of_ble_eq_true rfl) rfl (fun _ h0 h1 => cs_105 (Nat.le_trans (Nat.le_of_ble_eq_true rfl) hd) (hS.le (Nat.le_of_ble_eq_true rfl)) (hR.le (Nat.le_of_ble_eq_true rfl))  v3 0 47 h4 h1000 h0 h1) hC (fun h7 hC => ?_) (fun h7 hC => ?_)
        · have hp := hp.1 h7
          refine g_aload_n rfl (g_getR (mz_at hS (Nat.le_of_ble_eq_true rfl) mzcS_0) mzcf_11_9 (mz_rb hR (Nat.le_of_ble_eq_true rfl) rfl mzcR_0_9) (g_getR (mz_at hS (Nat.le_of_ble_eq_true rfl) mzcS_219) mzcf_8_0 (mz_rb hR (Nat.le_of_ble_eq_true rfl) rfl mzcR_219_0) (g_iload_n rfl ?_)))
          obtain ⟨h5, hp⟩ := hp
          refine g_aald4 (mz_at hS (Nat.le_of_ble_eq_true rfl) mzcS_220) h5 (mz_rb hR (Nat.le_of_ble_eq_true rfl) rfl (mzcR2_220 h5)) (g_iload_n rfl (g_bipush mzb_48 (g_imul (g_iload_n rfl (g_iadd ?_)))))
          have h6 := hp
          refine g_iald hS.1 (mz_at hS (mzcL2_220 h5 (Nat.le_of_ble_eq_true rfl)) (mzcS2_220 h5)) h6 ?_
          exact g_iret rfl (hr _ hC)
        · have hp := hp.2 h7
          exact ht _ _ h7 hC
      · have hp := hp.2 h8
        exact ht _ _ h8 hC
    · have hp := hp.2 h9
      exact ht _ _ h9 hC
  · have hp := hp.2 h10
    exact ht _ _ h10 hC
theorem cs_368 (hd : 2 ≤ d) (hS : mz_ext S 232) (hR : mz_rok R 232)  (v1 : Int32) (v2 : Int32) (v3 : Int32) (N : mz_N) (hp : cp_368_0 v1 v2 v3 N) (h1000 : t < 1000) (h0 : (cf_368_0 v1 v2 v3 N).1 = 0 → Q (.inl (some (.int ((cf_368_0 v1 v2 v3 N).2)))) (mz_k S R N b t)) (h1 : ¬ (cf_368_0 v1 v2 v3 N).1 = 0 → Q (.inr (((cf_368_0 v1 v2 v3 N).1) - 1)) (mz_k S R N b (t + 1))) : mz_Ed (mz_X0 L xs) d 368 [.ref 0, .int v1, .int v2, .int v3] (mz_k S R N b t) Q :=
  by
  refine g_in mzq_368 (Nat.le_of_ble_eq_true rfl) (Nat.le_of_ble_eq_true rfl) (Nat.le_trans (Nat.le_of_ble_eq_true rfl) hd) ?_
  refine g_weak ?_ (cg_368_0 (d := d - 1) (by omega) hS hR v1 v2 v3 N (C0 := fun z => (z.1 = 0 → Q (.inl (some (.int z.2))) (mz_k S R N b t)) ∧ (¬ z.1 = 0 → Q (.inr (z.1 - 1)) (mz_k S R N b (t + 1)))) (fun _ h => h.1 rfl) (fun c _ hc h => h.2 hc) h1000 hp ⟨h0, h1⟩)
  exact ⟨rfl, rfl, rfl, rfl, trivial⟩
/-! 367 KeptHouseLaw.disk (LKeptHouse;III[J)I -/
theorem ms_367_0 : mz_sf mk_367 0 = mk_367 := mz_sf_zero _
theorem ms_367_17 : mz_sf mk_367 17 = mt_367_17 := mz_sf_add ms_367_0 (t := 17) rfl rfl
theorem ms_367_21 : mz_sf mk_367 21 = mt_367_21 := mz_sf_add ms_367_17 (t := 4) rfl rfl
theorem ms_367_23 : mz_sf mk_367 23 = mt_367_23 := mz_sf_add ms_367_21 (t := 2) rfl rfl
set_option maxRecDepth 100000 in
theorem mzq_367 : mz_PG0 367 = some (13, ⟨"KeptHouseLaw", "disk", "(LKeptHouse;III[J)I"⟩, method_59_code, 6, some .int, [(0, 12, 15, 13), (0, 12, 19, 15)], mk_367, [(0, 15, 17), (1, 19, 21)]) := rfl
theorem cg_367_0 (hd : 2 ≤ d) (hS : mz_ext S 343) (hR : mz_rok R 343)  (v1 : Int32) (v2 : Int32) (v3 : Int32) (N : mz_N) (t : Nat) {C0 : (Int32 × mz_N × Nat) → Prop} (hr : ∀ (w : Int32) (N2 : mz_N) (t2 : Nat), C0 (w, N2, t2) → Q (.inl (some (.int w))) (mz_k S R N2 b t2)) (hp : cp_367_0 v1 v2 v3 N t) (hC : C0 (cf_367_0 v1 v2 v3 N t)) : mz_G (d, mz_X0 L xs, some .int, [(0, 15, 17), (1, 19, 21)], mk_367, 6, Q) 0 mk_367 [(0, .ref 0), (1, .int v1), (2, .int v2), (3, .int v3), (4, .ref 342)] [] true (mz_k S R N b t) := by
  unfold cf_367_0 at hC
  unfold cp_367_0 at hp
  refine g_aload rfl (g_iconst mzi_0 (g_aload_n rfl (g_iload_n rfl (g_iload_n rfl (g_iload_n rfl ?_)))))
  obtain ⟨h1, hp⟩ := hp
  obtain ⟨h1000, hp⟩ := hp
  refine g_v4vh (Nat.le_of_ble_eq_true rfl) (mz_at hS (Nat.le_of_ble_eq_true rfl) mzcS_0) (fun _ h0 h1 => cs_368 (Nat.le_trans (Nat.le_of_ble_eq_true rfl) hd) (hS.le (Nat.le_of_ble_eq_true rfl)) (hR.le (Nat.le_of_ble_eq_true rfl))  v1 v2 v3 N h1 h1000 h0 h1) hC (fun h2 hC => ?_) (fun h2 hC => ?_)
  · have hp := hp.1 h2
    refine g_i2l (g_last (mz_at hS (Nat.le_of_ble_eq_true rfl) mzcS_342) (mz_ibd (by decide)) (g_goto (tg := 23) rfl ms_367_23 (g_iconst mzi_0 ?_)))
    exact g_iret rfl (hr _ _ _ hC)
  · have hp := hp.2 h2
    refine mz_cs hC (fun h6 hC => ?_) (fun h6 hC => ?_)
    · have hp := hp.1 h6
      refine ⟨(0, 15, 17), (by rw [h6]; rfl), ?_⟩
      show mz_G (d, mz_X0 L xs, some .int, [(0, 15, 17), (1, 19, 21)], mk_367, 6, Q) 17 (mz_sf mk_367 17) [] [] false (mz_k S R N b (t + 1))
      rw [ms_367_17]
      refine g_iconst mzi_1 ?_
      exact g_iret rfl (hr _ _ _ hC)
    · have hp := hp.2 h6
      have h4 := hp
      refine ⟨(1, 19, 21), (by rw [h4]; rfl), ?_⟩
      show mz_G (d, mz_X0 L xs, some .int, [(0, 15, 17), (1, 19, 21)], mk_367, 6, Q) 21 (mz_sf mk_367 21) [] [] false (mz_k S R N b (t + 1))
      rw [ms_367_21]
      refine g_iconst mzi_2 ?_
      exact g_iret rfl (hr _ _ _ hC)
theorem cs_367 (hd : 3 ≤ d) (hS : mz_ext S 343) (hR : mz_rok R 343)  (v1 : Int32) (v2 : Int32) (v3 : Int32) (N : mz_N) (t : Nat) (hp : cp_367_0 v1 v2 v3 N t) (hq : Q (.inl (some (.int ((cf_367_0 v1 v2 v3 N t).1)))) (mz_k S R ((cf_367_0 v1 v2 v3 N t).2.1) b ((cf_367_0 v1 v2 v3 N t).2.2))) : mz_Ed (mz_X0 L xs) d 367 [.ref 0, .int v1, .int v2, .int v3, .ref 342] (mz_k S R N b t) Q :=
  by
  refine g_in mzq_367 (Nat.le_of_ble_eq_true rfl) (Nat.le_of_ble_eq_true rfl) (Nat.le_trans (Nat.le_of_ble_eq_true rfl) hd) ?_
  refine g_weak ?_ (cg_367_0 (d := d - 1) (by omega) hS hR v1 v2 v3 N t (C0 := fun z => Q (.inl (some (.int z.1))) (mz_k S R z.2.1 b z.2.2)) (fun _ _ _ h => h) hp hq)
  exact ⟨rfl, rfl, rfl, rfl, rfl, trivial⟩
/-! 371 KeptHouse$Keeper.makeTape ()V -/
theorem ms_371_0 : mz_sf mk_371 0 = mk_371 := mz_sf_zero _
theorem ms_371_22 : mz_sf mk_371 22 = mt_371_22 := mz_sf_add ms_371_0 (t := 22) rfl rfl
theorem ms_371_24 : mz_sf mk_371 24 = mt_371_24 := mz_sf_add ms_371_22 (t := 2) rfl rfl
theorem ms_371_54 : mz_sf mk_371 54 = mt_371_54 := mz_sf_add ms_371_24 (t := 30) rfl rfl
theorem ms_371_89 : mz_sf mk_371 89 = mt_371_89 := mz_sf_add ms_371_54 (t := 35) rfl rfl
theorem ms_371_92 : mz_sf mk_371 92 = mt_371_92 := mz_sf_add ms_371_89 (t := 3) rfl rfl
theorem ms_371_98 : mz_sf mk_371 98 = mt_371_98 := mz_sf_add ms_371_92 (t := 6) rfl rfl
theorem ms_371_124 : mz_sf mk_371 124 = mt_371_124 := mz_sf_add ms_371_98 (t := 26) rfl rfl
set_option maxRecDepth 100000 in
theorem mzq_371 : mz_PG0 371 = some (4, ⟨"KeptHouse$Keeper", "makeTape", "()V"⟩, prog_6_method_10_code, 3, none, [], mk_371, []) := rfl
theorem cg_371_92 (hd : 2 ≤ d) (hS : mz_ext S 232) (hR : mz_rok R 232)  (v1 : Int32) (v2 : Int32) (N : mz_N) {C0 : (mz_N) → Prop} (hr : ∀ (N2 : mz_N), C0 N2 → Q (.inl none) (mz_k S R N2 b t)) {C1 : ((Int32 × Int32 × mz_N) ⊕ (mz_N)) → Prop} (hc1 : ∀ s2, C1 (.inl s2) → mz_G (d, mz_X0 L xs, none, [], mk_371, 3, Q) 24 mt_371_24 [(0, .ref 1), (1, .int s2.1), (2, .int s2.2.1)] [] false (mz_k S R s2.2.2 b t)) (hx1 : ∀ z, C1 (.inr z) → C0 z) (hp : cp_371_92 v1 v2 N) (hC : C1 (cf_371_92 v1 v2 N)) : mz_G (d, mz_X0 L xs, none, [], mk_371, 3, Q) 92 mt_371_92 [(0, .ref 1), (1, .int v1), (2, .int v2)] [] false (mz_k S R N b t) := by
  unfold cf_371_92 at hC
  unfold cp_371_92 at hp
  refine g_iinc rfl mzi_1 (Nat.le_of_ble_eq_true rfl) rfl (g_goto (tg := 24) rfl ms_371_24 ?_)
  refine g_weak ?_ (g_cl (hc1 (v1, (v2 + 1), N) hC))
  exact ⟨rfl, rfl, rfl, trivial⟩
theorem cg_371_89 (hd : 2 ≤ d) (hS : mz_ext S 232) (hR : mz_rok R 232)  (v1 : Int32) (v2 : Int32) (N : mz_N) {C0 : (mz_N) → Prop} (hr : ∀ (N2 : mz_N), C0 N2 → Q (.inl none) (mz_k S R N2 b t)) {C1 : ((Int32 × Int32 × mz_N) ⊕ (mz_N)) → Prop} (hc1 : ∀ s2, C1 (.inl s2) → mz_G (d, mz_X0 L xs, none, [], mk_371, 3, Q) 24 mt_371_24 [(0, .ref 1), (1, .int s2.1), (2, .int s2.2.1)] [] false (mz_k S R s2.2.2 b t)) (hx1 : ∀ z, C1 (.inr z) → C0 z) (hp : cp_371_89 v1 v2 N) (hC : C1 (cf_371_89 v1 v2 N)) : mz_G (d, mz_X0 L xs, none, [], mk_371, 3, Q) 89 mt_371_89 [(0, .ref 1), (1, .int v1), (2, .int v2)] [] false (mz_k S R N b t) := by
  unfold cf_371_89 at hC
  unfold cp_371_89 at hp
  refine g_iinc rfl mzi_30 (Nat.le_of_ble_eq_true rfl) rfl ?_
  refine g_weak ?_ (g_cl (cg_371_92 hd hS hR (v1 + 30) v2 N hr hc1 hx1 hp hC))
  exact ⟨rfl, rfl, rfl, trivial⟩
theorem cg_371_124 (hd : 2 ≤ d) (hS : mz_ext S 232) (hR : mz_rok R 232)  (N : mz_N) {C0 : (mz_N) → Prop} (hr : ∀ (N2 : mz_N), C0 N2 → Q (.inl none) (mz_k S R N2 b t)) (hp : cp_371_124 N) (hC : C0 (cf_371_124 N)) : mz_G (d, mz_X0 L xs, none, [], mk_371, 3, Q) 124 mt_371_124 [] [] false (mz_k S R N b t) := by
  unfold cf_371_124 at hC
  unfold cp_371_124 at hp
  exact g_vret rfl (hr _ hC)
theorem cb_371_24 (hd : 2 ≤ d) (hS : mz_ext S 232) (hR : mz_rok R 232)   (s : Int32 × Int32 × mz_N) {C0 : (mz_N) → Prop} (hr : ∀ (N2 : mz_N), C0 N2 → Q (.inl none) (mz_k S R N2 b t)) {C1 : ((Int32 × Int32 × mz_N) ⊕ (mz_N)) → Prop} (hc1 : ∀ s2, C1 (.inl s2) → mz_G (d, mz_X0 L xs, none, [], mk_371, 3, Q) 24 mt_371_24 [(0, .ref 1), (1, .int s2.1), (2, .int s2.2.1)] [] false (mz_k S R s2.2.2 b t)) (hx1 : ∀ z, C1 (.inr z) → C0 z) (hp : cd_371_24  s) (hC : C1 (cq_371_24  s)) : mz_G (d, mz_X0 L xs, none, [], mk_371, 3, Q) 24 mt_371_24 [(0, .ref 1), (1, .int s.1), (2, .int s.2.1)] [] false (mz_k S R s.2.2 b t) := by
  unfold cq_371_24 at hC
  unfold cd_371_24 at hp
  refine g_iload_n rfl (g_sipush mzs_135 ?_)
  refine g_icge (tg := 98) rfl ms_371_98 hC (fun h1 hC => ?_) (fun h1 hC => ?_)
  · have hp := hp.1 h1
    refine g_aload_n rfl (g_getR (mz_at hS (Nat.le_of_ble_eq_true rfl) mzcS_1) mzcf_4_8 (mz_rb hR (Nat.le_of_ble_eq_true rfl) rfl mzcR_1_8) (g_getR (mz_at hS (Nat.le_of_ble_eq_true rfl) mzcS_219) mzcf_8_2 (mz_rb hR (Nat.le_of_ble_eq_true rfl) rfl mzcR_219_2) (g_iload_n rfl ?_)))
    obtain ⟨h2, hp⟩ := hp
    refine g_iald hS.1 (mz_at hS (Nat.le_of_ble_eq_true rfl) mzcS_224) h2 (g_iconst mzi_1 ?_)
    refine g_icne (tg := 92) rfl ms_371_92 hC (fun h3 hC => ?_) (fun h3 hC => ?_)
    · have hp := hp.1 h3
      refine g_aload_n rfl (g_getR (mz_at hS (Nat.le_of_ble_eq_true rfl) mzcS_1) mzcf_4_9 (mz_rb hR (Nat.le_of_ble_eq_true rfl) rfl mzcR_1_9) (g_iload_n rfl (g_iload_n rfl ?_)))
      obtain ⟨h4, hp⟩ := hp
      refine g_s1v (Nat.le_of_ble_eq_true rfl) (fun _ hq => cs_55 (Nat.le_trans (Nat.le_of_ble_eq_true rfl) hd) (hS.le (Nat.le_of_ble_eq_true rfl)) (hR.le (Nat.le_of_ble_eq_true rfl))  s.2.1 h4 hq) ?_
      obtain ⟨h5, hp⟩ := hp
      refine g_iast (mz_at hS (Nat.le_of_ble_eq_true rfl) mzcS_228) h5 (g_aload_n rfl (g_getR (mz_at hS (Nat.le_of_ble_eq_true rfl) mzcS_1) mzcf_4_9 (mz_rb hR (Nat.le_of_ble_eq_true rfl) rfl mzcR_1_9) (g_iload_n rfl (g_iconst mzi_1 (g_iadd (g_iload_n rfl ?_))))))
      obtain ⟨h6, hp⟩ := hp
      refine g_s1v (Nat.le_of_ble_eq_true rfl) (fun _ hq => cs_56 (Nat.le_trans (Nat.le_of_ble_eq_true rfl) hd) (hS.le (Nat.le_of_ble_eq_true rfl)) (hR.le (Nat.le_of_ble_eq_true rfl))  s.2.1 h6 hq) ?_
      obtain ⟨h7, hp⟩ := hp
      refine g_iast (mz_at hS (Nat.le_of_ble_eq_true rfl) mzcS_228) h7 (g_aload_n rfl (g_getR (mz_at hS (Nat.le_of_ble_eq_true rfl) mzcS_1) mzcf_4_8 (mz_rb hR (Nat.le_of_ble_eq_true rfl) rfl mzcR_1_8) (g_getR (mz_at hS (Nat.le_of_ble_eq_true rfl) mzcS_219) mzcf_8_1 (mz_rb hR (Nat.le_of_ble_eq_true rfl) rfl mzcR_219_1) (g_iload_n rfl (g_bipush mzb_28 (g_imul (g_aload_n rfl ?_)))))))
      refine g_getR (mz_at hS (Nat.le_of_ble_eq_true rfl) mzcS_1) mzcf_4_9 (mz_rb hR (Nat.le_of_ble_eq_true rfl) rfl mzcR_1_9) (g_iload_n rfl (g_iconst mzi_2 (g_iadd (g_bipush mzb_28 ?_))))
      obtain ⟨h8, hp⟩ := hp
      refine g_cpI (Nat.le_of_ble_eq_true rfl) (mz_at hS (Nat.le_of_ble_eq_true rfl) mzcS_223) (mz_at hS (Nat.le_of_ble_eq_true rfl) mzcS_228) h8 ?_
      refine g_weak ?_ (g_cl (cg_371_89 hd hS hR s.1 s.2.1 (mz_yI (mz_wI (mz_wI s.2.2 228 s.1 (cf_55_0 s.2.1)) 228 (s.1 + 1) (cf_56_0 s.2.1)) 223 (s.2.1 * 28) 228 (s.1 + 2) 28) hr hc1 hx1 hp hC))
      exact ⟨rfl, rfl, rfl, trivial⟩
    · have hp := hp.2 h3
      refine g_weak ?_ (g_cl (cg_371_92 hd hS hR s.1 s.2.1 s.2.2 hr hc1 hx1 hp hC))
      exact ⟨rfl, rfl, rfl, trivial⟩
  · have hp := hp.2 h1
    refine g_aload_n rfl (g_getR (mz_at hS (Nat.le_of_ble_eq_true rfl) mzcS_1) mzcf_4_9 (mz_rb hR (Nat.le_of_ble_eq_true rfl) rfl mzcR_1_9) (g_iload_n rfl (g_iconst mzi_4 (g_aload_n rfl (g_getR (mz_at hS (Nat.le_of_ble_eq_true rfl) mzcS_1) mzcf_4_9 (mz_rb hR (Nat.le_of_ble_eq_true rfl) rfl mzcR_1_9) (g_iconst mzi_0 (g_iload_n rfl ?_)))))))
    obtain ⟨h9, hp⟩ := hp
    refine g_s3v (Nat.le_of_ble_eq_true rfl) (fun _ hq => cs_16 (Nat.le_trans (Nat.le_of_ble_eq_true rfl) hd) (hS.le (Nat.le_of_ble_eq_true rfl)) (hR.le (Nat.le_of_ble_eq_true rfl)) 228 4056 (mz_at hS (Nat.le_of_ble_eq_true rfl) mzcS_228) 0 s.1 s.2.2 h9 hq) (g_i2l ?_)
    obtain ⟨h10, hp⟩ := hp
    refine g_s4n (Nat.le_of_ble_eq_true rfl) (fun _ hq => cs_14 (Nat.le_trans (Nat.le_of_ble_eq_true rfl) hd) (hS.le (Nat.le_of_ble_eq_true rfl)) (hR.le (Nat.le_of_ble_eq_true rfl)) 228 4056 (mz_at hS (Nat.le_of_ble_eq_true rfl) mzcS_228) s.1 4 ((cf_16_0 228 4056 0 s.1 s.2.2).toInt64) s.2.2 h10 hq) (g_aload_n rfl (g_iload_n rfl (g_iconst mzi_4 (g_iadd (g_putI (mz_at hS (Nat.le_of_ble_eq_true rfl) mzcS_1) mzcf_4_10 ?_)))))
    refine g_weak ?_ (g_cl (cg_371_124 hd hS hR (mz_pI (cf_14_0 228 4056 s.1 4 ((cf_16_0 228 4056 0 s.1 s.2.2).toInt64) s.2.2) 1 10 (s.1 + 4)) hr hp (hx1 _ hC)))
    exact trivial
theorem cg_371_24 (hd : 2 ≤ d) (hS : mz_ext S 232) (hR : mz_rok R 232)  (v1 : Int32) (v2 : Int32) (N : mz_N) {C0 : (mz_N) → Prop} (hr : ∀ (N2 : mz_N), C0 N2 → Q (.inl none) (mz_k S R N2 b t)) (hp : cp_371_24 v1 v2 N) (hC : C0 (cf_371_24 v1 v2 N)) : mz_G (d, mz_X0 L xs, none, [], mk_371, 3, Q) 24 mt_371_24 [(0, .ref 1), (1, .int v1), (2, .int v2)] [] false (mz_k S R N b t) := by
  obtain ⟨n, hn⟩ := hp
  exact g_loop (G := fun s => mz_G (d, mz_X0 L xs, none, [], mk_371, 3, Q) 24 mt_371_24 [(0, .ref 1), (1, .int s.1), (2, .int s.2.1)] [] false (mz_k S R s.2.2 b t)) (C := C0) (fun C2 hc hx s hP hC => cb_371_24 hd hS hR  s hr hc hx hP hC) n (v1, v2, N) hn hC
theorem cg_371_0 (hd : 2 ≤ d) (hS : mz_ext S 232) (hR : mz_rok R 232)  (N : mz_N) {C0 : (mz_N) → Prop} (hr : ∀ (N2 : mz_N), C0 N2 → Q (.inl none) (mz_k S R N2 b t)) (hp : cp_371_0 N) (hC : C0 (cf_371_0 N)) : mz_G (d, mz_X0 L xs, none, [], mk_371, 3, Q) 0 mk_371 [(0, .ref 1)] [] true (mz_k S R N b t) := by
  unfold cf_371_0 at hC
  unfold cp_371_0 at hp
  refine g_aload_n rfl (g_getR (mz_at hS (Nat.le_of_ble_eq_true rfl) mzcS_1) mzcf_4_9 (mz_rb hR (Nat.le_of_ble_eq_true rfl) rfl mzcR_1_9) (g_iconst mzi_0 (g_iconst mzi_2 (g_aload_n rfl (g_getR (mz_at hS (Nat.le_of_ble_eq_true rfl) mzcS_1) mzcf_4_8 (mz_rb hR (Nat.le_of_ble_eq_true rfl) rfl mzcR_1_8) (g_getR (mz_at hS (Nat.le_of_ble_eq_true rfl) mzcS_219) mzcf_8_2 (mz_rb hR (Nat.le_of_ble_eq_true rfl) rfl mzcR_219_2) ?_))))))
  obtain ⟨h1, hp⟩ := hp
  refine g_s1v (Nat.le_of_ble_eq_true rfl) (fun _ hq => cs_138 (Nat.le_trans (Nat.le_of_ble_eq_true rfl) hd) (hS.le (Nat.le_of_ble_eq_true rfl)) (hR.le (Nat.le_of_ble_eq_true rfl)) 224 (mz_at hS (Nat.le_of_ble_eq_true rfl) mzcS_224) N h1 hq) (g_i2l ?_)
  obtain ⟨h2, hp⟩ := hp
  refine g_s4n (Nat.le_of_ble_eq_true rfl) (fun _ hq => cs_14 (Nat.le_trans (Nat.le_of_ble_eq_true rfl) hd) (hS.le (Nat.le_of_ble_eq_true rfl)) (hR.le (Nat.le_of_ble_eq_true rfl)) 228 4056 (mz_at hS (Nat.le_of_ble_eq_true rfl) mzcS_228) 0 2 ((cf_138_0 224 N).toInt64) N h2 hq) (g_iconst mzi_2 (g_istore_n (Nat.le_of_ble_eq_true rfl) rfl (g_iconst mzi_0 (g_istore_n (Nat.le_of_ble_eq_true rfl) rfl ?_))))
  refine g_weak ?_ (g_cl (cg_371_24 hd hS hR 2 0 (cf_14_0 228 4056 0 2 ((cf_138_0 224 N).toInt64) N) hr hp hC))
  exact ⟨rfl, rfl, rfl, trivial⟩
theorem cs_371 (hd : 3 ≤ d) (hS : mz_ext S 232) (hR : mz_rok R 232)  (N : mz_N) (hp : cp_371_0 N) (hq : Q (.inl none) (mz_k S R (cf_371_0 N) b t)) : mz_Ed (mz_X0 L xs) d 371 [.ref 1] (mz_k S R N b t) Q :=
  by
  refine g_in mzq_371 (Nat.le_of_ble_eq_true rfl) (Nat.le_of_ble_eq_true rfl) (Nat.le_trans (Nat.le_of_ble_eq_true rfl) hd) ?_
  refine g_weak ?_ (cg_371_0 (d := d - 1) (by omega) hS hR N (C0 := fun z => Q (.inl none) (mz_k S R z b t)) (fun _ h => h) hp hq)
  exact ⟨rfl, trivial⟩
/-! 370 KeptHouse.image ()I -/
theorem ms_370_0 : mz_sf mk_370 0 = mk_370 := mz_sf_zero _
set_option maxRecDepth 100000 in
theorem mzq_370 : mz_PG0 370 = some (11, ⟨"KeptHouse", "image", "()I"⟩, prog_1_method_66_code, 1, some .int, [], mk_370, []) := rfl
theorem cg_370_0 (hd : 3 ≤ d) (hS : mz_ext S 232) (hR : mz_rok R 232)  (N : mz_N) {C0 : (Nat × Int32 × mz_N) → Prop} (hr : ∀ (w : Int32) (N2 : mz_N), C0 (0, w, N2) → Q (.inl (some (.int w))) (mz_k S R N2 b t)) (ht : ∀ (c : Nat) (w : Int32) (N2 : mz_N), ¬ c = 0 → C0 (c, w, N2) → Q (.inr (c - 1)) (mz_k S R N2 b (t + 1))) (h1000 : t < 1000) (hp : cp_370_0 N) (hC : C0 (cf_370_0 N)) : mz_G (d, mz_X0 L xs, some .int, [], mk_370, 1, Q) 0 mk_370 [(0, .ref 0)] [] true (mz_k S R N b t) := by
  unfold cf_370_0 at hC
  unfold cp_370_0 at hp
  refine g_aload_n rfl ?_
  obtain ⟨h1, hp⟩ := hp
  refine g_v1nt (Nat.le_of_ble_eq_true rfl) (mz_at hS (Nat.le_of_ble_eq_true rfl) mzcS_0) rfl (fun _ h0 h1 => cs_104 (Nat.le_trans (Nat.le_of_ble_eq_true rfl) hd) (hS.le (Nat.le_of_ble_eq_true rfl)) (hR.le (Nat.le_of_ble_eq_true rfl))  N h1 h1000 h0 h1) hC (fun h3 hC => ?_) (fun h3 hC => ?_)
  · have hp := hp.1 h3
    refine g_aload_n rfl (g_getR (mz_at hS (Nat.le_of_ble_eq_true rfl) mzcS_0) mzcf_11_0 (mz_rb hR (Nat.le_of_ble_eq_true rfl) rfl mzcR_0_0) ?_)
    have h2 := hp
    refine g_v1n (Nat.le_of_ble_eq_true rfl) (mz_at hS (Nat.le_of_ble_eq_true rfl) mzcS_1) (fun _ hq => cs_371 (Nat.le_trans (Nat.le_of_ble_eq_true rfl) hd) (hS.le (Nat.le_of_ble_eq_true rfl)) (hR.le (Nat.le_of_ble_eq_true rfl))  N h2 hq) (g_aload_n rfl (g_getR (mz_at hS (Nat.le_of_ble_eq_true rfl) mzcS_0) mzcf_11_0 (mz_rb hR (Nat.le_of_ble_eq_true rfl) rfl mzcR_0_0) (g_getI (mz_at hS (Nat.le_of_ble_eq_true rfl) mzcS_1) mzcf_4_10 ?_)))
    exact g_iret rfl (hr _ _ hC)
  · have hp := hp.2 h3
    exact ht _ _ _ h3 hC
theorem cs_370 (hd : 4 ≤ d) (hS : mz_ext S 232) (hR : mz_rok R 232)  (N : mz_N) (hp : cp_370_0 N) (h1000 : t < 1000) (h0 : (cf_370_0 N).1 = 0 → Q (.inl (some (.int ((cf_370_0 N).2.1)))) (mz_k S R ((cf_370_0 N).2.2) b t)) (h1 : ¬ (cf_370_0 N).1 = 0 → Q (.inr (((cf_370_0 N).1) - 1)) (mz_k S R ((cf_370_0 N).2.2) b (t + 1))) : mz_Ed (mz_X0 L xs) d 370 [.ref 0] (mz_k S R N b t) Q :=
  by
  refine g_in mzq_370 (Nat.le_of_ble_eq_true rfl) (Nat.le_of_ble_eq_true rfl) (Nat.le_trans (Nat.le_of_ble_eq_true rfl) hd) ?_
  refine g_weak ?_ (cg_370_0 (d := d - 1) (by omega) hS hR N (C0 := fun z => (z.1 = 0 → Q (.inl (some (.int z.2.1))) (mz_k S R z.2.2 b t)) ∧ (¬ z.1 = 0 → Q (.inr (z.1 - 1)) (mz_k S R z.2.2 b (t + 1)))) (fun _ _ h => h.1 rfl) (fun c _ _ hc h => h.2 hc) h1000 hp ⟨h0, h1⟩)
  exact ⟨rfl, trivial⟩
/-! 369 KeptHouseLaw.image (LKeptHouse;[J)I -/
theorem ms_369_0 : mz_sf mk_369 0 = mk_369 := mz_sf_zero _
theorem ms_369_12 : mz_sf mk_369 12 = mt_369_12 := mz_sf_add ms_369_0 (t := 12) rfl rfl
theorem ms_369_14 : mz_sf mk_369 14 = mt_369_14 := mz_sf_add ms_369_12 (t := 2) rfl rfl
set_option maxRecDepth 100000 in
theorem mzq_369 : mz_PG0 369 = some (13, ⟨"KeptHouseLaw", "image", "(LKeptHouse;[J)I"⟩, method_60_code, 3, some .int, [(0, 8, 11, 15)], mk_369, [(1, 11, 12)]) := rfl
theorem cg_369_0 (hd : 4 ≤ d) (hS : mz_ext S 343) (hR : mz_rok R 343)  (N : mz_N) (t : Nat) {C0 : (Int32 × mz_N × Nat) → Prop} (hr : ∀ (w : Int32) (N2 : mz_N) (t2 : Nat), C0 (w, N2, t2) → Q (.inl (some (.int w))) (mz_k S R N2 b t2)) (hp : cp_369_0 N t) (hC : C0 (cf_369_0 N t)) : mz_G (d, mz_X0 L xs, some .int, [(1, 11, 12)], mk_369, 3, Q) 0 mk_369 [(0, .ref 0), (1, .ref 342)] [] true (mz_k S R N b t) := by
  unfold cf_369_0 at hC
  unfold cp_369_0 at hp
  refine g_aload_n rfl (g_iconst mzi_0 (g_aload_n rfl ?_))
  obtain ⟨h1, hp⟩ := hp
  obtain ⟨h1000, hp⟩ := hp
  refine g_v1vh (Nat.le_of_ble_eq_true rfl) (mz_at hS (Nat.le_of_ble_eq_true rfl) mzcS_0) (fun _ h0 h1 => cs_370 (Nat.le_trans (Nat.le_of_ble_eq_true rfl) hd) (hS.le (Nat.le_of_ble_eq_true rfl)) (hR.le (Nat.le_of_ble_eq_true rfl))  N h1 h1000 h0 h1) hC (fun h2 hC => ?_) (fun h2 hC => ?_)
  · have hp := hp.1 h2
    refine g_i2l (g_last (mz_at hS (Nat.le_of_ble_eq_true rfl) mzcS_342) (mz_ibd (by decide)) (g_goto (tg := 14) rfl ms_369_14 (g_iconst mzi_0 ?_)))
    exact g_iret rfl (hr _ _ _ hC)
  · have hp := hp.2 h2
    have h4 := hp
    refine ⟨(1, 11, 12), (by rw [h4]; rfl), ?_⟩
    show mz_G (d, mz_X0 L xs, some .int, [(1, 11, 12)], mk_369, 3, Q) 12 (mz_sf mk_369 12) [] [] false (mz_k S R ((cf_370_0 N).2.2) b (t + 1))
    rw [ms_369_12]
    refine g_iconst mzi_1 ?_
    exact g_iret rfl (hr _ _ _ hC)
theorem cs_369 (hd : 5 ≤ d) (hS : mz_ext S 343) (hR : mz_rok R 343)  (N : mz_N) (t : Nat) (hp : cp_369_0 N t) (hq : Q (.inl (some (.int ((cf_369_0 N t).1)))) (mz_k S R ((cf_369_0 N t).2.1) b ((cf_369_0 N t).2.2))) : mz_Ed (mz_X0 L xs) d 369 [.ref 0, .ref 342] (mz_k S R N b t) Q :=
  by
  refine g_in mzq_369 (Nat.le_of_ble_eq_true rfl) (Nat.le_of_ble_eq_true rfl) (Nat.le_trans (Nat.le_of_ble_eq_true rfl) hd) ?_
  refine g_weak ?_ (cg_369_0 (d := d - 1) (by omega) hS hR N t (C0 := fun z => Q (.inl (some (.int z.1))) (mz_k S R z.2.1 b z.2.2)) (fun _ _ _ h => h) hp hq)
  exact ⟨rfl, rfl, trivial⟩
/-! 373 KeptHouse.tape (I)I -/
theorem ms_373_0 : mz_sf mk_373 0 = mk_373 := mz_sf_zero _
set_option maxRecDepth 100000 in
theorem mzq_373 : mz_PG0 373 = some (11, ⟨"KeptHouse", "tape", "(I)I"⟩, prog_1_method_67_code, 2, some .int, [], mk_373, []) := rfl
theorem cg_373_0 (hd : 1 ≤ d) (hS : mz_ext S 232) (hR : mz_rok R 232)  (v1 : Int32) (N : mz_N) {C0 : (Nat × Int32) → Prop} (hr : ∀ (w : Int32), C0 (0, w) → Q (.inl (some (.int w))) (mz_k S R N b t)) (ht : ∀ (c : Nat) (w : Int32), ¬ c = 0 → C0 (c, w) → Q (.inr (c - 1)) (mz_k S R N b (t + 1))) (h1000 : t < 1000) (hp : cp_373_0 v1 N) (hC : C0 (cf_373_0 v1 N)) : mz_G (d, mz_X0 L xs, some .int, [], mk_373, 2, Q) 0 mk_373 [(0, .ref 0), (1, .int v1)] [] true (mz_k S R N b t) := by
  unfold cf_373_0 at hC
  unfold cp_373_0 at hp
  refine g_aload_n rfl ?_
  obtain ⟨h1, hp⟩ := hp
  refine g_v1nt (Nat.le_of_ble_eq_true rfl) (mz_at hS (Nat.le_of_ble_eq_true rfl) mzcS_0) rfl (fun _ h0 h1 => cs_104 (Nat.le_trans (Nat.le_of_ble_eq_true rfl) hd) (hS.le (Nat.le_of_ble_eq_true rfl)) (hR.le (Nat.le_of_ble_eq_true rfl))  N h1 h1000 h0 h1) hC (fun h5 hC => ?_) (fun h5 hC => ?_)
  · have hp := hp.1 h5
    refine g_iload_n rfl (g_iconst mzi_0 (g_aload_n rfl (g_getR (mz_at hS (Nat.le_of_ble_eq_true rfl) mzcS_0) mzcf_11_0 (mz_rb hR (Nat.le_of_ble_eq_true rfl) rfl mzcR_0_0) (g_getI (mz_at hS (Nat.le_of_ble_eq_true rfl) mzcS_1) mzcf_4_10 (g_iconst mzi_1 (g_isub ?_))))))
    obtain ⟨h2, hp⟩ := hp
    refine g_s3nt (Nat.le_of_ble_eq_true rfl) rfl (fun _ h0 h1 => cs_105 (Nat.le_trans (Nat.le_of_ble_eq_true rfl) hd) (hS.le (Nat.le_of_ble_eq_true rfl)) (hR.le (Nat.le_of_ble_eq_true rfl))  v1 0 ((N.1 1 10) - 1) h2 h1000 h0 h1) hC (fun h4 hC => ?_) (fun h4 hC => ?_)
    · have hp := hp.1 h4
      refine g_aload_n rfl (g_getR (mz_at hS (Nat.le_of_ble_eq_true rfl) mzcS_0) mzcf_11_0 (mz_rb hR (Nat.le_of_ble_eq_true rfl) rfl mzcR_0_0) (g_getR (mz_at hS (Nat.le_of_ble_eq_true rfl) mzcS_1) mzcf_4_9 (mz_rb hR (Nat.le_of_ble_eq_true rfl) rfl mzcR_1_9) (g_iload_n rfl ?_)))
      have h3 := hp
      refine g_iald hS.1 (mz_at hS (Nat.le_of_ble_eq_true rfl) mzcS_228) h3 ?_
      exact g_iret rfl (hr _ hC)
    · have hp := hp.2 h4
      exact ht _ _ h4 hC
  · have hp := hp.2 h5
    exact ht _ _ h5 hC
theorem cs_373 (hd : 2 ≤ d) (hS : mz_ext S 232) (hR : mz_rok R 232)  (v1 : Int32) (N : mz_N) (hp : cp_373_0 v1 N) (h1000 : t < 1000) (h0 : (cf_373_0 v1 N).1 = 0 → Q (.inl (some (.int ((cf_373_0 v1 N).2)))) (mz_k S R N b t)) (h1 : ¬ (cf_373_0 v1 N).1 = 0 → Q (.inr (((cf_373_0 v1 N).1) - 1)) (mz_k S R N b (t + 1))) : mz_Ed (mz_X0 L xs) d 373 [.ref 0, .int v1] (mz_k S R N b t) Q :=
  by
  refine g_in mzq_373 (Nat.le_of_ble_eq_true rfl) (Nat.le_of_ble_eq_true rfl) (Nat.le_trans (Nat.le_of_ble_eq_true rfl) hd) ?_
  refine g_weak ?_ (cg_373_0 (d := d - 1) (by omega) hS hR v1 N (C0 := fun z => (z.1 = 0 → Q (.inl (some (.int z.2))) (mz_k S R N b t)) ∧ (¬ z.1 = 0 → Q (.inr (z.1 - 1)) (mz_k S R N b (t + 1)))) (fun _ h => h.1 rfl) (fun c _ hc h => h.2 hc) h1000 hp ⟨h0, h1⟩)
  exact ⟨rfl, rfl, trivial⟩
/-! 372 KeptHouseLaw.tape (LKeptHouse;I[J)I -/
theorem ms_372_0 : mz_sf mk_372 0 = mk_372 := mz_sf_zero _
theorem ms_372_13 : mz_sf mk_372 13 = mt_372_13 := mz_sf_add ms_372_0 (t := 13) rfl rfl
theorem ms_372_16 : mz_sf mk_372 16 = mt_372_16 := mz_sf_add ms_372_13 (t := 3) rfl rfl
theorem ms_372_18 : mz_sf mk_372 18 = mt_372_18 := mz_sf_add ms_372_16 (t := 2) rfl rfl
set_option maxRecDepth 100000 in
theorem mzq_372 : mz_PG0 372 = some (13, ⟨"KeptHouseLaw", "tape", "(LKeptHouse;I[J)I"⟩, method_61_code, 4, some .int, [(0, 9, 12, 13), (0, 9, 15, 15)], mk_372, [(0, 12, 13), (1, 15, 16)]) := rfl
theorem cg_372_0 (hd : 2 ≤ d) (hS : mz_ext S 343) (hR : mz_rok R 343)  (v1 : Int32) (N : mz_N) (t : Nat) {C0 : (Int32 × mz_N × Nat) → Prop} (hr : ∀ (w : Int32) (N2 : mz_N) (t2 : Nat), C0 (w, N2, t2) → Q (.inl (some (.int w))) (mz_k S R N2 b t2)) (hp : cp_372_0 v1 N t) (hC : C0 (cf_372_0 v1 N t)) : mz_G (d, mz_X0 L xs, some .int, [(0, 12, 13), (1, 15, 16)], mk_372, 4, Q) 0 mk_372 [(0, .ref 0), (1, .int v1), (2, .ref 342)] [] true (mz_k S R N b t) := by
  unfold cf_372_0 at hC
  unfold cp_372_0 at hp
  refine g_aload_n rfl (g_iconst mzi_0 (g_aload_n rfl (g_iload_n rfl ?_)))
  obtain ⟨h1, hp⟩ := hp
  obtain ⟨h1000, hp⟩ := hp
  refine g_v2vh (Nat.le_of_ble_eq_true rfl) (mz_at hS (Nat.le_of_ble_eq_true rfl) mzcS_0) (fun _ h0 h1 => cs_373 (Nat.le_trans (Nat.le_of_ble_eq_true rfl) hd) (hS.le (Nat.le_of_ble_eq_true rfl)) (hR.le (Nat.le_of_ble_eq_true rfl))  v1 N h1 h1000 h0 h1) hC (fun h2 hC => ?_) (fun h2 hC => ?_)
  · have hp := hp.1 h2
    refine g_i2l (g_last (mz_at hS (Nat.le_of_ble_eq_true rfl) mzcS_342) (mz_ibd (by decide)) (g_goto (tg := 18) rfl ms_372_18 (g_iconst mzi_0 ?_)))
    exact g_iret rfl (hr _ _ _ hC)
  · have hp := hp.2 h2
    refine mz_cs hC (fun h6 hC => ?_) (fun h6 hC => ?_)
    · have hp := hp.1 h6
      refine ⟨(0, 12, 13), (by rw [h6]; rfl), ?_⟩
      show mz_G (d, mz_X0 L xs, some .int, [(0, 12, 13), (1, 15, 16)], mk_372, 4, Q) 13 (mz_sf mk_372 13) [] [] false (mz_k S R N b (t + 1))
      rw [ms_372_13]
      refine g_iconst mzi_1 ?_
      exact g_iret rfl (hr _ _ _ hC)
    · have hp := hp.2 h6
      have h4 := hp
      refine ⟨(1, 15, 16), (by rw [h4]; rfl), ?_⟩
      show mz_G (d, mz_X0 L xs, some .int, [(0, 12, 13), (1, 15, 16)], mk_372, 4, Q) 16 (mz_sf mk_372 16) [] [] false (mz_k S R N b (t + 1))
      rw [ms_372_16]
      refine g_iconst mzi_2 ?_
      exact g_iret rfl (hr _ _ _ hC)
theorem cs_372 (hd : 3 ≤ d) (hS : mz_ext S 343) (hR : mz_rok R 343)  (v1 : Int32) (N : mz_N) (t : Nat) (hp : cp_372_0 v1 N t) (hq : Q (.inl (some (.int ((cf_372_0 v1 N t).1)))) (mz_k S R ((cf_372_0 v1 N t).2.1) b ((cf_372_0 v1 N t).2.2))) : mz_Ed (mz_X0 L xs) d 372 [.ref 0, .int v1, .ref 342] (mz_k S R N b t) Q :=
  by
  refine g_in mzq_372 (Nat.le_of_ble_eq_true rfl) (Nat.le_of_ble_eq_true rfl) (Nat.le_trans (Nat.le_of_ble_eq_true rfl) hd) ?_
  refine g_weak ?_ (cg_372_0 (d := d - 1) (by omega) hS hR v1 N t (C0 := fun z => Q (.inl (some (.int z.1))) (mz_k S R z.2.1 b z.2.2)) (fun _ _ _ h => h) hp hq)
  exact ⟨rfl, rfl, rfl, trivial⟩
/-! 375 KeptHouse.feed (I)I -/
theorem ms_375_0 : mz_sf mk_375 0 = mk_375 := mz_sf_zero _
theorem ms_375_29 : mz_sf mk_375 29 = mt_375_29 := mz_sf_add ms_375_0 (t := 29) rfl rfl
theorem ms_375_30 : mz_sf mk_375 30 = mt_375_30 := mz_sf_add ms_375_29 (t := 1) rfl rfl
theorem ms_375_62 : mz_sf mk_375 62 = mt_375_62 := mz_sf_add ms_375_30 (t := 32) rfl rfl
set_option maxRecDepth 100000 in
theorem mzq_375 : mz_PG0 375 = some (11, ⟨"KeptHouse", "feed", "(I)I"⟩, prog_1_method_68_code, 2, some .int, [], mk_375, []) := rfl
theorem cg_375_62 (hd : 1 ≤ d) (hS : mz_ext S 232) (hR : mz_rok R 232)  (N : mz_N) {C0 : (Nat × Int32 × mz_N) → Prop} (hr : ∀ (w : Int32) (N2 : mz_N), C0 (0, w, N2) → Q (.inl (some (.int w))) (mz_k S R N2 b t)) (ht : ∀ (c : Nat) (w : Int32) (N2 : mz_N), ¬ c = 0 → C0 (c, w, N2) → Q (.inr (c - 1)) (mz_k S R N2 b (t + 1))) (h1000 : t < 1000) (hp : cp_375_62 N) (hC : C0 (cf_375_62 N)) : mz_G (d, mz_X0 L xs, some .int, [], mk_375, 2, Q) 62 mt_375_62 [(0, .ref 0)] [] false (mz_k S R N b t) := by
  unfold cf_375_62 at hC
  unfold cp_375_62 at hp
  refine g_aload_n rfl (g_getR (mz_at hS (Nat.le_of_ble_eq_true rfl) mzcS_0) mzcf_11_0 (mz_rb hR (Nat.le_of_ble_eq_true rfl) rfl mzcR_0_0) (g_getI (mz_at hS (Nat.le_of_ble_eq_true rfl) mzcS_1) mzcf_4_12 ?_))
  exact g_iret rfl (hr _ _ hC)
theorem cg_375_30 (hd : 1 ≤ d) (hS : mz_ext S 232) (hR : mz_rok R 232)  (s0 : Bool) (v1 : Int32) (N : mz_N) {C0 : (Nat × Int32 × mz_N) → Prop} (hr : ∀ (w : Int32) (N2 : mz_N), C0 (0, w, N2) → Q (.inl (some (.int w))) (mz_k S R N2 b t)) (ht : ∀ (c : Nat) (w : Int32) (N2 : mz_N), ¬ c = 0 → C0 (c, w, N2) → Q (.inr (c - 1)) (mz_k S R N2 b (t + 1))) (h1000 : t < 1000) (hp : cp_375_30 s0 v1 N) (hC : C0 (cf_375_30 s0 v1 N)) : mz_G (d, mz_X0 L xs, some .int, [], mk_375, 2, Q) 30 mt_375_30 [(0, .ref 0), (1, .int v1)] [.int (mz_b01 s0)] false (mz_k S R N b t) := by
  unfold cf_375_30 at hC
  unfold cp_375_30 at hp
  refine g_s1nt (Nat.le_of_ble_eq_true rfl) rfl (fun _ h0 h1 => cs_187 (Nat.le_trans (Nat.le_of_ble_eq_true rfl) hd) (hS.le (Nat.le_of_ble_eq_true rfl)) (hR.le (Nat.le_of_ble_eq_true rfl))  s0 trivial h1000 h0 h1) hC (fun h3 hC => ?_) (fun h3 hC => ?_)
  · have hp := hp.1 h3
    refine g_aload_n rfl (g_getR (mz_at hS (Nat.le_of_ble_eq_true rfl) mzcS_0) mzcf_11_0 (mz_rb hR (Nat.le_of_ble_eq_true rfl) rfl mzcR_0_0) (g_getR (mz_at hS (Nat.le_of_ble_eq_true rfl) mzcS_1) mzcf_4_11 (mz_rb hR (Nat.le_of_ble_eq_true rfl) rfl mzcR_1_11) (g_aload_n rfl (g_getR (mz_at hS (Nat.le_of_ble_eq_true rfl) mzcS_0) mzcf_11_0 (mz_rb hR (Nat.le_of_ble_eq_true rfl) rfl mzcR_0_0) (g_getI (mz_at hS (Nat.le_of_ble_eq_true rfl) mzcS_1) mzcf_4_12 (g_iload_n rfl ?_))))))
    obtain ⟨h2, hp⟩ := hp
    refine g_iast (mz_at hS (Nat.le_of_ble_eq_true rfl) mzcS_229) h2 (g_aload_n rfl (g_getR (mz_at hS (Nat.le_of_ble_eq_true rfl) mzcS_0) mzcf_11_0 (mz_rb hR (Nat.le_of_ble_eq_true rfl) rfl mzcR_0_0) (g_dup rfl (g_getI (mz_at hS (Nat.le_of_ble_eq_true rfl) mzcS_1) mzcf_4_12 (g_iconst mzi_1 (g_iadd (g_putI (mz_at hS (Nat.le_of_ble_eq_true rfl) mzcS_1) mzcf_4_12 ?_)))))))
    refine g_weak ?_ (g_cl (cg_375_62 hd hS hR (mz_pI (mz_wI N 229 (N.1 1 12) v1) 1 12 (((mz_wI N 229 (N.1 1 12) v1).1 1 12) + 1)) hr ht h1000 hp hC))
    exact ⟨rfl, trivial⟩
  · have hp := hp.2 h3
    exact ht _ _ _ h3 hC
theorem cg_375_0 (hd : 1 ≤ d) (hS : mz_ext S 232) (hR : mz_rok R 232)  (v1 : Int32) (N : mz_N) {C0 : (Nat × Int32 × mz_N) → Prop} (hr : ∀ (w : Int32) (N2 : mz_N), C0 (0, w, N2) → Q (.inl (some (.int w))) (mz_k S R N2 b t)) (ht : ∀ (c : Nat) (w : Int32) (N2 : mz_N), ¬ c = 0 → C0 (c, w, N2) → Q (.inr (c - 1)) (mz_k S R N2 b (t + 1))) (h1000 : t < 1000) (hp : cp_375_0 v1 N) (hC : C0 (cf_375_0 v1 N)) : mz_G (d, mz_X0 L xs, some .int, [], mk_375, 2, Q) 0 mk_375 [(0, .ref 0), (1, .int v1)] [] true (mz_k S R N b t) := by
  unfold cf_375_0 at hC
  unfold cp_375_0 at hp
  refine g_aload_n rfl ?_
  obtain ⟨h1, hp⟩ := hp
  refine g_v1nt (Nat.le_of_ble_eq_true rfl) (mz_at hS (Nat.le_of_ble_eq_true rfl) mzcS_0) rfl (fun _ h0 h1 => cs_104 (Nat.le_trans (Nat.le_of_ble_eq_true rfl) hd) (hS.le (Nat.le_of_ble_eq_true rfl)) (hR.le (Nat.le_of_ble_eq_true rfl))  N h1 h1000 h0 h1) hC (fun h5 hC => ?_) (fun h5 hC => ?_)
  · have hp := hp.1 h5
    refine g_iload_n rfl (g_iconst mzi_0 (g_sipush mzs_255 ?_))
    obtain ⟨h2, hp⟩ := hp
    refine g_s3nt (Nat.le_of_ble_eq_true rfl) rfl (fun _ h0 h1 => cs_105 (Nat.le_trans (Nat.le_of_ble_eq_true rfl) hd) (hS.le (Nat.le_of_ble_eq_true rfl)) (hR.le (Nat.le_of_ble_eq_true rfl))  v1 0 255 h2 h1000 h0 h1) hC (fun h4 hC => ?_) (fun h4 hC => ?_)
    · have hp := hp.1 h4
      refine g_aload_n rfl (g_getR (mz_at hS (Nat.le_of_ble_eq_true rfl) mzcS_0) mzcf_11_0 (mz_rb hR (Nat.le_of_ble_eq_true rfl) rfl mzcR_0_0) (g_getI (mz_at hS (Nat.le_of_ble_eq_true rfl) mzcS_1) mzcf_4_12 (g_sipush mzs_4100 ?_)))
      refine g_icge (tg := 29) rfl ms_375_29 hC (fun h3 hC => ?_) (fun h3 hC => ?_)
      · have hp := hp.1 h3
        refine g_iconst mzi_1 (g_goto (tg := 30) rfl ms_375_30 ?_)
        refine g_weak ?_ (g_cl (cg_375_30 hd hS hR true v1 N hr ht h1000 hp hC))
        exact ⟨rfl, rfl, trivial⟩
      · have hp := hp.2 h3
        refine g_iconst mzi_0 ?_
        refine g_weak ?_ (g_cl (cg_375_30 hd hS hR false v1 N hr ht h1000 hp hC))
        exact ⟨rfl, rfl, trivial⟩
    · have hp := hp.2 h4
      exact ht _ _ _ h4 hC
  · have hp := hp.2 h5
    exact ht _ _ _ h5 hC
theorem cs_375 (hd : 2 ≤ d) (hS : mz_ext S 232) (hR : mz_rok R 232)  (v1 : Int32) (N : mz_N) (hp : cp_375_0 v1 N) (h1000 : t < 1000) (h0 : (cf_375_0 v1 N).1 = 0 → Q (.inl (some (.int ((cf_375_0 v1 N).2.1)))) (mz_k S R ((cf_375_0 v1 N).2.2) b t)) (h1 : ¬ (cf_375_0 v1 N).1 = 0 → Q (.inr (((cf_375_0 v1 N).1) - 1)) (mz_k S R ((cf_375_0 v1 N).2.2) b (t + 1))) : mz_Ed (mz_X0 L xs) d 375 [.ref 0, .int v1] (mz_k S R N b t) Q :=
  by
  refine g_in mzq_375 (Nat.le_of_ble_eq_true rfl) (Nat.le_of_ble_eq_true rfl) (Nat.le_trans (Nat.le_of_ble_eq_true rfl) hd) ?_
  refine g_weak ?_ (cg_375_0 (d := d - 1) (by omega) hS hR v1 N (C0 := fun z => (z.1 = 0 → Q (.inl (some (.int z.2.1))) (mz_k S R z.2.2 b t)) ∧ (¬ z.1 = 0 → Q (.inr (z.1 - 1)) (mz_k S R z.2.2 b (t + 1)))) (fun _ _ h => h.1 rfl) (fun c _ _ hc h => h.2 hc) h1000 hp ⟨h0, h1⟩)
  exact ⟨rfl, rfl, trivial⟩
/-! 374 KeptHouseLaw.feed (LKeptHouse;I[J)I -/
theorem ms_374_0 : mz_sf mk_374 0 = mk_374 := mz_sf_zero _
theorem ms_374_13 : mz_sf mk_374 13 = mt_374_13 := mz_sf_add ms_374_0 (t := 13) rfl rfl
theorem ms_374_16 : mz_sf mk_374 16 = mt_374_16 := mz_sf_add ms_374_13 (t := 3) rfl rfl
theorem ms_374_18 : mz_sf mk_374 18 = mt_374_18 := mz_sf_add ms_374_16 (t := 2) rfl rfl
set_option maxRecDepth 100000 in
theorem mzq_374 : mz_PG0 374 = some (13, ⟨"KeptHouseLaw", "feed", "(LKeptHouse;I[J)I"⟩, method_62_code, 4, some .int, [(0, 9, 12, 13), (0, 9, 15, 15)], mk_374, [(0, 12, 13), (1, 15, 16)]) := rfl
theorem cg_374_0 (hd : 2 ≤ d) (hS : mz_ext S 343) (hR : mz_rok R 343)  (v1 : Int32) (N : mz_N) (t : Nat) {C0 : (Int32 × mz_N × Nat) → Prop} (hr : ∀ (w : Int32) (N2 : mz_N) (t2 : Nat), C0 (w, N2, t2) → Q (.inl (some (.int w))) (mz_k S R N2 b t2)) (hp : cp_374_0 v1 N t) (hC : C0 (cf_374_0 v1 N t)) : mz_G (d, mz_X0 L xs, some .int, [(0, 12, 13), (1, 15, 16)], mk_374, 4, Q) 0 mk_374 [(0, .ref 0), (1, .int v1), (2, .ref 342)] [] true (mz_k S R N b t) := by
  unfold cf_374_0 at hC
  unfold cp_374_0 at hp
  refine g_aload_n rfl (g_iconst mzi_0 (g_aload_n rfl (g_iload_n rfl ?_)))
  obtain ⟨h1, hp⟩ := hp
  obtain ⟨h1000, hp⟩ := hp
  refine g_v2vh (Nat.le_of_ble_eq_true rfl) (mz_at hS (Nat.le_of_ble_eq_true rfl) mzcS_0) (fun _ h0 h1 => cs_375 (Nat.le_trans (Nat.le_of_ble_eq_true rfl) hd) (hS.le (Nat.le_of_ble_eq_true rfl)) (hR.le (Nat.le_of_ble_eq_true rfl))  v1 N h1 h1000 h0 h1) hC (fun h2 hC => ?_) (fun h2 hC => ?_)
  · have hp := hp.1 h2
    refine g_i2l (g_last (mz_at hS (Nat.le_of_ble_eq_true rfl) mzcS_342) (mz_ibd (by decide)) (g_goto (tg := 18) rfl ms_374_18 (g_iconst mzi_0 ?_)))
    exact g_iret rfl (hr _ _ _ hC)
  · have hp := hp.2 h2
    refine mz_cs hC (fun h6 hC => ?_) (fun h6 hC => ?_)
    · have hp := hp.1 h6
      refine ⟨(0, 12, 13), (by rw [h6]; rfl), ?_⟩
      show mz_G (d, mz_X0 L xs, some .int, [(0, 12, 13), (1, 15, 16)], mk_374, 4, Q) 13 (mz_sf mk_374 13) [] [] false (mz_k S R ((cf_375_0 v1 N).2.2) b (t + 1))
      rw [ms_374_13]
      refine g_iconst mzi_1 ?_
      exact g_iret rfl (hr _ _ _ hC)
    · have hp := hp.2 h6
      have h4 := hp
      refine ⟨(1, 15, 16), (by rw [h4]; rfl), ?_⟩
      show mz_G (d, mz_X0 L xs, some .int, [(0, 12, 13), (1, 15, 16)], mk_374, 4, Q) 16 (mz_sf mk_374 16) [] [] false (mz_k S R ((cf_375_0 v1 N).2.2) b (t + 1))
      rw [ms_374_16]
      refine g_iconst mzi_2 ?_
      exact g_iret rfl (hr _ _ _ hC)
theorem cs_374 (hd : 3 ≤ d) (hS : mz_ext S 343) (hR : mz_rok R 343)  (v1 : Int32) (N : mz_N) (t : Nat) (hp : cp_374_0 v1 N t) (hq : Q (.inl (some (.int ((cf_374_0 v1 N t).1)))) (mz_k S R ((cf_374_0 v1 N t).2.1) b ((cf_374_0 v1 N t).2.2))) : mz_Ed (mz_X0 L xs) d 374 [.ref 0, .int v1, .ref 342] (mz_k S R N b t) Q :=
  by
  refine g_in mzq_374 (Nat.le_of_ble_eq_true rfl) (Nat.le_of_ble_eq_true rfl) (Nat.le_trans (Nat.le_of_ble_eq_true rfl) hd) ?_
  refine g_weak ?_ (cg_374_0 (d := d - 1) (by omega) hS hR v1 N t (C0 := fun z => Q (.inl (some (.int z.1))) (mz_k S R z.2.1 b z.2.2)) (fun _ _ _ h => h) hp hq)
  exact ⟨rfl, rfl, rfl, trivial⟩
/-! 378 KeptHouse$Keeper.copyTape ()V -/
theorem ms_378_0 : mz_sf mk_378 0 = mk_378 := mz_sf_zero _
theorem ms_378_33 : mz_sf mk_378 33 = mt_378_33 := mz_sf_add ms_378_0 (t := 33) rfl rfl
set_option maxRecDepth 100000 in
theorem mzq_378 : mz_PG0 378 = some (4, ⟨"KeptHouse$Keeper", "copyTape", "()V"⟩, prog_6_method_11_code, 2, none, [], mk_378, []) := rfl
theorem cg_378_0 (hd : 0 ≤ d) (hS : mz_ext S 232) (hR : mz_rok R 232)  (N : mz_N) {C0 : (mz_N) → Prop} (hr : ∀ (N2 : mz_N), C0 N2 → Q (.inl none) (mz_k S R N2 b t)) (hp : cp_378_0 N) (hC : C0 (cf_378_0 N)) : mz_G (d, mz_X0 L xs, none, [], mk_378, 2, Q) 0 mk_378 [(0, .ref 1)] [] true (mz_k S R N b t) := by
  unfold cf_378_0 at hC
  unfold cp_378_0 at hp
  refine g_aload_n rfl (g_getI (mz_at hS (Nat.le_of_ble_eq_true rfl) mzcS_1) mzcf_4_10 (g_sipush mzs_4100 (g_aload_n rfl (g_getI (mz_at hS (Nat.le_of_ble_eq_true rfl) mzcS_1) mzcf_4_12 (g_isub (g_imin (Nat.le_of_ble_eq_true rfl) (g_istore_n (Nat.le_of_ble_eq_true rfl) rfl ?_)))))))
  refine g_aload_n rfl (g_getR (mz_at hS (Nat.le_of_ble_eq_true rfl) mzcS_1) mzcf_4_9 (mz_rb hR (Nat.le_of_ble_eq_true rfl) rfl mzcR_1_9) (g_iconst mzi_0 (g_aload_n rfl (g_getR (mz_at hS (Nat.le_of_ble_eq_true rfl) mzcS_1) mzcf_4_11 (mz_rb hR (Nat.le_of_ble_eq_true rfl) rfl mzcR_1_11) (g_aload_n rfl (g_getI (mz_at hS (Nat.le_of_ble_eq_true rfl) mzcS_1) mzcf_4_12 (g_iload_n rfl ?_)))))))
  have h1 := hp
  refine g_cpI (Nat.le_of_ble_eq_true rfl) (mz_at hS (Nat.le_of_ble_eq_true rfl) mzcS_228) (mz_at hS (Nat.le_of_ble_eq_true rfl) mzcS_229) h1 (g_aload_n rfl (g_dup rfl (g_getI (mz_at hS (Nat.le_of_ble_eq_true rfl) mzcS_1) mzcf_4_12 (g_iload_n rfl (g_iadd (g_putI (mz_at hS (Nat.le_of_ble_eq_true rfl) mzcS_1) mzcf_4_12 ?_))))))
  exact g_vret rfl (hr _ hC)
theorem cs_378 (hd : 1 ≤ d) (hS : mz_ext S 232) (hR : mz_rok R 232)  (N : mz_N) (hp : cp_378_0 N) (hq : Q (.inl none) (mz_k S R (cf_378_0 N) b t)) : mz_Ed (mz_X0 L xs) d 378 [.ref 1] (mz_k S R N b t) Q :=
  by
  refine g_in mzq_378 (Nat.le_of_ble_eq_true rfl) (Nat.le_of_ble_eq_true rfl) (Nat.le_trans (Nat.le_of_ble_eq_true rfl) hd) ?_
  refine g_weak ?_ (cg_378_0 (d := d - 1) (by omega) hS hR N (C0 := fun z => Q (.inl none) (mz_k S R z b t)) (fun _ h => h) hp hq)
  exact ⟨rfl, trivial⟩
/-! 377 KeptHouse.copy ()I -/
theorem ms_377_0 : mz_sf mk_377 0 = mk_377 := mz_sf_zero _
set_option maxRecDepth 100000 in
theorem mzq_377 : mz_PG0 377 = some (11, ⟨"KeptHouse", "copy", "()I"⟩, prog_1_method_69_code, 1, some .int, [], mk_377, []) := rfl
theorem cg_377_0 (hd : 1 ≤ d) (hS : mz_ext S 232) (hR : mz_rok R 232)  (N : mz_N) {C0 : (Nat × Int32 × mz_N) → Prop} (hr : ∀ (w : Int32) (N2 : mz_N), C0 (0, w, N2) → Q (.inl (some (.int w))) (mz_k S R N2 b t)) (ht : ∀ (c : Nat) (w : Int32) (N2 : mz_N), ¬ c = 0 → C0 (c, w, N2) → Q (.inr (c - 1)) (mz_k S R N2 b (t + 1))) (h1000 : t < 1000) (hp : cp_377_0 N) (hC : C0 (cf_377_0 N)) : mz_G (d, mz_X0 L xs, some .int, [], mk_377, 1, Q) 0 mk_377 [(0, .ref 0)] [] true (mz_k S R N b t) := by
  unfold cf_377_0 at hC
  unfold cp_377_0 at hp
  refine g_aload_n rfl ?_
  obtain ⟨h1, hp⟩ := hp
  refine g_v1nt (Nat.le_of_ble_eq_true rfl) (mz_at hS (Nat.le_of_ble_eq_true rfl) mzcS_0) rfl (fun _ h0 h1 => cs_104 (Nat.le_trans (Nat.le_of_ble_eq_true rfl) hd) (hS.le (Nat.le_of_ble_eq_true rfl)) (hR.le (Nat.le_of_ble_eq_true rfl))  N h1 h1000 h0 h1) hC (fun h3 hC => ?_) (fun h3 hC => ?_)
  · have hp := hp.1 h3
    refine g_aload_n rfl (g_getR (mz_at hS (Nat.le_of_ble_eq_true rfl) mzcS_0) mzcf_11_0 (mz_rb hR (Nat.le_of_ble_eq_true rfl) rfl mzcR_0_0) ?_)
    have h2 := hp
    refine g_v1n (Nat.le_of_ble_eq_true rfl) (mz_at hS (Nat.le_of_ble_eq_true rfl) mzcS_1) (fun _ hq => cs_378 (Nat.le_trans (Nat.le_of_ble_eq_true rfl) hd) (hS.le (Nat.le_of_ble_eq_true rfl)) (hR.le (Nat.le_of_ble_eq_true rfl))  N h2 hq) (g_aload_n rfl (g_getR (mz_at hS (Nat.le_of_ble_eq_true rfl) mzcS_0) mzcf_11_0 (mz_rb hR (Nat.le_of_ble_eq_true rfl) rfl mzcR_0_0) (g_getI (mz_at hS (Nat.le_of_ble_eq_true rfl) mzcS_1) mzcf_4_12 ?_)))
    exact g_iret rfl (hr _ _ hC)
  · have hp := hp.2 h3
    exact ht _ _ _ h3 hC
theorem cs_377 (hd : 2 ≤ d) (hS : mz_ext S 232) (hR : mz_rok R 232)  (N : mz_N) (hp : cp_377_0 N) (h1000 : t < 1000) (h0 : (cf_377_0 N).1 = 0 → Q (.inl (some (.int ((cf_377_0 N).2.1)))) (mz_k S R ((cf_377_0 N).2.2) b t)) (h1 : ¬ (cf_377_0 N).1 = 0 → Q (.inr (((cf_377_0 N).1) - 1)) (mz_k S R ((cf_377_0 N).2.2) b (t + 1))) : mz_Ed (mz_X0 L xs) d 377 [.ref 0] (mz_k S R N b t) Q :=
  by
  refine g_in mzq_377 (Nat.le_of_ble_eq_true rfl) (Nat.le_of_ble_eq_true rfl) (Nat.le_trans (Nat.le_of_ble_eq_true rfl) hd) ?_
  refine g_weak ?_ (cg_377_0 (d := d - 1) (by omega) hS hR N (C0 := fun z => (z.1 = 0 → Q (.inl (some (.int z.2.1))) (mz_k S R z.2.2 b t)) ∧ (¬ z.1 = 0 → Q (.inr (z.1 - 1)) (mz_k S R z.2.2 b (t + 1)))) (fun _ _ h => h.1 rfl) (fun c _ _ hc h => h.2 hc) h1000 hp ⟨h0, h1⟩)
  exact ⟨rfl, trivial⟩
/-! 376 KeptHouseLaw.copy (LKeptHouse;[J)I -/
theorem ms_376_0 : mz_sf mk_376 0 = mk_376 := mz_sf_zero _
theorem ms_376_12 : mz_sf mk_376 12 = mt_376_12 := mz_sf_add ms_376_0 (t := 12) rfl rfl
theorem ms_376_14 : mz_sf mk_376 14 = mt_376_14 := mz_sf_add ms_376_12 (t := 2) rfl rfl
set_option maxRecDepth 100000 in
theorem mzq_376 : mz_PG0 376 = some (13, ⟨"KeptHouseLaw", "copy", "(LKeptHouse;[J)I"⟩, method_63_code, 3, some .int, [(0, 8, 11, 15)], mk_376, [(1, 11, 12)]) := rfl
theorem cg_376_0 (hd : 2 ≤ d) (hS : mz_ext S 343) (hR : mz_rok R 343)  (N : mz_N) (t : Nat) {C0 : (Int32 × mz_N × Nat) → Prop} (hr : ∀ (w : Int32) (N2 : mz_N) (t2 : Nat), C0 (w, N2, t2) → Q (.inl (some (.int w))) (mz_k S R N2 b t2)) (hp : cp_376_0 N t) (hC : C0 (cf_376_0 N t)) : mz_G (d, mz_X0 L xs, some .int, [(1, 11, 12)], mk_376, 3, Q) 0 mk_376 [(0, .ref 0), (1, .ref 342)] [] true (mz_k S R N b t) := by
  unfold cf_376_0 at hC
  unfold cp_376_0 at hp
  refine g_aload_n rfl (g_iconst mzi_0 (g_aload_n rfl ?_))
  obtain ⟨h1, hp⟩ := hp
  obtain ⟨h1000, hp⟩ := hp
  refine g_v1vh (Nat.le_of_ble_eq_true rfl) (mz_at hS (Nat.le_of_ble_eq_true rfl) mzcS_0) (fun _ h0 h1 => cs_377 (Nat.le_trans (Nat.le_of_ble_eq_true rfl) hd) (hS.le (Nat.le_of_ble_eq_true rfl)) (hR.le (Nat.le_of_ble_eq_true rfl))  N h1 h1000 h0 h1) hC (fun h2 hC => ?_) (fun h2 hC => ?_)
  · have hp := hp.1 h2
    refine g_i2l (g_last (mz_at hS (Nat.le_of_ble_eq_true rfl) mzcS_342) (mz_ibd (by decide)) (g_goto (tg := 14) rfl ms_376_14 (g_iconst mzi_0 ?_)))
    exact g_iret rfl (hr _ _ _ hC)
  · have hp := hp.2 h2
    have h4 := hp
    refine ⟨(1, 11, 12), (by rw [h4]; rfl), ?_⟩
    show mz_G (d, mz_X0 L xs, some .int, [(1, 11, 12)], mk_376, 3, Q) 12 (mz_sf mk_376 12) [] [] false (mz_k S R ((cf_377_0 N).2.2) b (t + 1))
    rw [ms_376_12]
    refine g_iconst mzi_1 ?_
    exact g_iret rfl (hr _ _ _ hC)
theorem cs_376 (hd : 3 ≤ d) (hS : mz_ext S 343) (hR : mz_rok R 343)  (N : mz_N) (t : Nat) (hp : cp_376_0 N t) (hq : Q (.inl (some (.int ((cf_376_0 N t).1)))) (mz_k S R ((cf_376_0 N t).2.1) b ((cf_376_0 N t).2.2))) : mz_Ed (mz_X0 L xs) d 376 [.ref 0, .ref 342] (mz_k S R N b t) Q :=
  by
  refine g_in mzq_376 (Nat.le_of_ble_eq_true rfl) (Nat.le_of_ble_eq_true rfl) (Nat.le_trans (Nat.le_of_ble_eq_true rfl) hd) ?_
  refine g_weak ?_ (cg_376_0 (d := d - 1) (by omega) hS hR N t (C0 := fun z => Q (.inl (some (.int z.1))) (mz_k S R z.2.1 b z.2.2)) (fun _ _ _ h => h) hp hq)
  exact ⟨rfl, rfl, trivial⟩
/-! 380 KeptHouse.poke (II)I -/
theorem ms_380_0 : mz_sf mk_380 0 = mk_380 := mz_sf_zero _
theorem ms_380_26 : mz_sf mk_380 26 = mt_380_26 := mz_sf_add ms_380_0 (t := 26) rfl rfl
theorem ms_380_46 : mz_sf mk_380 46 = mt_380_46 := mz_sf_add ms_380_26 (t := 20) rfl rfl
set_option maxRecDepth 100000 in
theorem mzq_380 : mz_PG0 380 = some (11, ⟨"KeptHouse", "poke", "(II)I"⟩, prog_1_method_70_code, 4, some .int, [], mk_380, []) := rfl
theorem cg_380_0 (hd : 1 ≤ d) (hS : mz_ext S 232) (hR : mz_rok R 232)  (v1 : Int32) (v2 : Int32) (N : mz_N) {C0 : (Nat × Int32 × mz_N) → Prop} (hr : ∀ (w : Int32) (N2 : mz_N), C0 (0, w, N2) → Q (.inl (some (.int w))) (mz_k S R N2 b t)) (ht : ∀ (c : Nat) (w : Int32) (N2 : mz_N), ¬ c = 0 → C0 (c, w, N2) → Q (.inr (c - 1)) (mz_k S R N2 b (t + 1))) (h1000 : t < 1000) (hp : cp_380_0 v1 v2 N) (hC : C0 (cf_380_0 v1 v2 N)) : mz_G (d, mz_X0 L xs, some .int, [], mk_380, 4, Q) 0 mk_380 [(0, .ref 0), (1, .int v1), (2, .int v2)] [] true (mz_k S R N b t) := by
  unfold cf_380_0 at hC
  unfold cp_380_0 at hp
  refine g_aload_n rfl ?_
  obtain ⟨h1, hp⟩ := hp
  refine g_v1nt (Nat.le_of_ble_eq_true rfl) (mz_at hS (Nat.le_of_ble_eq_true rfl) mzcS_0) rfl (fun _ h0 h1 => cs_104 (Nat.le_trans (Nat.le_of_ble_eq_true rfl) hd) (hS.le (Nat.le_of_ble_eq_true rfl)) (hR.le (Nat.le_of_ble_eq_true rfl))  N h1 h1000 h0 h1) hC (fun h8 hC => ?_) (fun h8 hC => ?_)
  · have hp := hp.1 h8
    refine g_iload_n rfl (g_iconst mzi_0 (g_aload_n rfl (g_getR (mz_at hS (Nat.le_of_ble_eq_true rfl) mzcS_0) mzcf_11_0 (mz_rb hR (Nat.le_of_ble_eq_true rfl) rfl mzcR_0_0) (g_getI (mz_at hS (Nat.le_of_ble_eq_true rfl) mzcS_1) mzcf_4_12 (g_iconst mzi_1 (g_isub ?_))))))
    obtain ⟨h2, hp⟩ := hp
    refine g_s3nt (Nat.le_of_ble_eq_true rfl) rfl (fun _ h0 h1 => cs_105 (Nat.le_trans (Nat.le_of_ble_eq_true rfl) hd) (hS.le (Nat.le_of_ble_eq_true rfl)) (hR.le (Nat.le_of_ble_eq_true rfl))  v1 0 ((N.1 1 12) - 1) h2 h1000 h0 h1) hC (fun h7 hC => ?_) (fun h7 hC => ?_)
    · have hp := hp.1 h7
      refine g_iload_n rfl (g_iconst mzi_0 (g_sipush mzs_255 ?_))
      obtain ⟨h3, hp⟩ := hp
      refine g_s3nt (Nat.le_of_ble_eq_true rfl) rfl (fun _ h0 h1 => cs_105 (Nat.le_trans (Nat.le_of_ble_eq_true rfl) hd) (hS.le (Nat.le_of_ble_eq_true rfl)) (hR.le (Nat.le_of_ble_eq_true rfl))  v2 0 255 h3 h1000 h0 h1) hC (fun h6 hC => ?_) (fun h6 hC => ?_)
      · have hp := hp.1 h6
        refine g_aload_n rfl (g_getR (mz_at hS (Nat.le_of_ble_eq_true rfl) mzcS_0) mzcf_11_0 (mz_rb hR (Nat.le_of_ble_eq_true rfl) rfl mzcR_0_0) (g_getR (mz_at hS (Nat.le_of_ble_eq_true rfl) mzcS_1) mzcf_4_11 (mz_rb hR (Nat.le_of_ble_eq_true rfl) rfl mzcR_1_11) (g_iload_n rfl ?_)))
        obtain ⟨h4, hp⟩ := hp
        refine g_iald hS.1 (mz_at hS (Nat.le_of_ble_eq_true rfl) mzcS_229) h4 (g_istore_n (Nat.le_of_ble_eq_true rfl) rfl (g_aload_n rfl (g_getR (mz_at hS (Nat.le_of_ble_eq_true rfl) mzcS_0) mzcf_11_0 (mz_rb hR (Nat.le_of_ble_eq_true rfl) rfl mzcR_0_0) (g_getR (mz_at hS (Nat.le_of_ble_eq_true rfl) mzcS_1) mzcf_4_11 (mz_rb hR (Nat.le_of_ble_eq_true rfl) rfl mzcR_1_11) (g_iload_n rfl (g_iload_n rfl ?_))))))
        have h5 := hp
        refine g_iast (mz_at hS (Nat.le_of_ble_eq_true rfl) mzcS_229) h5 (g_iload_n rfl ?_)
        exact g_iret rfl (hr _ _ hC)
      · have hp := hp.2 h6
        exact ht _ _ _ h6 hC
    · have hp := hp.2 h7
      exact ht _ _ _ h7 hC
  · have hp := hp.2 h8
    exact ht _ _ _ h8 hC
theorem cs_380 (hd : 2 ≤ d) (hS : mz_ext S 232) (hR : mz_rok R 232)  (v1 : Int32) (v2 : Int32) (N : mz_N) (hp : cp_380_0 v1 v2 N) (h1000 : t < 1000) (h0 : (cf_380_0 v1 v2 N).1 = 0 → Q (.inl (some (.int ((cf_380_0 v1 v2 N).2.1)))) (mz_k S R ((cf_380_0 v1 v2 N).2.2) b t)) (h1 : ¬ (cf_380_0 v1 v2 N).1 = 0 → Q (.inr (((cf_380_0 v1 v2 N).1) - 1)) (mz_k S R ((cf_380_0 v1 v2 N).2.2) b (t + 1))) : mz_Ed (mz_X0 L xs) d 380 [.ref 0, .int v1, .int v2] (mz_k S R N b t) Q :=
  by
  refine g_in mzq_380 (Nat.le_of_ble_eq_true rfl) (Nat.le_of_ble_eq_true rfl) (Nat.le_trans (Nat.le_of_ble_eq_true rfl) hd) ?_
  refine g_weak ?_ (cg_380_0 (d := d - 1) (by omega) hS hR v1 v2 N (C0 := fun z => (z.1 = 0 → Q (.inl (some (.int z.2.1))) (mz_k S R z.2.2 b t)) ∧ (¬ z.1 = 0 → Q (.inr (z.1 - 1)) (mz_k S R z.2.2 b (t + 1)))) (fun _ _ h => h.1 rfl) (fun c _ _ hc h => h.2 hc) h1000 hp ⟨h0, h1⟩)
  exact ⟨rfl, rfl, rfl, trivial⟩
/-! 379 KeptHouseLaw.poke (LKeptHouse;II[J)I -/
theorem ms_379_0 : mz_sf mk_379 0 = mk_379 := mz_sf_zero _
theorem ms_379_15 : mz_sf mk_379 15 = mt_379_15 := mz_sf_add ms_379_0 (t := 15) rfl rfl
theorem ms_379_19 : mz_sf mk_379 19 = mt_379_19 := mz_sf_add ms_379_15 (t := 4) rfl rfl
theorem ms_379_21 : mz_sf mk_379 21 = mt_379_21 := mz_sf_add ms_379_19 (t := 2) rfl rfl
set_option maxRecDepth 100000 in
theorem mzq_379 : mz_PG0 379 = some (13, ⟨"KeptHouseLaw", "poke", "(LKeptHouse;II[J)I"⟩, method_64_code, 5, some .int, [(0, 10, 13, 13), (0, 10, 17, 15)], mk_379, [(0, 13, 15), (1, 17, 19)]) := rfl
theorem cg_379_21 (hd : 2 ≤ d) (hS : mz_ext S 343) (hR : mz_rok R 343)  (N : mz_N) (t : Nat) {C0 : (Int32 × mz_N × Nat) → Prop} (hr : ∀ (w : Int32) (N2 : mz_N) (t2 : Nat), C0 (w, N2, t2) → Q (.inl (some (.int w))) (mz_k S R N2 b t2)) (hp : cp_379_21 N t) (hC : C0 (cf_379_21 N t)) : mz_G (d, mz_X0 L xs, some .int, [(0, 13, 15), (1, 17, 19)], mk_379, 5, Q) 21 mt_379_21 [] [] false (mz_k S R N b t) := by
  unfold cf_379_21 at hC
  unfold cp_379_21 at hp
  refine g_iconst mzi_0 ?_
  exact g_iret rfl (hr _ _ _ hC)
theorem cg_379_0 (hd : 2 ≤ d) (hS : mz_ext S 343) (hR : mz_rok R 343)  (v1 : Int32) (v2 : Int32) (N : mz_N) (t : Nat) {C0 : (Int32 × mz_N × Nat) → Prop} (hr : ∀ (w : Int32) (N2 : mz_N) (t2 : Nat), C0 (w, N2, t2) → Q (.inl (some (.int w))) (mz_k S R N2 b t2)) (hp : cp_379_0 v1 v2 N t) (hC : C0 (cf_379_0 v1 v2 N t)) : mz_G (d, mz_X0 L xs, some .int, [(0, 13, 15), (1, 17, 19)], mk_379, 5, Q) 0 mk_379 [(0, .ref 0), (1, .int v1), (2, .int v2), (3, .ref 342)] [] true (mz_k S R N b t) := by
  unfold cf_379_0 at hC
  unfold cp_379_0 at hp
  refine g_aload_n rfl (g_iconst mzi_0 (g_aload_n rfl (g_iload_n rfl (g_iload_n rfl ?_))))
  obtain ⟨h1, hp⟩ := hp
  obtain ⟨h1000, hp⟩ := hp
  refine g_v3vh (Nat.le_of_ble_eq_true rfl) (mz_at hS (Nat.le_of_ble_eq_true rfl) mzcS_0) (fun _ h0 h1 => cs_380 (Nat.le_trans (Nat.le_of_ble_eq_true rfl) hd) (hS.le (Nat.le_of_ble_eq_true rfl)) (hR.le (Nat.le_of_ble_eq_true rfl))  v1 v2 N h1 h1000 h0 h1) hC (fun h2 hC => ?_) (fun h2 hC => ?_)
  · have hp := hp.1 h2
    refine g_i2l (g_last (mz_at hS (Nat.le_of_ble_eq_true rfl) mzcS_342) (mz_ibd (by decide)) (g_goto (tg := 21) rfl ms_379_21 ?_))
    refine g_weak ?_ (g_cl (cg_379_21 hd hS hR (mz_wL ((cf_380_0 v1 v2 N).2.2) 342 0 (((cf_380_0 v1 v2 N).2.1).toInt64)) t hr hp hC))
    exact trivial
  · have hp := hp.2 h2
    refine mz_cs hC (fun h6 hC => ?_) (fun h6 hC => ?_)
    · have hp := hp.1 h6
      refine ⟨(0, 13, 15), (by rw [h6]; rfl), ?_⟩
      show mz_G (d, mz_X0 L xs, some .int, [(0, 13, 15), (1, 17, 19)], mk_379, 5, Q) 15 (mz_sf mk_379 15) [] [] false (mz_k S R ((cf_380_0 v1 v2 N).2.2) b (t + 1))
      rw [ms_379_15]
      refine g_iconst mzi_1 ?_
      exact g_iret rfl (hr _ _ _ hC)
    · have hp := hp.2 h6
      have h4 := hp
      refine ⟨(1, 17, 19), (by rw [h4]; rfl), ?_⟩
      show mz_G (d, mz_X0 L xs, some .int, [(0, 13, 15), (1, 17, 19)], mk_379, 5, Q) 19 (mz_sf mk_379 19) [] [] false (mz_k S R ((cf_380_0 v1 v2 N).2.2) b (t + 1))
      rw [ms_379_19]
      refine g_iconst mzi_2 ?_
      exact g_iret rfl (hr _ _ _ hC)
theorem cs_379 (hd : 3 ≤ d) (hS : mz_ext S 343) (hR : mz_rok R 343)  (v1 : Int32) (v2 : Int32) (N : mz_N) (t : Nat) (hp : cp_379_0 v1 v2 N t) (hq : Q (.inl (some (.int ((cf_379_0 v1 v2 N t).1)))) (mz_k S R ((cf_379_0 v1 v2 N t).2.1) b ((cf_379_0 v1 v2 N t).2.2))) : mz_Ed (mz_X0 L xs) d 379 [.ref 0, .int v1, .int v2, .ref 342] (mz_k S R N b t) Q :=
  by
  refine g_in mzq_379 (Nat.le_of_ble_eq_true rfl) (Nat.le_of_ble_eq_true rfl) (Nat.le_trans (Nat.le_of_ble_eq_true rfl) hd) ?_
  refine g_weak ?_ (cg_379_0 (d := d - 1) (by omega) hS hR v1 v2 N t (C0 := fun z => Q (.inl (some (.int z.1))) (mz_k S R z.2.1 b z.2.2)) (fun _ _ _ h => h) hp hq)
  exact ⟨rfl, rfl, rfl, rfl, trivial⟩
/-! 382 KeptHouse.empty ()I -/
theorem ms_382_0 : mz_sf mk_382 0 = mk_382 := mz_sf_zero _
set_option maxRecDepth 100000 in
theorem mzq_382 : mz_PG0 382 = some (11, ⟨"KeptHouse", "empty", "()I"⟩, prog_1_method_71_code, 2, some .int, [], mk_382, []) := rfl
theorem cg_382_0 (hd : 1 ≤ d) (hS : mz_ext S 232) (hR : mz_rok R 232)  (N : mz_N) {C0 : (Nat × Int32 × mz_N) → Prop} (hr : ∀ (w : Int32) (N2 : mz_N), C0 (0, w, N2) → Q (.inl (some (.int w))) (mz_k S R N2 b t)) (ht : ∀ (c : Nat) (w : Int32) (N2 : mz_N), ¬ c = 0 → C0 (c, w, N2) → Q (.inr (c - 1)) (mz_k S R N2 b (t + 1))) (h1000 : t < 1000) (hp : cp_382_0 N) (hC : C0 (cf_382_0 N)) : mz_G (d, mz_X0 L xs, some .int, [], mk_382, 2, Q) 0 mk_382 [(0, .ref 0)] [] true (mz_k S R N b t) := by
  unfold cf_382_0 at hC
  unfold cp_382_0 at hp
  refine g_aload_n rfl ?_
  have h1 := hp
  refine g_v1nt (Nat.le_of_ble_eq_true rfl) (mz_at hS (Nat.le_of_ble_eq_true rfl) mzcS_0) rfl (fun _ h0 h1 => cs_104 (Nat.le_trans (Nat.le_of_ble_eq_true rfl) hd) (hS.le (Nat.le_of_ble_eq_true rfl)) (hR.le (Nat.le_of_ble_eq_true rfl))  N h1 h1000 h0 h1) hC (fun h2 hC => ?_) (fun h2 hC => ?_)
  · refine g_aload_n rfl (g_getR (mz_at hS (Nat.le_of_ble_eq_true rfl) mzcS_0) mzcf_11_0 (mz_rb hR (Nat.le_of_ble_eq_true rfl) rfl mzcR_0_0) (g_getI (mz_at hS (Nat.le_of_ble_eq_true rfl) mzcS_1) mzcf_4_12 (g_istore_n (Nat.le_of_ble_eq_true rfl) rfl (g_aload_n rfl (g_getR (mz_at hS (Nat.le_of_ble_eq_true rfl) mzcS_0) mzcf_11_0 (mz_rb hR (Nat.le_of_ble_eq_true rfl) rfl mzcR_0_0) (g_iconst mzi_0 (g_putI (mz_at hS (Nat.le_of_ble_eq_true rfl) mzcS_1) mzcf_4_12 ?_)))))))
    refine g_iload_n rfl ?_
    exact g_iret rfl (hr _ _ hC)
  · exact ht _ _ _ h2 hC
theorem cs_382 (hd : 2 ≤ d) (hS : mz_ext S 232) (hR : mz_rok R 232)  (N : mz_N) (hp : cp_382_0 N) (h1000 : t < 1000) (h0 : (cf_382_0 N).1 = 0 → Q (.inl (some (.int ((cf_382_0 N).2.1)))) (mz_k S R ((cf_382_0 N).2.2) b t)) (h1 : ¬ (cf_382_0 N).1 = 0 → Q (.inr (((cf_382_0 N).1) - 1)) (mz_k S R ((cf_382_0 N).2.2) b (t + 1))) : mz_Ed (mz_X0 L xs) d 382 [.ref 0] (mz_k S R N b t) Q :=
  by
  refine g_in mzq_382 (Nat.le_of_ble_eq_true rfl) (Nat.le_of_ble_eq_true rfl) (Nat.le_trans (Nat.le_of_ble_eq_true rfl) hd) ?_
  refine g_weak ?_ (cg_382_0 (d := d - 1) (by omega) hS hR N (C0 := fun z => (z.1 = 0 → Q (.inl (some (.int z.2.1))) (mz_k S R z.2.2 b t)) ∧ (¬ z.1 = 0 → Q (.inr (z.1 - 1)) (mz_k S R z.2.2 b (t + 1)))) (fun _ _ h => h.1 rfl) (fun c _ _ hc h => h.2 hc) h1000 hp ⟨h0, h1⟩)
  exact ⟨rfl, trivial⟩
/-! 381 KeptHouseLaw.empty (LKeptHouse;[J)I -/
theorem ms_381_0 : mz_sf mk_381 0 = mk_381 := mz_sf_zero _
theorem ms_381_12 : mz_sf mk_381 12 = mt_381_12 := mz_sf_add ms_381_0 (t := 12) rfl rfl
theorem ms_381_14 : mz_sf mk_381 14 = mt_381_14 := mz_sf_add ms_381_12 (t := 2) rfl rfl
set_option maxRecDepth 100000 in
theorem mzq_381 : mz_PG0 381 = some (13, ⟨"KeptHouseLaw", "empty", "(LKeptHouse;[J)I"⟩, method_65_code, 3, some .int, [(0, 8, 11, 15)], mk_381, [(1, 11, 12)]) := rfl
theorem cg_381_0 (hd : 2 ≤ d) (hS : mz_ext S 343) (hR : mz_rok R 343)  (N : mz_N) (t : Nat) {C0 : (Int32 × mz_N × Nat) → Prop} (hr : ∀ (w : Int32) (N2 : mz_N) (t2 : Nat), C0 (w, N2, t2) → Q (.inl (some (.int w))) (mz_k S R N2 b t2)) (hp : cp_381_0 N t) (hC : C0 (cf_381_0 N t)) : mz_G (d, mz_X0 L xs, some .int, [(1, 11, 12)], mk_381, 3, Q) 0 mk_381 [(0, .ref 0), (1, .ref 342)] [] true (mz_k S R N b t) := by
  unfold cf_381_0 at hC
  unfold cp_381_0 at hp
  refine g_aload_n rfl (g_iconst mzi_0 (g_aload_n rfl ?_))
  obtain ⟨h1, hp⟩ := hp
  obtain ⟨h1000, hp⟩ := hp
  refine g_v1vh (Nat.le_of_ble_eq_true rfl) (mz_at hS (Nat.le_of_ble_eq_true rfl) mzcS_0) (fun _ h0 h1 => cs_382 (Nat.le_trans (Nat.le_of_ble_eq_true rfl) hd) (hS.le (Nat.le_of_ble_eq_true rfl)) (hR.le (Nat.le_of_ble_eq_true rfl))  N h1 h1000 h0 h1) hC (fun h2 hC => ?_) (fun h2 hC => ?_)
  · have hp := hp.1 h2
    refine g_i2l (g_last (mz_at hS (Nat.le_of_ble_eq_true rfl) mzcS_342) (mz_ibd (by decide)) (g_goto (tg := 14) rfl ms_381_14 (g_iconst mzi_0 ?_)))
    exact g_iret rfl (hr _ _ _ hC)
  · have hp := hp.2 h2
    have h4 := hp
    refine ⟨(1, 11, 12), (by rw [h4]; rfl), ?_⟩
    show mz_G (d, mz_X0 L xs, some .int, [(1, 11, 12)], mk_381, 3, Q) 12 (mz_sf mk_381 12) [] [] false (mz_k S R ((cf_382_0 N).2.2) b (t + 1))
    rw [ms_381_12]
    refine g_iconst mzi_1 ?_
    exact g_iret rfl (hr _ _ _ hC)
theorem cs_381 (hd : 3 ≤ d) (hS : mz_ext S 343) (hR : mz_rok R 343)  (N : mz_N) (t : Nat) (hp : cp_381_0 N t) (hq : Q (.inl (some (.int ((cf_381_0 N t).1)))) (mz_k S R ((cf_381_0 N t).2.1) b ((cf_381_0 N t).2.2))) : mz_Ed (mz_X0 L xs) d 381 [.ref 0, .ref 342] (mz_k S R N b t) Q :=
  by
  refine g_in mzq_381 (Nat.le_of_ble_eq_true rfl) (Nat.le_of_ble_eq_true rfl) (Nat.le_trans (Nat.le_of_ble_eq_true rfl) hd) ?_
  refine g_weak ?_ (cg_381_0 (d := d - 1) (by omega) hS hR N t (C0 := fun z => Q (.inl (some (.int z.1))) (mz_k S R z.2.1 b z.2.2)) (fun _ _ _ h => h) hp hq)
  exact ⟨rfl, rfl, trivial⟩
/-! 386 KeptHouse$Keeper.layOut (I)Z -/
theorem ms_386_0 : mz_sf mk_386 0 = mk_386 := mz_sf_zero _
theorem ms_386_20 : mz_sf mk_386 20 = mt_386_20 := mz_sf_add ms_386_0 (t := 20) rfl rfl
theorem ms_386_54 : mz_sf mk_386 54 = mt_386_54 := mz_sf_add ms_386_20 (t := 34) rfl rfl
theorem ms_386_62 : mz_sf mk_386 62 = mt_386_62 := mz_sf_add ms_386_54 (t := 8) rfl rfl
theorem ms_386_84 : mz_sf mk_386 84 = mt_386_84 := mz_sf_add ms_386_62 (t := 22) rfl rfl
theorem ms_386_101 : mz_sf mk_386 101 = mt_386_101 := mz_sf_add ms_386_84 (t := 17) rfl rfl
set_option maxRecDepth 100000 in
theorem mzq_386 : mz_PG0 386 = some (4, ⟨"KeptHouse$Keeper", "layOut", "(I)Z"⟩, prog_6_method_13_code, 6, some .boolean, [], mk_386, []) := rfl
theorem cg_386_84 (hd : 1 ≤ d) (hS : mz_ext S 232) (hR : mz_rok R 232)  (v1 : Int32) (v3 : Int32) (v5 : Int32) (N : mz_N) {C0 : (Bool × mz_N) → Prop} (hr : ∀ (w : Bool) (N2 : mz_N), C0 (w, N2) → Q (.inl (some (.int (mz_b01 w)))) (mz_k S R N2 b t)) {C1 : ((Int32 × Int32 × mz_N) ⊕ (Bool × mz_N)) → Prop} (hc1 : ∀ s2, C1 (.inl s2) → mz_G (d, mz_X0 L xs, some .boolean, [], mk_386, 6, Q) 20 mt_386_20 [(0, .ref 1), (1, .int v1), (2, .int s2.1), (3, .int s2.2.1)] [] false (mz_k S R s2.2.2 b t)) (hx1 : ∀ z, C1 (.inr z) → C0 z) (hp : cp_386_84 v1 v3 v5 N) (hC : C1 (cf_386_84 v1 v3 v5 N)) : mz_G (d, mz_X0 L xs, some .boolean, [], mk_386, 6, Q) 84 mt_386_84 [(0, .ref 1), (1, .int v1), (3, .int v3), (5, .int v5)] [] false (mz_k S R N b t) := by
  unfold cf_386_84 at hC
  unfold cp_386_84 at hp
  refine g_aload_n rfl (g_getR (mz_at hS (Nat.le_of_ble_eq_true rfl) mzcS_1) mzcf_4_14 (mz_rb hR (Nat.le_of_ble_eq_true rfl) rfl mzcR_1_14) (g_iload rfl (g_iconst mzi_1 ?_)))
  have h1 := hp
  refine g_iast (mz_at hS (Nat.le_of_ble_eq_true rfl) mzcS_231) h1 (g_iload rfl (g_istore_n (Nat.le_of_ble_eq_true rfl) rfl (g_iinc rfl mzi_1 (Nat.le_of_ble_eq_true rfl) rfl (g_goto (tg := 20) rfl ms_386_20 ?_))))
  refine g_weak ?_ (g_cl (hc1 (v5, (v3 + 1), mz_wI N 231 v5 1) hC))
  exact ⟨rfl, rfl, rfl, rfl, trivial⟩
theorem cb_386_20 (hd : 1 ≤ d) (hS : mz_ext S 232) (hR : mz_rok R 232)  (v1 : Int32) (s : Int32 × Int32 × mz_N) {C0 : (Bool × mz_N) → Prop} (hr : ∀ (w : Bool) (N2 : mz_N), C0 (w, N2) → Q (.inl (some (.int (mz_b01 w)))) (mz_k S R N2 b t)) {C1 : ((Int32 × Int32 × mz_N) ⊕ (Bool × mz_N)) → Prop} (hc1 : ∀ s2, C1 (.inl s2) → mz_G (d, mz_X0 L xs, some .boolean, [], mk_386, 6, Q) 20 mt_386_20 [(0, .ref 1), (1, .int v1), (2, .int s2.1), (3, .int s2.2.1)] [] false (mz_k S R s2.2.2 b t)) (hx1 : ∀ z, C1 (.inr z) → C0 z) (hp : cd_386_20 v1 s) (hC : C1 (cq_386_20 v1 s)) : mz_G (d, mz_X0 L xs, some .boolean, [], mk_386, 6, Q) 20 mt_386_20 [(0, .ref 1), (1, .int v1), (2, .int s.1), (3, .int s.2.1)] [] false (mz_k S R s.2.2 b t) := by
  unfold cq_386_20 at hC
  unfold cd_386_20 at hp
  refine g_iload_n rfl (g_iload_n rfl ?_)
  refine g_icge (tg := 101) rfl ms_386_101 hC (fun h1 hC => ?_) (fun h1 hC => ?_)
  · have hp := hp.1 h1
    refine g_iconst mzi_2 (g_iload_n rfl (g_bipush mzb_30 (g_imul (g_iadd (g_istore (Nat.le_of_ble_eq_true rfl) rfl (g_aload_n rfl (g_getR (mz_at hS (Nat.le_of_ble_eq_true rfl) mzcS_1) mzcf_4_11 (mz_rb hR (Nat.le_of_ble_eq_true rfl) rfl mzcR_1_11) ?_)))))))
    refine g_iload rfl ?_
    obtain ⟨h2, hp⟩ := hp
    refine g_iald hS.1 (mz_at hS (Nat.le_of_ble_eq_true rfl) mzcS_229) h2 (g_aload_n rfl (g_getR (mz_at hS (Nat.le_of_ble_eq_true rfl) mzcS_1) mzcf_4_11 (mz_rb hR (Nat.le_of_ble_eq_true rfl) rfl mzcR_1_11) (g_iload rfl (g_iconst mzi_1 (g_iadd ?_)))))
    obtain ⟨h3, hp⟩ := hp
    refine g_iald hS.1 (mz_at hS (Nat.le_of_ble_eq_true rfl) mzcS_229) h3 ?_
    obtain ⟨h4, hp⟩ := hp
    refine g_s2v (Nat.le_of_ble_eq_true rfl) (fun _ hq => cs_98 (Nat.le_trans (Nat.le_of_ble_eq_true rfl) hd) (hS.le (Nat.le_of_ble_eq_true rfl)) (hR.le (Nat.le_of_ble_eq_true rfl))  (mz_gI s.2.2 229 (2 + (s.2.1 * 30))) (mz_gI s.2.2 229 ((2 + (s.2.1 * 30)) + 1)) h4 hq) (g_istore (Nat.le_of_ble_eq_true rfl) rfl (g_iload rfl (g_iload_n rfl ?_)))
    refine g_icgt (tg := 62) rfl ms_386_62 hC (fun h5 hC => ?_) (fun h5 hC => ?_)
    · have hp := hp.1 h5
      refine g_aload_n rfl (g_getR (mz_at hS (Nat.le_of_ble_eq_true rfl) mzcS_1) mzcf_4_11 (mz_rb hR (Nat.le_of_ble_eq_true rfl) rfl mzcR_1_11) (g_iload rfl (g_iconst mzi_2 (g_iadd (g_aload_n rfl (g_getR (mz_at hS (Nat.le_of_ble_eq_true rfl) mzcS_1) mzcf_4_13 (mz_rb hR (Nat.le_of_ble_eq_true rfl) rfl mzcR_1_13) (g_iload rfl ?_)))))))
      refine g_bipush mzb_28 (g_imul (g_bipush mzb_28 ?_))
      obtain ⟨h6, hp⟩ := hp
      refine g_cpI (Nat.le_of_ble_eq_true rfl) (mz_at hS (Nat.le_of_ble_eq_true rfl) mzcS_229) (mz_at hS (Nat.le_of_ble_eq_true rfl) mzcS_230) h6 ?_
      refine g_weak ?_ (g_cl (cg_386_84 hd hS hR v1 s.2.1 (cf_98_0 (mz_gI s.2.2 229 (2 + (s.2.1 * 30))) (mz_gI s.2.2 229 ((2 + (s.2.1 * 30)) + 1))) (mz_yI s.2.2 229 ((2 + (s.2.1 * 30)) + 2) 230 ((cf_98_0 (mz_gI s.2.2 229 (2 + (s.2.1 * 30))) (mz_gI s.2.2 229 ((2 + (s.2.1 * 30)) + 1))) * 28) 28) hr hc1 hx1 hp hC))
      exact ⟨rfl, rfl, rfl, rfl, trivial⟩
    · have hp := hp.2 h5
      refine g_iconst mzi_0 ?_
      exact g_zret (z := false) rfl (hr _ _ (hx1 _ hC))
  · have hp := hp.2 h1
    refine g_iconst mzi_1 ?_
    exact g_zret (z := true) rfl (hr _ _ (hx1 _ hC))
theorem cg_386_20 (hd : 1 ≤ d) (hS : mz_ext S 232) (hR : mz_rok R 232)  (v1 : Int32) (v2 : Int32) (v3 : Int32) (N : mz_N) {C0 : (Bool × mz_N) → Prop} (hr : ∀ (w : Bool) (N2 : mz_N), C0 (w, N2) → Q (.inl (some (.int (mz_b01 w)))) (mz_k S R N2 b t)) (hp : cp_386_20 v1 v2 v3 N) (hC : C0 (cf_386_20 v1 v2 v3 N)) : mz_G (d, mz_X0 L xs, some .boolean, [], mk_386, 6, Q) 20 mt_386_20 [(0, .ref 1), (1, .int v1), (2, .int v2), (3, .int v3)] [] false (mz_k S R N b t) := by
  obtain ⟨n, hn⟩ := hp
  exact g_loop (G := fun s => mz_G (d, mz_X0 L xs, some .boolean, [], mk_386, 6, Q) 20 mt_386_20 [(0, .ref 1), (1, .int v1), (2, .int s.1), (3, .int s.2.1)] [] false (mz_k S R s.2.2 b t)) (C := C0) (fun C2 hc hx s hP hC => cb_386_20 hd hS hR v1 s hr hc hx hP hC) n (v2, v3, N) hn hC
theorem cg_386_0 (hd : 1 ≤ d) (hS : mz_ext S 232) (hR : mz_rok R 232)  (v1 : Int32) (N : mz_N) {C0 : (Bool × mz_N) → Prop} (hr : ∀ (w : Bool) (N2 : mz_N), C0 (w, N2) → Q (.inl (some (.int (mz_b01 w)))) (mz_k S R N2 b t)) (hp : cp_386_0 v1 N) (hC : C0 (cf_386_0 v1 N)) : mz_G (d, mz_X0 L xs, some .boolean, [], mk_386, 6, Q) 0 mk_386 [(0, .ref 1), (1, .int v1)] [] true (mz_k S R N b t) := by
  unfold cf_386_0 at hC
  unfold cp_386_0 at hp
  refine g_aload_n rfl (g_getR (mz_at hS (Nat.le_of_ble_eq_true rfl) mzcS_1) mzcf_4_13 (mz_rb hR (Nat.le_of_ble_eq_true rfl) rfl mzcR_1_13) (g_iconst mzi_0 ?_))
  obtain ⟨h1, hp⟩ := hp
  refine g_s2n (Nat.le_of_ble_eq_true rfl) (fun _ hq => cs_13 (Nat.le_trans (Nat.le_of_ble_eq_true rfl) hd) (hS.le (Nat.le_of_ble_eq_true rfl)) (hR.le (Nat.le_of_ble_eq_true rfl)) 230 3780 (mz_at hS (Nat.le_of_ble_eq_true rfl) mzcS_230) 0 N h1 hq) (g_aload_n rfl (g_getR (mz_at hS (Nat.le_of_ble_eq_true rfl) mzcS_1) mzcf_4_14 (mz_rb hR (Nat.le_of_ble_eq_true rfl) rfl mzcR_1_14) (g_iconst mzi_0 ?_)))
  obtain ⟨h2, hp⟩ := hp
  refine g_s2n (Nat.le_of_ble_eq_true rfl) (fun _ hq => cs_13 (Nat.le_trans (Nat.le_of_ble_eq_true rfl) hd) (hS.le (Nat.le_of_ble_eq_true rfl)) (hR.le (Nat.le_of_ble_eq_true rfl)) 231 135 (mz_at hS (Nat.le_of_ble_eq_true rfl) mzcS_231) 0 (cf_13_0 230 3780 0 N) h2 hq) (g_iconst mzi_m1 (g_istore_n (Nat.le_of_ble_eq_true rfl) rfl (g_iconst mzi_0 (g_istore_n (Nat.le_of_ble_eq_true rfl) rfl ?_))))
  refine g_weak ?_ (g_cl (cg_386_20 hd hS hR v1 (-1) 0 (cf_13_0 231 135 0 (cf_13_0 230 3780 0 N)) hr hp hC))
  exact ⟨rfl, rfl, rfl, rfl, trivial⟩
theorem cs_386 (hd : 2 ≤ d) (hS : mz_ext S 232) (hR : mz_rok R 232)  (v1 : Int32) (N : mz_N) (hp : cp_386_0 v1 N) (hq : Q (.inl (some (.int (mz_b01 ((cf_386_0 v1 N).1))))) (mz_k S R ((cf_386_0 v1 N).2) b t)) : mz_Ed (mz_X0 L xs) d 386 [.ref 1, .int v1] (mz_k S R N b t) Q :=
  by
  refine g_in mzq_386 (Nat.le_of_ble_eq_true rfl) (Nat.le_of_ble_eq_true rfl) (Nat.le_trans (Nat.le_of_ble_eq_true rfl) hd) ?_
  refine g_weak ?_ (cg_386_0 (d := d - 1) (by omega) hS hR v1 N (C0 := fun z => Q (.inl (some (.int (mz_b01 z.1)))) (mz_k S R z.2 b t)) (fun _ _ h => h) hp hq)
  exact ⟨rfl, rfl, trivial⟩
end Fn17
