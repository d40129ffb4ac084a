/-! THE FUNCTIONS: written by program: each method comes to its function. -/
section Fn16
variable {L : Nat} {xs : Nat → Int32} {d : Nat} {S : mz_S} {R : Nat → Nat → Option Nat} {Q : mz_Q} {N : mz_N} {b : Bool} {t : Nat}
/-! 326 KeptHouse.trend (II)J -/
theorem ms_326_0 : mz_sf mk_326 0 = mk_326 := mz_sf_zero _
theorem ms_326_32 : mz_sf mk_326 32 = mt_326_32 := mz_sf_add ms_326_0 (t := 32) rfl rfl
set_option maxRecDepth 100000 in
theorem mzq_326 : mz_PG0 326 = some (11, ⟨"KeptHouse", "trend", "(II)J"⟩, prog_1_method_49_code, 3, some .long, [], mk_326, []) := rfl
theorem cg_326_0 (hd : 1 ≤ d) (hS : mz_extR S 232) (hR : mz_rok R 232)  (v1 : Int32) (v2 : Int32) (N : mz_N) {C0 : (Nat × Int64) → Prop} (hr : ∀ (w : Int64), C0 (0, w) → Q (.inl (some (.long w))) (mz_k S R N b t)) (ht : ∀ (c : Nat) (w : Int64), ¬ c = 0 → C0 (c, w) → Q (.inr (c - 1)) (mz_k S R N b (t + 1))) (h1000 : t < 1000) (hp : cp_326_0 v1 v2 N) (hC : C0 (cf_326_0 v1 v2 N)) : mz_G (d, mz_X0 L xs, some .long, [], mk_326, 3, Q) 0 mk_326 [(0, .ref 0), (1, .int v1), (2, .int v2)] [] true (mz_k S R N b t) := by
  unfold cf_326_0 at hC
  unfold cp_326_0 at hp
  refine g_aload_n rfl ?_
  obtain ⟨h1, hp⟩ := hp
  refine g_v1nt (Nat.le_of_ble_eq_true rfl) (mz_at hS (Nat.le_of_ble_eq_true rfl) mzcS_0) rfl (fun _ hz0 hz1 => cs_104 (Nat.le_trans (Nat.le_of_ble_eq_true rfl) hd) (hS.le (Nat.le_of_ble_eq_true rfl)) (hR.le (Nat.le_of_ble_eq_true rfl))  N h1 h1000 hz0 hz1) hC (fun h10 hC => ?_) (fun h10 hC => ?_)
  · have hp := hp.1 h10
    refine g_iload_n rfl (g_iconst mzi_0 (g_bipush mzb_7 ?_))
    obtain ⟨h2, hp⟩ := hp
    refine g_s3nt (Nat.le_of_ble_eq_true rfl) rfl (fun _ hz0 hz1 => cs_105 (Nat.le_trans (Nat.le_of_ble_eq_true rfl) hd) (hS.le (Nat.le_of_ble_eq_true rfl)) (hR.le (Nat.le_of_ble_eq_true rfl))  v1 0 7 h2 h1000 hz0 hz1) hC (fun h9 hC => ?_) (fun h9 hC => ?_)
    · have hp := hp.1 h9
      refine g_iload_n rfl (g_iconst mzi_0 (g_aload_n rfl (g_getR (mz_at hS (Nat.le_of_ble_eq_true rfl) mzcS_0) mzcf_11_5 (mz_rb hR (Nat.le_of_ble_eq_true rfl) rfl mzcR_0_5) (g_getR (mz_at hS (Nat.le_of_ble_eq_true rfl) mzcS_81) mzcf_10_8 (mz_rb hR (Nat.le_of_ble_eq_true rfl) rfl mzcR_81_8) (g_iload_n rfl ?_)))))
      obtain ⟨h3, hp⟩ := hp
      refine g_iald hS.1 (mz_at hS (Nat.le_of_ble_eq_true rfl) mzcS_99) h3 (g_bipush mzb_48 (g_imin (Nat.le_of_ble_eq_true rfl) (g_iconst mzi_1 (g_isub ?_))))
      obtain ⟨h4, hp⟩ := hp
      refine g_s3nt (Nat.le_of_ble_eq_true rfl) rfl (fun _ hz0 hz1 => cs_105 (Nat.le_trans (Nat.le_of_ble_eq_true rfl) hd) (hS.le (Nat.le_of_ble_eq_true rfl)) (hR.le (Nat.le_of_ble_eq_true rfl))  v2 0 ((mz_imin (mz_gI N 99 v1) 48) - 1) h4 h1000 hz0 hz1) hC (fun h8 hC => ?_) (fun h8 hC => ?_)
      · have hp := hp.1 h8
        refine g_aload_n rfl (g_getR (mz_at hS (Nat.le_of_ble_eq_true rfl) mzcS_0) mzcf_11_5 (mz_rb hR (Nat.le_of_ble_eq_true rfl) rfl mzcR_0_5) (g_getR (mz_at hS (Nat.le_of_ble_eq_true rfl) mzcS_81) mzcf_10_7 (mz_rb hR (Nat.le_of_ble_eq_true rfl) rfl mzcR_81_7) (g_iload_n rfl ?_)))
        obtain ⟨h5, hp⟩ := hp
        refine g_aald5 (mz_at hS (Nat.le_of_ble_eq_true rfl) mzcS_90) h5 (mz_rb hR (Nat.le_of_ble_eq_true rfl) rfl (mzcR2_90 h5)) (g_aload_n rfl (g_getR (mz_at hS (Nat.le_of_ble_eq_true rfl) mzcS_0) mzcf_11_5 (mz_rb hR (Nat.le_of_ble_eq_true rfl) rfl mzcR_0_5) (g_getR (mz_at hS (Nat.le_of_ble_eq_true rfl) mzcS_81) mzcf_10_8 (mz_rb hR (Nat.le_of_ble_eq_true rfl) rfl mzcR_81_8) (g_iload_n rfl ?_))))
        obtain ⟨h6, hp⟩ := hp
        refine g_iald hS.1 (mz_at hS (Nat.le_of_ble_eq_true rfl) mzcS_99) h6 (g_iconst mzi_1 (g_isub (g_iload_n rfl (g_isub (g_bipush mzb_48 (g_irem (by decide) ?_))))))
        have h7 := hp
        refine g_lald (mz_at hS (mzcL2_90 h5 (Nat.le_of_ble_eq_true rfl)) (mzcS2_90 h5)) h7 ?_
        exact g_lret rfl (hr _ hC)
      · have hp := hp.2 h8
        exact ht _ _ h8 hC
    · have hp := hp.2 h9
      exact ht _ _ h9 hC
  · have hp := hp.2 h10
    exact ht _ _ h10 hC
theorem cs_326 (hd : 2 ≤ d) (hS : mz_extR S 232) (hR : mz_rok R 232)  (v1 : Int32) (v2 : Int32) (N : mz_N) (hp : cp_326_0 v1 v2 N) (h1000 : t < 1000) (h0 : (cf_326_0 v1 v2 N).1 = 0 → Q (.inl (some (.long ((cf_326_0 v1 v2 N).2)))) (mz_k S R N b t)) (h1 : ¬ (cf_326_0 v1 v2 N).1 = 0 → Q (.inr (((cf_326_0 v1 v2 N).1) - 1)) (mz_k S R N b (t + 1))) : mz_Ed (mz_X0 L xs) d 326 [.ref 0, .int v1, .int v2] (mz_k S R N b t) Q :=
  by
  refine g_in mzq_326 (Nat.le_of_ble_eq_true rfl) (Nat.le_of_ble_eq_true rfl) (Nat.le_trans (Nat.le_of_ble_eq_true rfl) hd) ?_
  refine g_weak ?_ (cg_326_0 (d := d - 1) (by omega) hS hR v1 v2 N (C0 := fun z => (z.1 = 0 → Q (.inl (some (.long z.2))) (mz_k S R N b t)) ∧ (¬ z.1 = 0 → Q (.inr (z.1 - 1)) (mz_k S R N b (t + 1)))) (fun _ h => h.1 rfl) (fun c _ hc h => h.2 hc) h1000 hp ⟨h0, h1⟩)
  exact ⟨rfl, rfl, rfl, trivial⟩
/-! 325 KeptHouseLaw.trend (LKeptHouse;II[J)I -/
theorem ms_325_0 : mz_sf mk_325 0 = mk_325 := mz_sf_zero _
theorem ms_325_14 : mz_sf mk_325 14 = mt_325_14 := mz_sf_add ms_325_0 (t := 14) rfl rfl
theorem ms_325_18 : mz_sf mk_325 18 = mt_325_18 := mz_sf_add ms_325_14 (t := 4) rfl rfl
theorem ms_325_20 : mz_sf mk_325 20 = mt_325_20 := mz_sf_add ms_325_18 (t := 2) rfl rfl
set_option maxRecDepth 100000 in
theorem mzq_325 : mz_PG0 325 = some (13, ⟨"KeptHouseLaw", "trend", "(LKeptHouse;II[J)I"⟩, method_45_code, 5, some .int, [(0, 9, 12, 13), (0, 9, 16, 15)], mk_325, [(0, 12, 14), (1, 16, 18)]) := rfl
theorem cg_325_0 (hd : 2 ≤ d) (hS : mz_extR S 343) (hR : mz_rok R 343)  (v1 : Int32) (v2 : Int32) (N : mz_N) (t : Nat) {C0 : (Int32 × mz_N × Nat) → Prop} (hr : ∀ (w : Int32) (N2 : mz_N) (t2 : Nat), C0 (w, N2, t2) → Q (.inl (some (.int w))) (mz_k S R N2 b t2)) (hp : cp_325_0 v1 v2 N t) (hC : C0 (cf_325_0 v1 v2 N t)) : mz_G (d, mz_X0 L xs, some .int, [(0, 12, 14), (1, 16, 18)], mk_325, 5, Q) 0 mk_325 [(0, .ref 0), (1, .int v1), (2, .int v2), (3, .ref 342)] [] true (mz_k S R N b t) := by
  unfold cf_325_0 at hC
  unfold cp_325_0 at hp
  refine g_aload_n rfl (g_iconst mzi_0 (g_aload_n rfl (g_iload_n rfl (g_iload_n rfl ?_))))
  obtain ⟨h1, hp⟩ := hp
  obtain ⟨h1000, hp⟩ := hp
  refine g_v3vh (Nat.le_of_ble_eq_true rfl) (mz_at hS (Nat.le_of_ble_eq_true rfl) mzcS_0) (fun _ hz0 hz1 => cs_326 (Nat.le_trans (Nat.le_of_ble_eq_true rfl) hd) (hS.le (Nat.le_of_ble_eq_true rfl)) (hR.le (Nat.le_of_ble_eq_true rfl))  v1 v2 N h1 h1000 hz0 hz1) hC (fun h2 hC => ?_) (fun h2 hC => ?_)
  · have hp := hp.1 h2
    refine g_last (mz_at hS (Nat.le_of_ble_eq_true rfl) mzcS_342) (mz_ibd (by decide)) (g_goto (tg := 20) rfl ms_325_20 (g_iconst mzi_0 ?_))
    exact g_iret rfl (hr _ _ _ hC)
  · have hp := hp.2 h2
    refine mz_cs hC (fun h6 hC => ?_) (fun h6 hC => ?_)
    · have hp := hp.1 h6
      refine ⟨(0, 12, 14), (by rw [h6]; rfl), ?_⟩
      show mz_G (d, mz_X0 L xs, some .int, [(0, 12, 14), (1, 16, 18)], mk_325, 5, Q) 14 (mz_sf mk_325 14) [] [] false (mz_k S R N b (t + 1))
      rw [ms_325_14]
      refine g_iconst mzi_1 ?_
      exact g_iret rfl (hr _ _ _ hC)
    · have hp := hp.2 h6
      have h4 := hp
      refine ⟨(1, 16, 18), (by rw [h4]; rfl), ?_⟩
      show mz_G (d, mz_X0 L xs, some .int, [(0, 12, 14), (1, 16, 18)], mk_325, 5, Q) 18 (mz_sf mk_325 18) [] [] false (mz_k S R N b (t + 1))
      rw [ms_325_18]
      refine g_iconst mzi_2 ?_
      exact g_iret rfl (hr _ _ _ hC)
theorem cs_325 (hd : 3 ≤ d) (hS : mz_extR S 343) (hR : mz_rok R 343)  (v1 : Int32) (v2 : Int32) (N : mz_N) (t : Nat) (hp : cp_325_0 v1 v2 N t) (hq : Q (.inl (some (.int ((cf_325_0 v1 v2 N t).1)))) (mz_k S R ((cf_325_0 v1 v2 N t).2.1) b ((cf_325_0 v1 v2 N t).2.2))) : mz_Ed (mz_X0 L xs) d 325 [.ref 0, .int v1, .int v2, .ref 342] (mz_k S R N b t) Q :=
  by
  refine g_in mzq_325 (Nat.le_of_ble_eq_true rfl) (Nat.le_of_ble_eq_true rfl) (Nat.le_trans (Nat.le_of_ble_eq_true rfl) hd) ?_
  refine g_weak ?_ (cg_325_0 (d := d - 1) (by omega) hS hR v1 v2 N t (C0 := fun z => Q (.inl (some (.int z.1))) (mz_k S R z.2.1 b z.2.2)) (fun _ _ _ h => h) hp hq)
  exact ⟨rfl, rfl, rfl, rfl, trivial⟩
/-! 328 KeptHouse.ticket (II)I -/
theorem ms_328_0 : mz_sf mk_328 0 = mk_328 := mz_sf_zero _
theorem ms_328_25 : mz_sf mk_328 25 = mt_328_25 := mz_sf_add ms_328_0 (t := 25) rfl rfl
theorem ms_328_34 : mz_sf mk_328 34 = mt_328_34 := mz_sf_add ms_328_25 (t := 9) rfl rfl
set_option maxRecDepth 100000 in
theorem mzq_328 : mz_PG0 328 = some (11, ⟨"KeptHouse", "ticket", "(II)I"⟩, prog_1_method_50_code, 4, some .int, [], mk_328, []) := rfl
theorem cg_328_0 (hd : 5 ≤ d) (hS : mz_extR S 232) (hR : mz_rok R 232)  (v1 : Int32) (v2 : Int32) (N : mz_N) (b : Bool) {C0 : (Nat × Int32 × mz_N) → Prop} (hr : ∀ (w : Int32) (N2 : mz_N), C0 (0, w, N2) → Q (.inl (some (.int w))) (mz_k S R N2 b t)) (ht : ∀ (c : Nat) (w : Int32) (N2 : mz_N), ¬ c = 0 → C0 (c, w, N2) → Q (.inr (c - 1)) (mz_k S R N2 b (t + 1))) (h1000 : t < 1000) (hp : cp_328_0 v1 v2 N b) (hC : C0 (cf_328_0 v1 v2 N b)) : mz_G (d, mz_X0 L xs, some .int, [], mk_328, 4, Q) 0 mk_328 [(0, .ref 0), (1, .int v1), (2, .int v2)] [] true (mz_k S R N b t) := by
  unfold cf_328_0 at hC
  unfold cp_328_0 at hp
  refine g_aload_n rfl ?_
  obtain ⟨h1, hp⟩ := hp
  refine g_v1nt (Nat.le_of_ble_eq_true rfl) (mz_at hS (Nat.le_of_ble_eq_true rfl) mzcS_0) rfl (fun _ hz0 hz1 => cs_104 (Nat.le_trans (Nat.le_of_ble_eq_true rfl) hd) (hS.le (Nat.le_of_ble_eq_true rfl)) (hR.le (Nat.le_of_ble_eq_true rfl))  N h1 h1000 hz0 hz1) hC (fun h11 hC => ?_) (fun h11 hC => ?_)
  · have hp := hp.1 h11
    refine g_iload_n rfl (g_iconst mzi_0 (g_iconst mzi_4 ?_))
    obtain ⟨h2, hp⟩ := hp
    refine g_s3nt (Nat.le_of_ble_eq_true rfl) rfl (fun _ hz0 hz1 => cs_105 (Nat.le_trans (Nat.le_of_ble_eq_true rfl) hd) (hS.le (Nat.le_of_ble_eq_true rfl)) (hR.le (Nat.le_of_ble_eq_true rfl))  v1 0 4 h2 h1000 hz0 hz1) hC (fun h10 hC => ?_) (fun h10 hC => ?_)
    · have hp := hp.1 h10
      refine g_iload_n rfl (g_iconst mzi_0 (g_bipush mzb_47 ?_))
      obtain ⟨h3, hp⟩ := hp
      refine g_s3nt (Nat.le_of_ble_eq_true rfl) rfl (fun _ hz0 hz1 => cs_105 (Nat.le_trans (Nat.le_of_ble_eq_true rfl) hd) (hS.le (Nat.le_of_ble_eq_true rfl)) (hR.le (Nat.le_of_ble_eq_true rfl))  v2 0 47 h3 h1000 hz0 hz1) hC (fun h9 hC => ?_) (fun h9 hC => ?_)
      · have hp := hp.1 h9
        refine g_aload_n rfl (g_getR (mz_at hS (Nat.le_of_ble_eq_true rfl) mzcS_0) mzcf_11_7 (mz_rb hR (Nat.le_of_ble_eq_true rfl) rfl mzcR_0_7) ?_)
        obtain ⟨h4, hp⟩ := hp
        refine g_v1v (Nat.le_of_ble_eq_true rfl) (mz_at hS (Nat.le_of_ble_eq_true rfl) mzcS_115) (fun _ hq => cs_259 (Nat.le_trans (Nat.le_of_ble_eq_true rfl) hd) (hS.le (Nat.le_of_ble_eq_true rfl)) (hR.le (Nat.le_of_ble_eq_true rfl))  N h4 hq) (g_istore_n (Nat.le_of_ble_eq_true rfl) rfl (g_iload_n rfl (g_iconst mzi_m1 ?_)))
        refine g_icne (tg := 34) rfl ms_328_34 hC (fun h5 hC => ?_) (fun h5 hC => ?_)
        · have hp := hp.1 h5
          refine g_sipush mzs_m1003 ?_
          exact g_iret rfl (hr _ _ hC)
        · have hp := hp.2 h5
          refine g_aload_n rfl (g_getR (mz_at hS (Nat.le_of_ble_eq_true rfl) mzcS_0) mzcf_11_7 (mz_rb hR (Nat.le_of_ble_eq_true rfl) rfl mzcR_0_7) (g_iload_n rfl (g_iload_n rfl (g_iload_n rfl (g_iconst mzi_3 (g_aload_n rfl (g_getR (mz_at hS (Nat.le_of_ble_eq_true rfl) mzcS_0) mzcf_11_8 (mz_rb hR (Nat.le_of_ble_eq_true rfl) rfl mzcR_0_8) ?_)))))))
          refine g_getI (mz_at hS (Nat.le_of_ble_eq_true rfl) mzcS_208) mzcf_1_0 ?_
          obtain ⟨h6, hp⟩ := hp
          refine g_v6n (Nat.le_of_ble_eq_true rfl) (mz_at hS (Nat.le_of_ble_eq_true rfl) mzcS_115) (fun _ hq => cs_260 (Nat.le_trans (Nat.le_of_ble_eq_true rfl) hd) (hS.le (Nat.le_of_ble_eq_true rfl)) (hR.le (Nat.le_of_ble_eq_true rfl))  (cf_259_0 N) v1 v2 3 (N.1 208 0) N h6 hq) (g_aload_n rfl (g_bipush mzb_12 (g_iload_n rfl (g_aload_n rfl (g_getR (mz_at hS (Nat.le_of_ble_eq_true rfl) mzcS_0) mzcf_11_7 (mz_rb hR (Nat.le_of_ble_eq_true rfl) rfl mzcR_0_7) (g_getR (mz_at hS (Nat.le_of_ble_eq_true rfl) mzcS_115) mzcf_2_0 (mz_rb hR (Nat.le_of_ble_eq_true rfl) rfl mzcR_115_0) (g_iconst mzi_0 ?_)))))))
          refine g_aald4 (m := 117) (mz_at hS (Nat.le_of_ble_eq_true rfl) mzcS_116) (mz_ibd (by decide)) (mz_rb hR (Nat.le_of_ble_eq_true rfl) rfl mzcRr_116_0) (g_iload_n rfl ?_)
          obtain ⟨h7, hp⟩ := hp
          refine g_iald hS.1 (mz_at hS (Nat.le_of_ble_eq_true rfl) mzcS_117) h7 ?_
          have h8 := hp
          refine g_v4v (Nat.le_of_ble_eq_true rfl) (mz_at hS (Nat.le_of_ble_eq_true rfl) mzcS_0) (fun _ hq => cs_171 (Nat.le_trans (Nat.le_of_ble_eq_true rfl) hd) (hS.le (Nat.le_of_ble_eq_true rfl)) (hR.le (Nat.le_of_ble_eq_true rfl))  12 (cf_259_0 N) (mz_gI (cf_260_0 (cf_259_0 N) v1 v2 3 (N.1 208 0) N) 117 (cf_259_0 N)) (cf_260_0 (cf_259_0 N) v1 v2 3 (N.1 208 0) N) b h8 hq) ?_
          exact g_iret rfl (hr _ _ hC)
      · have hp := hp.2 h9
        exact ht _ _ _ h9 hC
    · have hp := hp.2 h10
      exact ht _ _ _ h10 hC
  · have hp := hp.2 h11
    exact ht _ _ _ h11 hC
theorem cs_328 (hd : 6 ≤ d) (hS : mz_extR S 232) (hR : mz_rok R 232)  (v1 : Int32) (v2 : Int32) (N : mz_N) (b : Bool) (hp : cp_328_0 v1 v2 N b) (h1000 : t < 1000) (h0 : (cf_328_0 v1 v2 N b).1 = 0 → Q (.inl (some (.int ((cf_328_0 v1 v2 N b).2.1)))) (mz_k S R ((cf_328_0 v1 v2 N b).2.2) b t)) (h1 : ¬ (cf_328_0 v1 v2 N b).1 = 0 → Q (.inr (((cf_328_0 v1 v2 N b).1) - 1)) (mz_k S R ((cf_328_0 v1 v2 N b).2.2) b (t + 1))) : mz_Ed (mz_X0 L xs) d 328 [.ref 0, .int v1, .int v2] (mz_k S R N b t) Q :=
  by
  refine g_in mzq_328 (Nat.le_of_ble_eq_true rfl) (Nat.le_of_ble_eq_true rfl) (Nat.le_trans (Nat.le_of_ble_eq_true rfl) hd) ?_
  refine g_weak ?_ (cg_328_0 (d := d - 1) (by omega) hS hR v1 v2 N b (C0 := fun z => (z.1 = 0 → Q (.inl (some (.int z.2.1))) (mz_k S R z.2.2 b t)) ∧ (¬ z.1 = 0 → Q (.inr (z.1 - 1)) (mz_k S R z.2.2 b (t + 1)))) (fun _ _ h => h.1 rfl) (fun c _ _ hc h => h.2 hc) h1000 hp ⟨h0, h1⟩)
  exact ⟨rfl, rfl, rfl, trivial⟩
/-! 327 KeptHouseLaw.ticket (LKeptHouse;II[J)I -/
theorem ms_327_0 : mz_sf mk_327 0 = mk_327 := mz_sf_zero _
theorem ms_327_15 : mz_sf mk_327 15 = mt_327_15 := mz_sf_add ms_327_0 (t := 15) rfl rfl
theorem ms_327_19 : mz_sf mk_327 19 = mt_327_19 := mz_sf_add ms_327_15 (t := 4) rfl rfl
theorem ms_327_21 : mz_sf mk_327 21 = mt_327_21 := mz_sf_add ms_327_19 (t := 2) rfl rfl
set_option maxRecDepth 100000 in
theorem mzq_327 : mz_PG0 327 = some (13, ⟨"KeptHouseLaw", "ticket", "(LKeptHouse;II[J)I"⟩, method_46_code, 5, some .int, [(0, 10, 13, 13), (0, 10, 17, 15)], mk_327, [(0, 13, 15), (1, 17, 19)]) := rfl
theorem cg_327_21 (hd : 6 ≤ d) (hS : mz_extR S 343) (hR : mz_rok R 343)  (N : mz_N) (b : Bool) (t : Nat) {C0 : (Int32 × mz_N × Nat) → Prop} (hr : ∀ (w : Int32) (N2 : mz_N) (t2 : Nat), C0 (w, N2, t2) → Q (.inl (some (.int w))) (mz_k S R N2 b t2)) (hp : cp_327_21 N b t) (hC : C0 (cf_327_21 N b t)) : mz_G (d, mz_X0 L xs, some .int, [(0, 13, 15), (1, 17, 19)], mk_327, 5, Q) 21 mt_327_21 [] [] false (mz_k S R N b t) := by
  unfold cf_327_21 at hC
  unfold cp_327_21 at hp
  refine g_iconst mzi_0 ?_
  exact g_iret rfl (hr _ _ _ hC)
theorem cg_327_0 (hd : 6 ≤ d) (hS : mz_extR S 343) (hR : mz_rok R 343)  (v1 : Int32) (v2 : Int32) (N : mz_N) (b : Bool) (t : Nat) {C0 : (Int32 × mz_N × Nat) → Prop} (hr : ∀ (w : Int32) (N2 : mz_N) (t2 : Nat), C0 (w, N2, t2) → Q (.inl (some (.int w))) (mz_k S R N2 b t2)) (hp : cp_327_0 v1 v2 N b t) (hC : C0 (cf_327_0 v1 v2 N b t)) : mz_G (d, mz_X0 L xs, some .int, [(0, 13, 15), (1, 17, 19)], mk_327, 5, Q) 0 mk_327 [(0, .ref 0), (1, .int v1), (2, .int v2), (3, .ref 342)] [] true (mz_k S R N b t) := by
  unfold cf_327_0 at hC
  unfold cp_327_0 at hp
  refine g_aload_n rfl (g_iconst mzi_0 (g_aload_n rfl (g_iload_n rfl (g_iload_n rfl ?_))))
  obtain ⟨h1, hp⟩ := hp
  obtain ⟨h1000, hp⟩ := hp
  refine g_v3vh (Nat.le_of_ble_eq_true rfl) (mz_at hS (Nat.le_of_ble_eq_true rfl) mzcS_0) (fun _ hz0 hz1 => cs_328 (Nat.le_trans (Nat.le_of_ble_eq_true rfl) hd) (hS.le (Nat.le_of_ble_eq_true rfl)) (hR.le (Nat.le_of_ble_eq_true rfl))  v1 v2 N b h1 h1000 hz0 hz1) hC (fun h2 hC => ?_) (fun h2 hC => ?_)
  · have hp := hp.1 h2
    refine g_i2l (g_last (mz_at hS (Nat.le_of_ble_eq_true rfl) mzcS_342) (mz_ibd (by decide)) (g_goto (tg := 21) rfl ms_327_21 ?_))
    refine g_weak ?_ (g_cl (cg_327_21 hd hS hR (mz_wL ((cf_328_0 v1 v2 N b).2.2) 342 0 (((cf_328_0 v1 v2 N b).2.1).toInt64)) b t hr hp hC))
    exact trivial
  · have hp := hp.2 h2
    refine mz_cs hC (fun h6 hC => ?_) (fun h6 hC => ?_)
    · have hp := hp.1 h6
      refine ⟨(0, 13, 15), (by rw [h6]; rfl), ?_⟩
      show mz_G (d, mz_X0 L xs, some .int, [(0, 13, 15), (1, 17, 19)], mk_327, 5, Q) 15 (mz_sf mk_327 15) [] [] false (mz_k S R ((cf_328_0 v1 v2 N b).2.2) b (t + 1))
      rw [ms_327_15]
      refine g_iconst mzi_1 ?_
      exact g_iret rfl (hr _ _ _ hC)
    · have hp := hp.2 h6
      have h4 := hp
      refine ⟨(1, 17, 19), (by rw [h4]; rfl), ?_⟩
      show mz_G (d, mz_X0 L xs, some .int, [(0, 13, 15), (1, 17, 19)], mk_327, 5, Q) 19 (mz_sf mk_327 19) [] [] false (mz_k S R ((cf_328_0 v1 v2 N b).2.2) b (t + 1))
      rw [ms_327_19]
      refine g_iconst mzi_2 ?_
      exact g_iret rfl (hr _ _ _ hC)
theorem cs_327 (hd : 7 ≤ d) (hS : mz_extR S 343) (hR : mz_rok R 343)  (v1 : Int32) (v2 : Int32) (N : mz_N) (b : Bool) (t : Nat) (hp : cp_327_0 v1 v2 N b t) (hq : Q (.inl (some (.int ((cf_327_0 v1 v2 N b t).1)))) (mz_k S R ((cf_327_0 v1 v2 N b t).2.1) b ((cf_327_0 v1 v2 N b t).2.2))) : mz_Ed (mz_X0 L xs) d 327 [.ref 0, .int v1, .int v2, .ref 342] (mz_k S R N b t) Q :=
  by
  refine g_in mzq_327 (Nat.le_of_ble_eq_true rfl) (Nat.le_of_ble_eq_true rfl) (Nat.le_trans (Nat.le_of_ble_eq_true rfl) hd) ?_
  refine g_weak ?_ (cg_327_0 (d := d - 1) (by omega) hS hR v1 v2 N b t (C0 := fun z => Q (.inl (some (.int z.1))) (mz_k S R z.2.1 b z.2.2)) (fun _ _ _ h => h) hp hq)
  exact ⟨rfl, rfl, rfl, rfl, trivial⟩
/-! 331 KeptHouse$Care.countTickets ()I -/
theorem ms_331_0 : mz_sf mk_331 0 = mk_331 := mz_sf_zero _
theorem ms_331_4 : mz_sf mk_331 4 = mt_331_4 := mz_sf_add ms_331_0 (t := 4) rfl rfl
theorem ms_331_25 : mz_sf mk_331 25 = mt_331_25 := mz_sf_add ms_331_4 (t := 21) rfl rfl
set_option maxRecDepth 100000 in
theorem mzq_331 : mz_PG0 331 = some (2, ⟨"KeptHouse$Care", "countTickets", "()I"⟩, prog_4_method_6_code, 3, some .int, [], mk_331, []) := rfl
theorem cb_331_4 (hd : 0 ≤ d) (hS : mz_extR S 232) (hR : mz_rok R 232)  (N : mz_N) (s : Int32 × Int32) {C0 : (Int32) → Prop} (hr : ∀ (w : Int32), C0 w → Q (.inl (some (.int w))) (mz_k S R N b t)) {C1 : ((Int32 × Int32) ⊕ (Int32)) → Prop} (hc1 : ∀ s2, C1 (.inl s2) → mz_G (d, mz_X0 L xs, some .int, [], mk_331, 3, Q) 4 mt_331_4 [(0, .ref 115), (1, .int s2.1), (2, .int s2.2)] [] false (mz_k S R N b t)) (hx1 : ∀ z, C1 (.inr z) → C0 z) (hp : cd_331_4 N s) (hC : C1 (cq_331_4 N s)) : mz_G (d, mz_X0 L xs, some .int, [], mk_331, 3, Q) 4 mt_331_4 [(0, .ref 115), (1, .int s.1), (2, .int s.2)] [] false (mz_k S R N b t) := by
  unfold cq_331_4 at hC
  unfold cd_331_4 at hp
  refine g_iload_n rfl (g_bipush mzb_16 ?_)
  refine g_icge (tg := 25) rfl ms_331_25 hC (fun h1 hC => ?_) (fun h1 hC => ?_)
  · have hp := hp.1 h1
    refine g_iload_n rfl (g_aload_n rfl (g_getR (mz_at hS (Nat.le_of_ble_eq_true rfl) mzcS_115) mzcf_2_1 (mz_rb hR (Nat.le_of_ble_eq_true rfl) rfl mzcR_115_1) (g_iload_n rfl ?_)))
    have h2 := hp
    refine g_iald hS.1 (mz_at hS (Nat.le_of_ble_eq_true rfl) mzcS_123) h2 (g_iadd (g_istore_n (Nat.le_of_ble_eq_true rfl) rfl (g_iinc rfl mzi_1 (Nat.le_of_ble_eq_true rfl) rfl (g_goto (tg := 4) rfl ms_331_4 ?_))))
    refine g_weak ?_ (g_cl (hc1 ((s.1 + (mz_gI N 123 s.2)), (s.2 + 1)) hC))
    exact ⟨rfl, rfl, rfl, trivial⟩
  · have hp := hp.2 h1
    refine g_iload_n rfl ?_
    exact g_iret rfl (hr _ (hx1 _ hC))
theorem cg_331_4 (hd : 0 ≤ d) (hS : mz_extR S 232) (hR : mz_rok R 232)  (v1 : Int32) (v2 : Int32) (N : mz_N) {C0 : (Int32) → Prop} (hr : ∀ (w : Int32), C0 w → Q (.inl (some (.int w))) (mz_k S R N b t)) (hp : cp_331_4 v1 v2 N) (hC : C0 (cf_331_4 v1 v2 N)) : mz_G (d, mz_X0 L xs, some .int, [], mk_331, 3, Q) 4 mt_331_4 [(0, .ref 115), (1, .int v1), (2, .int v2)] [] false (mz_k S R N b t) := by
  obtain ⟨n, hn⟩ := hp
  exact g_loop (G := fun s => mz_G (d, mz_X0 L xs, some .int, [], mk_331, 3, Q) 4 mt_331_4 [(0, .ref 115), (1, .int s.1), (2, .int s.2)] [] false (mz_k S R N b t)) (C := C0) (fun C2 hc hx s hP hC => cb_331_4 hd hS hR N s hr hc hx hP hC) n (v1, v2) hn hC
theorem cg_331_0 (hd : 0 ≤ d) (hS : mz_extR S 232) (hR : mz_rok R 232)  (N : mz_N) {C0 : (Int32) → Prop} (hr : ∀ (w : Int32), C0 w → Q (.inl (some (.int w))) (mz_k S R N b t)) (hp : cp_331_0 N) (hC : C0 (cf_331_0 N)) : mz_G (d, mz_X0 L xs, some .int, [], mk_331, 3, Q) 0 mk_331 [(0, .ref 115)] [] true (mz_k S R N b t) := by
  unfold cf_331_0 at hC
  unfold cp_331_0 at hp
  refine g_iconst mzi_0 (g_istore_n (Nat.le_of_ble_eq_true rfl) rfl (g_iconst mzi_0 (g_istore_n (Nat.le_of_ble_eq_true rfl) rfl ?_)))
  refine g_weak ?_ (g_cl (cg_331_4 hd hS hR 0 0 N hr hp hC))
  exact ⟨rfl, rfl, rfl, trivial⟩
theorem cs_331 (hd : 1 ≤ d) (hS : mz_extR S 232) (hR : mz_rok R 232)  (N : mz_N) (hp : cp_331_0 N) (hq : Q (.inl (some (.int (cf_331_0 N)))) (mz_k S R N b t)) : mz_Ed (mz_X0 L xs) d 331 [.ref 115] (mz_k S R N b t) Q :=
  by
  refine g_in mzq_331 (Nat.le_of_ble_eq_true rfl) (Nat.le_of_ble_eq_true rfl) (Nat.le_trans (Nat.le_of_ble_eq_true rfl) hd) ?_
  refine g_weak ?_ (cg_331_0 (d := d - 1) (by omega) hS hR N (C0 := fun z => Q (.inl (some (.int z))) (mz_k S R N b t)) (fun _ h => h) hp hq)
  exact ⟨rfl, trivial⟩
/-! 330 KeptHouse.tickets ()I -/
theorem ms_330_0 : mz_sf mk_330 0 = mk_330 := mz_sf_zero _
set_option maxRecDepth 100000 in
theorem mzq_330 : mz_PG0 330 = some (11, ⟨"KeptHouse", "tickets", "()I"⟩, prog_1_method_51_code, 1, some .int, [], mk_330, []) := rfl
theorem cg_330_0 (hd : 1 ≤ d) (hS : mz_extR S 232) (hR : mz_rok R 232)  (N : mz_N) {C0 : (Nat × Int32) → Prop} (hr : ∀ (w : Int32), C0 (0, w) → Q (.inl (some (.int w))) (mz_k S R N b t)) (ht : ∀ (c : Nat) (w : Int32), ¬ c = 0 → C0 (c, w) → Q (.inr (c - 1)) (mz_k S R N b (t + 1))) (h1000 : t < 1000) (hp : cp_330_0 N) (hC : C0 (cf_330_0 N)) : mz_G (d, mz_X0 L xs, some .int, [], mk_330, 1, Q) 0 mk_330 [(0, .ref 0)] [] true (mz_k S R N b t) := by
  unfold cf_330_0 at hC
  unfold cp_330_0 at hp
  refine g_aload_n rfl ?_
  obtain ⟨h1, hp⟩ := hp
  refine g_v1nt (Nat.le_of_ble_eq_true rfl) (mz_at hS (Nat.le_of_ble_eq_true rfl) mzcS_0) rfl (fun _ hz0 hz1 => cs_104 (Nat.le_trans (Nat.le_of_ble_eq_true rfl) hd) (hS.le (Nat.le_of_ble_eq_true rfl)) (hR.le (Nat.le_of_ble_eq_true rfl))  N h1 h1000 hz0 hz1) hC (fun h3 hC => ?_) (fun h3 hC => ?_)
  · have hp := hp.1 h3
    refine g_aload_n rfl (g_getR (mz_at hS (Nat.le_of_ble_eq_true rfl) mzcS_0) mzcf_11_7 (mz_rb hR (Nat.le_of_ble_eq_true rfl) rfl mzcR_0_7) ?_)
    have h2 := hp
    refine g_v1v (Nat.le_of_ble_eq_true rfl) (mz_at hS (Nat.le_of_ble_eq_true rfl) mzcS_115) (fun _ hq => cs_331 (Nat.le_trans (Nat.le_of_ble_eq_true rfl) hd) (hS.le (Nat.le_of_ble_eq_true rfl)) (hR.le (Nat.le_of_ble_eq_true rfl))  N h2 hq) ?_
    exact g_iret rfl (hr _ hC)
  · have hp := hp.2 h3
    exact ht _ _ h3 hC
theorem cs_330 (hd : 2 ≤ d) (hS : mz_extR S 232) (hR : mz_rok R 232)  (N : mz_N) (hp : cp_330_0 N) (h1000 : t < 1000) (h0 : (cf_330_0 N).1 = 0 → Q (.inl (some (.int ((cf_330_0 N).2)))) (mz_k S R N b t)) (h1 : ¬ (cf_330_0 N).1 = 0 → Q (.inr (((cf_330_0 N).1) - 1)) (mz_k S R N b (t + 1))) : mz_Ed (mz_X0 L xs) d 330 [.ref 0] (mz_k S R N b t) Q :=
  by
  refine g_in mzq_330 (Nat.le_of_ble_eq_true rfl) (Nat.le_of_ble_eq_true rfl) (Nat.le_trans (Nat.le_of_ble_eq_true rfl) hd) ?_
  refine g_weak ?_ (cg_330_0 (d := d - 1) (by omega) hS hR N (C0 := fun z => (z.1 = 0 → Q (.inl (some (.int z.2))) (mz_k S R N b t)) ∧ (¬ z.1 = 0 → Q (.inr (z.1 - 1)) (mz_k S R N b (t + 1)))) (fun _ h => h.1 rfl) (fun c _ hc h => h.2 hc) h1000 hp ⟨h0, h1⟩)
  exact ⟨rfl, trivial⟩
/-! 329 KeptHouseLaw.tickets (LKeptHouse;[J)I -/
theorem ms_329_0 : mz_sf mk_329 0 = mk_329 := mz_sf_zero _
theorem ms_329_12 : mz_sf mk_329 12 = mt_329_12 := mz_sf_add ms_329_0 (t := 12) rfl rfl
theorem ms_329_14 : mz_sf mk_329 14 = mt_329_14 := mz_sf_add ms_329_12 (t := 2) rfl rfl
set_option maxRecDepth 100000 in
theorem mzq_329 : mz_PG0 329 = some (13, ⟨"KeptHouseLaw", "tickets", "(LKeptHouse;[J)I"⟩, method_47_code, 3, some .int, [(0, 8, 11, 15)], mk_329, [(1, 11, 12)]) := rfl
theorem cg_329_0 (hd : 2 ≤ d) (hS : mz_extR S 343) (hR : mz_rok R 343)  (N : mz_N) (t : Nat) {C0 : (Int32 × mz_N × Nat) → Prop} (hr : ∀ (w : Int32) (N2 : mz_N) (t2 : Nat), C0 (w, N2, t2) → Q (.inl (some (.int w))) (mz_k S R N2 b t2)) (hp : cp_329_0 N t) (hC : C0 (cf_329_0 N t)) : mz_G (d, mz_X0 L xs, some .int, [(1, 11, 12)], mk_329, 3, Q) 0 mk_329 [(0, .ref 0), (1, .ref 342)] [] true (mz_k S R N b t) := by
  unfold cf_329_0 at hC
  unfold cp_329_0 at hp
  refine g_aload_n rfl (g_iconst mzi_0 (g_aload_n rfl ?_))
  obtain ⟨h1, hp⟩ := hp
  obtain ⟨h1000, hp⟩ := hp
  refine g_v1vh (Nat.le_of_ble_eq_true rfl) (mz_at hS (Nat.le_of_ble_eq_true rfl) mzcS_0) (fun _ hz0 hz1 => cs_330 (Nat.le_trans (Nat.le_of_ble_eq_true rfl) hd) (hS.le (Nat.le_of_ble_eq_true rfl)) (hR.le (Nat.le_of_ble_eq_true rfl))  N h1 h1000 hz0 hz1) hC (fun h2 hC => ?_) (fun h2 hC => ?_)
  · have hp := hp.1 h2
    refine g_i2l (g_last (mz_at hS (Nat.le_of_ble_eq_true rfl) mzcS_342) (mz_ibd (by decide)) (g_goto (tg := 14) rfl ms_329_14 (g_iconst mzi_0 ?_)))
    exact g_iret rfl (hr _ _ _ hC)
  · have hp := hp.2 h2
    have h4 := hp
    refine ⟨(1, 11, 12), (by rw [h4]; rfl), ?_⟩
    show mz_G (d, mz_X0 L xs, some .int, [(1, 11, 12)], mk_329, 3, Q) 12 (mz_sf mk_329 12) [] [] false (mz_k S R N b (t + 1))
    rw [ms_329_12]
    refine g_iconst mzi_1 ?_
    exact g_iret rfl (hr _ _ _ hC)
theorem cs_329 (hd : 3 ≤ d) (hS : mz_extR S 343) (hR : mz_rok R 343)  (N : mz_N) (t : Nat) (hp : cp_329_0 N t) (hq : Q (.inl (some (.int ((cf_329_0 N t).1)))) (mz_k S R ((cf_329_0 N t).2.1) b ((cf_329_0 N t).2.2))) : mz_Ed (mz_X0 L xs) d 329 [.ref 0, .ref 342] (mz_k S R N b t) Q :=
  by
  refine g_in mzq_329 (Nat.le_of_ble_eq_true rfl) (Nat.le_of_ble_eq_true rfl) (Nat.le_trans (Nat.le_of_ble_eq_true rfl) hd) ?_
  refine g_weak ?_ (cg_329_0 (d := d - 1) (by omega) hS hR N t (C0 := fun z => Q (.inl (some (.int z.1))) (mz_k S R z.2.1 b z.2.2)) (fun _ _ _ h => h) hp hq)
  exact ⟨rfl, rfl, trivial⟩
/-! 335 KeptHouse$Care.placeAbove (I)I -/
theorem ms_335_0 : mz_sf mk_335 0 = mk_335 := mz_sf_zero _
theorem ms_335_4 : mz_sf mk_335 4 = mt_335_4 := mz_sf_add ms_335_0 (t := 4) rfl rfl
theorem ms_335_32 : mz_sf mk_335 32 = mt_335_32 := mz_sf_add ms_335_4 (t := 28) rfl rfl
theorem ms_335_56 : mz_sf mk_335 56 = mt_335_56 := mz_sf_add ms_335_32 (t := 24) rfl rfl
theorem ms_335_58 : mz_sf mk_335 58 = mt_335_58 := mz_sf_add ms_335_56 (t := 2) rfl rfl
theorem ms_335_64 : mz_sf mk_335 64 = mt_335_64 := mz_sf_add ms_335_58 (t := 6) rfl rfl
set_option maxRecDepth 100000 in
theorem mzq_335 : mz_PG0 335 = some (2, ⟨"KeptHouse$Care", "placeAbove", "(I)I"⟩, prog_4_method_7_code, 4, some .int, [], mk_335, []) := rfl
theorem cg_335_58 (hd : 0 ≤ d) (hS : mz_extR S 232) (hR : mz_rok R 232)  (v1 : Int32) (v2 : Int32) (v3 : Int32) (N : mz_N) {C0 : (Int32) → Prop} (hr : ∀ (w : Int32), C0 w → Q (.inl (some (.int w))) (mz_k S R N b t)) {C1 : ((Int32 × Int32) ⊕ (Int32)) → Prop} (hc1 : ∀ s2, C1 (.inl s2) → mz_G (d, mz_X0 L xs, some .int, [], mk_335, 4, Q) 4 mt_335_4 [(0, .ref 115), (1, .int v1), (2, .int s2.1), (3, .int s2.2)] [] false (mz_k S R N b t)) (hx1 : ∀ z, C1 (.inr z) → C0 z) (hp : cp_335_58 v1 v2 v3 N) (hC : C1 (cf_335_58 v1 v2 v3 N)) : mz_G (d, mz_X0 L xs, some .int, [], mk_335, 4, Q) 58 mt_335_58 [(0, .ref 115), (1, .int v1), (2, .int v2), (3, .int v3)] [] false (mz_k S R N b t) := by
  unfold cf_335_58 at hC
  unfold cp_335_58 at hp
  refine g_iinc rfl mzi_1 (Nat.le_of_ble_eq_true rfl) rfl (g_goto (tg := 4) rfl ms_335_4 ?_)
  refine g_weak ?_ (g_cl (hc1 (v2, (v3 + 1)) hC))
  exact ⟨rfl, rfl, rfl, rfl, trivial⟩
theorem cg_335_56 (hd : 0 ≤ d) (hS : mz_extR S 232) (hR : mz_rok R 232)  (v1 : Int32) (v3 : Int32) (N : mz_N) {C0 : (Int32) → Prop} (hr : ∀ (w : Int32), C0 w → Q (.inl (some (.int w))) (mz_k S R N b t)) {C1 : ((Int32 × Int32) ⊕ (Int32)) → Prop} (hc1 : ∀ s2, C1 (.inl s2) → mz_G (d, mz_X0 L xs, some .int, [], mk_335, 4, Q) 4 mt_335_4 [(0, .ref 115), (1, .int v1), (2, .int s2.1), (3, .int s2.2)] [] false (mz_k S R N b t)) (hx1 : ∀ z, C1 (.inr z) → C0 z) (hp : cp_335_56 v1 v3 N) (hC : C1 (cf_335_56 v1 v3 N)) : mz_G (d, mz_X0 L xs, some .int, [], mk_335, 4, Q) 56 mt_335_56 [(0, .ref 115), (1, .int v1), (3, .int v3)] [] false (mz_k S R N b t) := by
  unfold cf_335_56 at hC
  unfold cp_335_56 at hp
  refine g_iload_n rfl (g_istore_n (Nat.le_of_ble_eq_true rfl) rfl ?_)
  refine g_weak ?_ (g_cl (cg_335_58 hd hS hR v1 v3 v3 N hr hc1 hx1 hp hC))
  exact ⟨rfl, rfl, rfl, rfl, trivial⟩
theorem cb_335_4 (hd : 0 ≤ d) (hS : mz_extR S 232) (hR : mz_rok R 232)  (v1 : Int32) (N : mz_N) (s : Int32 × Int32) {C0 : (Int32) → Prop} (hr : ∀ (w : Int32), C0 w → Q (.inl (some (.int w))) (mz_k S R N b t)) {C1 : ((Int32 × Int32) ⊕ (Int32)) → Prop} (hc1 : ∀ s2, C1 (.inl s2) → mz_G (d, mz_X0 L xs, some .int, [], mk_335, 4, Q) 4 mt_335_4 [(0, .ref 115), (1, .int v1), (2, .int s2.1), (3, .int s2.2)] [] false (mz_k S R N b t)) (hx1 : ∀ z, C1 (.inr z) → C0 z) (hp : cd_335_4 v1 N s) (hC : C1 (cq_335_4 v1 N s)) : mz_G (d, mz_X0 L xs, some .int, [], mk_335, 4, Q) 4 mt_335_4 [(0, .ref 115), (1, .int v1), (2, .int s.1), (3, .int s.2)] [] false (mz_k S R N b t) := by
  unfold cq_335_4 at hC
  unfold cd_335_4 at hp
  refine g_iload_n rfl (g_bipush mzb_16 ?_)
  refine g_icge (tg := 64) rfl ms_335_64 hC (fun h1 hC => ?_) (fun h1 hC => ?_)
  · have hp := hp.1 h1
    refine g_aload_n rfl (g_getR (mz_at hS (Nat.le_of_ble_eq_true rfl) mzcS_115) mzcf_2_1 (mz_rb hR (Nat.le_of_ble_eq_true rfl) rfl mzcR_115_1) (g_iload_n rfl ?_))
    obtain ⟨h2, hp⟩ := hp
    refine g_iald hS.1 (mz_at hS (Nat.le_of_ble_eq_true rfl) mzcS_123) h2 (g_iconst mzi_1 ?_)
    refine g_icne (tg := 58) rfl ms_335_58 hC (fun h3 hC => ?_) (fun h3 hC => ?_)
    · have hp := hp.1 h3
      refine g_aload_n rfl (g_getR (mz_at hS (Nat.le_of_ble_eq_true rfl) mzcS_115) mzcf_2_0 (mz_rb hR (Nat.le_of_ble_eq_true rfl) rfl mzcR_115_0) (g_iconst mzi_0 (g_aald4 (m := 117) (mz_at hS (Nat.le_of_ble_eq_true rfl) mzcS_116) (mz_ibd (by decide)) (mz_rb hR (Nat.le_of_ble_eq_true rfl) rfl mzcRr_116_0) (g_iload_n rfl ?_))))
      obtain ⟨h4, hp⟩ := hp
      refine g_iald hS.1 (mz_at hS (Nat.le_of_ble_eq_true rfl) mzcS_117) h4 (g_iload_n rfl ?_)
      refine g_icle (tg := 58) rfl ms_335_58 hC (fun h5 hC => ?_) (fun h5 hC => ?_)
      · have hp := hp.1 h5
        refine g_iload_n rfl (g_iconst mzi_m1 ?_)
        refine g_iceq (tg := 56) rfl ms_335_56 hC (fun h6 hC => ?_) (fun h6 hC => ?_)
        · have hp := hp.1 h6
          refine g_weak ?_ (g_cl (cg_335_56 hd hS hR v1 s.2 N hr hc1 hx1 hp hC))
          exact ⟨rfl, rfl, rfl, trivial⟩
        · have hp := hp.2 h6
          refine g_aload_n rfl (g_getR (mz_at hS (Nat.le_of_ble_eq_true rfl) mzcS_115) mzcf_2_0 (mz_rb hR (Nat.le_of_ble_eq_true rfl) rfl mzcR_115_0) (g_iconst mzi_0 (g_aald4 (m := 117) (mz_at hS (Nat.le_of_ble_eq_true rfl) mzcS_116) (mz_ibd (by decide)) (mz_rb hR (Nat.le_of_ble_eq_true rfl) rfl mzcRr_116_0) (g_iload_n rfl ?_))))
          obtain ⟨h7, hp⟩ := hp
          refine g_iald hS.1 (mz_at hS (Nat.le_of_ble_eq_true rfl) mzcS_117) h7 (g_aload_n rfl (g_getR (mz_at hS (Nat.le_of_ble_eq_true rfl) mzcS_115) mzcf_2_0 (mz_rb hR (Nat.le_of_ble_eq_true rfl) rfl mzcR_115_0) (g_iconst mzi_0 (g_aald4 (m := 117) (mz_at hS (Nat.le_of_ble_eq_true rfl) mzcS_116) (mz_ibd (by decide)) (mz_rb hR (Nat.le_of_ble_eq_true rfl) rfl mzcRr_116_0) (g_iload_n rfl ?_)))))
          obtain ⟨h8, hp⟩ := hp
          refine g_iald hS.1 (mz_at hS (Nat.le_of_ble_eq_true rfl) mzcS_117) h8 ?_
          refine g_icge (tg := 58) rfl ms_335_58 hC (fun h9 hC => ?_) (fun h9 hC => ?_)
          · have hp := hp.1 h9
            refine g_weak ?_ (g_cl (cg_335_56 hd hS hR v1 s.2 N hr hc1 hx1 hp hC))
            exact ⟨rfl, rfl, rfl, trivial⟩
          · have hp := hp.2 h9
            refine g_weak ?_ (g_cl (cg_335_58 hd hS hR v1 s.1 s.2 N hr hc1 hx1 hp hC))
            exact ⟨rfl, rfl, rfl, rfl, trivial⟩
      · have hp := hp.2 h5
        refine g_weak ?_ (g_cl (cg_335_58 hd hS hR v1 s.1 s.2 N hr hc1 hx1 hp hC))
        exact ⟨rfl, rfl, rfl, rfl, trivial⟩
    · have hp := hp.2 h3
      refine g_weak ?_ (g_cl (cg_335_58 hd hS hR v1 s.1 s.2 N hr hc1 hx1 hp hC))
      exact ⟨rfl, rfl, rfl, rfl, trivial⟩
  · have hp := hp.2 h1
    refine g_iload_n rfl ?_
    exact g_iret rfl (hr _ (hx1 _ hC))
theorem cg_335_4 (hd : 0 ≤ d) (hS : mz_extR S 232) (hR : mz_rok R 232)  (v1 : Int32) (v2 : Int32) (v3 : Int32) (N : mz_N) {C0 : (Int32) → Prop} (hr : ∀ (w : Int32), C0 w → Q (.inl (some (.int w))) (mz_k S R N b t)) (hp : cp_335_4 v1 v2 v3 N) (hC : C0 (cf_335_4 v1 v2 v3 N)) : mz_G (d, mz_X0 L xs, some .int, [], mk_335, 4, Q) 4 mt_335_4 [(0, .ref 115), (1, .int v1), (2, .int v2), (3, .int v3)] [] false (mz_k S R N b t) := by
  obtain ⟨n, hn⟩ := hp
  exact g_loop (G := fun s => mz_G (d, mz_X0 L xs, some .int, [], mk_335, 4, Q) 4 mt_335_4 [(0, .ref 115), (1, .int v1), (2, .int s.1), (3, .int s.2)] [] false (mz_k S R N b t)) (C := C0) (fun C2 hc hx s hP hC => cb_335_4 hd hS hR v1 N s hr hc hx hP hC) n (v2, v3) hn hC
theorem cg_335_0 (hd : 0 ≤ d) (hS : mz_extR S 232) (hR : mz_rok R 232)  (v1 : Int32) (N : mz_N) {C0 : (Int32) → Prop} (hr : ∀ (w : Int32), C0 w → Q (.inl (some (.int w))) (mz_k S R N b t)) (hp : cp_335_0 v1 N) (hC : C0 (cf_335_0 v1 N)) : mz_G (d, mz_X0 L xs, some .int, [], mk_335, 4, Q) 0 mk_335 [(0, .ref 115), (1, .int v1)] [] true (mz_k S R N b t) := by
  unfold cf_335_0 at hC
  unfold cp_335_0 at hp
  refine g_iconst mzi_m1 (g_istore_n (Nat.le_of_ble_eq_true rfl) rfl (g_iconst mzi_0 (g_istore_n (Nat.le_of_ble_eq_true rfl) rfl ?_)))
  refine g_weak ?_ (g_cl (cg_335_4 hd hS hR v1 (-1) 0 N hr hp hC))
  exact ⟨rfl, rfl, rfl, rfl, trivial⟩
theorem cs_335 (hd : 1 ≤ d) (hS : mz_extR S 232) (hR : mz_rok R 232)  (v1 : Int32) (N : mz_N) (hp : cp_335_0 v1 N) (hq : Q (.inl (some (.int (cf_335_0 v1 N)))) (mz_k S R N b t)) : mz_Ed (mz_X0 L xs) d 335 [.ref 115, .int v1] (mz_k S R N b t) Q :=
  by
  refine g_in mzq_335 (Nat.le_of_ble_eq_true rfl) (Nat.le_of_ble_eq_true rfl) (Nat.le_trans (Nat.le_of_ble_eq_true rfl) hd) ?_
  refine g_weak ?_ (cg_335_0 (d := d - 1) (by omega) hS hR v1 N (C0 := fun z => Q (.inl (some (.int z))) (mz_k S R N b t)) (fun _ h => h) hp hq)
  exact ⟨rfl, rfl, trivial⟩
/-! 334 KeptHouse$Care.placeByNumber (I)I -/
theorem ms_334_0 : mz_sf mk_334 0 = mk_334 := mz_sf_zero _
theorem ms_334_8 : mz_sf mk_334 8 = mt_334_8 := mz_sf_add ms_334_0 (t := 8) rfl rfl
theorem ms_334_31 : mz_sf mk_334 31 = mt_334_31 := mz_sf_add ms_334_8 (t := 23) rfl rfl
theorem ms_334_37 : mz_sf mk_334 37 = mt_334_37 := mz_sf_add ms_334_31 (t := 6) rfl rfl
set_option maxRecDepth 100000 in
theorem mzq_334 : mz_PG0 334 = some (2, ⟨"KeptHouse$Care", "placeByNumber", "(I)I"⟩, prog_4_method_8_code, 4, some .int, [], mk_334, []) := rfl
theorem cb_334_8 (hd : 1 ≤ d) (hS : mz_extR S 232) (hR : mz_rok R 232)  (v1 : Int32) (N : mz_N) (s : Int32 × Int32) {C0 : (Int32) → Prop} (hr : ∀ (w : Int32), C0 w → Q (.inl (some (.int w))) (mz_k S R N b t)) {C1 : ((Int32 × Int32) ⊕ (Int32)) → Prop} (hc1 : ∀ s2, C1 (.inl s2) → mz_G (d, mz_X0 L xs, some .int, [], mk_334, 4, Q) 8 mt_334_8 [(0, .ref 115), (1, .int v1), (2, .int s2.1), (3, .int s2.2)] [] false (mz_k S R N b t)) (hx1 : ∀ z, C1 (.inr z) → C0 z) (hp : cd_334_8 v1 N s) (hC : C1 (cq_334_8 v1 N s)) : mz_G (d, mz_X0 L xs, some .int, [], mk_334, 4, Q) 8 mt_334_8 [(0, .ref 115), (1, .int v1), (2, .int s.1), (3, .int s.2)] [] false (mz_k S R N b t) := by
  unfold cq_334_8 at hC
  unfold cd_334_8 at hp
  refine g_iload_n rfl (g_iload_n rfl ?_)
  refine g_icge (tg := 37) rfl ms_334_37 hC (fun h1 hC => ?_) (fun h1 hC => ?_)
  · have hp := hp.1 h1
    refine g_iload_n rfl (g_iconst mzi_m1 ?_)
    refine g_iceq (tg := 37) rfl ms_334_37 hC (fun h2 hC => ?_) (fun h2 hC => ?_)
    · have hp := hp.1 h2
      refine g_iload_n rfl ?_
      exact g_iret rfl (hr _ (hx1 _ hC))
    · have hp := hp.2 h2
      refine g_aload_n rfl (g_aload_n rfl (g_getR (mz_at hS (Nat.le_of_ble_eq_true rfl) mzcS_115) mzcf_2_0 (mz_rb hR (Nat.le_of_ble_eq_true rfl) rfl mzcR_115_0) (g_iconst mzi_0 (g_aald4 (m := 117) (mz_at hS (Nat.le_of_ble_eq_true rfl) mzcS_116) (mz_ibd (by decide)) (mz_rb hR (Nat.le_of_ble_eq_true rfl) rfl mzcRr_116_0) (g_iload_n rfl ?_)))))
      obtain ⟨h3, hp⟩ := hp
      refine g_iald hS.1 (mz_at hS (Nat.le_of_ble_eq_true rfl) mzcS_117) h3 ?_
      have h4 := hp
      refine g_v2v (Nat.le_of_ble_eq_true rfl) (mz_at hS (Nat.le_of_ble_eq_true rfl) mzcS_115) (fun _ hq => cs_335 (Nat.le_trans (Nat.le_of_ble_eq_true rfl) hd) (hS.le (Nat.le_of_ble_eq_true rfl)) (hR.le (Nat.le_of_ble_eq_true rfl))  (mz_gI N 117 s.1) N h4 hq) (g_istore_n (Nat.le_of_ble_eq_true rfl) rfl (g_iinc rfl mzi_1 (Nat.le_of_ble_eq_true rfl) rfl (g_goto (tg := 8) rfl ms_334_8 ?_)))
      refine g_weak ?_ (g_cl (hc1 ((cf_335_0 (mz_gI N 117 s.1) N), (s.2 + 1)) hC))
      exact ⟨rfl, rfl, rfl, rfl, trivial⟩
  · have hp := hp.2 h1
    refine g_iload_n rfl ?_
    exact g_iret rfl (hr _ (hx1 _ hC))
theorem cg_334_8 (hd : 1 ≤ d) (hS : mz_extR S 232) (hR : mz_rok R 232)  (v1 : Int32) (v2 : Int32) (v3 : Int32) (N : mz_N) {C0 : (Int32) → Prop} (hr : ∀ (w : Int32), C0 w → Q (.inl (some (.int w))) (mz_k S R N b t)) (hp : cp_334_8 v1 v2 v3 N) (hC : C0 (cf_334_8 v1 v2 v3 N)) : mz_G (d, mz_X0 L xs, some .int, [], mk_334, 4, Q) 8 mt_334_8 [(0, .ref 115), (1, .int v1), (2, .int v2), (3, .int v3)] [] false (mz_k S R N b t) := by
  obtain ⟨n, hn⟩ := hp
  exact g_loop (G := fun s => mz_G (d, mz_X0 L xs, some .int, [], mk_334, 4, Q) 8 mt_334_8 [(0, .ref 115), (1, .int v1), (2, .int s.1), (3, .int s.2)] [] false (mz_k S R N b t)) (C := C0) (fun C2 hc hx s hP hC => cb_334_8 hd hS hR v1 N s hr hc hx hP hC) n (v2, v3) hn hC
theorem cg_334_0 (hd : 1 ≤ d) (hS : mz_extR S 232) (hR : mz_rok R 232)  (v1 : Int32) (N : mz_N) {C0 : (Int32) → Prop} (hr : ∀ (w : Int32), C0 w → Q (.inl (some (.int w))) (mz_k S R N b t)) (hp : cp_334_0 v1 N) (hC : C0 (cf_334_0 v1 N)) : mz_G (d, mz_X0 L xs, some .int, [], mk_334, 4, Q) 0 mk_334 [(0, .ref 115), (1, .int v1)] [] true (mz_k S R N b t) := by
  unfold cf_334_0 at hC
  unfold cp_334_0 at hp
  refine g_aload_n rfl (g_iconst mzi_m1 ?_)
  obtain ⟨h1, hp⟩ := hp
  refine g_v2v (Nat.le_of_ble_eq_true rfl) (mz_at hS (Nat.le_of_ble_eq_true rfl) mzcS_115) (fun _ hq => cs_335 (Nat.le_trans (Nat.le_of_ble_eq_true rfl) hd) (hS.le (Nat.le_of_ble_eq_true rfl)) (hR.le (Nat.le_of_ble_eq_true rfl))  (-1) N h1 hq) (g_istore_n (Nat.le_of_ble_eq_true rfl) rfl (g_iconst mzi_0 (g_istore_n (Nat.le_of_ble_eq_true rfl) rfl ?_)))
  refine g_weak ?_ (g_cl (cg_334_8 hd hS hR v1 (cf_335_0 (-1) N) 0 N hr hp hC))
  exact ⟨rfl, rfl, rfl, rfl, trivial⟩
theorem cs_334 (hd : 2 ≤ d) (hS : mz_extR S 232) (hR : mz_rok R 232)  (v1 : Int32) (N : mz_N) (hp : cp_334_0 v1 N) (hq : Q (.inl (some (.int (cf_334_0 v1 N)))) (mz_k S R N b t)) : mz_Ed (mz_X0 L xs) d 334 [.ref 115, .int v1] (mz_k S R N b t) Q :=
  by
  refine g_in mzq_334 (Nat.le_of_ble_eq_true rfl) (Nat.le_of_ble_eq_true rfl) (Nat.le_trans (Nat.le_of_ble_eq_true rfl) hd) ?_
  refine g_weak ?_ (cg_334_0 (d := d - 1) (by omega) hS hR v1 N (C0 := fun z => Q (.inl (some (.int z))) (mz_k S R N b t)) (fun _ h => h) hp hq)
  exact ⟨rfl, rfl, trivial⟩
/-! 333 KeptHouse.ticketOf (II)I -/
theorem ms_333_0 : mz_sf mk_333 0 = mk_333 := mz_sf_zero _
theorem ms_333_24 : mz_sf mk_333 24 = mt_333_24 := mz_sf_add ms_333_0 (t := 24) rfl rfl
theorem ms_333_42 : mz_sf mk_333 42 = mt_333_42 := mz_sf_add ms_333_24 (t := 18) rfl rfl
theorem ms_333_53 : mz_sf mk_333 53 = mt_333_53 := mz_sf_add ms_333_42 (t := 11) rfl rfl
set_option maxRecDepth 100000 in
theorem mzq_333 : mz_PG0 333 = some (11, ⟨"KeptHouse", "ticketOf", "(II)I"⟩, prog_1_method_52_code, 4, some .int, [], mk_333, []) := rfl
theorem cg_333_0 (hd : 2 ≤ d) (hS : mz_extR S 232) (hR : mz_rok R 232)  (v1 : Int32) (v2 : Int32) (N : mz_N) {C0 : (Nat × Int32) → Prop} (hr : ∀ (w : Int32), C0 (0, w) → Q (.inl (some (.int w))) (mz_k S R N b t)) (ht : ∀ (c : Nat) (w : Int32), ¬ c = 0 → C0 (c, w) → Q (.inr (c - 1)) (mz_k S R N b (t + 1))) (h1000 : t < 1000) (hp : cp_333_0 v1 v2 N) (hC : C0 (cf_333_0 v1 v2 N)) : mz_G (d, mz_X0 L xs, some .int, [], mk_333, 4, Q) 0 mk_333 [(0, .ref 0), (1, .int v1), (2, .int v2)] [] true (mz_k S R N b t) := by
  unfold cf_333_0 at hC
  unfold cp_333_0 at hp
  refine g_aload_n rfl ?_
  obtain ⟨h1, hp⟩ := hp
  refine g_v1nt (Nat.le_of_ble_eq_true rfl) (mz_at hS (Nat.le_of_ble_eq_true rfl) mzcS_0) rfl (fun _ hz0 hz1 => cs_104 (Nat.le_trans (Nat.le_of_ble_eq_true rfl) hd) (hS.le (Nat.le_of_ble_eq_true rfl)) (hR.le (Nat.le_of_ble_eq_true rfl))  N h1 h1000 hz0 hz1) hC (fun h11 hC => ?_) (fun h11 hC => ?_)
  · have hp := hp.1 h11
    refine g_iload_n rfl (g_iconst mzi_0 (g_aload_n rfl (g_getR (mz_at hS (Nat.le_of_ble_eq_true rfl) mzcS_0) mzcf_11_7 (mz_rb hR (Nat.le_of_ble_eq_true rfl) rfl mzcR_0_7) ?_)))
    obtain ⟨h2, hp⟩ := hp
    refine g_v1v (Nat.le_of_ble_eq_true rfl) (mz_at hS (Nat.le_of_ble_eq_true rfl) mzcS_115) (fun _ hq => cs_331 (Nat.le_trans (Nat.le_of_ble_eq_true rfl) hd) (hS.le (Nat.le_of_ble_eq_true rfl)) (hR.le (Nat.le_of_ble_eq_true rfl))  N h2 hq) (g_iconst mzi_1 (g_isub ?_))
    obtain ⟨h3, hp⟩ := hp
    refine g_s3nt (Nat.le_of_ble_eq_true rfl) rfl (fun _ hz0 hz1 => cs_105 (Nat.le_trans (Nat.le_of_ble_eq_true rfl) hd) (hS.le (Nat.le_of_ble_eq_true rfl)) (hR.le (Nat.le_of_ble_eq_true rfl))  v1 0 ((cf_331_0 N) - 1) h3 h1000 hz0 hz1) hC (fun h10 hC => ?_) (fun h10 hC => ?_)
    · have hp := hp.1 h10
      refine g_iload_n rfl (g_iconst mzi_0 (g_iconst mzi_5 ?_))
      obtain ⟨h4, hp⟩ := hp
      refine g_s3nt (Nat.le_of_ble_eq_true rfl) rfl (fun _ hz0 hz1 => cs_105 (Nat.le_trans (Nat.le_of_ble_eq_true rfl) hd) (hS.le (Nat.le_of_ble_eq_true rfl)) (hR.le (Nat.le_of_ble_eq_true rfl))  v2 0 5 h4 h1000 hz0 hz1) hC (fun h9 hC => ?_) (fun h9 hC => ?_)
      · have hp := hp.1 h9
        refine g_aload_n rfl (g_getR (mz_at hS (Nat.le_of_ble_eq_true rfl) mzcS_0) mzcf_11_7 (mz_rb hR (Nat.le_of_ble_eq_true rfl) rfl mzcR_0_7) (g_iload_n rfl ?_))
        obtain ⟨h5, hp⟩ := hp
        refine g_v2v (Nat.le_of_ble_eq_true rfl) (mz_at hS (Nat.le_of_ble_eq_true rfl) mzcS_115) (fun _ hq => cs_334 (Nat.le_trans (Nat.le_of_ble_eq_true rfl) hd) (hS.le (Nat.le_of_ble_eq_true rfl)) (hR.le (Nat.le_of_ble_eq_true rfl))  v1 N h5 hq) (g_istore_n (Nat.le_of_ble_eq_true rfl) rfl (g_iload_n rfl (g_iconst mzi_m1 ?_)))
        refine g_icne (tg := 42) rfl ms_333_42 hC (fun h6 hC => ?_) (fun h6 hC => ?_)
        · have hp := hp.1 h6
          refine g_iconst mzi_m1 (g_goto (tg := 53) rfl ms_333_53 ?_)
          exact g_iret rfl (hr _ hC)
        · have hp := hp.2 h6
          refine g_aload_n rfl (g_getR (mz_at hS (Nat.le_of_ble_eq_true rfl) mzcS_0) mzcf_11_7 (mz_rb hR (Nat.le_of_ble_eq_true rfl) rfl mzcR_0_7) (g_getR (mz_at hS (Nat.le_of_ble_eq_true rfl) mzcS_115) mzcf_2_0 (mz_rb hR (Nat.le_of_ble_eq_true rfl) rfl mzcR_115_0) (g_iload_n rfl ?_)))
          obtain ⟨h7, hp⟩ := hp
          refine g_aald4 (mz_at hS (Nat.le_of_ble_eq_true rfl) mzcS_116) h7 (mz_rb hR (Nat.le_of_ble_eq_true rfl) rfl (mzcR2_116 h7)) (g_iload_n rfl ?_)
          have h8 := hp
          refine g_iald hS.1 (mz_at hS (mzcL2_116 h7 (Nat.le_of_ble_eq_true rfl)) (mzcS2_116 h7)) h8 ?_
          exact g_iret rfl (hr _ hC)
      · have hp := hp.2 h9
        exact ht _ _ h9 hC
    · have hp := hp.2 h10
      exact ht _ _ h10 hC
  · have hp := hp.2 h11
    exact ht _ _ h11 hC
theorem cs_333 (hd : 3 ≤ d) (hS : mz_extR S 232) (hR : mz_rok R 232)  (v1 : Int32) (v2 : Int32) (N : mz_N) (hp : cp_333_0 v1 v2 N) (h1000 : t < 1000) (h0 : (cf_333_0 v1 v2 N).1 = 0 → Q (.inl (some (.int ((cf_333_0 v1 v2 N).2)))) (mz_k S R N b t)) (h1 : ¬ (cf_333_0 v1 v2 N).1 = 0 → Q (.inr (((cf_333_0 v1 v2 N).1) - 1)) (mz_k S R N b (t + 1))) : mz_Ed (mz_X0 L xs) d 333 [.ref 0, .int v1, .int v2] (mz_k S R N b t) Q :=
  by
  refine g_in mzq_333 (Nat.le_of_ble_eq_true rfl) (Nat.le_of_ble_eq_true rfl) (Nat.le_trans (Nat.le_of_ble_eq_true rfl) hd) ?_
  refine g_weak ?_ (cg_333_0 (d := d - 1) (by omega) hS hR v1 v2 N (C0 := fun z => (z.1 = 0 → Q (.inl (some (.int z.2))) (mz_k S R N b t)) ∧ (¬ z.1 = 0 → Q (.inr (z.1 - 1)) (mz_k S R N b (t + 1)))) (fun _ h => h.1 rfl) (fun c _ hc h => h.2 hc) h1000 hp ⟨h0, h1⟩)
  exact ⟨rfl, rfl, rfl, trivial⟩
/-! 332 KeptHouseLaw.ticketOf (LKeptHouse;II[J)I -/
theorem ms_332_0 : mz_sf mk_332 0 = mk_332 := mz_sf_zero _
theorem ms_332_15 : mz_sf mk_332 15 = mt_332_15 := mz_sf_add ms_332_0 (t := 15) rfl rfl
theorem ms_332_19 : mz_sf mk_332 19 = mt_332_19 := mz_sf_add ms_332_15 (t := 4) rfl rfl
theorem ms_332_21 : mz_sf mk_332 21 = mt_332_21 := mz_sf_add ms_332_19 (t := 2) rfl rfl
set_option maxRecDepth 100000 in
theorem mzq_332 : mz_PG0 332 = some (13, ⟨"KeptHouseLaw", "ticketOf", "(LKeptHouse;II[J)I"⟩, method_48_code, 5, some .int, [(0, 10, 13, 13), (0, 10, 17, 15)], mk_332, [(0, 13, 15), (1, 17, 19)]) := rfl
theorem cg_332_0 (hd : 3 ≤ d) (hS : mz_extR S 343) (hR : mz_rok R 343)  (v1 : Int32) (v2 : Int32) (N : mz_N) (t : Nat) {C0 : (Int32 × mz_N × Nat) → Prop} (hr : ∀ (w : Int32) (N2 : mz_N) (t2 : Nat), C0 (w, N2, t2) → Q (.inl (some (.int w))) (mz_k S R N2 b t2)) (hp : cp_332_0 v1 v2 N t) (hC : C0 (cf_332_0 v1 v2 N t)) : mz_G (d, mz_X0 L xs, some .int, [(0, 13, 15), (1, 17, 19)], mk_332, 5, Q) 0 mk_332 [(0, .ref 0), (1, .int v1), (2, .int v2), (3, .ref 342)] [] true (mz_k S R N b t) := by
  unfold cf_332_0 at hC
  unfold cp_332_0 at hp
  refine g_aload_n rfl (g_iconst mzi_0 (g_aload_n rfl (g_iload_n rfl (g_iload_n rfl ?_))))
  obtain ⟨h1, hp⟩ := hp
  obtain ⟨h1000, hp⟩ := hp
  refine g_v3vh (Nat.le_of_ble_eq_true rfl) (mz_at hS (Nat.le_of_ble_eq_true rfl) mzcS_0) (fun _ hz0 hz1 => cs_333 (Nat.le_trans (Nat.le_of_ble_eq_true rfl) hd) (hS.le (Nat.le_of_ble_eq_true rfl)) (hR.le (Nat.le_of_ble_eq_true rfl))  v1 v2 N h1 h1000 hz0 hz1) hC (fun h2 hC => ?_) (fun h2 hC => ?_)
  · have hp := hp.1 h2
    refine g_i2l (g_last (mz_at hS (Nat.le_of_ble_eq_true rfl) mzcS_342) (mz_ibd (by decide)) (g_goto (tg := 21) rfl ms_332_21 (g_iconst mzi_0 ?_)))
    exact g_iret rfl (hr _ _ _ hC)
  · have hp := hp.2 h2
    refine mz_cs hC (fun h6 hC => ?_) (fun h6 hC => ?_)
    · have hp := hp.1 h6
      refine ⟨(0, 13, 15), (by rw [h6]; rfl), ?_⟩
      show mz_G (d, mz_X0 L xs, some .int, [(0, 13, 15), (1, 17, 19)], mk_332, 5, Q) 15 (mz_sf mk_332 15) [] [] false (mz_k S R N b (t + 1))
      rw [ms_332_15]
      refine g_iconst mzi_1 ?_
      exact g_iret rfl (hr _ _ _ hC)
    · have hp := hp.2 h6
      have h4 := hp
      refine ⟨(1, 17, 19), (by rw [h4]; rfl), ?_⟩
      show mz_G (d, mz_X0 L xs, some .int, [(0, 13, 15), (1, 17, 19)], mk_332, 5, Q) 19 (mz_sf mk_332 19) [] [] false (mz_k S R N b (t + 1))
      rw [ms_332_19]
      refine g_iconst mzi_2 ?_
      exact g_iret rfl (hr _ _ _ hC)
theorem cs_332 (hd : 4 ≤ d) (hS : mz_extR S 343) (hR : mz_rok R 343)  (v1 : Int32) (v2 : Int32) (N : mz_N) (t : Nat) (hp : cp_332_0 v1 v2 N t) (hq : Q (.inl (some (.int ((cf_332_0 v1 v2 N t).1)))) (mz_k S R ((cf_332_0 v1 v2 N t).2.1) b ((cf_332_0 v1 v2 N t).2.2))) : mz_Ed (mz_X0 L xs) d 332 [.ref 0, .int v1, .int v2, .ref 342] (mz_k S R N b t) Q :=
  by
  refine g_in mzq_332 (Nat.le_of_ble_eq_true rfl) (Nat.le_of_ble_eq_true rfl) (Nat.le_trans (Nat.le_of_ble_eq_true rfl) hd) ?_
  refine g_weak ?_ (cg_332_0 (d := d - 1) (by omega) hS hR v1 v2 N t (C0 := fun z => Q (.inl (some (.int z.1))) (mz_k S R z.2.1 b z.2.2)) (fun _ _ _ h => h) hp hq)
  exact ⟨rfl, rfl, rfl, rfl, trivial⟩
/-! 340 KeptHouse$Care.isStocked (I)Z -/
theorem ms_340_0 : mz_sf mk_340 0 = mk_340 := mz_sf_zero _
theorem ms_340_7 : mz_sf mk_340 7 = mt_340_7 := mz_sf_add ms_340_0 (t := 7) rfl rfl
theorem ms_340_11 : mz_sf mk_340 11 = mt_340_11 := mz_sf_add ms_340_7 (t := 4) rfl rfl
theorem ms_340_39 : mz_sf mk_340 39 = mt_340_39 := mz_sf_add ms_340_11 (t := 28) rfl rfl
theorem ms_340_54 : mz_sf mk_340 54 = mt_340_54 := mz_sf_add ms_340_39 (t := 15) rfl rfl
theorem ms_340_60 : mz_sf mk_340 60 = mt_340_60 := mz_sf_add ms_340_54 (t := 6) rfl rfl
theorem ms_340_76 : mz_sf mk_340 76 = mt_340_76 := mz_sf_add ms_340_60 (t := 16) rfl rfl
theorem ms_340_77 : mz_sf mk_340 77 = mt_340_77 := mz_sf_add ms_340_76 (t := 1) rfl rfl
set_option maxRecDepth 100000 in
theorem mzq_340 : mz_PG0 340 = some (2, ⟨"KeptHouse$Care", "isStocked", "(I)Z"⟩, prog_4_method_11_code, 4, some .boolean, [], mk_340, []) := rfl
theorem cg_340_54 (hd : 0 ≤ d) (hS : mz_extR S 232) (hR : mz_rok R 232)  (v1 : Int32) (v2 : Int32) (v3 : Int32) (N : mz_N) {C0 : (Bool) → Prop} (hr : ∀ (w : Bool), C0 w → Q (.inl (some (.int (mz_b01 w)))) (mz_k S R N b t)) {C1 : ((Int32 × Int32) ⊕ (Bool)) → Prop} (hc1 : ∀ s2, C1 (.inl s2) → mz_G (d, mz_X0 L xs, some .boolean, [], mk_340, 4, Q) 11 mt_340_11 [(0, .ref 115), (1, .int v1), (2, .int s2.1), (3, .int s2.2)] [] false (mz_k S R N b t)) (hx1 : ∀ z, C1 (.inr z) → C0 z) (hp : cp_340_54 v1 v2 v3 N) (hC : C1 (cf_340_54 v1 v2 v3 N)) : mz_G (d, mz_X0 L xs, some .boolean, [], mk_340, 4, Q) 54 mt_340_54 [(0, .ref 115), (1, .int v1), (2, .int v2), (3, .int v3)] [] false (mz_k S R N b t) := by
  unfold cf_340_54 at hC
  unfold cp_340_54 at hp
  refine g_iinc rfl mzi_1 (Nat.le_of_ble_eq_true rfl) rfl (g_goto (tg := 11) rfl ms_340_11 ?_)
  refine g_weak ?_ (g_cl (hc1 (v2, (v3 + 1)) hC))
  exact ⟨rfl, rfl, rfl, rfl, trivial⟩
theorem cb_340_11 (hd : 0 ≤ d) (hS : mz_extR S 232) (hR : mz_rok R 232)  (v1 : Int32) (N : mz_N) (s : Int32 × Int32) {C0 : (Bool) → Prop} (hr : ∀ (w : Bool), C0 w → Q (.inl (some (.int (mz_b01 w)))) (mz_k S R N b t)) {C1 : ((Int32 × Int32) ⊕ (Bool)) → Prop} (hc1 : ∀ s2, C1 (.inl s2) → mz_G (d, mz_X0 L xs, some .boolean, [], mk_340, 4, Q) 11 mt_340_11 [(0, .ref 115), (1, .int v1), (2, .int s2.1), (3, .int s2.2)] [] false (mz_k S R N b t)) (hx1 : ∀ z, C1 (.inr z) → C0 z) (hp : cd_340_11 v1 N s) (hC : C1 (cq_340_11 v1 N s)) : mz_G (d, mz_X0 L xs, some .boolean, [], mk_340, 4, Q) 11 mt_340_11 [(0, .ref 115), (1, .int v1), (2, .int s.1), (3, .int s.2)] [] false (mz_k S R N b t) := by
  unfold cq_340_11 at hC
  unfold cd_340_11 at hp
  refine g_iload_n rfl (g_bipush mzb_16 ?_)
  refine g_icge (tg := 60) rfl ms_340_60 hC (fun h1 hC => ?_) (fun h1 hC => ?_)
  · have hp := hp.1 h1
    refine g_aload_n rfl (g_getR (mz_at hS (Nat.le_of_ble_eq_true rfl) mzcS_115) mzcf_2_1 (mz_rb hR (Nat.le_of_ble_eq_true rfl) rfl mzcR_115_1) (g_iload_n rfl ?_))
    obtain ⟨h2, hp⟩ := hp
    refine g_iald hS.1 (mz_at hS (Nat.le_of_ble_eq_true rfl) mzcS_123) h2 (g_iconst mzi_1 ?_)
    refine g_icne (tg := 54) rfl ms_340_54 hC (fun h3 hC => ?_) (fun h3 hC => ?_)
    · have hp := hp.1 h3
      refine g_aload_n rfl (g_getR (mz_at hS (Nat.le_of_ble_eq_true rfl) mzcS_115) mzcf_2_0 (mz_rb hR (Nat.le_of_ble_eq_true rfl) rfl mzcR_115_0) (g_iconst mzi_3 (g_aald4 (m := 120) (mz_at hS (Nat.le_of_ble_eq_true rfl) mzcS_116) (mz_ibd (by decide)) (mz_rb hR (Nat.le_of_ble_eq_true rfl) rfl mzcRr_116_3) (g_iload_n rfl ?_))))
      obtain ⟨h4, hp⟩ := hp
      refine g_iald hS.1 (mz_at hS (Nat.le_of_ble_eq_true rfl) mzcS_120) h4 (g_iload_n rfl ?_)
      refine g_icne (tg := 54) rfl ms_340_54 hC (fun h5 hC => ?_) (fun h5 hC => ?_)
      · have hp := hp.1 h5
        refine g_aload_n rfl (g_getR (mz_at hS (Nat.le_of_ble_eq_true rfl) mzcS_115) mzcf_2_0 (mz_rb hR (Nat.le_of_ble_eq_true rfl) rfl mzcR_115_0) (g_iconst mzi_5 (g_aald4 (m := 122) (mz_at hS (Nat.le_of_ble_eq_true rfl) mzcS_116) (mz_ibd (by decide)) (mz_rb hR (Nat.le_of_ble_eq_true rfl) rfl mzcRr_116_5) (g_iload_n rfl ?_))))
        obtain ⟨h6, hp⟩ := hp
        refine g_iald hS.1 (mz_at hS (Nat.le_of_ble_eq_true rfl) mzcS_122) h6 (g_iconst mzi_m1 ?_)
        refine g_iceq (tg := 54) rfl ms_340_54 hC (fun h7 hC => ?_) (fun h7 hC => ?_)
        · have hp := hp.1 h7
          refine g_weak ?_ (g_cl (cg_340_54 hd hS hR v1 s.1 s.2 N hr hc1 hx1 hp hC))
          exact ⟨rfl, rfl, rfl, rfl, trivial⟩
        · have hp := hp.2 h7
          refine g_iinc rfl mzi_1 (Nat.le_of_ble_eq_true rfl) rfl ?_
          refine g_weak ?_ (g_cl (cg_340_54 hd hS hR v1 (s.1 + 1) s.2 N hr hc1 hx1 hp hC))
          exact ⟨rfl, rfl, rfl, rfl, trivial⟩
      · have hp := hp.2 h5
        refine g_weak ?_ (g_cl (cg_340_54 hd hS hR v1 s.1 s.2 N hr hc1 hx1 hp hC))
        exact ⟨rfl, rfl, rfl, rfl, trivial⟩
    · have hp := hp.2 h3
      refine g_weak ?_ (g_cl (cg_340_54 hd hS hR v1 s.1 s.2 N hr hc1 hx1 hp hC))
      exact ⟨rfl, rfl, rfl, rfl, trivial⟩
  · have hp := hp.2 h1
    refine g_aload_n rfl (g_getR (mz_at hS (Nat.le_of_ble_eq_true rfl) mzcS_115) mzcf_2_3 (mz_rb hR (Nat.le_of_ble_eq_true rfl) rfl mzcR_115_3) (g_iconst mzi_2 (g_aald4 (m := 127) (mz_at hS (Nat.le_of_ble_eq_true rfl) mzcS_124) (mz_ibd (by decide)) (mz_rb hR (Nat.le_of_ble_eq_true rfl) rfl mzcRr_124_2) (g_iload_n rfl ?_))))
    have h8 := hp
    refine g_iald hS.1 (mz_at hS (Nat.le_of_ble_eq_true rfl) mzcS_127) h8 (g_iload_n rfl ?_)
    refine g_icle (tg := 76) rfl ms_340_76 hC (fun h9 hC => ?_) (fun h9 hC => ?_)
    · refine g_iconst mzi_1 (g_goto (tg := 77) rfl ms_340_77 ?_)
      exact g_zret (z := true) rfl (hr _ (hx1 _ hC))
    · refine g_iconst mzi_0 ?_
      exact g_zret (z := false) rfl (hr _ (hx1 _ hC))
theorem cg_340_11 (hd : 0 ≤ d) (hS : mz_extR S 232) (hR : mz_rok R 232)  (v1 : Int32) (v2 : Int32) (v3 : Int32) (N : mz_N) {C0 : (Bool) → Prop} (hr : ∀ (w : Bool), C0 w → Q (.inl (some (.int (mz_b01 w)))) (mz_k S R N b t)) (hp : cp_340_11 v1 v2 v3 N) (hC : C0 (cf_340_11 v1 v2 v3 N)) : mz_G (d, mz_X0 L xs, some .boolean, [], mk_340, 4, Q) 11 mt_340_11 [(0, .ref 115), (1, .int v1), (2, .int v2), (3, .int v3)] [] false (mz_k S R N b t) := by
  obtain ⟨n, hn⟩ := hp
  exact g_loop (G := fun s => mz_G (d, mz_X0 L xs, some .boolean, [], mk_340, 4, Q) 11 mt_340_11 [(0, .ref 115), (1, .int v1), (2, .int s.1), (3, .int s.2)] [] false (mz_k S R N b t)) (C := C0) (fun C2 hc hx s hP hC => cb_340_11 hd hS hR v1 N s hr hc hx hP hC) n (v2, v3) hn hC
theorem cg_340_0 (hd : 0 ≤ d) (hS : mz_extR S 232) (hR : mz_rok R 232)  (v1 : Int32) (N : mz_N) {C0 : (Bool) → Prop} (hr : ∀ (w : Bool), C0 w → Q (.inl (some (.int (mz_b01 w)))) (mz_k S R N b t)) (hp : cp_340_0 v1 N) (hC : C0 (cf_340_0 v1 N)) : mz_G (d, mz_X0 L xs, some .boolean, [], mk_340, 4, Q) 0 mk_340 [(0, .ref 115), (1, .int v1)] [] true (mz_k S R N b t) := by
  unfold cf_340_0 at hC
  unfold cp_340_0 at hp
  refine g_iload_n rfl (g_iconst mzi_3 ?_)
  refine g_iclt (tg := 7) rfl ms_340_7 hC (fun h1 hC => ?_) (fun h1 hC => ?_)
  · have hp := hp.1 h1
    refine g_iconst mzi_0 (g_istore_n (Nat.le_of_ble_eq_true rfl) rfl (g_iconst mzi_0 (g_istore_n (Nat.le_of_ble_eq_true rfl) rfl ?_)))
    refine g_weak ?_ (g_cl (cg_340_11 hd hS hR v1 0 0 N hr hp hC))
    exact ⟨rfl, rfl, rfl, rfl, trivial⟩
  · have hp := hp.2 h1
    refine g_iconst mzi_1 ?_
    exact g_zret (z := true) rfl (hr _ hC)
theorem cs_340 (hd : 1 ≤ d) (hS : mz_extR S 232) (hR : mz_rok R 232)  (v1 : Int32) (N : mz_N) (hp : cp_340_0 v1 N) (hq : Q (.inl (some (.int (mz_b01 (cf_340_0 v1 N))))) (mz_k S R N b t)) : mz_Ed (mz_X0 L xs) d 340 [.ref 115, .int v1] (mz_k S R N b t) Q :=
  by
  refine g_in mzq_340 (Nat.le_of_ble_eq_true rfl) (Nat.le_of_ble_eq_true rfl) (Nat.le_trans (Nat.le_of_ble_eq_true rfl) hd) ?_
  refine g_weak ?_ (cg_340_0 (d := d - 1) (by omega) hS hR v1 N (C0 := fun z => Q (.inl (some (.int (mz_b01 z)))) (mz_k S R N b t)) (fun _ h => h) hp hq)
  exact ⟨rfl, rfl, trivial⟩
/-! 339 KeptHouse$Care.choose (I)I -/
theorem ms_339_0 : mz_sf mk_339 0 = mk_339 := mz_sf_zero _
theorem ms_339_11 : mz_sf mk_339 11 = mt_339_11 := mz_sf_add ms_339_0 (t := 11) rfl rfl
theorem ms_339_41 : mz_sf mk_339 41 = mt_339_41 := mz_sf_add ms_339_11 (t := 30) rfl rfl
theorem ms_339_65 : mz_sf mk_339 65 = mt_339_65 := mz_sf_add ms_339_41 (t := 24) rfl rfl
theorem ms_339_75 : mz_sf mk_339 75 = mt_339_75 := mz_sf_add ms_339_65 (t := 10) rfl rfl
theorem ms_339_94 : mz_sf mk_339 94 = mt_339_94 := mz_sf_add ms_339_75 (t := 19) rfl rfl
set_option maxRecDepth 100000 in
theorem mzq_339 : mz_PG0 339 = some (2, ⟨"KeptHouse$Care", "choose", "(I)I"⟩, prog_4_method_10_code, 5, some .int, [], mk_339, []) := rfl
theorem cg_339_75 (hd : 1 ≤ d) (hS : mz_extR S 232) (hR : mz_rok R 232)  (v1 : Int32) (v2 : Int32) (v3 : Int32) (v4 : Int32) (N : mz_N) {C0 : (Int32 × mz_N) → Prop} (hr : ∀ (w : Int32) (N2 : mz_N), C0 (w, N2) → Q (.inl (some (.int w))) (mz_k S R N2 b t)) {C1 : ((Int32 × Int32 × Int32 × mz_N) ⊕ (Int32 × mz_N)) → Prop} (hc1 : ∀ s2, C1 (.inl s2) → mz_G (d, mz_X0 L xs, some .int, [], mk_339, 5, Q) 11 mt_339_11 [(0, .ref 115), (1, .int v1), (2, .int s2.1), (3, .int s2.2.1), (4, .int s2.2.2.1)] [] false (mz_k S R s2.2.2.2 b t)) (hx1 : ∀ z, C1 (.inr z) → C0 z) (hp : cp_339_75 v1 v2 v3 v4 N) (hC : C1 (cf_339_75 v1 v2 v3 v4 N)) : mz_G (d, mz_X0 L xs, some .int, [], mk_339, 5, Q) 75 mt_339_75 [(0, .ref 115), (1, .int v1), (2, .int v2), (3, .int v3), (4, .int v4)] [] false (mz_k S R N b t) := by
  unfold cf_339_75 at hC
  unfold cp_339_75 at hp
  refine g_aload_n rfl (g_aload_n rfl (g_getR (mz_at hS (Nat.le_of_ble_eq_true rfl) mzcS_115) mzcf_2_0 (mz_rb hR (Nat.le_of_ble_eq_true rfl) rfl mzcR_115_0) (g_iconst mzi_0 (g_aald4 (m := 117) (mz_at hS (Nat.le_of_ble_eq_true rfl) mzcS_116) (mz_ibd (by decide)) (mz_rb hR (Nat.le_of_ble_eq_true rfl) rfl mzcRr_116_0) (g_iload_n rfl ?_)))))
  obtain ⟨h1, hp⟩ := hp
  refine g_iald hS.1 (mz_at hS (Nat.le_of_ble_eq_true rfl) mzcS_117) h1 ?_
  have h2 := hp
  refine g_v2v (Nat.le_of_ble_eq_true rfl) (mz_at hS (Nat.le_of_ble_eq_true rfl) mzcS_115) (fun _ hq => cs_335 (Nat.le_trans (Nat.le_of_ble_eq_true rfl) hd) (hS.le (Nat.le_of_ble_eq_true rfl)) (hR.le (Nat.le_of_ble_eq_true rfl))  (mz_gI N 117 v3) N h2 hq) (g_istore_n (Nat.le_of_ble_eq_true rfl) rfl (g_iinc rfl mzi_1 (Nat.le_of_ble_eq_true rfl) rfl (g_goto (tg := 11) rfl ms_339_11 ?_)))
  refine g_weak ?_ (g_cl (hc1 (v2, (cf_335_0 (mz_gI N 117 v3) N), (v4 + 1), N) hC))
  exact ⟨rfl, rfl, rfl, rfl, rfl, trivial⟩
theorem cb_339_11 (hd : 1 ≤ d) (hS : mz_extR S 232) (hR : mz_rok R 232)  (v1 : Int32) (s : Int32 × Int32 × Int32 × mz_N) {C0 : (Int32 × mz_N) → Prop} (hr : ∀ (w : Int32) (N2 : mz_N), C0 (w, N2) → Q (.inl (some (.int w))) (mz_k S R N2 b t)) {C1 : ((Int32 × Int32 × Int32 × mz_N) ⊕ (Int32 × mz_N)) → Prop} (hc1 : ∀ s2, C1 (.inl s2) → mz_G (d, mz_X0 L xs, some .int, [], mk_339, 5, Q) 11 mt_339_11 [(0, .ref 115), (1, .int v1), (2, .int s2.1), (3, .int s2.2.1), (4, .int s2.2.2.1)] [] false (mz_k S R s2.2.2.2 b t)) (hx1 : ∀ z, C1 (.inr z) → C0 z) (hp : cd_339_11 v1 s) (hC : C1 (cq_339_11 v1 s)) : mz_G (d, mz_X0 L xs, some .int, [], mk_339, 5, Q) 11 mt_339_11 [(0, .ref 115), (1, .int v1), (2, .int s.1), (3, .int s.2.1), (4, .int s.2.2.1)] [] false (mz_k S R s.2.2.2 b t) := by
  unfold cq_339_11 at hC
  unfold cd_339_11 at hp
  refine g_iload rfl (g_bipush mzb_16 ?_)
  refine g_icge (tg := 94) rfl ms_339_94 hC (fun h1 hC => ?_) (fun h1 hC => ?_)
  · have hp := hp.1 h1
    refine g_iload_n rfl (g_iconst mzi_m1 ?_)
    refine g_iceq (tg := 94) rfl ms_339_94 hC (fun h2 hC => ?_) (fun h2 hC => ?_)
    · have hp := hp.1 h2
      refine g_iload_n rfl ?_
      exact g_iret rfl (hr _ _ (hx1 _ hC))
    · have hp := hp.2 h2
      refine g_iload_n rfl (g_bipush mzb_6 ?_)
      refine g_icge (tg := 94) rfl ms_339_94 hC (fun h3 hC => ?_) (fun h3 hC => ?_)
      · have hp := hp.1 h3
        refine g_aload_n rfl (g_getR (mz_at hS (Nat.le_of_ble_eq_true rfl) mzcS_115) mzcf_2_0 (mz_rb hR (Nat.le_of_ble_eq_true rfl) rfl mzcR_115_0) (g_iconst mzi_5 (g_aald4 (m := 122) (mz_at hS (Nat.le_of_ble_eq_true rfl) mzcS_116) (mz_ibd (by decide)) (mz_rb hR (Nat.le_of_ble_eq_true rfl) rfl mzcRr_116_5) (g_iload_n rfl ?_))))
        obtain ⟨h4, hp⟩ := hp
        refine g_iald hS.1 (mz_at hS (Nat.le_of_ble_eq_true rfl) mzcS_122) h4 (g_iconst mzi_m1 ?_)
        refine g_icne (tg := 75) rfl ms_339_75 hC (fun h5 hC => ?_) (fun h5 hC => ?_)
        · have hp := hp.1 h5
          refine g_aload_n rfl (g_aload_n rfl (g_getR (mz_at hS (Nat.le_of_ble_eq_true rfl) mzcS_115) mzcf_2_0 (mz_rb hR (Nat.le_of_ble_eq_true rfl) rfl mzcR_115_0) (g_iconst mzi_3 (g_aald4 (m := 120) (mz_at hS (Nat.le_of_ble_eq_true rfl) mzcS_116) (mz_ibd (by decide)) (mz_rb hR (Nat.le_of_ble_eq_true rfl) rfl mzcRr_116_3) (g_iload_n rfl ?_)))))
          obtain ⟨h6, hp⟩ := hp
          refine g_iald hS.1 (mz_at hS (Nat.le_of_ble_eq_true rfl) mzcS_120) h6 ?_
          obtain ⟨h7, hp⟩ := hp
          refine g_v2v (Nat.le_of_ble_eq_true rfl) (mz_at hS (Nat.le_of_ble_eq_true rfl) mzcS_115) (fun _ hq => cs_340 (Nat.le_trans (Nat.le_of_ble_eq_true rfl) hd) (hS.le (Nat.le_of_ble_eq_true rfl)) (hR.le (Nat.le_of_ble_eq_true rfl))  (mz_gI s.2.2.2 120 s.2.1) s.2.2.2 h7 hq) ?_
          refine g_zeq (tg := 75) rfl ms_339_75 hC (fun h8 hC => ?_) (fun h8 hC => ?_)
          · have hp := hp.1 h8
            refine g_aload_n rfl (g_getR (mz_at hS (Nat.le_of_ble_eq_true rfl) mzcS_115) mzcf_2_0 (mz_rb hR (Nat.le_of_ble_eq_true rfl) rfl mzcR_115_0) (g_iconst mzi_5 (g_aald4 (m := 122) (mz_at hS (Nat.le_of_ble_eq_true rfl) mzcS_116) (mz_ibd (by decide)) (mz_rb hR (Nat.le_of_ble_eq_true rfl) rfl mzcRr_116_5) (g_iload_n rfl (g_iload_n rfl ?_)))))
            obtain ⟨h9, hp⟩ := hp
            refine g_iast (mz_at hS (Nat.le_of_ble_eq_true rfl) mzcS_122) h9 (g_aload_n rfl (g_getR (mz_at hS (Nat.le_of_ble_eq_true rfl) mzcS_115) mzcf_2_11 (mz_rb hR (Nat.le_of_ble_eq_true rfl) rfl mzcR_115_11) (g_iload_n rfl (g_iload_n rfl ?_))))
            obtain ⟨h10, hp⟩ := hp
            refine g_iast (mz_at hS (Nat.le_of_ble_eq_true rfl) mzcS_142) h10 (g_iinc rfl mzi_1 (Nat.le_of_ble_eq_true rfl) rfl ?_)
            refine g_weak ?_ (g_cl (cg_339_75 hd hS hR v1 (s.1 + 1) s.2.1 s.2.2.1 (mz_wI (mz_wI s.2.2.2 122 s.2.1 v1) 142 s.1 s.2.1) hr hc1 hx1 hp hC))
            exact ⟨rfl, rfl, rfl, rfl, rfl, trivial⟩
          · have hp := hp.2 h8
            refine g_weak ?_ (g_cl (cg_339_75 hd hS hR v1 s.1 s.2.1 s.2.2.1 s.2.2.2 hr hc1 hx1 hp hC))
            exact ⟨rfl, rfl, rfl, rfl, rfl, trivial⟩
        · have hp := hp.2 h5
          refine g_weak ?_ (g_cl (cg_339_75 hd hS hR v1 s.1 s.2.1 s.2.2.1 s.2.2.2 hr hc1 hx1 hp hC))
          exact ⟨rfl, rfl, rfl, rfl, rfl, trivial⟩
      · have hp := hp.2 h3
        refine g_iload_n rfl ?_
        exact g_iret rfl (hr _ _ (hx1 _ hC))
  · have hp := hp.2 h1
    refine g_iload_n rfl ?_
    exact g_iret rfl (hr _ _ (hx1 _ hC))
theorem cg_339_11 (hd : 1 ≤ d) (hS : mz_extR S 232) (hR : mz_rok R 232)  (v1 : Int32) (v2 : Int32) (v3 : Int32) (v4 : Int32) (N : mz_N) {C0 : (Int32 × mz_N) → Prop} (hr : ∀ (w : Int32) (N2 : mz_N), C0 (w, N2) → Q (.inl (some (.int w))) (mz_k S R N2 b t)) (hp : cp_339_11 v1 v2 v3 v4 N) (hC : C0 (cf_339_11 v1 v2 v3 v4 N)) : mz_G (d, mz_X0 L xs, some .int, [], mk_339, 5, Q) 11 mt_339_11 [(0, .ref 115), (1, .int v1), (2, .int v2), (3, .int v3), (4, .int v4)] [] false (mz_k S R N b t) := by
  obtain ⟨n, hn⟩ := hp
  exact g_loop (G := fun s => mz_G (d, mz_X0 L xs, some .int, [], mk_339, 5, Q) 11 mt_339_11 [(0, .ref 115), (1, .int v1), (2, .int s.1), (3, .int s.2.1), (4, .int s.2.2.1)] [] false (mz_k S R s.2.2.2 b t)) (C := C0) (fun C2 hc hx s hP hC => cb_339_11 hd hS hR v1 s hr hc hx hP hC) n (v2, v3, v4, N) hn hC
theorem cg_339_0 (hd : 1 ≤ d) (hS : mz_extR S 232) (hR : mz_rok R 232)  (v1 : Int32) (N : mz_N) {C0 : (Int32 × mz_N) → Prop} (hr : ∀ (w : Int32) (N2 : mz_N), C0 (w, N2) → Q (.inl (some (.int w))) (mz_k S R N2 b t)) (hp : cp_339_0 v1 N) (hC : C0 (cf_339_0 v1 N)) : mz_G (d, mz_X0 L xs, some .int, [], mk_339, 5, Q) 0 mk_339 [(0, .ref 115), (1, .int v1)] [] true (mz_k S R N b t) := by
  unfold cf_339_0 at hC
  unfold cp_339_0 at hp
  refine g_iconst mzi_0 (g_istore_n (Nat.le_of_ble_eq_true rfl) rfl (g_aload_n rfl (g_iconst mzi_m1 ?_)))
  obtain ⟨h1, hp⟩ := hp
  refine g_v2v (Nat.le_of_ble_eq_true rfl) (mz_at hS (Nat.le_of_ble_eq_true rfl) mzcS_115) (fun _ hq => cs_335 (Nat.le_trans (Nat.le_of_ble_eq_true rfl) hd) (hS.le (Nat.le_of_ble_eq_true rfl)) (hR.le (Nat.le_of_ble_eq_true rfl))  (-1) N h1 hq) (g_istore_n (Nat.le_of_ble_eq_true rfl) rfl (g_iconst mzi_0 (g_istore (Nat.le_of_ble_eq_true rfl) rfl ?_)))
  refine g_weak ?_ (g_cl (cg_339_11 hd hS hR v1 0 (cf_335_0 (-1) N) 0 N hr hp hC))
  exact ⟨rfl, rfl, rfl, rfl, rfl, trivial⟩
theorem cs_339 (hd : 2 ≤ d) (hS : mz_extR S 232) (hR : mz_rok R 232)  (v1 : Int32) (N : mz_N) (hp : cp_339_0 v1 N) (hq : Q (.inl (some (.int ((cf_339_0 v1 N).1)))) (mz_k S R ((cf_339_0 v1 N).2) b t)) : mz_Ed (mz_X0 L xs) d 339 [.ref 115, .int v1] (mz_k S R N b t) Q :=
  by
  refine g_in mzq_339 (Nat.le_of_ble_eq_true rfl) (Nat.le_of_ble_eq_true rfl) (Nat.le_trans (Nat.le_of_ble_eq_true rfl) hd) ?_
  refine g_weak ?_ (cg_339_0 (d := d - 1) (by omega) hS hR v1 N (C0 := fun z => Q (.inl (some (.int z.1))) (mz_k S R z.2 b t)) (fun _ _ h => h) hp hq)
  exact ⟨rfl, rfl, trivial⟩
/-! 342 KeptHouse$Care.spot (I)I -/
theorem ms_342_0 : mz_sf mk_342 0 = mk_342 := mz_sf_zero _
set_option maxRecDepth 100000 in
theorem mzq_342 : mz_PG0 342 = some (2, ⟨"KeptHouse$Care", "spot", "(I)I"⟩, prog_4_method_13_code, 2, some .int, [], mk_342, []) := rfl
theorem cg_342_0 (hd : 0 ≤ d) (hS : mz_extR S 232) (hR : mz_rok R 232)  (v1 : Int32) (N : mz_N) {C0 : (Int32) → Prop} (hr : ∀ (w : Int32), C0 w → Q (.inl (some (.int w))) (mz_k S R N b t)) (hp : cp_342_0 v1 N) (hC : C0 (cf_342_0 v1 N)) : mz_G (d, mz_X0 L xs, some .int, [], mk_342, 2, Q) 0 mk_342 [(0, .ref 115), (1, .int v1)] [] true (mz_k S R N b t) := by
  unfold cf_342_0 at hC
  unfold cp_342_0 at hp
  refine g_aload_n rfl (g_getR (mz_at hS (Nat.le_of_ble_eq_true rfl) mzcS_115) mzcf_2_0 (mz_rb hR (Nat.le_of_ble_eq_true rfl) rfl mzcR_115_0) (g_iconst mzi_1 (g_aald4 (m := 118) (mz_at hS (Nat.le_of_ble_eq_true rfl) mzcS_116) (mz_ibd (by decide)) (mz_rb hR (Nat.le_of_ble_eq_true rfl) rfl mzcRr_116_1) (g_aload_n rfl (g_getR (mz_at hS (Nat.le_of_ble_eq_true rfl) mzcS_115) mzcf_2_11 (mz_rb hR (Nat.le_of_ble_eq_true rfl) rfl mzcR_115_11) (g_iload_n rfl ?_))))))
  obtain ⟨h1, hp⟩ := hp
  refine g_iald hS.1 (mz_at hS (Nat.le_of_ble_eq_true rfl) mzcS_142) h1 ?_
  obtain ⟨h2, hp⟩ := hp
  refine g_iald hS.1 (mz_at hS (Nat.le_of_ble_eq_true rfl) mzcS_118) h2 (g_bipush mzb_48 (g_imul (g_aload_n rfl (g_getR (mz_at hS (Nat.le_of_ble_eq_true rfl) mzcS_115) mzcf_2_0 (mz_rb hR (Nat.le_of_ble_eq_true rfl) rfl mzcR_115_0) (g_iconst mzi_2 (g_aald4 (m := 119) (mz_at hS (Nat.le_of_ble_eq_true rfl) mzcS_116) (mz_ibd (by decide)) (mz_rb hR (Nat.le_of_ble_eq_true rfl) rfl mzcRr_116_2) (g_aload_n rfl ?_)))))))
  refine g_getR (mz_at hS (Nat.le_of_ble_eq_true rfl) mzcS_115) mzcf_2_11 (mz_rb hR (Nat.le_of_ble_eq_true rfl) rfl mzcR_115_11) (g_iload_n rfl ?_)
  obtain ⟨h3, hp⟩ := hp
  refine g_iald hS.1 (mz_at hS (Nat.le_of_ble_eq_true rfl) mzcS_142) h3 ?_
  have h4 := hp
  refine g_iald hS.1 (mz_at hS (Nat.le_of_ble_eq_true rfl) mzcS_119) h4 (g_iadd ?_)
  exact g_iret rfl (hr _ hC)
theorem cs_342 (hd : 1 ≤ d) (hS : mz_extR S 232) (hR : mz_rok R 232)  (v1 : Int32) (N : mz_N) (hp : cp_342_0 v1 N) (hq : Q (.inl (some (.int (cf_342_0 v1 N)))) (mz_k S R N b t)) : mz_Ed (mz_X0 L xs) d 342 [.ref 115, .int v1] (mz_k S R N b t) Q :=
  by
  refine g_in mzq_342 (Nat.le_of_ble_eq_true rfl) (Nat.le_of_ble_eq_true rfl) (Nat.le_trans (Nat.le_of_ble_eq_true rfl) hd) ?_
  refine g_weak ?_ (cg_342_0 (d := d - 1) (by omega) hS hR v1 N (C0 := fun z => Q (.inl (some (.int z))) (mz_k S R N b t)) (fun _ h => h) hp hq)
  exact ⟨rfl, rfl, trivial⟩
/-! 345 KeptHouse$Care.way (II)I -/
theorem ms_345_0 : mz_sf mk_345 0 = mk_345 := mz_sf_zero _
set_option maxRecDepth 100000 in
theorem mzq_345 : mz_PG0 345 = some (2, ⟨"KeptHouse$Care", "way", "(II)I"⟩, prog_4_method_12_code, 2, some .int, [], mk_345, []) := rfl
theorem cg_345_0 (hd : 0 ≤ d) (hS : mz_extR S 232) (hR : mz_rok R 232)  (v0 : Int32) (v1 : Int32) {C0 : (Int32) → Prop} (hr : ∀ (w : Int32), C0 w → Q (.inl (some (.int w))) (mz_k S R N b t)) (hp : cp_345_0 v0 v1) (hC : C0 (cf_345_0 v0 v1)) : mz_G (d, mz_X0 L xs, some .int, [], mk_345, 2, Q) 0 mk_345 [(0, .int v0), (1, .int v1)] [] true (mz_k S R N b t) := by
  unfold cf_345_0 at hC
  unfold cp_345_0 at hp
  refine g_iload_n rfl (g_bipush mzb_8 (g_irem (by decide) (g_iload_n rfl (g_bipush mzb_8 (g_irem (by decide) (g_isub (g_iabs (Nat.le_of_ble_eq_true rfl) ?_)))))))
  refine g_iload_n rfl (g_bipush mzb_48 (g_irem (by decide) (g_bipush mzb_8 (g_idiv (by decide) (g_iload_n rfl (g_bipush mzb_48 (g_irem (by decide) ?_)))))))
  refine g_bipush mzb_8 (g_idiv (by decide) (g_isub (g_iabs (Nat.le_of_ble_eq_true rfl) (g_iadd (g_bipush mzb_10 (g_iload_n rfl (g_bipush mzb_48 ?_)))))))
  refine g_idiv (by decide) (g_iload_n rfl (g_bipush mzb_48 (g_idiv (by decide) (g_isub (g_iabs (Nat.le_of_ble_eq_true rfl) (g_imul (g_iadd ?_)))))))
  exact g_iret rfl (hr _ hC)
theorem cs_345 (hd : 1 ≤ d) (hS : mz_extR S 232) (hR : mz_rok R 232)  (v0 : Int32) (v1 : Int32) (hp : cp_345_0 v0 v1) (hq : Q (.inl (some (.int (cf_345_0 v0 v1)))) (mz_k S R N b t)) : mz_Ed (mz_X0 L xs) d 345 [.int v0, .int v1] (mz_k S R N b t) Q :=
  by
  refine g_in mzq_345 (Nat.le_of_ble_eq_true rfl) (Nat.le_of_ble_eq_true rfl) (Nat.le_trans (Nat.le_of_ble_eq_true rfl) hd) ?_
  refine g_weak ?_ (cg_345_0 (d := d - 1) (by omega) hS hR v0 v1 (C0 := fun z => Q (.inl (some (.int z))) (mz_k S R N b t)) (fun _ h => h) hp hq)
  exact ⟨rfl, rfl, trivial⟩
/-! 344 KeptHouse$Care.wayOver (III)I -/
theorem ms_344_0 : mz_sf mk_344 0 = mk_344 := mz_sf_zero _
set_option maxRecDepth 100000 in
theorem mzq_344 : mz_PG0 344 = some (2, ⟨"KeptHouse$Care", "wayOver", "(III)I"⟩, prog_4_method_15_code, 4, some .int, [], mk_344, []) := rfl
theorem cg_344_0 (hd : 1 ≤ d) (hS : mz_extR S 232) (hR : mz_rok R 232)  (v1 : Int32) (v2 : Int32) (v3 : Int32) (N : mz_N) {C0 : (Int32) → Prop} (hr : ∀ (w : Int32), C0 w → Q (.inl (some (.int w))) (mz_k S R N b t)) (hp : cp_344_0 v1 v2 v3 N) (hC : C0 (cf_344_0 v1 v2 v3 N)) : mz_G (d, mz_X0 L xs, some .int, [], mk_344, 4, Q) 0 mk_344 [(0, .ref 115), (1, .int v1), (2, .int v2), (3, .int v3)] [] true (mz_k S R N b t) := by
  unfold cf_344_0 at hC
  unfold cp_344_0 at hp
  refine g_iload_n rfl (g_aload_n rfl (g_iload_n rfl ?_))
  obtain ⟨h1, hp⟩ := hp
  refine g_v2v (Nat.le_of_ble_eq_true rfl) (mz_at hS (Nat.le_of_ble_eq_true rfl) mzcS_115) (fun _ hq => cs_342 (Nat.le_trans (Nat.le_of_ble_eq_true rfl) hd) (hS.le (Nat.le_of_ble_eq_true rfl)) (hR.le (Nat.le_of_ble_eq_true rfl))  v3 N h1 hq) ?_
  refine g_s2v (Nat.le_of_ble_eq_true rfl) (fun _ hq => cs_345 (Nat.le_trans (Nat.le_of_ble_eq_true rfl) hd) (hS.le (Nat.le_of_ble_eq_true rfl)) (hR.le (Nat.le_of_ble_eq_true rfl))  v2 (cf_342_0 v3 N) trivial hq) (g_aload_n rfl (g_getR (mz_at hS (Nat.le_of_ble_eq_true rfl) mzcS_115) mzcf_2_12 (mz_rb hR (Nat.le_of_ble_eq_true rfl) rfl mzcR_115_12) (g_iload_n rfl (g_iconst mzi_1 (g_iload_n rfl (g_ishl (g_ior ?_)))))))
  obtain ⟨h3, hp⟩ := hp
  refine g_aald4 (mz_at hS (Nat.le_of_ble_eq_true rfl) mzcS_143) h3 (mz_rb hR (Nat.le_of_ble_eq_true rfl) rfl (mzcR2_143 h3)) (g_iload_n rfl ?_)
  have h4 := hp
  refine g_iald hS.1 (mz_at hS (mzcL2_143 h3 (Nat.le_of_ble_eq_true rfl)) (mzcS2_143 h3)) h4 (g_iadd ?_)
  exact g_iret rfl (hr _ hC)
theorem cs_344 (hd : 2 ≤ d) (hS : mz_extR S 232) (hR : mz_rok R 232)  (v1 : Int32) (v2 : Int32) (v3 : Int32) (N : mz_N) (hp : cp_344_0 v1 v2 v3 N) (hq : Q (.inl (some (.int (cf_344_0 v1 v2 v3 N)))) (mz_k S R N b t)) : mz_Ed (mz_X0 L xs) d 344 [.ref 115, .int v1, .int v2, .int v3] (mz_k S R N b t) Q :=
  by
  refine g_in mzq_344 (Nat.le_of_ble_eq_true rfl) (Nat.le_of_ble_eq_true rfl) (Nat.le_trans (Nat.le_of_ble_eq_true rfl) hd) ?_
  refine g_weak ?_ (cg_344_0 (d := d - 1) (by omega) hS hR v1 v2 v3 N (C0 := fun z => Q (.inl (some (.int z))) (mz_k S R N b t)) (fun _ h => h) hp hq)
  exact ⟨rfl, rfl, rfl, rfl, trivial⟩
/-! 343 KeptHouse$Care.bestNext (III)I -/
theorem ms_343_0 : mz_sf mk_343 0 = mk_343 := mz_sf_zero _
theorem ms_343_6 : mz_sf mk_343 6 = mt_343_6 := mz_sf_add ms_343_0 (t := 6) rfl rfl
theorem ms_343_27 : mz_sf mk_343 27 = mt_343_27 := mz_sf_add ms_343_6 (t := 21) rfl rfl
theorem ms_343_46 : mz_sf mk_343 46 = mt_343_46 := mz_sf_add ms_343_27 (t := 19) rfl rfl
theorem ms_343_50 : mz_sf mk_343 50 = mt_343_50 := mz_sf_add ms_343_46 (t := 4) rfl rfl
theorem ms_343_56 : mz_sf mk_343 56 = mt_343_56 := mz_sf_add ms_343_50 (t := 6) rfl rfl
set_option maxRecDepth 100000 in
theorem mzq_343 : mz_PG0 343 = some (2, ⟨"KeptHouse$Care", "bestNext", "(III)I"⟩, prog_4_method_16_code, 6, some .int, [], mk_343, []) := rfl
theorem cg_343_50 (hd : 2 ≤ d) (hS : mz_extR S 232) (hR : mz_rok R 232)  (v1 : Int32) (v2 : Int32) (v3 : Int32) (v4 : Int32) (v5 : Int32) (N : mz_N) {C0 : (Int32) → Prop} (hr : ∀ (w : Int32), C0 w → Q (.inl (some (.int w))) (mz_k S R N b t)) {C1 : ((Int32 × Int32) ⊕ (Int32)) → Prop} (hc1 : ∀ s2, C1 (.inl s2) → mz_G (d, mz_X0 L xs, some .int, [], mk_343, 6, Q) 6 mt_343_6 [(0, .ref 115), (1, .int v1), (2, .int v2), (3, .int v3), (4, .int s2.1), (5, .int s2.2)] [] false (mz_k S R N b t)) (hx1 : ∀ z, C1 (.inr z) → C0 z) (hp : cp_343_50 v1 v2 v3 v4 v5 N) (hC : C1 (cf_343_50 v1 v2 v3 v4 v5 N)) : mz_G (d, mz_X0 L xs, some .int, [], mk_343, 6, Q) 50 mt_343_50 [(0, .ref 115), (1, .int v1), (2, .int v2), (3, .int v3), (4, .int v4), (5, .int v5)] [] false (mz_k S R N b t) := by
  unfold cf_343_50 at hC
  unfold cp_343_50 at hp
  refine g_iinc rfl mzi_1 (Nat.le_of_ble_eq_true rfl) rfl (g_goto (tg := 6) rfl ms_343_6 ?_)
  refine g_weak ?_ (g_cl (hc1 (v4, (v5 + 1)) hC))
  exact ⟨rfl, rfl, rfl, rfl, rfl, rfl, trivial⟩
theorem cg_343_46 (hd : 2 ≤ d) (hS : mz_extR S 232) (hR : mz_rok R 232)  (v1 : Int32) (v2 : Int32) (v3 : Int32) (v5 : Int32) (N : mz_N) {C0 : (Int32) → Prop} (hr : ∀ (w : Int32), C0 w → Q (.inl (some (.int w))) (mz_k S R N b t)) {C1 : ((Int32 × Int32) ⊕ (Int32)) → Prop} (hc1 : ∀ s2, C1 (.inl s2) → mz_G (d, mz_X0 L xs, some .int, [], mk_343, 6, Q) 6 mt_343_6 [(0, .ref 115), (1, .int v1), (2, .int v2), (3, .int v3), (4, .int s2.1), (5, .int s2.2)] [] false (mz_k S R N b t)) (hx1 : ∀ z, C1 (.inr z) → C0 z) (hp : cp_343_46 v1 v2 v3 v5 N) (hC : C1 (cf_343_46 v1 v2 v3 v5 N)) : mz_G (d, mz_X0 L xs, some .int, [], mk_343, 6, Q) 46 mt_343_46 [(0, .ref 115), (1, .int v1), (2, .int v2), (3, .int v3), (5, .int v5)] [] false (mz_k S R N b t) := by
  unfold cf_343_46 at hC
  unfold cp_343_46 at hp
  refine g_iload rfl (g_istore (Nat.le_of_ble_eq_true rfl) rfl ?_)
  refine g_weak ?_ (g_cl (cg_343_50 hd hS hR v1 v2 v3 v5 v5 N hr hc1 hx1 hp hC))
  exact ⟨rfl, rfl, rfl, rfl, rfl, rfl, trivial⟩
theorem cb_343_6 (hd : 2 ≤ d) (hS : mz_extR S 232) (hR : mz_rok R 232)  (v1 : Int32) (v2 : Int32) (v3 : Int32) (N : mz_N) (s : Int32 × Int32) {C0 : (Int32) → Prop} (hr : ∀ (w : Int32), C0 w → Q (.inl (some (.int w))) (mz_k S R N b t)) {C1 : ((Int32 × Int32) ⊕ (Int32)) → Prop} (hc1 : ∀ s2, C1 (.inl s2) → mz_G (d, mz_X0 L xs, some .int, [], mk_343, 6, Q) 6 mt_343_6 [(0, .ref 115), (1, .int v1), (2, .int v2), (3, .int v3), (4, .int s2.1), (5, .int s2.2)] [] false (mz_k S R N b t)) (hx1 : ∀ z, C1 (.inr z) → C0 z) (hp : cd_343_6 v1 v2 v3 N s) (hC : C1 (cq_343_6 v1 v2 v3 N s)) : mz_G (d, mz_X0 L xs, some .int, [], mk_343, 6, Q) 6 mt_343_6 [(0, .ref 115), (1, .int v1), (2, .int v2), (3, .int v3), (4, .int s.1), (5, .int s.2)] [] false (mz_k S R N b t) := by
  unfold cq_343_6 at hC
  unfold cd_343_6 at hp
  refine g_iload rfl (g_iload_n rfl ?_)
  refine g_icge (tg := 56) rfl ms_343_56 hC (fun h1 hC => ?_) (fun h1 hC => ?_)
  · have hp := hp.1 h1
    refine g_iload_n rfl (g_iload rfl (g_ishr (g_iconst mzi_1 (g_iand ?_))))
    refine g_ifne (tg := 50) rfl ms_343_50 hC (fun h2 hC => ?_) (fun h2 hC => ?_)
    · have hp := hp.1 h2
      refine g_iload rfl (g_iconst mzi_m1 ?_)
      refine g_iceq (tg := 46) rfl ms_343_46 hC (fun h3 hC => ?_) (fun h3 hC => ?_)
      · have hp := hp.1 h3
        refine g_weak ?_ (g_cl (cg_343_46 hd hS hR v1 v2 v3 s.2 N hr hc1 hx1 hp hC))
        exact ⟨rfl, rfl, rfl, rfl, rfl, trivial⟩
      · have hp := hp.2 h3
        refine g_aload_n rfl (g_iload_n rfl (g_iload_n rfl (g_iload rfl ?_)))
        obtain ⟨h4, hp⟩ := hp
        refine g_v4v (Nat.le_of_ble_eq_true rfl) (mz_at hS (Nat.le_of_ble_eq_true rfl) mzcS_115) (fun _ hq => cs_344 (Nat.le_trans (Nat.le_of_ble_eq_true rfl) hd) (hS.le (Nat.le_of_ble_eq_true rfl)) (hR.le (Nat.le_of_ble_eq_true rfl))  v2 v3 s.2 N h4 hq) (g_aload_n rfl (g_iload_n rfl (g_iload_n rfl (g_iload rfl ?_))))
        obtain ⟨h5, hp⟩ := hp
        refine g_v4v (Nat.le_of_ble_eq_true rfl) (mz_at hS (Nat.le_of_ble_eq_true rfl) mzcS_115) (fun _ hq => cs_344 (Nat.le_trans (Nat.le_of_ble_eq_true rfl) hd) (hS.le (Nat.le_of_ble_eq_true rfl)) (hR.le (Nat.le_of_ble_eq_true rfl))  v2 v3 s.1 N h5 hq) ?_
        refine g_icge (tg := 50) rfl ms_343_50 hC (fun h6 hC => ?_) (fun h6 hC => ?_)
        · have hp := hp.1 h6
          refine g_weak ?_ (g_cl (cg_343_46 hd hS hR v1 v2 v3 s.2 N hr hc1 hx1 hp hC))
          exact ⟨rfl, rfl, rfl, rfl, rfl, trivial⟩
        · have hp := hp.2 h6
          refine g_weak ?_ (g_cl (cg_343_50 hd hS hR v1 v2 v3 s.1 s.2 N hr hc1 hx1 hp hC))
          exact ⟨rfl, rfl, rfl, rfl, rfl, rfl, trivial⟩
    · have hp := hp.2 h2
      refine g_weak ?_ (g_cl (cg_343_50 hd hS hR v1 v2 v3 s.1 s.2 N hr hc1 hx1 hp hC))
      exact ⟨rfl, rfl, rfl, rfl, rfl, rfl, trivial⟩
  · have hp := hp.2 h1
    refine g_iload rfl ?_
    exact g_iret rfl (hr _ (hx1 _ hC))
theorem cg_343_6 (hd : 2 ≤ d) (hS : mz_extR S 232) (hR : mz_rok R 232)  (v1 : Int32) (v2 : Int32) (v3 : Int32) (v4 : Int32) (v5 : Int32) (N : mz_N) {C0 : (Int32) → Prop} (hr : ∀ (w : Int32), C0 w → Q (.inl (some (.int w))) (mz_k S R N b t)) (hp : cp_343_6 v1 v2 v3 v4 v5 N) (hC : C0 (cf_343_6 v1 v2 v3 v4 v5 N)) : mz_G (d, mz_X0 L xs, some .int, [], mk_343, 6, Q) 6 mt_343_6 [(0, .ref 115), (1, .int v1), (2, .int v2), (3, .int v3), (4, .int v4), (5, .int v5)] [] false (mz_k S R N b t) := by
  obtain ⟨n, hn⟩ := hp
  exact g_loop (G := fun s => mz_G (d, mz_X0 L xs, some .int, [], mk_343, 6, Q) 6 mt_343_6 [(0, .ref 115), (1, .int v1), (2, .int v2), (3, .int v3), (4, .int s.1), (5, .int s.2)] [] false (mz_k S R N b t)) (C := C0) (fun C2 hc hx s hP hC => cb_343_6 hd hS hR v1 v2 v3 N s hr hc hx hP hC) n (v4, v5) hn hC
theorem cg_343_0 (hd : 2 ≤ d) (hS : mz_extR S 232) (hR : mz_rok R 232)  (v1 : Int32) (v2 : Int32) (v3 : Int32) (N : mz_N) {C0 : (Int32) → Prop} (hr : ∀ (w : Int32), C0 w → Q (.inl (some (.int w))) (mz_k S R N b t)) (hp : cp_343_0 v1 v2 v3 N) (hC : C0 (cf_343_0 v1 v2 v3 N)) : mz_G (d, mz_X0 L xs, some .int, [], mk_343, 6, Q) 0 mk_343 [(0, .ref 115), (1, .int v1), (2, .int v2), (3, .int v3)] [] true (mz_k S R N b t) := by
  unfold cf_343_0 at hC
  unfold cp_343_0 at hp
  refine g_iconst mzi_m1 (g_istore (Nat.le_of_ble_eq_true rfl) rfl (g_iconst mzi_0 (g_istore (Nat.le_of_ble_eq_true rfl) rfl ?_)))
  refine g_weak ?_ (g_cl (cg_343_6 hd hS hR v1 v2 v3 (-1) 0 N hr hp hC))
  exact ⟨rfl, rfl, rfl, rfl, rfl, rfl, trivial⟩
theorem cs_343 (hd : 3 ≤ d) (hS : mz_extR S 232) (hR : mz_rok R 232)  (v1 : Int32) (v2 : Int32) (v3 : Int32) (N : mz_N) (hp : cp_343_0 v1 v2 v3 N) (hq : Q (.inl (some (.int (cf_343_0 v1 v2 v3 N)))) (mz_k S R N b t)) : mz_Ed (mz_X0 L xs) d 343 [.ref 115, .int v1, .int v2, .int v3] (mz_k S R N b t) Q :=
  by
  refine g_in mzq_343 (Nat.le_of_ble_eq_true rfl) (Nat.le_of_ble_eq_true rfl) (Nat.le_trans (Nat.le_of_ble_eq_true rfl) hd) ?_
  refine g_weak ?_ (cg_343_0 (d := d - 1) (by omega) hS hR v1 v2 v3 N (C0 := fun z => Q (.inl (some (.int z))) (mz_k S R N b t)) (fun _ h => h) hp hq)
  exact ⟨rfl, rfl, rfl, rfl, trivial⟩
/-! 341 KeptHouse$Care.measureWays (I)V -/
theorem ms_341_0 : mz_sf mk_341 0 = mk_341 := mz_sf_zero _
theorem ms_341_6 : mz_sf mk_341 6 = mt_341_6 := mz_sf_add ms_341_0 (t := 6) rfl rfl
theorem ms_341_12 : mz_sf mk_341 12 = mt_341_12 := mz_sf_add ms_341_6 (t := 6) rfl rfl
theorem ms_341_55 : mz_sf mk_341 55 = mt_341_55 := mz_sf_add ms_341_12 (t := 43) rfl rfl
theorem ms_341_67 : mz_sf mk_341 67 = mt_341_67 := mz_sf_add ms_341_55 (t := 12) rfl rfl
theorem ms_341_74 : mz_sf mk_341 74 = mt_341_74 := mz_sf_add ms_341_67 (t := 7) rfl rfl
theorem ms_341_80 : mz_sf mk_341 80 = mt_341_80 := mz_sf_add ms_341_74 (t := 6) rfl rfl
set_option maxRecDepth 100000 in
theorem mzq_341 : mz_PG0 341 = some (2, ⟨"KeptHouse$Care", "measureWays", "(I)V"⟩, prog_4_method_14_code, 5, none, [], mk_341, []) := rfl
theorem cg_341_67 (hd : 3 ≤ d) (hS : mz_extR S 232) (hR : mz_rok R 232)  (s0 : Nat) (s1 : Int32) (s2 : Int32) (v1 : Int32) (v2 : Int32) (v3 : Int32) (N : mz_N) (hv0 : S[s0]? = some (0, 6, [])) {C0 : (mz_N) → Prop} (hr : ∀ (N2 : mz_N), C0 N2 → Q (.inl none) (mz_k S R N2 b t)) {C1 : ((Int32 × mz_N) ⊕ (mz_N)) → Prop} (hc1 : ∀ s2, C1 (.inl s2) → mz_G (d, mz_X0 L xs, none, [], mk_341, 5, Q) 6 mt_341_6 [(0, .ref 115), (1, .int v1), (2, .int s2.1)] [] false (mz_k S R s2.2 b t)) (hx1 : ∀ z, C1 (.inr z) → C0 z) {C2 : ((Int32 × mz_N) ⊕ ((Int32 × mz_N) ⊕ (mz_N))) → Prop} (hc2 : ∀ s2, C2 (.inl s2) → mz_G (d, mz_X0 L xs, none, [], mk_341, 5, Q) 12 mt_341_12 [(0, .ref 115), (1, .int v1), (2, .int v2), (3, .int s2.1)] [] false (mz_k S R s2.2 b t)) (hx2 : ∀ z, C2 (.inr z) → C1 z) (hp : cp_341_67 s0 s1 s2 v1 v2 v3 N) (hC : C2 (cf_341_67 s0 s1 s2 v1 v2 v3 N)) : mz_G (d, mz_X0 L xs, none, [], mk_341, 5, Q) 67 mt_341_67 [(0, .ref 115), (1, .int v1), (2, .int v2), (3, .int v3)] [.int s2, .int s1, .ref s0] false (mz_k S R N b t) := by
  unfold cf_341_67 at hC
  unfold cp_341_67 at hp
  have h1 := hp
  refine g_iast hv0 h1 (g_iinc rfl mzi_1 (Nat.le_of_ble_eq_true rfl) rfl (g_goto (tg := 12) rfl ms_341_12 ?_))
  refine g_weak ?_ (g_cl (hc2 ((v3 + 1), mz_wI N s0 s1 s2) hC))
  exact ⟨rfl, rfl, rfl, rfl, trivial⟩
set_option maxRecDepth 20000 in
theorem cb_341_12 (hd : 3 ≤ d) (hS : mz_extR S 232) (hR : mz_rok R 232)  (v1 : Int32) (v2 : Int32) (s : Int32 × mz_N) {C0 : (mz_N) → Prop} (hr : ∀ (N2 : mz_N), C0 N2 → Q (.inl none) (mz_k S R N2 b t)) {C1 : ((Int32 × mz_N) ⊕ (mz_N)) → Prop} (hc1 : ∀ s2, C1 (.inl s2) → mz_G (d, mz_X0 L xs, none, [], mk_341, 5, Q) 6 mt_341_6 [(0, .ref 115), (1, .int v1), (2, .int s2.1)] [] false (mz_k S R s2.2 b t)) (hx1 : ∀ z, C1 (.inr z) → C0 z) {C2 : ((Int32 × mz_N) ⊕ ((Int32 × mz_N) ⊕ (mz_N))) → Prop} (hc2 : ∀ s2, C2 (.inl s2) → mz_G (d, mz_X0 L xs, none, [], mk_341, 5, Q) 12 mt_341_12 [(0, .ref 115), (1, .int v1), (2, .int v2), (3, .int s2.1)] [] false (mz_k S R s2.2 b t)) (hx2 : ∀ z, C2 (.inr z) → C1 z) (hp : cd_341_12 v1 v2 s) (hC : C2 (cq_341_12 v1 v2 s)) : mz_G (d, mz_X0 L xs, none, [], mk_341, 5, Q) 12 mt_341_12 [(0, .ref 115), (1, .int v1), (2, .int v2), (3, .int s.1)] [] false (mz_k S R s.2 b t) := by
  unfold cq_341_12 at hC
  unfold cd_341_12 at hp
  refine g_iload_n rfl (g_iload_n rfl ?_)
  refine g_icge (tg := 74) rfl ms_341_74 hC (fun h1 hC => ?_) (fun h1 hC => ?_)
  · have hp := hp.1 h1
    refine g_aload_n rfl (g_iload_n rfl (g_iload_n rfl (g_aload_n rfl (g_iload_n rfl ?_))))
    obtain ⟨h2, hp⟩ := hp
    refine g_v2v (Nat.le_of_ble_eq_true rfl) (mz_at hS (Nat.le_of_ble_eq_true rfl) mzcS_115) (fun _ hq => cs_342 (Nat.le_trans (Nat.le_of_ble_eq_true rfl) hd) (hS.le (Nat.le_of_ble_eq_true rfl)) (hR.le (Nat.le_of_ble_eq_true rfl))  s.1 s.2 h2 hq) ?_
    obtain ⟨h3, hp⟩ := hp
    refine g_v4v (Nat.le_of_ble_eq_true rfl) (mz_at hS (Nat.le_of_ble_eq_true rfl) mzcS_115) (fun _ hq => cs_343 (Nat.le_trans (Nat.le_of_ble_eq_true rfl) hd) (hS.le (Nat.le_of_ble_eq_true rfl)) (hR.le (Nat.le_of_ble_eq_true rfl))  v1 v2 (cf_342_0 s.1 s.2) s.2 h3 hq) (g_istore (Nat.le_of_ble_eq_true rfl) rfl (g_aload_n rfl (g_getR (mz_at hS (Nat.le_of_ble_eq_true rfl) mzcS_115) mzcf_2_12 (mz_rb hR (Nat.le_of_ble_eq_true rfl) rfl mzcR_115_12) (g_iload_n rfl ?_))))
    obtain ⟨h4, hp⟩ := hp
    refine g_aald4 (mz_at hS (Nat.le_of_ble_eq_true rfl) mzcS_143) h4 (mz_rb hR (Nat.le_of_ble_eq_true rfl) rfl (mzcR2_143 h4)) (g_iload_n rfl (g_iload rfl (g_iconst mzi_m1 ?_)))
    refine g_icne (tg := 55) rfl ms_341_55 hC (fun h5 hC => ?_) (fun h5 hC => ?_)
    · have hp := hp.1 h5
      refine g_aload_n rfl (g_iload_n rfl ?_)
      obtain ⟨h6, hp⟩ := hp
      refine g_v2v (Nat.le_of_ble_eq_true rfl) (mz_at hS (Nat.le_of_ble_eq_true rfl) mzcS_115) (fun _ hq => cs_342 (Nat.le_trans (Nat.le_of_ble_eq_true rfl) hd) (hS.le (Nat.le_of_ble_eq_true rfl)) (hR.le (Nat.le_of_ble_eq_true rfl))  s.1 s.2 h6 hq) (g_iconst mzi_0 ?_)
      refine g_s2v (Nat.le_of_ble_eq_true rfl) (fun _ hq => cs_345 (Nat.le_trans (Nat.le_of_ble_eq_true rfl) hd) (hS.le (Nat.le_of_ble_eq_true rfl)) (hR.le (Nat.le_of_ble_eq_true rfl))  (cf_342_0 s.1 s.2) 0 trivial hq) (g_goto (tg := 67) rfl ms_341_67 ?_)
      refine g_weak ?_ (g_cl (cg_341_67 hd hS hR (144 + v2.toNatClampNeg) s.1 (cf_345_0 (cf_342_0 s.1 s.2) 0) v1 v2 s.1 s.2 (mz_at hS (mzcL2_143 h4 (Nat.le_of_ble_eq_true rfl)) (mzcS2_143 h4)) hr hc1 hx1 hc2 hx2 hp hC))
      exact ⟨rfl, rfl, rfl, rfl, trivial⟩
    · have hp := hp.2 h5
      refine g_aload_n rfl (g_iload_n rfl (g_aload_n rfl (g_iload_n rfl ?_)))
      obtain ⟨h8, hp⟩ := hp
      refine g_v2v (Nat.le_of_ble_eq_true rfl) (mz_at hS (Nat.le_of_ble_eq_true rfl) mzcS_115) (fun _ hq => cs_342 (Nat.le_trans (Nat.le_of_ble_eq_true rfl) hd) (hS.le (Nat.le_of_ble_eq_true rfl)) (hR.le (Nat.le_of_ble_eq_true rfl))  s.1 s.2 h8 hq) (g_iload rfl ?_)
      obtain ⟨h9, hp⟩ := hp
      refine g_v4v (Nat.le_of_ble_eq_true rfl) (mz_at hS (Nat.le_of_ble_eq_true rfl) mzcS_115) (fun _ hq => cs_344 (Nat.le_trans (Nat.le_of_ble_eq_true rfl) hd) (hS.le (Nat.le_of_ble_eq_true rfl)) (hR.le (Nat.le_of_ble_eq_true rfl))  v2 (cf_342_0 s.1 s.2) (cf_343_0 v1 v2 (cf_342_0 s.1 s.2) s.2) s.2 h9 hq) ?_
      refine g_weak ?_ (g_cl (cg_341_67 hd hS hR (144 + v2.toNatClampNeg) s.1 (cf_344_0 v2 (cf_342_0 s.1 s.2) (cf_343_0 v1 v2 (cf_342_0 s.1 s.2) s.2) s.2) v1 v2 s.1 s.2 (mz_at hS (mzcL2_143 h4 (Nat.le_of_ble_eq_true rfl)) (mzcS2_143 h4)) hr hc1 hx1 hc2 hx2 hp hC))
      exact ⟨rfl, rfl, rfl, rfl, trivial⟩
  · have hp := hp.2 h1
    refine g_iinc rfl mzi_m1 (Nat.le_of_ble_eq_true rfl) rfl (g_goto (tg := 6) rfl ms_341_6 ?_)
    have hg := hc1 ((v2 + (-1)), s.2) (hx2 _ hC)
    try dsimp only at hg
    refine g_weak ?_ (g_cl hg)
    exact ⟨rfl, rfl, rfl, trivial⟩
theorem cg_341_12 (hd : 3 ≤ d) (hS : mz_extR S 232) (hR : mz_rok R 232)  (v1 : Int32) (v2 : Int32) (v3 : Int32) (N : mz_N) {C0 : (mz_N) → Prop} (hr : ∀ (N2 : mz_N), C0 N2 → Q (.inl none) (mz_k S R N2 b t)) {C1 : ((Int32 × mz_N) ⊕ (mz_N)) → Prop} (hc1 : ∀ s2, C1 (.inl s2) → mz_G (d, mz_X0 L xs, none, [], mk_341, 5, Q) 6 mt_341_6 [(0, .ref 115), (1, .int v1), (2, .int s2.1)] [] false (mz_k S R s2.2 b t)) (hx1 : ∀ z, C1 (.inr z) → C0 z) (hp : cp_341_12 v1 v2 v3 N) (hC : C1 (cf_341_12 v1 v2 v3 N)) : mz_G (d, mz_X0 L xs, none, [], mk_341, 5, Q) 12 mt_341_12 [(0, .ref 115), (1, .int v1), (2, .int v2), (3, .int v3)] [] false (mz_k S R N b t) := by
  obtain ⟨n, hn⟩ := hp
  exact g_loop (G := fun s => mz_G (d, mz_X0 L xs, none, [], mk_341, 5, Q) 12 mt_341_12 [(0, .ref 115), (1, .int v1), (2, .int v2), (3, .int s.1)] [] false (mz_k S R s.2 b t)) (C := C1) (fun C2 hc hx s hP hC => cb_341_12 hd hS hR v1 v2 s hr hc1 hx1 hc hx hP hC) n (v3, N) hn hC
theorem cb_341_6 (hd : 3 ≤ d) (hS : mz_extR S 232) (hR : mz_rok R 232)  (v1 : Int32) (s : Int32 × mz_N) {C0 : (mz_N) → Prop} (hr : ∀ (N2 : mz_N), C0 N2 → Q (.inl none) (mz_k S R N2 b t)) {C1 : ((Int32 × mz_N) ⊕ (mz_N)) → Prop} (hc1 : ∀ s2, C1 (.inl s2) → mz_G (d, mz_X0 L xs, none, [], mk_341, 5, Q) 6 mt_341_6 [(0, .ref 115), (1, .int v1), (2, .int s2.1)] [] false (mz_k S R s2.2 b t)) (hx1 : ∀ z, C1 (.inr z) → C0 z) (hp : cd_341_6 v1 s) (hC : C1 (cq_341_6 v1 s)) : mz_G (d, mz_X0 L xs, none, [], mk_341, 5, Q) 6 mt_341_6 [(0, .ref 115), (1, .int v1), (2, .int s.1)] [] false (mz_k S R s.2 b t) := by
  unfold cq_341_6 at hC
  unfold cd_341_6 at hp
  refine g_iload_n rfl ?_
  refine g_ifle (tg := 80) rfl ms_341_80 hC (fun h1 hC => ?_) (fun h1 hC => ?_)
  · have hp := hp.1 h1
    refine g_iconst mzi_0 (g_istore_n (Nat.le_of_ble_eq_true rfl) rfl ?_)
    refine g_weak ?_ (g_cl (cg_341_12 hd hS hR v1 s.1 0 s.2 hr hc1 hx1 hp hC))
    exact ⟨rfl, rfl, rfl, rfl, trivial⟩
  · have hp := hp.2 h1
    exact g_vret rfl (hr _ (hx1 _ hC))
theorem cg_341_6 (hd : 3 ≤ d) (hS : mz_extR S 232) (hR : mz_rok R 232)  (v1 : Int32) (v2 : Int32) (N : mz_N) {C0 : (mz_N) → Prop} (hr : ∀ (N2 : mz_N), C0 N2 → Q (.inl none) (mz_k S R N2 b t)) (hp : cp_341_6 v1 v2 N) (hC : C0 (cf_341_6 v1 v2 N)) : mz_G (d, mz_X0 L xs, none, [], mk_341, 5, Q) 6 mt_341_6 [(0, .ref 115), (1, .int v1), (2, .int v2)] [] false (mz_k S R N b t) := by
  obtain ⟨n, hn⟩ := hp
  exact g_loop (G := fun s => mz_G (d, mz_X0 L xs, none, [], mk_341, 5, Q) 6 mt_341_6 [(0, .ref 115), (1, .int v1), (2, .int s.1)] [] false (mz_k S R s.2 b t)) (C := C0) (fun C2 hc hx s hP hC => cb_341_6 hd hS hR v1 s hr hc hx hP hC) n (v2, N) hn hC
theorem cg_341_0 (hd : 3 ≤ d) (hS : mz_extR S 232) (hR : mz_rok R 232)  (v1 : Int32) (N : mz_N) {C0 : (mz_N) → Prop} (hr : ∀ (N2 : mz_N), C0 N2 → Q (.inl none) (mz_k S R N2 b t)) (hp : cp_341_0 v1 N) (hC : C0 (cf_341_0 v1 N)) : mz_G (d, mz_X0 L xs, none, [], mk_341, 5, Q) 0 mk_341 [(0, .ref 115), (1, .int v1)] [] true (mz_k S R N b t) := by
  unfold cf_341_0 at hC
  unfold cp_341_0 at hp
  refine g_iconst mzi_1 (g_iload_n rfl (g_ishl (g_iconst mzi_1 (g_isub (g_istore_n (Nat.le_of_ble_eq_true rfl) rfl ?_)))))
  refine g_weak ?_ (g_cl (cg_341_6 hd hS hR v1 ((mz_ishl 1 v1) - 1) N hr hp hC))
  exact ⟨rfl, rfl, rfl, trivial⟩
theorem cs_341 (hd : 4 ≤ d) (hS : mz_extR S 232) (hR : mz_rok R 232)  (v1 : Int32) (N : mz_N) (hp : cp_341_0 v1 N) (hq : Q (.inl none) (mz_k S R (cf_341_0 v1 N) b t)) : mz_Ed (mz_X0 L xs) d 341 [.ref 115, .int v1] (mz_k S R N b t) Q :=
  by
  refine g_in mzq_341 (Nat.le_of_ble_eq_true rfl) (Nat.le_of_ble_eq_true rfl) (Nat.le_trans (Nat.le_of_ble_eq_true rfl) hd) ?_
  refine g_weak ?_ (cg_341_0 (d := d - 1) (by omega) hS hR v1 N (C0 := fun z => Q (.inl none) (mz_k S R z b t)) (fun _ h => h) hp hq)
  exact ⟨rfl, rfl, trivial⟩
/-! 346 KeptHouse$Care.layTour (III)V -/
theorem ms_346_0 : mz_sf mk_346 0 = mk_346 := mz_sf_zero _
theorem ms_346_12 : mz_sf mk_346 12 = mt_346_12 := mz_sf_add ms_346_0 (t := 12) rfl rfl
theorem ms_346_35 : mz_sf mk_346 35 = mt_346_35 := mz_sf_add ms_346_12 (t := 23) rfl rfl
theorem ms_346_70 : mz_sf mk_346 70 = mt_346_70 := mz_sf_add ms_346_35 (t := 35) rfl rfl
theorem ms_346_90 : mz_sf mk_346 90 = mt_346_90 := mz_sf_add ms_346_70 (t := 20) rfl rfl
theorem ms_346_98 : mz_sf mk_346 98 = mt_346_98 := mz_sf_add ms_346_90 (t := 8) rfl rfl
theorem ms_346_104 : mz_sf mk_346 104 = mt_346_104 := mz_sf_add ms_346_98 (t := 6) rfl rfl
set_option maxRecDepth 100000 in
theorem mzq_346 : mz_PG0 346 = some (2, ⟨"KeptHouse$Care", "layTour", "(III)V"⟩, prog_4_method_17_code, 9, none, [], mk_346, []) := rfl
theorem cg_346_98 (hd : 3 ≤ d) (hS : mz_extR S 232) (hR : mz_rok R 232)  (v1 : Int32) (v2 : Int32) (v4 : Int32) (v5 : Int32) (v6 : Int32) (v7 : Int32) (N : mz_N) {C0 : (mz_N) → Prop} (hr : ∀ (N2 : mz_N), C0 N2 → Q (.inl none) (mz_k S R N2 b t)) {C1 : ((Int32 × Int32 × Int32 × Int32 × mz_N) ⊕ (mz_N)) → Prop} (hc1 : ∀ s2, C1 (.inl s2) → mz_G (d, mz_X0 L xs, none, [], mk_346, 9, Q) 12 mt_346_12 [(0, .ref 115), (1, .int v1), (2, .int v2), (4, .int s2.1), (5, .int s2.2.1), (6, .int s2.2.2.1), (7, .int s2.2.2.2.1)] [] false (mz_k S R s2.2.2.2.2 b t)) (hx1 : ∀ z, C1 (.inr z) → C0 z) (hp : cp_346_98 v1 v2 v4 v5 v6 v7 N) (hC : C1 (cf_346_98 v1 v2 v4 v5 v6 v7 N)) : mz_G (d, mz_X0 L xs, none, [], mk_346, 9, Q) 98 mt_346_98 [(0, .ref 115), (1, .int v1), (2, .int v2), (4, .int v4), (5, .int v5), (6, .int v6), (7, .int v7)] [] false (mz_k S R N b t) := by
  unfold cf_346_98 at hC
  unfold cp_346_98 at hp
  refine g_iinc rfl mzi_1 (Nat.le_of_ble_eq_true rfl) rfl (g_goto (tg := 12) rfl ms_346_12 ?_)
  refine g_weak ?_ (g_cl (hc1 (v4, v5, v6, (v7 + 1), N) hC))
  exact ⟨rfl, rfl, rfl, rfl, rfl, rfl, rfl, trivial⟩
theorem cg_346_70 (hd : 3 ≤ d) (hS : mz_extR S 232) (hR : mz_rok R 232)  (v1 : Int32) (v2 : Int32) (v4 : Int32) (v6 : Int32) (v7 : Int32) (v8 : Int32) (N : mz_N) {C0 : (mz_N) → Prop} (hr : ∀ (N2 : mz_N), C0 N2 → Q (.inl none) (mz_k S R N2 b t)) {C1 : ((Int32 × Int32 × Int32 × Int32 × mz_N) ⊕ (mz_N)) → Prop} (hc1 : ∀ s2, C1 (.inl s2) → mz_G (d, mz_X0 L xs, none, [], mk_346, 9, Q) 12 mt_346_12 [(0, .ref 115), (1, .int v1), (2, .int v2), (4, .int s2.1), (5, .int s2.2.1), (6, .int s2.2.2.1), (7, .int s2.2.2.2.1)] [] false (mz_k S R s2.2.2.2.2 b t)) (hx1 : ∀ z, C1 (.inr z) → C0 z) (hp : cp_346_70 v1 v2 v4 v6 v7 v8 N) (hC : C1 (cf_346_70 v1 v2 v4 v6 v7 v8 N)) : mz_G (d, mz_X0 L xs, none, [], mk_346, 9, Q) 70 mt_346_70 [(0, .ref 115), (1, .int v1), (2, .int v2), (4, .int v4), (6, .int v6), (7, .int v7), (8, .int v8)] [] false (mz_k S R N b t) := by
  unfold cf_346_70 at hC
  unfold cp_346_70 at hp
  refine g_aload_n rfl (g_getR (mz_at hS (Nat.le_of_ble_eq_true rfl) mzcS_115) mzcf_2_9 (mz_rb hR (Nat.le_of_ble_eq_true rfl) rfl mzcR_115_9) (g_iload_n rfl ?_))
  obtain ⟨h1, hp⟩ := hp
  refine g_aald4 (mz_at hS (Nat.le_of_ble_eq_true rfl) mzcS_138) h1 (mz_rb hR (Nat.le_of_ble_eq_true rfl) rfl (mzcR2_138 h1)) (g_iload rfl (g_iload rfl ?_))
  obtain ⟨h2, hp⟩ := hp
  refine g_iast (mz_at hS (mzcL2_138 h1 (Nat.le_of_ble_eq_true rfl)) (mzcS2_138 h1)) h2 (g_iload rfl (g_iconst mzi_1 (g_iload rfl (g_ishl (g_ior (g_istore (Nat.le_of_ble_eq_true rfl) rfl (g_aload_n rfl ?_)))))))
  refine g_iload rfl ?_
  obtain ⟨h3, hp⟩ := hp
  refine g_v2v (Nat.le_of_ble_eq_true rfl) (mz_at hS (Nat.le_of_ble_eq_true rfl) mzcS_115) (fun _ hq => cs_342 (Nat.le_trans (Nat.le_of_ble_eq_true rfl) hd) (hS.le (Nat.le_of_ble_eq_true rfl)) (hR.le (Nat.le_of_ble_eq_true rfl))  v8 (mz_wI N (139 + v1.toNatClampNeg) v7 v6) h3 hq) (g_istore (Nat.le_of_ble_eq_true rfl) rfl ?_)
  refine g_weak ?_ (g_cl (cg_346_98 hd hS hR v1 v2 (v4 ||| (mz_ishl 1 v8)) (cf_342_0 v8 (mz_wI N (139 + v1.toNatClampNeg) v7 v6)) v6 v7 (mz_wI N (139 + v1.toNatClampNeg) v7 v6) hr hc1 hx1 hp hC))
  exact ⟨rfl, rfl, rfl, rfl, rfl, rfl, rfl, trivial⟩
theorem cb_346_12 (hd : 3 ≤ d) (hS : mz_extR S 232) (hR : mz_rok R 232)  (v1 : Int32) (v2 : Int32) (s : Int32 × Int32 × Int32 × Int32 × mz_N) {C0 : (mz_N) → Prop} (hr : ∀ (N2 : mz_N), C0 N2 → Q (.inl none) (mz_k S R N2 b t)) {C1 : ((Int32 × Int32 × Int32 × Int32 × mz_N) ⊕ (mz_N)) → Prop} (hc1 : ∀ s2, C1 (.inl s2) → mz_G (d, mz_X0 L xs, none, [], mk_346, 9, Q) 12 mt_346_12 [(0, .ref 115), (1, .int v1), (2, .int v2), (4, .int s2.1), (5, .int s2.2.1), (6, .int s2.2.2.1), (7, .int s2.2.2.2.1)] [] false (mz_k S R s2.2.2.2.2 b t)) (hx1 : ∀ z, C1 (.inr z) → C0 z) (hp : cd_346_12 v1 v2 s) (hC : C1 (cq_346_12 v1 v2 s)) : mz_G (d, mz_X0 L xs, none, [], mk_346, 9, Q) 12 mt_346_12 [(0, .ref 115), (1, .int v1), (2, .int v2), (4, .int s.1), (5, .int s.2.1), (6, .int s.2.2.1), (7, .int s.2.2.2.1)] [] false (mz_k S R s.2.2.2.2 b t) := by
  unfold cq_346_12 at hC
  unfold cd_346_12 at hp
  refine g_iload rfl (g_iload_n rfl ?_)
  refine g_icge (tg := 104) rfl ms_346_104 hC (fun h1 hC => ?_) (fun h1 hC => ?_)
  · have hp := hp.1 h1
    refine g_aload_n rfl (g_iload_n rfl (g_iload rfl (g_iload rfl ?_)))
    obtain ⟨h2, hp⟩ := hp
    refine g_v4v (Nat.le_of_ble_eq_true rfl) (mz_at hS (Nat.le_of_ble_eq_true rfl) mzcS_115) (fun _ hq => cs_343 (Nat.le_trans (Nat.le_of_ble_eq_true rfl) hd) (hS.le (Nat.le_of_ble_eq_true rfl)) (hR.le (Nat.le_of_ble_eq_true rfl))  v2 s.1 s.2.1 s.2.2.2.2 h2 hq) (g_istore (Nat.le_of_ble_eq_true rfl) rfl (g_iload rfl (g_iconst mzi_m1 ?_)))
    refine g_iceq (tg := 98) rfl ms_346_98 hC (fun h3 hC => ?_) (fun h3 hC => ?_)
    · have hp := hp.1 h3
      refine g_weak ?_ (g_cl (cg_346_98 hd hS hR v1 v2 s.1 s.2.1 s.2.2.1 s.2.2.2.1 s.2.2.2.2 hr hc1 hx1 hp hC))
      exact ⟨rfl, rfl, rfl, rfl, rfl, rfl, rfl, trivial⟩
    · have hp := hp.2 h3
      refine g_iload rfl (g_iload rfl (g_aload_n rfl (g_iload rfl ?_)))
      obtain ⟨h4, hp⟩ := hp
      refine g_v2v (Nat.le_of_ble_eq_true rfl) (mz_at hS (Nat.le_of_ble_eq_true rfl) mzcS_115) (fun _ hq => cs_342 (Nat.le_trans (Nat.le_of_ble_eq_true rfl) hd) (hS.le (Nat.le_of_ble_eq_true rfl)) (hR.le (Nat.le_of_ble_eq_true rfl))  (cf_343_0 v2 s.1 s.2.1 s.2.2.2.2) s.2.2.2.2 h4 hq) ?_
      refine g_s2v (Nat.le_of_ble_eq_true rfl) (fun _ hq => cs_345 (Nat.le_trans (Nat.le_of_ble_eq_true rfl) hd) (hS.le (Nat.le_of_ble_eq_true rfl)) (hR.le (Nat.le_of_ble_eq_true rfl))  s.2.1 (cf_342_0 (cf_343_0 v2 s.1 s.2.1 s.2.2.2.2) s.2.2.2.2) trivial hq) (g_bipush mzb_15 (g_iadd (g_iadd (g_istore (Nat.le_of_ble_eq_true rfl) rfl (g_aload_n rfl (g_getR (mz_at hS (Nat.le_of_ble_eq_true rfl) mzcS_115) mzcf_2_8 (mz_rb hR (Nat.le_of_ble_eq_true rfl) rfl mzcR_115_8) (g_iload_n rfl ?_)))))))
      obtain ⟨h6, hp⟩ := hp
      refine g_aald4 (mz_at hS (Nat.le_of_ble_eq_true rfl) mzcS_135) h6 (mz_rb hR (Nat.le_of_ble_eq_true rfl) rfl (mzcR2_135 h6)) (g_iload rfl (g_aload_n rfl (g_getR (mz_at hS (Nat.le_of_ble_eq_true rfl) mzcS_115) mzcf_2_11 (mz_rb hR (Nat.le_of_ble_eq_true rfl) rfl mzcR_115_11) (g_iload rfl ?_))))
      obtain ⟨h7, hp⟩ := hp
      refine g_iald hS.1 (mz_at hS (Nat.le_of_ble_eq_true rfl) mzcS_142) h7 ?_
      obtain ⟨h8, hp⟩ := hp
      refine g_iast (mz_at hS (mzcL2_135 h6 (Nat.le_of_ble_eq_true rfl)) (mzcS2_135 h6)) h8 ?_
      refine g_weak ?_ (g_cl (cg_346_70 hd hS hR v1 v2 s.1 (s.2.2.1 + ((cf_345_0 s.2.1 (cf_342_0 (cf_343_0 v2 s.1 s.2.1 s.2.2.2.2) s.2.2.2.2)) + 15)) s.2.2.2.1 (cf_343_0 v2 s.1 s.2.1 s.2.2.2.2) (mz_wI s.2.2.2.2 (136 + v1.toNatClampNeg) s.2.2.2.1 (mz_gI s.2.2.2.2 142 (cf_343_0 v2 s.1 s.2.1 s.2.2.2.2))) hr hc1 hx1 hp hC))
      exact ⟨rfl, rfl, rfl, rfl, rfl, rfl, rfl, trivial⟩
  · have hp := hp.2 h1
    refine g_aload_n rfl (g_getR (mz_at hS (Nat.le_of_ble_eq_true rfl) mzcS_115) mzcf_2_10 (mz_rb hR (Nat.le_of_ble_eq_true rfl) rfl mzcR_115_10) (g_iload_n rfl (g_iload rfl (g_iload rfl (g_iconst mzi_0 ?_)))))
    refine g_s2v (Nat.le_of_ble_eq_true rfl) (fun _ hq => cs_345 (Nat.le_trans (Nat.le_of_ble_eq_true rfl) hd) (hS.le (Nat.le_of_ble_eq_true rfl)) (hR.le (Nat.le_of_ble_eq_true rfl))  s.2.1 0 trivial hq) (g_iadd ?_)
    have h10 := hp
    refine g_iast (mz_at hS (Nat.le_of_ble_eq_true rfl) mzcS_141) h10 ?_
    exact g_vret rfl (hr _ (hx1 _ hC))
theorem cg_346_12 (hd : 3 ≤ d) (hS : mz_extR S 232) (hR : mz_rok R 232)  (v1 : Int32) (v2 : Int32) (v4 : Int32) (v5 : Int32) (v6 : Int32) (v7 : Int32) (N : mz_N) {C0 : (mz_N) → Prop} (hr : ∀ (N2 : mz_N), C0 N2 → Q (.inl none) (mz_k S R N2 b t)) (hp : cp_346_12 v1 v2 v4 v5 v6 v7 N) (hC : C0 (cf_346_12 v1 v2 v4 v5 v6 v7 N)) : mz_G (d, mz_X0 L xs, none, [], mk_346, 9, Q) 12 mt_346_12 [(0, .ref 115), (1, .int v1), (2, .int v2), (4, .int v4), (5, .int v5), (6, .int v6), (7, .int v7)] [] false (mz_k S R N b t) := by
  obtain ⟨n, hn⟩ := hp
  exact g_loop (G := fun s => mz_G (d, mz_X0 L xs, none, [], mk_346, 9, Q) 12 mt_346_12 [(0, .ref 115), (1, .int v1), (2, .int v2), (4, .int s.1), (5, .int s.2.1), (6, .int s.2.2.1), (7, .int s.2.2.2.1)] [] false (mz_k S R s.2.2.2.2 b t)) (C := C0) (fun C2 hc hx s hP hC => cb_346_12 hd hS hR v1 v2 s hr hc hx hP hC) n (v4, v5, v6, v7, N) hn hC
theorem cg_346_0 (hd : 3 ≤ d) (hS : mz_extR S 232) (hR : mz_rok R 232)  (v1 : Int32) (v2 : Int32) (v3 : Int32) (N : mz_N) {C0 : (mz_N) → Prop} (hr : ∀ (N2 : mz_N), C0 N2 → Q (.inl none) (mz_k S R N2 b t)) (hp : cp_346_0 v1 v2 v3 N) (hC : C0 (cf_346_0 v1 v2 v3 N)) : mz_G (d, mz_X0 L xs, none, [], mk_346, 9, Q) 0 mk_346 [(0, .ref 115), (1, .int v1), (2, .int v2), (3, .int v3)] [] true (mz_k S R N b t) := by
  unfold cf_346_0 at hC
  unfold cp_346_0 at hp
  refine g_iconst mzi_0 (g_istore (Nat.le_of_ble_eq_true rfl) rfl (g_iconst mzi_0 (g_istore (Nat.le_of_ble_eq_true rfl) rfl (g_iload_n rfl (g_istore (Nat.le_of_ble_eq_true rfl) rfl (g_iconst mzi_0 (g_istore (Nat.le_of_ble_eq_true rfl) rfl ?_)))))))
  refine g_weak ?_ (g_cl (cg_346_12 hd hS hR v1 v2 0 0 v3 0 N hr hp hC))
  exact ⟨rfl, rfl, rfl, rfl, rfl, rfl, rfl, trivial⟩
theorem cs_346 (hd : 4 ≤ d) (hS : mz_extR S 232) (hR : mz_rok R 232)  (v1 : Int32) (v2 : Int32) (v3 : Int32) (N : mz_N) (hp : cp_346_0 v1 v2 v3 N) (hq : Q (.inl none) (mz_k S R (cf_346_0 v1 v2 v3 N) b t)) : mz_Ed (mz_X0 L xs) d 346 [.ref 115, .int v1, .int v2, .int v3] (mz_k S R N b t) Q :=
  by
  refine g_in mzq_346 (Nat.le_of_ble_eq_true rfl) (Nat.le_of_ble_eq_true rfl) (Nat.le_trans (Nat.le_of_ble_eq_true rfl) hd) ?_
  refine g_weak ?_ (cg_346_0 (d := d - 1) (by omega) hS hR v1 v2 v3 N (C0 := fun z => Q (.inl none) (mz_k S R z b t)) (fun _ h => h) hp hq)
  exact ⟨rfl, rfl, rfl, rfl, trivial⟩
/-! 338 KeptHouse$Care.sendOut (II)I -/
theorem ms_338_0 : mz_sf mk_338 0 = mk_338 := mz_sf_zero _
theorem ms_338_12 : mz_sf mk_338 12 = mt_338_12 := mz_sf_add ms_338_0 (t := 12) rfl rfl
theorem ms_338_31 : mz_sf mk_338 31 = mt_338_31 := mz_sf_add ms_338_12 (t := 19) rfl rfl
set_option maxRecDepth 100000 in
theorem mzq_338 : mz_PG0 338 = some (2, ⟨"KeptHouse$Care", "sendOut", "(II)I"⟩, prog_4_method_9_code, 4, some .int, [], mk_338, []) := rfl
theorem cg_338_31 (hd : 4 ≤ d) (hS : mz_extR S 232) (hR : mz_rok R 232)  (v1 : Int32) (v2 : Int32) (v3 : Int32) (N : mz_N) {C0 : (Int32 × mz_N) → Prop} (hr : ∀ (w : Int32) (N2 : mz_N), C0 (w, N2) → Q (.inl (some (.int w))) (mz_k S R N2 b t)) (hp : cp_338_31 v1 v2 v3 N) (hC : C0 (cf_338_31 v1 v2 v3 N)) : mz_G (d, mz_X0 L xs, some .int, [], mk_338, 4, Q) 31 mt_338_31 [(0, .ref 115), (1, .int v1), (2, .int v2), (3, .int v3)] [] false (mz_k S R N b t) := by
  unfold cf_338_31 at hC
  unfold cp_338_31 at hp
  refine g_aload_n rfl (g_iload_n rfl (g_iload_n rfl (g_iload_n rfl ?_)))
  have h1 := hp
  refine g_v4n (Nat.le_of_ble_eq_true rfl) (mz_at hS (Nat.le_of_ble_eq_true rfl) mzcS_115) (fun _ hq => cs_346 (Nat.le_trans (Nat.le_of_ble_eq_true rfl) hd) (hS.le (Nat.le_of_ble_eq_true rfl)) (hR.le (Nat.le_of_ble_eq_true rfl))  v1 v3 v2 N h1 hq) (g_iload_n rfl ?_)
  exact g_iret rfl (hr _ _ hC)
theorem cg_338_0 (hd : 4 ≤ d) (hS : mz_extR S 232) (hR : mz_rok R 232)  (v1 : Int32) (v2 : Int32) (N : mz_N) {C0 : (Int32 × mz_N) → Prop} (hr : ∀ (w : Int32) (N2 : mz_N), C0 (w, N2) → Q (.inl (some (.int w))) (mz_k S R N2 b t)) (hp : cp_338_0 v1 v2 N) (hC : C0 (cf_338_0 v1 v2 N)) : mz_G (d, mz_X0 L xs, some .int, [], mk_338, 4, Q) 0 mk_338 [(0, .ref 115), (1, .int v1), (2, .int v2)] [] true (mz_k S R N b t) := by
  unfold cf_338_0 at hC
  unfold cp_338_0 at hp
  refine g_aload_n rfl (g_iload_n rfl ?_)
  obtain ⟨h1, hp⟩ := hp
  refine g_v2v (Nat.le_of_ble_eq_true rfl) (mz_at hS (Nat.le_of_ble_eq_true rfl) mzcS_115) (fun _ hq => cs_339 (Nat.le_trans (Nat.le_of_ble_eq_true rfl) hd) (hS.le (Nat.le_of_ble_eq_true rfl)) (hR.le (Nat.le_of_ble_eq_true rfl))  v1 N h1 hq) (g_istore_n (Nat.le_of_ble_eq_true rfl) rfl (g_iload_n rfl ?_))
  refine g_ifne (tg := 12) rfl ms_338_12 hC (fun h2 hC => ?_) (fun h2 hC => ?_)
  · have hp := hp.1 h2
    refine g_iconst mzi_0 ?_
    exact g_iret rfl (hr _ _ hC)
  · have hp := hp.2 h2
    refine g_aload_n rfl (g_iload_n rfl ?_)
    obtain ⟨h3, hp⟩ := hp
    refine g_v2n (Nat.le_of_ble_eq_true rfl) (mz_at hS (Nat.le_of_ble_eq_true rfl) mzcS_115) (fun _ hq => cs_341 (Nat.le_trans (Nat.le_of_ble_eq_true rfl) hd) (hS.le (Nat.le_of_ble_eq_true rfl)) (hR.le (Nat.le_of_ble_eq_true rfl))  ((cf_339_0 v1 N).1) ((cf_339_0 v1 N).2) h3 hq) (g_aload_n rfl (g_getR (mz_at hS (Nat.le_of_ble_eq_true rfl) mzcS_115) mzcf_2_6 (mz_rb hR (Nat.le_of_ble_eq_true rfl) rfl mzcR_115_6) (g_iload_n rfl (g_iload_n rfl ?_))))
    obtain ⟨h4, hp⟩ := hp
    refine g_iast (mz_at hS (Nat.le_of_ble_eq_true rfl) mzcS_133) h4 (g_aload_n rfl (g_getR (mz_at hS (Nat.le_of_ble_eq_true rfl) mzcS_115) mzcf_2_7 (mz_rb hR (Nat.le_of_ble_eq_true rfl) rfl mzcR_115_7) (g_iload_n rfl (g_iconst mzi_0 ?_))))
    obtain ⟨h5, hp⟩ := hp
    refine g_iast (mz_at hS (Nat.le_of_ble_eq_true rfl) mzcS_134) h5 ?_
    refine g_weak ?_ (g_cl (cg_338_31 hd hS hR v1 v2 ((cf_339_0 v1 N).1) (mz_wI (mz_wI (cf_341_0 ((cf_339_0 v1 N).1) ((cf_339_0 v1 N).2)) 133 v1 ((cf_339_0 v1 N).1)) 134 v1 0) hr hp hC))
    exact ⟨rfl, rfl, rfl, rfl, trivial⟩
theorem cs_338 (hd : 5 ≤ d) (hS : mz_extR S 232) (hR : mz_rok R 232)  (v1 : Int32) (v2 : Int32) (N : mz_N) (hp : cp_338_0 v1 v2 N) (hq : Q (.inl (some (.int ((cf_338_0 v1 v2 N).1)))) (mz_k S R ((cf_338_0 v1 v2 N).2) b t)) : mz_Ed (mz_X0 L xs) d 338 [.ref 115, .int v1, .int v2] (mz_k S R N b t) Q :=
  by
  refine g_in mzq_338 (Nat.le_of_ble_eq_true rfl) (Nat.le_of_ble_eq_true rfl) (Nat.le_trans (Nat.le_of_ble_eq_true rfl) hd) ?_
  refine g_weak ?_ (cg_338_0 (d := d - 1) (by omega) hS hR v1 v2 N (C0 := fun z => Q (.inl (some (.int z.1))) (mz_k S R z.2 b t)) (fun _ _ h => h) hp hq)
  exact ⟨rfl, rfl, rfl, trivial⟩
end Fn16
